section
variable {l : Launch} {B : Nat} {D : va_G} {ca : Nat → ClassId} {μ : sh_Mem}
def F_X10_lookAround : Nat → Nat → Nat → Int32 → Int32 → sh_Mem → Option sh_Mem
  | 0, _, _, _, _, _ => none
  | fuel + 1, lbl, r1, i2, i3, μ => match lbl with
    | 1 => (if (sh_r μ 55 0 = some (sh_ref μ 55 0) ∧ ((sh_ref μ 55 0) = 8 ∨ (sh_ref μ 55 0) = 29)) then sh_let (sh_ref μ 55 0) (fun r27 => (if (f_X5_cells μ r27) ≤ i3 then some μ else (if (f_X10_isElsewhere μ i3) = 0 then F_X10_lookAround fuel 1 r1 i2 (i3 + 1) μ else (if sh_in i3 49 then (if (sh_i μ (r1 + 1) i3.toNatClampNeg) ≤ (sh_i μ 55 7) then F_X10_lookAround fuel 1 r1 i2 (i3 + 1) μ else (if sh_in i3 49 then sh_let (sh_setI μ 55 7 (sh_i μ (r1 + 1) i3.toNatClampNeg)) (fun μ33 => F_X10_lookAround fuel 1 r1 i2 (i3 + 1) μ33) else none)) else none)))) else none)
    | _ => none
def f_X10_lookAround (q1 : Nat) (a2 : Int32) (μ : sh_Mem) : Option sh_Mem := (if (sh_r μ 55 0 = some (sh_ref μ 55 0) ∧ ((sh_ref μ 55 0) = 8 ∨ (sh_ref μ 55 0) = 29)) then sh_let (sh_ref μ 55 0) (fun r35 => (if sh_in a2 7 then (if sh_in a2 7 then sh_let (sh_setI μ 55 4 (f_X5_cellAt μ r35 (sh_i μ (q1 + 2) a2.toNatClampNeg) (sh_i μ (q1 + 3) a2.toNatClampNeg))) (fun μ38 => (if (sh_r μ38 55 0 = some (sh_ref μ38 55 0) ∧ ((sh_ref μ38 55 0) = 8 ∨ (sh_ref μ38 55 0) = 29)) then sh_let (sh_ref μ38 55 0) (fun r40 => (if sh_in a2 7 then (if sh_in a2 7 then sh_let (sh_setI μ38 55 5 (f_X5_cellAt μ38 r40 ((sh_i μ38 (q1 + 2) a2.toNatClampNeg) - 1) (sh_i μ38 (q1 + 3) a2.toNatClampNeg))) (fun μ43 => (if (sh_r μ43 55 0 = some (sh_ref μ43 55 0) ∧ ((sh_ref μ43 55 0) = 8 ∨ (sh_ref μ43 55 0) = 29)) then sh_let (sh_ref μ43 55 0) (fun r45 => (if sh_in a2 7 then (if sh_in a2 7 then sh_let (sh_setI μ43 55 6 (f_X5_cellAt μ43 r45 ((sh_i μ43 (q1 + 2) a2.toNatClampNeg) + 1) (sh_i μ43 (q1 + 3) a2.toNatClampNeg))) (fun μ48 => sh_let (sh_setI μ48 55 7 0) (fun μ49 => sh_let (sh_setI μ49 55 8 0) (fun μ50 => F_X10_lookAround 1000000 1 q1 a2 0 μ50))) else none) else none)) else none)) else none) else none)) else none)) else none) else none)) else none)
theorem gpl_X10_lookAround (fuel : Nat) : (∀ ⦃r1 : Nat⦄ ⦃i2 : Int32⦄ ⦃i3 : Int32⦄ ⦃μ μ' : sh_Mem⦄, sh_G μ → sh_isL r1 → F_X10_lookAround fuel 1 r1 i2 i3 μ = some μ' → sh_G μ') := by
  induction fuel with
  | zero => intro r1 i2 i3 μ μ' hG hr1 h; cases h
  | succ fuel ih =>
    have ih_85 := ih
    intro r1 i2 i3 μ μ' hG hr1 h
    replace h : ((if (sh_r μ 55 0 = some (sh_ref μ 55 0) ∧ ((sh_ref μ 55 0) = 8 ∨ (sh_ref μ 55 0) = 29)) then sh_let (sh_ref μ 55 0) (fun r27 => (if (f_X5_cells μ r27) ≤ i3 then some μ else (if (f_X10_isElsewhere μ i3) = 0 then F_X10_lookAround fuel 1 r1 i2 (i3 + 1) μ else (if sh_in i3 49 then (if (sh_i μ (r1 + 1) i3.toNatClampNeg) ≤ (sh_i μ 55 7) then F_X10_lookAround fuel 1 r1 i2 (i3 + 1) μ else (if sh_in i3 49 then sh_let (sh_setI μ 55 7 (sh_i μ (r1 + 1) i3.toNatClampNeg)) (fun μ33 => F_X10_lookAround fuel 1 r1 i2 (i3 + 1) μ33) else none)) else none)))) else none) : Option sh_Mem) = some μ' := h
    obtain ⟨k26, h⟩ := sh_chk h
    obtain ⟨r27, er27⟩ : ∃ y : Nat, y = (sh_ref μ 55 0) := ⟨_, rfl⟩
    rw [sh_let_eq er27] at h
    have k26r : sh_r μ 55 0 = some r27 ∧ (r27 = 8 ∨ r27 = 29) := by rw [er27]; exact k26
    by_cases c28 : (f_X5_cells μ r27) ≤ i3
    · rw [if_pos c28] at h
      have e2 := Option.some.inj h
      exact e2 ▸ hG
    · rw [if_neg c28] at h
      by_cases c29 : (f_X10_isElsewhere μ i3) = 0
      · rw [if_pos c29] at h
        exact ih_85 hG hr1 h
      · rw [if_neg c29] at h
        obtain ⟨k30, h⟩ := sh_chk h
        by_cases c31 : (sh_i μ (r1 + 1) i3.toNatClampNeg) ≤ (sh_i μ 55 7)
        · rw [if_pos c31] at h
          exact ih_85 hG hr1 h
        · rw [if_neg c31] at h
          obtain ⟨k32, h⟩ := sh_chk h
          obtain ⟨μ33, eμ33⟩ : ∃ y : sh_Mem, y = (sh_setI μ 55 7 (sh_i μ (r1 + 1) i3.toNatClampNeg)) := ⟨_, rfl⟩
          rw [sh_let_eq eμ33] at h
          have hG33 : sh_G μ33 := by rw [eμ33]; exact hG
          exact ih_85 hG33 hr1 h
theorem tl_X10_lookAround (fuel : Nat) : (∀ ⦃r1 : Nat⦄ ⦃i2 : Int32⦄ ⦃i3 : Int32⦄ ⦃μ μ' : sh_Mem⦄, sh_G μ → sh_isL r1 → F_X10_lookAround fuel 1 r1 i2 i3 μ = some μ' → sh_V0 l B D ca 2 M_X10_lookAround 85 [(0, .ref 55), (1, .ref r1), (2, .int i2), (3, .int i3)] [] μ (fun v0 μ0 => v0 = none ∧ μ0 = μ')) := by
  induction fuel with
  | zero => intro r1 i2 i3 μ μ' hG hr1 h; cases h
  | succ fuel ih =>
    have ih_85 := ih
    intro r1 i2 i3 μ μ' hG hr1 h
    replace h : ((if (sh_r μ 55 0 = some (sh_ref μ 55 0) ∧ ((sh_ref μ 55 0) = 8 ∨ (sh_ref μ 55 0) = 29)) then sh_let (sh_ref μ 55 0) (fun r27 => (if (f_X5_cells μ r27) ≤ i3 then some μ else (if (f_X10_isElsewhere μ i3) = 0 then F_X10_lookAround fuel 1 r1 i2 (i3 + 1) μ else (if sh_in i3 49 then (if (sh_i μ (r1 + 1) i3.toNatClampNeg) ≤ (sh_i μ 55 7) then F_X10_lookAround fuel 1 r1 i2 (i3 + 1) μ else (if sh_in i3 49 then sh_let (sh_setI μ 55 7 (sh_i μ (r1 + 1) i3.toNatClampNeg)) (fun μ33 => F_X10_lookAround fuel 1 r1 i2 (i3 + 1) μ33) else none)) else none)))) else none) : Option sh_Mem) = some μ' := h
    refine vv_iload_n 85 3 dX10_lookAround_85 rfl rfl ?_
    refine vv_aload_n 86 0 dX10_lookAround_86 rfl rfl ?_
    obtain ⟨k26, h⟩ := sh_chk h
    refine vv_getR 87 dX10_lookAround_87 fl_10_22 rfl (g_l_55 hG) k26.1 ?_
    refine vv_topr (fun r27 er27 => ?_)
    rw [sh_let_eq er27] at h
    have k26r : sh_r μ 55 0 = some r27 ∧ (r27 = 8 ∨ r27 = 29) := by rw [er27]; exact k26
    refine v1_callV [] 90 dX10_lookAround_90 ck_X10_117 (gP_l hG k26r.2) ⟨by decide, rfl⟩ (c_X5_cells (μ := μ) hG k26r.2) (Nat.le_of_ble_eq_true rfl) ⟨Nat.le_of_ble_eq_true rfl, Nat.le_of_ble_eq_true rfl⟩ rfl (Nat.le_of_ble_eq_true rfl) ?_
    refine vv_icmp_ge 93 133 dX10_lookAround_93 (by decide) (fun c28 => ?_) (fun c28 => ?_)
    · rw [if_pos c28] at h
      have e2 := Option.some.inj h
      refine vv_vret 133 dX10_lookAround_133 rfl (Nat.le_refl _) (Nat.le_refl _) ⟨rfl, e2⟩
    · rw [if_neg c28] at h
      refine vv_aload_n 96 0 dX10_lookAround_96 rfl rfl ?_
      refine vv_iload_n 97 3 dX10_lookAround_97 rfl rfl ?_
      refine v1_callV [_] 98 dX10_lookAround_98 ck_X10_121 (g_l_55 hG) ⟨by decide, rfl⟩ (c_X10_isElsewhere (μ := μ) hG) (Nat.le_of_ble_eq_true rfl) ⟨Nat.le_of_ble_eq_true rfl, Nat.le_of_ble_eq_true rfl⟩ rfl (Nat.le_of_ble_eq_true rfl) ?_
      refine vv_if_eq 101 127 dX10_lookAround_101 (by decide) (fun c29 => ?_) (fun c29 => ?_)
      · rw [if_pos c29] at h
        refine vv_iincc (lv' := [(3, _), (0, _), (1, _), (2, _)]) 127 3 dX10_lookAround_127 rfl ik_1 (by decide) rfl ?_
        refine vv_goto 130 85 dX10_lookAround_130 (by decide) ?_
        refine vv_sub [(0, _), (1, _), (2, _), (3, _)] (sh_subm [1, 2, 3, 0] rfl) ?_
        exact ih_85 hG hr1 h
      · rw [if_neg c29] at h
        refine vv_aload_n 104 1 dX10_lookAround_104 rfl rfl ?_
        refine vv_getR 105 dX10_lookAround_105 fl_10_41 rfl (gL_l hG hr1) (gL_r1 hG hr1) ?_
        refine vv_iload_n 108 3 dX10_lookAround_108 rfl rfl ?_
        obtain ⟨k30, h⟩ := sh_chk h
        refine vv_iald 109 dX10_lookAround_109 (gA_l hG (gLA1 hr1)) k30 ?_
        refine vv_aload_n 110 0 dX10_lookAround_110 rfl rfl ?_
        refine vv_getI 111 dX10_lookAround_111 fl_10_111 rfl (g_l_55 hG) ?_
        refine vv_icmp_le 114 127 dX10_lookAround_114 (by decide) (fun c31 => ?_) (fun c31 => ?_)
        · rw [if_pos c31] at h
          refine vv_iincc (lv' := [(3, _), (0, _), (1, _), (2, _)]) 127 3 dX10_lookAround_127 rfl ik_1 (by decide) rfl ?_
          refine vv_goto 130 85 dX10_lookAround_130 (by decide) ?_
          refine vv_sub [(0, _), (1, _), (2, _), (3, _)] (sh_subm [1, 2, 3, 0] rfl) ?_
          exact ih_85 hG hr1 h
        · rw [if_neg c31] at h
          refine vv_aload_n 117 0 dX10_lookAround_117 rfl rfl ?_
          refine vv_aload_n 118 1 dX10_lookAround_118 rfl rfl ?_
          refine vv_getR 119 dX10_lookAround_119 fl_10_41 rfl (gL_l hG hr1) (gL_r1 hG hr1) ?_
          refine vv_iload_n 122 3 dX10_lookAround_122 rfl rfl ?_
          obtain ⟨k32, h⟩ := sh_chk h
          refine vv_iald 123 dX10_lookAround_123 (gA_l hG (gLA1 hr1)) k32 ?_
          refine vn_putI 124 dX10_lookAround_124 fl_10_111 (Or.inl rfl) rfl (g_l_55 hG) (fun μ33 eμ33 => ?_)
          rw [sh_let_eq eμ33] at h
          have hG33 : sh_G μ33 := by rw [eμ33]; exact hG
          refine vv_iincc (lv' := [(3, _), (0, _), (1, _), (2, _)]) 127 3 dX10_lookAround_127 rfl ik_1 (by decide) rfl ?_
          refine vv_goto 130 85 dX10_lookAround_130 (by decide) ?_
          refine vv_sub [(0, _), (1, _), (2, _), (3, _)] (sh_subm [1, 2, 3, 0] rfl) ?_
          exact ih_85 hG33 hr1 h
theorem gp_X10_lookAround {q1 : Nat} {a2 : Int32} {μ μ' : sh_Mem} (hG : sh_G μ) (hq1 : sh_isL q1) (h : f_X10_lookAround q1 a2 μ = some μ') : sh_G μ' := by
  have ih_85 := (gpl_X10_lookAround 1000000)
  unfold f_X10_lookAround at h
  obtain ⟨k34, h⟩ := sh_chk h
  obtain ⟨r35, er35⟩ : ∃ y : Nat, y = (sh_ref μ 55 0) := ⟨_, rfl⟩
  rw [sh_let_eq er35] at h
  have k34r : sh_r μ 55 0 = some r35 ∧ (r35 = 8 ∨ r35 = 29) := by rw [er35]; exact k34
  obtain ⟨k36, h⟩ := sh_chk h
  obtain ⟨k37, h⟩ := sh_chk h
  obtain ⟨μ38, eμ38⟩ : ∃ y : sh_Mem, y = (sh_setI μ 55 4 (f_X5_cellAt μ r35 (sh_i μ (q1 + 2) a2.toNatClampNeg) (sh_i μ (q1 + 3) a2.toNatClampNeg))) := ⟨_, rfl⟩
  rw [sh_let_eq eμ38] at h
  have hG38 : sh_G μ38 := by rw [eμ38]; exact hG
  obtain ⟨k39, h⟩ := sh_chk h
  obtain ⟨r40, er40⟩ : ∃ y : Nat, y = (sh_ref μ38 55 0) := ⟨_, rfl⟩
  rw [sh_let_eq er40] at h
  have k39r : sh_r μ38 55 0 = some r40 ∧ (r40 = 8 ∨ r40 = 29) := by rw [er40]; exact k39
  obtain ⟨k41, h⟩ := sh_chk h
  obtain ⟨k42, h⟩ := sh_chk h
  obtain ⟨μ43, eμ43⟩ : ∃ y : sh_Mem, y = (sh_setI μ38 55 5 (f_X5_cellAt μ38 r40 ((sh_i μ38 (q1 + 2) a2.toNatClampNeg) - 1) (sh_i μ38 (q1 + 3) a2.toNatClampNeg))) := ⟨_, rfl⟩
  rw [sh_let_eq eμ43] at h
  have hG43 : sh_G μ43 := by rw [eμ43]; exact hG38
  obtain ⟨k44, h⟩ := sh_chk h
  obtain ⟨r45, er45⟩ : ∃ y : Nat, y = (sh_ref μ43 55 0) := ⟨_, rfl⟩
  rw [sh_let_eq er45] at h
  have k44r : sh_r μ43 55 0 = some r45 ∧ (r45 = 8 ∨ r45 = 29) := by rw [er45]; exact k44
  obtain ⟨k46, h⟩ := sh_chk h
  obtain ⟨k47, h⟩ := sh_chk h
  obtain ⟨μ48, eμ48⟩ : ∃ y : sh_Mem, y = (sh_setI μ43 55 6 (f_X5_cellAt μ43 r45 ((sh_i μ43 (q1 + 2) a2.toNatClampNeg) + 1) (sh_i μ43 (q1 + 3) a2.toNatClampNeg))) := ⟨_, rfl⟩
  rw [sh_let_eq eμ48] at h
  have hG48 : sh_G μ48 := by rw [eμ48]; exact hG43
  obtain ⟨μ49, eμ49⟩ : ∃ y : sh_Mem, y = (sh_setI μ48 55 7 0) := ⟨_, rfl⟩
  rw [sh_let_eq eμ49] at h
  have hG49 : sh_G μ49 := by rw [eμ49]; exact hG48
  obtain ⟨μ50, eμ50⟩ : ∃ y : sh_Mem, y = (sh_setI μ49 55 8 0) := ⟨_, rfl⟩
  rw [sh_let_eq eμ50] at h
  have hG50 : sh_G μ50 := by rw [eμ50]; exact hG49
  exact ih_85 hG50 hq1 h
theorem t_X10_lookAround {q1 : Nat} {a2 : Int32} {μ μ' : sh_Mem} (hG : sh_G μ) (hq1 : sh_isL q1) (h : f_X10_lookAround q1 a2 μ = some μ') : sh_C0 l B D ca 2 M_X10_lookAround [.ref 55, .ref q1, .int a2] μ (fun v0 μ0 => v0 = none ∧ μ0 = μ') := by
  have ih_85 := (tl_X10_lookAround (l := l) (B := B) (D := D) (ca := ca) 1000000)
  unfold f_X10_lookAround at h
  refine vv_aload_n 0 0 dX10_lookAround_0 rfl rfl ?_
  refine vv_aload_n 1 0 dX10_lookAround_1 rfl rfl ?_
  obtain ⟨k34, h⟩ := sh_chk h
  refine vv_getR 2 dX10_lookAround_2 fl_10_22 rfl (g_l_55 hG) k34.1 ?_
  refine vv_topr (fun r35 er35 => ?_)
  rw [sh_let_eq er35] at h
  have k34r : sh_r μ 55 0 = some r35 ∧ (r35 = 8 ∨ r35 = 29) := by rw [er35]; exact k34
  refine vv_aload_n 5 1 dX10_lookAround_5 rfl rfl ?_
  refine vv_getR 6 dX10_lookAround_6 fl_10_26 rfl (gL_l hG hq1) (gL_r2 hG hq1) ?_
  refine vv_iload_n 9 2 dX10_lookAround_9 rfl rfl ?_
  obtain ⟨k36, h⟩ := sh_chk h
  refine vv_iald 10 dX10_lookAround_10 (gA_l hG (gLA2 hq1)) k36 ?_
  refine vv_aload_n 11 1 dX10_lookAround_11 rfl rfl ?_
  refine vv_getR 12 dX10_lookAround_12 fl_10_29 rfl (gL_l hG hq1) (gL_r3 hG hq1) ?_
  refine vv_iload_n 15 2 dX10_lookAround_15 rfl rfl ?_
  obtain ⟨k37, h⟩ := sh_chk h
  refine vv_iald 16 dX10_lookAround_16 (gA_l hG (gLA3 hq1)) k37 ?_
  refine v1_callV [_, _] 17 dX10_lookAround_17 ck_X10_32 (gP_l hG k34r.2) ⟨by decide, rfl⟩ (c_X5_cellAt (μ := μ) hG k34r.2) (Nat.le_of_ble_eq_true rfl) ⟨Nat.le_of_ble_eq_true rfl, Nat.le_of_ble_eq_true rfl⟩ rfl (Nat.le_of_ble_eq_true rfl) ?_
  refine vn_putI 20 dX10_lookAround_20 fl_10_108 (Or.inl rfl) rfl (g_l_55 hG) (fun μ38 eμ38 => ?_)
  rw [sh_let_eq eμ38] at h
  have hG38 : sh_G μ38 := by rw [eμ38]; exact hG
  refine vv_aload_n 23 0 dX10_lookAround_23 rfl rfl ?_
  refine vv_aload_n 24 0 dX10_lookAround_24 rfl rfl ?_
  obtain ⟨k39, h⟩ := sh_chk h
  refine vv_getR 25 dX10_lookAround_25 fl_10_22 rfl (g_l_55 hG38) k39.1 ?_
  refine vv_topr (fun r40 er40 => ?_)
  rw [sh_let_eq er40] at h
  have k39r : sh_r μ38 55 0 = some r40 ∧ (r40 = 8 ∨ r40 = 29) := by rw [er40]; exact k39
  refine vv_aload_n 28 1 dX10_lookAround_28 rfl rfl ?_
  refine vv_getR 29 dX10_lookAround_29 fl_10_26 rfl (gL_l hG38 hq1) (gL_r2 hG38 hq1) ?_
  refine vv_iload_n 32 2 dX10_lookAround_32 rfl rfl ?_
  obtain ⟨k41, h⟩ := sh_chk h
  refine vv_iald 33 dX10_lookAround_33 (gA_l hG38 (gLA2 hq1)) k41 ?_
  refine vv_iconst 34 dX10_lookAround_34 ik_1 ?_
  refine vv_isub 35 dX10_lookAround_35 ?_
  refine vv_aload_n 36 1 dX10_lookAround_36 rfl rfl ?_
  refine vv_getR 37 dX10_lookAround_37 fl_10_29 rfl (gL_l hG38 hq1) (gL_r3 hG38 hq1) ?_
  refine vv_iload_n 40 2 dX10_lookAround_40 rfl rfl ?_
  obtain ⟨k42, h⟩ := sh_chk h
  refine vv_iald 41 dX10_lookAround_41 (gA_l hG38 (gLA3 hq1)) k42 ?_
  refine v1_callV [_, _] 42 dX10_lookAround_42 ck_X10_32 (gP_l hG38 k39r.2) ⟨by decide, rfl⟩ (c_X5_cellAt (μ := μ38) hG38 k39r.2) (Nat.le_of_ble_eq_true rfl) ⟨Nat.le_of_ble_eq_true rfl, Nat.le_of_ble_eq_true rfl⟩ rfl (Nat.le_of_ble_eq_true rfl) ?_
  refine vn_putI 45 dX10_lookAround_45 fl_10_92 (Or.inl rfl) rfl (g_l_55 hG38) (fun μ43 eμ43 => ?_)
  rw [sh_let_eq eμ43] at h
  have hG43 : sh_G μ43 := by rw [eμ43]; exact hG38
  refine vv_aload_n 48 0 dX10_lookAround_48 rfl rfl ?_
  refine vv_aload_n 49 0 dX10_lookAround_49 rfl rfl ?_
  obtain ⟨k44, h⟩ := sh_chk h
  refine vv_getR 50 dX10_lookAround_50 fl_10_22 rfl (g_l_55 hG43) k44.1 ?_
  refine vv_topr (fun r45 er45 => ?_)
  rw [sh_let_eq er45] at h
  have k44r : sh_r μ43 55 0 = some r45 ∧ (r45 = 8 ∨ r45 = 29) := by rw [er45]; exact k44
  refine vv_aload_n 53 1 dX10_lookAround_53 rfl rfl ?_
  refine vv_getR 54 dX10_lookAround_54 fl_10_26 rfl (gL_l hG43 hq1) (gL_r2 hG43 hq1) ?_
  refine vv_iload_n 57 2 dX10_lookAround_57 rfl rfl ?_
  obtain ⟨k46, h⟩ := sh_chk h
  refine vv_iald 58 dX10_lookAround_58 (gA_l hG43 (gLA2 hq1)) k46 ?_
  refine vv_iconst 59 dX10_lookAround_59 ik_1 ?_
  refine vv_iadd 60 dX10_lookAround_60 ?_
  refine vv_aload_n 61 1 dX10_lookAround_61 rfl rfl ?_
  refine vv_getR 62 dX10_lookAround_62 fl_10_29 rfl (gL_l hG43 hq1) (gL_r3 hG43 hq1) ?_
  refine vv_iload_n 65 2 dX10_lookAround_65 rfl rfl ?_
  obtain ⟨k47, h⟩ := sh_chk h
  refine vv_iald 66 dX10_lookAround_66 (gA_l hG43 (gLA3 hq1)) k47 ?_
  refine v1_callV [_, _] 67 dX10_lookAround_67 ck_X10_32 (gP_l hG43 k44r.2) ⟨by decide, rfl⟩ (c_X5_cellAt (μ := μ43) hG43 k44r.2) (Nat.le_of_ble_eq_true rfl) ⟨Nat.le_of_ble_eq_true rfl, Nat.le_of_ble_eq_true rfl⟩ rfl (Nat.le_of_ble_eq_true rfl) ?_
  refine vn_putI 70 dX10_lookAround_70 fl_10_98 (Or.inl rfl) rfl (g_l_55 hG43) (fun μ48 eμ48 => ?_)
  rw [sh_let_eq eμ48] at h
  have hG48 : sh_G μ48 := by rw [eμ48]; exact hG43
  refine vv_aload_n 73 0 dX10_lookAround_73 rfl rfl ?_
  refine vv_iconst 74 dX10_lookAround_74 ik_0 ?_
  refine vn_putI 75 dX10_lookAround_75 fl_10_111 (Or.inl rfl) rfl (g_l_55 hG48) (fun μ49 eμ49 => ?_)
  rw [sh_let_eq eμ49] at h
  have hG49 : sh_G μ49 := by rw [eμ49]; exact hG48
  refine vv_aload_n 78 0 dX10_lookAround_78 rfl rfl ?_
  refine vv_iconst 79 dX10_lookAround_79 ik_0 ?_
  refine vn_putI 80 dX10_lookAround_80 fl_10_114 (Or.inl rfl) rfl (g_l_55 hG49) (fun μ50 eμ50 => ?_)
  rw [sh_let_eq eμ50] at h
  have hG50 : sh_G μ50 := by rw [eμ50]; exact hG49
  refine vv_iconst 83 dX10_lookAround_83 ik_0 ?_
  refine vv_istore_n (lv' := [(3, _), (0, _), (1, _), (2, _)]) 84 3 dX10_lookAround_84 rfl (by decide) rfl ?_
  refine vv_sub [(0, _), (1, _), (2, _), (3, _)] (sh_subm [1, 2, 3, 0] rfl) ?_
  exact ih_85 hG50 hq1 h
def f_X11_feed (a1 : Int32) (a2 : Int32) (a3 : Int32) (a4 : Int32) (a5 : Int32) (μ : sh_Mem) : Option (Int32 × sh_Mem) := (if ((sh_i μ 0 1) + 20) ≤ 1600 then sh_bindv (f_X11_append a1 μ) (fun μ2 => sh_bindv (f_X11_append a2 μ2) (fun μ5 => sh_bindv (f_X11_append a3 μ5) (fun μ8 => sh_bindv (f_X11_append a4 μ8) (fun μ11 => sh_bindv (f_X11_append a5 μ11) (fun μ14 => some ((sh_i μ14 0 1), μ14)))))) else sh_bind (f_X11_refuseNumber 0 μ) (fun y19 μ17 => some (y19, μ17)))
theorem gp_X11_feed {a1 : Int32} {a2 : Int32} {a3 : Int32} {a4 : Int32} {a5 : Int32} {μ μ' : sh_Mem} {v : Int32} (hG : sh_G μ) (h : f_X11_feed a1 a2 a3 a4 a5 μ = some (v, μ')) : sh_G μ' := by
  unfold f_X11_feed at h
  by_cases c1 : ((sh_i μ 0 1) + 20) ≤ 1600
  · rw [if_pos c1] at h
    obtain ⟨μ2, hr3, h⟩ := sh_bindv_e h
    have hG2 := gp_X11_append hG hr3
    obtain ⟨μ5, hr6, h⟩ := sh_bindv_e h
    have hG5 := gp_X11_append hG2 hr6
    obtain ⟨μ8, hr9, h⟩ := sh_bindv_e h
    have hG8 := gp_X11_append hG5 hr9
    obtain ⟨μ11, hr12, h⟩ := sh_bindv_e h
    have hG11 := gp_X11_append hG8 hr12
    obtain ⟨μ14, hr15, h⟩ := sh_bindv_e h
    have hG14 := gp_X11_append hG11 hr15
    obtain ⟨e1, e2⟩ := sh_some2 h
    exact e2 ▸ hG14
  · rw [if_neg c1] at h
    obtain ⟨y19, μ17, hr18, h⟩ := sh_bind_e h
    have hG17 := gp_X11_refuseNumber hG hr18
    obtain ⟨e1, e2⟩ := sh_some2 h
    exact e2 ▸ hG17
theorem t_X11_feed {a1 : Int32} {a2 : Int32} {a3 : Int32} {a4 : Int32} {a5 : Int32} {μ μ' : sh_Mem} {v : Int32} (hG : sh_G μ) (h : f_X11_feed a1 a2 a3 a4 a5 μ = some (v, μ')) : sh_C0 l B D ca 2 M_X11_feed [.ref 0, .int a1, .int a2, .int a3, .int a4, .int a5] μ (fun v0 μ0 => v0 = some (.int v) ∧ μ0 = μ') := by
  unfold f_X11_feed at h
  refine vv_aload_n 0 0 dX11_feed_0 rfl rfl ?_
  refine vv_getI 1 dX11_feed_1 fl_11_117 rfl (g_l_0 hG) ?_
  refine vv_bipush 4 dX11_feed_4 bk_20 ?_
  refine vv_iadd 6 dX11_feed_6 ?_
  refine vv_sipush 7 dX11_feed_7 sk_1600 ?_
  refine vv_icmp_le 10 19 dX11_feed_10 (by decide) (fun c1 => ?_) (fun c1 => ?_)
  · rw [if_pos c1] at h
    refine vv_aload_n 19 0 dX11_feed_19 rfl rfl ?_
    refine vv_iload_n 20 1 dX11_feed_20 rfl rfl ?_
    obtain ⟨μ2, hr3, h⟩ := sh_bindv_e h
    refine v1_callV [_] 21 dX11_feed_21 ck_X11_124 (g_l_0 hG) ⟨by decide, rfl⟩ (t_X11_append hG hr3) (Nat.le_of_ble_eq_true rfl) ⟨Nat.le_of_ble_eq_true rfl, Nat.le_of_ble_eq_true rfl⟩ rfl (Nat.le_of_ble_eq_true rfl) ?_
    have hG2 := gp_X11_append hG hr3
    refine vv_aload_n 24 0 dX11_feed_24 rfl rfl ?_
    refine vv_iload_n 25 2 dX11_feed_25 rfl rfl ?_
    obtain ⟨μ5, hr6, h⟩ := sh_bindv_e h
    refine v1_callV [_] 26 dX11_feed_26 ck_X11_124 (g_l_0 hG2) ⟨by decide, rfl⟩ (t_X11_append hG2 hr6) (Nat.le_of_ble_eq_true rfl) ⟨Nat.le_of_ble_eq_true rfl, Nat.le_of_ble_eq_true rfl⟩ rfl (Nat.le_of_ble_eq_true rfl) ?_
    have hG5 := gp_X11_append hG2 hr6
    refine vv_aload_n 29 0 dX11_feed_29 rfl rfl ?_
    refine vv_iload_n 30 3 dX11_feed_30 rfl rfl ?_
    obtain ⟨μ8, hr9, h⟩ := sh_bindv_e h
    refine v1_callV [_] 31 dX11_feed_31 ck_X11_124 (g_l_0 hG5) ⟨by decide, rfl⟩ (t_X11_append hG5 hr9) (Nat.le_of_ble_eq_true rfl) ⟨Nat.le_of_ble_eq_true rfl, Nat.le_of_ble_eq_true rfl⟩ rfl (Nat.le_of_ble_eq_true rfl) ?_
    have hG8 := gp_X11_append hG5 hr9
    refine vv_aload_n 34 0 dX11_feed_34 rfl rfl ?_
    refine vv_iload 35 4 dX11_feed_35 rfl ?_
    obtain ⟨μ11, hr12, h⟩ := sh_bindv_e h
    refine v1_callV [_] 37 dX11_feed_37 ck_X11_124 (g_l_0 hG8) ⟨by decide, rfl⟩ (t_X11_append hG8 hr12) (Nat.le_of_ble_eq_true rfl) ⟨Nat.le_of_ble_eq_true rfl, Nat.le_of_ble_eq_true rfl⟩ rfl (Nat.le_of_ble_eq_true rfl) ?_
    have hG11 := gp_X11_append hG8 hr12
    refine vv_aload_n 40 0 dX11_feed_40 rfl rfl ?_
    refine vv_iload 41 5 dX11_feed_41 rfl ?_
    obtain ⟨μ14, hr15, h⟩ := sh_bindv_e h
    refine v1_callV [_] 43 dX11_feed_43 ck_X11_124 (g_l_0 hG11) ⟨by decide, rfl⟩ (t_X11_append hG11 hr15) (Nat.le_of_ble_eq_true rfl) ⟨Nat.le_of_ble_eq_true rfl, Nat.le_of_ble_eq_true rfl⟩ rfl (Nat.le_of_ble_eq_true rfl) ?_
    have hG14 := gp_X11_append hG11 hr15
    refine vv_aload_n 46 0 dX11_feed_46 rfl rfl ?_
    refine vv_getI 47 dX11_feed_47 fl_11_117 rfl (g_l_0 hG14) ?_
    obtain ⟨e1, e2⟩ := sh_some2 h
    refine vv_iret 50 dX11_feed_50 rfl (Nat.le_refl _) (Nat.le_refl _) ⟨by rw [e1], e2⟩
  · rw [if_neg c1] at h
    refine vv_aload_n 13 0 dX11_feed_13 rfl rfl ?_
    refine vv_iconst 14 dX11_feed_14 ik_0 ?_
    obtain ⟨y19, μ17, hr18, h⟩ := sh_bind_e h
    refine v1_callV [_] 15 dX11_feed_15 ck_X11_120 (g_l_0 hG) ⟨by decide, rfl⟩ (t_X11_refuseNumber hG hr18) (Nat.le_of_ble_eq_true rfl) ⟨Nat.le_of_ble_eq_true rfl, Nat.le_of_ble_eq_true rfl⟩ rfl (Nat.le_of_ble_eq_true rfl) ?_
    have hG17 := gp_X11_refuseNumber hG hr18
    obtain ⟨e1, e2⟩ := sh_some2 h
    refine vv_iret 18 dX11_feed_18 rfl (Nat.le_refl _) (Nat.le_refl _) ⟨by rw [e1], e2⟩
def f_X11_end (a1 : Int32) (μ : sh_Mem) : Option (Int32 × sh_Mem) := (if a1 < 0 then sh_bind (f_X11_refuse 0 μ) (fun y4 μ2 => (if y4 = 0 ∨ y4 = 1 then some (y4, μ2) else none)) else (if a1 ≤ (sh_i μ 0 1) then sh_let (sh_setI μ 0 1 a1) (fun μ7 => some (1, μ7)) else sh_bind (f_X11_refuse 0 μ) (fun y10 μ8 => (if y10 = 0 ∨ y10 = 1 then some (y10, μ8) else none))))
theorem gp_X11_end {a1 : Int32} {μ μ' : sh_Mem} {v : Int32} (hG : sh_G μ) (h : f_X11_end a1 μ = some (v, μ')) : sh_G μ' := by
  unfold f_X11_end at h
  by_cases c1 : a1 < 0
  · rw [if_pos c1] at h
    obtain ⟨y4, μ2, hr3, h⟩ := sh_bind_e h
    have hG2 := gp_X11_refuse hG hr3
    obtain ⟨k5, h⟩ := sh_chk h
    obtain ⟨e1, e2⟩ := sh_some2 h
    exact e2 ▸ hG2
  · rw [if_neg c1] at h
    by_cases c6 : a1 ≤ (sh_i μ 0 1)
    · rw [if_pos c6] at h
      obtain ⟨μ7, eμ7⟩ : ∃ y : sh_Mem, y = (sh_setI μ 0 1 a1) := ⟨_, rfl⟩
      rw [sh_let_eq eμ7] at h
      have hG7 : sh_G μ7 := by rw [eμ7]; exact hG
      obtain ⟨e1, e2⟩ := sh_some2 h
      exact e2 ▸ hG7
    · rw [if_neg c6] at h
      obtain ⟨y10, μ8, hr9, h⟩ := sh_bind_e h
      have hG8 := gp_X11_refuse hG hr9
      obtain ⟨k11, h⟩ := sh_chk h
      obtain ⟨e1, e2⟩ := sh_some2 h
      exact e2 ▸ hG8
theorem t_X11_end {a1 : Int32} {μ μ' : sh_Mem} {v : Int32} (hG : sh_G μ) (h : f_X11_end a1 μ = some (v, μ')) : sh_C0 l B D ca 2 M_X11_end [.ref 0, .int a1] μ (fun v0 μ0 => v0 = some (.int v) ∧ μ0 = μ') := by
  unfold f_X11_end at h
  refine vv_iload_n 0 1 dX11_end_0 rfl rfl ?_
  refine vv_if_lt 1 12 dX11_end_1 (by decide) (fun c1 => ?_) (fun c1 => ?_)
  · rw [if_pos c1] at h
    refine vv_aload_n 12 0 dX11_end_12 rfl rfl ?_
    refine vv_iconst 13 dX11_end_13 ik_0 ?_
    obtain ⟨y4, μ2, hr3, h⟩ := sh_bind_e h
    refine v1_callV [_] 14 dX11_end_14 ck_X11_128 (g_l_0 hG) ⟨by decide, rfl⟩ (t_X11_refuse hG hr3) (Nat.le_of_ble_eq_true rfl) ⟨Nat.le_of_ble_eq_true rfl, Nat.le_of_ble_eq_true rfl⟩ rfl (Nat.le_of_ble_eq_true rfl) ?_
    have hG2 := gp_X11_refuse hG hr3
    obtain ⟨k5, h⟩ := sh_chk h
    obtain ⟨e1, e2⟩ := sh_some2 h
    refine vv_zret 17 dX11_end_17 rfl (sh_nb k5) (Nat.le_refl _) (Nat.le_refl _) ⟨by rw [e1], e2⟩
  · rw [if_neg c1] at h
    refine vv_iload_n 4 1 dX11_end_4 rfl rfl ?_
    refine vv_aload_n 5 0 dX11_end_5 rfl rfl ?_
    refine vv_getI 6 dX11_end_6 fl_11_117 rfl (g_l_0 hG) ?_
    refine vv_icmp_le 9 18 dX11_end_9 (by decide) (fun c6 => ?_) (fun c6 => ?_)
    · rw [if_pos c6] at h
      refine vv_aload_n 18 0 dX11_end_18 rfl rfl ?_
      refine vv_iload_n 19 1 dX11_end_19 rfl rfl ?_
      refine vn_putI 20 dX11_end_20 fl_11_117 (Or.inl rfl) rfl (g_l_0 hG) (fun μ7 eμ7 => ?_)
      rw [sh_let_eq eμ7] at h
      have hG7 : sh_G μ7 := by rw [eμ7]; exact hG
      refine vv_iconst 23 dX11_end_23 ik_1 ?_
      obtain ⟨e1, e2⟩ := sh_some2 h
      refine vv_zret 24 dX11_end_24 rfl rfl (Nat.le_refl _) (Nat.le_refl _) ⟨by rw [e1], e2⟩
    · rw [if_neg c6] at h
      refine vv_aload_n 12 0 dX11_end_12 rfl rfl ?_
      refine vv_iconst 13 dX11_end_13 ik_0 ?_
      obtain ⟨y10, μ8, hr9, h⟩ := sh_bind_e h
      refine v1_callV [_] 14 dX11_end_14 ck_X11_128 (g_l_0 hG) ⟨by decide, rfl⟩ (t_X11_refuse hG hr9) (Nat.le_of_ble_eq_true rfl) ⟨Nat.le_of_ble_eq_true rfl, Nat.le_of_ble_eq_true rfl⟩ rfl (Nat.le_of_ble_eq_true rfl) ?_
      have hG8 := gp_X11_refuse hG hr9
      obtain ⟨k11, h⟩ := sh_chk h
      obtain ⟨e1, e2⟩ := sh_some2 h
      refine vv_zret 17 dX11_end_17 rfl (sh_nb k11) (Nat.le_refl _) (Nat.le_refl _) ⟨by rw [e1], e2⟩
def f_X11_letter (a1 : Int32) (a2 : Int32) (a3 : Int32) (μ : sh_Mem) : Option (Int32 × sh_Mem) := (if a3 < 0 then some ((-1), μ) else (if a3 < 6 then (if a1 = 0 then sh_bind (f_X11_isTopic a2 μ) (fun y14 μ12 => (if y14 = 0 then (if a1 = 1 then sh_bind (f_X11_isPerson a2 μ12) (fun y19 μ17 => (if y19 = 0 then some ((-1), μ17) else (if (sh_r μ17 0 7 = some (sh_ref μ17 0 7) ∧ ((sh_ref μ17 0 7) = 8 ∨ (sh_ref μ17 0 7) = 29)) then sh_let (sh_ref μ17 0 7) (fun r22 => (if sh_in a2 7 then some ((f_X11_letterOf μ17 (sh_i μ17 (r22 + 2) a2.toNatClampNeg) a3), μ17) else none)) else none))) else some ((-1), μ12)) else (if (sh_r μ12 0 7 = some (sh_ref μ12 0 7) ∧ ((sh_ref μ12 0 7) = 8 ∨ (sh_ref μ12 0 7) = 29)) then sh_let (sh_ref μ12 0 7) (fun r25 => (if sh_in a2 5 then some ((f_X11_letterOf μ12 (sh_i μ12 (r25 + 1) a2.toNatClampNeg) a3), μ12) else none)) else none))) else (if a1 = 1 then sh_bind (f_X11_isPerson a2 μ) (fun y7 μ5 => (if y7 = 0 then some ((-1), μ5) else (if (sh_r μ5 0 7 = some (sh_ref μ5 0 7) ∧ ((sh_ref μ5 0 7) = 8 ∨ (sh_ref μ5 0 7) = 29)) then sh_let (sh_ref μ5 0 7) (fun r10 => (if sh_in a2 7 then some ((f_X11_letterOf μ5 (sh_i μ5 (r10 + 2) a2.toNatClampNeg) a3), μ5) else none)) else none))) else some ((-1), μ))) else some ((-1), μ)))
theorem gp_X11_letter {a1 : Int32} {a2 : Int32} {a3 : Int32} {μ μ' : sh_Mem} {v : Int32} (hG : sh_G μ) (h : f_X11_letter a1 a2 a3 μ = some (v, μ')) : sh_G μ' := by
  unfold f_X11_letter at h
  by_cases c1 : a3 < 0
  · rw [if_pos c1] at h
    obtain ⟨e1, e2⟩ := sh_some2 h
    exact e2 ▸ hG
  · rw [if_neg c1] at h
    by_cases c2 : a3 < 6
    · rw [if_pos c2] at h
      by_cases c3 : a1 = 0
      · rw [if_pos c3] at h
        obtain ⟨y14, μ12, hr13, h⟩ := sh_bind_e h
        have hG12 := gp_X11_isTopic hG hr13
        by_cases c15 : y14 = 0
        · rw [if_pos c15] at h
          by_cases c16 : a1 = 1
          · rw [if_pos c16] at h
            obtain ⟨y19, μ17, hr18, h⟩ := sh_bind_e h
            have hG17 := gp_X11_isPerson hG12 hr18
            by_cases c20 : y19 = 0
            · rw [if_pos c20] at h
              obtain ⟨e1, e2⟩ := sh_some2 h
              exact e2 ▸ hG17
            · rw [if_neg c20] at h
              obtain ⟨k21, h⟩ := sh_chk h
              obtain ⟨r22, er22⟩ : ∃ y : Nat, y = (sh_ref μ17 0 7) := ⟨_, rfl⟩
              rw [sh_let_eq er22] at h
              have k21r : sh_r μ17 0 7 = some r22 ∧ (r22 = 8 ∨ r22 = 29) := by rw [er22]; exact k21
              obtain ⟨k23, h⟩ := sh_chk h
              obtain ⟨e1, e2⟩ := sh_some2 h
              exact e2 ▸ hG17
          · rw [if_neg c16] at h
            obtain ⟨e1, e2⟩ := sh_some2 h
            exact e2 ▸ hG12
        · rw [if_neg c15] at h
          obtain ⟨k24, h⟩ := sh_chk h
          obtain ⟨r25, er25⟩ : ∃ y : Nat, y = (sh_ref μ12 0 7) := ⟨_, rfl⟩
          rw [sh_let_eq er25] at h
          have k24r : sh_r μ12 0 7 = some r25 ∧ (r25 = 8 ∨ r25 = 29) := by rw [er25]; exact k24
          obtain ⟨k26, h⟩ := sh_chk h
          obtain ⟨e1, e2⟩ := sh_some2 h
          exact e2 ▸ hG12
      · rw [if_neg c3] at h
        by_cases c4 : a1 = 1
        · rw [if_pos c4] at h
          obtain ⟨y7, μ5, hr6, h⟩ := sh_bind_e h
          have hG5 := gp_X11_isPerson hG hr6
          by_cases c8 : y7 = 0
          · rw [if_pos c8] at h
            obtain ⟨e1, e2⟩ := sh_some2 h
            exact e2 ▸ hG5
          · rw [if_neg c8] at h
            obtain ⟨k9, h⟩ := sh_chk h
            obtain ⟨r10, er10⟩ : ∃ y : Nat, y = (sh_ref μ5 0 7) := ⟨_, rfl⟩
            rw [sh_let_eq er10] at h
            have k9r : sh_r μ5 0 7 = some r10 ∧ (r10 = 8 ∨ r10 = 29) := by rw [er10]; exact k9
            obtain ⟨k11, h⟩ := sh_chk h
            obtain ⟨e1, e2⟩ := sh_some2 h
            exact e2 ▸ hG5
        · rw [if_neg c4] at h
          obtain ⟨e1, e2⟩ := sh_some2 h
          exact e2 ▸ hG
    · rw [if_neg c2] at h
      obtain ⟨e1, e2⟩ := sh_some2 h
      exact e2 ▸ hG
theorem t_X11_letter {a1 : Int32} {a2 : Int32} {a3 : Int32} {μ μ' : sh_Mem} {v : Int32} (hG : sh_G μ) (h : f_X11_letter a1 a2 a3 μ = some (v, μ')) : sh_C0 l B D ca 2 M_X11_letter [.ref 0, .int a1, .int a2, .int a3] μ (fun v0 μ0 => v0 = some (.int v) ∧ μ0 = μ') := by
  unfold f_X11_letter at h
  refine vv_iload_n 0 3 dX11_letter_0 rfl rfl ?_
  refine vv_if_lt 1 10 dX11_letter_1 (by decide) (fun c1 => ?_) (fun c1 => ?_)
  · rw [if_pos c1] at h
    refine vv_iconst 10 dX11_letter_10 ik_m1 ?_
    obtain ⟨e1, e2⟩ := sh_some2 h
    refine vv_iret 11 dX11_letter_11 rfl (Nat.le_refl _) (Nat.le_refl _) ⟨by rw [e1], e2⟩
  · rw [if_neg c1] at h
    refine vv_iload_n 4 3 dX11_letter_4 rfl rfl ?_
    refine vv_bipush 5 dX11_letter_5 bk_6 ?_
    refine vv_icmp_lt 7 12 dX11_letter_7 (by decide) (fun c2 => ?_) (fun c2 => ?_)
    · rw [if_pos c2] at h
      refine vv_iload_n 12 1 dX11_letter_12 rfl rfl ?_
      refine vv_if_ne 13 38 dX11_letter_13 (by decide) (fun c3 => ?_) (fun c3 => ?_)
      · rw [if_neg c3] at h
        refine vv_iload_n 38 1 dX11_letter_38 rfl rfl ?_
        refine vv_iconst 39 dX11_letter_39 ik_1 ?_
        refine vv_icmp_ne 40 65 dX11_letter_40 (by decide) (fun c4 => ?_) (fun c4 => ?_)
        · rw [if_neg c4] at h
          refine vv_iconst 65 dX11_letter_65 ik_m1 ?_
          obtain ⟨e1, e2⟩ := sh_some2 h
          refine vv_iret 66 dX11_letter_66 rfl (Nat.le_refl _) (Nat.le_refl _) ⟨by rw [e1], e2⟩
        · rw [if_pos c4] at h
          refine vv_aload_n 43 0 dX11_letter_43 rfl rfl ?_
          refine vv_iload_n 44 2 dX11_letter_44 rfl rfl ?_
          obtain ⟨y7, μ5, hr6, h⟩ := sh_bind_e h
          refine v1_callV [_] 45 dX11_letter_45 ck_X11_211 (g_l_0 hG) ⟨by decide, rfl⟩ (t_X11_isPerson hG hr6) (Nat.le_of_ble_eq_true rfl) ⟨Nat.le_of_ble_eq_true rfl, Nat.le_of_ble_eq_true rfl⟩ rfl (Nat.le_of_ble_eq_true rfl) ?_
          have hG5 := gp_X11_isPerson hG hr6
          refine vv_if_eq 48 65 dX11_letter_48 (by decide) (fun c8 => ?_) (fun c8 => ?_)
          · rw [if_pos c8] at h
            refine vv_iconst 65 dX11_letter_65 ik_m1 ?_
            obtain ⟨e1, e2⟩ := sh_some2 h
            refine vv_iret 66 dX11_letter_66 rfl (Nat.le_refl _) (Nat.le_refl _) ⟨by rw [e1], e2⟩
          · rw [if_neg c8] at h
            refine vv_aload_n 51 0 dX11_letter_51 rfl rfl ?_
            obtain ⟨k9, h⟩ := sh_chk h
            refine vv_getR 52 dX11_letter_52 fl_11_53 rfl (g_l_0 hG5) k9.1 ?_
            refine vv_topr (fun r10 er10 => ?_)
            rw [sh_let_eq er10] at h
            have k9r : sh_r μ5 0 7 = some r10 ∧ (r10 = 8 ∨ r10 = 29) := by rw [er10]; exact k9
            refine vv_getR 55 dX11_letter_55 fl_11_214 rfl (gP_l hG5 k9r.2) (gP_r7 hG5 k9r.2) ?_
            refine vv_iload_n 58 2 dX11_letter_58 rfl rfl ?_
            obtain ⟨k11, h⟩ := sh_chk h
            refine vv_iald 59 dX11_letter_59 (gA_l hG5 (gPA7 k9r.2)) k11 ?_
            refine vv_iload_n 60 3 dX11_letter_60 rfl rfl ?_
            refine v1_callS [_, _] 61 dX11_letter_61 ck_X11_207 (c_X11_letterOf (μ := μ5) hG5) (Nat.le_of_ble_eq_true rfl) ⟨Nat.le_of_ble_eq_true rfl, Nat.le_of_ble_eq_true rfl⟩ rfl (Nat.le_of_ble_eq_true rfl) ?_
            obtain ⟨e1, e2⟩ := sh_some2 h
            refine vv_iret 64 dX11_letter_64 rfl (Nat.le_refl _) (Nat.le_refl _) ⟨by rw [e1], e2⟩
      · rw [if_pos c3] at h
        refine vv_aload_n 16 0 dX11_letter_16 rfl rfl ?_
        refine vv_iload_n 17 2 dX11_letter_17 rfl rfl ?_
        obtain ⟨y14, μ12, hr13, h⟩ := sh_bind_e h
        refine v1_callV [_] 18 dX11_letter_18 ck_X11_201 (g_l_0 hG) ⟨by decide, rfl⟩ (t_X11_isTopic hG hr13) (Nat.le_of_ble_eq_true rfl) ⟨Nat.le_of_ble_eq_true rfl, Nat.le_of_ble_eq_true rfl⟩ rfl (Nat.le_of_ble_eq_true rfl) ?_
        have hG12 := gp_X11_isTopic hG hr13
        refine vv_if_eq 21 38 dX11_letter_21 (by decide) (fun c15 => ?_) (fun c15 => ?_)
        · rw [if_pos c15] at h
          refine vv_iload_n 38 1 dX11_letter_38 rfl rfl ?_
          refine vv_iconst 39 dX11_letter_39 ik_1 ?_
          refine vv_icmp_ne 40 65 dX11_letter_40 (by decide) (fun c16 => ?_) (fun c16 => ?_)
          · rw [if_neg c16] at h
            refine vv_iconst 65 dX11_letter_65 ik_m1 ?_
            obtain ⟨e1, e2⟩ := sh_some2 h
            refine vv_iret 66 dX11_letter_66 rfl (Nat.le_refl _) (Nat.le_refl _) ⟨by rw [e1], e2⟩
          · rw [if_pos c16] at h
            refine vv_aload_n 43 0 dX11_letter_43 rfl rfl ?_
            refine vv_iload_n 44 2 dX11_letter_44 rfl rfl ?_
            obtain ⟨y19, μ17, hr18, h⟩ := sh_bind_e h
            refine v1_callV [_] 45 dX11_letter_45 ck_X11_211 (g_l_0 hG12) ⟨by decide, rfl⟩ (t_X11_isPerson hG12 hr18) (Nat.le_of_ble_eq_true rfl) ⟨Nat.le_of_ble_eq_true rfl, Nat.le_of_ble_eq_true rfl⟩ rfl (Nat.le_of_ble_eq_true rfl) ?_
            have hG17 := gp_X11_isPerson hG12 hr18
            refine vv_if_eq 48 65 dX11_letter_48 (by decide) (fun c20 => ?_) (fun c20 => ?_)
            · rw [if_pos c20] at h
              refine vv_iconst 65 dX11_letter_65 ik_m1 ?_
              obtain ⟨e1, e2⟩ := sh_some2 h
              refine vv_iret 66 dX11_letter_66 rfl (Nat.le_refl _) (Nat.le_refl _) ⟨by rw [e1], e2⟩
            · rw [if_neg c20] at h
              refine vv_aload_n 51 0 dX11_letter_51 rfl rfl ?_
              obtain ⟨k21, h⟩ := sh_chk h
              refine vv_getR 52 dX11_letter_52 fl_11_53 rfl (g_l_0 hG17) k21.1 ?_
              refine vv_topr (fun r22 er22 => ?_)
              rw [sh_let_eq er22] at h
              have k21r : sh_r μ17 0 7 = some r22 ∧ (r22 = 8 ∨ r22 = 29) := by rw [er22]; exact k21
              refine vv_getR 55 dX11_letter_55 fl_11_214 rfl (gP_l hG17 k21r.2) (gP_r7 hG17 k21r.2) ?_
              refine vv_iload_n 58 2 dX11_letter_58 rfl rfl ?_
              obtain ⟨k23, h⟩ := sh_chk h
              refine vv_iald 59 dX11_letter_59 (gA_l hG17 (gPA7 k21r.2)) k23 ?_
              refine vv_iload_n 60 3 dX11_letter_60 rfl rfl ?_
              refine v1_callS [_, _] 61 dX11_letter_61 ck_X11_207 (c_X11_letterOf (μ := μ17) hG17) (Nat.le_of_ble_eq_true rfl) ⟨Nat.le_of_ble_eq_true rfl, Nat.le_of_ble_eq_true rfl⟩ rfl (Nat.le_of_ble_eq_true rfl) ?_
              obtain ⟨e1, e2⟩ := sh_some2 h
              refine vv_iret 64 dX11_letter_64 rfl (Nat.le_refl _) (Nat.le_refl _) ⟨by rw [e1], e2⟩
        · rw [if_neg c15] at h
          refine vv_aload_n 24 0 dX11_letter_24 rfl rfl ?_
          obtain ⟨k24, h⟩ := sh_chk h
          refine vv_getR 25 dX11_letter_25 fl_11_53 rfl (g_l_0 hG12) k24.1 ?_
          refine vv_topr (fun r25 er25 => ?_)
          rw [sh_let_eq er25] at h
          have k24r : sh_r μ12 0 7 = some r25 ∧ (r25 = 8 ∨ r25 = 29) := by rw [er25]; exact k24
          refine vv_getR 28 dX11_letter_28 fl_11_204 rfl (gP_l hG12 k24r.2) (gP_r6 hG12 k24r.2) ?_
          refine vv_iload_n 31 2 dX11_letter_31 rfl rfl ?_
          obtain ⟨k26, h⟩ := sh_chk h
          refine vv_iald 32 dX11_letter_32 (gA_l hG12 (gPA6 k24r.2)) k26 ?_
          refine vv_iload_n 33 3 dX11_letter_33 rfl rfl ?_
          refine v1_callS [_, _] 34 dX11_letter_34 ck_X11_207 (c_X11_letterOf (μ := μ12) hG12) (Nat.le_of_ble_eq_true rfl) ⟨Nat.le_of_ble_eq_true rfl, Nat.le_of_ble_eq_true rfl⟩ rfl (Nat.le_of_ble_eq_true rfl) ?_
          obtain ⟨e1, e2⟩ := sh_some2 h
          refine vv_iret 37 dX11_letter_37 rfl (Nat.le_refl _) (Nat.le_refl _) ⟨by rw [e1], e2⟩
    · rw [if_neg c2] at h
      refine vv_iconst 10 dX11_letter_10 ik_m1 ?_
      obtain ⟨e1, e2⟩ := sh_some2 h
      refine vv_iret 11 dX11_letter_11 rfl (Nat.le_refl _) (Nat.le_refl _) ⟨by rw [e1], e2⟩
def f_X11_see (μ : sh_Mem) : Option (Int32 × sh_Mem) := sh_bind (f_X11_takeTape μ) (fun y3 μ1 => sh_bind (f_X11_isSeen y3 μ1) (fun y6 μ4 => (if y6 = 0 then sh_bind (f_X11_refuseNumber 1 μ4) (fun y15 μ13 => some (y15, μ13)) else (if ¬ y3 < 0 then (if (Int32.toNatClampNeg 0) + y3.toNatClampNeg ≤ 1600 then (if (Int32.toNatClampNeg 0) + y3.toNatClampNeg ≤ 64 then sh_let (sh_rowI μ4 216 (va_cpy (sh_i μ4 1) (sh_i μ4 216) (Int32.toNatClampNeg 0) (Int32.toNatClampNeg 0) y3.toNatClampNeg)) (fun μ11 => sh_let (sh_setI μ11 208 4 (y3 / 4)) (fun μ12 => some ((sh_i μ12 208 4), μ12))) else none) else none) else none))))
theorem gp_X11_see {μ μ' : sh_Mem} {v : Int32} (hG : sh_G μ) (h : f_X11_see μ = some (v, μ')) : sh_G μ' := by
  unfold f_X11_see at h
  obtain ⟨y3, μ1, hr2, h⟩ := sh_bind_e h
  have hG1 := gp_X11_takeTape hG hr2
  obtain ⟨y6, μ4, hr5, h⟩ := sh_bind_e h
  have hG4 := gp_X11_isSeen hG1 hr5
  by_cases c7 : y6 = 0
  · rw [if_pos c7] at h
    obtain ⟨y15, μ13, hr14, h⟩ := sh_bind_e h
    have hG13 := gp_X11_refuseNumber hG4 hr14
    obtain ⟨e1, e2⟩ := sh_some2 h
    exact e2 ▸ hG13
  · rw [if_neg c7] at h
    obtain ⟨k8, h⟩ := sh_chk h
    obtain ⟨k9, h⟩ := sh_chk h
    obtain ⟨k10, h⟩ := sh_chk h
    obtain ⟨μ11, eμ11⟩ : ∃ y : sh_Mem, y = (sh_rowI μ4 216 (va_cpy (sh_i μ4 1) (sh_i μ4 216) (Int32.toNatClampNeg 0) (Int32.toNatClampNeg 0) y3.toNatClampNeg)) := ⟨_, rfl⟩
    rw [sh_let_eq eμ11] at h
    have hG11 : sh_G μ11 := by rw [eμ11]; exact hG4
    obtain ⟨μ12, eμ12⟩ : ∃ y : sh_Mem, y = (sh_setI μ11 208 4 (y3 / 4)) := ⟨_, rfl⟩
    rw [sh_let_eq eμ12] at h
    have hG12 : sh_G μ12 := by rw [eμ12]; exact hG11
    obtain ⟨e1, e2⟩ := sh_some2 h
    exact e2 ▸ hG12
theorem t_X11_see {μ μ' : sh_Mem} {v : Int32} (hG : sh_G μ) (h : f_X11_see μ = some (v, μ')) : sh_C0 l B D ca 3 M_X11_see [.ref 0] μ (fun v0 μ0 => v0 = some (.int v) ∧ μ0 = μ') := by
  unfold f_X11_see at h
  refine vv_aload_n 0 0 dX11_see_0 rfl rfl ?_
  obtain ⟨y3, μ1, hr2, h⟩ := sh_bind_e h
  refine v1_callV [] 1 dX11_see_1 ck_X11_132 (g_l_0 hG) ⟨by decide, rfl⟩ (t_X11_takeTape hG hr2) (Nat.le_of_ble_eq_true rfl) ⟨Nat.le_of_ble_eq_true rfl, Nat.le_of_ble_eq_true rfl⟩ rfl (Nat.le_of_ble_eq_true rfl) ?_
  have hG1 := gp_X11_takeTape hG hr2
  refine vv_istore_n (lv' := [(1, _), (0, _)]) 4 1 dX11_see_4 rfl (by decide) rfl ?_
  refine vv_aload_n 5 0 dX11_see_5 rfl rfl ?_
  refine vv_iload_n 6 1 dX11_see_6 rfl rfl ?_
  obtain ⟨y6, μ4, hr5, h⟩ := sh_bind_e h
  refine v1_callV [_] 7 dX11_see_7 ck_X11_296 (g_l_0 hG1) ⟨by decide, rfl⟩ (t_X11_isSeen hG1 hr5) (Nat.le_of_ble_eq_true rfl) ⟨Nat.le_of_ble_eq_true rfl, Nat.le_of_ble_eq_true rfl⟩ rfl (Nat.le_of_ble_eq_true rfl) ?_
  have hG4 := gp_X11_isSeen hG1 hr5
  refine vv_if_ne 10 19 dX11_see_10 (by decide) (fun c7 => ?_) (fun c7 => ?_)
  · rw [if_neg c7] at h
    refine vv_aload_n 19 0 dX11_see_19 rfl rfl ?_
    refine vv_getR 20 dX11_see_20 fl_11_9 rfl (g_l_0 hG4) (g_r_0_0 hG4) ?_
    refine vv_iconst 23 dX11_see_23 ik_0 ?_
    refine vv_aload_n 24 0 dX11_see_24 rfl rfl ?_
    refine vv_getR 25 dX11_see_25 fl_11_85 rfl (g_l_0 hG4) (g_r_0_11 hG4) ?_
    refine vv_getR 28 dX11_see_28 fl_11_299 rfl (g_l_208 hG4) (g_r_208_3 hG4) ?_
    refine vv_iconst 31 dX11_see_31 ik_0 ?_
    refine vv_iload_n 32 1 dX11_see_32 rfl rfl ?_
    obtain ⟨k8, h⟩ := sh_chk h
    obtain ⟨k9, h⟩ := sh_chk h
    obtain ⟨k10, h⟩ := sh_chk h
    refine vn_copy 33 dX11_see_33 ck_X11_302 (g_l_1 hG4) (g_l_216 hG4) (by decide) (by decide) k8 k9 k10 (Nat.le_of_ble_eq_true rfl) (Nat.le_of_ble_eq_true rfl) (fun μ11 eμ11 => ?_)
    rw [sh_let_eq eμ11] at h
    have hG11 : sh_G μ11 := by rw [eμ11]; exact hG4
    refine vv_aload_n 36 0 dX11_see_36 rfl rfl ?_
    refine vv_getR 37 dX11_see_37 fl_11_85 rfl (g_l_0 hG11) (g_r_0_11 hG11) ?_
    refine vv_iload_n 40 1 dX11_see_40 rfl rfl ?_
    refine vv_iconst 41 dX11_see_41 ik_4 ?_
    refine vv_idiv 42 dX11_see_42 (by decide) ?_
    refine vn_putI 43 dX11_see_43 fl_11_162 (Or.inl rfl) rfl (g_l_208 hG11) (fun μ12 eμ12 => ?_)
    rw [sh_let_eq eμ12] at h
    have hG12 : sh_G μ12 := by rw [eμ12]; exact hG11
    refine vv_aload_n 46 0 dX11_see_46 rfl rfl ?_
    refine vv_getR 47 dX11_see_47 fl_11_85 rfl (g_l_0 hG12) (g_r_0_11 hG12) ?_
    refine vv_getI 50 dX11_see_50 fl_11_162 rfl (g_l_208 hG12) ?_
    obtain ⟨e1, e2⟩ := sh_some2 h
    refine vv_iret 53 dX11_see_53 rfl (Nat.le_refl _) (Nat.le_refl _) ⟨by rw [e1], e2⟩
  · rw [if_pos c7] at h
    refine vv_aload_n 13 0 dX11_see_13 rfl rfl ?_
    refine vv_iconst 14 dX11_see_14 ik_1 ?_
    obtain ⟨y15, μ13, hr14, h⟩ := sh_bind_e h
    refine v1_callV [_] 15 dX11_see_15 ck_X11_120 (g_l_0 hG4) ⟨by decide, rfl⟩ (t_X11_refuseNumber hG4 hr14) (Nat.le_of_ble_eq_true rfl) ⟨Nat.le_of_ble_eq_true rfl, Nat.le_of_ble_eq_true rfl⟩ rfl (Nat.le_of_ble_eq_true rfl) ?_
    have hG13 := gp_X11_refuseNumber hG4 hr14
    obtain ⟨e1, e2⟩ := sh_some2 h
    refine vv_iret 18 dX11_see_18 rfl (Nat.le_refl _) (Nat.le_refl _) ⟨by rw [e1], e2⟩
def F_X11_image : Nat → Nat → Int32 → Int32 → Int32 → sh_Mem → Option (Int32 × sh_Mem)
  | 0, _, _, _, _, _ => none
  | fuel + 1, lbl, i1, i2, i3, μ => match lbl with
    | 1 => (if (sh_r μ 0 7 = some (sh_ref μ 0 7) ∧ ((sh_ref μ 0 7) = 8 ∨ (sh_ref μ 0 7) = 29)) then sh_let (sh_ref μ 0 7) (fun r33 => (if (sh_i μ r33 3) ≤ i3 then sh_bind (f_X11_checkOf 289 80 i2 μ) (fun y37 μ35 => (if sh_in i2 80 then sh_let (sh_setI μ35 289 i2.toNatClampNeg y37) (fun μ39 => sh_let (sh_setI μ39 0 18 (i2 + 1)) (fun μ40 => some ((sh_i μ40 0 18), μ40))) else none)) else (if sh_in i3 7 then (if sh_in i2 80 then sh_let (sh_setI μ 289 i2.toNatClampNeg (sh_i μ 51 i3.toNatClampNeg)) (fun μ43 => (if sh_in i3 7 then (if sh_in (i2 + 1) 80 then sh_let (sh_setI μ43 289 ((i2 + 1)).toNatClampNeg (sh_i μ43 52 i3.toNatClampNeg)) (fun μ46 => (if sh_in i3 7 then (if sh_in (i2 + 2) 80 then sh_let (sh_setI μ46 289 ((i2 + 2)).toNatClampNeg (sh_i μ46 53 i3.toNatClampNeg)) (fun μ49 => (if sh_in i3 7 then (if sh_in (i2 + 3) 80 then sh_let (sh_setI μ49 289 ((i2 + 3)).toNatClampNeg (sh_i μ49 54 i3.toNatClampNeg)) (fun μ52 => F_X11_image fuel 1 i1 (i2 + 4) (i3 + 1) μ52) else none) else none)) else none) else none)) else none) else none)) else none) else none))) else none)
    | _ => none
def f_X11_image (μ : sh_Mem) : Option (Int32 × sh_Mem) := (if (sh_r μ 0 7 = some (sh_ref μ 0 7) ∧ ((sh_ref μ 0 7) = 8 ∨ (sh_ref μ 0 7) = 29)) then sh_let (sh_ref μ 0 7) (fun r54 => sh_let ((f_X5_cells μ r54) : Int32) (fun x55 => sh_let (sh_setI μ 289 (Int32.toNatClampNeg 0) ((sh_i μ 49 0) / 256)) (fun μ56 => sh_let (sh_setI μ56 289 (Int32.toNatClampNeg 1) ((sh_i μ56 49 0) - (sh_i μ56 49 0) / 256 * 256)) (fun μ57 => (if ¬ x55 < 0 then (if (Int32.toNatClampNeg 0) + x55.toNatClampNeg ≤ 49 then (if (Int32.toNatClampNeg 2) + x55.toNatClampNeg ≤ 80 then sh_let (sh_rowI μ57 289 (va_cpy (sh_i μ57 50) (sh_i μ57 289) (Int32.toNatClampNeg 0) (Int32.toNatClampNeg 2) x55.toNatClampNeg)) (fun μ61 => sh_let ((2 + x55) : Int32) (fun x62 => F_X11_image 1000000 1 x55 x62 0 μ61)) else none) else none) else none))))) else none)
theorem gpl_X11_image (fuel : Nat) : (∀ ⦃i1 : Int32⦄ ⦃i2 : Int32⦄ ⦃i3 : Int32⦄ ⦃μ μ' : sh_Mem⦄ ⦃v : Int32⦄, sh_G μ → F_X11_image fuel 1 i1 i2 i3 μ = some (v, μ') → sh_G μ') := by
  induction fuel with
  | zero => intro i1 i2 i3 μ μ' v hG h; cases h
  | succ fuel ih =>
    have ih_65 := ih
    intro i1 i2 i3 μ μ' v hG h
    replace h : ((if (sh_r μ 0 7 = some (sh_ref μ 0 7) ∧ ((sh_ref μ 0 7) = 8 ∨ (sh_ref μ 0 7) = 29)) then sh_let (sh_ref μ 0 7) (fun r33 => (if (sh_i μ r33 3) ≤ i3 then sh_bind (f_X11_checkOf 289 80 i2 μ) (fun y37 μ35 => (if sh_in i2 80 then sh_let (sh_setI μ35 289 i2.toNatClampNeg y37) (fun μ39 => sh_let (sh_setI μ39 0 18 (i2 + 1)) (fun μ40 => some ((sh_i μ40 0 18), μ40))) else none)) else (if sh_in i3 7 then (if sh_in i2 80 then sh_let (sh_setI μ 289 i2.toNatClampNeg (sh_i μ 51 i3.toNatClampNeg)) (fun μ43 => (if sh_in i3 7 then (if sh_in (i2 + 1) 80 then sh_let (sh_setI μ43 289 ((i2 + 1)).toNatClampNeg (sh_i μ43 52 i3.toNatClampNeg)) (fun μ46 => (if sh_in i3 7 then (if sh_in (i2 + 2) 80 then sh_let (sh_setI μ46 289 ((i2 + 2)).toNatClampNeg (sh_i μ46 53 i3.toNatClampNeg)) (fun μ49 => (if sh_in i3 7 then (if sh_in (i2 + 3) 80 then sh_let (sh_setI μ49 289 ((i2 + 3)).toNatClampNeg (sh_i μ49 54 i3.toNatClampNeg)) (fun μ52 => F_X11_image fuel 1 i1 (i2 + 4) (i3 + 1) μ52) else none) else none)) else none) else none)) else none) else none)) else none) else none))) else none) : Option (Int32 × sh_Mem)) = some (v, μ') := h
    obtain ⟨k32, h⟩ := sh_chk h
    obtain ⟨r33, er33⟩ : ∃ y : Nat, y = (sh_ref μ 0 7) := ⟨_, rfl⟩
    rw [sh_let_eq er33] at h
    have k32r : sh_r μ 0 7 = some r33 ∧ (r33 = 8 ∨ r33 = 29) := by rw [er33]; exact k32
    by_cases c34 : (sh_i μ r33 3) ≤ i3
    · rw [if_pos c34] at h
      obtain ⟨y37, μ35, hr36, h⟩ := sh_bind_e h
      have hG35 := gp_X11_checkOf hG (sh_LAYat_289) hr36
      obtain ⟨k38, h⟩ := sh_chk h
      obtain ⟨μ39, eμ39⟩ : ∃ y : sh_Mem, y = (sh_setI μ35 289 i2.toNatClampNeg y37) := ⟨_, rfl⟩
      rw [sh_let_eq eμ39] at h
      have hG39 : sh_G μ39 := by rw [eμ39]; exact hG35
      obtain ⟨μ40, eμ40⟩ : ∃ y : sh_Mem, y = (sh_setI μ39 0 18 (i2 + 1)) := ⟨_, rfl⟩
      rw [sh_let_eq eμ40] at h
      have hG40 : sh_G μ40 := by rw [eμ40]; exact hG39
      obtain ⟨e1, e2⟩ := sh_some2 h
      exact e2 ▸ hG40
    · rw [if_neg c34] at h
      obtain ⟨k41, h⟩ := sh_chk h
      obtain ⟨k42, h⟩ := sh_chk h
      obtain ⟨μ43, eμ43⟩ : ∃ y : sh_Mem, y = (sh_setI μ 289 i2.toNatClampNeg (sh_i μ 51 i3.toNatClampNeg)) := ⟨_, rfl⟩
      rw [sh_let_eq eμ43] at h
      have hG43 : sh_G μ43 := by rw [eμ43]; exact hG
      obtain ⟨k44, h⟩ := sh_chk h
      obtain ⟨k45, h⟩ := sh_chk h
      obtain ⟨μ46, eμ46⟩ : ∃ y : sh_Mem, y = (sh_setI μ43 289 ((i2 + 1)).toNatClampNeg (sh_i μ43 52 i3.toNatClampNeg)) := ⟨_, rfl⟩
      rw [sh_let_eq eμ46] at h
      have hG46 : sh_G μ46 := by rw [eμ46]; exact hG43
      obtain ⟨k47, h⟩ := sh_chk h
      obtain ⟨k48, h⟩ := sh_chk h
      obtain ⟨μ49, eμ49⟩ : ∃ y : sh_Mem, y = (sh_setI μ46 289 ((i2 + 2)).toNatClampNeg (sh_i μ46 53 i3.toNatClampNeg)) := ⟨_, rfl⟩
      rw [sh_let_eq eμ49] at h
      have hG49 : sh_G μ49 := by rw [eμ49]; exact hG46
      obtain ⟨k50, h⟩ := sh_chk h
      obtain ⟨k51, h⟩ := sh_chk h
      obtain ⟨μ52, eμ52⟩ : ∃ y : sh_Mem, y = (sh_setI μ49 289 ((i2 + 3)).toNatClampNeg (sh_i μ49 54 i3.toNatClampNeg)) := ⟨_, rfl⟩
      rw [sh_let_eq eμ52] at h
      have hG52 : sh_G μ52 := by rw [eμ52]; exact hG49
      exact ih_65 hG52 h
theorem tl_X11_image (fuel : Nat) : (∀ ⦃i1 : Int32⦄ ⦃i2 : Int32⦄ ⦃i3 : Int32⦄ ⦃μ μ' : sh_Mem⦄ ⦃v : Int32⦄, sh_G μ → F_X11_image fuel 1 i1 i2 i3 μ = some (v, μ') → sh_V0 l B D ca 2 M_X11_image 65 [(0, .ref 0), (1, .int i1), (2, .int i2), (3, .int i3)] [] μ (fun v0 μ0 => v0 = some (.int v) ∧ μ0 = μ')) := by
  induction fuel with
  | zero => intro i1 i2 i3 μ μ' v hG h; cases h
  | succ fuel ih =>
    have ih_65 := ih
    intro i1 i2 i3 μ μ' v hG h
    replace h : ((if (sh_r μ 0 7 = some (sh_ref μ 0 7) ∧ ((sh_ref μ 0 7) = 8 ∨ (sh_ref μ 0 7) = 29)) then sh_let (sh_ref μ 0 7) (fun r33 => (if (sh_i μ r33 3) ≤ i3 then sh_bind (f_X11_checkOf 289 80 i2 μ) (fun y37 μ35 => (if sh_in i2 80 then sh_let (sh_setI μ35 289 i2.toNatClampNeg y37) (fun μ39 => sh_let (sh_setI μ39 0 18 (i2 + 1)) (fun μ40 => some ((sh_i μ40 0 18), μ40))) else none)) else (if sh_in i3 7 then (if sh_in i2 80 then sh_let (sh_setI μ 289 i2.toNatClampNeg (sh_i μ 51 i3.toNatClampNeg)) (fun μ43 => (if sh_in i3 7 then (if sh_in (i2 + 1) 80 then sh_let (sh_setI μ43 289 ((i2 + 1)).toNatClampNeg (sh_i μ43 52 i3.toNatClampNeg)) (fun μ46 => (if sh_in i3 7 then (if sh_in (i2 + 2) 80 then sh_let (sh_setI μ46 289 ((i2 + 2)).toNatClampNeg (sh_i μ46 53 i3.toNatClampNeg)) (fun μ49 => (if sh_in i3 7 then (if sh_in (i2 + 3) 80 then sh_let (sh_setI μ49 289 ((i2 + 3)).toNatClampNeg (sh_i μ49 54 i3.toNatClampNeg)) (fun μ52 => F_X11_image fuel 1 i1 (i2 + 4) (i3 + 1) μ52) else none) else none)) else none) else none)) else none) else none)) else none) else none))) else none) : Option (Int32 × sh_Mem)) = some (v, μ') := h
    refine vv_iload_n 65 3 dX11_image_65 rfl rfl ?_
    refine vv_aload_n 66 0 dX11_image_66 rfl rfl ?_
    obtain ⟨k32, h⟩ := sh_chk h
    refine vv_getR 67 dX11_image_67 fl_11_53 rfl (g_l_0 hG) k32.1 ?_
    refine vv_topr (fun r33 er33 => ?_)
    rw [sh_let_eq er33] at h
    have k32r : sh_r μ 0 7 = some r33 ∧ (r33 = 8 ∨ r33 = 29) := by rw [er33]; exact k32
    refine vv_getI 70 dX11_image_70 fl_11_180 rfl (gP_l hG k32r.2) ?_
    refine vv_icmp_ge 73 151 dX11_image_73 (by decide) (fun c34 => ?_) (fun c34 => ?_)
    · rw [if_pos c34] at h
      refine vv_aload_n 151 0 dX11_image_151 rfl rfl ?_
      refine vv_getR 152 dX11_image_152 fl_11_111 rfl (g_l_0 hG) (g_r_0_17 hG) ?_
      refine vv_iload_n 155 2 dX11_image_155 rfl rfl ?_
      refine vv_aload_n 156 0 dX11_image_156 rfl rfl ?_
      refine vv_getR 157 dX11_image_157 fl_11_111 rfl (g_l_0 hG) (g_r_0_17 hG) ?_
      refine vv_iload_n 160 2 dX11_image_160 rfl rfl ?_
      obtain ⟨y37, μ35, hr36, h⟩ := sh_bind_e h
      refine v1_callS [_, _] 161 dX11_image_161 ck_X11_398 (t_X11_checkOf hG (sh_LAYat_289) hr36) (Nat.le_of_ble_eq_true rfl) ⟨Nat.le_of_ble_eq_true rfl, Nat.le_of_ble_eq_true rfl⟩ rfl (Nat.le_of_ble_eq_true rfl) ?_
      have hG35 := gp_X11_checkOf hG (sh_LAYat_289) hr36
      obtain ⟨k38, h⟩ := sh_chk h
      refine vn_iast 164 dX11_image_164 (g_l_289 hG35) k38 (fun μ39 eμ39 => ?_)
      rw [sh_let_eq eμ39] at h
      have hG39 : sh_G μ39 := by rw [eμ39]; exact hG35
      refine vv_aload_n 165 0 dX11_image_165 rfl rfl ?_
      refine vv_iload_n 166 2 dX11_image_166 rfl rfl ?_
      refine vv_iconst 167 dX11_image_167 ik_1 ?_
      refine vv_iadd 168 dX11_image_168 ?_
      refine vn_putI 169 dX11_image_169 fl_11_402 (Or.inl rfl) rfl (g_l_0 hG39) (fun μ40 eμ40 => ?_)
      rw [sh_let_eq eμ40] at h
      have hG40 : sh_G μ40 := by rw [eμ40]; exact hG39
      refine vv_aload_n 172 0 dX11_image_172 rfl rfl ?_
      refine vv_getI 173 dX11_image_173 fl_11_402 rfl (g_l_0 hG40) ?_
      obtain ⟨e1, e2⟩ := sh_some2 h
      refine vv_iret 176 dX11_image_176 rfl (Nat.le_refl _) (Nat.le_refl _) ⟨by rw [e1], e2⟩
    · rw [if_neg c34] at h
      refine vv_aload_n 76 0 dX11_image_76 rfl rfl ?_
      refine vv_getR 77 dX11_image_77 fl_11_111 rfl (g_l_0 hG) (g_r_0_17 hG) ?_
      refine vv_iload_n 80 2 dX11_image_80 rfl rfl ?_
      refine vv_aload_n 81 0 dX11_image_81 rfl rfl ?_
      refine vv_getR 82 dX11_image_82 fl_11_60 rfl (g_l_0 hG) (g_r_0_8 hG) ?_
      refine vv_getR 85 dX11_image_85 fl_11_223 rfl (g_l_49 hG) (g_r_49_2 hG) ?_
      refine vv_iload_n 88 3 dX11_image_88 rfl rfl ?_
      obtain ⟨k41, h⟩ := sh_chk h
      refine vv_iald 89 dX11_image_89 (g_l_51 hG) k41 ?_
      obtain ⟨k42, h⟩ := sh_chk h
      refine vn_iast 90 dX11_image_90 (g_l_289 hG) k42 (fun μ43 eμ43 => ?_)
      rw [sh_let_eq eμ43] at h
      have hG43 : sh_G μ43 := by rw [eμ43]; exact hG
      refine vv_aload_n 91 0 dX11_image_91 rfl rfl ?_
      refine vv_getR 92 dX11_image_92 fl_11_111 rfl (g_l_0 hG43) (g_r_0_17 hG43) ?_
      refine vv_iload_n 95 2 dX11_image_95 rfl rfl ?_
      refine vv_iconst 96 dX11_image_96 ik_1 ?_
      refine vv_iadd 97 dX11_image_97 ?_
      refine vv_aload_n 98 0 dX11_image_98 rfl rfl ?_
      refine vv_getR 99 dX11_image_99 fl_11_60 rfl (g_l_0 hG43) (g_r_0_8 hG43) ?_
      refine vv_getR 102 dX11_image_102 fl_11_226 rfl (g_l_49 hG43) (g_r_49_3 hG43) ?_
      refine vv_iload_n 105 3 dX11_image_105 rfl rfl ?_
      obtain ⟨k44, h⟩ := sh_chk h
      refine vv_iald 106 dX11_image_106 (g_l_52 hG43) k44 ?_
      obtain ⟨k45, h⟩ := sh_chk h
      refine vn_iast 107 dX11_image_107 (g_l_289 hG43) k45 (fun μ46 eμ46 => ?_)
      rw [sh_let_eq eμ46] at h
      have hG46 : sh_G μ46 := by rw [eμ46]; exact hG43
      refine vv_aload_n 108 0 dX11_image_108 rfl rfl ?_
      refine vv_getR 109 dX11_image_109 fl_11_111 rfl (g_l_0 hG46) (g_r_0_17 hG46) ?_
      refine vv_iload_n 112 2 dX11_image_112 rfl rfl ?_
      refine vv_iconst 113 dX11_image_113 ik_2 ?_
      refine vv_iadd 114 dX11_image_114 ?_
      refine vv_aload_n 115 0 dX11_image_115 rfl rfl ?_
      refine vv_getR 116 dX11_image_116 fl_11_60 rfl (g_l_0 hG46) (g_r_0_8 hG46) ?_
      refine vv_getR 119 dX11_image_119 fl_11_229 rfl (g_l_49 hG46) (g_r_49_4 hG46) ?_
      refine vv_iload_n 122 3 dX11_image_122 rfl rfl ?_
      obtain ⟨k47, h⟩ := sh_chk h
      refine vv_iald 123 dX11_image_123 (g_l_53 hG46) k47 ?_
      obtain ⟨k48, h⟩ := sh_chk h
      refine vn_iast 124 dX11_image_124 (g_l_289 hG46) k48 (fun μ49 eμ49 => ?_)
      rw [sh_let_eq eμ49] at h
      have hG49 : sh_G μ49 := by rw [eμ49]; exact hG46
      refine vv_aload_n 125 0 dX11_image_125 rfl rfl ?_
      refine vv_getR 126 dX11_image_126 fl_11_111 rfl (g_l_0 hG49) (g_r_0_17 hG49) ?_
      refine vv_iload_n 129 2 dX11_image_129 rfl rfl ?_
      refine vv_iconst 130 dX11_image_130 ik_3 ?_
      refine vv_iadd 131 dX11_image_131 ?_
      refine vv_aload_n 132 0 dX11_image_132 rfl rfl ?_
      refine vv_getR 133 dX11_image_133 fl_11_60 rfl (g_l_0 hG49) (g_r_0_8 hG49) ?_
      refine vv_getR 136 dX11_image_136 fl_11_232 rfl (g_l_49 hG49) (g_r_49_5 hG49) ?_
      refine vv_iload_n 139 3 dX11_image_139 rfl rfl ?_
      obtain ⟨k50, h⟩ := sh_chk h
      refine vv_iald 140 dX11_image_140 (g_l_54 hG49) k50 ?_
      obtain ⟨k51, h⟩ := sh_chk h
      refine vn_iast 141 dX11_image_141 (g_l_289 hG49) k51 (fun μ52 eμ52 => ?_)
      rw [sh_let_eq eμ52] at h
      have hG52 : sh_G μ52 := by rw [eμ52]; exact hG49
      refine vv_iincc (lv' := [(2, _), (0, _), (1, _), (3, _)]) 142 2 dX11_image_142 rfl ik_4 (by decide) rfl ?_
      refine vv_iincc (lv' := [(3, _), (2, _), (0, _), (1, _)]) 145 3 dX11_image_145 rfl ik_1 (by decide) rfl ?_
      refine vv_goto 148 65 dX11_image_148 (by decide) ?_
      refine vv_sub [(0, _), (1, _), (2, _), (3, _)] (sh_subm [2, 3, 1, 0] rfl) ?_
      exact ih_65 hG52 h
theorem gp_X11_image {μ μ' : sh_Mem} {v : Int32} (hG : sh_G μ) (h : f_X11_image μ = some (v, μ')) : sh_G μ' := by
  have ih_65 := (gpl_X11_image 1000000)
  unfold f_X11_image at h
  obtain ⟨k53, h⟩ := sh_chk h
  obtain ⟨r54, er54⟩ : ∃ y : Nat, y = (sh_ref μ 0 7) := ⟨_, rfl⟩
  rw [sh_let_eq er54] at h
  have k53r : sh_r μ 0 7 = some r54 ∧ (r54 = 8 ∨ r54 = 29) := by rw [er54]; exact k53
  obtain ⟨x55, ex55⟩ : ∃ y : Int32, y = (f_X5_cells μ r54) := ⟨_, rfl⟩
  rw [sh_let_eq ex55] at h
  obtain ⟨μ56, eμ56⟩ : ∃ y : sh_Mem, y = (sh_setI μ 289 (Int32.toNatClampNeg 0) ((sh_i μ 49 0) / 256)) := ⟨_, rfl⟩
  rw [sh_let_eq eμ56] at h
  have hG56 : sh_G μ56 := by rw [eμ56]; exact hG
  obtain ⟨μ57, eμ57⟩ : ∃ y : sh_Mem, y = (sh_setI μ56 289 (Int32.toNatClampNeg 1) ((sh_i μ56 49 0) - (sh_i μ56 49 0) / 256 * 256)) := ⟨_, rfl⟩
  rw [sh_let_eq eμ57] at h
  have hG57 : sh_G μ57 := by rw [eμ57]; exact hG56
  obtain ⟨k58, h⟩ := sh_chk h
  obtain ⟨k59, h⟩ := sh_chk h
  obtain ⟨k60, h⟩ := sh_chk h
  obtain ⟨μ61, eμ61⟩ : ∃ y : sh_Mem, y = (sh_rowI μ57 289 (va_cpy (sh_i μ57 50) (sh_i μ57 289) (Int32.toNatClampNeg 0) (Int32.toNatClampNeg 2) x55.toNatClampNeg)) := ⟨_, rfl⟩
  rw [sh_let_eq eμ61] at h
  have hG61 : sh_G μ61 := by rw [eμ61]; exact hG57
  obtain ⟨x62, ex62⟩ : ∃ y : Int32, y = (2 + x55) := ⟨_, rfl⟩
  rw [sh_let_eq ex62] at h
  exact ih_65 hG61 h
theorem t_X11_image {μ μ' : sh_Mem} {v : Int32} (hG : sh_G μ) (h : f_X11_image μ = some (v, μ')) : sh_C0 l B D ca 2 M_X11_image [.ref 0] μ (fun v0 μ0 => v0 = some (.int v) ∧ μ0 = μ') := by
  have ih_65 := (tl_X11_image (l := l) (B := B) (D := D) (ca := ca) 1000000)
  unfold f_X11_image at h
  refine vv_aload_n 0 0 dX11_image_0 rfl rfl ?_
  obtain ⟨k53, h⟩ := sh_chk h
  refine vv_getR 1 dX11_image_1 fl_11_53 rfl (g_l_0 hG) k53.1 ?_
  refine vv_topr (fun r54 er54 => ?_)
  rw [sh_let_eq er54] at h
  have k53r : sh_r μ 0 7 = some r54 ∧ (r54 = 8 ∨ r54 = 29) := by rw [er54]; exact k53
  refine v1_callV [] 4 dX11_image_4 ck_X11_189 (gP_l hG k53r.2) ⟨by decide, rfl⟩ (c_X5_cells (μ := μ) hG k53r.2) (Nat.le_of_ble_eq_true rfl) ⟨Nat.le_of_ble_eq_true rfl, Nat.le_of_ble_eq_true rfl⟩ rfl (Nat.le_of_ble_eq_true rfl) ?_
  refine vv_topi (fun x55 ex55 => ?_)
  rw [sh_let_eq ex55] at h
  refine vv_istore_n (lv' := [(1, _), (0, _)]) 7 1 dX11_image_7 rfl (by decide) rfl ?_
  refine vv_aload_n 8 0 dX11_image_8 rfl rfl ?_
  refine vv_getR 9 dX11_image_9 fl_11_111 rfl (g_l_0 hG) (g_r_0_17 hG) ?_
  refine vv_iconst 12 dX11_image_12 ik_0 ?_
  refine vv_aload_n 13 0 dX11_image_13 rfl rfl ?_
  refine vv_getR 14 dX11_image_14 fl_11_60 rfl (g_l_0 hG) (g_r_0_8 hG) ?_
  refine vv_getI 17 dX11_image_17 fl_11_186 rfl (g_l_49 hG) ?_
  refine vv_sipush 20 dX11_image_20 sk_256 ?_
  refine vv_idiv 23 dX11_image_23 (by decide) ?_
  refine vn_iast 24 dX11_image_24 (g_l_289 hG) (by unfold vp_in; decide) (fun μ56 eμ56 => ?_)
  rw [sh_let_eq eμ56] at h
  have hG56 : sh_G μ56 := by rw [eμ56]; exact hG
  refine vv_aload_n 25 0 dX11_image_25 rfl rfl ?_
  refine vv_getR 26 dX11_image_26 fl_11_111 rfl (g_l_0 hG56) (g_r_0_17 hG56) ?_
  refine vv_iconst 29 dX11_image_29 ik_1 ?_
  refine vv_aload_n 30 0 dX11_image_30 rfl rfl ?_
  refine vv_getR 31 dX11_image_31 fl_11_60 rfl (g_l_0 hG56) (g_r_0_8 hG56) ?_
  refine vv_getI 34 dX11_image_34 fl_11_186 rfl (g_l_49 hG56) ?_
  refine vv_sipush 37 dX11_image_37 sk_256 ?_
  refine vv_irem 40 dX11_image_40 (by decide) ?_
  refine vn_iast 41 dX11_image_41 (g_l_289 hG56) (by unfold vp_in; decide) (fun μ57 eμ57 => ?_)
  rw [sh_let_eq eμ57] at h
  have hG57 : sh_G μ57 := by rw [eμ57]; exact hG56
  refine vv_aload_n 42 0 dX11_image_42 rfl rfl ?_
  refine vv_getR 43 dX11_image_43 fl_11_60 rfl (g_l_0 hG57) (g_r_0_8 hG57) ?_
  refine vv_getR 46 dX11_image_46 fl_11_220 rfl (g_l_49 hG57) (g_r_49_1 hG57) ?_
  refine vv_iconst 49 dX11_image_49 ik_0 ?_
  refine vv_aload_n 50 0 dX11_image_50 rfl rfl ?_
  refine vv_getR 51 dX11_image_51 fl_11_111 rfl (g_l_0 hG57) (g_r_0_17 hG57) ?_
  refine vv_iconst 54 dX11_image_54 ik_2 ?_
  refine vv_iload_n 55 1 dX11_image_55 rfl rfl ?_
  obtain ⟨k58, h⟩ := sh_chk h
  obtain ⟨k59, h⟩ := sh_chk h
  obtain ⟨k60, h⟩ := sh_chk h
  refine vn_copy 56 dX11_image_56 ck_X11_302 (g_l_50 hG57) (g_l_289 hG57) (by decide) (by decide) k58 k59 k60 (Nat.le_of_ble_eq_true rfl) (Nat.le_of_ble_eq_true rfl) (fun μ61 eμ61 => ?_)
  rw [sh_let_eq eμ61] at h
  have hG61 : sh_G μ61 := by rw [eμ61]; exact hG57
  refine vv_iconst 59 dX11_image_59 ik_2 ?_
  refine vv_iload_n 60 1 dX11_image_60 rfl rfl ?_
  refine vv_iadd 61 dX11_image_61 ?_
  refine vv_topi (fun x62 ex62 => ?_)
  rw [sh_let_eq ex62] at h
  refine vv_istore_n (lv' := [(2, _), (1, _), (0, _)]) 62 2 dX11_image_62 rfl (by decide) rfl ?_
  refine vv_iconst 63 dX11_image_63 ik_0 ?_
  refine vv_istore_n (lv' := [(3, _), (2, _), (1, _), (0, _)]) 64 3 dX11_image_64 rfl (by decide) rfl ?_
  refine vv_sub [(0, _), (1, _), (2, _), (3, _)] (sh_subm [3, 2, 1, 0] rfl) ?_
  exact ih_65 hG61 h
def F_X11_isImage : Nat → Nat → Int32 → Int32 → Int32 → Int32 → sh_Mem → Option (Int32 × sh_Mem)
  | 0, _, _, _, _, _, _ => none
  | fuel + 1, lbl, i1, i2, i3, i4, μ => match lbl with
    | 1 => (if i2 ≤ i4 then F_X11_isImage fuel 2 i1 i2 i3 i2 μ else (if sh_in i4 1600 then (if (sh_i μ 1 i4.toNatClampNeg) ≤ 99 then F_X11_isImage fuel 1 i1 i2 i3 (i4 + 1) μ else some (0, μ)) else none))
    | 2 => (if i3 ≤ i4 then some (1, μ) else sh_bind (f_X11_isPersonTold i2 i4 μ) (fun y40 μ38 => (if y40 = 0 then some (0, μ38) else F_X11_isImage fuel 2 i1 i2 i3 (i4 + 4) μ38)))
    | _ => none
def f_X11_isImage (a1 : Int32) (μ : sh_Mem) : Option (Int32 × sh_Mem) := (if (sh_r μ 0 7 = some (sh_ref μ 0 7) ∧ ((sh_ref μ 0 7) = 8 ∨ (sh_ref μ 0 7) = 29)) then sh_let (sh_ref μ 0 7) (fun r43 => sh_let ((2 + (f_X5_cells μ r43)) : Int32) (fun x44 => (if (sh_r μ 0 7 = some (sh_ref μ 0 7) ∧ ((sh_ref μ 0 7) = 8 ∨ (sh_ref μ 0 7) = 29)) then sh_let (sh_ref μ 0 7) (fun r46 => sh_let ((x44 + ((sh_i μ r46 3) * 4)) : Int32) (fun x47 => sh_bind (f_X11_isPlain μ) (fun y50 μ48 => (if y50 = 0 then some (0, μ48) else (if a1 = (x47 + 1) then (if sh_in x47 1600 then sh_bind (f_X11_checkOf 1 1600 x47 μ48) (fun y56 μ54 => (if (sh_i μ48 1 x47.toNatClampNeg) = y56 then (if (((sh_i μ54 1 (Int32.toNatClampNeg 0)) * 256) + (sh_i μ54 1 (Int32.toNatClampNeg 1))) ≤ 999 then F_X11_isImage 1000000 1 a1 x44 x47 2 μ54 else some (0, μ54)) else some (0, μ54))) else none) else some (0, μ48)))))) else none))) else none)
theorem gpl_X11_isImage (fuel : Nat) : (∀ ⦃i1 : Int32⦄ ⦃i2 : Int32⦄ ⦃i3 : Int32⦄ ⦃i4 : Int32⦄ ⦃μ μ' : sh_Mem⦄ ⦃v : Int32⦄, sh_G μ → F_X11_isImage fuel 1 i1 i2 i3 i4 μ = some (v, μ') → sh_G μ') ∧ (∀ ⦃i1 : Int32⦄ ⦃i2 : Int32⦄ ⦃i3 : Int32⦄ ⦃i4 : Int32⦄ ⦃μ μ' : sh_Mem⦄ ⦃v : Int32⦄, sh_G μ → F_X11_isImage fuel 2 i1 i2 i3 i4 μ = some (v, μ') → sh_G μ') := by
  induction fuel with
  | zero => exact ⟨(by intro i1 i2 i3 i4 μ μ' v hG h; cases h), (by intro i1 i2 i3 i4 μ μ' v hG h; cases h)⟩
  | succ fuel ih =>
    obtain ⟨ih_81, ih_110⟩ := ih
    refine ⟨?_, ?_⟩
    · intro i1 i2 i3 i4 μ μ' v hG h
      replace h : ((if i2 ≤ i4 then F_X11_isImage fuel 2 i1 i2 i3 i2 μ else (if sh_in i4 1600 then (if (sh_i μ 1 i4.toNatClampNeg) ≤ 99 then F_X11_isImage fuel 1 i1 i2 i3 (i4 + 1) μ else some (0, μ)) else none)) : Option (Int32 × sh_Mem)) = some (v, μ') := h
      by_cases c34 : i2 ≤ i4
      · rw [if_pos c34] at h
        exact ih_110 hG h
      · rw [if_neg c34] at h
        obtain ⟨k35, h⟩ := sh_chk h
        by_cases c36 : (sh_i μ 1 i4.toNatClampNeg) ≤ 99
        · rw [if_pos c36] at h
          exact ih_81 hG h
        · rw [if_neg c36] at h
          obtain ⟨e1, e2⟩ := sh_some2 h
          exact e2 ▸ hG
    · intro i1 i2 i3 i4 μ μ' v hG h
      replace h : ((if i3 ≤ i4 then some (1, μ) else sh_bind (f_X11_isPersonTold i2 i4 μ) (fun y40 μ38 => (if y40 = 0 then some (0, μ38) else F_X11_isImage fuel 2 i1 i2 i3 (i4 + 4) μ38))) : Option (Int32 × sh_Mem)) = some (v, μ') := h
      by_cases c37 : i3 ≤ i4
      · rw [if_pos c37] at h
        obtain ⟨e1, e2⟩ := sh_some2 h
        exact e2 ▸ hG
      · rw [if_neg c37] at h
        obtain ⟨y40, μ38, hr39, h⟩ := sh_bind_e h
        have hG38 := gp_X11_isPersonTold hG hr39
        by_cases c41 : y40 = 0
        · rw [if_pos c41] at h
          obtain ⟨e1, e2⟩ := sh_some2 h
          exact e2 ▸ hG38
        · rw [if_neg c41] at h
          exact ih_110 hG38 h
theorem tl_X11_isImage (fuel : Nat) : (∀ ⦃i1 : Int32⦄ ⦃i2 : Int32⦄ ⦃i3 : Int32⦄ ⦃i4 : Int32⦄ ⦃μ μ' : sh_Mem⦄ ⦃v : Int32⦄, sh_G μ → F_X11_isImage fuel 1 i1 i2 i3 i4 μ = some (v, μ') → sh_V0 l B D ca 3 M_X11_isImage 81 [(0, .ref 0), (1, .int i1), (2, .int i2), (3, .int i3), (4, .int i4)] [] μ (fun v0 μ0 => v0 = some (.int v) ∧ μ0 = μ')) ∧ (∀ ⦃i1 : Int32⦄ ⦃i2 : Int32⦄ ⦃i3 : Int32⦄ ⦃i4 : Int32⦄ ⦃μ μ' : sh_Mem⦄ ⦃v : Int32⦄, sh_G μ → F_X11_isImage fuel 2 i1 i2 i3 i4 μ = some (v, μ') → sh_V0 l B D ca 3 M_X11_isImage 110 [(0, .ref 0), (1, .int i1), (2, .int i2), (3, .int i3), (4, .int i4)] [] μ (fun v0 μ0 => v0 = some (.int v) ∧ μ0 = μ')) := by
  induction fuel with
  | zero => exact ⟨(by intro i1 i2 i3 i4 μ μ' v hG h; cases h), (by intro i1 i2 i3 i4 μ μ' v hG h; cases h)⟩
  | succ fuel ih =>
    obtain ⟨ih_81, ih_110⟩ := ih
    refine ⟨?_, ?_⟩
    · intro i1 i2 i3 i4 μ μ' v hG h
      replace h : ((if i2 ≤ i4 then F_X11_isImage fuel 2 i1 i2 i3 i2 μ else (if sh_in i4 1600 then (if (sh_i μ 1 i4.toNatClampNeg) ≤ 99 then F_X11_isImage fuel 1 i1 i2 i3 (i4 + 1) μ else some (0, μ)) else none)) : Option (Int32 × sh_Mem)) = some (v, μ') := h
      refine vv_iload 81 4 dX11_isImage_81 rfl ?_
      refine vv_iload_n 83 2 dX11_isImage_83 rfl rfl ?_
      refine vv_icmp_ge 84 107 dX11_isImage_84 (by decide) (fun c34 => ?_) (fun c34 => ?_)
      · rw [if_pos c34] at h
        refine vv_iload_n 107 2 dX11_isImage_107 rfl rfl ?_
        refine vv_istore (lv' := [(4, _), (0, _), (1, _), (2, _), (3, _)]) 108 4 dX11_isImage_108 (by decide) rfl ?_
        refine vv_sub [(0, _), (1, _), (2, _), (3, _), (4, _)] (sh_subm [1, 2, 3, 4, 0] rfl) ?_
        exact ih_110 hG h
      · rw [if_neg c34] at h
        refine vv_aload_n 87 0 dX11_isImage_87 rfl rfl ?_
        refine vv_getR 88 dX11_isImage_88 fl_11_9 rfl (g_l_0 hG) (g_r_0_0 hG) ?_
        refine vv_iload 91 4 dX11_isImage_91 rfl ?_
        obtain ⟨k35, h⟩ := sh_chk h
        refine vv_iald 93 dX11_isImage_93 (g_l_1 hG) k35 ?_
        refine vv_bipush 94 dX11_isImage_94 bk_99 ?_
        refine vv_icmp_le 96 101 dX11_isImage_96 (by decide) (fun c36 => ?_) (fun c36 => ?_)
        · rw [if_pos c36] at h
          refine vv_iincc (lv' := [(4, _), (0, _), (1, _), (2, _), (3, _)]) 101 4 dX11_isImage_101 rfl ik_1 (by decide) rfl ?_
          refine vv_goto 104 81 dX11_isImage_104 (by decide) ?_
          refine vv_sub [(0, _), (1, _), (2, _), (3, _), (4, _)] (sh_subm [1, 2, 3, 4, 0] rfl) ?_
          exact ih_81 hG h
        · rw [if_neg c36] at h
          refine vv_iconst 99 dX11_isImage_99 ik_0 ?_
          obtain ⟨e1, e2⟩ := sh_some2 h
          refine vv_zret 100 dX11_isImage_100 rfl rfl (Nat.le_refl _) (Nat.le_refl _) ⟨by rw [e1], e2⟩
    · intro i1 i2 i3 i4 μ μ' v hG h
      replace h : ((if i3 ≤ i4 then some (1, μ) else sh_bind (f_X11_isPersonTold i2 i4 μ) (fun y40 μ38 => (if y40 = 0 then some (0, μ38) else F_X11_isImage fuel 2 i1 i2 i3 (i4 + 4) μ38))) : Option (Int32 × sh_Mem)) = some (v, μ') := h
      refine vv_iload 110 4 dX11_isImage_110 rfl ?_
      refine vv_iload_n 112 3 dX11_isImage_112 rfl rfl ?_
      refine vv_icmp_ge 113 134 dX11_isImage_113 (by decide) (fun c37 => ?_) (fun c37 => ?_)
      · rw [if_pos c37] at h
        refine vv_iconst 134 dX11_isImage_134 ik_1 ?_
        obtain ⟨e1, e2⟩ := sh_some2 h
        refine vv_zret 135 dX11_isImage_135 rfl rfl (Nat.le_refl _) (Nat.le_refl _) ⟨by rw [e1], e2⟩
      · rw [if_neg c37] at h
        refine vv_aload_n 116 0 dX11_isImage_116 rfl rfl ?_
        refine vv_iload_n 117 2 dX11_isImage_117 rfl rfl ?_
        refine vv_iload 118 4 dX11_isImage_118 rfl ?_
        obtain ⟨y40, μ38, hr39, h⟩ := sh_bind_e h
        refine v1_callV [_, _] 120 dX11_isImage_120 ck_X11_408 (g_l_0 hG) ⟨by decide, rfl⟩ (t_X11_isPersonTold hG hr39) (Nat.le_of_ble_eq_true rfl) ⟨Nat.le_of_ble_eq_true rfl, Nat.le_of_ble_eq_true rfl⟩ rfl (Nat.le_of_ble_eq_true rfl) ?_
        have hG38 := gp_X11_isPersonTold hG hr39
        refine vv_if_ne 123 128 dX11_isImage_123 (by decide) (fun c41 => ?_) (fun c41 => ?_)
        · rw [if_neg c41] at h
          refine vv_iincc (lv' := [(4, _), (0, _), (1, _), (2, _), (3, _)]) 128 4 dX11_isImage_128 rfl ik_4 (by decide) rfl ?_
          refine vv_goto 131 110 dX11_isImage_131 (by decide) ?_
          refine vv_sub [(0, _), (1, _), (2, _), (3, _), (4, _)] (sh_subm [1, 2, 3, 4, 0] rfl) ?_
          exact ih_110 hG38 h
        · rw [if_pos c41] at h
          refine vv_iconst 126 dX11_isImage_126 ik_0 ?_
          obtain ⟨e1, e2⟩ := sh_some2 h
          refine vv_zret 127 dX11_isImage_127 rfl rfl (Nat.le_refl _) (Nat.le_refl _) ⟨by rw [e1], e2⟩
theorem gp_X11_isImage {a1 : Int32} {μ μ' : sh_Mem} {v : Int32} (hG : sh_G μ) (h : f_X11_isImage a1 μ = some (v, μ')) : sh_G μ' := by
  have ih_81 := (gpl_X11_isImage 1000000).1
  have ih_110 := (gpl_X11_isImage 1000000).2
  unfold f_X11_isImage at h
  obtain ⟨k42, h⟩ := sh_chk h
  obtain ⟨r43, er43⟩ : ∃ y : Nat, y = (sh_ref μ 0 7) := ⟨_, rfl⟩
  rw [sh_let_eq er43] at h
  have k42r : sh_r μ 0 7 = some r43 ∧ (r43 = 8 ∨ r43 = 29) := by rw [er43]; exact k42
  obtain ⟨x44, ex44⟩ : ∃ y : Int32, y = (2 + (f_X5_cells μ r43)) := ⟨_, rfl⟩
  rw [sh_let_eq ex44] at h
  obtain ⟨k45, h⟩ := sh_chk h
  obtain ⟨r46, er46⟩ : ∃ y : Nat, y = (sh_ref μ 0 7) := ⟨_, rfl⟩
  rw [sh_let_eq er46] at h
  have k45r : sh_r μ 0 7 = some r46 ∧ (r46 = 8 ∨ r46 = 29) := by rw [er46]; exact k45
  obtain ⟨x47, ex47⟩ : ∃ y : Int32, y = (x44 + ((sh_i μ r46 3) * 4)) := ⟨_, rfl⟩
  rw [sh_let_eq ex47] at h
  obtain ⟨y50, μ48, hr49, h⟩ := sh_bind_e h
  have hG48 := gp_X11_isPlain hG hr49
  by_cases c51 : y50 = 0
  · rw [if_pos c51] at h
    obtain ⟨e1, e2⟩ := sh_some2 h
    exact e2 ▸ hG48
  · rw [if_neg c51] at h
    by_cases c52 : a1 = (x47 + 1)
    · rw [if_pos c52] at h
      obtain ⟨k53, h⟩ := sh_chk h
      obtain ⟨y56, μ54, hr55, h⟩ := sh_bind_e h
      have hG54 := gp_X11_checkOf hG48 (sh_LAYat_1) hr55
      by_cases c57 : (sh_i μ48 1 x47.toNatClampNeg) = y56
      · rw [if_pos c57] at h
        by_cases c58 : (((sh_i μ54 1 (Int32.toNatClampNeg 0)) * 256) + (sh_i μ54 1 (Int32.toNatClampNeg 1))) ≤ 999
        · rw [if_pos c58] at h
          exact ih_81 hG54 h
        · rw [if_neg c58] at h
          obtain ⟨e1, e2⟩ := sh_some2 h
          exact e2 ▸ hG54
      · rw [if_neg c57] at h
        obtain ⟨e1, e2⟩ := sh_some2 h
        exact e2 ▸ hG54
    · rw [if_neg c52] at h
      obtain ⟨e1, e2⟩ := sh_some2 h
      exact e2 ▸ hG48
theorem t_X11_isImage {a1 : Int32} {μ μ' : sh_Mem} {v : Int32} (hG : sh_G μ) (h : f_X11_isImage a1 μ = some (v, μ')) : sh_C0 l B D ca 3 M_X11_isImage [.ref 0, .int a1] μ (fun v0 μ0 => v0 = some (.int v) ∧ μ0 = μ') := by
  have ih_81 := (tl_X11_isImage (l := l) (B := B) (D := D) (ca := ca) 1000000).1
  have ih_110 := (tl_X11_isImage (l := l) (B := B) (D := D) (ca := ca) 1000000).2
  unfold f_X11_isImage at h
  refine vv_iconst 0 dX11_isImage_0 ik_2 ?_
  refine vv_aload_n 1 0 dX11_isImage_1 rfl rfl ?_
  obtain ⟨k42, h⟩ := sh_chk h
  refine vv_getR 2 dX11_isImage_2 fl_11_53 rfl (g_l_0 hG) k42.1 ?_
  refine vv_topr (fun r43 er43 => ?_)
  rw [sh_let_eq er43] at h
  have k42r : sh_r μ 0 7 = some r43 ∧ (r43 = 8 ∨ r43 = 29) := by rw [er43]; exact k42
  refine v1_callV [] 5 dX11_isImage_5 ck_X11_189 (gP_l hG k42r.2) ⟨by decide, rfl⟩ (c_X5_cells (μ := μ) hG k42r.2) (Nat.le_of_ble_eq_true rfl) ⟨Nat.le_of_ble_eq_true rfl, Nat.le_of_ble_eq_true rfl⟩ rfl (Nat.le_of_ble_eq_true rfl) ?_
  refine vv_iadd 8 dX11_isImage_8 ?_
  refine vv_topi (fun x44 ex44 => ?_)
  rw [sh_let_eq ex44] at h
  refine vv_istore_n (lv' := [(2, _), (0, _), (1, _)]) 9 2 dX11_isImage_9 rfl (by decide) rfl ?_
  refine vv_iload_n 10 2 dX11_isImage_10 rfl rfl ?_
  refine vv_aload_n 11 0 dX11_isImage_11 rfl rfl ?_
  obtain ⟨k45, h⟩ := sh_chk h
  refine vv_getR 12 dX11_isImage_12 fl_11_53 rfl (g_l_0 hG) k45.1 ?_
  refine vv_topr (fun r46 er46 => ?_)
  rw [sh_let_eq er46] at h
  have k45r : sh_r μ 0 7 = some r46 ∧ (r46 = 8 ∨ r46 = 29) := by rw [er46]; exact k45
  refine vv_getI 15 dX11_isImage_15 fl_11_180 rfl (gP_l hG k45r.2) ?_
  refine vv_iconst 18 dX11_isImage_18 ik_4 ?_
  refine vv_imul 19 dX11_isImage_19 ?_
  refine vv_iadd 20 dX11_isImage_20 ?_
  refine vv_topi (fun x47 ex47 => ?_)
  rw [sh_let_eq ex47] at h
  refine vv_istore_n (lv' := [(3, _), (2, _), (0, _), (1, _)]) 21 3 dX11_isImage_21 rfl (by decide) rfl ?_
  refine vv_aload_n 22 0 dX11_isImage_22 rfl rfl ?_
  obtain ⟨y50, μ48, hr49, h⟩ := sh_bind_e h
  refine v1_callV [] 23 dX11_isImage_23 ck_X11_248 (g_l_0 hG) ⟨by decide, rfl⟩ (t_X11_isPlain hG hr49) (Nat.le_of_ble_eq_true rfl) ⟨Nat.le_of_ble_eq_true rfl, Nat.le_of_ble_eq_true rfl⟩ rfl (Nat.le_of_ble_eq_true rfl) ?_
  have hG48 := gp_X11_isPlain hG hr49
  refine vv_if_eq 26 76 dX11_isImage_26 (by decide) (fun c51 => ?_) (fun c51 => ?_)
  · rw [if_pos c51] at h
    refine vv_iconst 76 dX11_isImage_76 ik_0 ?_
    obtain ⟨e1, e2⟩ := sh_some2 h
    refine vv_zret 77 dX11_isImage_77 rfl rfl (Nat.le_refl _) (Nat.le_refl _) ⟨by rw [e1], e2⟩
  · rw [if_neg c51] at h
    refine vv_iload_n 29 1 dX11_isImage_29 rfl rfl ?_
    refine vv_iload_n 30 3 dX11_isImage_30 rfl rfl ?_
    refine vv_iconst 31 dX11_isImage_31 ik_1 ?_
    refine vv_iadd 32 dX11_isImage_32 ?_
    refine vv_icmp_ne 33 76 dX11_isImage_33 (by decide) (fun c52 => ?_) (fun c52 => ?_)
    · rw [if_neg c52] at h
      refine vv_iconst 76 dX11_isImage_76 ik_0 ?_
      obtain ⟨e1, e2⟩ := sh_some2 h
      refine vv_zret 77 dX11_isImage_77 rfl rfl (Nat.le_refl _) (Nat.le_refl _) ⟨by rw [e1], e2⟩
    · rw [if_pos c52] at h
      refine vv_aload_n 36 0 dX11_isImage_36 rfl rfl ?_
      refine vv_getR 37 dX11_isImage_37 fl_11_9 rfl (g_l_0 hG48) (g_r_0_0 hG48) ?_
      refine vv_iload_n 40 3 dX11_isImage_40 rfl rfl ?_
      obtain ⟨k53, h⟩ := sh_chk h
      refine vv_iald 41 dX11_isImage_41 (g_l_1 hG48) k53 ?_
      refine vv_aload_n 42 0 dX11_isImage_42 rfl rfl ?_
      refine vv_getR 43 dX11_isImage_43 fl_11_9 rfl (g_l_0 hG48) (g_r_0_0 hG48) ?_
      refine vv_iload_n 46 3 dX11_isImage_46 rfl rfl ?_
      obtain ⟨y56, μ54, hr55, h⟩ := sh_bind_e h
      refine v1_callS [_, _] 47 dX11_isImage_47 ck_X11_398 (t_X11_checkOf hG48 (sh_LAYat_1) hr55) (Nat.le_of_ble_eq_true rfl) ⟨Nat.le_of_ble_eq_true rfl, Nat.le_of_ble_eq_true rfl⟩ rfl (Nat.le_of_ble_eq_true rfl) ?_
      have hG54 := gp_X11_checkOf hG48 (sh_LAYat_1) hr55
      refine vv_icmp_ne 50 76 dX11_isImage_50 (by decide) (fun c57 => ?_) (fun c57 => ?_)
      · rw [if_neg c57] at h
        refine vv_iconst 76 dX11_isImage_76 ik_0 ?_
        obtain ⟨e1, e2⟩ := sh_some2 h
        refine vv_zret 77 dX11_isImage_77 rfl rfl (Nat.le_refl _) (Nat.le_refl _) ⟨by rw [e1], e2⟩
      · rw [if_pos c57] at h
        refine vv_aload_n 53 0 dX11_isImage_53 rfl rfl ?_
        refine vv_getR 54 dX11_isImage_54 fl_11_9 rfl (g_l_0 hG54) (g_r_0_0 hG54) ?_
        refine vv_iconst 57 dX11_isImage_57 ik_0 ?_
        refine vv_iald 58 dX11_isImage_58 (g_l_1 hG54) (by unfold vp_in; decide) ?_
        refine vv_sipush 59 dX11_isImage_59 sk_256 ?_
        refine vv_imul 62 dX11_isImage_62 ?_
        refine vv_aload_n 63 0 dX11_isImage_63 rfl rfl ?_
        refine vv_getR 64 dX11_isImage_64 fl_11_9 rfl (g_l_0 hG54) (g_r_0_0 hG54) ?_
        refine vv_iconst 67 dX11_isImage_67 ik_1 ?_
        refine vv_iald 68 dX11_isImage_68 (g_l_1 hG54) (by unfold vp_in; decide) ?_
        refine vv_iadd 69 dX11_isImage_69 ?_
        refine vv_sipush 70 dX11_isImage_70 sk_999 ?_
        refine vv_icmp_le 73 78 dX11_isImage_73 (by decide) (fun c58 => ?_) (fun c58 => ?_)
        · rw [if_pos c58] at h
          refine vv_iconst 78 dX11_isImage_78 ik_2 ?_
          refine vv_istore (lv' := [(4, _), (3, _), (2, _), (0, _), (1, _)]) 79 4 dX11_isImage_79 (by decide) rfl ?_
          refine vv_sub [(0, _), (1, _), (2, _), (3, _), (4, _)] (sh_subm [3, 4, 2, 1, 0] rfl) ?_
          exact ih_81 hG54 h
        · rw [if_neg c58] at h
          refine vv_iconst 76 dX11_isImage_76 ik_0 ?_
          obtain ⟨e1, e2⟩ := sh_some2 h
          refine vv_zret 77 dX11_isImage_77 rfl rfl (Nat.le_refl _) (Nat.le_refl _) ⟨by rw [e1], e2⟩
def F_X1_value : Nat → Nat → Nat → Nat → Int32 → Int32 → sh_Mem → Option (Int64 × sh_Mem)
  | 0, _, _, _, _, _, _ => none
  | fuel + 1, lbl, r0, r1, i2, i3, μ => match lbl with
    | 1 => (if (sh_i μ r0 1) ≤ i3 then (if i2 ≤ 0 then some (0, μ) else some ((sh_l μ (r0 + 2) (Int32.toNatClampNeg 0)), μ)) else (if (Int32.ofNat 1600) ≤ i3 then (if i2 ≤ 0 then some (0, μ) else some ((sh_l μ (r0 + 2) (Int32.toNatClampNeg 0)), μ)) else (if 64 ≤ i2 then (if i2 ≤ 0 then some (0, μ) else some ((sh_l μ (r0 + 2) (Int32.toNatClampNeg 0)), μ)) else (if sh_in i3 1600 then sh_let (((-1) - (sh_i μ (r0 + 1) i3.toNatClampNeg)) : Int32) (fun x57 => (if 0 ≤ x57 then (if (f_X1_isFact μ x57) = 0 then (if x57 = 23 then (if i2 ≤ 0 then F_X1_value fuel 1 r0 r1 i2 (i3 + 1) μ else (if sh_in (i2 - 1) 64 then sh_bind (f_X1_ofOne x57 (sh_l μ (r0 + 2) ((i2 - 1)).toNatClampNeg) r1 μ) (fun y65 μ63 => (if sh_in (i2 - 1) 64 then sh_let (sh_setL μ63 (r0 + 2) ((i2 - 1)).toNatClampNeg y65) (fun μ67 => F_X1_value fuel 1 r0 r1 i2 (i3 + 1) μ67) else none)) else none)) else (if x57 = 7 then (if i2 ≤ 0 then F_X1_value fuel 1 r0 r1 i2 (i3 + 1) μ else (if sh_in (i2 - 1) 64 then sh_bind (f_X1_ofOne x57 (sh_l μ (r0 + 2) ((i2 - 1)).toNatClampNeg) r1 μ) (fun y73 μ71 => (if sh_in (i2 - 1) 64 then sh_let (sh_setL μ71 (r0 + 2) ((i2 - 1)).toNatClampNeg y73) (fun μ75 => F_X1_value fuel 1 r0 r1 i2 (i3 + 1) μ75) else none)) else none)) else (if x57 = 10 then (if i2 ≤ 0 then F_X1_value fuel 1 r0 r1 i2 (i3 + 1) μ else (if sh_in (i2 - 1) 64 then sh_bind (f_X1_ofOne x57 (sh_l μ (r0 + 2) ((i2 - 1)).toNatClampNeg) r1 μ) (fun y90 μ88 => (if sh_in (i2 - 1) 64 then sh_let (sh_setL μ88 (r0 + 2) ((i2 - 1)).toNatClampNeg y90) (fun μ92 => F_X1_value fuel 1 r0 r1 i2 (i3 + 1) μ92) else none)) else none)) else (if i2 ≤ 1 then F_X1_value fuel 1 r0 r1 i2 (i3 + 1) μ else (if sh_in i3 1600 then (if sh_in ((i2 + (-1)) - 1) 64 then (if sh_in (i2 + (-1)) 64 then sh_bind (f_X1_ofTwo (sh_i μ (r0 + 1) i3.toNatClampNeg) (sh_l μ (r0 + 2) (((i2 + (-1)) - 1)).toNatClampNeg) (sh_l μ (r0 + 2) ((i2 + (-1))).toNatClampNeg) μ) (fun y83 μ81 => (if sh_in ((i2 + (-1)) - 1) 64 then sh_let (sh_setL μ81 (r0 + 2) (((i2 + (-1)) - 1)).toNatClampNeg y83) (fun μ85 => F_X1_value fuel 1 r0 r1 (i2 + (-1)) (i3 + 1) μ85) else none)) else none) else none) else none))))) else (if sh_in x57 38 then (if sh_in i2 64 then sh_let (sh_setL μ (r0 + 2) i2.toNatClampNeg ((sh_i μ r1 x57.toNatClampNeg)).toInt64) (fun μ95 => F_X1_value fuel 1 r0 r1 (i2 + 1) (i3 + 1) μ95) else none) else none)) else (if sh_in i3 1600 then (if sh_in i2 64 then sh_let (sh_setL μ (r0 + 2) i2.toNatClampNeg ((sh_i μ (r0 + 1) i3.toNatClampNeg)).toInt64) (fun μ98 => F_X1_value fuel 1 r0 r1 (i2 + 1) (i3 + 1) μ98) else none) else none))) else none))))
    | _ => none
def f_X1_value (f : Nat) (g : Nat) (μ : sh_Mem) : Option (Int64 × sh_Mem) := F_X1_value 1000000 1 f g 0 0 μ
theorem gpl_X1_value (fuel : Nat) : (∀ ⦃r0 : Nat⦄ ⦃r1 : Nat⦄ ⦃i2 : Int32⦄ ⦃i3 : Int32⦄ ⦃μ μ' : sh_Mem⦄ ⦃v : Int64⦄, sh_G μ → sh_isF r0 → sh_LAY[r1]? = some (13, 38) → F_X1_value fuel 1 r0 r1 i2 i3 μ = some (v, μ') → sh_G μ') := by
  induction fuel with
  | zero => intro r0 r1 i2 i3 μ μ' v hG hr0 hr1 h; cases h
  | succ fuel ih =>
    have ih_4 := ih
    intro r0 r1 i2 i3 μ μ' v hG hr0 hr1 h
    replace h : ((if (sh_i μ r0 1) ≤ i3 then (if i2 ≤ 0 then some (0, μ) else some ((sh_l μ (r0 + 2) (Int32.toNatClampNeg 0)), μ)) else (if (Int32.ofNat 1600) ≤ i3 then (if i2 ≤ 0 then some (0, μ) else some ((sh_l μ (r0 + 2) (Int32.toNatClampNeg 0)), μ)) else (if 64 ≤ i2 then (if i2 ≤ 0 then some (0, μ) else some ((sh_l μ (r0 + 2) (Int32.toNatClampNeg 0)), μ)) else (if sh_in i3 1600 then sh_let (((-1) - (sh_i μ (r0 + 1) i3.toNatClampNeg)) : Int32) (fun x57 => (if 0 ≤ x57 then (if (f_X1_isFact μ x57) = 0 then (if x57 = 23 then (if i2 ≤ 0 then F_X1_value fuel 1 r0 r1 i2 (i3 + 1) μ else (if sh_in (i2 - 1) 64 then sh_bind (f_X1_ofOne x57 (sh_l μ (r0 + 2) ((i2 - 1)).toNatClampNeg) r1 μ) (fun y65 μ63 => (if sh_in (i2 - 1) 64 then sh_let (sh_setL μ63 (r0 + 2) ((i2 - 1)).toNatClampNeg y65) (fun μ67 => F_X1_value fuel 1 r0 r1 i2 (i3 + 1) μ67) else none)) else none)) else (if x57 = 7 then (if i2 ≤ 0 then F_X1_value fuel 1 r0 r1 i2 (i3 + 1) μ else (if sh_in (i2 - 1) 64 then sh_bind (f_X1_ofOne x57 (sh_l μ (r0 + 2) ((i2 - 1)).toNatClampNeg) r1 μ) (fun y73 μ71 => (if sh_in (i2 - 1) 64 then sh_let (sh_setL μ71 (r0 + 2) ((i2 - 1)).toNatClampNeg y73) (fun μ75 => F_X1_value fuel 1 r0 r1 i2 (i3 + 1) μ75) else none)) else none)) else (if x57 = 10 then (if i2 ≤ 0 then F_X1_value fuel 1 r0 r1 i2 (i3 + 1) μ else (if sh_in (i2 - 1) 64 then sh_bind (f_X1_ofOne x57 (sh_l μ (r0 + 2) ((i2 - 1)).toNatClampNeg) r1 μ) (fun y90 μ88 => (if sh_in (i2 - 1) 64 then sh_let (sh_setL μ88 (r0 + 2) ((i2 - 1)).toNatClampNeg y90) (fun μ92 => F_X1_value fuel 1 r0 r1 i2 (i3 + 1) μ92) else none)) else none)) else (if i2 ≤ 1 then F_X1_value fuel 1 r0 r1 i2 (i3 + 1) μ else (if sh_in i3 1600 then (if sh_in ((i2 + (-1)) - 1) 64 then (if sh_in (i2 + (-1)) 64 then sh_bind (f_X1_ofTwo (sh_i μ (r0 + 1) i3.toNatClampNeg) (sh_l μ (r0 + 2) (((i2 + (-1)) - 1)).toNatClampNeg) (sh_l μ (r0 + 2) ((i2 + (-1))).toNatClampNeg) μ) (fun y83 μ81 => (if sh_in ((i2 + (-1)) - 1) 64 then sh_let (sh_setL μ81 (r0 + 2) (((i2 + (-1)) - 1)).toNatClampNeg y83) (fun μ85 => F_X1_value fuel 1 r0 r1 (i2 + (-1)) (i3 + 1) μ85) else none)) else none) else none) else none))))) else (if sh_in x57 38 then (if sh_in i2 64 then sh_let (sh_setL μ (r0 + 2) i2.toNatClampNeg ((sh_i μ r1 x57.toNatClampNeg)).toInt64) (fun μ95 => F_X1_value fuel 1 r0 r1 (i2 + 1) (i3 + 1) μ95) else none) else none)) else (if sh_in i3 1600 then (if sh_in i2 64 then sh_let (sh_setL μ (r0 + 2) i2.toNatClampNeg ((sh_i μ (r0 + 1) i3.toNatClampNeg)).toInt64) (fun μ98 => F_X1_value fuel 1 r0 r1 (i2 + 1) (i3 + 1) μ98) else none) else none))) else none)))) : Option (Int64 × sh_Mem)) = some (v, μ') := h
    by_cases c50 : (sh_i μ r0 1) ≤ i3
    · rw [if_pos c50] at h
      by_cases c51 : i2 ≤ 0
      · rw [if_pos c51] at h
        obtain ⟨e1, e2⟩ := sh_some2 h
        exact e2 ▸ hG
      · rw [if_neg c51] at h
        obtain ⟨e1, e2⟩ := sh_some2 h
        exact e2 ▸ hG
    · rw [if_neg c50] at h
      by_cases c52 : (Int32.ofNat 1600) ≤ i3
      · rw [if_pos c52] at h
        by_cases c53 : i2 ≤ 0
        · rw [if_pos c53] at h
          obtain ⟨e1, e2⟩ := sh_some2 h
          exact e2 ▸ hG
        · rw [if_neg c53] at h
          obtain ⟨e1, e2⟩ := sh_some2 h
          exact e2 ▸ hG
      · rw [if_neg c52] at h
        by_cases c54 : 64 ≤ i2
        · rw [if_pos c54] at h
          by_cases c55 : i2 ≤ 0
          · rw [if_pos c55] at h
            obtain ⟨e1, e2⟩ := sh_some2 h
            exact e2 ▸ hG
          · rw [if_neg c55] at h
            obtain ⟨e1, e2⟩ := sh_some2 h
            exact e2 ▸ hG
        · rw [if_neg c54] at h
          obtain ⟨k56, h⟩ := sh_chk h
          obtain ⟨x57, ex57⟩ : ∃ y : Int32, y = ((-1) - (sh_i μ (r0 + 1) i3.toNatClampNeg)) := ⟨_, rfl⟩
          rw [sh_let_eq ex57] at h
          by_cases c58 : 0 ≤ x57
          · rw [if_pos c58] at h
            by_cases c59 : (f_X1_isFact μ x57) = 0
            · rw [if_pos c59] at h
              by_cases c60 : x57 = 23
              · rw [if_pos c60] at h
                by_cases c61 : i2 ≤ 0
                · rw [if_pos c61] at h
                  exact ih_4 hG hr0 hr1 h
                · rw [if_neg c61] at h
                  obtain ⟨k62, h⟩ := sh_chk h
                  obtain ⟨y65, μ63, hr64, h⟩ := sh_bind_e h
                  have hG63 := gp_X1_ofOne hG hr1 hr64
                  obtain ⟨k66, h⟩ := sh_chk h
                  obtain ⟨μ67, eμ67⟩ : ∃ y : sh_Mem, y = (sh_setL μ63 (r0 + 2) ((i2 - 1)).toNatClampNeg y65) := ⟨_, rfl⟩
                  rw [sh_let_eq eμ67] at h
                  have hG67 : sh_G μ67 := by rw [eμ67]; exact hG63
                  exact ih_4 hG67 hr0 hr1 h
              · rw [if_neg c60] at h
                by_cases c68 : x57 = 7
                · rw [if_pos c68] at h
                  by_cases c69 : i2 ≤ 0
                  · rw [if_pos c69] at h
                    exact ih_4 hG hr0 hr1 h
                  · rw [if_neg c69] at h
                    obtain ⟨k70, h⟩ := sh_chk h
                    obtain ⟨y73, μ71, hr72, h⟩ := sh_bind_e h
                    have hG71 := gp_X1_ofOne hG hr1 hr72
                    obtain ⟨k74, h⟩ := sh_chk h
                    obtain ⟨μ75, eμ75⟩ : ∃ y : sh_Mem, y = (sh_setL μ71 (r0 + 2) ((i2 - 1)).toNatClampNeg y73) := ⟨_, rfl⟩
                    rw [sh_let_eq eμ75] at h
                    have hG75 : sh_G μ75 := by rw [eμ75]; exact hG71
                    exact ih_4 hG75 hr0 hr1 h
                · rw [if_neg c68] at h
                  by_cases c76 : x57 = 10
                  · rw [if_pos c76] at h
                    by_cases c86 : i2 ≤ 0
                    · rw [if_pos c86] at h
                      exact ih_4 hG hr0 hr1 h
                    · rw [if_neg c86] at h
                      obtain ⟨k87, h⟩ := sh_chk h
                      obtain ⟨y90, μ88, hr89, h⟩ := sh_bind_e h
                      have hG88 := gp_X1_ofOne hG hr1 hr89
                      obtain ⟨k91, h⟩ := sh_chk h
                      obtain ⟨μ92, eμ92⟩ : ∃ y : sh_Mem, y = (sh_setL μ88 (r0 + 2) ((i2 - 1)).toNatClampNeg y90) := ⟨_, rfl⟩
                      rw [sh_let_eq eμ92] at h
                      have hG92 : sh_G μ92 := by rw [eμ92]; exact hG88
                      exact ih_4 hG92 hr0 hr1 h
                  · rw [if_neg c76] at h
                    by_cases c77 : i2 ≤ 1
                    · rw [if_pos c77] at h
                      exact ih_4 hG hr0 hr1 h
                    · rw [if_neg c77] at h
                      obtain ⟨k78, h⟩ := sh_chk h
                      obtain ⟨k79, h⟩ := sh_chk h
                      obtain ⟨k80, h⟩ := sh_chk h
                      obtain ⟨y83, μ81, hr82, h⟩ := sh_bind_e h
                      have hG81 := gp_X1_ofTwo hG hr82
                      obtain ⟨k84, h⟩ := sh_chk h
                      obtain ⟨μ85, eμ85⟩ : ∃ y : sh_Mem, y = (sh_setL μ81 (r0 + 2) (((i2 + (-1)) - 1)).toNatClampNeg y83) := ⟨_, rfl⟩
                      rw [sh_let_eq eμ85] at h
                      have hG85 : sh_G μ85 := by rw [eμ85]; exact hG81
                      exact ih_4 hG85 hr0 hr1 h
            · rw [if_neg c59] at h
              obtain ⟨k93, h⟩ := sh_chk h
              obtain ⟨k94, h⟩ := sh_chk h
              obtain ⟨μ95, eμ95⟩ : ∃ y : sh_Mem, y = (sh_setL μ (r0 + 2) i2.toNatClampNeg ((sh_i μ r1 x57.toNatClampNeg)).toInt64) := ⟨_, rfl⟩
              rw [sh_let_eq eμ95] at h
              have hG95 : sh_G μ95 := by rw [eμ95]; exact hG
              exact ih_4 hG95 hr0 hr1 h
          · rw [if_neg c58] at h
            obtain ⟨k96, h⟩ := sh_chk h
            obtain ⟨k97, h⟩ := sh_chk h
            obtain ⟨μ98, eμ98⟩ : ∃ y : sh_Mem, y = (sh_setL μ (r0 + 2) i2.toNatClampNeg ((sh_i μ (r0 + 1) i3.toNatClampNeg)).toInt64) := ⟨_, rfl⟩
            rw [sh_let_eq eμ98] at h
            have hG98 : sh_G μ98 := by rw [eμ98]; exact hG
            exact ih_4 hG98 hr0 hr1 h
theorem tl_X1_value (fuel : Nat) : (∀ ⦃r0 : Nat⦄ ⦃r1 : Nat⦄ ⦃i2 : Int32⦄ ⦃i3 : Int32⦄ ⦃μ μ' : sh_Mem⦄ ⦃v : Int64⦄, sh_G μ → sh_isF r0 → sh_LAY[r1]? = some (13, 38) → F_X1_value fuel 1 r0 r1 i2 i3 μ = some (v, μ') → sh_V0 l B D ca 3 M_X1_value 4 [(0, .ref r0), (1, .ref r1), (2, .int i2), (3, .int i3)] [] μ (fun v0 μ0 => v0 = some (.long v) ∧ μ0 = μ')) := by
  induction fuel with
  | zero => intro r0 r1 i2 i3 μ μ' v hG hr0 hr1 h; cases h
  | succ fuel ih =>
    have ih_4 := ih
    intro r0 r1 i2 i3 μ μ' v hG hr0 hr1 h
    replace h : ((if (sh_i μ r0 1) ≤ i3 then (if i2 ≤ 0 then some (0, μ) else some ((sh_l μ (r0 + 2) (Int32.toNatClampNeg 0)), μ)) else (if (Int32.ofNat 1600) ≤ i3 then (if i2 ≤ 0 then some (0, μ) else some ((sh_l μ (r0 + 2) (Int32.toNatClampNeg 0)), μ)) else (if 64 ≤ i2 then (if i2 ≤ 0 then some (0, μ) else some ((sh_l μ (r0 + 2) (Int32.toNatClampNeg 0)), μ)) else (if sh_in i3 1600 then sh_let (((-1) - (sh_i μ (r0 + 1) i3.toNatClampNeg)) : Int32) (fun x57 => (if 0 ≤ x57 then (if (f_X1_isFact μ x57) = 0 then (if x57 = 23 then (if i2 ≤ 0 then F_X1_value fuel 1 r0 r1 i2 (i3 + 1) μ else (if sh_in (i2 - 1) 64 then sh_bind (f_X1_ofOne x57 (sh_l μ (r0 + 2) ((i2 - 1)).toNatClampNeg) r1 μ) (fun y65 μ63 => (if sh_in (i2 - 1) 64 then sh_let (sh_setL μ63 (r0 + 2) ((i2 - 1)).toNatClampNeg y65) (fun μ67 => F_X1_value fuel 1 r0 r1 i2 (i3 + 1) μ67) else none)) else none)) else (if x57 = 7 then (if i2 ≤ 0 then F_X1_value fuel 1 r0 r1 i2 (i3 + 1) μ else (if sh_in (i2 - 1) 64 then sh_bind (f_X1_ofOne x57 (sh_l μ (r0 + 2) ((i2 - 1)).toNatClampNeg) r1 μ) (fun y73 μ71 => (if sh_in (i2 - 1) 64 then sh_let (sh_setL μ71 (r0 + 2) ((i2 - 1)).toNatClampNeg y73) (fun μ75 => F_X1_value fuel 1 r0 r1 i2 (i3 + 1) μ75) else none)) else none)) else (if x57 = 10 then (if i2 ≤ 0 then F_X1_value fuel 1 r0 r1 i2 (i3 + 1) μ else (if sh_in (i2 - 1) 64 then sh_bind (f_X1_ofOne x57 (sh_l μ (r0 + 2) ((i2 - 1)).toNatClampNeg) r1 μ) (fun y90 μ88 => (if sh_in (i2 - 1) 64 then sh_let (sh_setL μ88 (r0 + 2) ((i2 - 1)).toNatClampNeg y90) (fun μ92 => F_X1_value fuel 1 r0 r1 i2 (i3 + 1) μ92) else none)) else none)) else (if i2 ≤ 1 then F_X1_value fuel 1 r0 r1 i2 (i3 + 1) μ else (if sh_in i3 1600 then (if sh_in ((i2 + (-1)) - 1) 64 then (if sh_in (i2 + (-1)) 64 then sh_bind (f_X1_ofTwo (sh_i μ (r0 + 1) i3.toNatClampNeg) (sh_l μ (r0 + 2) (((i2 + (-1)) - 1)).toNatClampNeg) (sh_l μ (r0 + 2) ((i2 + (-1))).toNatClampNeg) μ) (fun y83 μ81 => (if sh_in ((i2 + (-1)) - 1) 64 then sh_let (sh_setL μ81 (r0 + 2) (((i2 + (-1)) - 1)).toNatClampNeg y83) (fun μ85 => F_X1_value fuel 1 r0 r1 (i2 + (-1)) (i3 + 1) μ85) else none)) else none) else none) else none))))) else (if sh_in x57 38 then (if sh_in i2 64 then sh_let (sh_setL μ (r0 + 2) i2.toNatClampNeg ((sh_i μ r1 x57.toNatClampNeg)).toInt64) (fun μ95 => F_X1_value fuel 1 r0 r1 (i2 + 1) (i3 + 1) μ95) else none) else none)) else (if sh_in i3 1600 then (if sh_in i2 64 then sh_let (sh_setL μ (r0 + 2) i2.toNatClampNeg ((sh_i μ (r0 + 1) i3.toNatClampNeg)).toInt64) (fun μ98 => F_X1_value fuel 1 r0 r1 (i2 + 1) (i3 + 1) μ98) else none) else none))) else none)))) : Option (Int64 × sh_Mem)) = some (v, μ') := h
    refine vv_iload_n 4 3 dX1_value_4 rfl rfl ?_
    refine vv_aload_n 5 0 dX1_value_5 rfl rfl ?_
    refine vv_getI 6 dX1_value_6 fl_1_19 rfl (gF_l hG hr0) ?_
    refine vv_icmp_ge 9 181 dX1_value_9 (by decide) (fun c50 => ?_) (fun c50 => ?_)
    · rw [if_pos c50] at h
      refine vv_iload_n 181 2 dX1_value_181 rfl rfl ?_
      refine vv_if_le 182 194 dX1_value_182 (by decide) (fun c51 => ?_) (fun c51 => ?_)
      · rw [if_pos c51] at h
        refine vv_lconst 194 dX1_value_194 lk_0 ?_
        obtain ⟨e1, e2⟩ := sh_some2 h
        refine vv_lret 195 dX1_value_195 rfl (Nat.le_refl _) (Nat.le_refl _) ⟨by rw [e1], e2⟩
      · rw [if_neg c51] at h
        refine vv_aload_n 185 0 dX1_value_185 rfl rfl ?_
        refine vv_getR 186 dX1_value_186 fl_1_15 rfl (gF_l hG hr0) (gF_r2 hG hr0) ?_
        refine vv_iconst 189 dX1_value_189 ik_0 ?_
        refine vv_lald 190 dX1_value_190 (gA_l hG (gFA2 hr0)) (by unfold vp_in; decide) ?_
        refine vv_goto 191 195 dX1_value_191 (by decide) ?_
        obtain ⟨e1, e2⟩ := sh_some2 h
        refine vv_lret 195 dX1_value_195 rfl (Nat.le_refl _) (Nat.le_refl _) ⟨by rw [e1], e2⟩
    · rw [if_neg c50] at h
      refine vv_iload_n 12 3 dX1_value_12 rfl rfl ?_
      refine vv_aload_n 13 0 dX1_value_13 rfl rfl ?_
      refine vv_getR 14 dX1_value_14 fl_1_9 rfl (gF_l hG hr0) (gF_r0 hG hr0) ?_
      refine vv_alen 17 dX1_value_17 (gA_l hG (gFA0 hr0)) (by decide) ?_
      refine vv_icmp_ge 18 181 dX1_value_18 (by decide) (fun c52 => ?_) (fun c52 => ?_)
      · rw [if_pos c52] at h
        refine vv_iload_n 181 2 dX1_value_181 rfl rfl ?_
        refine vv_if_le 182 194 dX1_value_182 (by decide) (fun c53 => ?_) (fun c53 => ?_)
        · rw [if_pos c53] at h
          refine vv_lconst 194 dX1_value_194 lk_0 ?_
          obtain ⟨e1, e2⟩ := sh_some2 h
          refine vv_lret 195 dX1_value_195 rfl (Nat.le_refl _) (Nat.le_refl _) ⟨by rw [e1], e2⟩
        · rw [if_neg c53] at h
          refine vv_aload_n 185 0 dX1_value_185 rfl rfl ?_
          refine vv_getR 186 dX1_value_186 fl_1_15 rfl (gF_l hG hr0) (gF_r2 hG hr0) ?_
          refine vv_iconst 189 dX1_value_189 ik_0 ?_
          refine vv_lald 190 dX1_value_190 (gA_l hG (gFA2 hr0)) (by unfold vp_in; decide) ?_
          refine vv_goto 191 195 dX1_value_191 (by decide) ?_
          obtain ⟨e1, e2⟩ := sh_some2 h
          refine vv_lret 195 dX1_value_195 rfl (Nat.le_refl _) (Nat.le_refl _) ⟨by rw [e1], e2⟩
      · rw [if_neg c52] at h
        refine vv_iload_n 21 2 dX1_value_21 rfl rfl ?_
        refine vv_bipush 22 dX1_value_22 bk_64 ?_
        refine vv_icmp_ge 24 181 dX1_value_24 (by decide) (fun c54 => ?_) (fun c54 => ?_)
        · rw [if_pos c54] at h
          refine vv_iload_n 181 2 dX1_value_181 rfl rfl ?_
          refine vv_if_le 182 194 dX1_value_182 (by decide) (fun c55 => ?_) (fun c55 => ?_)
          · rw [if_pos c55] at h
            refine vv_lconst 194 dX1_value_194 lk_0 ?_
            obtain ⟨e1, e2⟩ := sh_some2 h
            refine vv_lret 195 dX1_value_195 rfl (Nat.le_refl _) (Nat.le_refl _) ⟨by rw [e1], e2⟩
          · rw [if_neg c55] at h
            refine vv_aload_n 185 0 dX1_value_185 rfl rfl ?_
            refine vv_getR 186 dX1_value_186 fl_1_15 rfl (gF_l hG hr0) (gF_r2 hG hr0) ?_
            refine vv_iconst 189 dX1_value_189 ik_0 ?_
            refine vv_lald 190 dX1_value_190 (gA_l hG (gFA2 hr0)) (by unfold vp_in; decide) ?_
            refine vv_goto 191 195 dX1_value_191 (by decide) ?_
            obtain ⟨e1, e2⟩ := sh_some2 h
            refine vv_lret 195 dX1_value_195 rfl (Nat.le_refl _) (Nat.le_refl _) ⟨by rw [e1], e2⟩
        · rw [if_neg c54] at h
          refine vv_iconst 27 dX1_value_27 ik_m1 ?_
          refine vv_aload_n 28 0 dX1_value_28 rfl rfl ?_
          refine vv_getR 29 dX1_value_29 fl_1_9 rfl (gF_l hG hr0) (gF_r0 hG hr0) ?_
          refine vv_iload_n 32 3 dX1_value_32 rfl rfl ?_
          obtain ⟨k56, h⟩ := sh_chk h
          refine vv_iald 33 dX1_value_33 (gA_l hG (gFA0 hr0)) k56 ?_
          refine vv_isub 34 dX1_value_34 ?_
          refine vv_topi (fun x57 ex57 => ?_)
          rw [sh_let_eq ex57] at h
          refine vv_istore (lv' := [(4, _), (0, _), (1, _), (2, _), (3, _)]) 35 4 dX1_value_35 (by decide) rfl ?_
          refine vv_iload 37 4 dX1_value_37 rfl ?_
          refine vv_if_ge 39 61 dX1_value_39 (by decide) (fun c58 => ?_) (fun c58 => ?_)
          · rw [if_pos c58] at h
            refine vv_iload 61 4 dX1_value_61 rfl ?_
            refine v1_callS [_] 63 dX1_value_63 ck_X1_27 (c_X1_isFact (μ := μ) hG) (Nat.le_of_ble_eq_true rfl) ⟨Nat.le_of_ble_eq_true rfl, Nat.le_of_ble_eq_true rfl⟩ rfl (Nat.le_of_ble_eq_true rfl) ?_
            refine vv_if_eq 66 86 dX1_value_66 (by decide) (fun c59 => ?_) (fun c59 => ?_)
            · rw [if_pos c59] at h
              refine vv_iload 86 4 dX1_value_86 rfl ?_
              refine vv_bipush 88 dX1_value_88 bk_23 ?_
              refine vv_icmp_eq 90 107 dX1_value_90 (by decide) (fun c60 => ?_) (fun c60 => ?_)
              · rw [if_pos c60] at h
                refine vv_iload_n 107 2 dX1_value_107 rfl rfl ?_
                refine vv_if_le 108 175 dX1_value_108 (by decide) (fun c61 => ?_) (fun c61 => ?_)
                · rw [if_pos c61] at h
                  refine vv_iincc (lv' := [(3, _), (4, _), (0, _), (1, _), (2, _)]) 175 3 dX1_value_175 rfl ik_1 (by decide) rfl ?_
                  refine vv_goto 178 4 dX1_value_178 (by decide) ?_
                  refine vv_sub [(0, _), (1, _), (2, _), (3, _)] (sh_subm [2, 3, 4, 0] rfl) ?_
                  exact ih_4 hG hr0 hr1 h
                · rw [if_neg c61] at h
                  refine vv_aload_n 111 0 dX1_value_111 rfl rfl ?_
                  refine vv_getR 112 dX1_value_112 fl_1_15 rfl (gF_l hG hr0) (gF_r2 hG hr0) ?_
                  refine vv_iload_n 115 2 dX1_value_115 rfl rfl ?_
                  refine vv_iconst 116 dX1_value_116 ik_1 ?_
                  refine vv_isub 117 dX1_value_117 ?_
                  refine vv_iload 118 4 dX1_value_118 rfl ?_
                  refine vv_aload_n 120 0 dX1_value_120 rfl rfl ?_
                  refine vv_getR 121 dX1_value_121 fl_1_15 rfl (gF_l hG hr0) (gF_r2 hG hr0) ?_
                  refine vv_iload_n 124 2 dX1_value_124 rfl rfl ?_
                  refine vv_iconst 125 dX1_value_125 ik_1 ?_
                  refine vv_isub 126 dX1_value_126 ?_
                  obtain ⟨k62, h⟩ := sh_chk h
                  refine vv_lald 127 dX1_value_127 (gA_l hG (gFA2 hr0)) k62 ?_
                  refine vv_aload_n 128 1 dX1_value_128 rfl rfl ?_
                  obtain ⟨y65, μ63, hr64, h⟩ := sh_bind_e h
                  refine v1_callS [_, _, _] 129 dX1_value_129 ck_X1_31 (t_X1_ofOne hG hr1 hr64) (Nat.le_of_ble_eq_true rfl) ⟨Nat.le_of_ble_eq_true rfl, Nat.le_of_ble_eq_true rfl⟩ rfl (Nat.le_of_ble_eq_true rfl) ?_
                  have hG63 := gp_X1_ofOne hG hr1 hr64
                  obtain ⟨k66, h⟩ := sh_chk h
                  refine vn_last 132 dX1_value_132 (gA_l hG63 (gFA2 hr0)) k66 (fun μ67 eμ67 => ?_)
                  rw [sh_let_eq eμ67] at h
                  have hG67 : sh_G μ67 := by rw [eμ67]; exact hG63
                  refine vv_goto 133 175 dX1_value_133 (by decide) ?_
                  refine vv_iincc (lv' := [(3, _), (4, _), (0, _), (1, _), (2, _)]) 175 3 dX1_value_175 rfl ik_1 (by decide) rfl ?_
                  refine vv_goto 178 4 dX1_value_178 (by decide) ?_
                  refine vv_sub [(0, _), (1, _), (2, _), (3, _)] (sh_subm [2, 3, 4, 0] rfl) ?_
                  exact ih_4 hG67 hr0 hr1 h
              · rw [if_neg c60] at h
                refine vv_iload 93 4 dX1_value_93 rfl ?_
                refine vv_bipush 95 dX1_value_95 bk_7 ?_
                refine vv_icmp_eq 97 107 dX1_value_97 (by decide) (fun c68 => ?_) (fun c68 => ?_)
                · rw [if_pos c68] at h
                  refine vv_iload_n 107 2 dX1_value_107 rfl rfl ?_
                  refine vv_if_le 108 175 dX1_value_108 (by decide) (fun c69 => ?_) (fun c69 => ?_)
                  · rw [if_pos c69] at h
                    refine vv_iincc (lv' := [(3, _), (4, _), (0, _), (1, _), (2, _)]) 175 3 dX1_value_175 rfl ik_1 (by decide) rfl ?_
                    refine vv_goto 178 4 dX1_value_178 (by decide) ?_
                    refine vv_sub [(0, _), (1, _), (2, _), (3, _)] (sh_subm [2, 3, 4, 0] rfl) ?_
                    exact ih_4 hG hr0 hr1 h
                  · rw [if_neg c69] at h
                    refine vv_aload_n 111 0 dX1_value_111 rfl rfl ?_
                    refine vv_getR 112 dX1_value_112 fl_1_15 rfl (gF_l hG hr0) (gF_r2 hG hr0) ?_
                    refine vv_iload_n 115 2 dX1_value_115 rfl rfl ?_
                    refine vv_iconst 116 dX1_value_116 ik_1 ?_
                    refine vv_isub 117 dX1_value_117 ?_
                    refine vv_iload 118 4 dX1_value_118 rfl ?_
                    refine vv_aload_n 120 0 dX1_value_120 rfl rfl ?_
                    refine vv_getR 121 dX1_value_121 fl_1_15 rfl (gF_l hG hr0) (gF_r2 hG hr0) ?_
                    refine vv_iload_n 124 2 dX1_value_124 rfl rfl ?_
                    refine vv_iconst 125 dX1_value_125 ik_1 ?_
                    refine vv_isub 126 dX1_value_126 ?_
                    obtain ⟨k70, h⟩ := sh_chk h
                    refine vv_lald 127 dX1_value_127 (gA_l hG (gFA2 hr0)) k70 ?_
                    refine vv_aload_n 128 1 dX1_value_128 rfl rfl ?_
                    obtain ⟨y73, μ71, hr72, h⟩ := sh_bind_e h
                    refine v1_callS [_, _, _] 129 dX1_value_129 ck_X1_31 (t_X1_ofOne hG hr1 hr72) (Nat.le_of_ble_eq_true rfl) ⟨Nat.le_of_ble_eq_true rfl, Nat.le_of_ble_eq_true rfl⟩ rfl (Nat.le_of_ble_eq_true rfl) ?_
                    have hG71 := gp_X1_ofOne hG hr1 hr72
                    obtain ⟨k74, h⟩ := sh_chk h
                    refine vn_last 132 dX1_value_132 (gA_l hG71 (gFA2 hr0)) k74 (fun μ75 eμ75 => ?_)
                    rw [sh_let_eq eμ75] at h
                    have hG75 : sh_G μ75 := by rw [eμ75]; exact hG71
                    refine vv_goto 133 175 dX1_value_133 (by decide) ?_
                    refine vv_iincc (lv' := [(3, _), (4, _), (0, _), (1, _), (2, _)]) 175 3 dX1_value_175 rfl ik_1 (by decide) rfl ?_
                    refine vv_goto 178 4 dX1_value_178 (by decide) ?_
                    refine vv_sub [(0, _), (1, _), (2, _), (3, _)] (sh_subm [2, 3, 4, 0] rfl) ?_
                    exact ih_4 hG75 hr0 hr1 h
                · rw [if_neg c68] at h
                  refine vv_iload 100 4 dX1_value_100 rfl ?_
                  refine vv_bipush 102 dX1_value_102 bk_10 ?_
                  refine vv_icmp_ne 104 136 dX1_value_104 (by decide) (fun c76 => ?_) (fun c76 => ?_)
                  · rw [if_neg c76] at h
                    refine vv_iload_n 136 2 dX1_value_136 rfl rfl ?_
                    refine vv_iconst 137 dX1_value_137 ik_1 ?_
                    refine vv_icmp_le 138 175 dX1_value_138 (by decide) (fun c77 => ?_) (fun c77 => ?_)
                    · rw [if_pos c77] at h
                      refine vv_iincc (lv' := [(3, _), (4, _), (0, _), (1, _), (2, _)]) 175 3 dX1_value_175 rfl ik_1 (by decide) rfl ?_
                      refine vv_goto 178 4 dX1_value_178 (by decide) ?_
                      refine vv_sub [(0, _), (1, _), (2, _), (3, _)] (sh_subm [2, 3, 4, 0] rfl) ?_
                      exact ih_4 hG hr0 hr1 h
                    · rw [if_neg c77] at h
                      refine vv_iincc (lv' := [(2, _), (4, _), (0, _), (1, _), (3, _)]) 141 2 dX1_value_141 rfl ik_m1 (by decide) rfl ?_
                      refine vv_aload_n 144 0 dX1_value_144 rfl rfl ?_
                      refine vv_getR 145 dX1_value_145 fl_1_15 rfl (gF_l hG hr0) (gF_r2 hG hr0) ?_
                      refine vv_iload_n 148 2 dX1_value_148 rfl rfl ?_
                      refine vv_iconst 149 dX1_value_149 ik_1 ?_
                      refine vv_isub 150 dX1_value_150 ?_
                      refine vv_aload_n 151 0 dX1_value_151 rfl rfl ?_
                      refine vv_getR 152 dX1_value_152 fl_1_9 rfl (gF_l hG hr0) (gF_r0 hG hr0) ?_
                      refine vv_iload_n 155 3 dX1_value_155 rfl rfl ?_
                      obtain ⟨k78, h⟩ := sh_chk h
                      refine vv_iald 156 dX1_value_156 (gA_l hG (gFA0 hr0)) k78 ?_
                      refine vv_aload_n 157 0 dX1_value_157 rfl rfl ?_
                      refine vv_getR 158 dX1_value_158 fl_1_15 rfl (gF_l hG hr0) (gF_r2 hG hr0) ?_
                      refine vv_iload_n 161 2 dX1_value_161 rfl rfl ?_
                      refine vv_iconst 162 dX1_value_162 ik_1 ?_
                      refine vv_isub 163 dX1_value_163 ?_
                      obtain ⟨k79, h⟩ := sh_chk h
                      refine vv_lald 164 dX1_value_164 (gA_l hG (gFA2 hr0)) k79 ?_
                      refine vv_aload_n 165 0 dX1_value_165 rfl rfl ?_
                      refine vv_getR 166 dX1_value_166 fl_1_15 rfl (gF_l hG hr0) (gF_r2 hG hr0) ?_
                      refine vv_iload_n 169 2 dX1_value_169 rfl rfl ?_
                      obtain ⟨k80, h⟩ := sh_chk h
                      refine vv_lald 170 dX1_value_170 (gA_l hG (gFA2 hr0)) k80 ?_
                      obtain ⟨y83, μ81, hr82, h⟩ := sh_bind_e h
                      refine v1_callS [_, _, _] 171 dX1_value_171 ck_X1_35 (t_X1_ofTwo hG hr82) (Nat.le_of_ble_eq_true rfl) ⟨Nat.le_of_ble_eq_true rfl, Nat.le_of_ble_eq_true rfl⟩ rfl (Nat.le_of_ble_eq_true rfl) ?_
                      have hG81 := gp_X1_ofTwo hG hr82
                      obtain ⟨k84, h⟩ := sh_chk h
                      refine vn_last 174 dX1_value_174 (gA_l hG81 (gFA2 hr0)) k84 (fun μ85 eμ85 => ?_)
                      rw [sh_let_eq eμ85] at h
                      have hG85 : sh_G μ85 := by rw [eμ85]; exact hG81
                      refine vv_iincc (lv' := [(3, _), (2, _), (4, _), (0, _), (1, _)]) 175 3 dX1_value_175 rfl ik_1 (by decide) rfl ?_
                      refine vv_goto 178 4 dX1_value_178 (by decide) ?_
                      refine vv_sub [(0, _), (1, _), (2, _), (3, _)] (sh_subm [3, 4, 1, 0] rfl) ?_
                      exact ih_4 hG85 hr0 hr1 h
                  · rw [if_pos c76] at h
                    refine vv_iload_n 107 2 dX1_value_107 rfl rfl ?_
                    refine vv_if_le 108 175 dX1_value_108 (by decide) (fun c86 => ?_) (fun c86 => ?_)
                    · rw [if_pos c86] at h
                      refine vv_iincc (lv' := [(3, _), (4, _), (0, _), (1, _), (2, _)]) 175 3 dX1_value_175 rfl ik_1 (by decide) rfl ?_
                      refine vv_goto 178 4 dX1_value_178 (by decide) ?_
                      refine vv_sub [(0, _), (1, _), (2, _), (3, _)] (sh_subm [2, 3, 4, 0] rfl) ?_
                      exact ih_4 hG hr0 hr1 h
                    · rw [if_neg c86] at h
                      refine vv_aload_n 111 0 dX1_value_111 rfl rfl ?_
                      refine vv_getR 112 dX1_value_112 fl_1_15 rfl (gF_l hG hr0) (gF_r2 hG hr0) ?_
                      refine vv_iload_n 115 2 dX1_value_115 rfl rfl ?_
                      refine vv_iconst 116 dX1_value_116 ik_1 ?_
                      refine vv_isub 117 dX1_value_117 ?_
                      refine vv_iload 118 4 dX1_value_118 rfl ?_
                      refine vv_aload_n 120 0 dX1_value_120 rfl rfl ?_
                      refine vv_getR 121 dX1_value_121 fl_1_15 rfl (gF_l hG hr0) (gF_r2 hG hr0) ?_
                      refine vv_iload_n 124 2 dX1_value_124 rfl rfl ?_
                      refine vv_iconst 125 dX1_value_125 ik_1 ?_
                      refine vv_isub 126 dX1_value_126 ?_
                      obtain ⟨k87, h⟩ := sh_chk h
                      refine vv_lald 127 dX1_value_127 (gA_l hG (gFA2 hr0)) k87 ?_
                      refine vv_aload_n 128 1 dX1_value_128 rfl rfl ?_
                      obtain ⟨y90, μ88, hr89, h⟩ := sh_bind_e h
                      refine v1_callS [_, _, _] 129 dX1_value_129 ck_X1_31 (t_X1_ofOne hG hr1 hr89) (Nat.le_of_ble_eq_true rfl) ⟨Nat.le_of_ble_eq_true rfl, Nat.le_of_ble_eq_true rfl⟩ rfl (Nat.le_of_ble_eq_true rfl) ?_
                      have hG88 := gp_X1_ofOne hG hr1 hr89
                      obtain ⟨k91, h⟩ := sh_chk h
                      refine vn_last 132 dX1_value_132 (gA_l hG88 (gFA2 hr0)) k91 (fun μ92 eμ92 => ?_)
                      rw [sh_let_eq eμ92] at h
                      have hG92 : sh_G μ92 := by rw [eμ92]; exact hG88
                      refine vv_goto 133 175 dX1_value_133 (by decide) ?_
                      refine vv_iincc (lv' := [(3, _), (4, _), (0, _), (1, _), (2, _)]) 175 3 dX1_value_175 rfl ik_1 (by decide) rfl ?_
                      refine vv_goto 178 4 dX1_value_178 (by decide) ?_
                      refine vv_sub [(0, _), (1, _), (2, _), (3, _)] (sh_subm [2, 3, 4, 0] rfl) ?_
                      exact ih_4 hG92 hr0 hr1 h
            · rw [if_neg c59] at h
              refine vv_aload_n 69 0 dX1_value_69 rfl rfl ?_
              refine vv_getR 70 dX1_value_70 fl_1_15 rfl (gF_l hG hr0) (gF_r2 hG hr0) ?_
              refine vv_iload_n 73 2 dX1_value_73 rfl rfl ?_
              refine vv_aload_n 74 1 dX1_value_74 rfl rfl ?_
              refine vv_iload 75 4 dX1_value_75 rfl ?_
              obtain ⟨k93, h⟩ := sh_chk h
              refine vv_iald 77 dX1_value_77 (gA_l hG hr1) k93 ?_
              refine vv_i2l 78 dX1_value_78 ?_
              obtain ⟨k94, h⟩ := sh_chk h
              refine vn_last 79 dX1_value_79 (gA_l hG (gFA2 hr0)) k94 (fun μ95 eμ95 => ?_)
              rw [sh_let_eq eμ95] at h
              have hG95 : sh_G μ95 := by rw [eμ95]; exact hG
              refine vv_iincc (lv' := [(2, _), (4, _), (0, _), (1, _), (3, _)]) 80 2 dX1_value_80 rfl ik_1 (by decide) rfl ?_
              refine vv_goto 83 175 dX1_value_83 (by decide) ?_
              refine vv_iincc (lv' := [(3, _), (2, _), (4, _), (0, _), (1, _)]) 175 3 dX1_value_175 rfl ik_1 (by decide) rfl ?_
              refine vv_goto 178 4 dX1_value_178 (by decide) ?_
              refine vv_sub [(0, _), (1, _), (2, _), (3, _)] (sh_subm [3, 4, 1, 0] rfl) ?_
              exact ih_4 hG95 hr0 hr1 h
          · rw [if_neg c58] at h
            refine vv_aload_n 42 0 dX1_value_42 rfl rfl ?_
            refine vv_getR 43 dX1_value_43 fl_1_15 rfl (gF_l hG hr0) (gF_r2 hG hr0) ?_
            refine vv_iload_n 46 2 dX1_value_46 rfl rfl ?_
            refine vv_aload_n 47 0 dX1_value_47 rfl rfl ?_
            refine vv_getR 48 dX1_value_48 fl_1_9 rfl (gF_l hG hr0) (gF_r0 hG hr0) ?_
            refine vv_iload_n 51 3 dX1_value_51 rfl rfl ?_
            obtain ⟨k96, h⟩ := sh_chk h
            refine vv_iald 52 dX1_value_52 (gA_l hG (gFA0 hr0)) k96 ?_
            refine vv_i2l 53 dX1_value_53 ?_
            obtain ⟨k97, h⟩ := sh_chk h
            refine vn_last 54 dX1_value_54 (gA_l hG (gFA2 hr0)) k97 (fun μ98 eμ98 => ?_)
            rw [sh_let_eq eμ98] at h
            have hG98 : sh_G μ98 := by rw [eμ98]; exact hG
            refine vv_iincc (lv' := [(2, _), (4, _), (0, _), (1, _), (3, _)]) 55 2 dX1_value_55 rfl ik_1 (by decide) rfl ?_
            refine vv_goto 58 175 dX1_value_58 (by decide) ?_
            refine vv_iincc (lv' := [(3, _), (2, _), (4, _), (0, _), (1, _)]) 175 3 dX1_value_175 rfl ik_1 (by decide) rfl ?_
            refine vv_goto 178 4 dX1_value_178 (by decide) ?_
            refine vv_sub [(0, _), (1, _), (2, _), (3, _)] (sh_subm [3, 4, 1, 0] rfl) ?_
            exact ih_4 hG98 hr0 hr1 h
theorem gp_X1_value {f : Nat} {g : Nat} {μ μ' : sh_Mem} {v : Int64} (hG : sh_G μ) (hf : sh_isF f) (hg : sh_LAY[g]? = some (13, 38)) (h : f_X1_value f g μ = some (v, μ')) : sh_G μ' := by
  have ih_4 := (gpl_X1_value 1000000)
  unfold f_X1_value at h
  exact ih_4 hG hf hg h
theorem t_X1_value {f : Nat} {g : Nat} {μ μ' : sh_Mem} {v : Int64} (hG : sh_G μ) (hf : sh_isF f) (hg : sh_LAY[g]? = some (13, 38)) (h : f_X1_value f g μ = some (v, μ')) : sh_C0 l B D ca 3 M_X1_value [.ref f, .ref g] μ (fun v0 μ0 => v0 = some (.long v) ∧ μ0 = μ') := by
  have ih_4 := (tl_X1_value (l := l) (B := B) (D := D) (ca := ca) 1000000)
  unfold f_X1_value at h
  refine vv_iconst 0 dX1_value_0 ik_0 ?_
  refine vv_istore_n (lv' := [(2, _), (0, _), (1, _)]) 1 2 dX1_value_1 rfl (by decide) rfl ?_
  refine vv_iconst 2 dX1_value_2 ik_0 ?_
  refine vv_istore_n (lv' := [(3, _), (2, _), (0, _), (1, _)]) 3 3 dX1_value_3 rfl (by decide) rfl ?_
  refine vv_sub [(0, _), (1, _), (2, _), (3, _)] (sh_subm [2, 3, 1, 0] rfl) ?_
  exact ih_4 hG hf hg h
def F_X9_cost : Nat → Nat → Nat → Nat → Int32 → Int32 → Int32 → Int32 → Int32 → sh_Mem → Option (Int32 × sh_Mem)
  | 0, _, _, _, _, _, _, _, _, _ => none
  | fuel + 1, lbl, r1, r2, i3, i4, i5, i6, i7, μ => match lbl with
    | 1 => (if 49 ≤ i6 then (if sh_in i4 49 then some ((sh_i μ 288 i4.toNatClampNeg), μ) else none) else (if i5 = 0 then (if sh_in i4 49 then some ((sh_i μ 288 i4.toNatClampNeg), μ) else none) else F_X9_cost fuel 2 r1 r2 i3 i4 0 i6 0 μ))
    | 2 => (if (f_X5_cells μ r1) ≤ i7 then F_X9_cost fuel 1 r1 r2 i3 i4 i5 (i6 + 1) 0 μ else sh_bind (f_X9_improves r1 r2 i7 μ) (fun y31 μ29 => (if y31 = 0 then F_X9_cost fuel 2 r1 r2 i3 i4 i5 i6 (i7 + 1) μ29 else F_X9_cost fuel 2 r1 r2 i3 i4 1 i6 (i7 + 1) μ29)))
    | _ => none
def f_X9_cost (p1 : Nat) (q2 : Nat) (a3 : Int32) (a4 : Int32) (μ : sh_Mem) : Option (Int32 × sh_Mem) := sh_bindv (f_J7_fill_53178 288 49 1000000 μ) (fun μ33 => (if sh_in a3 49 then sh_let (sh_setI μ33 288 a3.toNatClampNeg 0) (fun μ37 => F_X9_cost 1000000 1 p1 q2 a3 a4 1 0 0 μ37) else none))
theorem gpl_X9_cost (fuel : Nat) : (∀ ⦃r1 : Nat⦄ ⦃r2 : Nat⦄ ⦃i3 : Int32⦄ ⦃i4 : Int32⦄ ⦃i5 : Int32⦄ ⦃i6 : Int32⦄ ⦃i7 : Int32⦄ ⦃μ μ' : sh_Mem⦄ ⦃v : Int32⦄, sh_G μ → sh_isP r1 → sh_isL r2 → F_X9_cost fuel 1 r1 r2 i3 i4 i5 i6 i7 μ = some (v, μ') → sh_G μ') ∧ (∀ ⦃r1 : Nat⦄ ⦃r2 : Nat⦄ ⦃i3 : Int32⦄ ⦃i4 : Int32⦄ ⦃i5 : Int32⦄ ⦃i6 : Int32⦄ ⦃i7 : Int32⦄ ⦃μ μ' : sh_Mem⦄ ⦃v : Int32⦄, sh_G μ → sh_isP r1 → sh_isL r2 → F_X9_cost fuel 2 r1 r2 i3 i4 i5 i6 i7 μ = some (v, μ') → sh_G μ') := by
  induction fuel with
  | zero => exact ⟨(by intro r1 r2 i3 i4 i5 i6 i7 μ μ' v hG hr1 hr2 h; cases h), (by intro r1 r2 i3 i4 i5 i6 i7 μ μ' v hG hr1 hr2 h; cases h)⟩
  | succ fuel ih =>
    obtain ⟨ih_22, ih_40⟩ := ih
    refine ⟨?_, ?_⟩
    · intro r1 r2 i3 i4 i5 i6 i7 μ μ' v hG hr1 hr2 h
      replace h : ((if 49 ≤ i6 then (if sh_in i4 49 then some ((sh_i μ 288 i4.toNatClampNeg), μ) else none) else (if i5 = 0 then (if sh_in i4 49 then some ((sh_i μ 288 i4.toNatClampNeg), μ) else none) else F_X9_cost fuel 2 r1 r2 i3 i4 0 i6 0 μ)) : Option (Int32 × sh_Mem)) = some (v, μ') := h
      by_cases c24 : 49 ≤ i6
      · rw [if_pos c24] at h
        obtain ⟨k25, h⟩ := sh_chk h
        obtain ⟨e1, e2⟩ := sh_some2 h
        exact e2 ▸ hG
      · rw [if_neg c24] at h
        by_cases c26 : i5 = 0
        · rw [if_pos c26] at h
          obtain ⟨k27, h⟩ := sh_chk h
          obtain ⟨e1, e2⟩ := sh_some2 h
          exact e2 ▸ hG
        · rw [if_neg c26] at h
          exact ih_40 hG hr1 hr2 h
    · intro r1 r2 i3 i4 i5 i6 i7 μ μ' v hG hr1 hr2 h
      replace h : ((if (f_X5_cells μ r1) ≤ i7 then F_X9_cost fuel 1 r1 r2 i3 i4 i5 (i6 + 1) 0 μ else sh_bind (f_X9_improves r1 r2 i7 μ) (fun y31 μ29 => (if y31 = 0 then F_X9_cost fuel 2 r1 r2 i3 i4 i5 i6 (i7 + 1) μ29 else F_X9_cost fuel 2 r1 r2 i3 i4 1 i6 (i7 + 1) μ29))) : Option (Int32 × sh_Mem)) = some (v, μ') := h
      by_cases c28 : (f_X5_cells μ r1) ≤ i7
      · rw [if_pos c28] at h
        exact ih_22 hG hr1 hr2 h
      · rw [if_neg c28] at h
        obtain ⟨y31, μ29, hr30, h⟩ := sh_bind_e h
        have hG29 := gp_X9_improves hG hr1 hr2 hr30
        by_cases c32 : y31 = 0
        · rw [if_pos c32] at h
          exact ih_40 hG29 hr1 hr2 h
        · rw [if_neg c32] at h
          exact ih_40 hG29 hr1 hr2 h
theorem tl_X9_cost (fuel : Nat) : (∀ ⦃r1 : Nat⦄ ⦃r2 : Nat⦄ ⦃i3 : Int32⦄ ⦃i4 : Int32⦄ ⦃i5 : Int32⦄ ⦃i6 : Int32⦄ ⦃i7 : Int32⦄ ⦃μ μ' : sh_Mem⦄ ⦃v : Int32⦄, sh_G μ → sh_isP r1 → sh_isL r2 → F_X9_cost fuel 1 r1 r2 i3 i4 i5 i6 i7 μ = some (v, μ') → sh_V0 l B D ca 4 M_X9_cost 22 [(0, .ref 287), (1, .ref r1), (2, .ref r2), (3, .int i3), (4, .int i4), (5, .int i5), (6, .int i6)] [] μ (fun v0 μ0 => v0 = some (.int v) ∧ μ0 = μ')) ∧ (∀ ⦃r1 : Nat⦄ ⦃r2 : Nat⦄ ⦃i3 : Int32⦄ ⦃i4 : Int32⦄ ⦃i5 : Int32⦄ ⦃i6 : Int32⦄ ⦃i7 : Int32⦄ ⦃μ μ' : sh_Mem⦄ ⦃v : Int32⦄, sh_G μ → sh_isP r1 → sh_isL r2 → F_X9_cost fuel 2 r1 r2 i3 i4 i5 i6 i7 μ = some (v, μ') → sh_V0 l B D ca 4 M_X9_cost 40 [(0, .ref 287), (1, .ref r1), (2, .ref r2), (3, .int i3), (4, .int i4), (5, .int i5), (6, .int i6), (7, .int i7)] [] μ (fun v0 μ0 => v0 = some (.int v) ∧ μ0 = μ')) := by
  induction fuel with
  | zero => exact ⟨(by intro r1 r2 i3 i4 i5 i6 i7 μ μ' v hG hr1 hr2 h; cases h), (by intro r1 r2 i3 i4 i5 i6 i7 μ μ' v hG hr1 hr2 h; cases h)⟩
  | succ fuel ih =>
    obtain ⟨ih_22, ih_40⟩ := ih
    refine ⟨?_, ?_⟩
    · intro r1 r2 i3 i4 i5 i6 i7 μ μ' v hG hr1 hr2 h
      replace h : ((if 49 ≤ i6 then (if sh_in i4 49 then some ((sh_i μ 288 i4.toNatClampNeg), μ) else none) else (if i5 = 0 then (if sh_in i4 49 then some ((sh_i μ 288 i4.toNatClampNeg), μ) else none) else F_X9_cost fuel 2 r1 r2 i3 i4 0 i6 0 μ)) : Option (Int32 × sh_Mem)) = some (v, μ') := h
      refine vv_iload 22 6 dX9_cost_22 rfl ?_
      refine vv_bipush 24 dX9_cost_24 bk_49 ?_
      refine vv_icmp_ge 26 75 dX9_cost_26 (by decide) (fun c24 => ?_) (fun c24 => ?_)
      · rw [if_pos c24] at h
        refine vv_aload_n 75 0 dX9_cost_75 rfl rfl ?_
        refine vv_getR 76 dX9_cost_76 fl_9_9 rfl (g_l_287 hG) (g_r_287_0 hG) ?_
        refine vv_iload 79 4 dX9_cost_79 rfl ?_
        obtain ⟨k25, h⟩ := sh_chk h
        refine vv_iald 81 dX9_cost_81 (g_l_288 hG) k25 ?_
        obtain ⟨e1, e2⟩ := sh_some2 h
        refine vv_iret 82 dX9_cost_82 rfl (Nat.le_refl _) (Nat.le_refl _) ⟨by rw [e1], e2⟩
      · rw [if_neg c24] at h
        refine vv_iload 29 5 dX9_cost_29 rfl ?_
        refine vv_if_eq 31 75 dX9_cost_31 (by decide) (fun c26 => ?_) (fun c26 => ?_)
        · rw [if_pos c26] at h
          refine vv_aload_n 75 0 dX9_cost_75 rfl rfl ?_
          refine vv_getR 76 dX9_cost_76 fl_9_9 rfl (g_l_287 hG) (g_r_287_0 hG) ?_
          refine vv_iload 79 4 dX9_cost_79 rfl ?_
          obtain ⟨k27, h⟩ := sh_chk h
          refine vv_iald 81 dX9_cost_81 (g_l_288 hG) k27 ?_
          obtain ⟨e1, e2⟩ := sh_some2 h
          refine vv_iret 82 dX9_cost_82 rfl (Nat.le_refl _) (Nat.le_refl _) ⟨by rw [e1], e2⟩
        · rw [if_neg c26] at h
          refine vv_iconst 34 dX9_cost_34 ik_0 ?_
          refine vv_istore (lv' := [(5, _), (0, _), (1, _), (2, _), (3, _), (4, _), (6, _)]) 35 5 dX9_cost_35 (by decide) rfl ?_
          refine vv_iconst 37 dX9_cost_37 ik_0 ?_
          refine vv_istore (lv' := [(7, _), (5, _), (0, _), (1, _), (2, _), (3, _), (4, _), (6, _)]) 38 7 dX9_cost_38 (by decide) rfl ?_
          refine vv_sub [(0, _), (1, _), (2, _), (3, _), (4, _), (5, _), (6, _), (7, _)] (sh_subm [2, 3, 4, 5, 6, 1, 7, 0] rfl) ?_
          exact ih_40 hG hr1 hr2 h
    · intro r1 r2 i3 i4 i5 i6 i7 μ μ' v hG hr1 hr2 h
      replace h : ((if (f_X5_cells μ r1) ≤ i7 then F_X9_cost fuel 1 r1 r2 i3 i4 i5 (i6 + 1) 0 μ else sh_bind (f_X9_improves r1 r2 i7 μ) (fun y31 μ29 => (if y31 = 0 then F_X9_cost fuel 2 r1 r2 i3 i4 i5 i6 (i7 + 1) μ29 else F_X9_cost fuel 2 r1 r2 i3 i4 1 i6 (i7 + 1) μ29))) : Option (Int32 × sh_Mem)) = some (v, μ') := h
      refine vv_iload 40 7 dX9_cost_40 rfl ?_
      refine vv_aload_n 42 1 dX9_cost_42 rfl rfl ?_
      refine v1_callV [] 43 dX9_cost_43 ck_X9_22 (gP_l hG hr1) ⟨by decide, rfl⟩ (c_X5_cells (μ := μ) hG hr1) (Nat.le_of_ble_eq_true rfl) ⟨Nat.le_of_ble_eq_true rfl, Nat.le_of_ble_eq_true rfl⟩ rfl (Nat.le_of_ble_eq_true rfl) ?_
      refine vv_icmp_ge 46 69 dX9_cost_46 (by decide) (fun c28 => ?_) (fun c28 => ?_)
      · rw [if_pos c28] at h
        refine vv_iincc (lv' := [(6, _), (0, _), (1, _), (2, _), (3, _), (4, _), (5, _), (7, _)]) 69 6 dX9_cost_69 rfl ik_1 (by decide) rfl ?_
        refine vv_goto 72 22 dX9_cost_72 (by decide) ?_
        refine vv_sub [(0, _), (1, _), (2, _), (3, _), (4, _), (5, _), (6, _)] (sh_subm [1, 2, 3, 4, 5, 6, 0] rfl) ?_
        exact ih_22 hG hr1 hr2 h
      · rw [if_neg c28] at h
        refine vv_aload_n 49 0 dX9_cost_49 rfl rfl ?_
        refine vv_aload_n 50 1 dX9_cost_50 rfl rfl ?_
        refine vv_aload_n 51 2 dX9_cost_51 rfl rfl ?_
        refine vv_iload 52 7 dX9_cost_52 rfl ?_
        obtain ⟨y31, μ29, hr30, h⟩ := sh_bind_e h
        refine v1_callV [_, _, _] 54 dX9_cost_54 ck_X9_28 (g_l_287 hG) ⟨by decide, rfl⟩ (t_X9_improves hG hr1 hr2 hr30) (Nat.le_of_ble_eq_true rfl) ⟨Nat.le_of_ble_eq_true rfl, Nat.le_of_ble_eq_true rfl⟩ rfl (Nat.le_of_ble_eq_true rfl) ?_
        have hG29 := gp_X9_improves hG hr1 hr2 hr30
        refine vv_if_eq 57 63 dX9_cost_57 (by decide) (fun c32 => ?_) (fun c32 => ?_)
        · rw [if_pos c32] at h
          refine vv_iincc (lv' := [(7, _), (0, _), (1, _), (2, _), (3, _), (4, _), (5, _), (6, _)]) 63 7 dX9_cost_63 rfl ik_1 (by decide) rfl ?_
          refine vv_goto 66 40 dX9_cost_66 (by decide) ?_
          refine vv_sub [(0, _), (1, _), (2, _), (3, _), (4, _), (5, _), (6, _), (7, _)] (sh_subm [1, 2, 3, 4, 5, 6, 7, 0] rfl) ?_
          exact ih_40 hG29 hr1 hr2 h
        · rw [if_neg c32] at h
          refine vv_iconst 60 dX9_cost_60 ik_1 ?_
          refine vv_istore (lv' := [(5, _), (0, _), (1, _), (2, _), (3, _), (4, _), (6, _), (7, _)]) 61 5 dX9_cost_61 (by decide) rfl ?_
          refine vv_iincc (lv' := [(7, _), (5, _), (0, _), (1, _), (2, _), (3, _), (4, _), (6, _)]) 63 7 dX9_cost_63 rfl ik_1 (by decide) rfl ?_
          refine vv_goto 66 40 dX9_cost_66 (by decide) ?_
          refine vv_sub [(0, _), (1, _), (2, _), (3, _), (4, _), (5, _), (6, _), (7, _)] (sh_subm [2, 3, 4, 5, 6, 1, 7, 0] rfl) ?_
          exact ih_40 hG29 hr1 hr2 h
theorem gp_X9_cost {p1 : Nat} {q2 : Nat} {a3 : Int32} {a4 : Int32} {μ μ' : sh_Mem} {v : Int32} (hG : sh_G μ) (hp1 : sh_isP p1) (hq2 : sh_isL q2) (h : f_X9_cost p1 q2 a3 a4 μ = some (v, μ')) : sh_G μ' := by
  have ih_22 := (gpl_X9_cost 1000000).1
  have ih_40 := (gpl_X9_cost 1000000).2
  unfold f_X9_cost at h
  obtain ⟨μ33, hr34, h⟩ := sh_bindv_e h
  have hG33 := gp_J7_fill_53178 hG (sh_LAYat_288) hr34
  obtain ⟨k36, h⟩ := sh_chk h
  obtain ⟨μ37, eμ37⟩ : ∃ y : sh_Mem, y = (sh_setI μ33 288 a3.toNatClampNeg 0) := ⟨_, rfl⟩
  rw [sh_let_eq eμ37] at h
  have hG37 : sh_G μ37 := by rw [eμ37]; exact hG33
  exact ih_22 hG37 hp1 hq2 h
theorem t_X9_cost {p1 : Nat} {q2 : Nat} {a3 : Int32} {a4 : Int32} {μ μ' : sh_Mem} {v : Int32} (hG : sh_G μ) (hp1 : sh_isP p1) (hq2 : sh_isL q2) (h : f_X9_cost p1 q2 a3 a4 μ = some (v, μ')) : sh_C0 l B D ca 4 M_X9_cost [.ref 287, .ref p1, .ref q2, .int a3, .int a4] μ (fun v0 μ0 => v0 = some (.int v) ∧ μ0 = μ') := by
  have ih_22 := (tl_X9_cost (l := l) (B := B) (D := D) (ca := ca) 1000000).1
  have ih_40 := (tl_X9_cost (l := l) (B := B) (D := D) (ca := ca) 1000000).2
  unfold f_X9_cost at h
  refine vv_aload_n 0 0 dX9_cost_0 rfl rfl ?_
  refine vv_getR 1 dX9_cost_1 fl_9_9 rfl (g_l_287 hG) (g_r_287_0 hG) ?_
  refine vv_ldc 4 dX9_cost_4 ki_X9_15 ?_
  obtain ⟨μ33, hr34, h⟩ := sh_bindv_e h
  refine v1_callS [_, _] 6 dX9_cost_6 ck_X9_16 (t_J7_fill_53178 hG (sh_LAYat_288) hr34) (Nat.le_of_ble_eq_true rfl) ⟨Nat.le_of_ble_eq_true rfl, Nat.le_of_ble_eq_true rfl⟩ rfl (Nat.le_of_ble_eq_true rfl) ?_
  have hG33 := gp_J7_fill_53178 hG (sh_LAYat_288) hr34
  refine vv_aload_n 9 0 dX9_cost_9 rfl rfl ?_
  refine vv_getR 10 dX9_cost_10 fl_9_9 rfl (g_l_287 hG33) (g_r_287_0 hG33) ?_
  refine vv_iload_n 13 3 dX9_cost_13 rfl rfl ?_
  refine vv_iconst 14 dX9_cost_14 ik_0 ?_
  obtain ⟨k36, h⟩ := sh_chk h
  refine vn_iast 15 dX9_cost_15 (g_l_288 hG33) k36 (fun μ37 eμ37 => ?_)
  rw [sh_let_eq eμ37] at h
  have hG37 : sh_G μ37 := by rw [eμ37]; exact hG33
  refine vv_iconst 16 dX9_cost_16 ik_1 ?_
  refine vv_istore (lv' := [(5, _), (0, _), (1, _), (2, _), (3, _), (4, _)]) 17 5 dX9_cost_17 (by decide) rfl ?_
  refine vv_iconst 19 dX9_cost_19 ik_0 ?_
  refine vv_istore (lv' := [(6, _), (5, _), (0, _), (1, _), (2, _), (3, _), (4, _)]) 20 6 dX9_cost_20 (by decide) rfl ?_
  refine vv_sub [(0, _), (1, _), (2, _), (3, _), (4, _), (5, _), (6, _)] (sh_subm [2, 3, 4, 5, 6, 1, 0] rfl) ?_
  exact ih_22 hG37 hp1 hq2 h
def f_X10_deed (q1 : Nat) (a2 : Int32) (a3 : Int32) (μ : sh_Mem) : Option (Int32 × sh_Mem) := (if sh_in a2 7 then (if (((sh_i μ (q1 + 5) a2.toNatClampNeg) >>> (a3 &&& 31)) &&& 1) = 1 then some (0, μ) else sh_bindv (f_X10_gather q1 a2 56 μ) (fun μ3 => sh_let (sh_setI μ3 56 (Int32.toNatClampNeg 3) a3) (fun μ6 => (if (sh_r μ6 55 0 = some (sh_ref μ6 55 0) ∧ ((sh_ref μ6 55 0) = 8 ∨ (sh_ref μ6 55 0) = 29)) then sh_let (sh_ref μ6 55 0) (fun r8 => sh_bind (f_X1_value (r8 + 11) 56 μ6) (fun y11 μ9 => (if (lg_cmp y11 0) = 0 then some (2, μ9) else some (1, μ9)))) else none)))) else none)
theorem gp_X10_deed {q1 : Nat} {a2 : Int32} {a3 : Int32} {μ μ' : sh_Mem} {v : Int32} (hG : sh_G μ) (hq1 : sh_isL q1) (h : f_X10_deed q1 a2 a3 μ = some (v, μ')) : sh_G μ' := by
  unfold f_X10_deed at h
  obtain ⟨k1, h⟩ := sh_chk h
  by_cases c2 : (((sh_i μ (q1 + 5) a2.toNatClampNeg) >>> (a3 &&& 31)) &&& 1) = 1
  · rw [if_pos c2] at h
    obtain ⟨e1, e2⟩ := sh_some2 h
    exact e2 ▸ hG
  · rw [if_neg c2] at h
    obtain ⟨μ3, hr4, h⟩ := sh_bindv_e h
    have hG3 := gp_X10_gather hG hq1 (sh_LAYat_56) hr4
    obtain ⟨μ6, eμ6⟩ : ∃ y : sh_Mem, y = (sh_setI μ3 56 (Int32.toNatClampNeg 3) a3) := ⟨_, rfl⟩
    rw [sh_let_eq eμ6] at h
    have hG6 : sh_G μ6 := by rw [eμ6]; exact hG3
    obtain ⟨k7, h⟩ := sh_chk h
    obtain ⟨r8, er8⟩ : ∃ y : Nat, y = (sh_ref μ6 55 0) := ⟨_, rfl⟩
    rw [sh_let_eq er8] at h
    have k7r : sh_r μ6 55 0 = some r8 ∧ (r8 = 8 ∨ r8 = 29) := by rw [er8]; exact k7
    obtain ⟨y11, μ9, hr10, h⟩ := sh_bind_e h
    have hG9 := gp_X1_value hG6 (gP_f12 k7r.2) (sh_LAYat_56) hr10
    by_cases c12 : (lg_cmp y11 0) = 0
    · rw [if_pos c12] at h
      obtain ⟨e1, e2⟩ := sh_some2 h
      exact e2 ▸ hG9
    · rw [if_neg c12] at h
      obtain ⟨e1, e2⟩ := sh_some2 h
      exact e2 ▸ hG9
theorem t_X10_deed {q1 : Nat} {a2 : Int32} {a3 : Int32} {μ μ' : sh_Mem} {v : Int32} (hG : sh_G μ) (hq1 : sh_isL q1) (h : f_X10_deed q1 a2 a3 μ = some (v, μ')) : sh_C0 l B D ca 4 M_X10_deed [.ref 55, .ref q1, .int a2, .int a3] μ (fun v0 μ0 => v0 = some (.int v) ∧ μ0 = μ') := by
  unfold f_X10_deed at h
  refine vv_aload_n 0 1 dX10_deed_0 rfl rfl ?_
  refine vv_getR 1 dX10_deed_1 fl_10_44 rfl (gL_l hG hq1) (gL_r5 hG hq1) ?_
  refine vv_iload_n 4 2 dX10_deed_4 rfl rfl ?_
  obtain ⟨k1, h⟩ := sh_chk h
  refine vv_iald 5 dX10_deed_5 (gA_l hG (gLA5 hq1)) k1 ?_
  refine vv_iload_n 6 3 dX10_deed_6 rfl rfl ?_
  refine vv_ishr 7 dX10_deed_7 ?_
  refine vv_iconst 8 dX10_deed_8 ik_1 ?_
  refine vv_iand 9 dX10_deed_9 ?_
  refine vv_iconst 10 dX10_deed_10 ik_1 ?_
  refine vv_icmp_ne 11 16 dX10_deed_11 (by decide) (fun c2 => ?_) (fun c2 => ?_)
  · rw [if_neg c2] at h
    refine vv_aload_n 16 0 dX10_deed_16 rfl rfl ?_
    refine vv_aload_n 17 1 dX10_deed_17 rfl rfl ?_
    refine vv_iload_n 18 2 dX10_deed_18 rfl rfl ?_
    refine vv_aload_n 19 0 dX10_deed_19 rfl rfl ?_
    refine vv_getR 20 dX10_deed_20 fl_10_9 rfl (g_l_55 hG) (g_r_55_2 hG) ?_
    obtain ⟨μ3, hr4, h⟩ := sh_bindv_e h
    refine v1_callV [_, _, _] 23 dX10_deed_23 ck_X10_57 (g_l_55 hG) ⟨by decide, rfl⟩ (t_X10_gather hG hq1 (sh_LAYat_56) hr4) (Nat.le_of_ble_eq_true rfl) ⟨Nat.le_of_ble_eq_true rfl, Nat.le_of_ble_eq_true rfl⟩ rfl (Nat.le_of_ble_eq_true rfl) ?_
    have hG3 := gp_X10_gather hG hq1 (sh_LAYat_56) hr4
    refine vv_aload_n 26 0 dX10_deed_26 rfl rfl ?_
    refine vv_getR 27 dX10_deed_27 fl_10_9 rfl (g_l_55 hG3) (g_r_55_2 hG3) ?_
    refine vv_iconst 30 dX10_deed_30 ik_3 ?_
    refine vv_iload_n 31 3 dX10_deed_31 rfl rfl ?_
    refine vn_iast 32 dX10_deed_32 (g_l_56 hG3) (by unfold vp_in; decide) (fun μ6 eμ6 => ?_)
    rw [sh_let_eq eμ6] at h
    have hG6 : sh_G μ6 := by rw [eμ6]; exact hG3
    refine vv_aload_n 33 0 dX10_deed_33 rfl rfl ?_
    obtain ⟨k7, h⟩ := sh_chk h
    refine vv_getR 34 dX10_deed_34 fl_10_22 rfl (g_l_55 hG6) k7.1 ?_
    refine vv_topr (fun r8 er8 => ?_)
    rw [sh_let_eq er8] at h
    have k7r : sh_r μ6 55 0 = some r8 ∧ (r8 = 8 ∨ r8 = 29) := by rw [er8]; exact k7
    refine vv_getR 37 dX10_deed_37 fl_10_75 rfl (gP_l hG6 k7r.2) (gP_r12 hG6 k7r.2) ?_
    refine vv_aload_n 40 0 dX10_deed_40 rfl rfl ?_
    refine vv_getR 41 dX10_deed_41 fl_10_9 rfl (g_l_55 hG6) (g_r_55_2 hG6) ?_
    obtain ⟨y11, μ9, hr10, h⟩ := sh_bind_e h
    refine v1_callV [_] 44 dX10_deed_44 ck_X10_79 (gF_l hG6 (gP_f12 k7r.2)) ⟨by decide, rfl⟩ (t_X1_value hG6 (gP_f12 k7r.2) (sh_LAYat_56) hr10) (Nat.le_of_ble_eq_true rfl) ⟨Nat.le_of_ble_eq_true rfl, Nat.le_of_ble_eq_true rfl⟩ rfl (Nat.le_of_ble_eq_true rfl) ?_
    have hG9 := gp_X1_value hG6 (gP_f12 k7r.2) (sh_LAYat_56) hr10
    refine vv_lconst 47 dX10_deed_47 lk_0 ?_
    refine vv_lcmp 48 dX10_deed_48 ?_
    refine vv_if_eq 49 56 dX10_deed_49 (by decide) (fun c12 => ?_) (fun c12 => ?_)
    · rw [if_pos c12] at h
      refine vv_iconst 56 dX10_deed_56 ik_2 ?_
      obtain ⟨e1, e2⟩ := sh_some2 h
      refine vv_iret 57 dX10_deed_57 rfl (Nat.le_refl _) (Nat.le_refl _) ⟨by rw [e1], e2⟩
    · rw [if_neg c12] at h
      refine vv_iconst 52 dX10_deed_52 ik_1 ?_
      refine vv_goto 53 57 dX10_deed_53 (by decide) ?_
      obtain ⟨e1, e2⟩ := sh_some2 h
      refine vv_iret 57 dX10_deed_57 rfl (Nat.le_refl _) (Nat.le_refl _) ⟨by rw [e1], e2⟩
  · rw [if_pos c2] at h
    refine vv_iconst 14 dX10_deed_14 ik_0 ?_
    obtain ⟨e1, e2⟩ := sh_some2 h
    refine vv_iret 15 dX10_deed_15 rfl (Nat.le_refl _) (Nat.le_refl _) ⟨by rw [e1], e2⟩
def F_X10_lift : Nat → Nat → Nat → Int32 → Int32 → Int32 → sh_Mem → Option sh_Mem
  | 0, _, _, _, _, _, _ => none
  | fuel + 1, lbl, r1, i2, i3, i4, μ => match lbl with
    | 1 => (if i3 ≤ i4 then some μ else (if sh_in i2 49 then (if 99 ≤ (sh_i μ (r1 + 1) i2.toNatClampNeg) then some μ else sh_bind (f_X10_findHighest r1 μ) (fun y29 μ27 => (if y29 = 0 then some μ27 else (if sh_in (sh_i μ27 55 8) 49 then (if sh_in (sh_i μ27 55 8) 49 then sh_let (sh_setI μ27 (r1 + 1) ((sh_i μ27 55 8)).toNatClampNeg ((sh_i μ27 (r1 + 1) ((sh_i μ27 55 8)).toNatClampNeg) - 1)) (fun μ33 => (if sh_in i2 49 then (if sh_in i2 49 then sh_let (sh_setI μ33 (r1 + 1) i2.toNatClampNeg ((sh_i μ33 (r1 + 1) i2.toNatClampNeg) + 1)) (fun μ36 => sh_let (sh_setI μ36 55 1 ((sh_i μ36 55 1) + 1)) (fun μ37 => F_X10_lift fuel 1 r1 i2 i3 (i4 + 1) μ37)) else none) else none)) else none) else none)))) else none))
    | _ => none
def f_X10_lift (q1 : Nat) (a2 : Int32) (μ : sh_Mem) : Option sh_Mem := (if a2 = (-1) then some μ else (if sh_in a2 49 then sh_let (sh_setI μ 56 (Int32.toNatClampNeg 17) (sh_i μ (q1 + 1) a2.toNatClampNeg)) (fun μ40 => (if (sh_r μ40 55 0 = some (sh_ref μ40 55 0) ∧ ((sh_ref μ40 55 0) = 8 ∨ (sh_ref μ40 55 0) = 29)) then sh_let (sh_ref μ40 55 0) (fun r42 => sh_bind (f_X1_value (r42 + 5) 56 μ40) (fun y45 μ43 => sh_let ((f_X10_within μ43 y45 9) : Int32) (fun x46 => F_X10_lift 1000000 1 q1 a2 x46 0 μ43))) else none)) else none))
theorem gpl_X10_lift (fuel : Nat) : (∀ ⦃r1 : Nat⦄ ⦃i2 : Int32⦄ ⦃i3 : Int32⦄ ⦃i4 : Int32⦄ ⦃μ μ' : sh_Mem⦄, sh_G μ → sh_isL r1 → F_X10_lift fuel 1 r1 i2 i3 i4 μ = some μ' → sh_G μ') := by
  induction fuel with
  | zero => intro r1 i2 i3 i4 μ μ' hG hr1 h; cases h
  | succ fuel ih =>
    have ih_42 := ih
    intro r1 i2 i3 i4 μ μ' hG hr1 h
    replace h : ((if i3 ≤ i4 then some μ else (if sh_in i2 49 then (if 99 ≤ (sh_i μ (r1 + 1) i2.toNatClampNeg) then some μ else sh_bind (f_X10_findHighest r1 μ) (fun y29 μ27 => (if y29 = 0 then some μ27 else (if sh_in (sh_i μ27 55 8) 49 then (if sh_in (sh_i μ27 55 8) 49 then sh_let (sh_setI μ27 (r1 + 1) ((sh_i μ27 55 8)).toNatClampNeg ((sh_i μ27 (r1 + 1) ((sh_i μ27 55 8)).toNatClampNeg) - 1)) (fun μ33 => (if sh_in i2 49 then (if sh_in i2 49 then sh_let (sh_setI μ33 (r1 + 1) i2.toNatClampNeg ((sh_i μ33 (r1 + 1) i2.toNatClampNeg) + 1)) (fun μ36 => sh_let (sh_setI μ36 55 1 ((sh_i μ36 55 1) + 1)) (fun μ37 => F_X10_lift fuel 1 r1 i2 i3 (i4 + 1) μ37)) else none) else none)) else none) else none)))) else none)) : Option sh_Mem) = some μ' := h
    by_cases c24 : i3 ≤ i4
    · rw [if_pos c24] at h
      have e2 := Option.some.inj h
      exact e2 ▸ hG
    · rw [if_neg c24] at h
      obtain ⟨k25, h⟩ := sh_chk h
      by_cases c26 : 99 ≤ (sh_i μ (r1 + 1) i2.toNatClampNeg)
      · rw [if_pos c26] at h
        have e2 := Option.some.inj h
        exact e2 ▸ hG
      · rw [if_neg c26] at h
        obtain ⟨y29, μ27, hr28, h⟩ := sh_bind_e h
        have hG27 := gp_X10_findHighest hG hr1 hr28
        by_cases c30 : y29 = 0
        · rw [if_pos c30] at h
          have e2 := Option.some.inj h
          exact e2 ▸ hG27
        · rw [if_neg c30] at h
          obtain ⟨k31, h⟩ := sh_chk h
          obtain ⟨k32, h⟩ := sh_chk h
          obtain ⟨μ33, eμ33⟩ : ∃ y : sh_Mem, y = (sh_setI μ27 (r1 + 1) ((sh_i μ27 55 8)).toNatClampNeg ((sh_i μ27 (r1 + 1) ((sh_i μ27 55 8)).toNatClampNeg) - 1)) := ⟨_, rfl⟩
          rw [sh_let_eq eμ33] at h
          have hG33 : sh_G μ33 := by rw [eμ33]; exact hG27
          obtain ⟨k34, h⟩ := sh_chk h
          obtain ⟨k35, h⟩ := sh_chk h
          obtain ⟨μ36, eμ36⟩ : ∃ y : sh_Mem, y = (sh_setI μ33 (r1 + 1) i2.toNatClampNeg ((sh_i μ33 (r1 + 1) i2.toNatClampNeg) + 1)) := ⟨_, rfl⟩
          rw [sh_let_eq eμ36] at h
          have hG36 : sh_G μ36 := by rw [eμ36]; exact hG33
          obtain ⟨μ37, eμ37⟩ : ∃ y : sh_Mem, y = (sh_setI μ36 55 1 ((sh_i μ36 55 1) + 1)) := ⟨_, rfl⟩
          rw [sh_let_eq eμ37] at h
          have hG37 : sh_G μ37 := by rw [eμ37]; exact hG36
          exact ih_42 hG37 hr1 h
theorem tl_X10_lift (fuel : Nat) : (∀ ⦃r1 : Nat⦄ ⦃i2 : Int32⦄ ⦃i3 : Int32⦄ ⦃i4 : Int32⦄ ⦃μ μ' : sh_Mem⦄, sh_G μ → sh_isL r1 → F_X10_lift fuel 1 r1 i2 i3 i4 μ = some μ' → sh_V0 l B D ca 4 M_X10_lift 42 [(0, .ref 55), (1, .ref r1), (2, .int i2), (3, .int i3), (4, .int i4)] [] μ (fun v0 μ0 => v0 = none ∧ μ0 = μ')) := by
  induction fuel with
  | zero => intro r1 i2 i3 i4 μ μ' hG hr1 h; cases h
  | succ fuel ih =>
    have ih_42 := ih
    intro r1 i2 i3 i4 μ μ' hG hr1 h
    replace h : ((if i3 ≤ i4 then some μ else (if sh_in i2 49 then (if 99 ≤ (sh_i μ (r1 + 1) i2.toNatClampNeg) then some μ else sh_bind (f_X10_findHighest r1 μ) (fun y29 μ27 => (if y29 = 0 then some μ27 else (if sh_in (sh_i μ27 55 8) 49 then (if sh_in (sh_i μ27 55 8) 49 then sh_let (sh_setI μ27 (r1 + 1) ((sh_i μ27 55 8)).toNatClampNeg ((sh_i μ27 (r1 + 1) ((sh_i μ27 55 8)).toNatClampNeg) - 1)) (fun μ33 => (if sh_in i2 49 then (if sh_in i2 49 then sh_let (sh_setI μ33 (r1 + 1) i2.toNatClampNeg ((sh_i μ33 (r1 + 1) i2.toNatClampNeg) + 1)) (fun μ36 => sh_let (sh_setI μ36 55 1 ((sh_i μ36 55 1) + 1)) (fun μ37 => F_X10_lift fuel 1 r1 i2 i3 (i4 + 1) μ37)) else none) else none)) else none) else none)))) else none)) : Option sh_Mem) = some μ' := h
    refine vv_iload 42 4 dX10_lift_42 rfl ?_
    refine vv_iload_n 44 3 dX10_lift_44 rfl rfl ?_
    refine vv_icmp_ge 45 106 dX10_lift_45 (by decide) (fun c24 => ?_) (fun c24 => ?_)
    · rw [if_pos c24] at h
      have e2 := Option.some.inj h
      refine vv_vret 106 dX10_lift_106 rfl (Nat.le_refl _) (Nat.le_refl _) ⟨rfl, e2⟩
    · rw [if_neg c24] at h
      refine vv_aload_n 48 1 dX10_lift_48 rfl rfl ?_
      refine vv_getR 49 dX10_lift_49 fl_10_41 rfl (gL_l hG hr1) (gL_r1 hG hr1) ?_
      refine vv_iload_n 52 2 dX10_lift_52 rfl rfl ?_
      obtain ⟨k25, h⟩ := sh_chk h
      refine vv_iald 53 dX10_lift_53 (gA_l hG (gLA1 hr1)) k25 ?_
      refine vv_bipush 54 dX10_lift_54 bk_99 ?_
      refine vv_icmp_ge 56 106 dX10_lift_56 (by decide) (fun c26 => ?_) (fun c26 => ?_)
      · rw [if_pos c26] at h
        have e2 := Option.some.inj h
        refine vv_vret 106 dX10_lift_106 rfl (Nat.le_refl _) (Nat.le_refl _) ⟨rfl, e2⟩
      · rw [if_neg c26] at h
        refine vv_aload_n 59 0 dX10_lift_59 rfl rfl ?_
        refine vv_aload_n 60 1 dX10_lift_60 rfl rfl ?_
        obtain ⟨y29, μ27, hr28, h⟩ := sh_bind_e h
        refine v1_callV [_] 61 dX10_lift_61 ck_X10_128 (g_l_55 hG) ⟨by decide, rfl⟩ (t_X10_findHighest hG hr1 hr28) (Nat.le_of_ble_eq_true rfl) ⟨Nat.le_of_ble_eq_true rfl, Nat.le_of_ble_eq_true rfl⟩ rfl (Nat.le_of_ble_eq_true rfl) ?_
        have hG27 := gp_X10_findHighest hG hr1 hr28
        refine vv_if_eq 64 106 dX10_lift_64 (by decide) (fun c30 => ?_) (fun c30 => ?_)
        · rw [if_pos c30] at h
          have e2 := Option.some.inj h
          refine vv_vret 106 dX10_lift_106 rfl (Nat.le_refl _) (Nat.le_refl _) ⟨rfl, e2⟩
        · rw [if_neg c30] at h
          refine vv_aload_n 67 1 dX10_lift_67 rfl rfl ?_
          refine vv_getR 68 dX10_lift_68 fl_10_41 rfl (gL_l hG27 hr1) (gL_r1 hG27 hr1) ?_
          refine vv_aload_n 71 0 dX10_lift_71 rfl rfl ?_
          refine vv_getI 72 dX10_lift_72 fl_10_114 rfl (g_l_55 hG27) ?_
          refine vv_dup2_ri 75 dX10_lift_75 ?_
          obtain ⟨k31, h⟩ := sh_chk h
          refine vv_iald 76 dX10_lift_76 (gA_l hG27 (gLA1 hr1)) k31 ?_
          refine vv_iconst 77 dX10_lift_77 ik_1 ?_
          refine vv_isub 78 dX10_lift_78 ?_
          obtain ⟨k32, h⟩ := sh_chk h
          refine vn_iast 79 dX10_lift_79 (gA_l hG27 (gLA1 hr1)) k32 (fun μ33 eμ33 => ?_)
          rw [sh_let_eq eμ33] at h
          have hG33 : sh_G μ33 := by rw [eμ33]; exact hG27
          refine vv_aload_n 80 1 dX10_lift_80 rfl rfl ?_
          refine vv_getR 81 dX10_lift_81 fl_10_41 rfl (gL_l hG33 hr1) (gL_r1 hG33 hr1) ?_
          refine vv_iload_n 84 2 dX10_lift_84 rfl rfl ?_
          refine vv_dup2_ri 85 dX10_lift_85 ?_
          obtain ⟨k34, h⟩ := sh_chk h
          refine vv_iald 86 dX10_lift_86 (gA_l hG33 (gLA1 hr1)) k34 ?_
          refine vv_iconst 87 dX10_lift_87 ik_1 ?_
          refine vv_iadd 88 dX10_lift_88 ?_
          obtain ⟨k35, h⟩ := sh_chk h
          refine vn_iast 89 dX10_lift_89 (gA_l hG33 (gLA1 hr1)) k35 (fun μ36 eμ36 => ?_)
          rw [sh_let_eq eμ36] at h
          have hG36 : sh_G μ36 := by rw [eμ36]; exact hG33
          refine vv_aload_n 90 0 dX10_lift_90 rfl rfl ?_
          refine vv_dup_ref 91 dX10_lift_91 ?_
          refine vv_getI 92 dX10_lift_92 fl_10_72 rfl (g_l_55 hG36) ?_
          refine vv_iconst 95 dX10_lift_95 ik_1 ?_
          refine vv_iadd 96 dX10_lift_96 ?_
          refine vn_putI 97 dX10_lift_97 fl_10_72 (Or.inl rfl) rfl (g_l_55 hG36) (fun μ37 eμ37 => ?_)
          rw [sh_let_eq eμ37] at h
          have hG37 : sh_G μ37 := by rw [eμ37]; exact hG36
          refine vv_iincc (lv' := [(4, _), (0, _), (1, _), (2, _), (3, _)]) 100 4 dX10_lift_100 rfl ik_1 (by decide) rfl ?_
          refine vv_goto 103 42 dX10_lift_103 (by decide) ?_
          refine vv_sub [(0, _), (1, _), (2, _), (3, _), (4, _)] (sh_subm [1, 2, 3, 4, 0] rfl) ?_
          exact ih_42 hG37 hr1 h
theorem gp_X10_lift {q1 : Nat} {a2 : Int32} {μ μ' : sh_Mem} (hG : sh_G μ) (hq1 : sh_isL q1) (h : f_X10_lift q1 a2 μ = some μ') : sh_G μ' := by
  have ih_42 := (gpl_X10_lift 1000000)
  unfold f_X10_lift at h
  by_cases c38 : a2 = (-1)
  · rw [if_pos c38] at h
    have e2 := Option.some.inj h
    exact e2 ▸ hG
  · rw [if_neg c38] at h
    obtain ⟨k39, h⟩ := sh_chk h
    obtain ⟨μ40, eμ40⟩ : ∃ y : sh_Mem, y = (sh_setI μ 56 (Int32.toNatClampNeg 17) (sh_i μ (q1 + 1) a2.toNatClampNeg)) := ⟨_, rfl⟩
    rw [sh_let_eq eμ40] at h
    have hG40 : sh_G μ40 := by rw [eμ40]; exact hG
    obtain ⟨k41, h⟩ := sh_chk h
    obtain ⟨r42, er42⟩ : ∃ y : Nat, y = (sh_ref μ40 55 0) := ⟨_, rfl⟩
    rw [sh_let_eq er42] at h
    have k41r : sh_r μ40 55 0 = some r42 ∧ (r42 = 8 ∨ r42 = 29) := by rw [er42]; exact k41
    obtain ⟨y45, μ43, hr44, h⟩ := sh_bind_e h
    have hG43 := gp_X1_value hG40 (gP_f10 k41r.2) (sh_LAYat_56) hr44
    obtain ⟨x46, ex46⟩ : ∃ y : Int32, y = (f_X10_within μ43 y45 9) := ⟨_, rfl⟩
    rw [sh_let_eq ex46] at h
    exact ih_42 hG43 hq1 h
theorem t_X10_lift {q1 : Nat} {a2 : Int32} {μ μ' : sh_Mem} (hG : sh_G μ) (hq1 : sh_isL q1) (h : f_X10_lift q1 a2 μ = some μ') : sh_C0 l B D ca 4 M_X10_lift [.ref 55, .ref q1, .int a2] μ (fun v0 μ0 => v0 = none ∧ μ0 = μ') := by
  have ih_42 := (tl_X10_lift (l := l) (B := B) (D := D) (ca := ca) 1000000)
  unfold f_X10_lift at h
  refine vv_iload_n 0 2 dX10_lift_0 rfl rfl ?_
  refine vv_iconst 1 dX10_lift_1 ik_m1 ?_
  refine vv_icmp_ne 2 6 dX10_lift_2 (by decide) (fun c38 => ?_) (fun c38 => ?_)
  · rw [if_neg c38] at h
    refine vv_aload_n 6 0 dX10_lift_6 rfl rfl ?_
    refine vv_getR 7 dX10_lift_7 fl_10_9 rfl (g_l_55 hG) (g_r_55_2 hG) ?_
    refine vv_bipush 10 dX10_lift_10 bk_17 ?_
    refine vv_aload_n 12 1 dX10_lift_12 rfl rfl ?_
    refine vv_getR 13 dX10_lift_13 fl_10_41 rfl (gL_l hG hq1) (gL_r1 hG hq1) ?_
    refine vv_iload_n 16 2 dX10_lift_16 rfl rfl ?_
    obtain ⟨k39, h⟩ := sh_chk h
    refine vv_iald 17 dX10_lift_17 (gA_l hG (gLA1 hq1)) k39 ?_
    refine vn_iast 18 dX10_lift_18 (g_l_56 hG) (by unfold vp_in; decide) (fun μ40 eμ40 => ?_)
    rw [sh_let_eq eμ40] at h
    have hG40 : sh_G μ40 := by rw [eμ40]; exact hG
    refine vv_aload_n 19 0 dX10_lift_19 rfl rfl ?_
    obtain ⟨k41, h⟩ := sh_chk h
    refine vv_getR 20 dX10_lift_20 fl_10_22 rfl (g_l_55 hG40) k41.1 ?_
    refine vv_topr (fun r42 er42 => ?_)
    rw [sh_let_eq er42] at h
    have k41r : sh_r μ40 55 0 = some r42 ∧ (r42 = 8 ∨ r42 = 29) := by rw [er42]; exact k41
    refine vv_getR 23 dX10_lift_23 fl_10_125 rfl (gP_l hG40 k41r.2) (gP_r10 hG40 k41r.2) ?_
    refine vv_aload_n 26 0 dX10_lift_26 rfl rfl ?_
    refine vv_getR 27 dX10_lift_27 fl_10_9 rfl (g_l_55 hG40) (g_r_55_2 hG40) ?_
    obtain ⟨y45, μ43, hr44, h⟩ := sh_bind_e h
    refine v1_callV [_] 30 dX10_lift_30 ck_X10_79 (gF_l hG40 (gP_f10 k41r.2)) ⟨by decide, rfl⟩ (t_X1_value hG40 (gP_f10 k41r.2) (sh_LAYat_56) hr44) (Nat.le_of_ble_eq_true rfl) ⟨Nat.le_of_ble_eq_true rfl, Nat.le_of_ble_eq_true rfl⟩ rfl (Nat.le_of_ble_eq_true rfl) ?_
    have hG43 := gp_X1_value hG40 (gP_f10 k41r.2) (sh_LAYat_56) hr44
    refine vv_bipush 33 dX10_lift_33 bk_9 ?_
    refine v1_callS [_, _] 35 dX10_lift_35 ck_X10_104 (c_X10_within (μ := μ43) hG43) (Nat.le_of_ble_eq_true rfl) ⟨Nat.le_of_ble_eq_true rfl, Nat.le_of_ble_eq_true rfl⟩ rfl (Nat.le_of_ble_eq_true rfl) ?_
    refine vv_topi (fun x46 ex46 => ?_)
    rw [sh_let_eq ex46] at h
    refine vv_istore_n (lv' := [(3, _), (0, _), (1, _), (2, _)]) 38 3 dX10_lift_38 rfl (by decide) rfl ?_
    refine vv_iconst 39 dX10_lift_39 ik_0 ?_
    refine vv_istore (lv' := [(4, _), (3, _), (0, _), (1, _), (2, _)]) 40 4 dX10_lift_40 (by decide) rfl ?_
    refine vv_sub [(0, _), (1, _), (2, _), (3, _), (4, _)] (sh_subm [2, 3, 4, 1, 0] rfl) ?_
    exact ih_42 hG43 hq1 h
  · rw [if_pos c38] at h
    have e2 := Option.some.inj h
    refine vv_vret 5 dX10_lift_5 rfl (Nat.le_refl _) (Nat.le_refl _) ⟨rfl, e2⟩
def f_X11_would (a1 : Int32) (a2 : Int32) (μ : sh_Mem) : Option (Int32 × sh_Mem) := sh_bind (f_X11_isPerson a1 μ) (fun y3 μ1 => (if y3 = 0 then some ((-1), μ1) else sh_bind (f_X11_isTopic a2 μ1) (fun y7 μ5 => (if y7 = 0 then some ((-1), μ5) else sh_bind (f_X10_deed 49 a1 a2 μ5) (fun y11 μ9 => some (y11, μ9))))))
theorem gp_X11_would {a1 : Int32} {a2 : Int32} {μ μ' : sh_Mem} {v : Int32} (hG : sh_G μ) (h : f_X11_would a1 a2 μ = some (v, μ')) : sh_G μ' := by
  unfold f_X11_would at h
  obtain ⟨y3, μ1, hr2, h⟩ := sh_bind_e h
  have hG1 := gp_X11_isPerson hG hr2
  by_cases c4 : y3 = 0
  · rw [if_pos c4] at h
    obtain ⟨e1, e2⟩ := sh_some2 h
    exact e2 ▸ hG1
  · rw [if_neg c4] at h
    obtain ⟨y7, μ5, hr6, h⟩ := sh_bind_e h
    have hG5 := gp_X11_isTopic hG1 hr6
    by_cases c8 : y7 = 0
    · rw [if_pos c8] at h
      obtain ⟨e1, e2⟩ := sh_some2 h
      exact e2 ▸ hG5
    · rw [if_neg c8] at h
      obtain ⟨y11, μ9, hr10, h⟩ := sh_bind_e h
      have hG9 := gp_X10_deed hG5 sh_isL_49 hr10
      obtain ⟨e1, e2⟩ := sh_some2 h
      exact e2 ▸ hG9
theorem t_X11_would {a1 : Int32} {a2 : Int32} {μ μ' : sh_Mem} {v : Int32} (hG : sh_G μ) (h : f_X11_would a1 a2 μ = some (v, μ')) : sh_C0 l B D ca 5 M_X11_would [.ref 0, .int a1, .int a2] μ (fun v0 μ0 => v0 = some (.int v) ∧ μ0 = μ') := by
  unfold f_X11_would at h
  refine vv_aload_n 0 0 dX11_would_0 rfl rfl ?_
  refine vv_iload_n 1 1 dX11_would_1 rfl rfl ?_
  obtain ⟨y3, μ1, hr2, h⟩ := sh_bind_e h
  refine v1_callV [_] 2 dX11_would_2 ck_X11_211 (g_l_0 hG) ⟨by decide, rfl⟩ (t_X11_isPerson hG hr2) (Nat.le_of_ble_eq_true rfl) ⟨Nat.le_of_ble_eq_true rfl, Nat.le_of_ble_eq_true rfl⟩ rfl (Nat.le_of_ble_eq_true rfl) ?_
  have hG1 := gp_X11_isPerson hG hr2
  refine vv_if_eq 5 32 dX11_would_5 (by decide) (fun c4 => ?_) (fun c4 => ?_)
  · rw [if_pos c4] at h
    refine vv_iconst 32 dX11_would_32 ik_m1 ?_
    obtain ⟨e1, e2⟩ := sh_some2 h
    refine vv_iret 33 dX11_would_33 rfl (Nat.le_refl _) (Nat.le_refl _) ⟨by rw [e1], e2⟩
  · rw [if_neg c4] at h
    refine vv_aload_n 8 0 dX11_would_8 rfl rfl ?_
    refine vv_iload_n 9 2 dX11_would_9 rfl rfl ?_
    obtain ⟨y7, μ5, hr6, h⟩ := sh_bind_e h
    refine v1_callV [_] 10 dX11_would_10 ck_X11_201 (g_l_0 hG1) ⟨by decide, rfl⟩ (t_X11_isTopic hG1 hr6) (Nat.le_of_ble_eq_true rfl) ⟨Nat.le_of_ble_eq_true rfl, Nat.le_of_ble_eq_true rfl⟩ rfl (Nat.le_of_ble_eq_true rfl) ?_
    have hG5 := gp_X11_isTopic hG1 hr6
    refine vv_if_eq 13 32 dX11_would_13 (by decide) (fun c8 => ?_) (fun c8 => ?_)
    · rw [if_pos c8] at h
      refine vv_iconst 32 dX11_would_32 ik_m1 ?_
      obtain ⟨e1, e2⟩ := sh_some2 h
      refine vv_iret 33 dX11_would_33 rfl (Nat.le_refl _) (Nat.le_refl _) ⟨by rw [e1], e2⟩
    · rw [if_neg c8] at h
      refine vv_aload_n 16 0 dX11_would_16 rfl rfl ?_
      refine vv_getR 17 dX11_would_17 fl_11_69 rfl (g_l_0 hG5) (g_r_0_9 hG5) ?_
      refine vv_aload_n 20 0 dX11_would_20 rfl rfl ?_
      refine vv_getR 21 dX11_would_21 fl_11_60 rfl (g_l_0 hG5) (g_r_0_8 hG5) ?_
      refine vv_iload_n 24 1 dX11_would_24 rfl rfl ?_
      refine vv_iload_n 25 2 dX11_would_25 rfl rfl ?_
      obtain ⟨y11, μ9, hr10, h⟩ := sh_bind_e h
      refine v1_callV [_, _, _] 26 dX11_would_26 ck_X11_241 (g_l_55 hG5) ⟨by decide, rfl⟩ (t_X10_deed hG5 sh_isL_49 hr10) (Nat.le_of_ble_eq_true rfl) ⟨Nat.le_of_ble_eq_true rfl, Nat.le_of_ble_eq_true rfl⟩ rfl (Nat.le_of_ble_eq_true rfl) ?_
      have hG9 := gp_X10_deed hG5 sh_isL_49 hr10
      refine vv_goto 29 33 dX11_would_29 (by decide) ?_
      obtain ⟨e1, e2⟩ := sh_some2 h
      refine vv_iret 33 dX11_would_33 rfl (Nat.le_refl _) (Nat.le_refl _) ⟨by rw [e1], e2⟩
def f_X11_way (a1 : Int32) (a2 : Int32) (μ : sh_Mem) : Option (Int32 × sh_Mem) := (if (sh_r μ 0 7 = some (sh_ref μ 0 7) ∧ ((sh_ref μ 0 7) = 8 ∨ (sh_ref μ 0 7) = 29)) then sh_let (sh_ref μ 0 7) (fun r2 => sh_bind (f_X5_cellOf r2 a1 μ) (fun y5 μ3 => (if (sh_r μ3 0 7 = some (sh_ref μ3 0 7) ∧ ((sh_ref μ3 0 7) = 8 ∨ (sh_ref μ3 0 7) = 29)) then sh_let (sh_ref μ3 0 7) (fun r7 => sh_bind (f_X5_cellOf r7 a2 μ3) (fun y10 μ8 => (if y5 = (-1) then some ((-1), μ8) else (if y10 = (-1) then some ((-1), μ8) else (if (sh_r μ8 0 7 = some (sh_ref μ8 0 7) ∧ ((sh_ref μ8 0 7) = 8 ∨ (sh_ref μ8 0 7) = 29)) then sh_let (sh_ref μ8 0 7) (fun r14 => sh_bind (f_X9_cost r14 49 y5 y10 μ8) (fun y17 μ15 => some (y17, μ15))) else none))))) else none))) else none)
theorem gp_X11_way {a1 : Int32} {a2 : Int32} {μ μ' : sh_Mem} {v : Int32} (hG : sh_G μ) (h : f_X11_way a1 a2 μ = some (v, μ')) : sh_G μ' := by
  unfold f_X11_way at h
  obtain ⟨k1, h⟩ := sh_chk h
  obtain ⟨r2, er2⟩ : ∃ y : Nat, y = (sh_ref μ 0 7) := ⟨_, rfl⟩
  rw [sh_let_eq er2] at h
  have k1r : sh_r μ 0 7 = some r2 ∧ (r2 = 8 ∨ r2 = 29) := by rw [er2]; exact k1
  obtain ⟨y5, μ3, hr4, h⟩ := sh_bind_e h
  have hG3 := gp_X5_cellOf hG k1r.2 hr4
  obtain ⟨k6, h⟩ := sh_chk h
  obtain ⟨r7, er7⟩ : ∃ y : Nat, y = (sh_ref μ3 0 7) := ⟨_, rfl⟩
  rw [sh_let_eq er7] at h
  have k6r : sh_r μ3 0 7 = some r7 ∧ (r7 = 8 ∨ r7 = 29) := by rw [er7]; exact k6
  obtain ⟨y10, μ8, hr9, h⟩ := sh_bind_e h
  have hG8 := gp_X5_cellOf hG3 k6r.2 hr9
  by_cases c11 : y5 = (-1)
  · rw [if_pos c11] at h
    obtain ⟨e1, e2⟩ := sh_some2 h
    exact e2 ▸ hG8
  · rw [if_neg c11] at h
    by_cases c12 : y10 = (-1)
    · rw [if_pos c12] at h
      obtain ⟨e1, e2⟩ := sh_some2 h
      exact e2 ▸ hG8
    · rw [if_neg c12] at h
      obtain ⟨k13, h⟩ := sh_chk h
      obtain ⟨r14, er14⟩ : ∃ y : Nat, y = (sh_ref μ8 0 7) := ⟨_, rfl⟩
      rw [sh_let_eq er14] at h
      have k13r : sh_r μ8 0 7 = some r14 ∧ (r14 = 8 ∨ r14 = 29) := by rw [er14]; exact k13
      obtain ⟨y17, μ15, hr16, h⟩ := sh_bind_e h
      have hG15 := gp_X9_cost hG8 k13r.2 sh_isL_49 hr16
      obtain ⟨e1, e2⟩ := sh_some2 h
      exact e2 ▸ hG15
theorem t_X11_way {a1 : Int32} {a2 : Int32} {μ μ' : sh_Mem} {v : Int32} (hG : sh_G μ) (h : f_X11_way a1 a2 μ = some (v, μ')) : sh_C0 l B D ca 5 M_X11_way [.ref 0, .int a1, .int a2] μ (fun v0 μ0 => v0 = some (.int v) ∧ μ0 = μ') := by
  unfold f_X11_way at h
  refine vv_aload_n 0 0 dX11_way_0 rfl rfl ?_
  obtain ⟨k1, h⟩ := sh_chk h
  refine vv_getR 1 dX11_way_1 fl_11_53 rfl (g_l_0 hG) k1.1 ?_
  refine vv_topr (fun r2 er2 => ?_)
  rw [sh_let_eq er2] at h
  have k1r : sh_r μ 0 7 = some r2 ∧ (r2 = 8 ∨ r2 = 29) := by rw [er2]; exact k1
  refine vv_iload_n 4 1 dX11_way_4 rfl rfl ?_
  obtain ⟨y5, μ3, hr4, h⟩ := sh_bind_e h
  refine v1_callV [_] 5 dX11_way_5 ck_X11_263 (gP_l hG k1r.2) ⟨by decide, rfl⟩ (t_X5_cellOf hG k1r.2 hr4) (Nat.le_of_ble_eq_true rfl) ⟨Nat.le_of_ble_eq_true rfl, Nat.le_of_ble_eq_true rfl⟩ rfl (Nat.le_of_ble_eq_true rfl) ?_
  have hG3 := gp_X5_cellOf hG k1r.2 hr4
  refine vv_istore_n (lv' := [(3, _), (0, _), (1, _), (2, _)]) 8 3 dX11_way_8 rfl (by decide) rfl ?_
  refine vv_aload_n 9 0 dX11_way_9 rfl rfl ?_
  obtain ⟨k6, h⟩ := sh_chk h
  refine vv_getR 10 dX11_way_10 fl_11_53 rfl (g_l_0 hG3) k6.1 ?_
  refine vv_topr (fun r7 er7 => ?_)
  rw [sh_let_eq er7] at h
  have k6r : sh_r μ3 0 7 = some r7 ∧ (r7 = 8 ∨ r7 = 29) := by rw [er7]; exact k6
  refine vv_iload_n 13 2 dX11_way_13 rfl rfl ?_
  obtain ⟨y10, μ8, hr9, h⟩ := sh_bind_e h
  refine v1_callV [_] 14 dX11_way_14 ck_X11_263 (gP_l hG3 k6r.2) ⟨by decide, rfl⟩ (t_X5_cellOf hG3 k6r.2 hr9) (Nat.le_of_ble_eq_true rfl) ⟨Nat.le_of_ble_eq_true rfl, Nat.le_of_ble_eq_true rfl⟩ rfl (Nat.le_of_ble_eq_true rfl) ?_
  have hG8 := gp_X5_cellOf hG3 k6r.2 hr9
  refine vv_istore (lv' := [(4, _), (3, _), (0, _), (1, _), (2, _)]) 17 4 dX11_way_17 (by decide) rfl ?_
  refine vv_iload_n 19 3 dX11_way_19 rfl rfl ?_
  refine vv_iconst 20 dX11_way_20 ik_m1 ?_
  refine vv_icmp_eq 21 30 dX11_way_21 (by decide) (fun c11 => ?_) (fun c11 => ?_)
  · rw [if_pos c11] at h
    refine vv_iconst 30 dX11_way_30 ik_m1 ?_
    refine vv_goto 31 52 dX11_way_31 (by decide) ?_
    obtain ⟨e1, e2⟩ := sh_some2 h
    refine vv_iret 52 dX11_way_52 rfl (Nat.le_refl _) (Nat.le_refl _) ⟨by rw [e1], e2⟩
  · rw [if_neg c11] at h
    refine vv_iload 24 4 dX11_way_24 rfl ?_
    refine vv_iconst 26 dX11_way_26 ik_m1 ?_
    refine vv_icmp_ne 27 34 dX11_way_27 (by decide) (fun c12 => ?_) (fun c12 => ?_)
    · rw [if_neg c12] at h
      refine vv_aload_n 34 0 dX11_way_34 rfl rfl ?_
      refine vv_getR 35 dX11_way_35 fl_11_99 rfl (g_l_0 hG8) (g_r_0_13 hG8) ?_
      refine vv_aload_n 38 0 dX11_way_38 rfl rfl ?_
      obtain ⟨k13, h⟩ := sh_chk h
      refine vv_getR 39 dX11_way_39 fl_11_53 rfl (g_l_0 hG8) k13.1 ?_
      refine vv_topr (fun r14 er14 => ?_)
      rw [sh_let_eq er14] at h
      have k13r : sh_r μ8 0 7 = some r14 ∧ (r14 = 8 ∨ r14 = 29) := by rw [er14]; exact k13
      refine vv_aload_n 42 0 dX11_way_42 rfl rfl ?_
      refine vv_getR 43 dX11_way_43 fl_11_60 rfl (g_l_0 hG8) (g_r_0_8 hG8) ?_
      refine vv_iload_n 46 3 dX11_way_46 rfl rfl ?_
      refine vv_iload 47 4 dX11_way_47 rfl ?_
      obtain ⟨y17, μ15, hr16, h⟩ := sh_bind_e h
      refine v1_callV [_, _, _, _] 49 dX11_way_49 ck_X11_273 (g_l_287 hG8) ⟨by decide, rfl⟩ (t_X9_cost hG8 k13r.2 sh_isL_49 hr16) (Nat.le_of_ble_eq_true rfl) ⟨Nat.le_of_ble_eq_true rfl, Nat.le_of_ble_eq_true rfl⟩ rfl (Nat.le_of_ble_eq_true rfl) ?_
      have hG15 := gp_X9_cost hG8 k13r.2 sh_isL_49 hr16
      obtain ⟨e1, e2⟩ := sh_some2 h
      refine vv_iret 52 dX11_way_52 rfl (Nat.le_refl _) (Nat.le_refl _) ⟨by rw [e1], e2⟩
    · rw [if_pos c12] at h
      refine vv_iconst 30 dX11_way_30 ik_m1 ?_
      refine vv_goto 31 52 dX11_way_31 (by decide) ?_
      obtain ⟨e1, e2⟩ := sh_some2 h
      refine vv_iret 52 dX11_way_52 rfl (Nat.le_refl _) (Nat.le_refl _) ⟨by rw [e1], e2⟩
def F_X11_on : Nat → Nat → Int32 → Int32 → Int32 → sh_Mem → Option (Int32 × sh_Mem)
  | 0, _, _, _, _, _ => none
  | fuel + 1, lbl, i1, i2, i3, μ => match lbl with
    | 1 => (if (sh_r μ 0 7 = some (sh_ref μ 0 7) ∧ ((sh_ref μ 0 7) = 8 ∨ (sh_ref μ 0 7) = 29)) then sh_let (sh_ref μ 0 7) (fun r40 => (if (sh_i μ r40 3) ≤ i3 then sh_bindv (f_X4_forget μ) (fun μ42 => some (1, μ42)) else sh_let (((2 + i2) + (i3 * 4)) : Int32) (fun x45 => (if sh_in x45 1600 then (if sh_in i3 7 then sh_let (sh_setI μ 51 i3.toNatClampNeg (sh_i μ 1 x45.toNatClampNeg)) (fun μ48 => (if sh_in (x45 + 1) 1600 then (if sh_in i3 7 then sh_let (sh_setI μ48 52 i3.toNatClampNeg (sh_i μ48 1 ((x45 + 1)).toNatClampNeg)) (fun μ51 => (if sh_in (x45 + 2) 1600 then (if sh_in i3 7 then sh_let (sh_setI μ51 53 i3.toNatClampNeg (sh_i μ51 1 ((x45 + 2)).toNatClampNeg)) (fun μ54 => (if sh_in (x45 + 3) 1600 then (if sh_in i3 7 then sh_let (sh_setI μ54 54 i3.toNatClampNeg (sh_i μ54 1 ((x45 + 3)).toNatClampNeg)) (fun μ57 => F_X11_on fuel 1 i1 i2 (i3 + 1) μ57) else none) else none)) else none) else none)) else none) else none)) else none) else none)))) else none)
    | _ => none
def f_X11_on (μ : sh_Mem) : Option (Int32 × sh_Mem) := sh_bind (f_X11_takeTape μ) (fun y60 μ58 => sh_bind (f_X11_isImage y60 μ58) (fun y63 μ61 => (if y63 = 0 then sh_bind (f_X11_refuse 5 μ61) (fun y75 μ73 => (if y75 = 0 ∨ y75 = 1 then some (y75, μ73) else none)) else (if (sh_r μ61 0 7 = some (sh_ref μ61 0 7) ∧ ((sh_ref μ61 0 7) = 8 ∨ (sh_ref μ61 0 7) = 29)) then sh_let (sh_ref μ61 0 7) (fun r66 => sh_let ((f_X5_cells μ61 r66) : Int32) (fun x67 => sh_let (sh_setI μ61 49 0 (((sh_i μ61 1 (Int32.toNatClampNeg 0)) * 256) + (sh_i μ61 1 (Int32.toNatClampNeg 1)))) (fun μ68 => (if ¬ x67 < 0 then (if (Int32.toNatClampNeg 2) + x67.toNatClampNeg ≤ 1600 then (if (Int32.toNatClampNeg 0) + x67.toNatClampNeg ≤ 49 then sh_let (sh_rowI μ68 50 (va_cpy (sh_i μ68 1) (sh_i μ68 50) (Int32.toNatClampNeg 2) (Int32.toNatClampNeg 0) x67.toNatClampNeg)) (fun μ72 => F_X11_on 1000000 1 y60 x67 0 μ72) else none) else none) else none)))) else none))))
theorem gpl_X11_on (fuel : Nat) : (∀ ⦃i1 : Int32⦄ ⦃i2 : Int32⦄ ⦃i3 : Int32⦄ ⦃μ μ' : sh_Mem⦄ ⦃v : Int32⦄, sh_G μ → F_X11_on fuel 1 i1 i2 i3 μ = some (v, μ') → sh_G μ') := by
  induction fuel with
  | zero => intro i1 i2 i3 μ μ' v hG h; cases h
  | succ fuel ih =>
    have ih_70 := ih
    intro i1 i2 i3 μ μ' v hG h
    replace h : ((if (sh_r μ 0 7 = some (sh_ref μ 0 7) ∧ ((sh_ref μ 0 7) = 8 ∨ (sh_ref μ 0 7) = 29)) then sh_let (sh_ref μ 0 7) (fun r40 => (if (sh_i μ r40 3) ≤ i3 then sh_bindv (f_X4_forget μ) (fun μ42 => some (1, μ42)) else sh_let (((2 + i2) + (i3 * 4)) : Int32) (fun x45 => (if sh_in x45 1600 then (if sh_in i3 7 then sh_let (sh_setI μ 51 i3.toNatClampNeg (sh_i μ 1 x45.toNatClampNeg)) (fun μ48 => (if sh_in (x45 + 1) 1600 then (if sh_in i3 7 then sh_let (sh_setI μ48 52 i3.toNatClampNeg (sh_i μ48 1 ((x45 + 1)).toNatClampNeg)) (fun μ51 => (if sh_in (x45 + 2) 1600 then (if sh_in i3 7 then sh_let (sh_setI μ51 53 i3.toNatClampNeg (sh_i μ51 1 ((x45 + 2)).toNatClampNeg)) (fun μ54 => (if sh_in (x45 + 3) 1600 then (if sh_in i3 7 then sh_let (sh_setI μ54 54 i3.toNatClampNeg (sh_i μ54 1 ((x45 + 3)).toNatClampNeg)) (fun μ57 => F_X11_on fuel 1 i1 i2 (i3 + 1) μ57) else none) else none)) else none) else none)) else none) else none)) else none) else none)))) else none) : Option (Int32 × sh_Mem)) = some (v, μ') := h
    obtain ⟨k39, h⟩ := sh_chk h
    obtain ⟨r40, er40⟩ : ∃ y : Nat, y = (sh_ref μ 0 7) := ⟨_, rfl⟩
    rw [sh_let_eq er40] at h
    have k39r : sh_r μ 0 7 = some r40 ∧ (r40 = 8 ∨ r40 = 29) := by rw [er40]; exact k39
    by_cases c41 : (sh_i μ r40 3) ≤ i3
    · rw [if_pos c41] at h
      obtain ⟨μ42, hr43, h⟩ := sh_bindv_e h
      have hG42 := gp_X4_forget hG hr43
      obtain ⟨e1, e2⟩ := sh_some2 h
      exact e2 ▸ hG42
    · rw [if_neg c41] at h
      obtain ⟨x45, ex45⟩ : ∃ y : Int32, y = ((2 + i2) + (i3 * 4)) := ⟨_, rfl⟩
      rw [sh_let_eq ex45] at h
      obtain ⟨k46, h⟩ := sh_chk h
      obtain ⟨k47, h⟩ := sh_chk h
      obtain ⟨μ48, eμ48⟩ : ∃ y : sh_Mem, y = (sh_setI μ 51 i3.toNatClampNeg (sh_i μ 1 x45.toNatClampNeg)) := ⟨_, rfl⟩
      rw [sh_let_eq eμ48] at h
      have hG48 : sh_G μ48 := by rw [eμ48]; exact hG
      obtain ⟨k49, h⟩ := sh_chk h
      obtain ⟨k50, h⟩ := sh_chk h
      obtain ⟨μ51, eμ51⟩ : ∃ y : sh_Mem, y = (sh_setI μ48 52 i3.toNatClampNeg (sh_i μ48 1 ((x45 + 1)).toNatClampNeg)) := ⟨_, rfl⟩
      rw [sh_let_eq eμ51] at h
      have hG51 : sh_G μ51 := by rw [eμ51]; exact hG48
      obtain ⟨k52, h⟩ := sh_chk h
      obtain ⟨k53, h⟩ := sh_chk h
      obtain ⟨μ54, eμ54⟩ : ∃ y : sh_Mem, y = (sh_setI μ51 53 i3.toNatClampNeg (sh_i μ51 1 ((x45 + 2)).toNatClampNeg)) := ⟨_, rfl⟩
      rw [sh_let_eq eμ54] at h
      have hG54 : sh_G μ54 := by rw [eμ54]; exact hG51
      obtain ⟨k55, h⟩ := sh_chk h
      obtain ⟨k56, h⟩ := sh_chk h
      obtain ⟨μ57, eμ57⟩ : ∃ y : sh_Mem, y = (sh_setI μ54 54 i3.toNatClampNeg (sh_i μ54 1 ((x45 + 3)).toNatClampNeg)) := ⟨_, rfl⟩
      rw [sh_let_eq eμ57] at h
      have hG57 : sh_G μ57 := by rw [eμ57]; exact hG54
      exact ih_70 hG57 h
theorem tl_X11_on (fuel : Nat) : (∀ ⦃i1 : Int32⦄ ⦃i2 : Int32⦄ ⦃i3 : Int32⦄ ⦃μ μ' : sh_Mem⦄ ⦃v : Int32⦄, sh_G μ → F_X11_on fuel 1 i1 i2 i3 μ = some (v, μ') → sh_V0 l B D ca 4 M_X11_on 70 [(0, .ref 0), (1, .int i1), (2, .int i2), (3, .int i3)] [] μ (fun v0 μ0 => v0 = some (.int v) ∧ μ0 = μ')) := by
  induction fuel with
  | zero => intro i1 i2 i3 μ μ' v hG h; cases h
  | succ fuel ih =>
    have ih_70 := ih
    intro i1 i2 i3 μ μ' v hG h
    replace h : ((if (sh_r μ 0 7 = some (sh_ref μ 0 7) ∧ ((sh_ref μ 0 7) = 8 ∨ (sh_ref μ 0 7) = 29)) then sh_let (sh_ref μ 0 7) (fun r40 => (if (sh_i μ r40 3) ≤ i3 then sh_bindv (f_X4_forget μ) (fun μ42 => some (1, μ42)) else sh_let (((2 + i2) + (i3 * 4)) : Int32) (fun x45 => (if sh_in x45 1600 then (if sh_in i3 7 then sh_let (sh_setI μ 51 i3.toNatClampNeg (sh_i μ 1 x45.toNatClampNeg)) (fun μ48 => (if sh_in (x45 + 1) 1600 then (if sh_in i3 7 then sh_let (sh_setI μ48 52 i3.toNatClampNeg (sh_i μ48 1 ((x45 + 1)).toNatClampNeg)) (fun μ51 => (if sh_in (x45 + 2) 1600 then (if sh_in i3 7 then sh_let (sh_setI μ51 53 i3.toNatClampNeg (sh_i μ51 1 ((x45 + 2)).toNatClampNeg)) (fun μ54 => (if sh_in (x45 + 3) 1600 then (if sh_in i3 7 then sh_let (sh_setI μ54 54 i3.toNatClampNeg (sh_i μ54 1 ((x45 + 3)).toNatClampNeg)) (fun μ57 => F_X11_on fuel 1 i1 i2 (i3 + 1) μ57) else none) else none)) else none) else none)) else none) else none)) else none) else none)))) else none) : Option (Int32 × sh_Mem)) = some (v, μ') := h
    refine vv_iload_n 70 3 dX11_on_70 rfl rfl ?_
    refine vv_aload_n 71 0 dX11_on_71 rfl rfl ?_
    obtain ⟨k39, h⟩ := sh_chk h
    refine vv_getR 72 dX11_on_72 fl_11_53 rfl (g_l_0 hG) k39.1 ?_
    refine vv_topr (fun r40 er40 => ?_)
    rw [sh_let_eq er40] at h
    have k39r : sh_r μ 0 7 = some r40 ∧ (r40 = 8 ∨ r40 = 29) := by rw [er40]; exact k39
    refine vv_getI 75 dX11_on_75 fl_11_180 rfl (gP_l hG k39r.2) ?_
    refine vv_icmp_ge 78 166 dX11_on_78 (by decide) (fun c41 => ?_) (fun c41 => ?_)
    · rw [if_pos c41] at h
      refine vv_aload_n 166 0 dX11_on_166 rfl rfl ?_
      refine vv_getR 167 dX11_on_167 fl_11_76 rfl (g_l_0 hG) (g_r_0_10 hG) ?_
      obtain ⟨μ42, hr43, h⟩ := sh_bindv_e h
      refine v1_callV [] 170 dX11_on_170 ck_X11_159 (g_l_63 hG) ⟨by decide, rfl⟩ (t_X4_forget hG hr43) (Nat.le_of_ble_eq_true rfl) ⟨Nat.le_of_ble_eq_true rfl, Nat.le_of_ble_eq_true rfl⟩ rfl (Nat.le_of_ble_eq_true rfl) ?_
      have hG42 := gp_X4_forget hG hr43
      refine vv_iconst 173 dX11_on_173 ik_1 ?_
      obtain ⟨e1, e2⟩ := sh_some2 h
      refine vv_zret 174 dX11_on_174 rfl rfl (Nat.le_refl _) (Nat.le_refl _) ⟨by rw [e1], e2⟩
    · rw [if_neg c41] at h
      refine vv_iconst 81 dX11_on_81 ik_2 ?_
      refine vv_iload_n 82 2 dX11_on_82 rfl rfl ?_
      refine vv_iadd 83 dX11_on_83 ?_
      refine vv_iload_n 84 3 dX11_on_84 rfl rfl ?_
      refine vv_iconst 85 dX11_on_85 ik_4 ?_
      refine vv_imul 86 dX11_on_86 ?_
      refine vv_iadd 87 dX11_on_87 ?_
      refine vv_topi (fun x45 ex45 => ?_)
      rw [sh_let_eq ex45] at h
      refine vv_istore (lv' := [(4, _), (0, _), (1, _), (2, _), (3, _)]) 88 4 dX11_on_88 (by decide) rfl ?_
      refine vv_aload_n 90 0 dX11_on_90 rfl rfl ?_
      refine vv_getR 91 dX11_on_91 fl_11_60 rfl (g_l_0 hG) (g_r_0_8 hG) ?_
      refine vv_getR 94 dX11_on_94 fl_11_223 rfl (g_l_49 hG) (g_r_49_2 hG) ?_
      refine vv_iload_n 97 3 dX11_on_97 rfl rfl ?_
      refine vv_aload_n 98 0 dX11_on_98 rfl rfl ?_
      refine vv_getR 99 dX11_on_99 fl_11_9 rfl (g_l_0 hG) (g_r_0_0 hG) ?_
      refine vv_iload 102 4 dX11_on_102 rfl ?_
      obtain ⟨k46, h⟩ := sh_chk h
      refine vv_iald 104 dX11_on_104 (g_l_1 hG) k46 ?_
      obtain ⟨k47, h⟩ := sh_chk h
      refine vn_iast 105 dX11_on_105 (g_l_51 hG) k47 (fun μ48 eμ48 => ?_)
      rw [sh_let_eq eμ48] at h
      have hG48 : sh_G μ48 := by rw [eμ48]; exact hG
      refine vv_aload_n 106 0 dX11_on_106 rfl rfl ?_
      refine vv_getR 107 dX11_on_107 fl_11_60 rfl (g_l_0 hG48) (g_r_0_8 hG48) ?_
      refine vv_getR 110 dX11_on_110 fl_11_226 rfl (g_l_49 hG48) (g_r_49_3 hG48) ?_
      refine vv_iload_n 113 3 dX11_on_113 rfl rfl ?_
      refine vv_aload_n 114 0 dX11_on_114 rfl rfl ?_
      refine vv_getR 115 dX11_on_115 fl_11_9 rfl (g_l_0 hG48) (g_r_0_0 hG48) ?_
      refine vv_iload 118 4 dX11_on_118 rfl ?_
      refine vv_iconst 120 dX11_on_120 ik_1 ?_
      refine vv_iadd 121 dX11_on_121 ?_
      obtain ⟨k49, h⟩ := sh_chk h
      refine vv_iald 122 dX11_on_122 (g_l_1 hG48) k49 ?_
      obtain ⟨k50, h⟩ := sh_chk h
      refine vn_iast 123 dX11_on_123 (g_l_52 hG48) k50 (fun μ51 eμ51 => ?_)
      rw [sh_let_eq eμ51] at h
      have hG51 : sh_G μ51 := by rw [eμ51]; exact hG48
      refine vv_aload_n 124 0 dX11_on_124 rfl rfl ?_
      refine vv_getR 125 dX11_on_125 fl_11_60 rfl (g_l_0 hG51) (g_r_0_8 hG51) ?_
      refine vv_getR 128 dX11_on_128 fl_11_229 rfl (g_l_49 hG51) (g_r_49_4 hG51) ?_
      refine vv_iload_n 131 3 dX11_on_131 rfl rfl ?_
      refine vv_aload_n 132 0 dX11_on_132 rfl rfl ?_
      refine vv_getR 133 dX11_on_133 fl_11_9 rfl (g_l_0 hG51) (g_r_0_0 hG51) ?_
      refine vv_iload 136 4 dX11_on_136 rfl ?_
      refine vv_iconst 138 dX11_on_138 ik_2 ?_
      refine vv_iadd 139 dX11_on_139 ?_
      obtain ⟨k52, h⟩ := sh_chk h
      refine vv_iald 140 dX11_on_140 (g_l_1 hG51) k52 ?_
      obtain ⟨k53, h⟩ := sh_chk h
      refine vn_iast 141 dX11_on_141 (g_l_53 hG51) k53 (fun μ54 eμ54 => ?_)
      rw [sh_let_eq eμ54] at h
      have hG54 : sh_G μ54 := by rw [eμ54]; exact hG51
      refine vv_aload_n 142 0 dX11_on_142 rfl rfl ?_
      refine vv_getR 143 dX11_on_143 fl_11_60 rfl (g_l_0 hG54) (g_r_0_8 hG54) ?_
      refine vv_getR 146 dX11_on_146 fl_11_232 rfl (g_l_49 hG54) (g_r_49_5 hG54) ?_
      refine vv_iload_n 149 3 dX11_on_149 rfl rfl ?_
      refine vv_aload_n 150 0 dX11_on_150 rfl rfl ?_
      refine vv_getR 151 dX11_on_151 fl_11_9 rfl (g_l_0 hG54) (g_r_0_0 hG54) ?_
      refine vv_iload 154 4 dX11_on_154 rfl ?_
      refine vv_iconst 156 dX11_on_156 ik_3 ?_
      refine vv_iadd 157 dX11_on_157 ?_
      obtain ⟨k55, h⟩ := sh_chk h
      refine vv_iald 158 dX11_on_158 (g_l_1 hG54) k55 ?_
      obtain ⟨k56, h⟩ := sh_chk h
      refine vn_iast 159 dX11_on_159 (g_l_54 hG54) k56 (fun μ57 eμ57 => ?_)
      rw [sh_let_eq eμ57] at h
      have hG57 : sh_G μ57 := by rw [eμ57]; exact hG54
      refine vv_iincc (lv' := [(3, _), (4, _), (0, _), (1, _), (2, _)]) 160 3 dX11_on_160 rfl ik_1 (by decide) rfl ?_
      refine vv_goto 163 70 dX11_on_163 (by decide) ?_
      refine vv_sub [(0, _), (1, _), (2, _), (3, _)] (sh_subm [2, 3, 4, 0] rfl) ?_
      exact ih_70 hG57 h
theorem gp_X11_on {μ μ' : sh_Mem} {v : Int32} (hG : sh_G μ) (h : f_X11_on μ = some (v, μ')) : sh_G μ' := by
  have ih_70 := (gpl_X11_on 1000000)
  unfold f_X11_on at h
  obtain ⟨y60, μ58, hr59, h⟩ := sh_bind_e h
  have hG58 := gp_X11_takeTape hG hr59
  obtain ⟨y63, μ61, hr62, h⟩ := sh_bind_e h
  have hG61 := gp_X11_isImage hG58 hr62
  by_cases c64 : y63 = 0
  · rw [if_pos c64] at h
    obtain ⟨y75, μ73, hr74, h⟩ := sh_bind_e h
    have hG73 := gp_X11_refuse hG61 hr74
    obtain ⟨k76, h⟩ := sh_chk h
    obtain ⟨e1, e2⟩ := sh_some2 h
    exact e2 ▸ hG73
  · rw [if_neg c64] at h
    obtain ⟨k65, h⟩ := sh_chk h
    obtain ⟨r66, er66⟩ : ∃ y : Nat, y = (sh_ref μ61 0 7) := ⟨_, rfl⟩
    rw [sh_let_eq er66] at h
    have k65r : sh_r μ61 0 7 = some r66 ∧ (r66 = 8 ∨ r66 = 29) := by rw [er66]; exact k65
    obtain ⟨x67, ex67⟩ : ∃ y : Int32, y = (f_X5_cells μ61 r66) := ⟨_, rfl⟩
    rw [sh_let_eq ex67] at h
    obtain ⟨μ68, eμ68⟩ : ∃ y : sh_Mem, y = (sh_setI μ61 49 0 (((sh_i μ61 1 (Int32.toNatClampNeg 0)) * 256) + (sh_i μ61 1 (Int32.toNatClampNeg 1)))) := ⟨_, rfl⟩
    rw [sh_let_eq eμ68] at h
    have hG68 : sh_G μ68 := by rw [eμ68]; exact hG61
    obtain ⟨k69, h⟩ := sh_chk h
    obtain ⟨k70, h⟩ := sh_chk h
    obtain ⟨k71, h⟩ := sh_chk h
    obtain ⟨μ72, eμ72⟩ : ∃ y : sh_Mem, y = (sh_rowI μ68 50 (va_cpy (sh_i μ68 1) (sh_i μ68 50) (Int32.toNatClampNeg 2) (Int32.toNatClampNeg 0) x67.toNatClampNeg)) := ⟨_, rfl⟩
    rw [sh_let_eq eμ72] at h
    have hG72 : sh_G μ72 := by rw [eμ72]; exact hG68
    exact ih_70 hG72 h
theorem t_X11_on {μ μ' : sh_Mem} {v : Int32} (hG : sh_G μ) (h : f_X11_on μ = some (v, μ')) : sh_C0 l B D ca 4 M_X11_on [.ref 0] μ (fun v0 μ0 => v0 = some (.int v) ∧ μ0 = μ') := by
  have ih_70 := (tl_X11_on (l := l) (B := B) (D := D) (ca := ca) 1000000)
  unfold f_X11_on at h
  refine vv_aload_n 0 0 dX11_on_0 rfl rfl ?_
  obtain ⟨y60, μ58, hr59, h⟩ := sh_bind_e h
  refine v1_callV [] 1 dX11_on_1 ck_X11_132 (g_l_0 hG) ⟨by decide, rfl⟩ (t_X11_takeTape hG hr59) (Nat.le_of_ble_eq_true rfl) ⟨Nat.le_of_ble_eq_true rfl, Nat.le_of_ble_eq_true rfl⟩ rfl (Nat.le_of_ble_eq_true rfl) ?_
  have hG58 := gp_X11_takeTape hG hr59
  refine vv_istore_n (lv' := [(1, _), (0, _)]) 4 1 dX11_on_4 rfl (by decide) rfl ?_
  refine vv_aload_n 5 0 dX11_on_5 rfl rfl ?_
  refine vv_iload_n 6 1 dX11_on_6 rfl rfl ?_
  obtain ⟨y63, μ61, hr62, h⟩ := sh_bind_e h
  refine v1_callV [_] 7 dX11_on_7 ck_X11_405 (g_l_0 hG58) ⟨by decide, rfl⟩ (t_X11_isImage hG58 hr62) (Nat.le_of_ble_eq_true rfl) ⟨Nat.le_of_ble_eq_true rfl, Nat.le_of_ble_eq_true rfl⟩ rfl (Nat.le_of_ble_eq_true rfl) ?_
  have hG61 := gp_X11_isImage hG58 hr62
  refine vv_if_ne 10 19 dX11_on_10 (by decide) (fun c64 => ?_) (fun c64 => ?_)
  · rw [if_neg c64] at h
    refine vv_aload_n 19 0 dX11_on_19 rfl rfl ?_
    obtain ⟨k65, h⟩ := sh_chk h
    refine vv_getR 20 dX11_on_20 fl_11_53 rfl (g_l_0 hG61) k65.1 ?_
    refine vv_topr (fun r66 er66 => ?_)
    rw [sh_let_eq er66] at h
    have k65r : sh_r μ61 0 7 = some r66 ∧ (r66 = 8 ∨ r66 = 29) := by rw [er66]; exact k65
    refine v1_callV [] 23 dX11_on_23 ck_X11_189 (gP_l hG61 k65r.2) ⟨by decide, rfl⟩ (c_X5_cells (μ := μ61) hG61 k65r.2) (Nat.le_of_ble_eq_true rfl) ⟨Nat.le_of_ble_eq_true rfl, Nat.le_of_ble_eq_true rfl⟩ rfl (Nat.le_of_ble_eq_true rfl) ?_
    refine vv_topi (fun x67 ex67 => ?_)
    rw [sh_let_eq ex67] at h
    refine vv_istore_n (lv' := [(2, _), (1, _), (0, _)]) 26 2 dX11_on_26 rfl (by decide) rfl ?_
    refine vv_aload_n 27 0 dX11_on_27 rfl rfl ?_
    refine vv_getR 28 dX11_on_28 fl_11_60 rfl (g_l_0 hG61) (g_r_0_8 hG61) ?_
    refine vv_aload_n 31 0 dX11_on_31 rfl rfl ?_
    refine vv_getR 32 dX11_on_32 fl_11_9 rfl (g_l_0 hG61) (g_r_0_0 hG61) ?_
    refine vv_iconst 35 dX11_on_35 ik_0 ?_
    refine vv_iald 36 dX11_on_36 (g_l_1 hG61) (by unfold vp_in; decide) ?_
    refine vv_sipush 37 dX11_on_37 sk_256 ?_
    refine vv_imul 40 dX11_on_40 ?_
    refine vv_aload_n 41 0 dX11_on_41 rfl rfl ?_
    refine vv_getR 42 dX11_on_42 fl_11_9 rfl (g_l_0 hG61) (g_r_0_0 hG61) ?_
    refine vv_iconst 45 dX11_on_45 ik_1 ?_
    refine vv_iald 46 dX11_on_46 (g_l_1 hG61) (by unfold vp_in; decide) ?_
    refine vv_iadd 47 dX11_on_47 ?_
    refine vn_putI 48 dX11_on_48 fl_11_186 (Or.inl rfl) rfl (g_l_49 hG61) (fun μ68 eμ68 => ?_)
    rw [sh_let_eq eμ68] at h
    have hG68 : sh_G μ68 := by rw [eμ68]; exact hG61
    refine vv_aload_n 51 0 dX11_on_51 rfl rfl ?_
    refine vv_getR 52 dX11_on_52 fl_11_9 rfl (g_l_0 hG68) (g_r_0_0 hG68) ?_
    refine vv_iconst 55 dX11_on_55 ik_2 ?_
    refine vv_aload_n 56 0 dX11_on_56 rfl rfl ?_
    refine vv_getR 57 dX11_on_57 fl_11_60 rfl (g_l_0 hG68) (g_r_0_8 hG68) ?_
    refine vv_getR 60 dX11_on_60 fl_11_220 rfl (g_l_49 hG68) (g_r_49_1 hG68) ?_
    refine vv_iconst 63 dX11_on_63 ik_0 ?_
    refine vv_iload_n 64 2 dX11_on_64 rfl rfl ?_
    obtain ⟨k69, h⟩ := sh_chk h
    obtain ⟨k70, h⟩ := sh_chk h
    obtain ⟨k71, h⟩ := sh_chk h
    refine vn_copy 65 dX11_on_65 ck_X11_302 (g_l_1 hG68) (g_l_50 hG68) (by decide) (by decide) k69 k70 k71 (Nat.le_of_ble_eq_true rfl) (Nat.le_of_ble_eq_true rfl) (fun μ72 eμ72 => ?_)
    rw [sh_let_eq eμ72] at h
    have hG72 : sh_G μ72 := by rw [eμ72]; exact hG68
    refine vv_iconst 68 dX11_on_68 ik_0 ?_
    refine vv_istore_n (lv' := [(3, _), (2, _), (1, _), (0, _)]) 69 3 dX11_on_69 rfl (by decide) rfl ?_
    refine vv_sub [(0, _), (1, _), (2, _), (3, _)] (sh_subm [3, 2, 1, 0] rfl) ?_
    exact ih_70 hG72 h
  · rw [if_pos c64] at h
    refine vv_aload_n 13 0 dX11_on_13 rfl rfl ?_
    refine vv_iconst 14 dX11_on_14 ik_5 ?_
    obtain ⟨y75, μ73, hr74, h⟩ := sh_bind_e h
    refine v1_callV [_] 15 dX11_on_15 ck_X11_128 (g_l_0 hG61) ⟨by decide, rfl⟩ (t_X11_refuse hG61 hr74) (Nat.le_of_ble_eq_true rfl) ⟨Nat.le_of_ble_eq_true rfl, Nat.le_of_ble_eq_true rfl⟩ rfl (Nat.le_of_ble_eq_true rfl) ?_
    have hG73 := gp_X11_refuse hG61 hr74
    obtain ⟨k76, h⟩ := sh_chk h
    obtain ⟨e1, e2⟩ := sh_some2 h
    refine vv_zret 18 dX11_on_18 rfl (sh_nb k76) (Nat.le_refl _) (Nat.le_refl _) ⟨by rw [e1], e2⟩
def f_X10_asked (q1 : Nat) (a2 : Int32) (a3 : Int32) (μ : sh_Mem) : Option (Int32 × sh_Mem) := sh_let (sh_setI μ 55 1 0) (fun μ1 => sh_bind (f_X10_deed q1 a2 a3 μ1) (fun y4 μ2 => (if y4 = 2 then sh_bindv (f_X10_lookAround q1 a2 μ2) (fun μ6 => sh_bindv (f_X10_lift q1 (sh_i μ6 55 5) μ6) (fun μ9 => sh_bindv (f_X10_lift q1 (sh_i μ9 55 6) μ9) (fun μ12 => (if (sh_r μ12 55 0 = some (sh_ref μ12 55 0) ∧ ((sh_ref μ12 55 0) = 8 ∨ (sh_ref μ12 55 0) = 29)) then sh_let (sh_ref μ12 55 0) (fun r16 => sh_bind (f_X1_value (r16 + 8) 56 μ12) (fun y19 μ17 => (if sh_in a2 7 then sh_let (sh_setI μ17 (q1 + 4) a2.toNatClampNeg (f_X10_within μ17 y19 9)) (fun μ21 => some (y4, μ21)) else none))) else none)))) else some (y4, μ2))))
theorem gp_X10_asked {q1 : Nat} {a2 : Int32} {a3 : Int32} {μ μ' : sh_Mem} {v : Int32} (hG : sh_G μ) (hq1 : sh_isL q1) (h : f_X10_asked q1 a2 a3 μ = some (v, μ')) : sh_G μ' := by
  unfold f_X10_asked at h
  obtain ⟨μ1, eμ1⟩ : ∃ y : sh_Mem, y = (sh_setI μ 55 1 0) := ⟨_, rfl⟩
  rw [sh_let_eq eμ1] at h
  have hG1 : sh_G μ1 := by rw [eμ1]; exact hG
  obtain ⟨y4, μ2, hr3, h⟩ := sh_bind_e h
  have hG2 := gp_X10_deed hG1 hq1 hr3
  by_cases c5 : y4 = 2
  · rw [if_pos c5] at h
    obtain ⟨μ6, hr7, h⟩ := sh_bindv_e h
    have hG6 := gp_X10_lookAround hG2 hq1 hr7
    obtain ⟨μ9, hr10, h⟩ := sh_bindv_e h
    have hG9 := gp_X10_lift hG6 hq1 hr10
    obtain ⟨μ12, hr13, h⟩ := sh_bindv_e h
    have hG12 := gp_X10_lift hG9 hq1 hr13
    obtain ⟨k15, h⟩ := sh_chk h
    obtain ⟨r16, er16⟩ : ∃ y : Nat, y = (sh_ref μ12 55 0) := ⟨_, rfl⟩
    rw [sh_let_eq er16] at h
    have k15r : sh_r μ12 55 0 = some r16 ∧ (r16 = 8 ∨ r16 = 29) := by rw [er16]; exact k15
    obtain ⟨y19, μ17, hr18, h⟩ := sh_bind_e h
    have hG17 := gp_X1_value hG12 (gP_f11 k15r.2) (sh_LAYat_56) hr18
    obtain ⟨k20, h⟩ := sh_chk h
    obtain ⟨μ21, eμ21⟩ : ∃ y : sh_Mem, y = (sh_setI μ17 (q1 + 4) a2.toNatClampNeg (f_X10_within μ17 y19 9)) := ⟨_, rfl⟩
    rw [sh_let_eq eμ21] at h
    have hG21 : sh_G μ21 := by rw [eμ21]; exact hG17
    obtain ⟨e1, e2⟩ := sh_some2 h
    exact e2 ▸ hG21
  · rw [if_neg c5] at h
    obtain ⟨e1, e2⟩ := sh_some2 h
    exact e2 ▸ hG2
theorem t_X10_asked {q1 : Nat} {a2 : Int32} {a3 : Int32} {μ μ' : sh_Mem} {v : Int32} (hG : sh_G μ) (hq1 : sh_isL q1) (h : f_X10_asked q1 a2 a3 μ = some (v, μ')) : sh_C0 l B D ca 5 M_X10_asked [.ref 55, .ref q1, .int a2, .int a3] μ (fun v0 μ0 => v0 = some (.int v) ∧ μ0 = μ') := by
  unfold f_X10_asked at h
  refine vv_aload_n 0 0 dX10_asked_0 rfl rfl ?_
  refine vv_iconst 1 dX10_asked_1 ik_0 ?_
  refine vn_putI 2 dX10_asked_2 fl_10_72 (Or.inl rfl) rfl (g_l_55 hG) (fun μ1 eμ1 => ?_)
  rw [sh_let_eq eμ1] at h
  have hG1 : sh_G μ1 := by rw [eμ1]; exact hG
  refine vv_aload_n 5 0 dX10_asked_5 rfl rfl ?_
  refine vv_aload_n 6 1 dX10_asked_6 rfl rfl ?_
  refine vv_iload_n 7 2 dX10_asked_7 rfl rfl ?_
  refine vv_iload_n 8 3 dX10_asked_8 rfl rfl ?_
  obtain ⟨y4, μ2, hr3, h⟩ := sh_bind_e h
  refine v1_callV [_, _, _] 9 dX10_asked_9 ck_X10_85 (g_l_55 hG1) ⟨by decide, rfl⟩ (t_X10_deed hG1 hq1 hr3) (Nat.le_of_ble_eq_true rfl) ⟨Nat.le_of_ble_eq_true rfl, Nat.le_of_ble_eq_true rfl⟩ rfl (Nat.le_of_ble_eq_true rfl) ?_
  have hG2 := gp_X10_deed hG1 hq1 hr3
  refine vv_istore (lv' := [(4, _), (0, _), (1, _), (2, _), (3, _)]) 12 4 dX10_asked_12 (by decide) rfl ?_
  refine vv_iload 14 4 dX10_asked_14 rfl ?_
  refine vv_iconst 16 dX10_asked_16 ik_2 ?_
  refine vv_icmp_ne 17 69 dX10_asked_17 (by decide) (fun c5 => ?_) (fun c5 => ?_)
  · rw [if_neg c5] at h
    refine vv_iload 69 4 dX10_asked_69 rfl ?_
    obtain ⟨e1, e2⟩ := sh_some2 h
    refine vv_iret 71 dX10_asked_71 rfl (Nat.le_refl _) (Nat.le_refl _) ⟨by rw [e1], e2⟩
  · rw [if_pos c5] at h
    refine vv_aload_n 20 0 dX10_asked_20 rfl rfl ?_
    refine vv_aload_n 21 1 dX10_asked_21 rfl rfl ?_
    refine vv_iload_n 22 2 dX10_asked_22 rfl rfl ?_
    obtain ⟨μ6, hr7, h⟩ := sh_bindv_e h
    refine v1_callV [_, _] 23 dX10_asked_23 ck_X10_88 (g_l_55 hG2) ⟨by decide, rfl⟩ (t_X10_lookAround hG2 hq1 hr7) (Nat.le_of_ble_eq_true rfl) ⟨Nat.le_of_ble_eq_true rfl, Nat.le_of_ble_eq_true rfl⟩ rfl (Nat.le_of_ble_eq_true rfl) ?_
    have hG6 := gp_X10_lookAround hG2 hq1 hr7
    refine vv_aload_n 26 0 dX10_asked_26 rfl rfl ?_
    refine vv_aload_n 27 1 dX10_asked_27 rfl rfl ?_
    refine vv_aload_n 28 0 dX10_asked_28 rfl rfl ?_
    refine vv_getI 29 dX10_asked_29 fl_10_92 rfl (g_l_55 hG6) ?_
    obtain ⟨μ9, hr10, h⟩ := sh_bindv_e h
    refine v1_callV [_, _] 32 dX10_asked_32 ck_X10_95 (g_l_55 hG6) ⟨by decide, rfl⟩ (t_X10_lift hG6 hq1 hr10) (Nat.le_of_ble_eq_true rfl) ⟨Nat.le_of_ble_eq_true rfl, Nat.le_of_ble_eq_true rfl⟩ rfl (Nat.le_of_ble_eq_true rfl) ?_
    have hG9 := gp_X10_lift hG6 hq1 hr10
    refine vv_aload_n 35 0 dX10_asked_35 rfl rfl ?_
    refine vv_aload_n 36 1 dX10_asked_36 rfl rfl ?_
    refine vv_aload_n 37 0 dX10_asked_37 rfl rfl ?_
    refine vv_getI 38 dX10_asked_38 fl_10_98 rfl (g_l_55 hG9) ?_
    obtain ⟨μ12, hr13, h⟩ := sh_bindv_e h
    refine v1_callV [_, _] 41 dX10_asked_41 ck_X10_95 (g_l_55 hG9) ⟨by decide, rfl⟩ (t_X10_lift hG9 hq1 hr13) (Nat.le_of_ble_eq_true rfl) ⟨Nat.le_of_ble_eq_true rfl, Nat.le_of_ble_eq_true rfl⟩ rfl (Nat.le_of_ble_eq_true rfl) ?_
    have hG12 := gp_X10_lift hG9 hq1 hr13
    refine vv_aload_n 44 1 dX10_asked_44 rfl rfl ?_
    refine vv_getR 45 dX10_asked_45 fl_10_38 rfl (gL_l hG12 hq1) (gL_r4 hG12 hq1) ?_
    refine vv_iload_n 48 2 dX10_asked_48 rfl rfl ?_
    refine vv_aload_n 49 0 dX10_asked_49 rfl rfl ?_
    obtain ⟨k15, h⟩ := sh_chk h
    refine vv_getR 50 dX10_asked_50 fl_10_22 rfl (g_l_55 hG12) k15.1 ?_
    refine vv_topr (fun r16 er16 => ?_)
    rw [sh_let_eq er16] at h
    have k15r : sh_r μ12 55 0 = some r16 ∧ (r16 = 8 ∨ r16 = 29) := by rw [er16]; exact k15
    refine vv_getR 53 dX10_asked_53 fl_10_101 rfl (gP_l hG12 k15r.2) (gP_r11 hG12 k15r.2) ?_
    refine vv_aload_n 56 0 dX10_asked_56 rfl rfl ?_
    refine vv_getR 57 dX10_asked_57 fl_10_9 rfl (g_l_55 hG12) (g_r_55_2 hG12) ?_
    obtain ⟨y19, μ17, hr18, h⟩ := sh_bind_e h
    refine v1_callV [_] 60 dX10_asked_60 ck_X10_79 (gF_l hG12 (gP_f11 k15r.2)) ⟨by decide, rfl⟩ (t_X1_value hG12 (gP_f11 k15r.2) (sh_LAYat_56) hr18) (Nat.le_of_ble_eq_true rfl) ⟨Nat.le_of_ble_eq_true rfl, Nat.le_of_ble_eq_true rfl⟩ rfl (Nat.le_of_ble_eq_true rfl) ?_
    have hG17 := gp_X1_value hG12 (gP_f11 k15r.2) (sh_LAYat_56) hr18
    refine vv_bipush 63 dX10_asked_63 bk_9 ?_
    refine v1_callS [_, _] 65 dX10_asked_65 ck_X10_104 (c_X10_within (μ := μ17) hG17) (Nat.le_of_ble_eq_true rfl) ⟨Nat.le_of_ble_eq_true rfl, Nat.le_of_ble_eq_true rfl⟩ rfl (Nat.le_of_ble_eq_true rfl) ?_
    obtain ⟨k20, h⟩ := sh_chk h
    refine vn_iast 68 dX10_asked_68 (gA_l hG17 (gLA4 hq1)) k20 (fun μ21 eμ21 => ?_)
    rw [sh_let_eq eμ21] at h
    have hG21 : sh_G μ21 := by rw [eμ21]; exact hG17
    refine vv_iload 69 4 dX10_asked_69 rfl ?_
    obtain ⟨e1, e2⟩ := sh_some2 h
    refine vv_iret 71 dX10_asked_71 rfl (Nat.le_refl _) (Nat.le_refl _) ⟨by rw [e1], e2⟩
def f_X10_passDay (q1 : Nat) (a2 : Int32) (μ : sh_Mem) : Option sh_Mem := (if (sh_r μ 55 0 = some (sh_ref μ 55 0) ∧ ((sh_ref μ 55 0) = 8 ∨ (sh_ref μ 55 0) = 29)) then sh_let (sh_ref μ 55 0) (fun r2 => sh_bind (f_X5_rowOf r2 (sh_i μ q1 0) μ) (fun y5 μ3 => (if y5 = (-1) then sh_let (sh_setI μ3 q1 0 ((sh_i μ3 q1 0) + 1)) (fun μ7 => some μ7) else (if (sh_r μ3 55 0 = some (sh_ref μ3 55 0) ∧ ((sh_ref μ3 55 0) = 8 ∨ (sh_ref μ3 55 0) = 29)) then sh_let (sh_ref μ3 55 0) (fun r9 => (if sh_in y5 12 then (if ((a2 >>> ((sh_i μ3 (r9 + 3) y5.toNatClampNeg) &&& 31)) &&& 1) = 0 then (if (sh_r μ3 55 0 = some (sh_ref μ3 55 0) ∧ ((sh_ref μ3 55 0) = 8 ∨ (sh_ref μ3 55 0) = 29)) then sh_let (sh_ref μ3 55 0) (fun r14 => (if sh_in y5 12 then (if (sh_r μ3 55 0 = some (sh_ref μ3 55 0) ∧ ((sh_ref μ3 55 0) = 8 ∨ (sh_ref μ3 55 0) = 29)) then sh_let (sh_ref μ3 55 0) (fun r17 => (if sh_in y5 12 then sh_bind (f_X10_asked q1 (sh_i μ3 (r14 + 3) y5.toNatClampNeg) (sh_i μ3 (r17 + 4) y5.toNatClampNeg) μ3) (fun y21 μ19 => sh_let (sh_setI μ19 q1 0 ((sh_i μ19 q1 0) + 1)) (fun μ22 => some μ22)) else none)) else none) else none)) else none) else sh_let (sh_setI μ3 q1 0 ((sh_i μ3 q1 0) + 1)) (fun μ12 => some μ12)) else none)) else none)))) else none)
theorem gp_X10_passDay {q1 : Nat} {a2 : Int32} {μ μ' : sh_Mem} (hG : sh_G μ) (hq1 : sh_isL q1) (h : f_X10_passDay q1 a2 μ = some μ') : sh_G μ' := by
  unfold f_X10_passDay at h
  obtain ⟨k1, h⟩ := sh_chk h
  obtain ⟨r2, er2⟩ : ∃ y : Nat, y = (sh_ref μ 55 0) := ⟨_, rfl⟩
  rw [sh_let_eq er2] at h
  have k1r : sh_r μ 55 0 = some r2 ∧ (r2 = 8 ∨ r2 = 29) := by rw [er2]; exact k1
  obtain ⟨y5, μ3, hr4, h⟩ := sh_bind_e h
  have hG3 := gp_X5_rowOf hG k1r.2 hr4
  by_cases c6 : y5 = (-1)
  · rw [if_pos c6] at h
    obtain ⟨μ7, eμ7⟩ : ∃ y : sh_Mem, y = (sh_setI μ3 q1 0 ((sh_i μ3 q1 0) + 1)) := ⟨_, rfl⟩
    rw [sh_let_eq eμ7] at h
    have hG7 : sh_G μ7 := by rw [eμ7]; exact hG3
    have e2 := Option.some.inj h
    exact e2 ▸ hG7
  · rw [if_neg c6] at h
    obtain ⟨k8, h⟩ := sh_chk h
    obtain ⟨r9, er9⟩ : ∃ y : Nat, y = (sh_ref μ3 55 0) := ⟨_, rfl⟩
    rw [sh_let_eq er9] at h
    have k8r : sh_r μ3 55 0 = some r9 ∧ (r9 = 8 ∨ r9 = 29) := by rw [er9]; exact k8
    obtain ⟨k10, h⟩ := sh_chk h
    by_cases c11 : ((a2 >>> ((sh_i μ3 (r9 + 3) y5.toNatClampNeg) &&& 31)) &&& 1) = 0
    · rw [if_pos c11] at h
      obtain ⟨k13, h⟩ := sh_chk h
      obtain ⟨r14, er14⟩ : ∃ y : Nat, y = (sh_ref μ3 55 0) := ⟨_, rfl⟩
      rw [sh_let_eq er14] at h
      have k13r : sh_r μ3 55 0 = some r14 ∧ (r14 = 8 ∨ r14 = 29) := by rw [er14]; exact k13
      obtain ⟨k15, h⟩ := sh_chk h
      obtain ⟨k16, h⟩ := sh_chk h
      obtain ⟨r17, er17⟩ : ∃ y : Nat, y = (sh_ref μ3 55 0) := ⟨_, rfl⟩
      rw [sh_let_eq er17] at h
      have k16r : sh_r μ3 55 0 = some r17 ∧ (r17 = 8 ∨ r17 = 29) := by rw [er17]; exact k16
      obtain ⟨k18, h⟩ := sh_chk h
      obtain ⟨y21, μ19, hr20, h⟩ := sh_bind_e h
      have hG19 := gp_X10_asked hG3 hq1 hr20
      obtain ⟨μ22, eμ22⟩ : ∃ y : sh_Mem, y = (sh_setI μ19 q1 0 ((sh_i μ19 q1 0) + 1)) := ⟨_, rfl⟩
      rw [sh_let_eq eμ22] at h
      have hG22 : sh_G μ22 := by rw [eμ22]; exact hG19
      have e2 := Option.some.inj h
      exact e2 ▸ hG22
    · rw [if_neg c11] at h
      obtain ⟨μ12, eμ12⟩ : ∃ y : sh_Mem, y = (sh_setI μ3 q1 0 ((sh_i μ3 q1 0) + 1)) := ⟨_, rfl⟩
      rw [sh_let_eq eμ12] at h
      have hG12 : sh_G μ12 := by rw [eμ12]; exact hG3
      have e2 := Option.some.inj h
      exact e2 ▸ hG12
theorem t_X10_passDay {q1 : Nat} {a2 : Int32} {μ μ' : sh_Mem} (hG : sh_G μ) (hq1 : sh_isL q1) (h : f_X10_passDay q1 a2 μ = some μ') : sh_C0 l B D ca 6 M_X10_passDay [.ref 55, .ref q1, .int a2] μ (fun v0 μ0 => v0 = none ∧ μ0 = μ') := by
  unfold f_X10_passDay at h
  refine vv_aload_n 0 0 dX10_passDay_0 rfl rfl ?_
  obtain ⟨k1, h⟩ := sh_chk h
  refine vv_getR 1 dX10_passDay_1 fl_10_22 rfl (g_l_55 hG) k1.1 ?_
  refine vv_topr (fun r2 er2 => ?_)
  rw [sh_let_eq er2] at h
  have k1r : sh_r μ 55 0 = some r2 ∧ (r2 = 8 ∨ r2 = 29) := by rw [er2]; exact k1
  refine vv_aload_n 4 1 dX10_passDay_4 rfl rfl ?_
  refine vv_getI 5 dX10_passDay_5 fl_10_53 rfl (gL_l hG hq1) ?_
  obtain ⟨y5, μ3, hr4, h⟩ := sh_bind_e h
  refine v1_callV [_] 8 dX10_passDay_8 ck_X10_132 (gP_l hG k1r.2) ⟨by decide, rfl⟩ (t_X5_rowOf hG k1r.2 hr4) (Nat.le_of_ble_eq_true rfl) ⟨Nat.le_of_ble_eq_true rfl, Nat.le_of_ble_eq_true rfl⟩ rfl (Nat.le_of_ble_eq_true rfl) ?_
  have hG3 := gp_X5_rowOf hG k1r.2 hr4
  refine vv_istore_n (lv' := [(3, _), (0, _), (1, _), (2, _)]) 11 3 dX10_passDay_11 rfl (by decide) rfl ?_
  refine vv_iload_n 12 3 dX10_passDay_12 rfl rfl ?_
  refine vv_iconst 13 dX10_passDay_13 ik_m1 ?_
  refine vv_icmp_eq 14 57 dX10_passDay_14 (by decide) (fun c6 => ?_) (fun c6 => ?_)
  · rw [if_pos c6] at h
    refine vv_aload_n 57 1 dX10_passDay_57 rfl rfl ?_
    refine vv_dup_ref 58 dX10_passDay_58 ?_
    refine vv_getI 59 dX10_passDay_59 fl_10_53 rfl (gL_l hG3 hq1) ?_
    refine vv_iconst 62 dX10_passDay_62 ik_1 ?_
    refine vv_iadd 63 dX10_passDay_63 ?_
    refine vn_putI 64 dX10_passDay_64 fl_10_53 (Or.inl rfl) rfl (gL_l hG3 hq1) (fun μ7 eμ7 => ?_)
    rw [sh_let_eq eμ7] at h
    have hG7 : sh_G μ7 := by rw [eμ7]; exact hG3
    have e2 := Option.some.inj h
    refine vv_vret 67 dX10_passDay_67 rfl (Nat.le_refl _) (Nat.le_refl _) ⟨rfl, e2⟩
  · rw [if_neg c6] at h
    refine vv_iload_n 17 2 dX10_passDay_17 rfl rfl ?_
    refine vv_aload_n 18 0 dX10_passDay_18 rfl rfl ?_
    obtain ⟨k8, h⟩ := sh_chk h
    refine vv_getR 19 dX10_passDay_19 fl_10_22 rfl (g_l_55 hG3) k8.1 ?_
    refine vv_topr (fun r9 er9 => ?_)
    rw [sh_let_eq er9] at h
    have k8r : sh_r μ3 55 0 = some r9 ∧ (r9 = 8 ∨ r9 = 29) := by rw [er9]; exact k8
    refine vv_getR 22 dX10_passDay_22 fl_10_135 rfl (gP_l hG3 k8r.2) (gP_r8 hG3 k8r.2) ?_
    refine vv_iload_n 25 3 dX10_passDay_25 rfl rfl ?_
    obtain ⟨k10, h⟩ := sh_chk h
    refine vv_iald 26 dX10_passDay_26 (gA_l hG3 (gPA8 k8r.2)) k10 ?_
    refine vv_ishr 27 dX10_passDay_27 ?_
    refine vv_iconst 28 dX10_passDay_28 ik_1 ?_
    refine vv_iand 29 dX10_passDay_29 ?_
    refine vv_if_ne 30 57 dX10_passDay_30 (by decide) (fun c11 => ?_) (fun c11 => ?_)
    · rw [if_neg c11] at h
      refine vv_aload_n 57 1 dX10_passDay_57 rfl rfl ?_
      refine vv_dup_ref 58 dX10_passDay_58 ?_
      refine vv_getI 59 dX10_passDay_59 fl_10_53 rfl (gL_l hG3 hq1) ?_
      refine vv_iconst 62 dX10_passDay_62 ik_1 ?_
      refine vv_iadd 63 dX10_passDay_63 ?_
      refine vn_putI 64 dX10_passDay_64 fl_10_53 (Or.inl rfl) rfl (gL_l hG3 hq1) (fun μ12 eμ12 => ?_)
      rw [sh_let_eq eμ12] at h
      have hG12 : sh_G μ12 := by rw [eμ12]; exact hG3
      have e2 := Option.some.inj h
      refine vv_vret 67 dX10_passDay_67 rfl (Nat.le_refl _) (Nat.le_refl _) ⟨rfl, e2⟩
    · rw [if_pos c11] at h
      refine vv_aload_n 33 0 dX10_passDay_33 rfl rfl ?_
      refine vv_aload_n 34 1 dX10_passDay_34 rfl rfl ?_
      refine vv_aload_n 35 0 dX10_passDay_35 rfl rfl ?_
      obtain ⟨k13, h⟩ := sh_chk h
      refine vv_getR 36 dX10_passDay_36 fl_10_22 rfl (g_l_55 hG3) k13.1 ?_
      refine vv_topr (fun r14 er14 => ?_)
      rw [sh_let_eq er14] at h
      have k13r : sh_r μ3 55 0 = some r14 ∧ (r14 = 8 ∨ r14 = 29) := by rw [er14]; exact k13
      refine vv_getR 39 dX10_passDay_39 fl_10_135 rfl (gP_l hG3 k13r.2) (gP_r8 hG3 k13r.2) ?_
      refine vv_iload_n 42 3 dX10_passDay_42 rfl rfl ?_
      obtain ⟨k15, h⟩ := sh_chk h
      refine vv_iald 43 dX10_passDay_43 (gA_l hG3 (gPA8 k13r.2)) k15 ?_
      refine vv_aload_n 44 0 dX10_passDay_44 rfl rfl ?_
      obtain ⟨k16, h⟩ := sh_chk h
      refine vv_getR 45 dX10_passDay_45 fl_10_22 rfl (g_l_55 hG3) k16.1 ?_
      refine vv_topr (fun r17 er17 => ?_)
      rw [sh_let_eq er17] at h
      have k16r : sh_r μ3 55 0 = some r17 ∧ (r17 = 8 ∨ r17 = 29) := by rw [er17]; exact k16
      refine vv_getR 48 dX10_passDay_48 fl_10_138 rfl (gP_l hG3 k16r.2) (gP_r9 hG3 k16r.2) ?_
      refine vv_iload_n 51 3 dX10_passDay_51 rfl rfl ?_
      obtain ⟨k18, h⟩ := sh_chk h
      refine vv_iald 52 dX10_passDay_52 (gA_l hG3 (gPA9 k16r.2)) k18 ?_
      obtain ⟨y21, μ19, hr20, h⟩ := sh_bind_e h
      refine v1_callV [_, _, _] 53 dX10_passDay_53 ck_X10_68 (g_l_55 hG3) ⟨by decide, rfl⟩ (t_X10_asked hG3 hq1 hr20) (Nat.le_of_ble_eq_true rfl) ⟨Nat.le_of_ble_eq_true rfl, Nat.le_of_ble_eq_true rfl⟩ rfl (Nat.le_of_ble_eq_true rfl) ?_
      have hG19 := gp_X10_asked hG3 hq1 hr20
      refine vv_pop 56 dX10_passDay_56 ?_
      refine vv_aload_n 57 1 dX10_passDay_57 rfl rfl ?_
      refine vv_dup_ref 58 dX10_passDay_58 ?_
      refine vv_getI 59 dX10_passDay_59 fl_10_53 rfl (gL_l hG19 hq1) ?_
      refine vv_iconst 62 dX10_passDay_62 ik_1 ?_
      refine vv_iadd 63 dX10_passDay_63 ?_
      refine vn_putI 64 dX10_passDay_64 fl_10_53 (Or.inl rfl) rfl (gL_l hG19 hq1) (fun μ22 eμ22 => ?_)
      rw [sh_let_eq eμ22] at h
      have hG22 : sh_G μ22 := by rw [eμ22]; exact hG19
      have e2 := Option.some.inj h
      refine vv_vret 67 dX10_passDay_67 rfl (Nat.le_refl _) (Nat.le_refl _) ⟨rfl, e2⟩
def f_X11_askNow (a1 : Int32) (a2 : Int32) (μ : sh_Mem) : Option (Int32 × sh_Mem) := sh_bind (f_X10_asked 49 a1 a2 μ) (fun y3 μ1 => (if y3 = 2 then sh_bindv (f_X4_keep (sh_i μ1 49 0) a1 a2 (sh_i μ1 55 1) μ1) (fun μ5 => some (y3, μ5)) else some (y3, μ1)))
theorem gp_X11_askNow {a1 : Int32} {a2 : Int32} {μ μ' : sh_Mem} {v : Int32} (hG : sh_G μ) (h : f_X11_askNow a1 a2 μ = some (v, μ')) : sh_G μ' := by
  unfold f_X11_askNow at h
  obtain ⟨y3, μ1, hr2, h⟩ := sh_bind_e h
  have hG1 := gp_X10_asked hG sh_isL_49 hr2
  by_cases c4 : y3 = 2
  · rw [if_pos c4] at h
    obtain ⟨μ5, hr6, h⟩ := sh_bindv_e h
    have hG5 := gp_X4_keep hG1 hr6
    obtain ⟨e1, e2⟩ := sh_some2 h
    exact e2 ▸ hG5
  · rw [if_neg c4] at h
    obtain ⟨e1, e2⟩ := sh_some2 h
    exact e2 ▸ hG1
theorem t_X11_askNow {a1 : Int32} {a2 : Int32} {μ μ' : sh_Mem} {v : Int32} (hG : sh_G μ) (h : f_X11_askNow a1 a2 μ = some (v, μ')) : sh_C0 l B D ca 6 M_X11_askNow [.ref 0, .int a1, .int a2] μ (fun v0 μ0 => v0 = some (.int v) ∧ μ0 = μ') := by
  unfold f_X11_askNow at h
  refine vv_aload_n 0 0 dX11_askNow_0 rfl rfl ?_
  refine vv_getR 1 dX11_askNow_1 fl_11_69 rfl (g_l_0 hG) (g_r_0_9 hG) ?_
  refine vv_aload_n 4 0 dX11_askNow_4 rfl rfl ?_
  refine vv_getR 5 dX11_askNow_5 fl_11_60 rfl (g_l_0 hG) (g_r_0_8 hG) ?_
  refine vv_iload_n 8 1 dX11_askNow_8 rfl rfl ?_
  refine vv_iload_n 9 2 dX11_askNow_9 rfl rfl ?_
  obtain ⟨y3, μ1, hr2, h⟩ := sh_bind_e h
  refine v1_callV [_, _, _] 10 dX11_askNow_10 ck_X11_331 (g_l_55 hG) ⟨by decide, rfl⟩ (t_X10_asked hG sh_isL_49 hr2) (Nat.le_of_ble_eq_true rfl) ⟨Nat.le_of_ble_eq_true rfl, Nat.le_of_ble_eq_true rfl⟩ rfl (Nat.le_of_ble_eq_true rfl) ?_
  have hG1 := gp_X10_asked hG sh_isL_49 hr2
  refine vv_istore_n (lv' := [(3, _), (0, _), (1, _), (2, _)]) 13 3 dX11_askNow_13 rfl (by decide) rfl ?_
  refine vv_iload_n 14 3 dX11_askNow_14 rfl rfl ?_
  refine vv_iconst 15 dX11_askNow_15 ik_2 ?_
  refine vv_icmp_ne 16 42 dX11_askNow_16 (by decide) (fun c4 => ?_) (fun c4 => ?_)
  · rw [if_neg c4] at h
    refine vv_iload_n 42 3 dX11_askNow_42 rfl rfl ?_
    obtain ⟨e1, e2⟩ := sh_some2 h
    refine vv_iret 43 dX11_askNow_43 rfl (Nat.le_refl _) (Nat.le_refl _) ⟨by rw [e1], e2⟩
  · rw [if_pos c4] at h
    refine vv_aload_n 19 0 dX11_askNow_19 rfl rfl ?_
    refine vv_getR 20 dX11_askNow_20 fl_11_76 rfl (g_l_0 hG1) (g_r_0_10 hG1) ?_
    refine vv_aload_n 23 0 dX11_askNow_23 rfl rfl ?_
    refine vv_getR 24 dX11_askNow_24 fl_11_60 rfl (g_l_0 hG1) (g_r_0_8 hG1) ?_
    refine vv_getI 27 dX11_askNow_27 fl_11_186 rfl (g_l_49 hG1) ?_
    refine vv_iload_n 30 1 dX11_askNow_30 rfl rfl ?_
    refine vv_iload_n 31 2 dX11_askNow_31 rfl rfl ?_
    refine vv_aload_n 32 0 dX11_askNow_32 rfl rfl ?_
    refine vv_getR 33 dX11_askNow_33 fl_11_69 rfl (g_l_0 hG1) (g_r_0_9 hG1) ?_
    refine vv_getI 36 dX11_askNow_36 fl_11_334 rfl (g_l_55 hG1) ?_
    obtain ⟨μ5, hr6, h⟩ := sh_bindv_e h
    refine v1_callV [_, _, _, _] 39 dX11_askNow_39 ck_X11_337 (g_l_63 hG1) ⟨by decide, rfl⟩ (t_X4_keep hG1 hr6) (Nat.le_of_ble_eq_true rfl) ⟨Nat.le_of_ble_eq_true rfl, Nat.le_of_ble_eq_true rfl⟩ rfl (Nat.le_of_ble_eq_true rfl) ?_
    have hG5 := gp_X4_keep hG1 hr6
    refine vv_iload_n 42 3 dX11_askNow_42 rfl rfl ?_
    obtain ⟨e1, e2⟩ := sh_some2 h
    refine vv_iret 43 dX11_askNow_43 rfl (Nat.le_refl _) (Nat.le_refl _) ⟨by rw [e1], e2⟩
def f_X11_dayNow (μ : sh_Mem) : Option (Int32 × sh_Mem) := (if (sh_r μ 0 7 = some (sh_ref μ 0 7) ∧ ((sh_ref μ 0 7) = 8 ∨ (sh_ref μ 0 7) = 29)) then sh_let (sh_ref μ 0 7) (fun r2 => sh_bind (f_X5_rowOf r2 (sh_i μ 49 0) μ) (fun y5 μ3 => (if y5 = (-1) then sh_let (sh_setI μ3 49 0 ((sh_i μ3 49 0) + 1)) (fun μ18 => some (0, μ18)) else (if (sh_r μ3 0 7 = some (sh_ref μ3 0 7) ∧ ((sh_ref μ3 0 7) = 8 ∨ (sh_ref μ3 0 7) = 29)) then sh_let (sh_ref μ3 0 7) (fun r8 => (if sh_in y5 12 then (if (sh_r μ3 0 7 = some (sh_ref μ3 0 7) ∧ ((sh_ref μ3 0 7) = 8 ∨ (sh_ref μ3 0 7) = 29)) then sh_let (sh_ref μ3 0 7) (fun r11 => (if sh_in y5 12 then sh_bind (f_X11_askNow (sh_i μ3 (r8 + 3) y5.toNatClampNeg) (sh_i μ3 (r11 + 4) y5.toNatClampNeg) μ3) (fun y15 μ13 => sh_let (sh_setI μ13 49 0 ((sh_i μ13 49 0) + 1)) (fun μ16 => (if y15 = 2 then some (1, μ16) else some (0, μ16)))) else none)) else none) else none)) else none)))) else none)
theorem gp_X11_dayNow {μ μ' : sh_Mem} {v : Int32} (hG : sh_G μ) (h : f_X11_dayNow μ = some (v, μ')) : sh_G μ' := by
  unfold f_X11_dayNow at h
  obtain ⟨k1, h⟩ := sh_chk h
  obtain ⟨r2, er2⟩ : ∃ y : Nat, y = (sh_ref μ 0 7) := ⟨_, rfl⟩
  rw [sh_let_eq er2] at h
  have k1r : sh_r μ 0 7 = some r2 ∧ (r2 = 8 ∨ r2 = 29) := by rw [er2]; exact k1
  obtain ⟨y5, μ3, hr4, h⟩ := sh_bind_e h
  have hG3 := gp_X5_rowOf hG k1r.2 hr4
  by_cases c6 : y5 = (-1)
  · rw [if_pos c6] at h
    obtain ⟨μ18, eμ18⟩ : ∃ y : sh_Mem, y = (sh_setI μ3 49 0 ((sh_i μ3 49 0) + 1)) := ⟨_, rfl⟩
    rw [sh_let_eq eμ18] at h
    have hG18 : sh_G μ18 := by rw [eμ18]; exact hG3
    obtain ⟨e1, e2⟩ := sh_some2 h
    exact e2 ▸ hG18
  · rw [if_neg c6] at h
    obtain ⟨k7, h⟩ := sh_chk h
    obtain ⟨r8, er8⟩ : ∃ y : Nat, y = (sh_ref μ3 0 7) := ⟨_, rfl⟩
    rw [sh_let_eq er8] at h
    have k7r : sh_r μ3 0 7 = some r8 ∧ (r8 = 8 ∨ r8 = 29) := by rw [er8]; exact k7
    obtain ⟨k9, h⟩ := sh_chk h
    obtain ⟨k10, h⟩ := sh_chk h
    obtain ⟨r11, er11⟩ : ∃ y : Nat, y = (sh_ref μ3 0 7) := ⟨_, rfl⟩
    rw [sh_let_eq er11] at h
    have k10r : sh_r μ3 0 7 = some r11 ∧ (r11 = 8 ∨ r11 = 29) := by rw [er11]; exact k10
    obtain ⟨k12, h⟩ := sh_chk h
    obtain ⟨y15, μ13, hr14, h⟩ := sh_bind_e h
    have hG13 := gp_X11_askNow hG3 hr14
    obtain ⟨μ16, eμ16⟩ : ∃ y : sh_Mem, y = (sh_setI μ13 49 0 ((sh_i μ13 49 0) + 1)) := ⟨_, rfl⟩
    rw [sh_let_eq eμ16] at h
    have hG16 : sh_G μ16 := by rw [eμ16]; exact hG13
    by_cases c17 : y15 = 2
    · rw [if_pos c17] at h
      obtain ⟨e1, e2⟩ := sh_some2 h
      exact e2 ▸ hG16
    · rw [if_neg c17] at h
      obtain ⟨e1, e2⟩ := sh_some2 h
      exact e2 ▸ hG16
theorem t_X11_dayNow {μ μ' : sh_Mem} {v : Int32} (hG : sh_G μ) (h : f_X11_dayNow μ = some (v, μ')) : sh_C0 l B D ca 7 M_X11_dayNow [.ref 0] μ (fun v0 μ0 => v0 = some (.int v) ∧ μ0 = μ') := by
  unfold f_X11_dayNow at h
  refine vv_aload_n 0 0 dX11_dayNow_0 rfl rfl ?_
  obtain ⟨k1, h⟩ := sh_chk h
  refine vv_getR 1 dX11_dayNow_1 fl_11_53 rfl (g_l_0 hG) k1.1 ?_
  refine vv_topr (fun r2 er2 => ?_)
  rw [sh_let_eq er2] at h
  have k1r : sh_r μ 0 7 = some r2 ∧ (r2 = 8 ∨ r2 = 29) := by rw [er2]; exact k1
  refine vv_aload_n 4 0 dX11_dayNow_4 rfl rfl ?_
  refine vv_getR 5 dX11_dayNow_5 fl_11_60 rfl (g_l_0 hG) (g_r_0_8 hG) ?_
  refine vv_getI 8 dX11_dayNow_8 fl_11_186 rfl (g_l_49 hG) ?_
  obtain ⟨y5, μ3, hr4, h⟩ := sh_bind_e h
  refine v1_callV [_] 11 dX11_dayNow_11 ck_X11_347 (gP_l hG k1r.2) ⟨by decide, rfl⟩ (t_X5_rowOf hG k1r.2 hr4) (Nat.le_of_ble_eq_true rfl) ⟨Nat.le_of_ble_eq_true rfl, Nat.le_of_ble_eq_true rfl⟩ rfl (Nat.le_of_ble_eq_true rfl) ?_
  have hG3 := gp_X5_rowOf hG k1r.2 hr4
  refine vv_istore_n (lv' := [(1, _), (0, _)]) 14 1 dX11_dayNow_14 rfl (by decide) rfl ?_
  refine vv_iload_n 15 1 dX11_dayNow_15 rfl rfl ?_
  refine vv_iconst 16 dX11_dayNow_16 ik_m1 ?_
  refine vv_icmp_ne 17 24 dX11_dayNow_17 (by decide) (fun c6 => ?_) (fun c6 => ?_)
  · rw [if_neg c6] at h
    refine vv_aload_n 24 0 dX11_dayNow_24 rfl rfl ?_
    refine vv_aload_n 25 0 dX11_dayNow_25 rfl rfl ?_
    obtain ⟨k7, h⟩ := sh_chk h
    refine vv_getR 26 dX11_dayNow_26 fl_11_53 rfl (g_l_0 hG3) k7.1 ?_
    refine vv_topr (fun r8 er8 => ?_)
    rw [sh_let_eq er8] at h
    have k7r : sh_r μ3 0 7 = some r8 ∧ (r8 = 8 ∨ r8 = 29) := by rw [er8]; exact k7
    refine vv_getR 29 dX11_dayNow_29 fl_11_235 rfl (gP_l hG3 k7r.2) (gP_r8 hG3 k7r.2) ?_
    refine vv_iload_n 32 1 dX11_dayNow_32 rfl rfl ?_
    obtain ⟨k9, h⟩ := sh_chk h
    refine vv_iald 33 dX11_dayNow_33 (gA_l hG3 (gPA8 k7r.2)) k9 ?_
    refine vv_aload_n 34 0 dX11_dayNow_34 rfl rfl ?_
    obtain ⟨k10, h⟩ := sh_chk h
    refine vv_getR 35 dX11_dayNow_35 fl_11_53 rfl (g_l_0 hG3) k10.1 ?_
    refine vv_topr (fun r11 er11 => ?_)
    rw [sh_let_eq er11] at h
    have k10r : sh_r μ3 0 7 = some r11 ∧ (r11 = 8 ∨ r11 = 29) := by rw [er11]; exact k10
    refine vv_getR 38 dX11_dayNow_38 fl_11_238 rfl (gP_l hG3 k10r.2) (gP_r9 hG3 k10r.2) ?_
    refine vv_iload_n 41 1 dX11_dayNow_41 rfl rfl ?_
    obtain ⟨k12, h⟩ := sh_chk h
    refine vv_iald 42 dX11_dayNow_42 (gA_l hG3 (gPA9 k10r.2)) k12 ?_
    obtain ⟨y15, μ13, hr14, h⟩ := sh_bind_e h
    refine v1_callV [_, _] 43 dX11_dayNow_43 ck_X11_328 (g_l_0 hG3) ⟨by decide, rfl⟩ (t_X11_askNow hG3 hr14) (Nat.le_of_ble_eq_true rfl) ⟨Nat.le_of_ble_eq_true rfl, Nat.le_of_ble_eq_true rfl⟩ rfl (Nat.le_of_ble_eq_true rfl) ?_
    have hG13 := gp_X11_askNow hG3 hr14
    refine vv_istore_n (lv' := [(2, _), (1, _), (0, _)]) 46 2 dX11_dayNow_46 rfl (by decide) rfl ?_
    refine vv_aload_n 47 0 dX11_dayNow_47 rfl rfl ?_
    refine vv_getR 48 dX11_dayNow_48 fl_11_60 rfl (g_l_0 hG13) (g_r_0_8 hG13) ?_
    refine vv_dup_ref 51 dX11_dayNow_51 ?_
    refine vv_getI 52 dX11_dayNow_52 fl_11_186 rfl (g_l_49 hG13) ?_
    refine vv_iconst 55 dX11_dayNow_55 ik_1 ?_
    refine vv_iadd 56 dX11_dayNow_56 ?_
    refine vn_putI 57 dX11_dayNow_57 fl_11_186 (Or.inl rfl) rfl (g_l_49 hG13) (fun μ16 eμ16 => ?_)
    rw [sh_let_eq eμ16] at h
    have hG16 : sh_G μ16 := by rw [eμ16]; exact hG13
    refine vv_iload_n 60 2 dX11_dayNow_60 rfl rfl ?_
    refine vv_iconst 61 dX11_dayNow_61 ik_2 ?_
    refine vv_icmp_ne 62 69 dX11_dayNow_62 (by decide) (fun c17 => ?_) (fun c17 => ?_)
    · rw [if_neg c17] at h
      refine vv_iconst 69 dX11_dayNow_69 ik_0 ?_
      obtain ⟨e1, e2⟩ := sh_some2 h
      refine vv_iret 70 dX11_dayNow_70 rfl (Nat.le_refl _) (Nat.le_refl _) ⟨by rw [e1], e2⟩
    · rw [if_pos c17] at h
      refine vv_iconst 65 dX11_dayNow_65 ik_1 ?_
      refine vv_goto 66 70 dX11_dayNow_66 (by decide) ?_
      obtain ⟨e1, e2⟩ := sh_some2 h
      refine vv_iret 70 dX11_dayNow_70 rfl (Nat.le_refl _) (Nat.le_refl _) ⟨by rw [e1], e2⟩
  · rw [if_pos c6] at h
    refine vv_iconst 20 dX11_dayNow_20 ik_m1 ?_
    refine vv_goto 21 46 dX11_dayNow_21 (by decide) ?_
    refine vv_istore_n (lv' := [(2, _), (1, _), (0, _)]) 46 2 dX11_dayNow_46 rfl (by decide) rfl ?_
    refine vv_aload_n 47 0 dX11_dayNow_47 rfl rfl ?_
    refine vv_getR 48 dX11_dayNow_48 fl_11_60 rfl (g_l_0 hG3) (g_r_0_8 hG3) ?_
    refine vv_dup_ref 51 dX11_dayNow_51 ?_
    refine vv_getI 52 dX11_dayNow_52 fl_11_186 rfl (g_l_49 hG3) ?_
    refine vv_iconst 55 dX11_dayNow_55 ik_1 ?_
    refine vv_iadd 56 dX11_dayNow_56 ?_
    refine vn_putI 57 dX11_dayNow_57 fl_11_186 (Or.inl rfl) rfl (g_l_49 hG3) (fun μ18 eμ18 => ?_)
    rw [sh_let_eq eμ18] at h
    have hG18 : sh_G μ18 := by rw [eμ18]; exact hG3
    refine vv_iload_n 60 2 dX11_dayNow_60 rfl rfl ?_
    refine vv_iconst 61 dX11_dayNow_61 ik_2 ?_
    refine vv_icmp_ne 62 69 dX11_dayNow_62 (by decide) (fun _ => ?_) (fun hc => absurd hc (by decide))
    refine vv_iconst 69 dX11_dayNow_69 ik_0 ?_
    obtain ⟨e1, e2⟩ := sh_some2 h
    refine vv_iret 70 dX11_dayNow_70 rfl (Nat.le_refl _) (Nat.le_refl _) ⟨by rw [e1], e2⟩
def f_X11_crowdNow (μ : sh_Mem) : Option (Int32 × sh_Mem) := sh_bind (f_X11_draw 100 μ) (fun y3 μ1 => (if (sh_r μ1 0 7 = some (sh_ref μ1 0 7) ∧ ((sh_ref μ1 0 7) = 8 ∨ (sh_ref μ1 0 7) = 29)) then sh_let (sh_ref μ1 0 7) (fun r5 => (if (sh_i μ1 r5 5) ≤ y3 then some (0, μ1) else (if (sh_r μ1 0 7 = some (sh_ref μ1 0 7) ∧ ((sh_ref μ1 0 7) = 8 ∨ (sh_ref μ1 0 7) = 29)) then sh_let (sh_ref μ1 0 7) (fun r8 => (if (sh_i μ1 r8 3) = 0 then some (0, μ1) else (if (sh_r μ1 0 7 = some (sh_ref μ1 0 7) ∧ ((sh_ref μ1 0 7) = 8 ∨ (sh_ref μ1 0 7) = 29)) then sh_let (sh_ref μ1 0 7) (fun r11 => (if (sh_i μ1 r11 2) = 0 then some (0, μ1) else (if (sh_r μ1 0 7 = some (sh_ref μ1 0 7) ∧ ((sh_ref μ1 0 7) = 8 ∨ (sh_ref μ1 0 7) = 29)) then sh_let (sh_ref μ1 0 7) (fun r14 => sh_bind (f_X11_draw (sh_i μ1 r14 3) μ1) (fun y17 μ15 => (if (sh_r μ15 0 7 = some (sh_ref μ15 0 7) ∧ ((sh_ref μ15 0 7) = 8 ∨ (sh_ref μ15 0 7) = 29)) then sh_let (sh_ref μ15 0 7) (fun r19 => sh_bind (f_X11_draw (sh_i μ15 r19 2) μ15) (fun y22 μ20 => sh_bind (f_X11_askNow y17 y22 μ20) (fun y25 μ23 => (if y25 = 2 then some (1, μ23) else some (0, μ23))))) else none))) else none))) else none))) else none))) else none))
theorem gp_X11_crowdNow {μ μ' : sh_Mem} {v : Int32} (hG : sh_G μ) (h : f_X11_crowdNow μ = some (v, μ')) : sh_G μ' := by
  unfold f_X11_crowdNow at h
  obtain ⟨y3, μ1, hr2, h⟩ := sh_bind_e h
  have hG1 := gp_X11_draw hG hr2
  obtain ⟨k4, h⟩ := sh_chk h
  obtain ⟨r5, er5⟩ : ∃ y : Nat, y = (sh_ref μ1 0 7) := ⟨_, rfl⟩
  rw [sh_let_eq er5] at h
  have k4r : sh_r μ1 0 7 = some r5 ∧ (r5 = 8 ∨ r5 = 29) := by rw [er5]; exact k4
  by_cases c6 : (sh_i μ1 r5 5) ≤ y3
  · rw [if_pos c6] at h
    obtain ⟨e1, e2⟩ := sh_some2 h
    exact e2 ▸ hG1
  · rw [if_neg c6] at h
    obtain ⟨k7, h⟩ := sh_chk h
    obtain ⟨r8, er8⟩ : ∃ y : Nat, y = (sh_ref μ1 0 7) := ⟨_, rfl⟩
    rw [sh_let_eq er8] at h
    have k7r : sh_r μ1 0 7 = some r8 ∧ (r8 = 8 ∨ r8 = 29) := by rw [er8]; exact k7
    by_cases c9 : (sh_i μ1 r8 3) = 0
    · rw [if_pos c9] at h
      obtain ⟨e1, e2⟩ := sh_some2 h
      exact e2 ▸ hG1
    · rw [if_neg c9] at h
      obtain ⟨k10, h⟩ := sh_chk h
      obtain ⟨r11, er11⟩ : ∃ y : Nat, y = (sh_ref μ1 0 7) := ⟨_, rfl⟩
      rw [sh_let_eq er11] at h
      have k10r : sh_r μ1 0 7 = some r11 ∧ (r11 = 8 ∨ r11 = 29) := by rw [er11]; exact k10
      by_cases c12 : (sh_i μ1 r11 2) = 0
      · rw [if_pos c12] at h
        obtain ⟨e1, e2⟩ := sh_some2 h
        exact e2 ▸ hG1
      · rw [if_neg c12] at h
        obtain ⟨k13, h⟩ := sh_chk h
        obtain ⟨r14, er14⟩ : ∃ y : Nat, y = (sh_ref μ1 0 7) := ⟨_, rfl⟩
        rw [sh_let_eq er14] at h
        have k13r : sh_r μ1 0 7 = some r14 ∧ (r14 = 8 ∨ r14 = 29) := by rw [er14]; exact k13
        obtain ⟨y17, μ15, hr16, h⟩ := sh_bind_e h
        have hG15 := gp_X11_draw hG1 hr16
        obtain ⟨k18, h⟩ := sh_chk h
        obtain ⟨r19, er19⟩ : ∃ y : Nat, y = (sh_ref μ15 0 7) := ⟨_, rfl⟩
        rw [sh_let_eq er19] at h
        have k18r : sh_r μ15 0 7 = some r19 ∧ (r19 = 8 ∨ r19 = 29) := by rw [er19]; exact k18
        obtain ⟨y22, μ20, hr21, h⟩ := sh_bind_e h
        have hG20 := gp_X11_draw hG15 hr21
        obtain ⟨y25, μ23, hr24, h⟩ := sh_bind_e h
        have hG23 := gp_X11_askNow hG20 hr24
        by_cases c26 : y25 = 2
        · rw [if_pos c26] at h
          obtain ⟨e1, e2⟩ := sh_some2 h
          exact e2 ▸ hG23
        · rw [if_neg c26] at h
          obtain ⟨e1, e2⟩ := sh_some2 h
          exact e2 ▸ hG23
theorem t_X11_crowdNow {μ μ' : sh_Mem} {v : Int32} (hG : sh_G μ) (h : f_X11_crowdNow μ = some (v, μ')) : sh_C0 l B D ca 7 M_X11_crowdNow [.ref 0] μ (fun v0 μ0 => v0 = some (.int v) ∧ μ0 = μ') := by
  unfold f_X11_crowdNow at h
  refine vv_aload_n 0 0 dX11_crowdNow_0 rfl rfl ?_
  refine vv_bipush 1 dX11_crowdNow_1 bk_100 ?_
  obtain ⟨y3, μ1, hr2, h⟩ := sh_bind_e h
  refine v1_callV [_] 3 dX11_crowdNow_3 ck_X11_353 (g_l_0 hG) ⟨by decide, rfl⟩ (t_X11_draw hG hr2) (Nat.le_of_ble_eq_true rfl) ⟨Nat.le_of_ble_eq_true rfl, Nat.le_of_ble_eq_true rfl⟩ rfl (Nat.le_of_ble_eq_true rfl) ?_
  have hG1 := gp_X11_draw hG hr2
  refine vv_aload_n 6 0 dX11_crowdNow_6 rfl rfl ?_
  obtain ⟨k4, h⟩ := sh_chk h
  refine vv_getR 7 dX11_crowdNow_7 fl_11_53 rfl (g_l_0 hG1) k4.1 ?_
  refine vv_topr (fun r5 er5 => ?_)
  rw [sh_let_eq er5] at h
  have k4r : sh_r μ1 0 7 = some r5 ∧ (r5 = 8 ∨ r5 = 29) := by rw [er5]; exact k4
  refine vv_getI 10 dX11_crowdNow_10 fl_11_356 rfl (gP_l hG1 k4r.2) ?_
  refine vv_icmp_ge 13 36 dX11_crowdNow_13 (by decide) (fun c6 => ?_) (fun c6 => ?_)
  · rw [if_pos c6] at h
    refine vv_iconst 36 dX11_crowdNow_36 ik_0 ?_
    obtain ⟨e1, e2⟩ := sh_some2 h
    refine vv_iret 37 dX11_crowdNow_37 rfl (Nat.le_refl _) (Nat.le_refl _) ⟨by rw [e1], e2⟩
  · rw [if_neg c6] at h
    refine vv_aload_n 16 0 dX11_crowdNow_16 rfl rfl ?_
    obtain ⟨k7, h⟩ := sh_chk h
    refine vv_getR 17 dX11_crowdNow_17 fl_11_53 rfl (g_l_0 hG1) k7.1 ?_
    refine vv_topr (fun r8 er8 => ?_)
    rw [sh_let_eq er8] at h
    have k7r : sh_r μ1 0 7 = some r8 ∧ (r8 = 8 ∨ r8 = 29) := by rw [er8]; exact k7
    refine vv_getI 20 dX11_crowdNow_20 fl_11_180 rfl (gP_l hG1 k7r.2) ?_
    refine vv_if_eq 23 36 dX11_crowdNow_23 (by decide) (fun c9 => ?_) (fun c9 => ?_)
    · rw [if_pos c9] at h
      refine vv_iconst 36 dX11_crowdNow_36 ik_0 ?_
      obtain ⟨e1, e2⟩ := sh_some2 h
      refine vv_iret 37 dX11_crowdNow_37 rfl (Nat.le_refl _) (Nat.le_refl _) ⟨by rw [e1], e2⟩
    · rw [if_neg c9] at h
      refine vv_aload_n 26 0 dX11_crowdNow_26 rfl rfl ?_
      obtain ⟨k10, h⟩ := sh_chk h
      refine vv_getR 27 dX11_crowdNow_27 fl_11_53 rfl (g_l_0 hG1) k10.1 ?_
      refine vv_topr (fun r11 er11 => ?_)
      rw [sh_let_eq er11] at h
      have k10r : sh_r μ1 0 7 = some r11 ∧ (r11 = 8 ∨ r11 = 29) := by rw [er11]; exact k10
      refine vv_getI 30 dX11_crowdNow_30 fl_11_177 rfl (gP_l hG1 k10r.2) ?_
      refine vv_if_ne 33 38 dX11_crowdNow_33 (by decide) (fun c12 => ?_) (fun c12 => ?_)
      · rw [if_neg c12] at h
        refine vv_aload_n 38 0 dX11_crowdNow_38 rfl rfl ?_
        refine vv_aload_n 39 0 dX11_crowdNow_39 rfl rfl ?_
        obtain ⟨k13, h⟩ := sh_chk h
        refine vv_getR 40 dX11_crowdNow_40 fl_11_53 rfl (g_l_0 hG1) k13.1 ?_
        refine vv_topr (fun r14 er14 => ?_)
        rw [sh_let_eq er14] at h
        have k13r : sh_r μ1 0 7 = some r14 ∧ (r14 = 8 ∨ r14 = 29) := by rw [er14]; exact k13
        refine vv_getI 43 dX11_crowdNow_43 fl_11_180 rfl (gP_l hG1 k13r.2) ?_
        obtain ⟨y17, μ15, hr16, h⟩ := sh_bind_e h
        refine v1_callV [_] 46 dX11_crowdNow_46 ck_X11_353 (g_l_0 hG1) ⟨by decide, rfl⟩ (t_X11_draw hG1 hr16) (Nat.le_of_ble_eq_true rfl) ⟨Nat.le_of_ble_eq_true rfl, Nat.le_of_ble_eq_true rfl⟩ rfl (Nat.le_of_ble_eq_true rfl) ?_
        have hG15 := gp_X11_draw hG1 hr16
        refine vv_istore_n (lv' := [(1, _), (0, _)]) 49 1 dX11_crowdNow_49 rfl (by decide) rfl ?_
        refine vv_aload_n 50 0 dX11_crowdNow_50 rfl rfl ?_
        refine vv_aload_n 51 0 dX11_crowdNow_51 rfl rfl ?_
        obtain ⟨k18, h⟩ := sh_chk h
        refine vv_getR 52 dX11_crowdNow_52 fl_11_53 rfl (g_l_0 hG15) k18.1 ?_
        refine vv_topr (fun r19 er19 => ?_)
        rw [sh_let_eq er19] at h
        have k18r : sh_r μ15 0 7 = some r19 ∧ (r19 = 8 ∨ r19 = 29) := by rw [er19]; exact k18
        refine vv_getI 55 dX11_crowdNow_55 fl_11_177 rfl (gP_l hG15 k18r.2) ?_
        obtain ⟨y22, μ20, hr21, h⟩ := sh_bind_e h
        refine v1_callV [_] 58 dX11_crowdNow_58 ck_X11_353 (g_l_0 hG15) ⟨by decide, rfl⟩ (t_X11_draw hG15 hr21) (Nat.le_of_ble_eq_true rfl) ⟨Nat.le_of_ble_eq_true rfl, Nat.le_of_ble_eq_true rfl⟩ rfl (Nat.le_of_ble_eq_true rfl) ?_
        have hG20 := gp_X11_draw hG15 hr21
        refine vv_istore_n (lv' := [(2, _), (1, _), (0, _)]) 61 2 dX11_crowdNow_61 rfl (by decide) rfl ?_
        refine vv_aload_n 62 0 dX11_crowdNow_62 rfl rfl ?_
        refine vv_iload_n 63 1 dX11_crowdNow_63 rfl rfl ?_
        refine vv_iload_n 64 2 dX11_crowdNow_64 rfl rfl ?_
        obtain ⟨y25, μ23, hr24, h⟩ := sh_bind_e h
        refine v1_callV [_, _] 65 dX11_crowdNow_65 ck_X11_328 (g_l_0 hG20) ⟨by decide, rfl⟩ (t_X11_askNow hG20 hr24) (Nat.le_of_ble_eq_true rfl) ⟨Nat.le_of_ble_eq_true rfl, Nat.le_of_ble_eq_true rfl⟩ rfl (Nat.le_of_ble_eq_true rfl) ?_
        have hG23 := gp_X11_askNow hG20 hr24
        refine vv_iconst 68 dX11_crowdNow_68 ik_2 ?_
        refine vv_icmp_ne 69 76 dX11_crowdNow_69 (by decide) (fun c26 => ?_) (fun c26 => ?_)
        · rw [if_neg c26] at h
          refine vv_iconst 76 dX11_crowdNow_76 ik_0 ?_
          obtain ⟨e1, e2⟩ := sh_some2 h
          refine vv_iret 77 dX11_crowdNow_77 rfl (Nat.le_refl _) (Nat.le_refl _) ⟨by rw [e1], e2⟩
        · rw [if_pos c26] at h
          refine vv_iconst 72 dX11_crowdNow_72 ik_1 ?_
          refine vv_goto 73 77 dX11_crowdNow_73 (by decide) ?_
          obtain ⟨e1, e2⟩ := sh_some2 h
          refine vv_iret 77 dX11_crowdNow_77 rfl (Nat.le_refl _) (Nat.le_refl _) ⟨by rw [e1], e2⟩
      · rw [if_pos c12] at h
        refine vv_iconst 36 dX11_crowdNow_36 ik_0 ?_
        obtain ⟨e1, e2⟩ := sh_some2 h
        refine vv_iret 37 dX11_crowdNow_37 rfl (Nat.le_refl _) (Nat.le_refl _) ⟨by rw [e1], e2⟩
def F_X0_behind : Nat → Nat → Nat → Int32 → Int32 → Int32 → sh_Mem → Option sh_Mem
  | 0, _, _, _, _, _, _ => none
  | fuel + 1, lbl, r1, i2, i3, i4, μ => match lbl with
    | 1 => (if i2 ≤ i4 then some μ else sh_bindv (f_X10_passDay 209 i3 μ) (fun μ9 => F_X0_behind fuel 1 r1 i2 i3 (i4 + 1) μ9))
    | _ => none
def f_X0_behind (q1 : Nat) (a2 : Int32) (a3 : Int32) (μ : sh_Mem) : Option sh_Mem := sh_bindv (f_X3_copyFrom 209 q1 μ) (fun μ12 => F_X0_behind 1000000 1 q1 a2 a3 0 μ12)
theorem gpl_X0_behind (fuel : Nat) : (∀ ⦃r1 : Nat⦄ ⦃i2 : Int32⦄ ⦃i3 : Int32⦄ ⦃i4 : Int32⦄ ⦃μ μ' : sh_Mem⦄, sh_G μ → sh_isL r1 → F_X0_behind fuel 1 r1 i2 i3 i4 μ = some μ' → sh_G μ') := by
  induction fuel with
  | zero => intro r1 i2 i3 i4 μ μ' hG hr1 h; cases h
  | succ fuel ih =>
    have ih_11 := ih
    intro r1 i2 i3 i4 μ μ' hG hr1 h
    replace h : ((if i2 ≤ i4 then some μ else sh_bindv (f_X10_passDay 209 i3 μ) (fun μ9 => F_X0_behind fuel 1 r1 i2 i3 (i4 + 1) μ9)) : Option sh_Mem) = some μ' := h
    by_cases c8 : i2 ≤ i4
    · rw [if_pos c8] at h
      have e2 := Option.some.inj h
      exact e2 ▸ hG
    · rw [if_neg c8] at h
      obtain ⟨μ9, hr10, h⟩ := sh_bindv_e h
      have hG9 := gp_X10_passDay hG sh_isL_209 hr10
      exact ih_11 hG9 hr1 h
theorem tl_X0_behind (fuel : Nat) : (∀ ⦃r1 : Nat⦄ ⦃i2 : Int32⦄ ⦃i3 : Int32⦄ ⦃i4 : Int32⦄ ⦃μ μ' : sh_Mem⦄, sh_G μ → sh_isL r1 → F_X0_behind fuel 1 r1 i2 i3 i4 μ = some μ' → sh_V0 l B D ca 7 M_X0_behind 11 [(0, .ref 208), (1, .ref r1), (2, .int i2), (3, .int i3), (4, .int i4)] [] μ (fun v0 μ0 => v0 = some (.ref 209) ∧ μ0 = μ')) := by
  induction fuel with
  | zero => intro r1 i2 i3 i4 μ μ' hG hr1 h; cases h
  | succ fuel ih =>
    have ih_11 := ih
    intro r1 i2 i3 i4 μ μ' hG hr1 h
    replace h : ((if i2 ≤ i4 then some μ else sh_bindv (f_X10_passDay 209 i3 μ) (fun μ9 => F_X0_behind fuel 1 r1 i2 i3 (i4 + 1) μ9)) : Option sh_Mem) = some μ' := h
    refine vv_iload 11 4 dX0_behind_11 rfl ?_
    refine vv_iload_n 13 2 dX0_behind_13 rfl rfl ?_
    refine vv_icmp_ge 14 35 dX0_behind_14 (by decide) (fun c8 => ?_) (fun c8 => ?_)
    · rw [if_pos c8] at h
      refine vv_aload_n 35 0 dX0_behind_35 rfl rfl ?_
      refine vv_getR 36 dX0_behind_36 fl_0_12 rfl (g_l_208 hG) (g_r_208_1 hG) ?_
      have e2 := Option.some.inj h
      refine vv_aret 39 dX0_behind_39 rfl (Nat.le_refl _) (Nat.le_refl _) ⟨rfl, e2⟩
    · rw [if_neg c8] at h
      refine vv_aload_n 17 0 dX0_behind_17 rfl rfl ?_
      refine vv_getR 18 dX0_behind_18 fl_0_29 rfl (g_l_208 hG) (g_r_208_0 hG) ?_
      refine vv_aload_n 21 0 dX0_behind_21 rfl rfl ?_
      refine vv_getR 22 dX0_behind_22 fl_0_12 rfl (g_l_208 hG) (g_r_208_1 hG) ?_
      refine vv_iload_n 25 3 dX0_behind_25 rfl rfl ?_
      obtain ⟨μ9, hr10, h⟩ := sh_bindv_e h
      refine v1_callV [_, _] 26 dX0_behind_26 ck_X0_37 (g_l_55 hG) ⟨by decide, rfl⟩ (t_X10_passDay hG sh_isL_209 hr10) (Nat.le_of_ble_eq_true rfl) ⟨Nat.le_of_ble_eq_true rfl, Nat.le_of_ble_eq_true rfl⟩ rfl (Nat.le_of_ble_eq_true rfl) ?_
      have hG9 := gp_X10_passDay hG sh_isL_209 hr10
      refine vv_iincc (lv' := [(4, _), (0, _), (1, _), (2, _), (3, _)]) 29 4 dX0_behind_29 rfl ik_1 (by decide) rfl ?_
      refine vv_goto 32 11 dX0_behind_32 (by decide) ?_
      refine vv_sub [(0, _), (1, _), (2, _), (3, _), (4, _)] (sh_subm [1, 2, 3, 4, 0] rfl) ?_
      exact ih_11 hG9 hr1 h
theorem gp_X0_behind {q1 : Nat} {a2 : Int32} {a3 : Int32} {μ μ' : sh_Mem} (hG : sh_G μ) (hq1 : sh_isL q1) (h : f_X0_behind q1 a2 a3 μ = some μ') : sh_G μ' := by
  have ih_11 := (gpl_X0_behind 1000000)
  unfold f_X0_behind at h
  obtain ⟨μ12, hr13, h⟩ := sh_bindv_e h
  have hG12 := gp_X3_copyFrom hG sh_isL_209 hq1 hr13
  exact ih_11 hG12 hq1 h
theorem t_X0_behind {q1 : Nat} {a2 : Int32} {a3 : Int32} {μ μ' : sh_Mem} (hG : sh_G μ) (hq1 : sh_isL q1) (h : f_X0_behind q1 a2 a3 μ = some μ') : sh_C0 l B D ca 7 M_X0_behind [.ref 208, .ref q1, .int a2, .int a3] μ (fun v0 μ0 => v0 = some (.ref 209) ∧ μ0 = μ') := by
  have ih_11 := (tl_X0_behind (l := l) (B := B) (D := D) (ca := ca) 1000000)
  unfold f_X0_behind at h
  refine vv_aload_n 0 0 dX0_behind_0 rfl rfl ?_
  refine vv_getR 1 dX0_behind_1 fl_0_12 rfl (g_l_208 hG) (g_r_208_1 hG) ?_
  refine vv_aload_n 4 1 dX0_behind_4 rfl rfl ?_
  obtain ⟨μ12, hr13, h⟩ := sh_bindv_e h
  refine v1_callV [_] 5 dX0_behind_5 ck_X0_33 (g_l_209 hG) ⟨by decide, rfl⟩ (t_X3_copyFrom hG sh_isL_209 hq1 hr13) (Nat.le_of_ble_eq_true rfl) ⟨Nat.le_of_ble_eq_true rfl, Nat.le_of_ble_eq_true rfl⟩ rfl (Nat.le_of_ble_eq_true rfl) ?_
  have hG12 := gp_X3_copyFrom hG sh_isL_209 hq1 hr13
  refine vv_iconst 8 dX0_behind_8 ik_0 ?_
  refine vv_istore (lv' := [(4, _), (0, _), (1, _), (2, _), (3, _)]) 9 4 dX0_behind_9 (by decide) rfl ?_
  refine vv_sub [(0, _), (1, _), (2, _), (3, _), (4, _)] (sh_subm [1, 2, 3, 4, 0] rfl) ?_
  exact ih_11 hG12 hq1 h
def F_X0_daysToRise : Nat → Nat → Nat → Int32 → Int32 → Int32 → sh_Mem → Option (Int32 × sh_Mem)
  | 0, _, _, _, _, _, _ => none
  | fuel + 1, lbl, r1, i2, i3, i4, μ => match lbl with
    | 1 => (if 60 < i4 then some ((-1), μ) else (if 999 < (sh_i μ 209 0) then some ((-1), μ) else (if sh_in i2 49 then (if (sh_i μ 210 i2.toNatClampNeg) < i3 then sh_bindv (f_X10_passDay 209 0 μ) (fun μ15 => F_X0_daysToRise fuel 1 r1 i2 i3 (i4 + 1) μ15) else some (i4, μ)) else none)))
    | _ => none
def f_X0_daysToRise (q1 : Nat) (a2 : Int32) (a3 : Int32) (μ : sh_Mem) : Option (Int32 × sh_Mem) := sh_bindv (f_X3_copyFrom 209 q1 μ) (fun μ18 => F_X0_daysToRise 1000000 1 q1 a2 a3 0 μ18)
theorem gpl_X0_daysToRise (fuel : Nat) : (∀ ⦃r1 : Nat⦄ ⦃i2 : Int32⦄ ⦃i3 : Int32⦄ ⦃i4 : Int32⦄ ⦃μ μ' : sh_Mem⦄ ⦃v : Int32⦄, sh_G μ → sh_isL r1 → F_X0_daysToRise fuel 1 r1 i2 i3 i4 μ = some (v, μ') → sh_G μ') := by
  induction fuel with
  | zero => intro r1 i2 i3 i4 μ μ' v hG hr1 h; cases h
  | succ fuel ih =>
    have ih_11 := ih
    intro r1 i2 i3 i4 μ μ' v hG hr1 h
    replace h : ((if 60 < i4 then some ((-1), μ) else (if 999 < (sh_i μ 209 0) then some ((-1), μ) else (if sh_in i2 49 then (if (sh_i μ 210 i2.toNatClampNeg) < i3 then sh_bindv (f_X10_passDay 209 0 μ) (fun μ15 => F_X0_daysToRise fuel 1 r1 i2 i3 (i4 + 1) μ15) else some (i4, μ)) else none))) : Option (Int32 × sh_Mem)) = some (v, μ') := h
    by_cases c11 : 60 < i4
    · rw [if_pos c11] at h
      obtain ⟨e1, e2⟩ := sh_some2 h
      exact e2 ▸ hG
    · rw [if_neg c11] at h
      by_cases c12 : 999 < (sh_i μ 209 0)
      · rw [if_pos c12] at h
        obtain ⟨e1, e2⟩ := sh_some2 h
        exact e2 ▸ hG
      · rw [if_neg c12] at h
        obtain ⟨k13, h⟩ := sh_chk h
        by_cases c14 : (sh_i μ 210 i2.toNatClampNeg) < i3
        · rw [if_pos c14] at h
          obtain ⟨μ15, hr16, h⟩ := sh_bindv_e h
          have hG15 := gp_X10_passDay hG sh_isL_209 hr16
          exact ih_11 hG15 hr1 h
        · rw [if_neg c14] at h
          obtain ⟨e1, e2⟩ := sh_some2 h
          exact e2 ▸ hG
theorem tl_X0_daysToRise (fuel : Nat) : (∀ ⦃r1 : Nat⦄ ⦃i2 : Int32⦄ ⦃i3 : Int32⦄ ⦃i4 : Int32⦄ ⦃μ μ' : sh_Mem⦄ ⦃v : Int32⦄, sh_G μ → sh_isL r1 → F_X0_daysToRise fuel 1 r1 i2 i3 i4 μ = some (v, μ') → sh_V0 l B D ca 7 M_X0_daysToRise 11 [(0, .ref 208), (1, .ref r1), (2, .int i2), (3, .int i3), (4, .int i4)] [] μ (fun v0 μ0 => v0 = some (.int v) ∧ μ0 = μ')) := by
  induction fuel with
  | zero => intro r1 i2 i3 i4 μ μ' v hG hr1 h; cases h
  | succ fuel ih =>
    have ih_11 := ih
    intro r1 i2 i3 i4 μ μ' v hG hr1 h
    replace h : ((if 60 < i4 then some ((-1), μ) else (if 999 < (sh_i μ 209 0) then some ((-1), μ) else (if sh_in i2 49 then (if (sh_i μ 210 i2.toNatClampNeg) < i3 then sh_bindv (f_X10_passDay 209 0 μ) (fun μ15 => F_X0_daysToRise fuel 1 r1 i2 i3 (i4 + 1) μ15) else some (i4, μ)) else none))) : Option (Int32 × sh_Mem)) = some (v, μ') := h
    refine vv_iload 11 4 dX0_daysToRise_11 rfl ?_
    refine vv_bipush 13 dX0_daysToRise_13 bk_60 ?_
    refine vv_icmp_gt 15 65 dX0_daysToRise_15 (by decide) (fun c11 => ?_) (fun c11 => ?_)
    · rw [if_pos c11] at h
      refine vv_iconst 65 dX0_daysToRise_65 ik_m1 ?_
      obtain ⟨e1, e2⟩ := sh_some2 h
      refine vv_iret 66 dX0_daysToRise_66 rfl (Nat.le_refl _) (Nat.le_refl _) ⟨by rw [e1], e2⟩
    · rw [if_neg c11] at h
      refine vv_aload_n 18 0 dX0_daysToRise_18 rfl rfl ?_
      refine vv_getR 19 dX0_daysToRise_19 fl_0_12 rfl (g_l_208 hG) (g_r_208_1 hG) ?_
      refine vv_getI 22 dX0_daysToRise_22 fl_0_43 rfl (g_l_209 hG) ?_
      refine vv_sipush 25 dX0_daysToRise_25 sk_999 ?_
      refine vv_icmp_gt 28 65 dX0_daysToRise_28 (by decide) (fun c12 => ?_) (fun c12 => ?_)
      · rw [if_pos c12] at h
        refine vv_iconst 65 dX0_daysToRise_65 ik_m1 ?_
        obtain ⟨e1, e2⟩ := sh_some2 h
        refine vv_iret 66 dX0_daysToRise_66 rfl (Nat.le_refl _) (Nat.le_refl _) ⟨by rw [e1], e2⟩
      · rw [if_neg c12] at h
        refine vv_aload_n 31 0 dX0_daysToRise_31 rfl rfl ?_
        refine vv_getR 32 dX0_daysToRise_32 fl_0_12 rfl (g_l_208 hG) (g_r_208_1 hG) ?_
        refine vv_getR 35 dX0_daysToRise_35 fl_0_47 rfl (g_l_209 hG) (g_r_209_1 hG) ?_
        refine vv_iload_n 38 2 dX0_daysToRise_38 rfl rfl ?_
        obtain ⟨k13, h⟩ := sh_chk h
        refine vv_iald 39 dX0_daysToRise_39 (g_l_210 hG) k13 ?_
        refine vv_iload_n 40 3 dX0_daysToRise_40 rfl rfl ?_
        refine vv_icmp_lt 41 47 dX0_daysToRise_41 (by decide) (fun c14 => ?_) (fun c14 => ?_)
        · rw [if_pos c14] at h
          refine vv_aload_n 47 0 dX0_daysToRise_47 rfl rfl ?_
          refine vv_getR 48 dX0_daysToRise_48 fl_0_29 rfl (g_l_208 hG) (g_r_208_0 hG) ?_
          refine vv_aload_n 51 0 dX0_daysToRise_51 rfl rfl ?_
          refine vv_getR 52 dX0_daysToRise_52 fl_0_12 rfl (g_l_208 hG) (g_r_208_1 hG) ?_
          refine vv_iconst 55 dX0_daysToRise_55 ik_0 ?_
          obtain ⟨μ15, hr16, h⟩ := sh_bindv_e h
          refine v1_callV [_, _] 56 dX0_daysToRise_56 ck_X0_37 (g_l_55 hG) ⟨by decide, rfl⟩ (t_X10_passDay hG sh_isL_209 hr16) (Nat.le_of_ble_eq_true rfl) ⟨Nat.le_of_ble_eq_true rfl, Nat.le_of_ble_eq_true rfl⟩ rfl (Nat.le_of_ble_eq_true rfl) ?_
          have hG15 := gp_X10_passDay hG sh_isL_209 hr16
          refine vv_iincc (lv' := [(4, _), (0, _), (1, _), (2, _), (3, _)]) 59 4 dX0_daysToRise_59 rfl ik_1 (by decide) rfl ?_
          refine vv_goto 62 11 dX0_daysToRise_62 (by decide) ?_
          refine vv_sub [(0, _), (1, _), (2, _), (3, _), (4, _)] (sh_subm [1, 2, 3, 4, 0] rfl) ?_
          exact ih_11 hG15 hr1 h
        · rw [if_neg c14] at h
          refine vv_iload 44 4 dX0_daysToRise_44 rfl ?_
          obtain ⟨e1, e2⟩ := sh_some2 h
          refine vv_iret 46 dX0_daysToRise_46 rfl (Nat.le_refl _) (Nat.le_refl _) ⟨by rw [e1], e2⟩
theorem gp_X0_daysToRise {q1 : Nat} {a2 : Int32} {a3 : Int32} {μ μ' : sh_Mem} {v : Int32} (hG : sh_G μ) (hq1 : sh_isL q1) (h : f_X0_daysToRise q1 a2 a3 μ = some (v, μ')) : sh_G μ' := by
  have ih_11 := (gpl_X0_daysToRise 1000000)
  unfold f_X0_daysToRise at h
  obtain ⟨μ18, hr19, h⟩ := sh_bindv_e h
  have hG18 := gp_X3_copyFrom hG sh_isL_209 hq1 hr19
  exact ih_11 hG18 hq1 h
theorem t_X0_daysToRise {q1 : Nat} {a2 : Int32} {a3 : Int32} {μ μ' : sh_Mem} {v : Int32} (hG : sh_G μ) (hq1 : sh_isL q1) (h : f_X0_daysToRise q1 a2 a3 μ = some (v, μ')) : sh_C0 l B D ca 7 M_X0_daysToRise [.ref 208, .ref q1, .int a2, .int a3] μ (fun v0 μ0 => v0 = some (.int v) ∧ μ0 = μ') := by
  have ih_11 := (tl_X0_daysToRise (l := l) (B := B) (D := D) (ca := ca) 1000000)
  unfold f_X0_daysToRise at h
  refine vv_aload_n 0 0 dX0_daysToRise_0 rfl rfl ?_
  refine vv_getR 1 dX0_daysToRise_1 fl_0_12 rfl (g_l_208 hG) (g_r_208_1 hG) ?_
  refine vv_aload_n 4 1 dX0_daysToRise_4 rfl rfl ?_
  obtain ⟨μ18, hr19, h⟩ := sh_bindv_e h
  refine v1_callV [_] 5 dX0_daysToRise_5 ck_X0_33 (g_l_209 hG) ⟨by decide, rfl⟩ (t_X3_copyFrom hG sh_isL_209 hq1 hr19) (Nat.le_of_ble_eq_true rfl) ⟨Nat.le_of_ble_eq_true rfl, Nat.le_of_ble_eq_true rfl⟩ rfl (Nat.le_of_ble_eq_true rfl) ?_
  have hG18 := gp_X3_copyFrom hG sh_isL_209 hq1 hr19
  refine vv_iconst 8 dX0_daysToRise_8 ik_0 ?_
  refine vv_istore (lv' := [(4, _), (0, _), (1, _), (2, _), (3, _)]) 9 4 dX0_daysToRise_9 (by decide) rfl ?_
  refine vv_sub [(0, _), (1, _), (2, _), (3, _), (4, _)] (sh_subm [1, 2, 3, 4, 0] rfl) ?_
  exact ih_11 hG18 hq1 h
def F_X0_askEach : Nat → Nat → Nat → Int32 → Int32 → sh_Mem → Option sh_Mem
  | 0, _, _, _, _, _ => none
  | fuel + 1, lbl, r1, i2, i3, μ => match lbl with
    | 1 => (if (sh_r μ 55 0 = some (sh_ref μ 55 0) ∧ ((sh_ref μ 55 0) = 8 ∨ (sh_ref μ 55 0) = 29)) then sh_let (sh_ref μ 55 0) (fun r13 => (if (sh_i μ r13 3) ≤ i3 then some μ else (if sh_in i3 7 then sh_bindv (f_X3_copyFrom (218 + 6 * i3.toNatClampNeg) r1 μ) (fun μ16 => (if sh_in i3 7 then sh_bind (f_X10_asked (218 + 6 * i3.toNatClampNeg) i3 i2 μ16) (fun y22 μ20 => F_X0_askEach fuel 1 r1 i2 (i3 + 1) μ20) else none)) else none))) else none)
    | _ => none
def f_X0_askEach (q1 : Nat) (a2 : Int32) (μ : sh_Mem) : Option sh_Mem := F_X0_askEach 1000000 1 q1 a2 0 μ
theorem gpl_X0_askEach (fuel : Nat) : (∀ ⦃r1 : Nat⦄ ⦃i2 : Int32⦄ ⦃i3 : Int32⦄ ⦃μ μ' : sh_Mem⦄, sh_G μ → sh_isL r1 → F_X0_askEach fuel 1 r1 i2 i3 μ = some μ' → sh_G μ') := by
  induction fuel with
  | zero => intro r1 i2 i3 μ μ' hG hr1 h; cases h
  | succ fuel ih =>
    have ih_2 := ih
    intro r1 i2 i3 μ μ' hG hr1 h
    replace h : ((if (sh_r μ 55 0 = some (sh_ref μ 55 0) ∧ ((sh_ref μ 55 0) = 8 ∨ (sh_ref μ 55 0) = 29)) then sh_let (sh_ref μ 55 0) (fun r13 => (if (sh_i μ r13 3) ≤ i3 then some μ else (if sh_in i3 7 then sh_bindv (f_X3_copyFrom (218 + 6 * i3.toNatClampNeg) r1 μ) (fun μ16 => (if sh_in i3 7 then sh_bind (f_X10_asked (218 + 6 * i3.toNatClampNeg) i3 i2 μ16) (fun y22 μ20 => F_X0_askEach fuel 1 r1 i2 (i3 + 1) μ20) else none)) else none))) else none) : Option sh_Mem) = some μ' := h
    obtain ⟨k12, h⟩ := sh_chk h
    obtain ⟨r13, er13⟩ : ∃ y : Nat, y = (sh_ref μ 55 0) := ⟨_, rfl⟩
    rw [sh_let_eq er13] at h
    have k12r : sh_r μ 55 0 = some r13 ∧ (r13 = 8 ∨ r13 = 29) := by rw [er13]; exact k12
    by_cases c14 : (sh_i μ r13 3) ≤ i3
    · rw [if_pos c14] at h
      have e2 := Option.some.inj h
      exact e2 ▸ hG
    · rw [if_neg c14] at h
      obtain ⟨k15, h⟩ := sh_chk h
      obtain ⟨μ16, hr17, h⟩ := sh_bindv_e h
      have hG16 := gp_X3_copyFrom hG (gRL_215 k15) hr1 hr17
      obtain ⟨k19, h⟩ := sh_chk h
      obtain ⟨y22, μ20, hr21, h⟩ := sh_bind_e h
      have hG20 := gp_X10_asked hG16 (gRL_215 k19) hr21
      exact ih_2 hG20 hr1 h
theorem tl_X0_askEach (fuel : Nat) : (∀ ⦃r1 : Nat⦄ ⦃i2 : Int32⦄ ⦃i3 : Int32⦄ ⦃μ μ' : sh_Mem⦄, sh_G μ → sh_isL r1 → F_X0_askEach fuel 1 r1 i2 i3 μ = some μ' → sh_V0 l B D ca 6 M_X0_askEach 2 [(0, .ref 208), (1, .ref r1), (2, .int i2), (3, .int i3)] [] μ (fun v0 μ0 => v0 = none ∧ μ0 = μ')) := by
  induction fuel with
  | zero => intro r1 i2 i3 μ μ' hG hr1 h; cases h
  | succ fuel ih =>
    have ih_2 := ih
    intro r1 i2 i3 μ μ' hG hr1 h
    replace h : ((if (sh_r μ 55 0 = some (sh_ref μ 55 0) ∧ ((sh_ref μ 55 0) = 8 ∨ (sh_ref μ 55 0) = 29)) then sh_let (sh_ref μ 55 0) (fun r13 => (if (sh_i μ r13 3) ≤ i3 then some μ else (if sh_in i3 7 then sh_bindv (f_X3_copyFrom (218 + 6 * i3.toNatClampNeg) r1 μ) (fun μ16 => (if sh_in i3 7 then sh_bind (f_X10_asked (218 + 6 * i3.toNatClampNeg) i3 i2 μ16) (fun y22 μ20 => F_X0_askEach fuel 1 r1 i2 (i3 + 1) μ20) else none)) else none))) else none) : Option sh_Mem) = some μ' := h
    refine vv_iload_n 2 3 dX0_askEach_2 rfl rfl ?_
    refine vv_aload_n 3 0 dX0_askEach_3 rfl rfl ?_
    refine vv_getR 4 dX0_askEach_4 fl_0_29 rfl (g_l_208 hG) (g_r_208_0 hG) ?_
    obtain ⟨k12, h⟩ := sh_chk h
    refine vv_getR 7 dX0_askEach_7 fl_0_50 rfl (g_l_55 hG) k12.1 ?_
    refine vv_topr (fun r13 er13 => ?_)
    rw [sh_let_eq er13] at h
    have k12r : sh_r μ 55 0 = some r13 ∧ (r13 = 8 ∨ r13 = 29) := by rw [er13]; exact k12
    refine vv_getI 10 dX0_askEach_10 fl_0_54 rfl (gP_l hG k12r.2) ?_
    refine vv_icmp_ge 13 48 dX0_askEach_13 (by decide) (fun c14 => ?_) (fun c14 => ?_)
    · rw [if_pos c14] at h
      have e2 := Option.some.inj h
      refine vv_vret 48 dX0_askEach_48 rfl (Nat.le_refl _) (Nat.le_refl _) ⟨rfl, e2⟩
    · rw [if_neg c14] at h
      refine vv_aload_n 16 0 dX0_askEach_16 rfl rfl ?_
      refine vv_getR 17 dX0_askEach_17 fl_0_18 rfl (g_l_208 hG) (g_r_208_2 hG) ?_
      refine vv_iload_n 20 3 dX0_askEach_20 rfl rfl ?_
      obtain ⟨k15, h⟩ := sh_chk h
      refine vv_aald 21 dX0_askEach_21 (g_l_215 hG) k15 (gR_215 hG k15) ?_
      refine vv_aload_n 22 1 dX0_askEach_22 rfl rfl ?_
      obtain ⟨μ16, hr17, h⟩ := sh_bindv_e h
      refine v1_callV [_] 23 dX0_askEach_23 ck_X0_33 (gL_l hG (gRL_215 k15)) ⟨by decide, rfl⟩ (t_X3_copyFrom hG (gRL_215 k15) hr1 hr17) (Nat.le_of_ble_eq_true rfl) ⟨Nat.le_of_ble_eq_true rfl, Nat.le_of_ble_eq_true rfl⟩ rfl (Nat.le_of_ble_eq_true rfl) ?_
      have hG16 := gp_X3_copyFrom hG (gRL_215 k15) hr1 hr17
      refine vv_aload_n 26 0 dX0_askEach_26 rfl rfl ?_
      refine vv_getR 27 dX0_askEach_27 fl_0_29 rfl (g_l_208 hG16) (g_r_208_0 hG16) ?_
      refine vv_aload_n 30 0 dX0_askEach_30 rfl rfl ?_
      refine vv_getR 31 dX0_askEach_31 fl_0_18 rfl (g_l_208 hG16) (g_r_208_2 hG16) ?_
      refine vv_iload_n 34 3 dX0_askEach_34 rfl rfl ?_
      obtain ⟨k19, h⟩ := sh_chk h
      refine vv_aald 35 dX0_askEach_35 (g_l_215 hG16) k19 (gR_215 hG16 k19) ?_
      refine vv_iload_n 36 3 dX0_askEach_36 rfl rfl ?_
      refine vv_iload_n 37 2 dX0_askEach_37 rfl rfl ?_
      obtain ⟨y22, μ20, hr21, h⟩ := sh_bind_e h
      refine v1_callV [_, _, _] 38 dX0_askEach_38 ck_X0_69 (g_l_55 hG16) ⟨by decide, rfl⟩ (t_X10_asked hG16 (gRL_215 k19) hr21) (Nat.le_of_ble_eq_true rfl) ⟨Nat.le_of_ble_eq_true rfl, Nat.le_of_ble_eq_true rfl⟩ rfl (Nat.le_of_ble_eq_true rfl) ?_
      have hG20 := gp_X10_asked hG16 (gRL_215 k19) hr21
      refine vv_pop 41 dX0_askEach_41 ?_
      refine vv_iincc (lv' := [(3, _), (0, _), (1, _), (2, _)]) 42 3 dX0_askEach_42 rfl ik_1 (by decide) rfl ?_
      refine vv_goto 45 2 dX0_askEach_45 (by decide) ?_
      refine vv_sub [(0, _), (1, _), (2, _), (3, _)] (sh_subm [1, 2, 3, 0] rfl) ?_
      exact ih_2 hG20 hr1 h
theorem gp_X0_askEach {q1 : Nat} {a2 : Int32} {μ μ' : sh_Mem} (hG : sh_G μ) (hq1 : sh_isL q1) (h : f_X0_askEach q1 a2 μ = some μ') : sh_G μ' := by
  have ih_2 := (gpl_X0_askEach 1000000)
  unfold f_X0_askEach at h
  exact ih_2 hG hq1 h
theorem t_X0_askEach {q1 : Nat} {a2 : Int32} {μ μ' : sh_Mem} (hG : sh_G μ) (hq1 : sh_isL q1) (h : f_X0_askEach q1 a2 μ = some μ') : sh_C0 l B D ca 6 M_X0_askEach [.ref 208, .ref q1, .int a2] μ (fun v0 μ0 => v0 = none ∧ μ0 = μ') := by
  have ih_2 := (tl_X0_askEach (l := l) (B := B) (D := D) (ca := ca) 1000000)
  unfold f_X0_askEach at h
  refine vv_iconst 0 dX0_askEach_0 ik_0 ?_
  refine vv_istore_n (lv' := [(3, _), (0, _), (1, _), (2, _)]) 1 3 dX0_askEach_1 rfl (by decide) rfl ?_
  refine vv_sub [(0, _), (1, _), (2, _), (3, _)] (sh_subm [1, 2, 3, 0] rfl) ?_
  exact ih_2 hG hq1 h
def F_X0_whoFits : Nat → Nat → Nat → Int32 → Int32 → Int32 → Int32 → sh_Mem → Option (Int32 × sh_Mem)
  | 0, _, _, _, _, _, _, _ => none
  | fuel + 1, lbl, r1, i2, i3, i4, i5, μ => match lbl with
    | 1 => (if 30 < i4 then some (i3, μ) else F_X0_whoFits fuel 2 r1 i2 i3 i4 0 μ)
    | 2 => (if (sh_r μ 55 0 = some (sh_ref μ 55 0) ∧ ((sh_ref μ 55 0) = 8 ∨ (sh_ref μ 55 0) = 29)) then sh_let (sh_ref μ 55 0) (fun r46 => (if (sh_i μ r46 3) ≤ i5 then F_X0_whoFits fuel 1 r1 i2 i3 (i4 + 1) 0 μ else (if sh_in i5 7 then sh_bind (f_X0_isAsSeen (218 + 6 * i5.toNatClampNeg) i4 μ) (fun y51 μ49 => (if y51 = 0 then sh_let ((i3 &&& ((1 <<< (i5 &&& 31)) ^^^ (-1))) : Int32) (fun x57 => (if sh_in i5 7 then sh_bindv (f_X10_passDay (218 + 6 * i5.toNatClampNeg) 0 μ49) (fun μ59 => F_X0_whoFits fuel 2 r1 i2 x57 i4 (i5 + 1) μ59) else none)) else (if sh_in i5 7 then sh_bindv (f_X10_passDay (218 + 6 * i5.toNatClampNeg) 0 μ49) (fun μ54 => F_X0_whoFits fuel 2 r1 i2 i3 i4 (i5 + 1) μ54) else none))) else none))) else none)
    | _ => none
def f_X0_whoFits (q1 : Nat) (a2 : Int32) (μ : sh_Mem) : Option (Int32 × sh_Mem) := (if (sh_r μ 55 0 = some (sh_ref μ 55 0) ∧ ((sh_ref μ 55 0) = 8 ∨ (sh_ref μ 55 0) = 29)) then sh_let (sh_ref μ 55 0) (fun r63 => sh_let (((1 <<< ((sh_i μ r63 3) &&& 31)) - 1) : Int32) (fun x64 => (if (sh_i μ 208 4) = 0 then some (x64, μ) else sh_bindv (f_X0_askEach q1 a2 μ) (fun μ66 => F_X0_whoFits 1000000 1 q1 a2 x64 0 0 μ66)))) else none)
theorem gpl_X0_whoFits (fuel : Nat) : (∀ ⦃r1 : Nat⦄ ⦃i2 : Int32⦄ ⦃i3 : Int32⦄ ⦃i4 : Int32⦄ ⦃i5 : Int32⦄ ⦃μ μ' : sh_Mem⦄ ⦃v : Int32⦄, sh_G μ → sh_isL r1 → F_X0_whoFits fuel 1 r1 i2 i3 i4 i5 μ = some (v, μ') → sh_G μ') ∧ (∀ ⦃r1 : Nat⦄ ⦃i2 : Int32⦄ ⦃i3 : Int32⦄ ⦃i4 : Int32⦄ ⦃i5 : Int32⦄ ⦃μ μ' : sh_Mem⦄ ⦃v : Int32⦄, sh_G μ → sh_isL r1 → F_X0_whoFits fuel 2 r1 i2 i3 i4 i5 μ = some (v, μ') → sh_G μ') := by
  induction fuel with
  | zero => exact ⟨(by intro r1 i2 i3 i4 i5 μ μ' v hG hr1 h; cases h), (by intro r1 i2 i3 i4 i5 μ μ' v hG hr1 h; cases h)⟩
  | succ fuel ih =>
    obtain ⟨ih_33, ih_43⟩ := ih
    refine ⟨?_, ?_⟩
    · intro r1 i2 i3 i4 i5 μ μ' v hG hr1 h
      replace h : ((if 30 < i4 then some (i3, μ) else F_X0_whoFits fuel 2 r1 i2 i3 i4 0 μ) : Option (Int32 × sh_Mem)) = some (v, μ') := h
      by_cases c44 : 30 < i4
      · rw [if_pos c44] at h
        obtain ⟨e1, e2⟩ := sh_some2 h
        exact e2 ▸ hG
      · rw [if_neg c44] at h
        exact ih_43 hG hr1 h
    · intro r1 i2 i3 i4 i5 μ μ' v hG hr1 h
      replace h : ((if (sh_r μ 55 0 = some (sh_ref μ 55 0) ∧ ((sh_ref μ 55 0) = 8 ∨ (sh_ref μ 55 0) = 29)) then sh_let (sh_ref μ 55 0) (fun r46 => (if (sh_i μ r46 3) ≤ i5 then F_X0_whoFits fuel 1 r1 i2 i3 (i4 + 1) 0 μ else (if sh_in i5 7 then sh_bind (f_X0_isAsSeen (218 + 6 * i5.toNatClampNeg) i4 μ) (fun y51 μ49 => (if y51 = 0 then sh_let ((i3 &&& ((1 <<< (i5 &&& 31)) ^^^ (-1))) : Int32) (fun x57 => (if sh_in i5 7 then sh_bindv (f_X10_passDay (218 + 6 * i5.toNatClampNeg) 0 μ49) (fun μ59 => F_X0_whoFits fuel 2 r1 i2 x57 i4 (i5 + 1) μ59) else none)) else (if sh_in i5 7 then sh_bindv (f_X10_passDay (218 + 6 * i5.toNatClampNeg) 0 μ49) (fun μ54 => F_X0_whoFits fuel 2 r1 i2 i3 i4 (i5 + 1) μ54) else none))) else none))) else none) : Option (Int32 × sh_Mem)) = some (v, μ') := h
      obtain ⟨k45, h⟩ := sh_chk h
      obtain ⟨r46, er46⟩ : ∃ y : Nat, y = (sh_ref μ 55 0) := ⟨_, rfl⟩
      rw [sh_let_eq er46] at h
      have k45r : sh_r μ 55 0 = some r46 ∧ (r46 = 8 ∨ r46 = 29) := by rw [er46]; exact k45
      by_cases c47 : (sh_i μ r46 3) ≤ i5
      · rw [if_pos c47] at h
        exact ih_33 hG hr1 h
      · rw [if_neg c47] at h
        obtain ⟨k48, h⟩ := sh_chk h
        obtain ⟨y51, μ49, hr50, h⟩ := sh_bind_e h
        have hG49 := gp_X0_isAsSeen hG (gRL_215 k48) hr50
        by_cases c52 : y51 = 0
        · rw [if_pos c52] at h
          obtain ⟨x57, ex57⟩ : ∃ y : Int32, y = (i3 &&& ((1 <<< (i5 &&& 31)) ^^^ (-1))) := ⟨_, rfl⟩
          rw [sh_let_eq ex57] at h
          obtain ⟨k58, h⟩ := sh_chk h
          obtain ⟨μ59, hr60, h⟩ := sh_bindv_e h
          have hG59 := gp_X10_passDay hG49 (gRL_215 k58) hr60
          exact ih_43 hG59 hr1 h
        · rw [if_neg c52] at h
          obtain ⟨k53, h⟩ := sh_chk h
          obtain ⟨μ54, hr55, h⟩ := sh_bindv_e h
          have hG54 := gp_X10_passDay hG49 (gRL_215 k53) hr55
          exact ih_43 hG54 hr1 h
theorem tl_X0_whoFits (fuel : Nat) : (∀ ⦃r1 : Nat⦄ ⦃i2 : Int32⦄ ⦃i3 : Int32⦄ ⦃i4 : Int32⦄ ⦃i5 : Int32⦄ ⦃μ μ' : sh_Mem⦄ ⦃v : Int32⦄, sh_G μ → sh_isL r1 → F_X0_whoFits fuel 1 r1 i2 i3 i4 i5 μ = some (v, μ') → sh_V0 l B D ca 7 M_X0_whoFits 33 [(0, .ref 208), (1, .ref r1), (2, .int i2), (3, .int i3), (4, .int i4)] [] μ (fun v0 μ0 => v0 = some (.int v) ∧ μ0 = μ')) ∧ (∀ ⦃r1 : Nat⦄ ⦃i2 : Int32⦄ ⦃i3 : Int32⦄ ⦃i4 : Int32⦄ ⦃i5 : Int32⦄ ⦃μ μ' : sh_Mem⦄ ⦃v : Int32⦄, sh_G μ → sh_isL r1 → F_X0_whoFits fuel 2 r1 i2 i3 i4 i5 μ = some (v, μ') → sh_V0 l B D ca 7 M_X0_whoFits 43 [(0, .ref 208), (1, .ref r1), (2, .int i2), (3, .int i3), (4, .int i4), (5, .int i5)] [] μ (fun v0 μ0 => v0 = some (.int v) ∧ μ0 = μ')) := by
  induction fuel with
  | zero => exact ⟨(by intro r1 i2 i3 i4 i5 μ μ' v hG hr1 h; cases h), (by intro r1 i2 i3 i4 i5 μ μ' v hG hr1 h; cases h)⟩
  | succ fuel ih =>
    obtain ⟨ih_33, ih_43⟩ := ih
    refine ⟨?_, ?_⟩
    · intro r1 i2 i3 i4 i5 μ μ' v hG hr1 h
      replace h : ((if 30 < i4 then some (i3, μ) else F_X0_whoFits fuel 2 r1 i2 i3 i4 0 μ) : Option (Int32 × sh_Mem)) = some (v, μ') := h
      refine vv_iload 33 4 dX0_whoFits_33 rfl ?_
      refine vv_bipush 35 dX0_whoFits_35 bk_30 ?_
      refine vv_icmp_gt 37 110 dX0_whoFits_37 (by decide) (fun c44 => ?_) (fun c44 => ?_)
      · rw [if_pos c44] at h
        refine vv_iload_n 110 3 dX0_whoFits_110 rfl rfl ?_
        obtain ⟨e1, e2⟩ := sh_some2 h
        refine vv_iret 111 dX0_whoFits_111 rfl (Nat.le_refl _) (Nat.le_refl _) ⟨by rw [e1], e2⟩
      · rw [if_neg c44] at h
        refine vv_iconst 40 dX0_whoFits_40 ik_0 ?_
        refine vv_istore (lv' := [(5, _), (0, _), (1, _), (2, _), (3, _), (4, _)]) 41 5 dX0_whoFits_41 (by decide) rfl ?_
        refine vv_sub [(0, _), (1, _), (2, _), (3, _), (4, _), (5, _)] (sh_subm [1, 2, 3, 4, 5, 0] rfl) ?_
        exact ih_43 hG hr1 h
    · intro r1 i2 i3 i4 i5 μ μ' v hG hr1 h
      replace h : ((if (sh_r μ 55 0 = some (sh_ref μ 55 0) ∧ ((sh_ref μ 55 0) = 8 ∨ (sh_ref μ 55 0) = 29)) then sh_let (sh_ref μ 55 0) (fun r46 => (if (sh_i μ r46 3) ≤ i5 then F_X0_whoFits fuel 1 r1 i2 i3 (i4 + 1) 0 μ else (if sh_in i5 7 then sh_bind (f_X0_isAsSeen (218 + 6 * i5.toNatClampNeg) i4 μ) (fun y51 μ49 => (if y51 = 0 then sh_let ((i3 &&& ((1 <<< (i5 &&& 31)) ^^^ (-1))) : Int32) (fun x57 => (if sh_in i5 7 then sh_bindv (f_X10_passDay (218 + 6 * i5.toNatClampNeg) 0 μ49) (fun μ59 => F_X0_whoFits fuel 2 r1 i2 x57 i4 (i5 + 1) μ59) else none)) else (if sh_in i5 7 then sh_bindv (f_X10_passDay (218 + 6 * i5.toNatClampNeg) 0 μ49) (fun μ54 => F_X0_whoFits fuel 2 r1 i2 i3 i4 (i5 + 1) μ54) else none))) else none))) else none) : Option (Int32 × sh_Mem)) = some (v, μ') := h
      refine vv_iload 43 5 dX0_whoFits_43 rfl ?_
      refine vv_aload_n 45 0 dX0_whoFits_45 rfl rfl ?_
      refine vv_getR 46 dX0_whoFits_46 fl_0_29 rfl (g_l_208 hG) (g_r_208_0 hG) ?_
      obtain ⟨k45, h⟩ := sh_chk h
      refine vv_getR 49 dX0_whoFits_49 fl_0_50 rfl (g_l_55 hG) k45.1 ?_
      refine vv_topr (fun r46 er46 => ?_)
      rw [sh_let_eq er46] at h
      have k45r : sh_r μ 55 0 = some r46 ∧ (r46 = 8 ∨ r46 = 29) := by rw [er46]; exact k45
      refine vv_getI 52 dX0_whoFits_52 fl_0_54 rfl (gP_l hG k45r.2) ?_
      refine vv_icmp_ge 55 104 dX0_whoFits_55 (by decide) (fun c47 => ?_) (fun c47 => ?_)
      · rw [if_pos c47] at h
        refine vv_iincc (lv' := [(4, _), (0, _), (1, _), (2, _), (3, _), (5, _)]) 104 4 dX0_whoFits_104 rfl ik_1 (by decide) rfl ?_
        refine vv_goto 107 33 dX0_whoFits_107 (by decide) ?_
        refine vv_sub [(0, _), (1, _), (2, _), (3, _), (4, _)] (sh_subm [1, 2, 3, 4, 0] rfl) ?_
        exact ih_33 hG hr1 h
      · rw [if_neg c47] at h
        refine vv_aload_n 58 0 dX0_whoFits_58 rfl rfl ?_
        refine vv_aload_n 59 0 dX0_whoFits_59 rfl rfl ?_
        refine vv_getR 60 dX0_whoFits_60 fl_0_18 rfl (g_l_208 hG) (g_r_208_2 hG) ?_
        refine vv_iload 63 5 dX0_whoFits_63 rfl ?_
        obtain ⟨k48, h⟩ := sh_chk h
        refine vv_aald 65 dX0_whoFits_65 (g_l_215 hG) k48 (gR_215 hG k48) ?_
        refine vv_iload 66 4 dX0_whoFits_66 rfl ?_
        obtain ⟨y51, μ49, hr50, h⟩ := sh_bind_e h
        refine v1_callV [_, _] 68 dX0_whoFits_68 ck_X0_79 (g_l_208 hG) ⟨by decide, rfl⟩ (t_X0_isAsSeen hG (gRL_215 k48) hr50) (Nat.le_of_ble_eq_true rfl) ⟨Nat.le_of_ble_eq_true rfl, Nat.le_of_ble_eq_true rfl⟩ rfl (Nat.le_of_ble_eq_true rfl) ?_
        have hG49 := gp_X0_isAsSeen hG (gRL_215 k48) hr50
        refine vv_if_ne 71 83 dX0_whoFits_71 (by decide) (fun c52 => ?_) (fun c52 => ?_)
        · rw [if_neg c52] at h
          refine vv_aload_n 83 0 dX0_whoFits_83 rfl rfl ?_
          refine vv_getR 84 dX0_whoFits_84 fl_0_29 rfl (g_l_208 hG49) (g_r_208_0 hG49) ?_
          refine vv_aload_n 87 0 dX0_whoFits_87 rfl rfl ?_
          refine vv_getR 88 dX0_whoFits_88 fl_0_18 rfl (g_l_208 hG49) (g_r_208_2 hG49) ?_
          refine vv_iload 91 5 dX0_whoFits_91 rfl ?_
          obtain ⟨k53, h⟩ := sh_chk h
          refine vv_aald 93 dX0_whoFits_93 (g_l_215 hG49) k53 (gR_215 hG49 k53) ?_
          refine vv_iconst 94 dX0_whoFits_94 ik_0 ?_
          obtain ⟨μ54, hr55, h⟩ := sh_bindv_e h
          refine v1_callV [_, _] 95 dX0_whoFits_95 ck_X0_37 (g_l_55 hG49) ⟨by decide, rfl⟩ (t_X10_passDay hG49 (gRL_215 k53) hr55) (Nat.le_of_ble_eq_true rfl) ⟨Nat.le_of_ble_eq_true rfl, Nat.le_of_ble_eq_true rfl⟩ rfl (Nat.le_of_ble_eq_true rfl) ?_
          have hG54 := gp_X10_passDay hG49 (gRL_215 k53) hr55
          refine vv_iincc (lv' := [(5, _), (0, _), (1, _), (2, _), (3, _), (4, _)]) 98 5 dX0_whoFits_98 rfl ik_1 (by decide) rfl ?_
          refine vv_goto 101 43 dX0_whoFits_101 (by decide) ?_
          refine vv_sub [(0, _), (1, _), (2, _), (3, _), (4, _), (5, _)] (sh_subm [1, 2, 3, 4, 5, 0] rfl) ?_
          exact ih_43 hG54 hr1 h
        · rw [if_pos c52] at h
          refine vv_iload_n 74 3 dX0_whoFits_74 rfl rfl ?_
          refine vv_iconst 75 dX0_whoFits_75 ik_1 ?_
          refine vv_iload 76 5 dX0_whoFits_76 rfl ?_
          refine vv_ishl 78 dX0_whoFits_78 ?_
          refine vv_iconst 79 dX0_whoFits_79 ik_m1 ?_
          refine vv_ixor 80 dX0_whoFits_80 ?_
          refine vv_iand 81 dX0_whoFits_81 ?_
          refine vv_topi (fun x57 ex57 => ?_)
          rw [sh_let_eq ex57] at h
          refine vv_istore_n (lv' := [(3, _), (0, _), (1, _), (2, _), (4, _), (5, _)]) 82 3 dX0_whoFits_82 rfl (by decide) rfl ?_
          refine vv_aload_n 83 0 dX0_whoFits_83 rfl rfl ?_
          refine vv_getR 84 dX0_whoFits_84 fl_0_29 rfl (g_l_208 hG49) (g_r_208_0 hG49) ?_
          refine vv_aload_n 87 0 dX0_whoFits_87 rfl rfl ?_
          refine vv_getR 88 dX0_whoFits_88 fl_0_18 rfl (g_l_208 hG49) (g_r_208_2 hG49) ?_
          refine vv_iload 91 5 dX0_whoFits_91 rfl ?_
          obtain ⟨k58, h⟩ := sh_chk h
          refine vv_aald 93 dX0_whoFits_93 (g_l_215 hG49) k58 (gR_215 hG49 k58) ?_
          refine vv_iconst 94 dX0_whoFits_94 ik_0 ?_
          obtain ⟨μ59, hr60, h⟩ := sh_bindv_e h
          refine v1_callV [_, _] 95 dX0_whoFits_95 ck_X0_37 (g_l_55 hG49) ⟨by decide, rfl⟩ (t_X10_passDay hG49 (gRL_215 k58) hr60) (Nat.le_of_ble_eq_true rfl) ⟨Nat.le_of_ble_eq_true rfl, Nat.le_of_ble_eq_true rfl⟩ rfl (Nat.le_of_ble_eq_true rfl) ?_
          have hG59 := gp_X10_passDay hG49 (gRL_215 k58) hr60
          refine vv_iincc (lv' := [(5, _), (3, _), (0, _), (1, _), (2, _), (4, _)]) 98 5 dX0_whoFits_98 rfl ik_1 (by decide) rfl ?_
          refine vv_goto 101 43 dX0_whoFits_101 (by decide) ?_
          refine vv_sub [(0, _), (1, _), (2, _), (3, _), (4, _), (5, _)] (sh_subm [2, 3, 4, 1, 5, 0] rfl) ?_
          exact ih_43 hG59 hr1 h
theorem gp_X0_whoFits {q1 : Nat} {a2 : Int32} {μ μ' : sh_Mem} {v : Int32} (hG : sh_G μ) (hq1 : sh_isL q1) (h : f_X0_whoFits q1 a2 μ = some (v, μ')) : sh_G μ' := by
  have ih_33 := (gpl_X0_whoFits 1000000).1
  have ih_43 := (gpl_X0_whoFits 1000000).2
  unfold f_X0_whoFits at h
  obtain ⟨k62, h⟩ := sh_chk h
  obtain ⟨r63, er63⟩ : ∃ y : Nat, y = (sh_ref μ 55 0) := ⟨_, rfl⟩
  rw [sh_let_eq er63] at h
  have k62r : sh_r μ 55 0 = some r63 ∧ (r63 = 8 ∨ r63 = 29) := by rw [er63]; exact k62
  obtain ⟨x64, ex64⟩ : ∃ y : Int32, y = ((1 <<< ((sh_i μ r63 3) &&& 31)) - 1) := ⟨_, rfl⟩
  rw [sh_let_eq ex64] at h
  by_cases c65 : (sh_i μ 208 4) = 0
  · rw [if_pos c65] at h
    obtain ⟨e1, e2⟩ := sh_some2 h
    exact e2 ▸ hG
  · rw [if_neg c65] at h
    obtain ⟨μ66, hr67, h⟩ := sh_bindv_e h
    have hG66 := gp_X0_askEach hG hq1 hr67
    exact ih_33 hG66 hq1 h
theorem t_X0_whoFits {q1 : Nat} {a2 : Int32} {μ μ' : sh_Mem} {v : Int32} (hG : sh_G μ) (hq1 : sh_isL q1) (h : f_X0_whoFits q1 a2 μ = some (v, μ')) : sh_C0 l B D ca 7 M_X0_whoFits [.ref 208, .ref q1, .int a2] μ (fun v0 μ0 => v0 = some (.int v) ∧ μ0 = μ') := by
  have ih_33 := (tl_X0_whoFits (l := l) (B := B) (D := D) (ca := ca) 1000000).1
  have ih_43 := (tl_X0_whoFits (l := l) (B := B) (D := D) (ca := ca) 1000000).2
  unfold f_X0_whoFits at h
  refine vv_iconst 0 dX0_whoFits_0 ik_1 ?_
  refine vv_aload_n 1 0 dX0_whoFits_1 rfl rfl ?_
  refine vv_getR 2 dX0_whoFits_2 fl_0_29 rfl (g_l_208 hG) (g_r_208_0 hG) ?_
  obtain ⟨k62, h⟩ := sh_chk h
  refine vv_getR 5 dX0_whoFits_5 fl_0_50 rfl (g_l_55 hG) k62.1 ?_
  refine vv_topr (fun r63 er63 => ?_)
  rw [sh_let_eq er63] at h
  have k62r : sh_r μ 55 0 = some r63 ∧ (r63 = 8 ∨ r63 = 29) := by rw [er63]; exact k62
  refine vv_getI 8 dX0_whoFits_8 fl_0_54 rfl (gP_l hG k62r.2) ?_
  refine vv_ishl 11 dX0_whoFits_11 ?_
  refine vv_iconst 12 dX0_whoFits_12 ik_1 ?_
  refine vv_isub 13 dX0_whoFits_13 ?_
  refine vv_topi (fun x64 ex64 => ?_)
  rw [sh_let_eq ex64] at h
  refine vv_istore_n (lv' := [(3, _), (0, _), (1, _), (2, _)]) 14 3 dX0_whoFits_14 rfl (by decide) rfl ?_
  refine vv_aload_n 15 0 dX0_whoFits_15 rfl rfl ?_
  refine vv_getI 16 dX0_whoFits_16 fl_0_73 rfl (g_l_208 hG) ?_
  refine vv_if_ne 19 24 dX0_whoFits_19 (by decide) (fun c65 => ?_) (fun c65 => ?_)
  · rw [if_neg c65] at h
    refine vv_aload_n 24 0 dX0_whoFits_24 rfl rfl ?_
    refine vv_aload_n 25 1 dX0_whoFits_25 rfl rfl ?_
    refine vv_iload_n 26 2 dX0_whoFits_26 rfl rfl ?_
    obtain ⟨μ66, hr67, h⟩ := sh_bindv_e h
    refine v1_callV [_, _] 27 dX0_whoFits_27 ck_X0_76 (g_l_208 hG) ⟨by decide, rfl⟩ (t_X0_askEach hG hq1 hr67) (Nat.le_of_ble_eq_true rfl) ⟨Nat.le_of_ble_eq_true rfl, Nat.le_of_ble_eq_true rfl⟩ rfl (Nat.le_of_ble_eq_true rfl) ?_
    have hG66 := gp_X0_askEach hG hq1 hr67
    refine vv_iconst 30 dX0_whoFits_30 ik_0 ?_
    refine vv_istore (lv' := [(4, _), (3, _), (0, _), (1, _), (2, _)]) 31 4 dX0_whoFits_31 (by decide) rfl ?_
    refine vv_sub [(0, _), (1, _), (2, _), (3, _), (4, _)] (sh_subm [2, 3, 4, 1, 0] rfl) ?_
    exact ih_33 hG66 hq1 h
  · rw [if_pos c65] at h
    refine vv_iload_n 22 3 dX0_whoFits_22 rfl rfl ?_
    obtain ⟨e1, e2⟩ := sh_some2 h
    refine vv_iret 23 dX0_whoFits_23 rfl (Nat.le_refl _) (Nat.le_refl _) ⟨by rw [e1], e2⟩
def F_X0_findTelling : Nat → Nat → Nat → Int32 → Int32 → Int32 → Int32 → sh_Mem → Option sh_Mem
  | 0, _, _, _, _, _, _, _ => none
  | fuel + 1, lbl, r1, i2, i3, i4, i5, μ => match lbl with
    | 1 => (if 30 < i4 then some μ else (if 999 < ((sh_i μ r1 0) + i4) then some μ else (if (sh_i μ 208 8) ≤ 1 then some μ else F_X0_findTelling fuel 2 r1 i2 i3 i4 0 μ)))
    | 2 => (if (sh_r μ 55 0 = some (sh_ref μ 55 0) ∧ ((sh_ref μ 55 0) = 8 ∨ (sh_ref μ 55 0) = 29)) then sh_let (sh_ref μ 55 0) (fun r51 => (if (f_X5_cells μ r51) ≤ i5 then F_X0_findTelling fuel 3 r1 i2 i3 i4 0 μ else sh_bind (f_X0_mostLeft i3 i5 μ) (fun y55 μ53 => (if (sh_i μ53 208 8) ≤ y55 then F_X0_findTelling fuel 2 r1 i2 i3 i4 (i5 + 1) μ53 else sh_let (sh_setI μ53 208 6 i4) (fun μ57 => sh_let (sh_setI μ57 208 7 i5) (fun μ58 => sh_let (sh_setI μ58 208 8 y55) (fun μ59 => F_X0_findTelling fuel 2 r1 i2 i3 i4 (i5 + 1) μ59))))))) else none)
    | 3 => (if (sh_r μ 55 0 = some (sh_ref μ 55 0) ∧ ((sh_ref μ 55 0) = 8 ∨ (sh_ref μ 55 0) = 29)) then sh_let (sh_ref μ 55 0) (fun r61 => (if (sh_i μ r61 3) ≤ i5 then F_X0_findTelling fuel 1 r1 i2 i3 (i4 + 1) 0 μ else (if sh_in i5 7 then sh_bindv (f_X10_passDay (218 + 6 * i5.toNatClampNeg) 0 μ) (fun μ64 => F_X0_findTelling fuel 3 r1 i2 i3 i4 (i5 + 1) μ64) else none))) else none)
    | _ => none
def f_X0_findTelling (q1 : Nat) (a2 : Int32) (a3 : Int32) (μ : sh_Mem) : Option sh_Mem := sh_let (sh_setI μ 208 6 0) (fun μ67 => sh_let (sh_setI μ67 208 7 0) (fun μ68 => sh_let (sh_setI μ68 208 8 8) (fun μ69 => sh_bindv (f_X0_askEach q1 a2 μ69) (fun μ70 => F_X0_findTelling 1000000 1 q1 a2 a3 0 0 μ70))))
theorem gpl_X0_findTelling (fuel : Nat) : (∀ ⦃r1 : Nat⦄ ⦃i2 : Int32⦄ ⦃i3 : Int32⦄ ⦃i4 : Int32⦄ ⦃i5 : Int32⦄ ⦃μ μ' : sh_Mem⦄, sh_G μ → sh_isL r1 → F_X0_findTelling fuel 1 r1 i2 i3 i4 i5 μ = some μ' → sh_G μ') ∧ (∀ ⦃r1 : Nat⦄ ⦃i2 : Int32⦄ ⦃i3 : Int32⦄ ⦃i4 : Int32⦄ ⦃i5 : Int32⦄ ⦃μ μ' : sh_Mem⦄, sh_G μ → sh_isL r1 → F_X0_findTelling fuel 2 r1 i2 i3 i4 i5 μ = some μ' → sh_G μ') ∧ (∀ ⦃r1 : Nat⦄ ⦃i2 : Int32⦄ ⦃i3 : Int32⦄ ⦃i4 : Int32⦄ ⦃i5 : Int32⦄ ⦃μ μ' : sh_Mem⦄, sh_G μ → sh_isL r1 → F_X0_findTelling fuel 3 r1 i2 i3 i4 i5 μ = some μ' → sh_G μ') := by
  induction fuel with
  | zero => exact ⟨(by intro r1 i2 i3 i4 i5 μ μ' hG hr1 h; cases h), (by intro r1 i2 i3 i4 i5 μ μ' hG hr1 h; cases h), (by intro r1 i2 i3 i4 i5 μ μ' hG hr1 h; cases h)⟩
  | succ fuel ih =>
    obtain ⟨ih_25, ih_56, ih_116⟩ := ih
    refine ⟨?_, ?_, ?_⟩
    · intro r1 i2 i3 i4 i5 μ μ' hG hr1 h
      replace h : ((if 30 < i4 then some μ else (if 999 < ((sh_i μ r1 0) + i4) then some μ else (if (sh_i μ 208 8) ≤ 1 then some μ else F_X0_findTelling fuel 2 r1 i2 i3 i4 0 μ))) : Option sh_Mem) = some μ' := h
      by_cases c47 : 30 < i4
      · rw [if_pos c47] at h
        have e2 := Option.some.inj h
        exact e2 ▸ hG
      · rw [if_neg c47] at h
        by_cases c48 : 999 < ((sh_i μ r1 0) + i4)
        · rw [if_pos c48] at h
          have e2 := Option.some.inj h
          exact e2 ▸ hG
        · rw [if_neg c48] at h
          by_cases c49 : (sh_i μ 208 8) ≤ 1
          · rw [if_pos c49] at h
            have e2 := Option.some.inj h
            exact e2 ▸ hG
          · rw [if_neg c49] at h
            exact ih_56 hG hr1 h
    · intro r1 i2 i3 i4 i5 μ μ' hG hr1 h
      replace h : ((if (sh_r μ 55 0 = some (sh_ref μ 55 0) ∧ ((sh_ref μ 55 0) = 8 ∨ (sh_ref μ 55 0) = 29)) then sh_let (sh_ref μ 55 0) (fun r51 => (if (f_X5_cells μ r51) ≤ i5 then F_X0_findTelling fuel 3 r1 i2 i3 i4 0 μ else sh_bind (f_X0_mostLeft i3 i5 μ) (fun y55 μ53 => (if (sh_i μ53 208 8) ≤ y55 then F_X0_findTelling fuel 2 r1 i2 i3 i4 (i5 + 1) μ53 else sh_let (sh_setI μ53 208 6 i4) (fun μ57 => sh_let (sh_setI μ57 208 7 i5) (fun μ58 => sh_let (sh_setI μ58 208 8 y55) (fun μ59 => F_X0_findTelling fuel 2 r1 i2 i3 i4 (i5 + 1) μ59))))))) else none) : Option sh_Mem) = some μ' := h
      obtain ⟨k50, h⟩ := sh_chk h
      obtain ⟨r51, er51⟩ : ∃ y : Nat, y = (sh_ref μ 55 0) := ⟨_, rfl⟩
      rw [sh_let_eq er51] at h
      have k50r : sh_r μ 55 0 = some r51 ∧ (r51 = 8 ∨ r51 = 29) := by rw [er51]; exact k50
      by_cases c52 : (f_X5_cells μ r51) ≤ i5
      · rw [if_pos c52] at h
        exact ih_116 hG hr1 h
      · rw [if_neg c52] at h
        obtain ⟨y55, μ53, hr54, h⟩ := sh_bind_e h
        have hG53 := gp_X0_mostLeft hG hr54
        by_cases c56 : (sh_i μ53 208 8) ≤ y55
        · rw [if_pos c56] at h
          exact ih_56 hG53 hr1 h
        · rw [if_neg c56] at h
          obtain ⟨μ57, eμ57⟩ : ∃ y : sh_Mem, y = (sh_setI μ53 208 6 i4) := ⟨_, rfl⟩
          rw [sh_let_eq eμ57] at h
          have hG57 : sh_G μ57 := by rw [eμ57]; exact hG53
          obtain ⟨μ58, eμ58⟩ : ∃ y : sh_Mem, y = (sh_setI μ57 208 7 i5) := ⟨_, rfl⟩
          rw [sh_let_eq eμ58] at h
          have hG58 : sh_G μ58 := by rw [eμ58]; exact hG57
          obtain ⟨μ59, eμ59⟩ : ∃ y : sh_Mem, y = (sh_setI μ58 208 8 y55) := ⟨_, rfl⟩
          rw [sh_let_eq eμ59] at h
          have hG59 : sh_G μ59 := by rw [eμ59]; exact hG58
          exact ih_56 hG59 hr1 h
    · intro r1 i2 i3 i4 i5 μ μ' hG hr1 h
      replace h : ((if (sh_r μ 55 0 = some (sh_ref μ 55 0) ∧ ((sh_ref μ 55 0) = 8 ∨ (sh_ref μ 55 0) = 29)) then sh_let (sh_ref μ 55 0) (fun r61 => (if (sh_i μ r61 3) ≤ i5 then F_X0_findTelling fuel 1 r1 i2 i3 (i4 + 1) 0 μ else (if sh_in i5 7 then sh_bindv (f_X10_passDay (218 + 6 * i5.toNatClampNeg) 0 μ) (fun μ64 => F_X0_findTelling fuel 3 r1 i2 i3 i4 (i5 + 1) μ64) else none))) else none) : Option sh_Mem) = some μ' := h
      obtain ⟨k60, h⟩ := sh_chk h
      obtain ⟨r61, er61⟩ : ∃ y : Nat, y = (sh_ref μ 55 0) := ⟨_, rfl⟩
      rw [sh_let_eq er61] at h
      have k60r : sh_r μ 55 0 = some r61 ∧ (r61 = 8 ∨ r61 = 29) := by rw [er61]; exact k60
      by_cases c62 : (sh_i μ r61 3) ≤ i5
      · rw [if_pos c62] at h
        exact ih_25 hG hr1 h
      · rw [if_neg c62] at h
        obtain ⟨k63, h⟩ := sh_chk h
        obtain ⟨μ64, hr65, h⟩ := sh_bindv_e h
        have hG64 := gp_X10_passDay hG (gRL_215 k63) hr65
        exact ih_116 hG64 hr1 h
theorem tl_X0_findTelling (fuel : Nat) : (∀ ⦃r1 : Nat⦄ ⦃i2 : Int32⦄ ⦃i3 : Int32⦄ ⦃i4 : Int32⦄ ⦃i5 : Int32⦄ ⦃μ μ' : sh_Mem⦄, sh_G μ → sh_isL r1 → F_X0_findTelling fuel 1 r1 i2 i3 i4 i5 μ = some μ' → sh_V0 l B D ca 7 M_X0_findTelling 25 [(0, .ref 208), (1, .ref r1), (2, .int i2), (3, .int i3), (4, .int i4)] [] μ (fun v0 μ0 => v0 = none ∧ μ0 = μ')) ∧ (∀ ⦃r1 : Nat⦄ ⦃i2 : Int32⦄ ⦃i3 : Int32⦄ ⦃i4 : Int32⦄ ⦃i5 : Int32⦄ ⦃μ μ' : sh_Mem⦄, sh_G μ → sh_isL r1 → F_X0_findTelling fuel 2 r1 i2 i3 i4 i5 μ = some μ' → sh_V0 l B D ca 7 M_X0_findTelling 56 [(0, .ref 208), (1, .ref r1), (2, .int i2), (3, .int i3), (4, .int i4), (5, .int i5)] [] μ (fun v0 μ0 => v0 = none ∧ μ0 = μ')) ∧ (∀ ⦃r1 : Nat⦄ ⦃i2 : Int32⦄ ⦃i3 : Int32⦄ ⦃i4 : Int32⦄ ⦃i5 : Int32⦄ ⦃μ μ' : sh_Mem⦄, sh_G μ → sh_isL r1 → F_X0_findTelling fuel 3 r1 i2 i3 i4 i5 μ = some μ' → sh_V0 l B D ca 7 M_X0_findTelling 116 [(0, .ref 208), (1, .ref r1), (2, .int i2), (3, .int i3), (4, .int i4), (5, .int i5)] [] μ (fun v0 μ0 => v0 = none ∧ μ0 = μ')) := by
  induction fuel with
  | zero => exact ⟨(by intro r1 i2 i3 i4 i5 μ μ' hG hr1 h; cases h), (by intro r1 i2 i3 i4 i5 μ μ' hG hr1 h; cases h), (by intro r1 i2 i3 i4 i5 μ μ' hG hr1 h; cases h)⟩
  | succ fuel ih =>
    obtain ⟨ih_25, ih_56, ih_116⟩ := ih
    refine ⟨?_, ?_, ?_⟩
    · intro r1 i2 i3 i4 i5 μ μ' hG hr1 h
      replace h : ((if 30 < i4 then some μ else (if 999 < ((sh_i μ r1 0) + i4) then some μ else (if (sh_i μ 208 8) ≤ 1 then some μ else F_X0_findTelling fuel 2 r1 i2 i3 i4 0 μ))) : Option sh_Mem) = some μ' := h
      refine vv_iload 25 4 dX0_findTelling_25 rfl ?_
      refine vv_bipush 27 dX0_findTelling_27 bk_30 ?_
      refine vv_icmp_gt 29 158 dX0_findTelling_29 (by decide) (fun c47 => ?_) (fun c47 => ?_)
      · rw [if_pos c47] at h
        have e2 := Option.some.inj h
        refine vv_vret 158 dX0_findTelling_158 rfl (Nat.le_refl _) (Nat.le_refl _) ⟨rfl, e2⟩
      · rw [if_neg c47] at h
        refine vv_aload_n 32 1 dX0_findTelling_32 rfl rfl ?_
        refine vv_getI 33 dX0_findTelling_33 fl_0_43 rfl (gL_l hG hr1) ?_
        refine vv_iload 36 4 dX0_findTelling_36 rfl ?_
        refine vv_iadd 38 dX0_findTelling_38 ?_
        refine vv_sipush 39 dX0_findTelling_39 sk_999 ?_
        refine vv_icmp_gt 42 158 dX0_findTelling_42 (by decide) (fun c48 => ?_) (fun c48 => ?_)
        · rw [if_pos c48] at h
          have e2 := Option.some.inj h
          refine vv_vret 158 dX0_findTelling_158 rfl (Nat.le_refl _) (Nat.le_refl _) ⟨rfl, e2⟩
        · rw [if_neg c48] at h
          refine vv_aload_n 45 0 dX0_findTelling_45 rfl rfl ?_
          refine vv_getI 46 dX0_findTelling_46 fl_0_89 rfl (g_l_208 hG) ?_
          refine vv_iconst 49 dX0_findTelling_49 ik_1 ?_
          refine vv_icmp_le 50 158 dX0_findTelling_50 (by decide) (fun c49 => ?_) (fun c49 => ?_)
          · rw [if_pos c49] at h
            have e2 := Option.some.inj h
            refine vv_vret 158 dX0_findTelling_158 rfl (Nat.le_refl _) (Nat.le_refl _) ⟨rfl, e2⟩
          · rw [if_neg c49] at h
            refine vv_iconst 53 dX0_findTelling_53 ik_0 ?_
            refine vv_istore (lv' := [(5, _), (0, _), (1, _), (2, _), (3, _), (4, _)]) 54 5 dX0_findTelling_54 (by decide) rfl ?_
            refine vv_sub [(0, _), (1, _), (2, _), (3, _), (4, _), (5, _)] (sh_subm [1, 2, 3, 4, 5, 0] rfl) ?_
            exact ih_56 hG hr1 h
    · intro r1 i2 i3 i4 i5 μ μ' hG hr1 h
      replace h : ((if (sh_r μ 55 0 = some (sh_ref μ 55 0) ∧ ((sh_ref μ 55 0) = 8 ∨ (sh_ref μ 55 0) = 29)) then sh_let (sh_ref μ 55 0) (fun r51 => (if (f_X5_cells μ r51) ≤ i5 then F_X0_findTelling fuel 3 r1 i2 i3 i4 0 μ else sh_bind (f_X0_mostLeft i3 i5 μ) (fun y55 μ53 => (if (sh_i μ53 208 8) ≤ y55 then F_X0_findTelling fuel 2 r1 i2 i3 i4 (i5 + 1) μ53 else sh_let (sh_setI μ53 208 6 i4) (fun μ57 => sh_let (sh_setI μ57 208 7 i5) (fun μ58 => sh_let (sh_setI μ58 208 8 y55) (fun μ59 => F_X0_findTelling fuel 2 r1 i2 i3 i4 (i5 + 1) μ59))))))) else none) : Option sh_Mem) = some μ' := h
      refine vv_iload 56 5 dX0_findTelling_56 rfl ?_
      refine vv_aload_n 58 0 dX0_findTelling_58 rfl rfl ?_
      refine vv_getR 59 dX0_findTelling_59 fl_0_29 rfl (g_l_208 hG) (g_r_208_0 hG) ?_
      obtain ⟨k50, h⟩ := sh_chk h
      refine vv_getR 62 dX0_findTelling_62 fl_0_50 rfl (g_l_55 hG) k50.1 ?_
      refine vv_topr (fun r51 er51 => ?_)
      rw [sh_let_eq er51] at h
      have k50r : sh_r μ 55 0 = some r51 ∧ (r51 = 8 ∨ r51 = 29) := by rw [er51]; exact k50
      refine v1_callV [] 65 dX0_findTelling_65 ck_X0_92 (gP_l hG k50r.2) ⟨by decide, rfl⟩ (c_X5_cells (μ := μ) hG k50r.2) (Nat.le_of_ble_eq_true rfl) ⟨Nat.le_of_ble_eq_true rfl, Nat.le_of_ble_eq_true rfl⟩ rfl (Nat.le_of_ble_eq_true rfl) ?_
      refine vv_icmp_ge 68 113 dX0_findTelling_68 (by decide) (fun c52 => ?_) (fun c52 => ?_)
      · rw [if_pos c52] at h
        refine vv_iconst 113 dX0_findTelling_113 ik_0 ?_
        refine vv_istore (lv' := [(5, _), (0, _), (1, _), (2, _), (3, _), (4, _)]) 114 5 dX0_findTelling_114 (by decide) rfl ?_
        refine vv_sub [(0, _), (1, _), (2, _), (3, _), (4, _), (5, _)] (sh_subm [1, 2, 3, 4, 5, 0] rfl) ?_
        exact ih_116 hG hr1 h
      · rw [if_neg c52] at h
        refine vv_aload_n 71 0 dX0_findTelling_71 rfl rfl ?_
        refine vv_iload_n 72 3 dX0_findTelling_72 rfl rfl ?_
        refine vv_iload 73 5 dX0_findTelling_73 rfl ?_
        obtain ⟨y55, μ53, hr54, h⟩ := sh_bind_e h
        refine v1_callV [_, _] 75 dX0_findTelling_75 ck_X0_96 (g_l_208 hG) ⟨by decide, rfl⟩ (t_X0_mostLeft hG hr54) (Nat.le_of_ble_eq_true rfl) ⟨Nat.le_of_ble_eq_true rfl, Nat.le_of_ble_eq_true rfl⟩ rfl (Nat.le_of_ble_eq_true rfl) ?_
        have hG53 := gp_X0_mostLeft hG hr54
        refine vv_istore (lv' := [(6, _), (0, _), (1, _), (2, _), (3, _), (4, _), (5, _)]) 78 6 dX0_findTelling_78 (by decide) rfl ?_
        refine vv_iload 80 6 dX0_findTelling_80 rfl ?_
        refine vv_aload_n 82 0 dX0_findTelling_82 rfl rfl ?_
        refine vv_getI 83 dX0_findTelling_83 fl_0_89 rfl (g_l_208 hG53) ?_
        refine vv_icmp_ge 86 107 dX0_findTelling_86 (by decide) (fun c56 => ?_) (fun c56 => ?_)
        · rw [if_pos c56] at h
          refine vv_iincc (lv' := [(5, _), (6, _), (0, _), (1, _), (2, _), (3, _), (4, _)]) 107 5 dX0_findTelling_107 rfl ik_1 (by decide) rfl ?_
          refine vv_goto 110 56 dX0_findTelling_110 (by decide) ?_
          refine vv_sub [(0, _), (1, _), (2, _), (3, _), (4, _), (5, _)] (sh_subm [2, 3, 4, 5, 6, 0] rfl) ?_
          exact ih_56 hG53 hr1 h
        · rw [if_neg c56] at h
          refine vv_aload_n 89 0 dX0_findTelling_89 rfl rfl ?_
          refine vv_iload 90 4 dX0_findTelling_90 rfl ?_
          refine vn_putI 92 dX0_findTelling_92 fl_0_83 (Or.inl rfl) rfl (g_l_208 hG53) (fun μ57 eμ57 => ?_)
          rw [sh_let_eq eμ57] at h
          have hG57 : sh_G μ57 := by rw [eμ57]; exact hG53
          refine vv_aload_n 95 0 dX0_findTelling_95 rfl rfl ?_
          refine vv_iload 96 5 dX0_findTelling_96 rfl ?_
          refine vn_putI 98 dX0_findTelling_98 fl_0_86 (Or.inl rfl) rfl (g_l_208 hG57) (fun μ58 eμ58 => ?_)
          rw [sh_let_eq eμ58] at h
          have hG58 : sh_G μ58 := by rw [eμ58]; exact hG57
          refine vv_aload_n 101 0 dX0_findTelling_101 rfl rfl ?_
          refine vv_iload 102 6 dX0_findTelling_102 rfl ?_
          refine vn_putI 104 dX0_findTelling_104 fl_0_89 (Or.inl rfl) rfl (g_l_208 hG58) (fun μ59 eμ59 => ?_)
          rw [sh_let_eq eμ59] at h
          have hG59 : sh_G μ59 := by rw [eμ59]; exact hG58
          refine vv_iincc (lv' := [(5, _), (6, _), (0, _), (1, _), (2, _), (3, _), (4, _)]) 107 5 dX0_findTelling_107 rfl ik_1 (by decide) rfl ?_
          refine vv_goto 110 56 dX0_findTelling_110 (by decide) ?_
          refine vv_sub [(0, _), (1, _), (2, _), (3, _), (4, _), (5, _)] (sh_subm [2, 3, 4, 5, 6, 0] rfl) ?_
          exact ih_56 hG59 hr1 h
    · intro r1 i2 i3 i4 i5 μ μ' hG hr1 h
      replace h : ((if (sh_r μ 55 0 = some (sh_ref μ 55 0) ∧ ((sh_ref μ 55 0) = 8 ∨ (sh_ref μ 55 0) = 29)) then sh_let (sh_ref μ 55 0) (fun r61 => (if (sh_i μ r61 3) ≤ i5 then F_X0_findTelling fuel 1 r1 i2 i3 (i4 + 1) 0 μ else (if sh_in i5 7 then sh_bindv (f_X10_passDay (218 + 6 * i5.toNatClampNeg) 0 μ) (fun μ64 => F_X0_findTelling fuel 3 r1 i2 i3 i4 (i5 + 1) μ64) else none))) else none) : Option sh_Mem) = some μ' := h
      refine vv_iload 116 5 dX0_findTelling_116 rfl ?_
      refine vv_aload_n 118 0 dX0_findTelling_118 rfl rfl ?_
      refine vv_getR 119 dX0_findTelling_119 fl_0_29 rfl (g_l_208 hG) (g_r_208_0 hG) ?_
      obtain ⟨k60, h⟩ := sh_chk h
      refine vv_getR 122 dX0_findTelling_122 fl_0_50 rfl (g_l_55 hG) k60.1 ?_
      refine vv_topr (fun r61 er61 => ?_)
      rw [sh_let_eq er61] at h
      have k60r : sh_r μ 55 0 = some r61 ∧ (r61 = 8 ∨ r61 = 29) := by rw [er61]; exact k60
      refine vv_getI 125 dX0_findTelling_125 fl_0_54 rfl (gP_l hG k60r.2) ?_
      refine vv_icmp_ge 128 152 dX0_findTelling_128 (by decide) (fun c62 => ?_) (fun c62 => ?_)
      · rw [if_pos c62] at h
        refine vv_iincc (lv' := [(4, _), (0, _), (1, _), (2, _), (3, _), (5, _)]) 152 4 dX0_findTelling_152 rfl ik_1 (by decide) rfl ?_
        refine vv_goto 155 25 dX0_findTelling_155 (by decide) ?_
        refine vv_sub [(0, _), (1, _), (2, _), (3, _), (4, _)] (sh_subm [1, 2, 3, 4, 0] rfl) ?_
        exact ih_25 hG hr1 h
      · rw [if_neg c62] at h
        refine vv_aload_n 131 0 dX0_findTelling_131 rfl rfl ?_
        refine vv_getR 132 dX0_findTelling_132 fl_0_29 rfl (g_l_208 hG) (g_r_208_0 hG) ?_
        refine vv_aload_n 135 0 dX0_findTelling_135 rfl rfl ?_
        refine vv_getR 136 dX0_findTelling_136 fl_0_18 rfl (g_l_208 hG) (g_r_208_2 hG) ?_
        refine vv_iload 139 5 dX0_findTelling_139 rfl ?_
        obtain ⟨k63, h⟩ := sh_chk h
        refine vv_aald 141 dX0_findTelling_141 (g_l_215 hG) k63 (gR_215 hG k63) ?_
        refine vv_iconst 142 dX0_findTelling_142 ik_0 ?_
        obtain ⟨μ64, hr65, h⟩ := sh_bindv_e h
        refine v1_callV [_, _] 143 dX0_findTelling_143 ck_X0_37 (g_l_55 hG) ⟨by decide, rfl⟩ (t_X10_passDay hG (gRL_215 k63) hr65) (Nat.le_of_ble_eq_true rfl) ⟨Nat.le_of_ble_eq_true rfl, Nat.le_of_ble_eq_true rfl⟩ rfl (Nat.le_of_ble_eq_true rfl) ?_
        have hG64 := gp_X10_passDay hG (gRL_215 k63) hr65
        refine vv_iincc (lv' := [(5, _), (0, _), (1, _), (2, _), (3, _), (4, _)]) 146 5 dX0_findTelling_146 rfl ik_1 (by decide) rfl ?_
        refine vv_goto 149 116 dX0_findTelling_149 (by decide) ?_
        refine vv_sub [(0, _), (1, _), (2, _), (3, _), (4, _), (5, _)] (sh_subm [1, 2, 3, 4, 5, 0] rfl) ?_
        exact ih_116 hG64 hr1 h
theorem gp_X0_findTelling {q1 : Nat} {a2 : Int32} {a3 : Int32} {μ μ' : sh_Mem} (hG : sh_G μ) (hq1 : sh_isL q1) (h : f_X0_findTelling q1 a2 a3 μ = some μ') : sh_G μ' := by
  have ih_25 := (gpl_X0_findTelling 1000000).1
  have ih_56 := (gpl_X0_findTelling 1000000).2.1
  have ih_116 := (gpl_X0_findTelling 1000000).2.2
  unfold f_X0_findTelling at h
  obtain ⟨μ67, eμ67⟩ : ∃ y : sh_Mem, y = (sh_setI μ 208 6 0) := ⟨_, rfl⟩
  rw [sh_let_eq eμ67] at h
  have hG67 : sh_G μ67 := by rw [eμ67]; exact hG
  obtain ⟨μ68, eμ68⟩ : ∃ y : sh_Mem, y = (sh_setI μ67 208 7 0) := ⟨_, rfl⟩
  rw [sh_let_eq eμ68] at h
  have hG68 : sh_G μ68 := by rw [eμ68]; exact hG67
  obtain ⟨μ69, eμ69⟩ : ∃ y : sh_Mem, y = (sh_setI μ68 208 8 8) := ⟨_, rfl⟩
  rw [sh_let_eq eμ69] at h
  have hG69 : sh_G μ69 := by rw [eμ69]; exact hG68
  obtain ⟨μ70, hr71, h⟩ := sh_bindv_e h
  have hG70 := gp_X0_askEach hG69 hq1 hr71
  exact ih_25 hG70 hq1 h
theorem t_X0_findTelling {q1 : Nat} {a2 : Int32} {a3 : Int32} {μ μ' : sh_Mem} (hG : sh_G μ) (hq1 : sh_isL q1) (h : f_X0_findTelling q1 a2 a3 μ = some μ') : sh_C0 l B D ca 7 M_X0_findTelling [.ref 208, .ref q1, .int a2, .int a3] μ (fun v0 μ0 => v0 = none ∧ μ0 = μ') := by
  have ih_25 := (tl_X0_findTelling (l := l) (B := B) (D := D) (ca := ca) 1000000).1
  have ih_56 := (tl_X0_findTelling (l := l) (B := B) (D := D) (ca := ca) 1000000).2.1
  have ih_116 := (tl_X0_findTelling (l := l) (B := B) (D := D) (ca := ca) 1000000).2.2
  unfold f_X0_findTelling at h
  refine vv_aload_n 0 0 dX0_findTelling_0 rfl rfl ?_
  refine vv_iconst 1 dX0_findTelling_1 ik_0 ?_
  refine vn_putI 2 dX0_findTelling_2 fl_0_83 (Or.inl rfl) rfl (g_l_208 hG) (fun μ67 eμ67 => ?_)
  rw [sh_let_eq eμ67] at h
  have hG67 : sh_G μ67 := by rw [eμ67]; exact hG
  refine vv_aload_n 5 0 dX0_findTelling_5 rfl rfl ?_
  refine vv_iconst 6 dX0_findTelling_6 ik_0 ?_
  refine vn_putI 7 dX0_findTelling_7 fl_0_86 (Or.inl rfl) rfl (g_l_208 hG67) (fun μ68 eμ68 => ?_)
  rw [sh_let_eq eμ68] at h
  have hG68 : sh_G μ68 := by rw [eμ68]; exact hG67
  refine vv_aload_n 10 0 dX0_findTelling_10 rfl rfl ?_
  refine vv_bipush 11 dX0_findTelling_11 bk_8 ?_
  refine vn_putI 13 dX0_findTelling_13 fl_0_89 (Or.inl rfl) rfl (g_l_208 hG68) (fun μ69 eμ69 => ?_)
  rw [sh_let_eq eμ69] at h
  have hG69 : sh_G μ69 := by rw [eμ69]; exact hG68
  refine vv_aload_n 16 0 dX0_findTelling_16 rfl rfl ?_
  refine vv_aload_n 17 1 dX0_findTelling_17 rfl rfl ?_
  refine vv_iload_n 18 2 dX0_findTelling_18 rfl rfl ?_
  obtain ⟨μ70, hr71, h⟩ := sh_bindv_e h
  refine v1_callV [_, _] 19 dX0_findTelling_19 ck_X0_76 (g_l_208 hG69) ⟨by decide, rfl⟩ (t_X0_askEach hG69 hq1 hr71) (Nat.le_of_ble_eq_true rfl) ⟨Nat.le_of_ble_eq_true rfl, Nat.le_of_ble_eq_true rfl⟩ rfl (Nat.le_of_ble_eq_true rfl) ?_
  have hG70 := gp_X0_askEach hG69 hq1 hr71
  refine vv_iconst 22 dX0_findTelling_22 ik_0 ?_
  refine vv_istore (lv' := [(4, _), (0, _), (1, _), (2, _), (3, _)]) 23 4 dX0_findTelling_23 (by decide) rfl ?_
  refine vv_sub [(0, _), (1, _), (2, _), (3, _), (4, _)] (sh_subm [1, 2, 3, 4, 0] rfl) ?_
  exact ih_25 hG70 hq1 h
def F_X10_describe : Nat → Nat → Nat → Int32 → Nat → Int32 → Int32 → sh_Mem → Option sh_Mem
  | 0, _, _, _, _, _, _, _ => none
  | fuel + 1, lbl, r1, i2, r3, i4, i5, μ => match lbl with
    | 1 => (if 5 ≤ i5 then some μ else (if sh_in (33 + i5) 38 then sh_let (sh_setI μ r3 ((33 + i5)).toNatClampNeg 0) (fun μ28 => (if i4 = 0 then F_X10_describe fuel 1 r1 i2 r3 i4 (i5 + 1) μ28 else (if (sh_r μ28 55 0 = some (sh_ref μ28 55 0) ∧ ((sh_ref μ28 55 0) = 8 ∨ (sh_ref μ28 55 0) = 29)) then sh_let (sh_ref μ28 55 0) (fun r31 => (if (sh_i μ28 r31 2) ≤ i5 then F_X10_describe fuel 1 r1 i2 r3 i4 (i5 + 1) μ28 else sh_bindv (f_X3_copyFrom 57 r1 μ28) (fun μ33 => sh_bind (f_X10_asked 57 i2 i5 μ33) (fun y38 μ36 => (if sh_in (33 + i5) 38 then sh_let (sh_setI μ36 r3 ((33 + i5)).toNatClampNeg (sh_i μ36 55 1)) (fun μ40 => F_X10_describe fuel 1 r1 i2 r3 i4 (i5 + 1) μ40) else none))))) else none))) else none))
    | _ => none
def f_X10_describe (q1 : Nat) (a2 : Int32) (g : Nat) (a4 : Int32) (μ : sh_Mem) : Option sh_Mem := sh_bindv (f_X10_gather q1 a2 g μ) (fun μ41 => sh_let (sh_setI μ41 g (Int32.toNatClampNeg 18) a2) (fun μ44 => (if sh_in a2 7 then sh_let (sh_setI μ44 g (Int32.toNatClampNeg 19) (sh_i μ44 (q1 + 2) a2.toNatClampNeg)) (fun μ46 => (if sh_in a2 7 then sh_let (sh_setI μ46 g (Int32.toNatClampNeg 20) (sh_i μ46 (q1 + 3) a2.toNatClampNeg)) (fun μ48 => (if sh_in a2 7 then sh_let (sh_setI μ48 g (Int32.toNatClampNeg 7) (sh_i μ48 (q1 + 5) a2.toNatClampNeg)) (fun μ50 => F_X10_describe 1000000 1 q1 a2 g a4 0 μ50) else none)) else none)) else none)))
theorem gpl_X10_describe (fuel : Nat) : (∀ ⦃r1 : Nat⦄ ⦃i2 : Int32⦄ ⦃r3 : Nat⦄ ⦃i4 : Int32⦄ ⦃i5 : Int32⦄ ⦃μ μ' : sh_Mem⦄, sh_G μ → sh_isL r1 → sh_LAY[r3]? = some (13, 38) → F_X10_describe fuel 1 r1 i2 r3 i4 i5 μ = some μ' → sh_G μ') := by
  induction fuel with
  | zero => intro r1 i2 r3 i4 i5 μ μ' hG hr1 hr3 h; cases h
  | succ fuel ih =>
    have ih_45 := ih
    intro r1 i2 r3 i4 i5 μ μ' hG hr1 hr3 h
    replace h : ((if 5 ≤ i5 then some μ else (if sh_in (33 + i5) 38 then sh_let (sh_setI μ r3 ((33 + i5)).toNatClampNeg 0) (fun μ28 => (if i4 = 0 then F_X10_describe fuel 1 r1 i2 r3 i4 (i5 + 1) μ28 else (if (sh_r μ28 55 0 = some (sh_ref μ28 55 0) ∧ ((sh_ref μ28 55 0) = 8 ∨ (sh_ref μ28 55 0) = 29)) then sh_let (sh_ref μ28 55 0) (fun r31 => (if (sh_i μ28 r31 2) ≤ i5 then F_X10_describe fuel 1 r1 i2 r3 i4 (i5 + 1) μ28 else sh_bindv (f_X3_copyFrom 57 r1 μ28) (fun μ33 => sh_bind (f_X10_asked 57 i2 i5 μ33) (fun y38 μ36 => (if sh_in (33 + i5) 38 then sh_let (sh_setI μ36 r3 ((33 + i5)).toNatClampNeg (sh_i μ36 55 1)) (fun μ40 => F_X10_describe fuel 1 r1 i2 r3 i4 (i5 + 1) μ40) else none))))) else none))) else none)) : Option sh_Mem) = some μ' := h
    by_cases c26 : 5 ≤ i5
    · rw [if_pos c26] at h
      have e2 := Option.some.inj h
      exact e2 ▸ hG
    · rw [if_neg c26] at h
      obtain ⟨k27, h⟩ := sh_chk h
      obtain ⟨μ28, eμ28⟩ : ∃ y : sh_Mem, y = (sh_setI μ r3 ((33 + i5)).toNatClampNeg 0) := ⟨_, rfl⟩
      rw [sh_let_eq eμ28] at h
      have hG28 : sh_G μ28 := by rw [eμ28]; exact hG
      by_cases c29 : i4 = 0
      · rw [if_pos c29] at h
        exact ih_45 hG28 hr1 hr3 h
      · rw [if_neg c29] at h
        obtain ⟨k30, h⟩ := sh_chk h
        obtain ⟨r31, er31⟩ : ∃ y : Nat, y = (sh_ref μ28 55 0) := ⟨_, rfl⟩
        rw [sh_let_eq er31] at h
        have k30r : sh_r μ28 55 0 = some r31 ∧ (r31 = 8 ∨ r31 = 29) := by rw [er31]; exact k30
        by_cases c32 : (sh_i μ28 r31 2) ≤ i5
        · rw [if_pos c32] at h
          exact ih_45 hG28 hr1 hr3 h
        · rw [if_neg c32] at h
          obtain ⟨μ33, hr34, h⟩ := sh_bindv_e h
          have hG33 := gp_X3_copyFrom hG28 sh_isL_57 hr1 hr34
          obtain ⟨y38, μ36, hr37, h⟩ := sh_bind_e h
          have hG36 := gp_X10_asked hG33 sh_isL_57 hr37
          obtain ⟨k39, h⟩ := sh_chk h
          obtain ⟨μ40, eμ40⟩ : ∃ y : sh_Mem, y = (sh_setI μ36 r3 ((33 + i5)).toNatClampNeg (sh_i μ36 55 1)) := ⟨_, rfl⟩
          rw [sh_let_eq eμ40] at h
          have hG40 : sh_G μ40 := by rw [eμ40]; exact hG36
          exact ih_45 hG40 hr1 hr3 h
theorem tl_X10_describe (fuel : Nat) : (∀ ⦃r1 : Nat⦄ ⦃i2 : Int32⦄ ⦃r3 : Nat⦄ ⦃i4 : Int32⦄ ⦃i5 : Int32⦄ ⦃μ μ' : sh_Mem⦄, sh_G μ → sh_isL r1 → sh_LAY[r3]? = some (13, 38) → F_X10_describe fuel 1 r1 i2 r3 i4 i5 μ = some μ' → sh_V0 l B D ca 6 M_X10_describe 45 [(0, .ref 55), (1, .ref r1), (2, .int i2), (3, .ref r3), (4, .int i4), (5, .int i5)] [] μ (fun v0 μ0 => v0 = none ∧ μ0 = μ')) := by
  induction fuel with
  | zero => intro r1 i2 r3 i4 i5 μ μ' hG hr1 hr3 h; cases h
  | succ fuel ih =>
    have ih_45 := ih
    intro r1 i2 r3 i4 i5 μ μ' hG hr1 hr3 h
    replace h : ((if 5 ≤ i5 then some μ else (if sh_in (33 + i5) 38 then sh_let (sh_setI μ r3 ((33 + i5)).toNatClampNeg 0) (fun μ28 => (if i4 = 0 then F_X10_describe fuel 1 r1 i2 r3 i4 (i5 + 1) μ28 else (if (sh_r μ28 55 0 = some (sh_ref μ28 55 0) ∧ ((sh_ref μ28 55 0) = 8 ∨ (sh_ref μ28 55 0) = 29)) then sh_let (sh_ref μ28 55 0) (fun r31 => (if (sh_i μ28 r31 2) ≤ i5 then F_X10_describe fuel 1 r1 i2 r3 i4 (i5 + 1) μ28 else sh_bindv (f_X3_copyFrom 57 r1 μ28) (fun μ33 => sh_bind (f_X10_asked 57 i2 i5 μ33) (fun y38 μ36 => (if sh_in (33 + i5) 38 then sh_let (sh_setI μ36 r3 ((33 + i5)).toNatClampNeg (sh_i μ36 55 1)) (fun μ40 => F_X10_describe fuel 1 r1 i2 r3 i4 (i5 + 1) μ40) else none))))) else none))) else none)) : Option sh_Mem) = some μ' := h
    refine vv_iload 45 5 dX10_describe_45 rfl ?_
    refine vv_iconst 47 dX10_describe_47 ik_5 ?_
    refine vv_icmp_ge 48 113 dX10_describe_48 (by decide) (fun c26 => ?_) (fun c26 => ?_)
    · rw [if_pos c26] at h
      have e2 := Option.some.inj h
      refine vv_vret 113 dX10_describe_113 rfl (Nat.le_refl _) (Nat.le_refl _) ⟨rfl, e2⟩
    · rw [if_neg c26] at h
      refine vv_aload_n 51 3 dX10_describe_51 rfl rfl ?_
      refine vv_bipush 52 dX10_describe_52 bk_33 ?_
      refine vv_iload 54 5 dX10_describe_54 rfl ?_
      refine vv_iadd 56 dX10_describe_56 ?_
      refine vv_iconst 57 dX10_describe_57 ik_0 ?_
      obtain ⟨k27, h⟩ := sh_chk h
      refine vn_iast 58 dX10_describe_58 (gA_l hG hr3) k27 (fun μ28 eμ28 => ?_)
      rw [sh_let_eq eμ28] at h
      have hG28 : sh_G μ28 := by rw [eμ28]; exact hG
      refine vv_iload 59 4 dX10_describe_59 rfl ?_
      refine vv_if_eq 61 107 dX10_describe_61 (by decide) (fun c29 => ?_) (fun c29 => ?_)
      · rw [if_pos c29] at h
        refine vv_iincc (lv' := [(5, _), (0, _), (1, _), (2, _), (3, _), (4, _)]) 107 5 dX10_describe_107 rfl ik_1 (by decide) rfl ?_
        refine vv_goto 110 45 dX10_describe_110 (by decide) ?_
        refine vv_sub [(0, _), (1, _), (2, _), (3, _), (4, _), (5, _)] (sh_subm [1, 2, 3, 4, 5, 0] rfl) ?_
        exact ih_45 hG28 hr1 hr3 h
      · rw [if_neg c29] at h
        refine vv_iload 64 5 dX10_describe_64 rfl ?_
        refine vv_aload_n 66 0 dX10_describe_66 rfl rfl ?_
        obtain ⟨k30, h⟩ := sh_chk h
        refine vv_getR 67 dX10_describe_67 fl_10_22 rfl (g_l_55 hG28) k30.1 ?_
        refine vv_topr (fun r31 er31 => ?_)
        rw [sh_let_eq er31] at h
        have k30r : sh_r μ28 55 0 = some r31 ∧ (r31 = 8 ∨ r31 = 29) := by rw [er31]; exact k30
        refine vv_getI 70 dX10_describe_70 fl_10_61 rfl (gP_l hG28 k30r.2) ?_
        refine vv_icmp_ge 73 107 dX10_describe_73 (by decide) (fun c32 => ?_) (fun c32 => ?_)
        · rw [if_pos c32] at h
          refine vv_iincc (lv' := [(5, _), (0, _), (1, _), (2, _), (3, _), (4, _)]) 107 5 dX10_describe_107 rfl ik_1 (by decide) rfl ?_
          refine vv_goto 110 45 dX10_describe_110 (by decide) ?_
          refine vv_sub [(0, _), (1, _), (2, _), (3, _), (4, _), (5, _)] (sh_subm [1, 2, 3, 4, 5, 0] rfl) ?_
          exact ih_45 hG28 hr1 hr3 h
        · rw [if_neg c32] at h
          refine vv_aload_n 76 0 dX10_describe_76 rfl rfl ?_
          refine vv_getR 77 dX10_describe_77 fl_10_18 rfl (g_l_55 hG28) (g_r_55_3 hG28) ?_
          refine vv_aload_n 80 1 dX10_describe_80 rfl rfl ?_
          obtain ⟨μ33, hr34, h⟩ := sh_bindv_e h
          refine v1_callV [_] 81 dX10_describe_81 ck_X10_64 (g_l_57 hG28) ⟨by decide, rfl⟩ (t_X3_copyFrom hG28 sh_isL_57 hr1 hr34) (Nat.le_of_ble_eq_true rfl) ⟨Nat.le_of_ble_eq_true rfl, Nat.le_of_ble_eq_true rfl⟩ rfl (Nat.le_of_ble_eq_true rfl) ?_
          have hG33 := gp_X3_copyFrom hG28 sh_isL_57 hr1 hr34
          refine vv_aload_n 84 0 dX10_describe_84 rfl rfl ?_
          refine vv_aload_n 85 0 dX10_describe_85 rfl rfl ?_
          refine vv_getR 86 dX10_describe_86 fl_10_18 rfl (g_l_55 hG33) (g_r_55_3 hG33) ?_
          refine vv_iload_n 89 2 dX10_describe_89 rfl rfl ?_
          refine vv_iload 90 5 dX10_describe_90 rfl ?_
          obtain ⟨y38, μ36, hr37, h⟩ := sh_bind_e h
          refine v1_callV [_, _, _] 92 dX10_describe_92 ck_X10_68 (g_l_55 hG33) ⟨by decide, rfl⟩ (t_X10_asked hG33 sh_isL_57 hr37) (Nat.le_of_ble_eq_true rfl) ⟨Nat.le_of_ble_eq_true rfl, Nat.le_of_ble_eq_true rfl⟩ rfl (Nat.le_of_ble_eq_true rfl) ?_
          have hG36 := gp_X10_asked hG33 sh_isL_57 hr37
          refine vv_pop 95 dX10_describe_95 ?_
          refine vv_aload_n 96 3 dX10_describe_96 rfl rfl ?_
          refine vv_bipush 97 dX10_describe_97 bk_33 ?_
          refine vv_iload 99 5 dX10_describe_99 rfl ?_
          refine vv_iadd 101 dX10_describe_101 ?_
          refine vv_aload_n 102 0 dX10_describe_102 rfl rfl ?_
          refine vv_getI 103 dX10_describe_103 fl_10_72 rfl (g_l_55 hG36) ?_
          obtain ⟨k39, h⟩ := sh_chk h
          refine vn_iast 106 dX10_describe_106 (gA_l hG36 hr3) k39 (fun μ40 eμ40 => ?_)
          rw [sh_let_eq eμ40] at h
          have hG40 : sh_G μ40 := by rw [eμ40]; exact hG36
          refine vv_iincc (lv' := [(5, _), (0, _), (1, _), (2, _), (3, _), (4, _)]) 107 5 dX10_describe_107 rfl ik_1 (by decide) rfl ?_
          refine vv_goto 110 45 dX10_describe_110 (by decide) ?_
          refine vv_sub [(0, _), (1, _), (2, _), (3, _), (4, _), (5, _)] (sh_subm [1, 2, 3, 4, 5, 0] rfl) ?_
          exact ih_45 hG40 hr1 hr3 h
theorem gp_X10_describe {q1 : Nat} {a2 : Int32} {g : Nat} {a4 : Int32} {μ μ' : sh_Mem} (hG : sh_G μ) (hq1 : sh_isL q1) (hg : sh_LAY[g]? = some (13, 38)) (h : f_X10_describe q1 a2 g a4 μ = some μ') : sh_G μ' := by
  have ih_45 := (gpl_X10_describe 1000000)
  unfold f_X10_describe at h
  obtain ⟨μ41, hr42, h⟩ := sh_bindv_e h
  have hG41 := gp_X10_gather hG hq1 hg hr42
  obtain ⟨μ44, eμ44⟩ : ∃ y : sh_Mem, y = (sh_setI μ41 g (Int32.toNatClampNeg 18) a2) := ⟨_, rfl⟩
  rw [sh_let_eq eμ44] at h
  have hG44 : sh_G μ44 := by rw [eμ44]; exact hG41
  obtain ⟨k45, h⟩ := sh_chk h
  obtain ⟨μ46, eμ46⟩ : ∃ y : sh_Mem, y = (sh_setI μ44 g (Int32.toNatClampNeg 19) (sh_i μ44 (q1 + 2) a2.toNatClampNeg)) := ⟨_, rfl⟩
  rw [sh_let_eq eμ46] at h
  have hG46 : sh_G μ46 := by rw [eμ46]; exact hG44
  obtain ⟨k47, h⟩ := sh_chk h
  obtain ⟨μ48, eμ48⟩ : ∃ y : sh_Mem, y = (sh_setI μ46 g (Int32.toNatClampNeg 20) (sh_i μ46 (q1 + 3) a2.toNatClampNeg)) := ⟨_, rfl⟩
  rw [sh_let_eq eμ48] at h
  have hG48 : sh_G μ48 := by rw [eμ48]; exact hG46
  obtain ⟨k49, h⟩ := sh_chk h
  obtain ⟨μ50, eμ50⟩ : ∃ y : sh_Mem, y = (sh_setI μ48 g (Int32.toNatClampNeg 7) (sh_i μ48 (q1 + 5) a2.toNatClampNeg)) := ⟨_, rfl⟩
  rw [sh_let_eq eμ50] at h
  have hG50 : sh_G μ50 := by rw [eμ50]; exact hG48
  exact ih_45 hG50 hq1 hg h
theorem t_X10_describe {q1 : Nat} {a2 : Int32} {g : Nat} {a4 : Int32} {μ μ' : sh_Mem} (hG : sh_G μ) (hq1 : sh_isL q1) (hg : sh_LAY[g]? = some (13, 38)) (h : f_X10_describe q1 a2 g a4 μ = some μ') : sh_C0 l B D ca 6 M_X10_describe [.ref 55, .ref q1, .int a2, .ref g, .int a4] μ (fun v0 μ0 => v0 = none ∧ μ0 = μ') := by
  have ih_45 := (tl_X10_describe (l := l) (B := B) (D := D) (ca := ca) 1000000)
  unfold f_X10_describe at h
  refine vv_aload_n 0 0 dX10_describe_0 rfl rfl ?_
  refine vv_aload_n 1 1 dX10_describe_1 rfl rfl ?_
  refine vv_iload_n 2 2 dX10_describe_2 rfl rfl ?_
  refine vv_aload_n 3 3 dX10_describe_3 rfl rfl ?_
  obtain ⟨μ41, hr42, h⟩ := sh_bindv_e h
  refine v1_callV [_, _, _] 4 dX10_describe_4 ck_X10_57 (g_l_55 hG) ⟨by decide, rfl⟩ (t_X10_gather hG hq1 hg hr42) (Nat.le_of_ble_eq_true rfl) ⟨Nat.le_of_ble_eq_true rfl, Nat.le_of_ble_eq_true rfl⟩ rfl (Nat.le_of_ble_eq_true rfl) ?_
  have hG41 := gp_X10_gather hG hq1 hg hr42
  refine vv_aload_n 7 3 dX10_describe_7 rfl rfl ?_
  refine vv_bipush 8 dX10_describe_8 bk_18 ?_
  refine vv_iload_n 10 2 dX10_describe_10 rfl rfl ?_
  refine vn_iast 11 dX10_describe_11 (gA_l hG41 hg) (by unfold vp_in; decide) (fun μ44 eμ44 => ?_)
  rw [sh_let_eq eμ44] at h
  have hG44 : sh_G μ44 := by rw [eμ44]; exact hG41
  refine vv_aload_n 12 3 dX10_describe_12 rfl rfl ?_
  refine vv_bipush 13 dX10_describe_13 bk_19 ?_
  refine vv_aload_n 15 1 dX10_describe_15 rfl rfl ?_
  refine vv_getR 16 dX10_describe_16 fl_10_26 rfl (gL_l hG44 hq1) (gL_r2 hG44 hq1) ?_
  refine vv_iload_n 19 2 dX10_describe_19 rfl rfl ?_
  obtain ⟨k45, h⟩ := sh_chk h
  refine vv_iald 20 dX10_describe_20 (gA_l hG44 (gLA2 hq1)) k45 ?_
  refine vn_iast 21 dX10_describe_21 (gA_l hG44 hg) (by unfold vp_in; decide) (fun μ46 eμ46 => ?_)
  rw [sh_let_eq eμ46] at h
  have hG46 : sh_G μ46 := by rw [eμ46]; exact hG44
  refine vv_aload_n 22 3 dX10_describe_22 rfl rfl ?_
  refine vv_bipush 23 dX10_describe_23 bk_20 ?_
  refine vv_aload_n 25 1 dX10_describe_25 rfl rfl ?_
  refine vv_getR 26 dX10_describe_26 fl_10_29 rfl (gL_l hG46 hq1) (gL_r3 hG46 hq1) ?_
  refine vv_iload_n 29 2 dX10_describe_29 rfl rfl ?_
  obtain ⟨k47, h⟩ := sh_chk h
  refine vv_iald 30 dX10_describe_30 (gA_l hG46 (gLA3 hq1)) k47 ?_
  refine vn_iast 31 dX10_describe_31 (gA_l hG46 hg) (by unfold vp_in; decide) (fun μ48 eμ48 => ?_)
  rw [sh_let_eq eμ48] at h
  have hG48 : sh_G μ48 := by rw [eμ48]; exact hG46
  refine vv_aload_n 32 3 dX10_describe_32 rfl rfl ?_
  refine vv_bipush 33 dX10_describe_33 bk_7 ?_
  refine vv_aload_n 35 1 dX10_describe_35 rfl rfl ?_
  refine vv_getR 36 dX10_describe_36 fl_10_44 rfl (gL_l hG48 hq1) (gL_r5 hG48 hq1) ?_
  refine vv_iload_n 39 2 dX10_describe_39 rfl rfl ?_
  obtain ⟨k49, h⟩ := sh_chk h
  refine vv_iald 40 dX10_describe_40 (gA_l hG48 (gLA5 hq1)) k49 ?_
  refine vn_iast 41 dX10_describe_41 (gA_l hG48 hg) (by unfold vp_in; decide) (fun μ50 eμ50 => ?_)
  rw [sh_let_eq eμ50] at h
  have hG50 : sh_G μ50 := by rw [eμ50]; exact hG48
  refine vv_iconst 42 dX10_describe_42 ik_0 ?_
  refine vv_istore (lv' := [(5, _), (0, _), (1, _), (2, _), (3, _), (4, _)]) 43 5 dX10_describe_43 (by decide) rfl ?_
  refine vv_sub [(0, _), (1, _), (2, _), (3, _), (4, _), (5, _)] (sh_subm [1, 2, 3, 4, 5, 0] rfl) ?_
  exact ih_45 hG50 hq1 hg h
end
