section
variable {l : Launch} {B : Nat} {D : va_G} {ca : Nat → ClassId} {μ : sh_Mem}
noncomputable def f_X10_deed (q1 : Nat) (a2 : Int32) (a3 : Int32) (μ : sh_Mem) : Option (Int32 × sh_Mem) := (if sh_in a2 7 then (if (((sh_i μ (q1 + 5) a2.toNatClampNeg) >>> (a3 &&& 31)) &&& 1) = 1 then some (0, μ) else sh_bindv (f_X10_gather q1 a2 56 μ) (fun μ3 => sh_let (sh_setI μ3 56 (Int32.toNatClampNeg 3) a3) (fun μ6 => (if (sh_r μ6 55 0 = some (sh_ref μ6 55 0) ∧ ((sh_ref μ6 55 0) = 8 ∨ (sh_ref μ6 55 0) = 29)) then sh_let (sh_ref μ6 55 0) (fun r8 => sh_bind (f_X1_value (r8 + 11) 56 μ6) (fun y11 μ9 => (if (lg_cmp y11 0) = 0 then some (2, μ9) else some (1, μ9)))) else none)))) else none)
theorem gp_X10_deed {q1 : Nat} {a2 : Int32} {a3 : Int32} {μ μ' : sh_Mem} {v : Int32} (hG : sh_G μ) (hq1 : sh_isL q1) (h : f_X10_deed q1 a2 a3 μ = some (v, μ')) : sh_G μ' := by
  unfold f_X10_deed at h
  obtain ⟨k1, h⟩ := sh_chk h
  by_cases c2 : (((sh_i μ (q1 + 5) a2.toNatClampNeg) >>> (a3 &&& 31)) &&& 1) = 1
  · rw [if_pos c2] at h
    obtain ⟨e1, e2⟩ := sh_some2 h
    exact e2 ▸ hG
  · rw [if_neg c2] at h
    obtain ⟨μ3, hr4, h⟩ := sh_bindv_e h
    have hG3 := gp_X10_gather hG hq1 (sh_LAYat_56) hr4
    obtain ⟨μ6, eμ6⟩ : ∃ y : sh_Mem, y = (sh_setI μ3 56 (Int32.toNatClampNeg 3) a3) := ⟨_, rfl⟩
    rw [sh_let_eq eμ6] at h
    have hG6 : sh_G μ6 := by rw [eμ6]; exact hG3
    obtain ⟨k7, h⟩ := sh_chk h
    obtain ⟨r8, er8⟩ : ∃ y : Nat, y = (sh_ref μ6 55 0) := ⟨_, rfl⟩
    rw [sh_let_eq er8] at h
    have k7r : sh_r μ6 55 0 = some r8 ∧ (r8 = 8 ∨ r8 = 29) := by rw [er8]; exact k7
    obtain ⟨y11, μ9, hr10, h⟩ := sh_bind_e h
    have hG9 := gp_X1_value hG6 (gP_f12 k7r.2) (sh_LAYat_56) hr10
    by_cases c12 : (lg_cmp y11 0) = 0
    · rw [if_pos c12] at h
      obtain ⟨e1, e2⟩ := sh_some2 h
      exact e2 ▸ hG9
    · rw [if_neg c12] at h
      obtain ⟨e1, e2⟩ := sh_some2 h
      exact e2 ▸ hG9
theorem t_X10_deed {q1 : Nat} {a2 : Int32} {a3 : Int32} {μ μ' : sh_Mem} {v : Int32} (hG : sh_G μ) (hq1 : sh_isL q1) (h : f_X10_deed q1 a2 a3 μ = some (v, μ')) : sh_C0 l B D ca 4 M_X10_deed [.ref 55, .ref q1, .int a2, .int a3] μ (fun v0 μ0 => v0 = some (.int v) ∧ μ0 = μ') := by
  unfold f_X10_deed at h
  refine vv_aload_n 0 1 dX10_deed_0 rfl rfl ?_
  refine vv_getR 1 dX10_deed_1 fl_10_44 rfl (gL_l hG hq1) (gL_r5 hG hq1) ?_
  refine vv_iload_n 4 2 dX10_deed_4 rfl rfl ?_
  obtain ⟨k1, h⟩ := sh_chk h
  refine vv_iald 5 dX10_deed_5 (gA_l hG (gLA5 hq1)) k1 ?_
  refine vv_iload_n 6 3 dX10_deed_6 rfl rfl ?_
  refine vv_ishr 7 dX10_deed_7 ?_
  refine vv_iconst 8 dX10_deed_8 ik_1 ?_
  refine vv_iand 9 dX10_deed_9 ?_
  refine vv_iconst 10 dX10_deed_10 ik_1 ?_
  refine vv_icmp_ne 11 16 dX10_deed_11 (by decide) (fun c2 => ?_) (fun c2 => ?_)
  · rw [if_neg c2] at h
    refine vv_aload_n 16 0 dX10_deed_16 rfl rfl ?_
    refine vv_aload_n 17 1 dX10_deed_17 rfl rfl ?_
    refine vv_iload_n 18 2 dX10_deed_18 rfl rfl ?_
    refine vv_aload_n 19 0 dX10_deed_19 rfl rfl ?_
    refine vv_getR 20 dX10_deed_20 fl_10_9 rfl (g_l_55 hG) (g_r_55_2 hG) ?_
    obtain ⟨μ3, hr4, h⟩ := sh_bindv_e h
    refine v1_callV [_, _, _] 23 dX10_deed_23 ck_X10_57 (g_l_55 hG) ⟨by decide, rfl⟩ (t_X10_gather hG hq1 (sh_LAYat_56) hr4) (Nat.le_of_ble_eq_true rfl) ⟨Nat.le_of_ble_eq_true rfl, Nat.le_of_ble_eq_true rfl⟩ rfl (Nat.le_of_ble_eq_true rfl) ?_
    have hG3 := gp_X10_gather hG hq1 (sh_LAYat_56) hr4
    refine vv_aload_n 26 0 dX10_deed_26 rfl rfl ?_
    refine vv_getR 27 dX10_deed_27 fl_10_9 rfl (g_l_55 hG3) (g_r_55_2 hG3) ?_
    refine vv_iconst 30 dX10_deed_30 ik_3 ?_
    refine vv_iload_n 31 3 dX10_deed_31 rfl rfl ?_
    refine vn_iast 32 dX10_deed_32 (g_l_56 hG3) (by unfold vp_in; decide) (fun μ6 eμ6 => ?_)
    rw [sh_let_eq eμ6] at h
    have hG6 : sh_G μ6 := by rw [eμ6]; exact hG3
    refine vv_aload_n 33 0 dX10_deed_33 rfl rfl ?_
    obtain ⟨k7, h⟩ := sh_chk h
    refine vv_getR 34 dX10_deed_34 fl_10_22 rfl (g_l_55 hG6) k7.1 ?_
    refine vv_topr (fun r8 er8 => ?_)
    rw [sh_let_eq er8] at h
    have k7r : sh_r μ6 55 0 = some r8 ∧ (r8 = 8 ∨ r8 = 29) := by rw [er8]; exact k7
    refine vv_getR 37 dX10_deed_37 fl_10_75 rfl (gP_l hG6 k7r.2) (gP_r12 hG6 k7r.2) ?_
    refine vv_aload_n 40 0 dX10_deed_40 rfl rfl ?_
    refine vv_getR 41 dX10_deed_41 fl_10_9 rfl (g_l_55 hG6) (g_r_55_2 hG6) ?_
    obtain ⟨y11, μ9, hr10, h⟩ := sh_bind_e h
    refine v1_callV [_] 44 dX10_deed_44 ck_X10_79 (gF_l hG6 (gP_f12 k7r.2)) ⟨by decide, rfl⟩ (t_X1_value hG6 (gP_f12 k7r.2) (sh_LAYat_56) hr10) (Nat.le_of_ble_eq_true rfl) ⟨Nat.le_of_ble_eq_true rfl, Nat.le_of_ble_eq_true rfl⟩ rfl (Nat.le_of_ble_eq_true rfl) ?_
    have hG9 := gp_X1_value hG6 (gP_f12 k7r.2) (sh_LAYat_56) hr10
    refine vv_lconst 47 dX10_deed_47 lk_0 ?_
    refine vv_lcmp 48 dX10_deed_48 ?_
    refine vv_if_eq 49 56 dX10_deed_49 (by decide) (fun c12 => ?_) (fun c12 => ?_)
    · rw [if_pos c12] at h
      refine vv_iconst 56 dX10_deed_56 ik_2 ?_
      obtain ⟨e1, e2⟩ := sh_some2 h
      refine vv_iret 57 dX10_deed_57 rfl (Nat.le_refl _) (Nat.le_refl _) ⟨by rw [e1], e2⟩
    · rw [if_neg c12] at h
      refine vv_iconst 52 dX10_deed_52 ik_1 ?_
      refine vv_goto 53 57 dX10_deed_53 (by decide) ?_
      obtain ⟨e1, e2⟩ := sh_some2 h
      refine vv_iret 57 dX10_deed_57 rfl (Nat.le_refl _) (Nat.le_refl _) ⟨by rw [e1], e2⟩
  · rw [if_pos c2] at h
    refine vv_iconst 14 dX10_deed_14 ik_0 ?_
    obtain ⟨e1, e2⟩ := sh_some2 h
    refine vv_iret 15 dX10_deed_15 rfl (Nat.le_refl _) (Nat.le_refl _) ⟨by rw [e1], e2⟩
noncomputable def F_X10_lift : Nat → Nat → Nat → Int32 → Int32 → Int32 → sh_Mem → Option sh_Mem
  | 0, _, _, _, _, _, _ => none
  | fuel + 1, lbl, r1, i2, i3, i4, μ => match lbl with
    | 1 => (if i3 ≤ i4 then some μ else (if sh_in i2 49 then (if 99 ≤ (sh_i μ (r1 + 1) i2.toNatClampNeg) then some μ else sh_bind (f_X10_findHighest r1 μ) (fun y29 μ27 => (if y29 = 0 then some μ27 else (if sh_in (sh_i μ27 55 8) 49 then (if sh_in (sh_i μ27 55 8) 49 then sh_let (sh_setI μ27 (r1 + 1) ((sh_i μ27 55 8)).toNatClampNeg ((sh_i μ27 (r1 + 1) ((sh_i μ27 55 8)).toNatClampNeg) - 1)) (fun μ33 => (if sh_in i2 49 then (if sh_in i2 49 then sh_let (sh_setI μ33 (r1 + 1) i2.toNatClampNeg ((sh_i μ33 (r1 + 1) i2.toNatClampNeg) + 1)) (fun μ36 => sh_let (sh_setI μ36 55 1 ((sh_i μ36 55 1) + 1)) (fun μ37 => F_X10_lift fuel 1 r1 i2 i3 (i4 + 1) μ37)) else none) else none)) else none) else none)))) else none))
    | _ => none
noncomputable def f_X10_lift (q1 : Nat) (a2 : Int32) (μ : sh_Mem) : Option sh_Mem := (if a2 = (-1) then some μ else (if sh_in a2 49 then sh_let (sh_setI μ 56 (Int32.toNatClampNeg 17) (sh_i μ (q1 + 1) a2.toNatClampNeg)) (fun μ40 => (if (sh_r μ40 55 0 = some (sh_ref μ40 55 0) ∧ ((sh_ref μ40 55 0) = 8 ∨ (sh_ref μ40 55 0) = 29)) then sh_let (sh_ref μ40 55 0) (fun r42 => sh_bind (f_X1_value (r42 + 5) 56 μ40) (fun y45 μ43 => sh_let ((f_X10_within μ43 y45 9) : Int32) (fun x46 => F_X10_lift sh_fuel 1 q1 a2 x46 0 μ43))) else none)) else none))
theorem gpl_X10_lift (fuel : Nat) : (∀ ⦃r1 : Nat⦄ ⦃i2 : Int32⦄ ⦃i3 : Int32⦄ ⦃i4 : Int32⦄ ⦃μ μ' : sh_Mem⦄, sh_G μ → sh_isL r1 → F_X10_lift fuel 1 r1 i2 i3 i4 μ = some μ' → sh_G μ') := by
  induction fuel with
  | zero => intro r1 i2 i3 i4 μ μ' hG hr1 h; cases h
  | succ fuel ih =>
    have ih_42 := ih
    intro r1 i2 i3 i4 μ μ' hG hr1 h
    replace h : ((if i3 ≤ i4 then some μ else (if sh_in i2 49 then (if 99 ≤ (sh_i μ (r1 + 1) i2.toNatClampNeg) then some μ else sh_bind (f_X10_findHighest r1 μ) (fun y29 μ27 => (if y29 = 0 then some μ27 else (if sh_in (sh_i μ27 55 8) 49 then (if sh_in (sh_i μ27 55 8) 49 then sh_let (sh_setI μ27 (r1 + 1) ((sh_i μ27 55 8)).toNatClampNeg ((sh_i μ27 (r1 + 1) ((sh_i μ27 55 8)).toNatClampNeg) - 1)) (fun μ33 => (if sh_in i2 49 then (if sh_in i2 49 then sh_let (sh_setI μ33 (r1 + 1) i2.toNatClampNeg ((sh_i μ33 (r1 + 1) i2.toNatClampNeg) + 1)) (fun μ36 => sh_let (sh_setI μ36 55 1 ((sh_i μ36 55 1) + 1)) (fun μ37 => F_X10_lift fuel 1 r1 i2 i3 (i4 + 1) μ37)) else none) else none)) else none) else none)))) else none)) : Option sh_Mem) = some μ' := h
    by_cases c24 : i3 ≤ i4
    · rw [if_pos c24] at h
      have e2 := Option.some.inj h
      exact e2 ▸ hG
    · rw [if_neg c24] at h
      obtain ⟨k25, h⟩ := sh_chk h
      by_cases c26 : 99 ≤ (sh_i μ (r1 + 1) i2.toNatClampNeg)
      · rw [if_pos c26] at h
        have e2 := Option.some.inj h
        exact e2 ▸ hG
      · rw [if_neg c26] at h
        obtain ⟨y29, μ27, hr28, h⟩ := sh_bind_e h
        have hG27 := gp_X10_findHighest hG hr1 hr28
        by_cases c30 : y29 = 0
        · rw [if_pos c30] at h
          have e2 := Option.some.inj h
          exact e2 ▸ hG27
        · rw [if_neg c30] at h
          obtain ⟨k31, h⟩ := sh_chk h
          obtain ⟨k32, h⟩ := sh_chk h
          obtain ⟨μ33, eμ33⟩ : ∃ y : sh_Mem, y = (sh_setI μ27 (r1 + 1) ((sh_i μ27 55 8)).toNatClampNeg ((sh_i μ27 (r1 + 1) ((sh_i μ27 55 8)).toNatClampNeg) - 1)) := ⟨_, rfl⟩
          rw [sh_let_eq eμ33] at h
          have hG33 : sh_G μ33 := by rw [eμ33]; exact hG27
          obtain ⟨k34, h⟩ := sh_chk h
          obtain ⟨k35, h⟩ := sh_chk h
          obtain ⟨μ36, eμ36⟩ : ∃ y : sh_Mem, y = (sh_setI μ33 (r1 + 1) i2.toNatClampNeg ((sh_i μ33 (r1 + 1) i2.toNatClampNeg) + 1)) := ⟨_, rfl⟩
          rw [sh_let_eq eμ36] at h
          have hG36 : sh_G μ36 := by rw [eμ36]; exact hG33
          obtain ⟨μ37, eμ37⟩ : ∃ y : sh_Mem, y = (sh_setI μ36 55 1 ((sh_i μ36 55 1) + 1)) := ⟨_, rfl⟩
          rw [sh_let_eq eμ37] at h
          have hG37 : sh_G μ37 := by rw [eμ37]; exact hG36
          exact ih_42 hG37 hr1 h
theorem tl_X10_lift (fuel : Nat) : (∀ ⦃r1 : Nat⦄ ⦃i2 : Int32⦄ ⦃i3 : Int32⦄ ⦃i4 : Int32⦄ ⦃μ μ' : sh_Mem⦄, sh_G μ → sh_isL r1 → F_X10_lift fuel 1 r1 i2 i3 i4 μ = some μ' → sh_V0 l B D ca 4 M_X10_lift 42 [(0, .ref 55), (1, .ref r1), (2, .int i2), (3, .int i3), (4, .int i4)] [] μ (fun v0 μ0 => v0 = none ∧ μ0 = μ')) := by
  induction fuel with
  | zero => intro r1 i2 i3 i4 μ μ' hG hr1 h; cases h
  | succ fuel ih =>
    have ih_42 := ih
    intro r1 i2 i3 i4 μ μ' hG hr1 h
    replace h : ((if i3 ≤ i4 then some μ else (if sh_in i2 49 then (if 99 ≤ (sh_i μ (r1 + 1) i2.toNatClampNeg) then some μ else sh_bind (f_X10_findHighest r1 μ) (fun y29 μ27 => (if y29 = 0 then some μ27 else (if sh_in (sh_i μ27 55 8) 49 then (if sh_in (sh_i μ27 55 8) 49 then sh_let (sh_setI μ27 (r1 + 1) ((sh_i μ27 55 8)).toNatClampNeg ((sh_i μ27 (r1 + 1) ((sh_i μ27 55 8)).toNatClampNeg) - 1)) (fun μ33 => (if sh_in i2 49 then (if sh_in i2 49 then sh_let (sh_setI μ33 (r1 + 1) i2.toNatClampNeg ((sh_i μ33 (r1 + 1) i2.toNatClampNeg) + 1)) (fun μ36 => sh_let (sh_setI μ36 55 1 ((sh_i μ36 55 1) + 1)) (fun μ37 => F_X10_lift fuel 1 r1 i2 i3 (i4 + 1) μ37)) else none) else none)) else none) else none)))) else none)) : Option sh_Mem) = some μ' := h
    refine vv_iload 42 4 dX10_lift_42 rfl ?_
    refine vv_iload_n 44 3 dX10_lift_44 rfl rfl ?_
    refine vv_icmp_ge 45 106 dX10_lift_45 (by decide) (fun c24 => ?_) (fun c24 => ?_)
    · rw [if_pos c24] at h
      have e2 := Option.some.inj h
      refine vv_vret 106 dX10_lift_106 rfl (Nat.le_refl _) (Nat.le_refl _) ⟨rfl, e2⟩
    · rw [if_neg c24] at h
      refine vv_aload_n 48 1 dX10_lift_48 rfl rfl ?_
      refine vv_getR 49 dX10_lift_49 fl_10_41 rfl (gL_l hG hr1) (gL_r1 hG hr1) ?_
      refine vv_iload_n 52 2 dX10_lift_52 rfl rfl ?_
      obtain ⟨k25, h⟩ := sh_chk h
      refine vv_iald 53 dX10_lift_53 (gA_l hG (gLA1 hr1)) k25 ?_
      refine vv_bipush 54 dX10_lift_54 bk_99 ?_
      refine vv_icmp_ge 56 106 dX10_lift_56 (by decide) (fun c26 => ?_) (fun c26 => ?_)
      · rw [if_pos c26] at h
        have e2 := Option.some.inj h
        refine vv_vret 106 dX10_lift_106 rfl (Nat.le_refl _) (Nat.le_refl _) ⟨rfl, e2⟩
      · rw [if_neg c26] at h
        refine vv_aload_n 59 0 dX10_lift_59 rfl rfl ?_
        refine vv_aload_n 60 1 dX10_lift_60 rfl rfl ?_
        obtain ⟨y29, μ27, hr28, h⟩ := sh_bind_e h
        refine v1_callV [_] 61 dX10_lift_61 ck_X10_128 (g_l_55 hG) ⟨by decide, rfl⟩ (t_X10_findHighest hG hr1 hr28) (Nat.le_of_ble_eq_true rfl) ⟨Nat.le_of_ble_eq_true rfl, Nat.le_of_ble_eq_true rfl⟩ rfl (Nat.le_of_ble_eq_true rfl) ?_
        have hG27 := gp_X10_findHighest hG hr1 hr28
        refine vv_if_eq 64 106 dX10_lift_64 (by decide) (fun c30 => ?_) (fun c30 => ?_)
        · rw [if_pos c30] at h
          have e2 := Option.some.inj h
          refine vv_vret 106 dX10_lift_106 rfl (Nat.le_refl _) (Nat.le_refl _) ⟨rfl, e2⟩
        · rw [if_neg c30] at h
          refine vv_aload_n 67 1 dX10_lift_67 rfl rfl ?_
          refine vv_getR 68 dX10_lift_68 fl_10_41 rfl (gL_l hG27 hr1) (gL_r1 hG27 hr1) ?_
          refine vv_aload_n 71 0 dX10_lift_71 rfl rfl ?_
          refine vv_getI 72 dX10_lift_72 fl_10_114 rfl (g_l_55 hG27) ?_
          refine vv_dup2_ri 75 dX10_lift_75 ?_
          obtain ⟨k31, h⟩ := sh_chk h
          refine vv_iald 76 dX10_lift_76 (gA_l hG27 (gLA1 hr1)) k31 ?_
          refine vv_iconst 77 dX10_lift_77 ik_1 ?_
          refine vv_isub 78 dX10_lift_78 ?_
          obtain ⟨k32, h⟩ := sh_chk h
          refine vn_iast 79 dX10_lift_79 (gA_l hG27 (gLA1 hr1)) k32 (fun μ33 eμ33 => ?_)
          rw [sh_let_eq eμ33] at h
          have hG33 : sh_G μ33 := by rw [eμ33]; exact hG27
          refine vv_aload_n 80 1 dX10_lift_80 rfl rfl ?_
          refine vv_getR 81 dX10_lift_81 fl_10_41 rfl (gL_l hG33 hr1) (gL_r1 hG33 hr1) ?_
          refine vv_iload_n 84 2 dX10_lift_84 rfl rfl ?_
          refine vv_dup2_ri 85 dX10_lift_85 ?_
          obtain ⟨k34, h⟩ := sh_chk h
          refine vv_iald 86 dX10_lift_86 (gA_l hG33 (gLA1 hr1)) k34 ?_
          refine vv_iconst 87 dX10_lift_87 ik_1 ?_
          refine vv_iadd 88 dX10_lift_88 ?_
          obtain ⟨k35, h⟩ := sh_chk h
          refine vn_iast 89 dX10_lift_89 (gA_l hG33 (gLA1 hr1)) k35 (fun μ36 eμ36 => ?_)
          rw [sh_let_eq eμ36] at h
          have hG36 : sh_G μ36 := by rw [eμ36]; exact hG33
          refine vv_aload_n 90 0 dX10_lift_90 rfl rfl ?_
          refine vv_dup_ref 91 dX10_lift_91 ?_
          refine vv_getI 92 dX10_lift_92 fl_10_72 rfl (g_l_55 hG36) ?_
          refine vv_iconst 95 dX10_lift_95 ik_1 ?_
          refine vv_iadd 96 dX10_lift_96 ?_
          refine vn_putI 97 dX10_lift_97 fl_10_72 (Or.inl rfl) rfl (g_l_55 hG36) (fun μ37 eμ37 => ?_)
          rw [sh_let_eq eμ37] at h
          have hG37 : sh_G μ37 := by rw [eμ37]; exact hG36
          refine vv_iincc (lv' := [(4, _), (0, _), (1, _), (2, _), (3, _)]) 100 4 dX10_lift_100 rfl ik_1 (by decide) rfl ?_
          refine vv_goto 103 42 dX10_lift_103 (by decide) ?_
          refine vv_sub [(0, _), (1, _), (2, _), (3, _), (4, _)] (sh_subm [1, 2, 3, 4, 0] rfl) ?_
          exact ih_42 hG37 hr1 h
theorem gp_X10_lift {q1 : Nat} {a2 : Int32} {μ μ' : sh_Mem} (hG : sh_G μ) (hq1 : sh_isL q1) (h : f_X10_lift q1 a2 μ = some μ') : sh_G μ' := by
  have ih_42 := (gpl_X10_lift sh_fuel)
  unfold f_X10_lift at h
  by_cases c38 : a2 = (-1)
  · rw [if_pos c38] at h
    have e2 := Option.some.inj h
    exact e2 ▸ hG
  · rw [if_neg c38] at h
    obtain ⟨k39, h⟩ := sh_chk h
    obtain ⟨μ40, eμ40⟩ : ∃ y : sh_Mem, y = (sh_setI μ 56 (Int32.toNatClampNeg 17) (sh_i μ (q1 + 1) a2.toNatClampNeg)) := ⟨_, rfl⟩
    rw [sh_let_eq eμ40] at h
    have hG40 : sh_G μ40 := by rw [eμ40]; exact hG
    obtain ⟨k41, h⟩ := sh_chk h
    obtain ⟨r42, er42⟩ : ∃ y : Nat, y = (sh_ref μ40 55 0) := ⟨_, rfl⟩
    rw [sh_let_eq er42] at h
    have k41r : sh_r μ40 55 0 = some r42 ∧ (r42 = 8 ∨ r42 = 29) := by rw [er42]; exact k41
    obtain ⟨y45, μ43, hr44, h⟩ := sh_bind_e h
    have hG43 := gp_X1_value hG40 (gP_f10 k41r.2) (sh_LAYat_56) hr44
    obtain ⟨x46, ex46⟩ : ∃ y : Int32, y = (f_X10_within μ43 y45 9) := ⟨_, rfl⟩
    rw [sh_let_eq ex46] at h
    exact ih_42 hG43 hq1 h
theorem t_X10_lift {q1 : Nat} {a2 : Int32} {μ μ' : sh_Mem} (hG : sh_G μ) (hq1 : sh_isL q1) (h : f_X10_lift q1 a2 μ = some μ') : sh_C0 l B D ca 4 M_X10_lift [.ref 55, .ref q1, .int a2] μ (fun v0 μ0 => v0 = none ∧ μ0 = μ') := by
  have ih_42 := (tl_X10_lift (l := l) (B := B) (D := D) (ca := ca) sh_fuel)
  unfold f_X10_lift at h
  refine vv_iload_n 0 2 dX10_lift_0 rfl rfl ?_
  refine vv_iconst 1 dX10_lift_1 ik_m1 ?_
  refine vv_icmp_ne 2 6 dX10_lift_2 (by decide) (fun c38 => ?_) (fun c38 => ?_)
  · rw [if_neg c38] at h
    refine vv_aload_n 6 0 dX10_lift_6 rfl rfl ?_
    refine vv_getR 7 dX10_lift_7 fl_10_9 rfl (g_l_55 hG) (g_r_55_2 hG) ?_
    refine vv_bipush 10 dX10_lift_10 bk_17 ?_
    refine vv_aload_n 12 1 dX10_lift_12 rfl rfl ?_
    refine vv_getR 13 dX10_lift_13 fl_10_41 rfl (gL_l hG hq1) (gL_r1 hG hq1) ?_
    refine vv_iload_n 16 2 dX10_lift_16 rfl rfl ?_
    obtain ⟨k39, h⟩ := sh_chk h
    refine vv_iald 17 dX10_lift_17 (gA_l hG (gLA1 hq1)) k39 ?_
    refine vn_iast 18 dX10_lift_18 (g_l_56 hG) (by unfold vp_in; decide) (fun μ40 eμ40 => ?_)
    rw [sh_let_eq eμ40] at h
    have hG40 : sh_G μ40 := by rw [eμ40]; exact hG
    refine vv_aload_n 19 0 dX10_lift_19 rfl rfl ?_
    obtain ⟨k41, h⟩ := sh_chk h
    refine vv_getR 20 dX10_lift_20 fl_10_22 rfl (g_l_55 hG40) k41.1 ?_
    refine vv_topr (fun r42 er42 => ?_)
    rw [sh_let_eq er42] at h
    have k41r : sh_r μ40 55 0 = some r42 ∧ (r42 = 8 ∨ r42 = 29) := by rw [er42]; exact k41
    refine vv_getR 23 dX10_lift_23 fl_10_125 rfl (gP_l hG40 k41r.2) (gP_r10 hG40 k41r.2) ?_
    refine vv_aload_n 26 0 dX10_lift_26 rfl rfl ?_
    refine vv_getR 27 dX10_lift_27 fl_10_9 rfl (g_l_55 hG40) (g_r_55_2 hG40) ?_
    obtain ⟨y45, μ43, hr44, h⟩ := sh_bind_e h
    refine v1_callV [_] 30 dX10_lift_30 ck_X10_79 (gF_l hG40 (gP_f10 k41r.2)) ⟨by decide, rfl⟩ (t_X1_value hG40 (gP_f10 k41r.2) (sh_LAYat_56) hr44) (Nat.le_of_ble_eq_true rfl) ⟨Nat.le_of_ble_eq_true rfl, Nat.le_of_ble_eq_true rfl⟩ rfl (Nat.le_of_ble_eq_true rfl) ?_
    have hG43 := gp_X1_value hG40 (gP_f10 k41r.2) (sh_LAYat_56) hr44
    refine vv_bipush 33 dX10_lift_33 bk_9 ?_
    refine v1_callS [_, _] 35 dX10_lift_35 ck_X10_104 (c_X10_within (μ := μ43) hG43) (Nat.le_of_ble_eq_true rfl) ⟨Nat.le_of_ble_eq_true rfl, Nat.le_of_ble_eq_true rfl⟩ rfl (Nat.le_of_ble_eq_true rfl) ?_
    refine vv_topi (fun x46 ex46 => ?_)
    rw [sh_let_eq ex46] at h
    refine vv_istore_n (lv' := [(3, _), (0, _), (1, _), (2, _)]) 38 3 dX10_lift_38 rfl (by decide) rfl ?_
    refine vv_iconst 39 dX10_lift_39 ik_0 ?_
    refine vv_istore (lv' := [(4, _), (3, _), (0, _), (1, _), (2, _)]) 40 4 dX10_lift_40 (by decide) rfl ?_
    refine vv_sub [(0, _), (1, _), (2, _), (3, _), (4, _)] (sh_subm [2, 3, 4, 1, 0] rfl) ?_
    exact ih_42 hG43 hq1 h
  · rw [if_pos c38] at h
    have e2 := Option.some.inj h
    refine vv_vret 5 dX10_lift_5 rfl (Nat.le_refl _) (Nat.le_refl _) ⟨rfl, e2⟩
noncomputable def f_X11_would (a1 : Int32) (a2 : Int32) (μ : sh_Mem) : Option (Int32 × sh_Mem) := sh_bind (f_X11_isPerson a1 μ) (fun y3 μ1 => (if y3 = 0 then some ((-1), μ1) else sh_bind (f_X11_isTopic a2 μ1) (fun y7 μ5 => (if y7 = 0 then some ((-1), μ5) else sh_bind (f_X10_deed 49 a1 a2 μ5) (fun y11 μ9 => some (y11, μ9))))))
theorem gp_X11_would {a1 : Int32} {a2 : Int32} {μ μ' : sh_Mem} {v : Int32} (hG : sh_G μ) (h : f_X11_would a1 a2 μ = some (v, μ')) : sh_G μ' := by
  unfold f_X11_would at h
  obtain ⟨y3, μ1, hr2, h⟩ := sh_bind_e h
  have hG1 := gp_X11_isPerson hG hr2
  by_cases c4 : y3 = 0
  · rw [if_pos c4] at h
    obtain ⟨e1, e2⟩ := sh_some2 h
    exact e2 ▸ hG1
  · rw [if_neg c4] at h
    obtain ⟨y7, μ5, hr6, h⟩ := sh_bind_e h
    have hG5 := gp_X11_isTopic hG1 hr6
    by_cases c8 : y7 = 0
    · rw [if_pos c8] at h
      obtain ⟨e1, e2⟩ := sh_some2 h
      exact e2 ▸ hG5
    · rw [if_neg c8] at h
      obtain ⟨y11, μ9, hr10, h⟩ := sh_bind_e h
      have hG9 := gp_X10_deed hG5 sh_isL_49 hr10
      obtain ⟨e1, e2⟩ := sh_some2 h
      exact e2 ▸ hG9
theorem t_X11_would {a1 : Int32} {a2 : Int32} {μ μ' : sh_Mem} {v : Int32} (hG : sh_G μ) (h : f_X11_would a1 a2 μ = some (v, μ')) : sh_C0 l B D ca 5 M_X11_would [.ref 0, .int a1, .int a2] μ (fun v0 μ0 => v0 = some (.int v) ∧ μ0 = μ') := by
  unfold f_X11_would at h
  refine vv_aload_n 0 0 dX11_would_0 rfl rfl ?_
  refine vv_iload_n 1 1 dX11_would_1 rfl rfl ?_
  obtain ⟨y3, μ1, hr2, h⟩ := sh_bind_e h
  refine v1_callV [_] 2 dX11_would_2 ck_X11_211 (g_l_0 hG) ⟨by decide, rfl⟩ (t_X11_isPerson hG hr2) (Nat.le_of_ble_eq_true rfl) ⟨Nat.le_of_ble_eq_true rfl, Nat.le_of_ble_eq_true rfl⟩ rfl (Nat.le_of_ble_eq_true rfl) ?_
  have hG1 := gp_X11_isPerson hG hr2
  refine vv_if_eq 5 32 dX11_would_5 (by decide) (fun c4 => ?_) (fun c4 => ?_)
  · rw [if_pos c4] at h
    refine vv_iconst 32 dX11_would_32 ik_m1 ?_
    obtain ⟨e1, e2⟩ := sh_some2 h
    refine vv_iret 33 dX11_would_33 rfl (Nat.le_refl _) (Nat.le_refl _) ⟨by rw [e1], e2⟩
  · rw [if_neg c4] at h
    refine vv_aload_n 8 0 dX11_would_8 rfl rfl ?_
    refine vv_iload_n 9 2 dX11_would_9 rfl rfl ?_
    obtain ⟨y7, μ5, hr6, h⟩ := sh_bind_e h
    refine v1_callV [_] 10 dX11_would_10 ck_X11_201 (g_l_0 hG1) ⟨by decide, rfl⟩ (t_X11_isTopic hG1 hr6) (Nat.le_of_ble_eq_true rfl) ⟨Nat.le_of_ble_eq_true rfl, Nat.le_of_ble_eq_true rfl⟩ rfl (Nat.le_of_ble_eq_true rfl) ?_
    have hG5 := gp_X11_isTopic hG1 hr6
    refine vv_if_eq 13 32 dX11_would_13 (by decide) (fun c8 => ?_) (fun c8 => ?_)
    · rw [if_pos c8] at h
      refine vv_iconst 32 dX11_would_32 ik_m1 ?_
      obtain ⟨e1, e2⟩ := sh_some2 h
      refine vv_iret 33 dX11_would_33 rfl (Nat.le_refl _) (Nat.le_refl _) ⟨by rw [e1], e2⟩
    · rw [if_neg c8] at h
      refine vv_aload_n 16 0 dX11_would_16 rfl rfl ?_
      refine vv_getR 17 dX11_would_17 fl_11_69 rfl (g_l_0 hG5) (g_r_0_9 hG5) ?_
      refine vv_aload_n 20 0 dX11_would_20 rfl rfl ?_
      refine vv_getR 21 dX11_would_21 fl_11_60 rfl (g_l_0 hG5) (g_r_0_8 hG5) ?_
      refine vv_iload_n 24 1 dX11_would_24 rfl rfl ?_
      refine vv_iload_n 25 2 dX11_would_25 rfl rfl ?_
      obtain ⟨y11, μ9, hr10, h⟩ := sh_bind_e h
      refine v1_callV [_, _, _] 26 dX11_would_26 ck_X11_241 (g_l_55 hG5) ⟨by decide, rfl⟩ (t_X10_deed hG5 sh_isL_49 hr10) (Nat.le_of_ble_eq_true rfl) ⟨Nat.le_of_ble_eq_true rfl, Nat.le_of_ble_eq_true rfl⟩ rfl (Nat.le_of_ble_eq_true rfl) ?_
      have hG9 := gp_X10_deed hG5 sh_isL_49 hr10
      refine vv_goto 29 33 dX11_would_29 (by decide) ?_
      obtain ⟨e1, e2⟩ := sh_some2 h
      refine vv_iret 33 dX11_would_33 rfl (Nat.le_refl _) (Nat.le_refl _) ⟨by rw [e1], e2⟩
noncomputable def f_X11_way (a1 : Int32) (a2 : Int32) (μ : sh_Mem) : Option (Int32 × sh_Mem) := (if (sh_r μ 0 7 = some (sh_ref μ 0 7) ∧ ((sh_ref μ 0 7) = 8 ∨ (sh_ref μ 0 7) = 29)) then sh_let (sh_ref μ 0 7) (fun r2 => sh_bind (f_X5_cellOf r2 a1 μ) (fun y5 μ3 => (if (sh_r μ3 0 7 = some (sh_ref μ3 0 7) ∧ ((sh_ref μ3 0 7) = 8 ∨ (sh_ref μ3 0 7) = 29)) then sh_let (sh_ref μ3 0 7) (fun r7 => sh_bind (f_X5_cellOf r7 a2 μ3) (fun y10 μ8 => (if y5 = (-1) then some ((-1), μ8) else (if y10 = (-1) then some ((-1), μ8) else (if (sh_r μ8 0 7 = some (sh_ref μ8 0 7) ∧ ((sh_ref μ8 0 7) = 8 ∨ (sh_ref μ8 0 7) = 29)) then sh_let (sh_ref μ8 0 7) (fun r14 => sh_bind (f_X9_cost r14 49 y5 y10 μ8) (fun y17 μ15 => some (y17, μ15))) else none))))) else none))) else none)
theorem gp_X11_way {a1 : Int32} {a2 : Int32} {μ μ' : sh_Mem} {v : Int32} (hG : sh_G μ) (h : f_X11_way a1 a2 μ = some (v, μ')) : sh_G μ' := by
  unfold f_X11_way at h
  obtain ⟨k1, h⟩ := sh_chk h
  obtain ⟨r2, er2⟩ : ∃ y : Nat, y = (sh_ref μ 0 7) := ⟨_, rfl⟩
  rw [sh_let_eq er2] at h
  have k1r : sh_r μ 0 7 = some r2 ∧ (r2 = 8 ∨ r2 = 29) := by rw [er2]; exact k1
  obtain ⟨y5, μ3, hr4, h⟩ := sh_bind_e h
  have hG3 := gp_X5_cellOf hG k1r.2 hr4
  obtain ⟨k6, h⟩ := sh_chk h
  obtain ⟨r7, er7⟩ : ∃ y : Nat, y = (sh_ref μ3 0 7) := ⟨_, rfl⟩
  rw [sh_let_eq er7] at h
  have k6r : sh_r μ3 0 7 = some r7 ∧ (r7 = 8 ∨ r7 = 29) := by rw [er7]; exact k6
  obtain ⟨y10, μ8, hr9, h⟩ := sh_bind_e h
  have hG8 := gp_X5_cellOf hG3 k6r.2 hr9
  by_cases c11 : y5 = (-1)
  · rw [if_pos c11] at h
    obtain ⟨e1, e2⟩ := sh_some2 h
    exact e2 ▸ hG8
  · rw [if_neg c11] at h
    by_cases c12 : y10 = (-1)
    · rw [if_pos c12] at h
      obtain ⟨e1, e2⟩ := sh_some2 h
      exact e2 ▸ hG8
    · rw [if_neg c12] at h
      obtain ⟨k13, h⟩ := sh_chk h
      obtain ⟨r14, er14⟩ : ∃ y : Nat, y = (sh_ref μ8 0 7) := ⟨_, rfl⟩
      rw [sh_let_eq er14] at h
      have k13r : sh_r μ8 0 7 = some r14 ∧ (r14 = 8 ∨ r14 = 29) := by rw [er14]; exact k13
      obtain ⟨y17, μ15, hr16, h⟩ := sh_bind_e h
      have hG15 := gp_X9_cost hG8 k13r.2 sh_isL_49 hr16
      obtain ⟨e1, e2⟩ := sh_some2 h
      exact e2 ▸ hG15
theorem t_X11_way {a1 : Int32} {a2 : Int32} {μ μ' : sh_Mem} {v : Int32} (hG : sh_G μ) (h : f_X11_way a1 a2 μ = some (v, μ')) : sh_C0 l B D ca 5 M_X11_way [.ref 0, .int a1, .int a2] μ (fun v0 μ0 => v0 = some (.int v) ∧ μ0 = μ') := by
  unfold f_X11_way at h
  refine vv_aload_n 0 0 dX11_way_0 rfl rfl ?_
  obtain ⟨k1, h⟩ := sh_chk h
  refine vv_getR 1 dX11_way_1 fl_11_53 rfl (g_l_0 hG) k1.1 ?_
  refine vv_topr (fun r2 er2 => ?_)
  rw [sh_let_eq er2] at h
  have k1r : sh_r μ 0 7 = some r2 ∧ (r2 = 8 ∨ r2 = 29) := by rw [er2]; exact k1
  refine vv_iload_n 4 1 dX11_way_4 rfl rfl ?_
  obtain ⟨y5, μ3, hr4, h⟩ := sh_bind_e h
  refine v1_callV [_] 5 dX11_way_5 ck_X11_263 (gP_l hG k1r.2) ⟨by decide, rfl⟩ (t_X5_cellOf hG k1r.2 hr4) (Nat.le_of_ble_eq_true rfl) ⟨Nat.le_of_ble_eq_true rfl, Nat.le_of_ble_eq_true rfl⟩ rfl (Nat.le_of_ble_eq_true rfl) ?_
  have hG3 := gp_X5_cellOf hG k1r.2 hr4
  refine vv_istore_n (lv' := [(3, _), (0, _), (1, _), (2, _)]) 8 3 dX11_way_8 rfl (by decide) rfl ?_
  refine vv_aload_n 9 0 dX11_way_9 rfl rfl ?_
  obtain ⟨k6, h⟩ := sh_chk h
  refine vv_getR 10 dX11_way_10 fl_11_53 rfl (g_l_0 hG3) k6.1 ?_
  refine vv_topr (fun r7 er7 => ?_)
  rw [sh_let_eq er7] at h
  have k6r : sh_r μ3 0 7 = some r7 ∧ (r7 = 8 ∨ r7 = 29) := by rw [er7]; exact k6
  refine vv_iload_n 13 2 dX11_way_13 rfl rfl ?_
  obtain ⟨y10, μ8, hr9, h⟩ := sh_bind_e h
  refine v1_callV [_] 14 dX11_way_14 ck_X11_263 (gP_l hG3 k6r.2) ⟨by decide, rfl⟩ (t_X5_cellOf hG3 k6r.2 hr9) (Nat.le_of_ble_eq_true rfl) ⟨Nat.le_of_ble_eq_true rfl, Nat.le_of_ble_eq_true rfl⟩ rfl (Nat.le_of_ble_eq_true rfl) ?_
  have hG8 := gp_X5_cellOf hG3 k6r.2 hr9
  refine vv_istore (lv' := [(4, _), (3, _), (0, _), (1, _), (2, _)]) 17 4 dX11_way_17 (by decide) rfl ?_
  refine vv_iload_n 19 3 dX11_way_19 rfl rfl ?_
  refine vv_iconst 20 dX11_way_20 ik_m1 ?_
  refine vv_icmp_eq 21 30 dX11_way_21 (by decide) (fun c11 => ?_) (fun c11 => ?_)
  · rw [if_pos c11] at h
    refine vv_iconst 30 dX11_way_30 ik_m1 ?_
    refine vv_goto 31 52 dX11_way_31 (by decide) ?_
    obtain ⟨e1, e2⟩ := sh_some2 h
    refine vv_iret 52 dX11_way_52 rfl (Nat.le_refl _) (Nat.le_refl _) ⟨by rw [e1], e2⟩
  · rw [if_neg c11] at h
    refine vv_iload 24 4 dX11_way_24 rfl ?_
    refine vv_iconst 26 dX11_way_26 ik_m1 ?_
    refine vv_icmp_ne 27 34 dX11_way_27 (by decide) (fun c12 => ?_) (fun c12 => ?_)
    · rw [if_neg c12] at h
      refine vv_aload_n 34 0 dX11_way_34 rfl rfl ?_
      refine vv_getR 35 dX11_way_35 fl_11_99 rfl (g_l_0 hG8) (g_r_0_13 hG8) ?_
      refine vv_aload_n 38 0 dX11_way_38 rfl rfl ?_
      obtain ⟨k13, h⟩ := sh_chk h
      refine vv_getR 39 dX11_way_39 fl_11_53 rfl (g_l_0 hG8) k13.1 ?_
      refine vv_topr (fun r14 er14 => ?_)
      rw [sh_let_eq er14] at h
      have k13r : sh_r μ8 0 7 = some r14 ∧ (r14 = 8 ∨ r14 = 29) := by rw [er14]; exact k13
      refine vv_aload_n 42 0 dX11_way_42 rfl rfl ?_
      refine vv_getR 43 dX11_way_43 fl_11_60 rfl (g_l_0 hG8) (g_r_0_8 hG8) ?_
      refine vv_iload_n 46 3 dX11_way_46 rfl rfl ?_
      refine vv_iload 47 4 dX11_way_47 rfl ?_
      obtain ⟨y17, μ15, hr16, h⟩ := sh_bind_e h
      refine v1_callV [_, _, _, _] 49 dX11_way_49 ck_X11_273 (g_l_287 hG8) ⟨by decide, rfl⟩ (t_X9_cost hG8 k13r.2 sh_isL_49 hr16) (Nat.le_of_ble_eq_true rfl) ⟨Nat.le_of_ble_eq_true rfl, Nat.le_of_ble_eq_true rfl⟩ rfl (Nat.le_of_ble_eq_true rfl) ?_
      have hG15 := gp_X9_cost hG8 k13r.2 sh_isL_49 hr16
      obtain ⟨e1, e2⟩ := sh_some2 h
      refine vv_iret 52 dX11_way_52 rfl (Nat.le_refl _) (Nat.le_refl _) ⟨by rw [e1], e2⟩
    · rw [if_pos c12] at h
      refine vv_iconst 30 dX11_way_30 ik_m1 ?_
      refine vv_goto 31 52 dX11_way_31 (by decide) ?_
      obtain ⟨e1, e2⟩ := sh_some2 h
      refine vv_iret 52 dX11_way_52 rfl (Nat.le_refl _) (Nat.le_refl _) ⟨by rw [e1], e2⟩
noncomputable def F_X11_on : Nat → Nat → Int32 → Int32 → Int32 → sh_Mem → Option (Int32 × sh_Mem)
  | 0, _, _, _, _, _ => none
  | fuel + 1, lbl, i1, i2, i3, μ => match lbl with
    | 1 => (if (sh_r μ 0 7 = some (sh_ref μ 0 7) ∧ ((sh_ref μ 0 7) = 8 ∨ (sh_ref μ 0 7) = 29)) then sh_let (sh_ref μ 0 7) (fun r40 => (if (sh_i μ r40 3) ≤ i3 then sh_bindv (f_X4_forget μ) (fun μ42 => some (1, μ42)) else sh_let (((2 + i2) + (i3 * 4)) : Int32) (fun x45 => (if sh_in x45 1600 then (if sh_in i3 7 then sh_let (sh_setI μ 51 i3.toNatClampNeg (sh_i μ 1 x45.toNatClampNeg)) (fun μ48 => (if sh_in (x45 + 1) 1600 then (if sh_in i3 7 then sh_let (sh_setI μ48 52 i3.toNatClampNeg (sh_i μ48 1 ((x45 + 1)).toNatClampNeg)) (fun μ51 => (if sh_in (x45 + 2) 1600 then (if sh_in i3 7 then sh_let (sh_setI μ51 53 i3.toNatClampNeg (sh_i μ51 1 ((x45 + 2)).toNatClampNeg)) (fun μ54 => (if sh_in (x45 + 3) 1600 then (if sh_in i3 7 then sh_let (sh_setI μ54 54 i3.toNatClampNeg (sh_i μ54 1 ((x45 + 3)).toNatClampNeg)) (fun μ57 => F_X11_on fuel 1 i1 i2 (i3 + 1) μ57) else none) else none)) else none) else none)) else none) else none)) else none) else none)))) else none)
    | _ => none
noncomputable def f_X11_on (μ : sh_Mem) : Option (Int32 × sh_Mem) := sh_bind (f_X11_takeTape μ) (fun y60 μ58 => sh_bind (f_X11_isImage y60 μ58) (fun y63 μ61 => (if y63 = 0 then sh_bind (f_X11_refuse 5 μ61) (fun y75 μ73 => (if y75 = 0 ∨ y75 = 1 then some (y75, μ73) else none)) else (if (sh_r μ61 0 7 = some (sh_ref μ61 0 7) ∧ ((sh_ref μ61 0 7) = 8 ∨ (sh_ref μ61 0 7) = 29)) then sh_let (sh_ref μ61 0 7) (fun r66 => sh_let ((f_X5_cells μ61 r66) : Int32) (fun x67 => sh_let (sh_setI μ61 49 0 (((sh_i μ61 1 (Int32.toNatClampNeg 0)) * 256) + (sh_i μ61 1 (Int32.toNatClampNeg 1)))) (fun μ68 => (if ¬ x67 < 0 then (if (Int32.toNatClampNeg 2) + x67.toNatClampNeg ≤ 1600 then (if (Int32.toNatClampNeg 0) + x67.toNatClampNeg ≤ 49 then sh_let (sh_rowI μ68 50 (va_cpy (sh_i μ68 1) (sh_i μ68 50) (Int32.toNatClampNeg 2) (Int32.toNatClampNeg 0) x67.toNatClampNeg)) (fun μ72 => F_X11_on sh_fuel 1 y60 x67 0 μ72) else none) else none) else none)))) else none))))
theorem gpl_X11_on (fuel : Nat) : (∀ ⦃i1 : Int32⦄ ⦃i2 : Int32⦄ ⦃i3 : Int32⦄ ⦃μ μ' : sh_Mem⦄ ⦃v : Int32⦄, sh_G μ → F_X11_on fuel 1 i1 i2 i3 μ = some (v, μ') → sh_G μ') := by
  induction fuel with
  | zero => intro i1 i2 i3 μ μ' v hG h; cases h
  | succ fuel ih =>
    have ih_70 := ih
    intro i1 i2 i3 μ μ' v hG h
    replace h : ((if (sh_r μ 0 7 = some (sh_ref μ 0 7) ∧ ((sh_ref μ 0 7) = 8 ∨ (sh_ref μ 0 7) = 29)) then sh_let (sh_ref μ 0 7) (fun r40 => (if (sh_i μ r40 3) ≤ i3 then sh_bindv (f_X4_forget μ) (fun μ42 => some (1, μ42)) else sh_let (((2 + i2) + (i3 * 4)) : Int32) (fun x45 => (if sh_in x45 1600 then (if sh_in i3 7 then sh_let (sh_setI μ 51 i3.toNatClampNeg (sh_i μ 1 x45.toNatClampNeg)) (fun μ48 => (if sh_in (x45 + 1) 1600 then (if sh_in i3 7 then sh_let (sh_setI μ48 52 i3.toNatClampNeg (sh_i μ48 1 ((x45 + 1)).toNatClampNeg)) (fun μ51 => (if sh_in (x45 + 2) 1600 then (if sh_in i3 7 then sh_let (sh_setI μ51 53 i3.toNatClampNeg (sh_i μ51 1 ((x45 + 2)).toNatClampNeg)) (fun μ54 => (if sh_in (x45 + 3) 1600 then (if sh_in i3 7 then sh_let (sh_setI μ54 54 i3.toNatClampNeg (sh_i μ54 1 ((x45 + 3)).toNatClampNeg)) (fun μ57 => F_X11_on fuel 1 i1 i2 (i3 + 1) μ57) else none) else none)) else none) else none)) else none) else none)) else none) else none)))) else none) : Option (Int32 × sh_Mem)) = some (v, μ') := h
    obtain ⟨k39, h⟩ := sh_chk h
    obtain ⟨r40, er40⟩ : ∃ y : Nat, y = (sh_ref μ 0 7) := ⟨_, rfl⟩
    rw [sh_let_eq er40] at h
    have k39r : sh_r μ 0 7 = some r40 ∧ (r40 = 8 ∨ r40 = 29) := by rw [er40]; exact k39
    by_cases c41 : (sh_i μ r40 3) ≤ i3
    · rw [if_pos c41] at h
      obtain ⟨μ42, hr43, h⟩ := sh_bindv_e h
      have hG42 := gp_X4_forget hG hr43
      obtain ⟨e1, e2⟩ := sh_some2 h
      exact e2 ▸ hG42
    · rw [if_neg c41] at h
      obtain ⟨x45, ex45⟩ : ∃ y : Int32, y = ((2 + i2) + (i3 * 4)) := ⟨_, rfl⟩
      rw [sh_let_eq ex45] at h
      obtain ⟨k46, h⟩ := sh_chk h
      obtain ⟨k47, h⟩ := sh_chk h
      obtain ⟨μ48, eμ48⟩ : ∃ y : sh_Mem, y = (sh_setI μ 51 i3.toNatClampNeg (sh_i μ 1 x45.toNatClampNeg)) := ⟨_, rfl⟩
      rw [sh_let_eq eμ48] at h
      have hG48 : sh_G μ48 := by rw [eμ48]; exact hG
      obtain ⟨k49, h⟩ := sh_chk h
      obtain ⟨k50, h⟩ := sh_chk h
      obtain ⟨μ51, eμ51⟩ : ∃ y : sh_Mem, y = (sh_setI μ48 52 i3.toNatClampNeg (sh_i μ48 1 ((x45 + 1)).toNatClampNeg)) := ⟨_, rfl⟩
      rw [sh_let_eq eμ51] at h
      have hG51 : sh_G μ51 := by rw [eμ51]; exact hG48
      obtain ⟨k52, h⟩ := sh_chk h
      obtain ⟨k53, h⟩ := sh_chk h
      obtain ⟨μ54, eμ54⟩ : ∃ y : sh_Mem, y = (sh_setI μ51 53 i3.toNatClampNeg (sh_i μ51 1 ((x45 + 2)).toNatClampNeg)) := ⟨_, rfl⟩
      rw [sh_let_eq eμ54] at h
      have hG54 : sh_G μ54 := by rw [eμ54]; exact hG51
      obtain ⟨k55, h⟩ := sh_chk h
      obtain ⟨k56, h⟩ := sh_chk h
      obtain ⟨μ57, eμ57⟩ : ∃ y : sh_Mem, y = (sh_setI μ54 54 i3.toNatClampNeg (sh_i μ54 1 ((x45 + 3)).toNatClampNeg)) := ⟨_, rfl⟩
      rw [sh_let_eq eμ57] at h
      have hG57 : sh_G μ57 := by rw [eμ57]; exact hG54
      exact ih_70 hG57 h
theorem tl_X11_on (fuel : Nat) : (∀ ⦃i1 : Int32⦄ ⦃i2 : Int32⦄ ⦃i3 : Int32⦄ ⦃μ μ' : sh_Mem⦄ ⦃v : Int32⦄, sh_G μ → F_X11_on fuel 1 i1 i2 i3 μ = some (v, μ') → sh_V0 l B D ca 4 M_X11_on 70 [(0, .ref 0), (1, .int i1), (2, .int i2), (3, .int i3)] [] μ (fun v0 μ0 => v0 = some (.int v) ∧ μ0 = μ')) := by
  induction fuel with
  | zero => intro i1 i2 i3 μ μ' v hG h; cases h
  | succ fuel ih =>
    have ih_70 := ih
    intro i1 i2 i3 μ μ' v hG h
    replace h : ((if (sh_r μ 0 7 = some (sh_ref μ 0 7) ∧ ((sh_ref μ 0 7) = 8 ∨ (sh_ref μ 0 7) = 29)) then sh_let (sh_ref μ 0 7) (fun r40 => (if (sh_i μ r40 3) ≤ i3 then sh_bindv (f_X4_forget μ) (fun μ42 => some (1, μ42)) else sh_let (((2 + i2) + (i3 * 4)) : Int32) (fun x45 => (if sh_in x45 1600 then (if sh_in i3 7 then sh_let (sh_setI μ 51 i3.toNatClampNeg (sh_i μ 1 x45.toNatClampNeg)) (fun μ48 => (if sh_in (x45 + 1) 1600 then (if sh_in i3 7 then sh_let (sh_setI μ48 52 i3.toNatClampNeg (sh_i μ48 1 ((x45 + 1)).toNatClampNeg)) (fun μ51 => (if sh_in (x45 + 2) 1600 then (if sh_in i3 7 then sh_let (sh_setI μ51 53 i3.toNatClampNeg (sh_i μ51 1 ((x45 + 2)).toNatClampNeg)) (fun μ54 => (if sh_in (x45 + 3) 1600 then (if sh_in i3 7 then sh_let (sh_setI μ54 54 i3.toNatClampNeg (sh_i μ54 1 ((x45 + 3)).toNatClampNeg)) (fun μ57 => F_X11_on fuel 1 i1 i2 (i3 + 1) μ57) else none) else none)) else none) else none)) else none) else none)) else none) else none)))) else none) : Option (Int32 × sh_Mem)) = some (v, μ') := h
    refine vv_iload_n 70 3 dX11_on_70 rfl rfl ?_
    refine vv_aload_n 71 0 dX11_on_71 rfl rfl ?_
    obtain ⟨k39, h⟩ := sh_chk h
    refine vv_getR 72 dX11_on_72 fl_11_53 rfl (g_l_0 hG) k39.1 ?_
    refine vv_topr (fun r40 er40 => ?_)
    rw [sh_let_eq er40] at h
    have k39r : sh_r μ 0 7 = some r40 ∧ (r40 = 8 ∨ r40 = 29) := by rw [er40]; exact k39
    refine vv_getI 75 dX11_on_75 fl_11_180 rfl (gP_l hG k39r.2) ?_
    refine vv_icmp_ge 78 166 dX11_on_78 (by decide) (fun c41 => ?_) (fun c41 => ?_)
    · rw [if_pos c41] at h
      refine vv_aload_n 166 0 dX11_on_166 rfl rfl ?_
      refine vv_getR 167 dX11_on_167 fl_11_76 rfl (g_l_0 hG) (g_r_0_10 hG) ?_
      obtain ⟨μ42, hr43, h⟩ := sh_bindv_e h
      refine v1_callV [] 170 dX11_on_170 ck_X11_159 (g_l_63 hG) ⟨by decide, rfl⟩ (t_X4_forget hG hr43) (Nat.le_of_ble_eq_true rfl) ⟨Nat.le_of_ble_eq_true rfl, Nat.le_of_ble_eq_true rfl⟩ rfl (Nat.le_of_ble_eq_true rfl) ?_
      have hG42 := gp_X4_forget hG hr43
      refine vv_iconst 173 dX11_on_173 ik_1 ?_
      obtain ⟨e1, e2⟩ := sh_some2 h
      refine vv_zret 174 dX11_on_174 rfl rfl (Nat.le_refl _) (Nat.le_refl _) ⟨by rw [e1], e2⟩
    · rw [if_neg c41] at h
      refine vv_iconst 81 dX11_on_81 ik_2 ?_
      refine vv_iload_n 82 2 dX11_on_82 rfl rfl ?_
      refine vv_iadd 83 dX11_on_83 ?_
      refine vv_iload_n 84 3 dX11_on_84 rfl rfl ?_
      refine vv_iconst 85 dX11_on_85 ik_4 ?_
      refine vv_imul 86 dX11_on_86 ?_
      refine vv_iadd 87 dX11_on_87 ?_
      refine vv_topi (fun x45 ex45 => ?_)
      rw [sh_let_eq ex45] at h
      refine vv_istore (lv' := [(4, _), (0, _), (1, _), (2, _), (3, _)]) 88 4 dX11_on_88 (by decide) rfl ?_
      refine vv_aload_n 90 0 dX11_on_90 rfl rfl ?_
      refine vv_getR 91 dX11_on_91 fl_11_60 rfl (g_l_0 hG) (g_r_0_8 hG) ?_
      refine vv_getR 94 dX11_on_94 fl_11_223 rfl (g_l_49 hG) (g_r_49_2 hG) ?_
      refine vv_iload_n 97 3 dX11_on_97 rfl rfl ?_
      refine vv_aload_n 98 0 dX11_on_98 rfl rfl ?_
      refine vv_getR 99 dX11_on_99 fl_11_9 rfl (g_l_0 hG) (g_r_0_0 hG) ?_
      refine vv_iload 102 4 dX11_on_102 rfl ?_
      obtain ⟨k46, h⟩ := sh_chk h
      refine vv_iald 104 dX11_on_104 (g_l_1 hG) k46 ?_
      obtain ⟨k47, h⟩ := sh_chk h
      refine vn_iast 105 dX11_on_105 (g_l_51 hG) k47 (fun μ48 eμ48 => ?_)
      rw [sh_let_eq eμ48] at h
      have hG48 : sh_G μ48 := by rw [eμ48]; exact hG
      refine vv_aload_n 106 0 dX11_on_106 rfl rfl ?_
      refine vv_getR 107 dX11_on_107 fl_11_60 rfl (g_l_0 hG48) (g_r_0_8 hG48) ?_
      refine vv_getR 110 dX11_on_110 fl_11_226 rfl (g_l_49 hG48) (g_r_49_3 hG48) ?_
      refine vv_iload_n 113 3 dX11_on_113 rfl rfl ?_
      refine vv_aload_n 114 0 dX11_on_114 rfl rfl ?_
      refine vv_getR 115 dX11_on_115 fl_11_9 rfl (g_l_0 hG48) (g_r_0_0 hG48) ?_
      refine vv_iload 118 4 dX11_on_118 rfl ?_
      refine vv_iconst 120 dX11_on_120 ik_1 ?_
      refine vv_iadd 121 dX11_on_121 ?_
      obtain ⟨k49, h⟩ := sh_chk h
      refine vv_iald 122 dX11_on_122 (g_l_1 hG48) k49 ?_
      obtain ⟨k50, h⟩ := sh_chk h
      refine vn_iast 123 dX11_on_123 (g_l_52 hG48) k50 (fun μ51 eμ51 => ?_)
      rw [sh_let_eq eμ51] at h
      have hG51 : sh_G μ51 := by rw [eμ51]; exact hG48
      refine vv_aload_n 124 0 dX11_on_124 rfl rfl ?_
      refine vv_getR 125 dX11_on_125 fl_11_60 rfl (g_l_0 hG51) (g_r_0_8 hG51) ?_
      refine vv_getR 128 dX11_on_128 fl_11_229 rfl (g_l_49 hG51) (g_r_49_4 hG51) ?_
      refine vv_iload_n 131 3 dX11_on_131 rfl rfl ?_
      refine vv_aload_n 132 0 dX11_on_132 rfl rfl ?_
      refine vv_getR 133 dX11_on_133 fl_11_9 rfl (g_l_0 hG51) (g_r_0_0 hG51) ?_
      refine vv_iload 136 4 dX11_on_136 rfl ?_
      refine vv_iconst 138 dX11_on_138 ik_2 ?_
      refine vv_iadd 139 dX11_on_139 ?_
      obtain ⟨k52, h⟩ := sh_chk h
      refine vv_iald 140 dX11_on_140 (g_l_1 hG51) k52 ?_
      obtain ⟨k53, h⟩ := sh_chk h
      refine vn_iast 141 dX11_on_141 (g_l_53 hG51) k53 (fun μ54 eμ54 => ?_)
      rw [sh_let_eq eμ54] at h
      have hG54 : sh_G μ54 := by rw [eμ54]; exact hG51
      refine vv_aload_n 142 0 dX11_on_142 rfl rfl ?_
      refine vv_getR 143 dX11_on_143 fl_11_60 rfl (g_l_0 hG54) (g_r_0_8 hG54) ?_
      refine vv_getR 146 dX11_on_146 fl_11_232 rfl (g_l_49 hG54) (g_r_49_5 hG54) ?_
      refine vv_iload_n 149 3 dX11_on_149 rfl rfl ?_
      refine vv_aload_n 150 0 dX11_on_150 rfl rfl ?_
      refine vv_getR 151 dX11_on_151 fl_11_9 rfl (g_l_0 hG54) (g_r_0_0 hG54) ?_
      refine vv_iload 154 4 dX11_on_154 rfl ?_
      refine vv_iconst 156 dX11_on_156 ik_3 ?_
      refine vv_iadd 157 dX11_on_157 ?_
      obtain ⟨k55, h⟩ := sh_chk h
      refine vv_iald 158 dX11_on_158 (g_l_1 hG54) k55 ?_
      obtain ⟨k56, h⟩ := sh_chk h
      refine vn_iast 159 dX11_on_159 (g_l_54 hG54) k56 (fun μ57 eμ57 => ?_)
      rw [sh_let_eq eμ57] at h
      have hG57 : sh_G μ57 := by rw [eμ57]; exact hG54
      refine vv_iincc (lv' := [(3, _), (4, _), (0, _), (1, _), (2, _)]) 160 3 dX11_on_160 rfl ik_1 (by decide) rfl ?_
      refine vv_goto 163 70 dX11_on_163 (by decide) ?_
      refine vv_sub [(0, _), (1, _), (2, _), (3, _)] (sh_subm [2, 3, 4, 0] rfl) ?_
      exact ih_70 hG57 h
theorem gp_X11_on {μ μ' : sh_Mem} {v : Int32} (hG : sh_G μ) (h : f_X11_on μ = some (v, μ')) : sh_G μ' := by
  have ih_70 := (gpl_X11_on sh_fuel)
  unfold f_X11_on at h
  obtain ⟨y60, μ58, hr59, h⟩ := sh_bind_e h
  have hG58 := gp_X11_takeTape hG hr59
  obtain ⟨y63, μ61, hr62, h⟩ := sh_bind_e h
  have hG61 := gp_X11_isImage hG58 hr62
  by_cases c64 : y63 = 0
  · rw [if_pos c64] at h
    obtain ⟨y75, μ73, hr74, h⟩ := sh_bind_e h
    have hG73 := gp_X11_refuse hG61 hr74
    obtain ⟨k76, h⟩ := sh_chk h
    obtain ⟨e1, e2⟩ := sh_some2 h
    exact e2 ▸ hG73
  · rw [if_neg c64] at h
    obtain ⟨k65, h⟩ := sh_chk h
    obtain ⟨r66, er66⟩ : ∃ y : Nat, y = (sh_ref μ61 0 7) := ⟨_, rfl⟩
    rw [sh_let_eq er66] at h
    have k65r : sh_r μ61 0 7 = some r66 ∧ (r66 = 8 ∨ r66 = 29) := by rw [er66]; exact k65
    obtain ⟨x67, ex67⟩ : ∃ y : Int32, y = (f_X5_cells μ61 r66) := ⟨_, rfl⟩
    rw [sh_let_eq ex67] at h
    obtain ⟨μ68, eμ68⟩ : ∃ y : sh_Mem, y = (sh_setI μ61 49 0 (((sh_i μ61 1 (Int32.toNatClampNeg 0)) * 256) + (sh_i μ61 1 (Int32.toNatClampNeg 1)))) := ⟨_, rfl⟩
    rw [sh_let_eq eμ68] at h
    have hG68 : sh_G μ68 := by rw [eμ68]; exact hG61
    obtain ⟨k69, h⟩ := sh_chk h
    obtain ⟨k70, h⟩ := sh_chk h
    obtain ⟨k71, h⟩ := sh_chk h
    obtain ⟨μ72, eμ72⟩ : ∃ y : sh_Mem, y = (sh_rowI μ68 50 (va_cpy (sh_i μ68 1) (sh_i μ68 50) (Int32.toNatClampNeg 2) (Int32.toNatClampNeg 0) x67.toNatClampNeg)) := ⟨_, rfl⟩
    rw [sh_let_eq eμ72] at h
    have hG72 : sh_G μ72 := by rw [eμ72]; exact hG68
    exact ih_70 hG72 h
theorem t_X11_on {μ μ' : sh_Mem} {v : Int32} (hG : sh_G μ) (h : f_X11_on μ = some (v, μ')) : sh_C0 l B D ca 4 M_X11_on [.ref 0] μ (fun v0 μ0 => v0 = some (.int v) ∧ μ0 = μ') := by
  have ih_70 := (tl_X11_on (l := l) (B := B) (D := D) (ca := ca) sh_fuel)
  unfold f_X11_on at h
  refine vv_aload_n 0 0 dX11_on_0 rfl rfl ?_
  obtain ⟨y60, μ58, hr59, h⟩ := sh_bind_e h
  refine v1_callV [] 1 dX11_on_1 ck_X11_132 (g_l_0 hG) ⟨by decide, rfl⟩ (t_X11_takeTape hG hr59) (Nat.le_of_ble_eq_true rfl) ⟨Nat.le_of_ble_eq_true rfl, Nat.le_of_ble_eq_true rfl⟩ rfl (Nat.le_of_ble_eq_true rfl) ?_
  have hG58 := gp_X11_takeTape hG hr59
  refine vv_istore_n (lv' := [(1, _), (0, _)]) 4 1 dX11_on_4 rfl (by decide) rfl ?_
  refine vv_aload_n 5 0 dX11_on_5 rfl rfl ?_
  refine vv_iload_n 6 1 dX11_on_6 rfl rfl ?_
  obtain ⟨y63, μ61, hr62, h⟩ := sh_bind_e h
  refine v1_callV [_] 7 dX11_on_7 ck_X11_405 (g_l_0 hG58) ⟨by decide, rfl⟩ (t_X11_isImage hG58 hr62) (Nat.le_of_ble_eq_true rfl) ⟨Nat.le_of_ble_eq_true rfl, Nat.le_of_ble_eq_true rfl⟩ rfl (Nat.le_of_ble_eq_true rfl) ?_
  have hG61 := gp_X11_isImage hG58 hr62
  refine vv_if_ne 10 19 dX11_on_10 (by decide) (fun c64 => ?_) (fun c64 => ?_)
  · rw [if_neg c64] at h
    refine vv_aload_n 19 0 dX11_on_19 rfl rfl ?_
    obtain ⟨k65, h⟩ := sh_chk h
    refine vv_getR 20 dX11_on_20 fl_11_53 rfl (g_l_0 hG61) k65.1 ?_
    refine vv_topr (fun r66 er66 => ?_)
    rw [sh_let_eq er66] at h
    have k65r : sh_r μ61 0 7 = some r66 ∧ (r66 = 8 ∨ r66 = 29) := by rw [er66]; exact k65
    refine v1_callV [] 23 dX11_on_23 ck_X11_189 (gP_l hG61 k65r.2) ⟨by decide, rfl⟩ (c_X5_cells (μ := μ61) hG61 k65r.2) (Nat.le_of_ble_eq_true rfl) ⟨Nat.le_of_ble_eq_true rfl, Nat.le_of_ble_eq_true rfl⟩ rfl (Nat.le_of_ble_eq_true rfl) ?_
    refine vv_topi (fun x67 ex67 => ?_)
    rw [sh_let_eq ex67] at h
    refine vv_istore_n (lv' := [(2, _), (1, _), (0, _)]) 26 2 dX11_on_26 rfl (by decide) rfl ?_
    refine vv_aload_n 27 0 dX11_on_27 rfl rfl ?_
    refine vv_getR 28 dX11_on_28 fl_11_60 rfl (g_l_0 hG61) (g_r_0_8 hG61) ?_
    refine vv_aload_n 31 0 dX11_on_31 rfl rfl ?_
    refine vv_getR 32 dX11_on_32 fl_11_9 rfl (g_l_0 hG61) (g_r_0_0 hG61) ?_
    refine vv_iconst 35 dX11_on_35 ik_0 ?_
    refine vv_iald 36 dX11_on_36 (g_l_1 hG61) (by unfold vp_in; decide) ?_
    refine vv_sipush 37 dX11_on_37 sk_256 ?_
    refine vv_imul 40 dX11_on_40 ?_
    refine vv_aload_n 41 0 dX11_on_41 rfl rfl ?_
    refine vv_getR 42 dX11_on_42 fl_11_9 rfl (g_l_0 hG61) (g_r_0_0 hG61) ?_
    refine vv_iconst 45 dX11_on_45 ik_1 ?_
    refine vv_iald 46 dX11_on_46 (g_l_1 hG61) (by unfold vp_in; decide) ?_
    refine vv_iadd 47 dX11_on_47 ?_
    refine vn_putI 48 dX11_on_48 fl_11_186 (Or.inl rfl) rfl (g_l_49 hG61) (fun μ68 eμ68 => ?_)
    rw [sh_let_eq eμ68] at h
    have hG68 : sh_G μ68 := by rw [eμ68]; exact hG61
    refine vv_aload_n 51 0 dX11_on_51 rfl rfl ?_
    refine vv_getR 52 dX11_on_52 fl_11_9 rfl (g_l_0 hG68) (g_r_0_0 hG68) ?_
    refine vv_iconst 55 dX11_on_55 ik_2 ?_
    refine vv_aload_n 56 0 dX11_on_56 rfl rfl ?_
    refine vv_getR 57 dX11_on_57 fl_11_60 rfl (g_l_0 hG68) (g_r_0_8 hG68) ?_
    refine vv_getR 60 dX11_on_60 fl_11_220 rfl (g_l_49 hG68) (g_r_49_1 hG68) ?_
    refine vv_iconst 63 dX11_on_63 ik_0 ?_
    refine vv_iload_n 64 2 dX11_on_64 rfl rfl ?_
    obtain ⟨k69, h⟩ := sh_chk h
    obtain ⟨k70, h⟩ := sh_chk h
    obtain ⟨k71, h⟩ := sh_chk h
    refine vn_copy 65 dX11_on_65 ck_X11_302 (g_l_1 hG68) (g_l_50 hG68) (by decide) (by decide) k69 k70 k71 (Nat.le_of_ble_eq_true rfl) (Nat.le_of_ble_eq_true rfl) (fun μ72 eμ72 => ?_)
    rw [sh_let_eq eμ72] at h
    have hG72 : sh_G μ72 := by rw [eμ72]; exact hG68
    refine vv_iconst 68 dX11_on_68 ik_0 ?_
    refine vv_istore_n (lv' := [(3, _), (2, _), (1, _), (0, _)]) 69 3 dX11_on_69 rfl (by decide) rfl ?_
    refine vv_sub [(0, _), (1, _), (2, _), (3, _)] (sh_subm [3, 2, 1, 0] rfl) ?_
    exact ih_70 hG72 h
  · rw [if_pos c64] at h
    refine vv_aload_n 13 0 dX11_on_13 rfl rfl ?_
    refine vv_iconst 14 dX11_on_14 ik_5 ?_
    obtain ⟨y75, μ73, hr74, h⟩ := sh_bind_e h
    refine v1_callV [_] 15 dX11_on_15 ck_X11_128 (g_l_0 hG61) ⟨by decide, rfl⟩ (t_X11_refuse hG61 hr74) (Nat.le_of_ble_eq_true rfl) ⟨Nat.le_of_ble_eq_true rfl, Nat.le_of_ble_eq_true rfl⟩ rfl (Nat.le_of_ble_eq_true rfl) ?_
    have hG73 := gp_X11_refuse hG61 hr74
    obtain ⟨k76, h⟩ := sh_chk h
    obtain ⟨e1, e2⟩ := sh_some2 h
    refine vv_zret 18 dX11_on_18 rfl (sh_nb k76) (Nat.le_refl _) (Nat.le_refl _) ⟨by rw [e1], e2⟩
noncomputable def F_X2_test (rec : Nat → Int32 → Int32 → Int32 → sh_Mem → Option (Int32 × sh_Mem)) : Nat → Nat → Int32 → Int32 → Int32 → sh_Mem → Option (Int32 × sh_Mem)
  | 0, _, _, _, _, _ => none
  | fuel + 1, lbl, i1, i2, i3, μ => match lbl with
    | 1 => (if 1600 ≤ i3 then (if i2 = 0 ∨ i2 = 1 then some (i2, μ) else none) else (if i2 = 0 then (if i2 = 0 ∨ i2 = 1 then some (i2, μ) else none) else (if (f_X8_isWord μ 21) = 0 then (if i2 = 0 ∨ i2 = 1 then some (i2, μ) else none) else sh_bindv (f_X8_advance μ) (fun μ27 => sh_bind (rec 1 i1 0 0 μ27) (fun y32 μ30 => (if (sh_r μ30 6 1 = some (sh_ref μ30 6 1) ∧ (sh_ref μ30 6 1) ∈ sh_FORMS) then sh_let (sh_ref μ30 6 1) (fun r34 => sh_bindv (f_X1_addWord r34 21 μ30) (fun μ35 => F_X2_test rec fuel 1 i1 y32 (i3 + 1) μ35)) else none))))))
    | _ => none
noncomputable def f_X2_test (rec : Nat → Int32 → Int32 → Int32 → sh_Mem → Option (Int32 × sh_Mem)) (a1 : Int32) (μ : sh_Mem) : Option (Int32 × sh_Mem) := sh_bind (rec 1 a1 0 0 μ) (fun y40 μ38 => F_X2_test rec sh_fuel 1 a1 y40 0 μ38)
theorem gpl_X2_test {rec : Nat → Int32 → Int32 → Int32 → sh_Mem → Option (Int32 × sh_Mem)} (grec : ∀ ⦃k : Nat⦄ ⦃b1 b2 b3 : Int32⦄ ⦃μ μ' : sh_Mem⦄ ⦃v : Int32⦄, sh_G μ → rec k b1 b2 b3 μ = some (v, μ') → sh_G μ') (fuel : Nat) : (∀ ⦃i1 : Int32⦄ ⦃i2 : Int32⦄ ⦃i3 : Int32⦄ ⦃μ μ' : sh_Mem⦄ ⦃v : Int32⦄, sh_G μ → F_X2_test rec fuel 1 i1 i2 i3 μ = some (v, μ') → sh_G μ') := by
  induction fuel with
  | zero => intro i1 i2 i3 μ μ' v hG h; cases h
  | succ fuel ih =>
    have ih_8 := ih
    intro i1 i2 i3 μ μ' v hG h
    replace h : ((if 1600 ≤ i3 then (if i2 = 0 ∨ i2 = 1 then some (i2, μ) else none) else (if i2 = 0 then (if i2 = 0 ∨ i2 = 1 then some (i2, μ) else none) else (if (f_X8_isWord μ 21) = 0 then (if i2 = 0 ∨ i2 = 1 then some (i2, μ) else none) else sh_bindv (f_X8_advance μ) (fun μ27 => sh_bind (rec 1 i1 0 0 μ27) (fun y32 μ30 => (if (sh_r μ30 6 1 = some (sh_ref μ30 6 1) ∧ (sh_ref μ30 6 1) ∈ sh_FORMS) then sh_let (sh_ref μ30 6 1) (fun r34 => sh_bindv (f_X1_addWord r34 21 μ30) (fun μ35 => F_X2_test rec fuel 1 i1 y32 (i3 + 1) μ35)) else none)))))) : Option (Int32 × sh_Mem)) = some (v, μ') := h
    by_cases c21 : 1600 ≤ i3
    · rw [if_pos c21] at h
      obtain ⟨k22, h⟩ := sh_chk h
      obtain ⟨e1, e2⟩ := sh_some2 h
      exact e2 ▸ hG
    · rw [if_neg c21] at h
      by_cases c23 : i2 = 0
      · rw [if_pos c23] at h
        obtain ⟨k24, h⟩ := sh_chk h
        obtain ⟨e1, e2⟩ := sh_some2 h
        exact e2 ▸ hG
      · rw [if_neg c23] at h
        by_cases c25 : (f_X8_isWord μ 21) = 0
        · rw [if_pos c25] at h
          obtain ⟨k26, h⟩ := sh_chk h
          obtain ⟨e1, e2⟩ := sh_some2 h
          exact e2 ▸ hG
        · rw [if_neg c25] at h
          obtain ⟨μ27, hr28, h⟩ := sh_bindv_e h
          have hG27 := gp_X8_advance hG hr28
          obtain ⟨y32, μ30, hr31, h⟩ := sh_bind_e h
          have hG30 := grec hG27 hr31
          obtain ⟨k33, h⟩ := sh_chk h
          obtain ⟨r34, er34⟩ : ∃ y : Nat, y = (sh_ref μ30 6 1) := ⟨_, rfl⟩
          rw [sh_let_eq er34] at h
          have k33r : sh_r μ30 6 1 = some r34 ∧ r34 ∈ sh_FORMS := by rw [er34]; exact k33
          obtain ⟨μ35, hr36, h⟩ := sh_bindv_e h
          have hG35 := gp_X1_addWord hG30 k33r.2 hr36
          exact ih_8 hG35 h
theorem tl_X2_test {rec : Nat → Int32 → Int32 → Int32 → sh_Mem → Option (Int32 × sh_Mem)} (grec : ∀ ⦃k : Nat⦄ ⦃b1 b2 b3 : Int32⦄ ⦃μ μ' : sh_Mem⦄ ⦃v : Int32⦄, sh_G μ → rec k b1 b2 b3 μ = some (v, μ') → sh_G μ') {d : Nat} (hd : 8 ≤ d) (h_X2_test : (∀ ⦃b1 : Int32⦄ ⦃μ μ' : sh_Mem⦄ ⦃v : Int32⦄, sh_G μ → rec 0 b1 0 0 μ = some (v, μ') → sh_C0 l B D ca d M_X2_test [.ref 6, .int b1] μ (fun v0 μ0 => v0 = some (.int v) ∧ μ0 = μ'))) (h_X2_both : (∀ ⦃b1 : Int32⦄ ⦃μ μ' : sh_Mem⦄ ⦃v : Int32⦄, sh_G μ → rec 1 b1 0 0 μ = some (v, μ') → sh_C0 l B D ca d M_X2_both [.ref 6, .int b1] μ (fun v0 μ0 => v0 = some (.int v) ∧ μ0 = μ'))) (h_X2_fact : (∀ ⦃b1 : Int32⦄ ⦃μ μ' : sh_Mem⦄ ⦃v : Int32⦄, sh_G μ → rec 2 b1 0 0 μ = some (v, μ') → sh_C0 l B D ca d M_X2_fact [.ref 6, .int b1] μ (fun v0 μ0 => v0 = some (.int v) ∧ μ0 = μ'))) (h_X2_sum : (∀ ⦃b1 : Int32⦄ ⦃μ μ' : sh_Mem⦄ ⦃v : Int32⦄, sh_G μ → rec 3 b1 0 0 μ = some (v, μ') → sh_C0 l B D ca d M_X2_sum [.ref 6, .int b1] μ (fun v0 μ0 => v0 = some (.int v) ∧ μ0 = μ'))) (h_X2_product : (∀ ⦃b1 : Int32⦄ ⦃μ μ' : sh_Mem⦄ ⦃v : Int32⦄, sh_G μ → rec 4 b1 0 0 μ = some (v, μ') → sh_C0 l B D ca d M_X2_product [.ref 6, .int b1] μ (fun v0 μ0 => v0 = some (.int v) ∧ μ0 = μ'))) (h_X2_part : (∀ ⦃b1 : Int32⦄ ⦃μ μ' : sh_Mem⦄ ⦃v : Int32⦄, sh_G μ → rec 5 b1 0 0 μ = some (v, μ') → sh_C0 l B D ca d M_X2_part [.ref 6, .int b1] μ (fun v0 μ0 => v0 = some (.int v) ∧ μ0 = μ'))) (h_X2_ofTwoSums : (∀ ⦃b1 b2 : Int32⦄ ⦃μ μ' : sh_Mem⦄ ⦃v : Int32⦄, sh_G μ → rec 6 b1 b2 0 μ = some (v, μ') → sh_C0 l B D ca d M_X2_ofTwoSums [.ref 6, .int b1, .int b2] μ (fun v0 μ0 => v0 = some (.int v) ∧ μ0 = μ'))) (fuel : Nat) : (∀ ⦃i1 : Int32⦄ ⦃i2 : Int32⦄ ⦃i3 : Int32⦄ ⦃μ μ' : sh_Mem⦄ ⦃v : Int32⦄, sh_G μ → F_X2_test rec fuel 1 i1 i2 i3 μ = some (v, μ') → sh_V0 l B D ca (d + 1) M_X2_test 8 [(0, .ref 6), (1, .int i1), (2, .int i2), (3, .int i3)] [] μ (fun v0 μ0 => v0 = some (.int v) ∧ μ0 = μ')) := by
  induction fuel with
  | zero => intro i1 i2 i3 μ μ' v hG h; cases h
  | succ fuel ih =>
    have ih_8 := ih
    intro i1 i2 i3 μ μ' v hG h
    replace h : ((if 1600 ≤ i3 then (if i2 = 0 ∨ i2 = 1 then some (i2, μ) else none) else (if i2 = 0 then (if i2 = 0 ∨ i2 = 1 then some (i2, μ) else none) else (if (f_X8_isWord μ 21) = 0 then (if i2 = 0 ∨ i2 = 1 then some (i2, μ) else none) else sh_bindv (f_X8_advance μ) (fun μ27 => sh_bind (rec 1 i1 0 0 μ27) (fun y32 μ30 => (if (sh_r μ30 6 1 = some (sh_ref μ30 6 1) ∧ (sh_ref μ30 6 1) ∈ sh_FORMS) then sh_let (sh_ref μ30 6 1) (fun r34 => sh_bindv (f_X1_addWord r34 21 μ30) (fun μ35 => F_X2_test rec fuel 1 i1 y32 (i3 + 1) μ35)) else none)))))) : Option (Int32 × sh_Mem)) = some (v, μ') := h
    refine vv_iload_n 8 3 dX2_test_8 rfl rfl ?_
    refine vv_sipush 9 dX2_test_9 sk_1600 ?_
    refine vv_icmp_ge 12 59 dX2_test_12 (by decide) (fun c21 => ?_) (fun c21 => ?_)
    · rw [if_pos c21] at h
      refine vv_iload_n 59 2 dX2_test_59 rfl rfl ?_
      obtain ⟨k22, h⟩ := sh_chk h
      obtain ⟨e1, e2⟩ := sh_some2 h
      refine vv_zret 60 dX2_test_60 rfl (sh_nb k22) (Nat.le_refl _) (Nat.le_refl _) ⟨by rw [e1], e2⟩
    · rw [if_neg c21] at h
      refine vv_iload_n 15 2 dX2_test_15 rfl rfl ?_
      refine vv_if_eq 16 59 dX2_test_16 (by decide) (fun c23 => ?_) (fun c23 => ?_)
      · rw [if_pos c23] at h
        refine vv_iload_n 59 2 dX2_test_59 rfl rfl ?_
        obtain ⟨k24, h⟩ := sh_chk h
        obtain ⟨e1, e2⟩ := sh_some2 h
        refine vv_zret 60 dX2_test_60 rfl (sh_nb k24) (Nat.le_refl _) (Nat.le_refl _) ⟨by rw [e1], e2⟩
      · rw [if_neg c23] at h
        refine vv_aload_n 19 0 dX2_test_19 rfl rfl ?_
        refine vv_getR 20 dX2_test_20 fl_2_9 rfl (g_l_6 hG) (g_r_6_0 hG) ?_
        refine vv_bipush 23 dX2_test_23 bk_21 ?_
        refine v1_callV [_] 25 dX2_test_25 ck_X2_63 (g_l_2 hG) ⟨by decide, rfl⟩ (c_X8_isWord (μ := μ) hG) (by omega) ⟨Nat.le_of_ble_eq_true rfl, Nat.le_of_ble_eq_true rfl⟩ rfl (Nat.le_of_ble_eq_true rfl) ?_
        refine vv_if_eq 28 59 dX2_test_28 (by decide) (fun c25 => ?_) (fun c25 => ?_)
        · rw [if_pos c25] at h
          refine vv_iload_n 59 2 dX2_test_59 rfl rfl ?_
          obtain ⟨k26, h⟩ := sh_chk h
          obtain ⟨e1, e2⟩ := sh_some2 h
          refine vv_zret 60 dX2_test_60 rfl (sh_nb k26) (Nat.le_refl _) (Nat.le_refl _) ⟨by rw [e1], e2⟩
        · rw [if_neg c25] at h
          refine vv_aload_n 31 0 dX2_test_31 rfl rfl ?_
          refine vv_getR 32 dX2_test_32 fl_2_9 rfl (g_l_6 hG) (g_r_6_0 hG) ?_
          obtain ⟨μ27, hr28, h⟩ := sh_bindv_e h
          refine v1_callV [] 35 dX2_test_35 ck_X2_43 (g_l_2 hG) ⟨by decide, rfl⟩ (t_X8_advance hG hr28) (by omega) ⟨Nat.le_of_ble_eq_true rfl, Nat.le_of_ble_eq_true rfl⟩ rfl (Nat.le_of_ble_eq_true rfl) ?_
          have hG27 := gp_X8_advance hG hr28
          refine vv_aload_n 38 0 dX2_test_38 rfl rfl ?_
          refine vv_iload_n 39 1 dX2_test_39 rfl rfl ?_
          obtain ⟨y32, μ30, hr31, h⟩ := sh_bind_e h
          refine v1_callV [_] 40 dX2_test_40 ck_X2_60 (g_l_6 hG27) ⟨by decide, rfl⟩ (h_X2_both hG27 hr31) (Nat.le_refl _) ⟨Nat.le_of_ble_eq_true rfl, Nat.le_of_ble_eq_true rfl⟩ rfl (Nat.le_of_ble_eq_true rfl) ?_
          have hG30 := grec hG27 hr31
          refine vv_istore_n (lv' := [(2, _), (0, _), (1, _), (3, _)]) 43 2 dX2_test_43 rfl (by decide) rfl ?_
          refine vv_aload_n 44 0 dX2_test_44 rfl rfl ?_
          obtain ⟨k33, h⟩ := sh_chk h
          refine vv_getR 45 dX2_test_45 fl_2_15 rfl (g_l_6 hG30) k33.1 ?_
          refine vv_topr (fun r34 er34 => ?_)
          rw [sh_let_eq er34] at h
          have k33r : sh_r μ30 6 1 = some r34 ∧ r34 ∈ sh_FORMS := by rw [er34]; exact k33
          refine vv_bipush 48 dX2_test_48 bk_21 ?_
          obtain ⟨μ35, hr36, h⟩ := sh_bindv_e h
          refine v1_callV [_] 50 dX2_test_50 ck_X2_66 (gF_l hG30 k33r.2) ⟨by decide, rfl⟩ (t_X1_addWord hG30 k33r.2 hr36) (by omega) ⟨Nat.le_of_ble_eq_true rfl, Nat.le_of_ble_eq_true rfl⟩ rfl (Nat.le_of_ble_eq_true rfl) ?_
          have hG35 := gp_X1_addWord hG30 k33r.2 hr36
          refine vv_iincc (lv' := [(3, _), (2, _), (0, _), (1, _)]) 53 3 dX2_test_53 rfl ik_1 (by decide) rfl ?_
          refine vv_goto 56 8 dX2_test_56 (by decide) ?_
          refine vv_sub [(0, _), (1, _), (2, _), (3, _)] (sh_subm [2, 3, 1, 0] rfl) ?_
          exact ih_8 hG35 h
theorem gp_X2_test {rec : Nat → Int32 → Int32 → Int32 → sh_Mem → Option (Int32 × sh_Mem)} {a1 : Int32} {μ μ' : sh_Mem} {v : Int32}  (grec : ∀ ⦃k : Nat⦄ ⦃b1 b2 b3 : Int32⦄ ⦃μ μ' : sh_Mem⦄ ⦃v : Int32⦄, sh_G μ → rec k b1 b2 b3 μ = some (v, μ') → sh_G μ')(hG : sh_G μ) (h : f_X2_test rec a1 μ = some (v, μ')) : sh_G μ' := by
  have ih_8 := (gpl_X2_test grec sh_fuel)
  unfold f_X2_test at h
  obtain ⟨y40, μ38, hr39, h⟩ := sh_bind_e h
  have hG38 := grec hG hr39
  exact ih_8 hG38 h
theorem t_X2_test {rec : Nat → Int32 → Int32 → Int32 → sh_Mem → Option (Int32 × sh_Mem)} {a1 : Int32} {μ μ' : sh_Mem} {v : Int32}  (grec : ∀ ⦃k : Nat⦄ ⦃b1 b2 b3 : Int32⦄ ⦃μ μ' : sh_Mem⦄ ⦃v : Int32⦄, sh_G μ → rec k b1 b2 b3 μ = some (v, μ') → sh_G μ') {d : Nat} (hd : 8 ≤ d) (h_X2_test : (∀ ⦃b1 : Int32⦄ ⦃μ μ' : sh_Mem⦄ ⦃v : Int32⦄, sh_G μ → rec 0 b1 0 0 μ = some (v, μ') → sh_C0 l B D ca d M_X2_test [.ref 6, .int b1] μ (fun v0 μ0 => v0 = some (.int v) ∧ μ0 = μ'))) (h_X2_both : (∀ ⦃b1 : Int32⦄ ⦃μ μ' : sh_Mem⦄ ⦃v : Int32⦄, sh_G μ → rec 1 b1 0 0 μ = some (v, μ') → sh_C0 l B D ca d M_X2_both [.ref 6, .int b1] μ (fun v0 μ0 => v0 = some (.int v) ∧ μ0 = μ'))) (h_X2_fact : (∀ ⦃b1 : Int32⦄ ⦃μ μ' : sh_Mem⦄ ⦃v : Int32⦄, sh_G μ → rec 2 b1 0 0 μ = some (v, μ') → sh_C0 l B D ca d M_X2_fact [.ref 6, .int b1] μ (fun v0 μ0 => v0 = some (.int v) ∧ μ0 = μ'))) (h_X2_sum : (∀ ⦃b1 : Int32⦄ ⦃μ μ' : sh_Mem⦄ ⦃v : Int32⦄, sh_G μ → rec 3 b1 0 0 μ = some (v, μ') → sh_C0 l B D ca d M_X2_sum [.ref 6, .int b1] μ (fun v0 μ0 => v0 = some (.int v) ∧ μ0 = μ'))) (h_X2_product : (∀ ⦃b1 : Int32⦄ ⦃μ μ' : sh_Mem⦄ ⦃v : Int32⦄, sh_G μ → rec 4 b1 0 0 μ = some (v, μ') → sh_C0 l B D ca d M_X2_product [.ref 6, .int b1] μ (fun v0 μ0 => v0 = some (.int v) ∧ μ0 = μ'))) (h_X2_part : (∀ ⦃b1 : Int32⦄ ⦃μ μ' : sh_Mem⦄ ⦃v : Int32⦄, sh_G μ → rec 5 b1 0 0 μ = some (v, μ') → sh_C0 l B D ca d M_X2_part [.ref 6, .int b1] μ (fun v0 μ0 => v0 = some (.int v) ∧ μ0 = μ'))) (h_X2_ofTwoSums : (∀ ⦃b1 b2 : Int32⦄ ⦃μ μ' : sh_Mem⦄ ⦃v : Int32⦄, sh_G μ → rec 6 b1 b2 0 μ = some (v, μ') → sh_C0 l B D ca d M_X2_ofTwoSums [.ref 6, .int b1, .int b2] μ (fun v0 μ0 => v0 = some (.int v) ∧ μ0 = μ')))(hG : sh_G μ) (h : f_X2_test rec a1 μ = some (v, μ')) : sh_C0 l B D ca (d + 1) M_X2_test [.ref 6, .int a1] μ (fun v0 μ0 => v0 = some (.int v) ∧ μ0 = μ') := by
  have ih_8 := (tl_X2_test (l := l) (B := B) (D := D) (ca := ca) grec hd h_X2_test h_X2_both h_X2_fact h_X2_sum h_X2_product h_X2_part h_X2_ofTwoSums sh_fuel)
  unfold f_X2_test at h
  refine vv_aload_n 0 0 dX2_test_0 rfl rfl ?_
  refine vv_iload_n 1 1 dX2_test_1 rfl rfl ?_
  obtain ⟨y40, μ38, hr39, h⟩ := sh_bind_e h
  refine v1_callV [_] 2 dX2_test_2 ck_X2_60 (g_l_6 hG) ⟨by decide, rfl⟩ (h_X2_both hG hr39) (Nat.le_refl _) ⟨Nat.le_of_ble_eq_true rfl, Nat.le_of_ble_eq_true rfl⟩ rfl (Nat.le_of_ble_eq_true rfl) ?_
  have hG38 := grec hG hr39
  refine vv_istore_n (lv' := [(2, _), (0, _), (1, _)]) 5 2 dX2_test_5 rfl (by decide) rfl ?_
  refine vv_iconst 6 dX2_test_6 ik_0 ?_
  refine vv_istore_n (lv' := [(3, _), (2, _), (0, _), (1, _)]) 7 3 dX2_test_7 rfl (by decide) rfl ?_
  refine vv_sub [(0, _), (1, _), (2, _), (3, _)] (sh_subm [2, 3, 1, 0] rfl) ?_
  exact ih_8 hG38 h
noncomputable def F_X2_both (rec : Nat → Int32 → Int32 → Int32 → sh_Mem → Option (Int32 × sh_Mem)) : Nat → Nat → Int32 → Int32 → Int32 → sh_Mem → Option (Int32 × sh_Mem)
  | 0, _, _, _, _, _ => none
  | fuel + 1, lbl, i1, i2, i3, μ => match lbl with
    | 1 => (if 1600 ≤ i3 then (if i2 = 0 ∨ i2 = 1 then some (i2, μ) else none) else (if i2 = 0 then (if i2 = 0 ∨ i2 = 1 then some (i2, μ) else none) else (if (f_X8_isWord μ 22) = 0 then (if i2 = 0 ∨ i2 = 1 then some (i2, μ) else none) else sh_bindv (f_X8_advance μ) (fun μ27 => sh_bind (rec 2 i1 0 0 μ27) (fun y32 μ30 => (if (sh_r μ30 6 1 = some (sh_ref μ30 6 1) ∧ (sh_ref μ30 6 1) ∈ sh_FORMS) then sh_let (sh_ref μ30 6 1) (fun r34 => sh_bindv (f_X1_addWord r34 22 μ30) (fun μ35 => F_X2_both rec fuel 1 i1 y32 (i3 + 1) μ35)) else none))))))
    | _ => none
noncomputable def f_X2_both (rec : Nat → Int32 → Int32 → Int32 → sh_Mem → Option (Int32 × sh_Mem)) (a1 : Int32) (μ : sh_Mem) : Option (Int32 × sh_Mem) := sh_bind (rec 2 a1 0 0 μ) (fun y40 μ38 => F_X2_both rec sh_fuel 1 a1 y40 0 μ38)
theorem gpl_X2_both {rec : Nat → Int32 → Int32 → Int32 → sh_Mem → Option (Int32 × sh_Mem)} (grec : ∀ ⦃k : Nat⦄ ⦃b1 b2 b3 : Int32⦄ ⦃μ μ' : sh_Mem⦄ ⦃v : Int32⦄, sh_G μ → rec k b1 b2 b3 μ = some (v, μ') → sh_G μ') (fuel : Nat) : (∀ ⦃i1 : Int32⦄ ⦃i2 : Int32⦄ ⦃i3 : Int32⦄ ⦃μ μ' : sh_Mem⦄ ⦃v : Int32⦄, sh_G μ → F_X2_both rec fuel 1 i1 i2 i3 μ = some (v, μ') → sh_G μ') := by
  induction fuel with
  | zero => intro i1 i2 i3 μ μ' v hG h; cases h
  | succ fuel ih =>
    have ih_8 := ih
    intro i1 i2 i3 μ μ' v hG h
    replace h : ((if 1600 ≤ i3 then (if i2 = 0 ∨ i2 = 1 then some (i2, μ) else none) else (if i2 = 0 then (if i2 = 0 ∨ i2 = 1 then some (i2, μ) else none) else (if (f_X8_isWord μ 22) = 0 then (if i2 = 0 ∨ i2 = 1 then some (i2, μ) else none) else sh_bindv (f_X8_advance μ) (fun μ27 => sh_bind (rec 2 i1 0 0 μ27) (fun y32 μ30 => (if (sh_r μ30 6 1 = some (sh_ref μ30 6 1) ∧ (sh_ref μ30 6 1) ∈ sh_FORMS) then sh_let (sh_ref μ30 6 1) (fun r34 => sh_bindv (f_X1_addWord r34 22 μ30) (fun μ35 => F_X2_both rec fuel 1 i1 y32 (i3 + 1) μ35)) else none)))))) : Option (Int32 × sh_Mem)) = some (v, μ') := h
    by_cases c21 : 1600 ≤ i3
    · rw [if_pos c21] at h
      obtain ⟨k22, h⟩ := sh_chk h
      obtain ⟨e1, e2⟩ := sh_some2 h
      exact e2 ▸ hG
    · rw [if_neg c21] at h
      by_cases c23 : i2 = 0
      · rw [if_pos c23] at h
        obtain ⟨k24, h⟩ := sh_chk h
        obtain ⟨e1, e2⟩ := sh_some2 h
        exact e2 ▸ hG
      · rw [if_neg c23] at h
        by_cases c25 : (f_X8_isWord μ 22) = 0
        · rw [if_pos c25] at h
          obtain ⟨k26, h⟩ := sh_chk h
          obtain ⟨e1, e2⟩ := sh_some2 h
          exact e2 ▸ hG
        · rw [if_neg c25] at h
          obtain ⟨μ27, hr28, h⟩ := sh_bindv_e h
          have hG27 := gp_X8_advance hG hr28
          obtain ⟨y32, μ30, hr31, h⟩ := sh_bind_e h
          have hG30 := grec hG27 hr31
          obtain ⟨k33, h⟩ := sh_chk h
          obtain ⟨r34, er34⟩ : ∃ y : Nat, y = (sh_ref μ30 6 1) := ⟨_, rfl⟩
          rw [sh_let_eq er34] at h
          have k33r : sh_r μ30 6 1 = some r34 ∧ r34 ∈ sh_FORMS := by rw [er34]; exact k33
          obtain ⟨μ35, hr36, h⟩ := sh_bindv_e h
          have hG35 := gp_X1_addWord hG30 k33r.2 hr36
          exact ih_8 hG35 h
theorem tl_X2_both {rec : Nat → Int32 → Int32 → Int32 → sh_Mem → Option (Int32 × sh_Mem)} (grec : ∀ ⦃k : Nat⦄ ⦃b1 b2 b3 : Int32⦄ ⦃μ μ' : sh_Mem⦄ ⦃v : Int32⦄, sh_G μ → rec k b1 b2 b3 μ = some (v, μ') → sh_G μ') {d : Nat} (hd : 8 ≤ d) (h_X2_test : (∀ ⦃b1 : Int32⦄ ⦃μ μ' : sh_Mem⦄ ⦃v : Int32⦄, sh_G μ → rec 0 b1 0 0 μ = some (v, μ') → sh_C0 l B D ca d M_X2_test [.ref 6, .int b1] μ (fun v0 μ0 => v0 = some (.int v) ∧ μ0 = μ'))) (h_X2_both : (∀ ⦃b1 : Int32⦄ ⦃μ μ' : sh_Mem⦄ ⦃v : Int32⦄, sh_G μ → rec 1 b1 0 0 μ = some (v, μ') → sh_C0 l B D ca d M_X2_both [.ref 6, .int b1] μ (fun v0 μ0 => v0 = some (.int v) ∧ μ0 = μ'))) (h_X2_fact : (∀ ⦃b1 : Int32⦄ ⦃μ μ' : sh_Mem⦄ ⦃v : Int32⦄, sh_G μ → rec 2 b1 0 0 μ = some (v, μ') → sh_C0 l B D ca d M_X2_fact [.ref 6, .int b1] μ (fun v0 μ0 => v0 = some (.int v) ∧ μ0 = μ'))) (h_X2_sum : (∀ ⦃b1 : Int32⦄ ⦃μ μ' : sh_Mem⦄ ⦃v : Int32⦄, sh_G μ → rec 3 b1 0 0 μ = some (v, μ') → sh_C0 l B D ca d M_X2_sum [.ref 6, .int b1] μ (fun v0 μ0 => v0 = some (.int v) ∧ μ0 = μ'))) (h_X2_product : (∀ ⦃b1 : Int32⦄ ⦃μ μ' : sh_Mem⦄ ⦃v : Int32⦄, sh_G μ → rec 4 b1 0 0 μ = some (v, μ') → sh_C0 l B D ca d M_X2_product [.ref 6, .int b1] μ (fun v0 μ0 => v0 = some (.int v) ∧ μ0 = μ'))) (h_X2_part : (∀ ⦃b1 : Int32⦄ ⦃μ μ' : sh_Mem⦄ ⦃v : Int32⦄, sh_G μ → rec 5 b1 0 0 μ = some (v, μ') → sh_C0 l B D ca d M_X2_part [.ref 6, .int b1] μ (fun v0 μ0 => v0 = some (.int v) ∧ μ0 = μ'))) (h_X2_ofTwoSums : (∀ ⦃b1 b2 : Int32⦄ ⦃μ μ' : sh_Mem⦄ ⦃v : Int32⦄, sh_G μ → rec 6 b1 b2 0 μ = some (v, μ') → sh_C0 l B D ca d M_X2_ofTwoSums [.ref 6, .int b1, .int b2] μ (fun v0 μ0 => v0 = some (.int v) ∧ μ0 = μ'))) (fuel : Nat) : (∀ ⦃i1 : Int32⦄ ⦃i2 : Int32⦄ ⦃i3 : Int32⦄ ⦃μ μ' : sh_Mem⦄ ⦃v : Int32⦄, sh_G μ → F_X2_both rec fuel 1 i1 i2 i3 μ = some (v, μ') → sh_V0 l B D ca (d + 1) M_X2_both 8 [(0, .ref 6), (1, .int i1), (2, .int i2), (3, .int i3)] [] μ (fun v0 μ0 => v0 = some (.int v) ∧ μ0 = μ')) := by
  induction fuel with
  | zero => intro i1 i2 i3 μ μ' v hG h; cases h
  | succ fuel ih =>
    have ih_8 := ih
    intro i1 i2 i3 μ μ' v hG h
    replace h : ((if 1600 ≤ i3 then (if i2 = 0 ∨ i2 = 1 then some (i2, μ) else none) else (if i2 = 0 then (if i2 = 0 ∨ i2 = 1 then some (i2, μ) else none) else (if (f_X8_isWord μ 22) = 0 then (if i2 = 0 ∨ i2 = 1 then some (i2, μ) else none) else sh_bindv (f_X8_advance μ) (fun μ27 => sh_bind (rec 2 i1 0 0 μ27) (fun y32 μ30 => (if (sh_r μ30 6 1 = some (sh_ref μ30 6 1) ∧ (sh_ref μ30 6 1) ∈ sh_FORMS) then sh_let (sh_ref μ30 6 1) (fun r34 => sh_bindv (f_X1_addWord r34 22 μ30) (fun μ35 => F_X2_both rec fuel 1 i1 y32 (i3 + 1) μ35)) else none)))))) : Option (Int32 × sh_Mem)) = some (v, μ') := h
    refine vv_iload_n 8 3 dX2_both_8 rfl rfl ?_
    refine vv_sipush 9 dX2_both_9 sk_1600 ?_
    refine vv_icmp_ge 12 59 dX2_both_12 (by decide) (fun c21 => ?_) (fun c21 => ?_)
    · rw [if_pos c21] at h
      refine vv_iload_n 59 2 dX2_both_59 rfl rfl ?_
      obtain ⟨k22, h⟩ := sh_chk h
      obtain ⟨e1, e2⟩ := sh_some2 h
      refine vv_zret 60 dX2_both_60 rfl (sh_nb k22) (Nat.le_refl _) (Nat.le_refl _) ⟨by rw [e1], e2⟩
    · rw [if_neg c21] at h
      refine vv_iload_n 15 2 dX2_both_15 rfl rfl ?_
      refine vv_if_eq 16 59 dX2_both_16 (by decide) (fun c23 => ?_) (fun c23 => ?_)
      · rw [if_pos c23] at h
        refine vv_iload_n 59 2 dX2_both_59 rfl rfl ?_
        obtain ⟨k24, h⟩ := sh_chk h
        obtain ⟨e1, e2⟩ := sh_some2 h
        refine vv_zret 60 dX2_both_60 rfl (sh_nb k24) (Nat.le_refl _) (Nat.le_refl _) ⟨by rw [e1], e2⟩
      · rw [if_neg c23] at h
        refine vv_aload_n 19 0 dX2_both_19 rfl rfl ?_
        refine vv_getR 20 dX2_both_20 fl_2_9 rfl (g_l_6 hG) (g_r_6_0 hG) ?_
        refine vv_bipush 23 dX2_both_23 bk_22 ?_
        refine v1_callV [_] 25 dX2_both_25 ck_X2_63 (g_l_2 hG) ⟨by decide, rfl⟩ (c_X8_isWord (μ := μ) hG) (by omega) ⟨Nat.le_of_ble_eq_true rfl, Nat.le_of_ble_eq_true rfl⟩ rfl (Nat.le_of_ble_eq_true rfl) ?_
        refine vv_if_eq 28 59 dX2_both_28 (by decide) (fun c25 => ?_) (fun c25 => ?_)
        · rw [if_pos c25] at h
          refine vv_iload_n 59 2 dX2_both_59 rfl rfl ?_
          obtain ⟨k26, h⟩ := sh_chk h
          obtain ⟨e1, e2⟩ := sh_some2 h
          refine vv_zret 60 dX2_both_60 rfl (sh_nb k26) (Nat.le_refl _) (Nat.le_refl _) ⟨by rw [e1], e2⟩
        · rw [if_neg c25] at h
          refine vv_aload_n 31 0 dX2_both_31 rfl rfl ?_
          refine vv_getR 32 dX2_both_32 fl_2_9 rfl (g_l_6 hG) (g_r_6_0 hG) ?_
          obtain ⟨μ27, hr28, h⟩ := sh_bindv_e h
          refine v1_callV [] 35 dX2_both_35 ck_X2_43 (g_l_2 hG) ⟨by decide, rfl⟩ (t_X8_advance hG hr28) (by omega) ⟨Nat.le_of_ble_eq_true rfl, Nat.le_of_ble_eq_true rfl⟩ rfl (Nat.le_of_ble_eq_true rfl) ?_
          have hG27 := gp_X8_advance hG hr28
          refine vv_aload_n 38 0 dX2_both_38 rfl rfl ?_
          refine vv_iload_n 39 1 dX2_both_39 rfl rfl ?_
          obtain ⟨y32, μ30, hr31, h⟩ := sh_bind_e h
          refine v1_callV [_] 40 dX2_both_40 ck_X2_70 (g_l_6 hG27) ⟨by decide, rfl⟩ (h_X2_fact hG27 hr31) (Nat.le_refl _) ⟨Nat.le_of_ble_eq_true rfl, Nat.le_of_ble_eq_true rfl⟩ rfl (Nat.le_of_ble_eq_true rfl) ?_
          have hG30 := grec hG27 hr31
          refine vv_istore_n (lv' := [(2, _), (0, _), (1, _), (3, _)]) 43 2 dX2_both_43 rfl (by decide) rfl ?_
          refine vv_aload_n 44 0 dX2_both_44 rfl rfl ?_
          obtain ⟨k33, h⟩ := sh_chk h
          refine vv_getR 45 dX2_both_45 fl_2_15 rfl (g_l_6 hG30) k33.1 ?_
          refine vv_topr (fun r34 er34 => ?_)
          rw [sh_let_eq er34] at h
          have k33r : sh_r μ30 6 1 = some r34 ∧ r34 ∈ sh_FORMS := by rw [er34]; exact k33
          refine vv_bipush 48 dX2_both_48 bk_22 ?_
          obtain ⟨μ35, hr36, h⟩ := sh_bindv_e h
          refine v1_callV [_] 50 dX2_both_50 ck_X2_66 (gF_l hG30 k33r.2) ⟨by decide, rfl⟩ (t_X1_addWord hG30 k33r.2 hr36) (by omega) ⟨Nat.le_of_ble_eq_true rfl, Nat.le_of_ble_eq_true rfl⟩ rfl (Nat.le_of_ble_eq_true rfl) ?_
          have hG35 := gp_X1_addWord hG30 k33r.2 hr36
          refine vv_iincc (lv' := [(3, _), (2, _), (0, _), (1, _)]) 53 3 dX2_both_53 rfl ik_1 (by decide) rfl ?_
          refine vv_goto 56 8 dX2_both_56 (by decide) ?_
          refine vv_sub [(0, _), (1, _), (2, _), (3, _)] (sh_subm [2, 3, 1, 0] rfl) ?_
          exact ih_8 hG35 h
theorem gp_X2_both {rec : Nat → Int32 → Int32 → Int32 → sh_Mem → Option (Int32 × sh_Mem)} {a1 : Int32} {μ μ' : sh_Mem} {v : Int32}  (grec : ∀ ⦃k : Nat⦄ ⦃b1 b2 b3 : Int32⦄ ⦃μ μ' : sh_Mem⦄ ⦃v : Int32⦄, sh_G μ → rec k b1 b2 b3 μ = some (v, μ') → sh_G μ')(hG : sh_G μ) (h : f_X2_both rec a1 μ = some (v, μ')) : sh_G μ' := by
  have ih_8 := (gpl_X2_both grec sh_fuel)
  unfold f_X2_both at h
  obtain ⟨y40, μ38, hr39, h⟩ := sh_bind_e h
  have hG38 := grec hG hr39
  exact ih_8 hG38 h
theorem t_X2_both {rec : Nat → Int32 → Int32 → Int32 → sh_Mem → Option (Int32 × sh_Mem)} {a1 : Int32} {μ μ' : sh_Mem} {v : Int32}  (grec : ∀ ⦃k : Nat⦄ ⦃b1 b2 b3 : Int32⦄ ⦃μ μ' : sh_Mem⦄ ⦃v : Int32⦄, sh_G μ → rec k b1 b2 b3 μ = some (v, μ') → sh_G μ') {d : Nat} (hd : 8 ≤ d) (h_X2_test : (∀ ⦃b1 : Int32⦄ ⦃μ μ' : sh_Mem⦄ ⦃v : Int32⦄, sh_G μ → rec 0 b1 0 0 μ = some (v, μ') → sh_C0 l B D ca d M_X2_test [.ref 6, .int b1] μ (fun v0 μ0 => v0 = some (.int v) ∧ μ0 = μ'))) (h_X2_both : (∀ ⦃b1 : Int32⦄ ⦃μ μ' : sh_Mem⦄ ⦃v : Int32⦄, sh_G μ → rec 1 b1 0 0 μ = some (v, μ') → sh_C0 l B D ca d M_X2_both [.ref 6, .int b1] μ (fun v0 μ0 => v0 = some (.int v) ∧ μ0 = μ'))) (h_X2_fact : (∀ ⦃b1 : Int32⦄ ⦃μ μ' : sh_Mem⦄ ⦃v : Int32⦄, sh_G μ → rec 2 b1 0 0 μ = some (v, μ') → sh_C0 l B D ca d M_X2_fact [.ref 6, .int b1] μ (fun v0 μ0 => v0 = some (.int v) ∧ μ0 = μ'))) (h_X2_sum : (∀ ⦃b1 : Int32⦄ ⦃μ μ' : sh_Mem⦄ ⦃v : Int32⦄, sh_G μ → rec 3 b1 0 0 μ = some (v, μ') → sh_C0 l B D ca d M_X2_sum [.ref 6, .int b1] μ (fun v0 μ0 => v0 = some (.int v) ∧ μ0 = μ'))) (h_X2_product : (∀ ⦃b1 : Int32⦄ ⦃μ μ' : sh_Mem⦄ ⦃v : Int32⦄, sh_G μ → rec 4 b1 0 0 μ = some (v, μ') → sh_C0 l B D ca d M_X2_product [.ref 6, .int b1] μ (fun v0 μ0 => v0 = some (.int v) ∧ μ0 = μ'))) (h_X2_part : (∀ ⦃b1 : Int32⦄ ⦃μ μ' : sh_Mem⦄ ⦃v : Int32⦄, sh_G μ → rec 5 b1 0 0 μ = some (v, μ') → sh_C0 l B D ca d M_X2_part [.ref 6, .int b1] μ (fun v0 μ0 => v0 = some (.int v) ∧ μ0 = μ'))) (h_X2_ofTwoSums : (∀ ⦃b1 b2 : Int32⦄ ⦃μ μ' : sh_Mem⦄ ⦃v : Int32⦄, sh_G μ → rec 6 b1 b2 0 μ = some (v, μ') → sh_C0 l B D ca d M_X2_ofTwoSums [.ref 6, .int b1, .int b2] μ (fun v0 μ0 => v0 = some (.int v) ∧ μ0 = μ')))(hG : sh_G μ) (h : f_X2_both rec a1 μ = some (v, μ')) : sh_C0 l B D ca (d + 1) M_X2_both [.ref 6, .int a1] μ (fun v0 μ0 => v0 = some (.int v) ∧ μ0 = μ') := by
  have ih_8 := (tl_X2_both (l := l) (B := B) (D := D) (ca := ca) grec hd h_X2_test h_X2_both h_X2_fact h_X2_sum h_X2_product h_X2_part h_X2_ofTwoSums sh_fuel)
  unfold f_X2_both at h
  refine vv_aload_n 0 0 dX2_both_0 rfl rfl ?_
  refine vv_iload_n 1 1 dX2_both_1 rfl rfl ?_
  obtain ⟨y40, μ38, hr39, h⟩ := sh_bind_e h
  refine v1_callV [_] 2 dX2_both_2 ck_X2_70 (g_l_6 hG) ⟨by decide, rfl⟩ (h_X2_fact hG hr39) (Nat.le_refl _) ⟨Nat.le_of_ble_eq_true rfl, Nat.le_of_ble_eq_true rfl⟩ rfl (Nat.le_of_ble_eq_true rfl) ?_
  have hG38 := grec hG hr39
  refine vv_istore_n (lv' := [(2, _), (0, _), (1, _)]) 5 2 dX2_both_5 rfl (by decide) rfl ?_
  refine vv_iconst 6 dX2_both_6 ik_0 ?_
  refine vv_istore_n (lv' := [(3, _), (2, _), (0, _), (1, _)]) 7 3 dX2_both_7 rfl (by decide) rfl ?_
  refine vv_sub [(0, _), (1, _), (2, _), (3, _)] (sh_subm [2, 3, 1, 0] rfl) ?_
  exact ih_8 hG38 h
noncomputable def f_X2_fact (rec : Nat → Int32 → Int32 → Int32 → sh_Mem → Option (Int32 × sh_Mem)) (a1 : Int32) (μ : sh_Mem) : Option (Int32 × sh_Mem) := (if (f_X8_isWord μ 23) = 0 then (if (sh_i μ 2 3) = 91 then sh_bind (f_X2_opens a1 μ) (fun y62 μ60 => (if y62 = 0 then some (0, μ60) else sh_bind (rec 0 (a1 + 1) 0 0 μ60) (fun y66 μ64 => (if y66 = 0 then some (0, μ64) else sh_bind (f_X8_takesMark 93 μ64) (fun y70 μ68 => (if y70 = 0 then some (0, μ68) else some (1, μ68))))))) else (if (f_X8_isWord μ 24) = 0 then sh_bind (rec 3 a1 0 0 μ) (fun y6 μ4 => (if y6 = 0 then some (0, μ4) else sh_let ((sh_i μ4 2 3) : Int32) (fun x8 => (if x8 = 60 then sh_bindv (f_X8_advance μ4) (fun μ10 => sh_bind (rec 3 a1 0 0 μ10) (fun y15 μ13 => (if (sh_r μ13 6 1 = some (sh_ref μ13 6 1) ∧ (sh_ref μ13 6 1) ∈ sh_FORMS) then sh_let (sh_ref μ13 6 1) (fun r17 => sh_bindv (f_X1_addMark r17 x8 μ13) (fun μ18 => (if y15 = 0 ∨ y15 = 1 then some (y15, μ18) else none))) else none))) else (if x8 = 62 then sh_bindv (f_X8_advance μ4) (fun μ23 => sh_bind (rec 3 a1 0 0 μ23) (fun y28 μ26 => (if (sh_r μ26 6 1 = some (sh_ref μ26 6 1) ∧ (sh_ref μ26 6 1) ∈ sh_FORMS) then sh_let (sh_ref μ26 6 1) (fun r30 => sh_bindv (f_X1_addMark r30 x8 μ26) (fun μ31 => (if y28 = 0 ∨ y28 = 1 then some (y28, μ31) else none))) else none))) else (if x8 = 61 then sh_bindv (f_X8_advance μ4) (fun μ36 => sh_bind (rec 3 a1 0 0 μ36) (fun y41 μ39 => (if (sh_r μ39 6 1 = some (sh_ref μ39 6 1) ∧ (sh_ref μ39 6 1) ∈ sh_FORMS) then sh_let (sh_ref μ39 6 1) (fun r43 => sh_bindv (f_X1_addMark r43 x8 μ39) (fun μ44 => (if y41 = 0 ∨ y41 = 1 then some (y41, μ44) else none))) else none))) else sh_bind (f_X8_fails 1 (sh_i μ4 2 4) μ4) (fun y50 μ48 => (if y50 = 0 ∨ y50 = 1 then some (y50, μ48) else none)))))))) else sh_bindv (f_X8_advance μ) (fun μ52 => (if (sh_r μ52 6 1 = some (sh_ref μ52 6 1) ∧ (sh_ref μ52 6 1) ∈ sh_FORMS) then sh_let (sh_ref μ52 6 1) (fun r56 => sh_bindv (f_X1_add r56 1 μ52) (fun μ57 => some (1, μ57))) else none)))) else sh_bind (f_X2_opens a1 μ) (fun y74 μ72 => (if y74 = 0 then (if (sh_r μ72 6 1 = some (sh_ref μ72 6 1) ∧ (sh_ref μ72 6 1) ∈ sh_FORMS) then sh_let (sh_ref μ72 6 1) (fun r77 => sh_bindv (f_X1_addWord r77 23 μ72) (fun μ78 => some (0, μ78))) else none) else sh_bind (rec 2 (a1 + 1) 0 0 μ72) (fun y83 μ81 => (if y83 = 0 then (if (sh_r μ81 6 1 = some (sh_ref μ81 6 1) ∧ (sh_ref μ81 6 1) ∈ sh_FORMS) then sh_let (sh_ref μ81 6 1) (fun r86 => sh_bindv (f_X1_addWord r86 23 μ81) (fun μ87 => some (0, μ87))) else none) else (if (sh_r μ81 6 1 = some (sh_ref μ81 6 1) ∧ (sh_ref μ81 6 1) ∈ sh_FORMS) then sh_let (sh_ref μ81 6 1) (fun r91 => sh_bindv (f_X1_addWord r91 23 μ81) (fun μ92 => some (1, μ92))) else none))))))
theorem gp_X2_fact {rec : Nat → Int32 → Int32 → Int32 → sh_Mem → Option (Int32 × sh_Mem)} {a1 : Int32} {μ μ' : sh_Mem} {v : Int32}  (grec : ∀ ⦃k : Nat⦄ ⦃b1 b2 b3 : Int32⦄ ⦃μ μ' : sh_Mem⦄ ⦃v : Int32⦄, sh_G μ → rec k b1 b2 b3 μ = some (v, μ') → sh_G μ')(hG : sh_G μ) (h : f_X2_fact rec a1 μ = some (v, μ')) : sh_G μ' := by
  unfold f_X2_fact at h
  by_cases c1 : (f_X8_isWord μ 23) = 0
  · rw [if_pos c1] at h
    by_cases c2 : (sh_i μ 2 3) = 91
    · rw [if_pos c2] at h
      obtain ⟨y62, μ60, hr61, h⟩ := sh_bind_e h
      have hG60 := gp_X2_opens hG hr61
      by_cases c63 : y62 = 0
      · rw [if_pos c63] at h
        obtain ⟨e1, e2⟩ := sh_some2 h
        exact e2 ▸ hG60
      · rw [if_neg c63] at h
        obtain ⟨y66, μ64, hr65, h⟩ := sh_bind_e h
        have hG64 := grec hG60 hr65
        by_cases c67 : y66 = 0
        · rw [if_pos c67] at h
          obtain ⟨e1, e2⟩ := sh_some2 h
          exact e2 ▸ hG64
        · rw [if_neg c67] at h
          obtain ⟨y70, μ68, hr69, h⟩ := sh_bind_e h
          have hG68 := gp_X8_takesMark hG64 hr69
          by_cases c71 : y70 = 0
          · rw [if_pos c71] at h
            obtain ⟨e1, e2⟩ := sh_some2 h
            exact e2 ▸ hG68
          · rw [if_neg c71] at h
            obtain ⟨e1, e2⟩ := sh_some2 h
            exact e2 ▸ hG68
    · rw [if_neg c2] at h
      by_cases c3 : (f_X8_isWord μ 24) = 0
      · rw [if_pos c3] at h
        obtain ⟨y6, μ4, hr5, h⟩ := sh_bind_e h
        have hG4 := grec hG hr5
        by_cases c7 : y6 = 0
        · rw [if_pos c7] at h
          obtain ⟨e1, e2⟩ := sh_some2 h
          exact e2 ▸ hG4
        · rw [if_neg c7] at h
          obtain ⟨x8, ex8⟩ : ∃ y : Int32, y = (sh_i μ4 2 3) := ⟨_, rfl⟩
          rw [sh_let_eq ex8] at h
          by_cases c9 : x8 = 60
          · rw [if_pos c9] at h
            obtain ⟨μ10, hr11, h⟩ := sh_bindv_e h
            have hG10 := gp_X8_advance hG4 hr11
            obtain ⟨y15, μ13, hr14, h⟩ := sh_bind_e h
            have hG13 := grec hG10 hr14
            obtain ⟨k16, h⟩ := sh_chk h
            obtain ⟨r17, er17⟩ : ∃ y : Nat, y = (sh_ref μ13 6 1) := ⟨_, rfl⟩
            rw [sh_let_eq er17] at h
            have k16r : sh_r μ13 6 1 = some r17 ∧ r17 ∈ sh_FORMS := by rw [er17]; exact k16
            obtain ⟨μ18, hr19, h⟩ := sh_bindv_e h
            have hG18 := gp_X1_addMark hG13 k16r.2 hr19
            obtain ⟨k21, h⟩ := sh_chk h
            obtain ⟨e1, e2⟩ := sh_some2 h
            exact e2 ▸ hG18
          · rw [if_neg c9] at h
            by_cases c22 : x8 = 62
            · rw [if_pos c22] at h
              obtain ⟨μ23, hr24, h⟩ := sh_bindv_e h
              have hG23 := gp_X8_advance hG4 hr24
              obtain ⟨y28, μ26, hr27, h⟩ := sh_bind_e h
              have hG26 := grec hG23 hr27
              obtain ⟨k29, h⟩ := sh_chk h
              obtain ⟨r30, er30⟩ : ∃ y : Nat, y = (sh_ref μ26 6 1) := ⟨_, rfl⟩
              rw [sh_let_eq er30] at h
              have k29r : sh_r μ26 6 1 = some r30 ∧ r30 ∈ sh_FORMS := by rw [er30]; exact k29
              obtain ⟨μ31, hr32, h⟩ := sh_bindv_e h
              have hG31 := gp_X1_addMark hG26 k29r.2 hr32
              obtain ⟨k34, h⟩ := sh_chk h
              obtain ⟨e1, e2⟩ := sh_some2 h
              exact e2 ▸ hG31
            · rw [if_neg c22] at h
              by_cases c35 : x8 = 61
              · rw [if_pos c35] at h
                obtain ⟨μ36, hr37, h⟩ := sh_bindv_e h
                have hG36 := gp_X8_advance hG4 hr37
                obtain ⟨y41, μ39, hr40, h⟩ := sh_bind_e h
                have hG39 := grec hG36 hr40
                obtain ⟨k42, h⟩ := sh_chk h
                obtain ⟨r43, er43⟩ : ∃ y : Nat, y = (sh_ref μ39 6 1) := ⟨_, rfl⟩
                rw [sh_let_eq er43] at h
                have k42r : sh_r μ39 6 1 = some r43 ∧ r43 ∈ sh_FORMS := by rw [er43]; exact k42
                obtain ⟨μ44, hr45, h⟩ := sh_bindv_e h
                have hG44 := gp_X1_addMark hG39 k42r.2 hr45
                obtain ⟨k47, h⟩ := sh_chk h
                obtain ⟨e1, e2⟩ := sh_some2 h
                exact e2 ▸ hG44
              · rw [if_neg c35] at h
                obtain ⟨y50, μ48, hr49, h⟩ := sh_bind_e h
                have hG48 := gp_X8_fails hG4 hr49
                obtain ⟨k51, h⟩ := sh_chk h
                obtain ⟨e1, e2⟩ := sh_some2 h
                exact e2 ▸ hG48
      · rw [if_neg c3] at h
        obtain ⟨μ52, hr53, h⟩ := sh_bindv_e h
        have hG52 := gp_X8_advance hG hr53
        obtain ⟨k55, h⟩ := sh_chk h
        obtain ⟨r56, er56⟩ : ∃ y : Nat, y = (sh_ref μ52 6 1) := ⟨_, rfl⟩
        rw [sh_let_eq er56] at h
        have k55r : sh_r μ52 6 1 = some r56 ∧ r56 ∈ sh_FORMS := by rw [er56]; exact k55
        obtain ⟨μ57, hr58, h⟩ := sh_bindv_e h
        have hG57 := gp_X1_add hG52 k55r.2 hr58
        obtain ⟨e1, e2⟩ := sh_some2 h
        exact e2 ▸ hG57
  · rw [if_neg c1] at h
    obtain ⟨y74, μ72, hr73, h⟩ := sh_bind_e h
    have hG72 := gp_X2_opens hG hr73
    by_cases c75 : y74 = 0
    · rw [if_pos c75] at h
      obtain ⟨k76, h⟩ := sh_chk h
      obtain ⟨r77, er77⟩ : ∃ y : Nat, y = (sh_ref μ72 6 1) := ⟨_, rfl⟩
      rw [sh_let_eq er77] at h
      have k76r : sh_r μ72 6 1 = some r77 ∧ r77 ∈ sh_FORMS := by rw [er77]; exact k76
      obtain ⟨μ78, hr79, h⟩ := sh_bindv_e h
      have hG78 := gp_X1_addWord hG72 k76r.2 hr79
      obtain ⟨e1, e2⟩ := sh_some2 h
      exact e2 ▸ hG78
    · rw [if_neg c75] at h
      obtain ⟨y83, μ81, hr82, h⟩ := sh_bind_e h
      have hG81 := grec hG72 hr82
      by_cases c84 : y83 = 0
      · rw [if_pos c84] at h
        obtain ⟨k85, h⟩ := sh_chk h
        obtain ⟨r86, er86⟩ : ∃ y : Nat, y = (sh_ref μ81 6 1) := ⟨_, rfl⟩
        rw [sh_let_eq er86] at h
        have k85r : sh_r μ81 6 1 = some r86 ∧ r86 ∈ sh_FORMS := by rw [er86]; exact k85
        obtain ⟨μ87, hr88, h⟩ := sh_bindv_e h
        have hG87 := gp_X1_addWord hG81 k85r.2 hr88
        obtain ⟨e1, e2⟩ := sh_some2 h
        exact e2 ▸ hG87
      · rw [if_neg c84] at h
        obtain ⟨k90, h⟩ := sh_chk h
        obtain ⟨r91, er91⟩ : ∃ y : Nat, y = (sh_ref μ81 6 1) := ⟨_, rfl⟩
        rw [sh_let_eq er91] at h
        have k90r : sh_r μ81 6 1 = some r91 ∧ r91 ∈ sh_FORMS := by rw [er91]; exact k90
        obtain ⟨μ92, hr93, h⟩ := sh_bindv_e h
        have hG92 := gp_X1_addWord hG81 k90r.2 hr93
        obtain ⟨e1, e2⟩ := sh_some2 h
        exact e2 ▸ hG92
theorem t_X2_fact {rec : Nat → Int32 → Int32 → Int32 → sh_Mem → Option (Int32 × sh_Mem)} {a1 : Int32} {μ μ' : sh_Mem} {v : Int32}  (grec : ∀ ⦃k : Nat⦄ ⦃b1 b2 b3 : Int32⦄ ⦃μ μ' : sh_Mem⦄ ⦃v : Int32⦄, sh_G μ → rec k b1 b2 b3 μ = some (v, μ') → sh_G μ') {d : Nat} (hd : 8 ≤ d) (h_X2_test : (∀ ⦃b1 : Int32⦄ ⦃μ μ' : sh_Mem⦄ ⦃v : Int32⦄, sh_G μ → rec 0 b1 0 0 μ = some (v, μ') → sh_C0 l B D ca d M_X2_test [.ref 6, .int b1] μ (fun v0 μ0 => v0 = some (.int v) ∧ μ0 = μ'))) (h_X2_both : (∀ ⦃b1 : Int32⦄ ⦃μ μ' : sh_Mem⦄ ⦃v : Int32⦄, sh_G μ → rec 1 b1 0 0 μ = some (v, μ') → sh_C0 l B D ca d M_X2_both [.ref 6, .int b1] μ (fun v0 μ0 => v0 = some (.int v) ∧ μ0 = μ'))) (h_X2_fact : (∀ ⦃b1 : Int32⦄ ⦃μ μ' : sh_Mem⦄ ⦃v : Int32⦄, sh_G μ → rec 2 b1 0 0 μ = some (v, μ') → sh_C0 l B D ca d M_X2_fact [.ref 6, .int b1] μ (fun v0 μ0 => v0 = some (.int v) ∧ μ0 = μ'))) (h_X2_sum : (∀ ⦃b1 : Int32⦄ ⦃μ μ' : sh_Mem⦄ ⦃v : Int32⦄, sh_G μ → rec 3 b1 0 0 μ = some (v, μ') → sh_C0 l B D ca d M_X2_sum [.ref 6, .int b1] μ (fun v0 μ0 => v0 = some (.int v) ∧ μ0 = μ'))) (h_X2_product : (∀ ⦃b1 : Int32⦄ ⦃μ μ' : sh_Mem⦄ ⦃v : Int32⦄, sh_G μ → rec 4 b1 0 0 μ = some (v, μ') → sh_C0 l B D ca d M_X2_product [.ref 6, .int b1] μ (fun v0 μ0 => v0 = some (.int v) ∧ μ0 = μ'))) (h_X2_part : (∀ ⦃b1 : Int32⦄ ⦃μ μ' : sh_Mem⦄ ⦃v : Int32⦄, sh_G μ → rec 5 b1 0 0 μ = some (v, μ') → sh_C0 l B D ca d M_X2_part [.ref 6, .int b1] μ (fun v0 μ0 => v0 = some (.int v) ∧ μ0 = μ'))) (h_X2_ofTwoSums : (∀ ⦃b1 b2 : Int32⦄ ⦃μ μ' : sh_Mem⦄ ⦃v : Int32⦄, sh_G μ → rec 6 b1 b2 0 μ = some (v, μ') → sh_C0 l B D ca d M_X2_ofTwoSums [.ref 6, .int b1, .int b2] μ (fun v0 μ0 => v0 = some (.int v) ∧ μ0 = μ')))(hG : sh_G μ) (h : f_X2_fact rec a1 μ = some (v, μ')) : sh_C0 l B D ca (d + 1) M_X2_fact [.ref 6, .int a1] μ (fun v0 μ0 => v0 = some (.int v) ∧ μ0 = μ') := by
  unfold f_X2_fact at h
  refine vv_aload_n 0 0 dX2_fact_0 rfl rfl ?_
  refine vv_getR 1 dX2_fact_1 fl_2_9 rfl (g_l_6 hG) (g_r_6_0 hG) ?_
  refine vv_bipush 4 dX2_fact_4 bk_23 ?_
  refine v1_callV [_] 6 dX2_fact_6 ck_X2_63 (g_l_2 hG) ⟨by decide, rfl⟩ (c_X8_isWord (μ := μ) hG) (by omega) ⟨Nat.le_of_ble_eq_true rfl, Nat.le_of_ble_eq_true rfl⟩ rfl (Nat.le_of_ble_eq_true rfl) ?_
  refine vv_if_eq 9 47 dX2_fact_9 (by decide) (fun c1 => ?_) (fun c1 => ?_)
  · rw [if_pos c1] at h
    refine vv_aload_n 47 0 dX2_fact_47 rfl rfl ?_
    refine vv_getR 48 dX2_fact_48 fl_2_9 rfl (g_l_6 hG) (g_r_6_0 hG) ?_
    refine vv_getI 51 dX2_fact_51 fl_2_28 rfl (g_l_2 hG) ?_
    refine vv_bipush 54 dX2_fact_54 bk_91 ?_
    refine vv_icmp_ne 56 95 dX2_fact_56 (by decide) (fun c2 => ?_) (fun c2 => ?_)
    · rw [if_neg c2] at h
      refine vv_aload_n 95 0 dX2_fact_95 rfl rfl ?_
      refine vv_getR 96 dX2_fact_96 fl_2_9 rfl (g_l_6 hG) (g_r_6_0 hG) ?_
      refine vv_bipush 99 dX2_fact_99 bk_24 ?_
      refine v1_callV [_] 101 dX2_fact_101 ck_X2_63 (g_l_2 hG) ⟨by decide, rfl⟩ (c_X8_isWord (μ := μ) hG) (by omega) ⟨Nat.le_of_ble_eq_true rfl, Nat.le_of_ble_eq_true rfl⟩ rfl (Nat.le_of_ble_eq_true rfl) ?_
      refine vv_if_eq 104 124 dX2_fact_104 (by decide) (fun c3 => ?_) (fun c3 => ?_)
      · rw [if_pos c3] at h
        refine vv_aload_n 124 0 dX2_fact_124 rfl rfl ?_
        refine vv_iload_n 125 1 dX2_fact_125 rfl rfl ?_
        obtain ⟨y6, μ4, hr5, h⟩ := sh_bind_e h
        refine v1_callV [_] 126 dX2_fact_126 ck_X2_54 (g_l_6 hG) ⟨by decide, rfl⟩ (h_X2_sum hG hr5) (Nat.le_refl _) ⟨Nat.le_of_ble_eq_true rfl, Nat.le_of_ble_eq_true rfl⟩ rfl (Nat.le_of_ble_eq_true rfl) ?_
        have hG4 := grec hG hr5
        refine vv_if_ne 129 134 dX2_fact_129 (by decide) (fun c7 => ?_) (fun c7 => ?_)
        · rw [if_neg c7] at h
          refine vv_aload_n 134 0 dX2_fact_134 rfl rfl ?_
          refine vv_getR 135 dX2_fact_135 fl_2_9 rfl (g_l_6 hG4) (g_r_6_0 hG4) ?_
          refine vv_getI 138 dX2_fact_138 fl_2_28 rfl (g_l_2 hG4) ?_
          refine vv_topi (fun x8 ex8 => ?_)
          rw [sh_let_eq ex8] at h
          refine vv_istore_n (lv' := [(2, _), (0, _), (1, _)]) 141 2 dX2_fact_141 rfl (by decide) rfl ?_
          refine vv_iload_n 142 2 dX2_fact_142 rfl rfl ?_
          refine vv_bipush 143 dX2_fact_143 bk_60 ?_
          refine vv_icmp_eq 145 176 dX2_fact_145 (by decide) (fun c9 => ?_) (fun c9 => ?_)
          · rw [if_pos c9] at h
            refine vv_aload_n 176 0 dX2_fact_176 rfl rfl ?_
            refine vv_getR 177 dX2_fact_177 fl_2_9 rfl (g_l_6 hG4) (g_r_6_0 hG4) ?_
            obtain ⟨μ10, hr11, h⟩ := sh_bindv_e h
            refine v1_callV [] 180 dX2_fact_180 ck_X2_43 (g_l_2 hG4) ⟨by decide, rfl⟩ (t_X8_advance hG4 hr11) (by omega) ⟨Nat.le_of_ble_eq_true rfl, Nat.le_of_ble_eq_true rfl⟩ rfl (Nat.le_of_ble_eq_true rfl) ?_
            have hG10 := gp_X8_advance hG4 hr11
            refine vv_aload_n 183 0 dX2_fact_183 rfl rfl ?_
            refine vv_iload_n 184 1 dX2_fact_184 rfl rfl ?_
            obtain ⟨y15, μ13, hr14, h⟩ := sh_bind_e h
            refine v1_callV [_] 185 dX2_fact_185 ck_X2_54 (g_l_6 hG10) ⟨by decide, rfl⟩ (h_X2_sum hG10 hr14) (Nat.le_refl _) ⟨Nat.le_of_ble_eq_true rfl, Nat.le_of_ble_eq_true rfl⟩ rfl (Nat.le_of_ble_eq_true rfl) ?_
            have hG13 := grec hG10 hr14
            refine vv_istore_n (lv' := [(3, _), (2, _), (0, _), (1, _)]) 188 3 dX2_fact_188 rfl (by decide) rfl ?_
            refine vv_aload_n 189 0 dX2_fact_189 rfl rfl ?_
            obtain ⟨k16, h⟩ := sh_chk h
            refine vv_getR 190 dX2_fact_190 fl_2_15 rfl (g_l_6 hG13) k16.1 ?_
            refine vv_topr (fun r17 er17 => ?_)
            rw [sh_let_eq er17] at h
            have k16r : sh_r μ13 6 1 = some r17 ∧ r17 ∈ sh_FORMS := by rw [er17]; exact k16
            refine vv_iload_n 193 2 dX2_fact_193 rfl rfl ?_
            obtain ⟨μ18, hr19, h⟩ := sh_bindv_e h
            refine v1_callV [_] 194 dX2_fact_194 ck_X2_79 (gF_l hG13 k16r.2) ⟨by decide, rfl⟩ (t_X1_addMark hG13 k16r.2 hr19) (by omega) ⟨Nat.le_of_ble_eq_true rfl, Nat.le_of_ble_eq_true rfl⟩ rfl (Nat.le_of_ble_eq_true rfl) ?_
            have hG18 := gp_X1_addMark hG13 k16r.2 hr19
            refine vv_iload_n 197 3 dX2_fact_197 rfl rfl ?_
            obtain ⟨k21, h⟩ := sh_chk h
            obtain ⟨e1, e2⟩ := sh_some2 h
            refine vv_zret 198 dX2_fact_198 rfl (sh_nb k21) (Nat.le_refl _) (Nat.le_refl _) ⟨by rw [e1], e2⟩
          · rw [if_neg c9] at h
            refine vv_iload_n 148 2 dX2_fact_148 rfl rfl ?_
            refine vv_bipush 149 dX2_fact_149 bk_62 ?_
            refine vv_icmp_eq 151 176 dX2_fact_151 (by decide) (fun c22 => ?_) (fun c22 => ?_)
            · rw [if_pos c22] at h
              refine vv_aload_n 176 0 dX2_fact_176 rfl rfl ?_
              refine vv_getR 177 dX2_fact_177 fl_2_9 rfl (g_l_6 hG4) (g_r_6_0 hG4) ?_
              obtain ⟨μ23, hr24, h⟩ := sh_bindv_e h
              refine v1_callV [] 180 dX2_fact_180 ck_X2_43 (g_l_2 hG4) ⟨by decide, rfl⟩ (t_X8_advance hG4 hr24) (by omega) ⟨Nat.le_of_ble_eq_true rfl, Nat.le_of_ble_eq_true rfl⟩ rfl (Nat.le_of_ble_eq_true rfl) ?_
              have hG23 := gp_X8_advance hG4 hr24
              refine vv_aload_n 183 0 dX2_fact_183 rfl rfl ?_
              refine vv_iload_n 184 1 dX2_fact_184 rfl rfl ?_
              obtain ⟨y28, μ26, hr27, h⟩ := sh_bind_e h
              refine v1_callV [_] 185 dX2_fact_185 ck_X2_54 (g_l_6 hG23) ⟨by decide, rfl⟩ (h_X2_sum hG23 hr27) (Nat.le_refl _) ⟨Nat.le_of_ble_eq_true rfl, Nat.le_of_ble_eq_true rfl⟩ rfl (Nat.le_of_ble_eq_true rfl) ?_
              have hG26 := grec hG23 hr27
              refine vv_istore_n (lv' := [(3, _), (2, _), (0, _), (1, _)]) 188 3 dX2_fact_188 rfl (by decide) rfl ?_
              refine vv_aload_n 189 0 dX2_fact_189 rfl rfl ?_
              obtain ⟨k29, h⟩ := sh_chk h
              refine vv_getR 190 dX2_fact_190 fl_2_15 rfl (g_l_6 hG26) k29.1 ?_
              refine vv_topr (fun r30 er30 => ?_)
              rw [sh_let_eq er30] at h
              have k29r : sh_r μ26 6 1 = some r30 ∧ r30 ∈ sh_FORMS := by rw [er30]; exact k29
              refine vv_iload_n 193 2 dX2_fact_193 rfl rfl ?_
              obtain ⟨μ31, hr32, h⟩ := sh_bindv_e h
              refine v1_callV [_] 194 dX2_fact_194 ck_X2_79 (gF_l hG26 k29r.2) ⟨by decide, rfl⟩ (t_X1_addMark hG26 k29r.2 hr32) (by omega) ⟨Nat.le_of_ble_eq_true rfl, Nat.le_of_ble_eq_true rfl⟩ rfl (Nat.le_of_ble_eq_true rfl) ?_
              have hG31 := gp_X1_addMark hG26 k29r.2 hr32
              refine vv_iload_n 197 3 dX2_fact_197 rfl rfl ?_
              obtain ⟨k34, h⟩ := sh_chk h
              obtain ⟨e1, e2⟩ := sh_some2 h
              refine vv_zret 198 dX2_fact_198 rfl (sh_nb k34) (Nat.le_refl _) (Nat.le_refl _) ⟨by rw [e1], e2⟩
            · rw [if_neg c22] at h
              refine vv_iload_n 154 2 dX2_fact_154 rfl rfl ?_
              refine vv_bipush 155 dX2_fact_155 bk_61 ?_
              refine vv_icmp_eq 157 176 dX2_fact_157 (by decide) (fun c35 => ?_) (fun c35 => ?_)
              · rw [if_pos c35] at h
                refine vv_aload_n 176 0 dX2_fact_176 rfl rfl ?_
                refine vv_getR 177 dX2_fact_177 fl_2_9 rfl (g_l_6 hG4) (g_r_6_0 hG4) ?_
                obtain ⟨μ36, hr37, h⟩ := sh_bindv_e h
                refine v1_callV [] 180 dX2_fact_180 ck_X2_43 (g_l_2 hG4) ⟨by decide, rfl⟩ (t_X8_advance hG4 hr37) (by omega) ⟨Nat.le_of_ble_eq_true rfl, Nat.le_of_ble_eq_true rfl⟩ rfl (Nat.le_of_ble_eq_true rfl) ?_
                have hG36 := gp_X8_advance hG4 hr37
                refine vv_aload_n 183 0 dX2_fact_183 rfl rfl ?_
                refine vv_iload_n 184 1 dX2_fact_184 rfl rfl ?_
                obtain ⟨y41, μ39, hr40, h⟩ := sh_bind_e h
                refine v1_callV [_] 185 dX2_fact_185 ck_X2_54 (g_l_6 hG36) ⟨by decide, rfl⟩ (h_X2_sum hG36 hr40) (Nat.le_refl _) ⟨Nat.le_of_ble_eq_true rfl, Nat.le_of_ble_eq_true rfl⟩ rfl (Nat.le_of_ble_eq_true rfl) ?_
                have hG39 := grec hG36 hr40
                refine vv_istore_n (lv' := [(3, _), (2, _), (0, _), (1, _)]) 188 3 dX2_fact_188 rfl (by decide) rfl ?_
                refine vv_aload_n 189 0 dX2_fact_189 rfl rfl ?_
                obtain ⟨k42, h⟩ := sh_chk h
                refine vv_getR 190 dX2_fact_190 fl_2_15 rfl (g_l_6 hG39) k42.1 ?_
                refine vv_topr (fun r43 er43 => ?_)
                rw [sh_let_eq er43] at h
                have k42r : sh_r μ39 6 1 = some r43 ∧ r43 ∈ sh_FORMS := by rw [er43]; exact k42
                refine vv_iload_n 193 2 dX2_fact_193 rfl rfl ?_
                obtain ⟨μ44, hr45, h⟩ := sh_bindv_e h
                refine v1_callV [_] 194 dX2_fact_194 ck_X2_79 (gF_l hG39 k42r.2) ⟨by decide, rfl⟩ (t_X1_addMark hG39 k42r.2 hr45) (by omega) ⟨Nat.le_of_ble_eq_true rfl, Nat.le_of_ble_eq_true rfl⟩ rfl (Nat.le_of_ble_eq_true rfl) ?_
                have hG44 := gp_X1_addMark hG39 k42r.2 hr45
                refine vv_iload_n 197 3 dX2_fact_197 rfl rfl ?_
                obtain ⟨k47, h⟩ := sh_chk h
                obtain ⟨e1, e2⟩ := sh_some2 h
                refine vv_zret 198 dX2_fact_198 rfl (sh_nb k47) (Nat.le_refl _) (Nat.le_refl _) ⟨by rw [e1], e2⟩
              · rw [if_neg c35] at h
                refine vv_aload_n 160 0 dX2_fact_160 rfl rfl ?_
                refine vv_getR 161 dX2_fact_161 fl_2_9 rfl (g_l_6 hG4) (g_r_6_0 hG4) ?_
                refine vv_iconst 164 dX2_fact_164 ik_1 ?_
                refine vv_aload_n 165 0 dX2_fact_165 rfl rfl ?_
                refine vv_getR 166 dX2_fact_166 fl_2_9 rfl (g_l_6 hG4) (g_r_6_0 hG4) ?_
                refine vv_getI 169 dX2_fact_169 fl_2_36 rfl (g_l_2 hG4) ?_
                obtain ⟨y50, μ48, hr49, h⟩ := sh_bind_e h
                refine v1_callV [_, _] 172 dX2_fact_172 ck_X2_39 (g_l_2 hG4) ⟨by decide, rfl⟩ (t_X8_fails hG4 hr49) (by omega) ⟨Nat.le_of_ble_eq_true rfl, Nat.le_of_ble_eq_true rfl⟩ rfl (Nat.le_of_ble_eq_true rfl) ?_
                have hG48 := gp_X8_fails hG4 hr49
                obtain ⟨k51, h⟩ := sh_chk h
                obtain ⟨e1, e2⟩ := sh_some2 h
                refine vv_zret 175 dX2_fact_175 rfl (sh_nb k51) (Nat.le_refl _) (Nat.le_refl _) ⟨by rw [e1], e2⟩
        · rw [if_pos c7] at h
          refine vv_iconst 132 dX2_fact_132 ik_0 ?_
          obtain ⟨e1, e2⟩ := sh_some2 h
          refine vv_zret 133 dX2_fact_133 rfl rfl (Nat.le_refl _) (Nat.le_refl _) ⟨by rw [e1], e2⟩
      · rw [if_neg c3] at h
        refine vv_aload_n 107 0 dX2_fact_107 rfl rfl ?_
        refine vv_getR 108 dX2_fact_108 fl_2_9 rfl (g_l_6 hG) (g_r_6_0 hG) ?_
        obtain ⟨μ52, hr53, h⟩ := sh_bindv_e h
        refine v1_callV [] 111 dX2_fact_111 ck_X2_43 (g_l_2 hG) ⟨by decide, rfl⟩ (t_X8_advance hG hr53) (by omega) ⟨Nat.le_of_ble_eq_true rfl, Nat.le_of_ble_eq_true rfl⟩ rfl (Nat.le_of_ble_eq_true rfl) ?_
        have hG52 := gp_X8_advance hG hr53
        refine vv_aload_n 114 0 dX2_fact_114 rfl rfl ?_
        obtain ⟨k55, h⟩ := sh_chk h
        refine vv_getR 115 dX2_fact_115 fl_2_15 rfl (g_l_6 hG52) k55.1 ?_
        refine vv_topr (fun r56 er56 => ?_)
        rw [sh_let_eq er56] at h
        have k55r : sh_r μ52 6 1 = some r56 ∧ r56 ∈ sh_FORMS := by rw [er56]; exact k55
        refine vv_iconst 118 dX2_fact_118 ik_1 ?_
        obtain ⟨μ57, hr58, h⟩ := sh_bindv_e h
        refine v1_callV [_] 119 dX2_fact_119 ck_X2_76 (gF_l hG52 k55r.2) ⟨by decide, rfl⟩ (t_X1_add hG52 k55r.2 hr58) (by omega) ⟨Nat.le_of_ble_eq_true rfl, Nat.le_of_ble_eq_true rfl⟩ rfl (Nat.le_of_ble_eq_true rfl) ?_
        have hG57 := gp_X1_add hG52 k55r.2 hr58
        refine vv_iconst 122 dX2_fact_122 ik_1 ?_
        obtain ⟨e1, e2⟩ := sh_some2 h
        refine vv_zret 123 dX2_fact_123 rfl rfl (Nat.le_refl _) (Nat.le_refl _) ⟨by rw [e1], e2⟩
    · rw [if_pos c2] at h
      refine vv_aload_n 59 0 dX2_fact_59 rfl rfl ?_
      refine vv_iload_n 60 1 dX2_fact_60 rfl rfl ?_
      obtain ⟨y62, μ60, hr61, h⟩ := sh_bind_e h
      refine v1_callV [_] 61 dX2_fact_61 ck_X2_73 (g_l_6 hG) ⟨by decide, rfl⟩ (t_X2_opens hG hr61) (by omega) ⟨Nat.le_of_ble_eq_true rfl, Nat.le_of_ble_eq_true rfl⟩ rfl (Nat.le_of_ble_eq_true rfl) ?_
      have hG60 := gp_X2_opens hG hr61
      refine vv_if_eq 64 93 dX2_fact_64 (by decide) (fun c63 => ?_) (fun c63 => ?_)
      · rw [if_pos c63] at h
        refine vv_iconst 93 dX2_fact_93 ik_0 ?_
        obtain ⟨e1, e2⟩ := sh_some2 h
        refine vv_zret 94 dX2_fact_94 rfl rfl (Nat.le_refl _) (Nat.le_refl _) ⟨by rw [e1], e2⟩
      · rw [if_neg c63] at h
        refine vv_aload_n 67 0 dX2_fact_67 rfl rfl ?_
        refine vv_iload_n 68 1 dX2_fact_68 rfl rfl ?_
        refine vv_iconst 69 dX2_fact_69 ik_1 ?_
        refine vv_iadd 70 dX2_fact_70 ?_
        obtain ⟨y66, μ64, hr65, h⟩ := sh_bind_e h
        refine v1_callV [_] 71 dX2_fact_71 ck_X2_50 (g_l_6 hG60) ⟨by decide, rfl⟩ (h_X2_test hG60 hr65) (Nat.le_refl _) ⟨Nat.le_of_ble_eq_true rfl, Nat.le_of_ble_eq_true rfl⟩ rfl (Nat.le_of_ble_eq_true rfl) ?_
        have hG64 := grec hG60 hr65
        refine vv_if_eq 74 93 dX2_fact_74 (by decide) (fun c67 => ?_) (fun c67 => ?_)
        · rw [if_pos c67] at h
          refine vv_iconst 93 dX2_fact_93 ik_0 ?_
          obtain ⟨e1, e2⟩ := sh_some2 h
          refine vv_zret 94 dX2_fact_94 rfl rfl (Nat.le_refl _) (Nat.le_refl _) ⟨by rw [e1], e2⟩
        · rw [if_neg c67] at h
          refine vv_aload_n 77 0 dX2_fact_77 rfl rfl ?_
          refine vv_getR 78 dX2_fact_78 fl_2_9 rfl (g_l_6 hG64) (g_r_6_0 hG64) ?_
          refine vv_bipush 81 dX2_fact_81 bk_93 ?_
          obtain ⟨y70, μ68, hr69, h⟩ := sh_bind_e h
          refine v1_callV [_] 83 dX2_fact_83 ck_X2_57 (g_l_2 hG64) ⟨by decide, rfl⟩ (t_X8_takesMark hG64 hr69) (by omega) ⟨Nat.le_of_ble_eq_true rfl, Nat.le_of_ble_eq_true rfl⟩ rfl (Nat.le_of_ble_eq_true rfl) ?_
          have hG68 := gp_X8_takesMark hG64 hr69
          refine vv_if_eq 86 93 dX2_fact_86 (by decide) (fun c71 => ?_) (fun c71 => ?_)
          · rw [if_pos c71] at h
            refine vv_iconst 93 dX2_fact_93 ik_0 ?_
            obtain ⟨e1, e2⟩ := sh_some2 h
            refine vv_zret 94 dX2_fact_94 rfl rfl (Nat.le_refl _) (Nat.le_refl _) ⟨by rw [e1], e2⟩
          · rw [if_neg c71] at h
            refine vv_iconst 89 dX2_fact_89 ik_1 ?_
            refine vv_goto 90 94 dX2_fact_90 (by decide) ?_
            obtain ⟨e1, e2⟩ := sh_some2 h
            refine vv_zret 94 dX2_fact_94 rfl rfl (Nat.le_refl _) (Nat.le_refl _) ⟨by rw [e1], e2⟩
  · rw [if_neg c1] at h
    refine vv_aload_n 12 0 dX2_fact_12 rfl rfl ?_
    refine vv_iload_n 13 1 dX2_fact_13 rfl rfl ?_
    obtain ⟨y74, μ72, hr73, h⟩ := sh_bind_e h
    refine v1_callV [_] 14 dX2_fact_14 ck_X2_73 (g_l_6 hG) ⟨by decide, rfl⟩ (t_X2_opens hG hr73) (by omega) ⟨Nat.le_of_ble_eq_true rfl, Nat.le_of_ble_eq_true rfl⟩ rfl (Nat.le_of_ble_eq_true rfl) ?_
    have hG72 := gp_X2_opens hG hr73
    refine vv_if_eq 17 34 dX2_fact_17 (by decide) (fun c75 => ?_) (fun c75 => ?_)
    · rw [if_pos c75] at h
      refine vv_iconst 34 dX2_fact_34 ik_0 ?_
      refine vv_istore_n (lv' := [(2, _), (0, _), (1, _)]) 35 2 dX2_fact_35 rfl (by decide) rfl ?_
      refine vv_aload_n 36 0 dX2_fact_36 rfl rfl ?_
      obtain ⟨k76, h⟩ := sh_chk h
      refine vv_getR 37 dX2_fact_37 fl_2_15 rfl (g_l_6 hG72) k76.1 ?_
      refine vv_topr (fun r77 er77 => ?_)
      rw [sh_let_eq er77] at h
      have k76r : sh_r μ72 6 1 = some r77 ∧ r77 ∈ sh_FORMS := by rw [er77]; exact k76
      refine vv_bipush 40 dX2_fact_40 bk_23 ?_
      obtain ⟨μ78, hr79, h⟩ := sh_bindv_e h
      refine v1_callV [_] 42 dX2_fact_42 ck_X2_66 (gF_l hG72 k76r.2) ⟨by decide, rfl⟩ (t_X1_addWord hG72 k76r.2 hr79) (by omega) ⟨Nat.le_of_ble_eq_true rfl, Nat.le_of_ble_eq_true rfl⟩ rfl (Nat.le_of_ble_eq_true rfl) ?_
      have hG78 := gp_X1_addWord hG72 k76r.2 hr79
      refine vv_iload_n 45 2 dX2_fact_45 rfl rfl ?_
      obtain ⟨e1, e2⟩ := sh_some2 h
      refine vv_zret 46 dX2_fact_46 rfl rfl (Nat.le_refl _) (Nat.le_refl _) ⟨by rw [e1], e2⟩
    · rw [if_neg c75] at h
      refine vv_aload_n 20 0 dX2_fact_20 rfl rfl ?_
      refine vv_iload_n 21 1 dX2_fact_21 rfl rfl ?_
      refine vv_iconst 22 dX2_fact_22 ik_1 ?_
      refine vv_iadd 23 dX2_fact_23 ?_
      obtain ⟨y83, μ81, hr82, h⟩ := sh_bind_e h
      refine v1_callV [_] 24 dX2_fact_24 ck_X2_70 (g_l_6 hG72) ⟨by decide, rfl⟩ (h_X2_fact hG72 hr82) (Nat.le_refl _) ⟨Nat.le_of_ble_eq_true rfl, Nat.le_of_ble_eq_true rfl⟩ rfl (Nat.le_of_ble_eq_true rfl) ?_
      have hG81 := grec hG72 hr82
      refine vv_if_eq 27 34 dX2_fact_27 (by decide) (fun c84 => ?_) (fun c84 => ?_)
      · rw [if_pos c84] at h
        refine vv_iconst 34 dX2_fact_34 ik_0 ?_
        refine vv_istore_n (lv' := [(2, _), (0, _), (1, _)]) 35 2 dX2_fact_35 rfl (by decide) rfl ?_
        refine vv_aload_n 36 0 dX2_fact_36 rfl rfl ?_
        obtain ⟨k85, h⟩ := sh_chk h
        refine vv_getR 37 dX2_fact_37 fl_2_15 rfl (g_l_6 hG81) k85.1 ?_
        refine vv_topr (fun r86 er86 => ?_)
        rw [sh_let_eq er86] at h
        have k85r : sh_r μ81 6 1 = some r86 ∧ r86 ∈ sh_FORMS := by rw [er86]; exact k85
        refine vv_bipush 40 dX2_fact_40 bk_23 ?_
        obtain ⟨μ87, hr88, h⟩ := sh_bindv_e h
        refine v1_callV [_] 42 dX2_fact_42 ck_X2_66 (gF_l hG81 k85r.2) ⟨by decide, rfl⟩ (t_X1_addWord hG81 k85r.2 hr88) (by omega) ⟨Nat.le_of_ble_eq_true rfl, Nat.le_of_ble_eq_true rfl⟩ rfl (Nat.le_of_ble_eq_true rfl) ?_
        have hG87 := gp_X1_addWord hG81 k85r.2 hr88
        refine vv_iload_n 45 2 dX2_fact_45 rfl rfl ?_
        obtain ⟨e1, e2⟩ := sh_some2 h
        refine vv_zret 46 dX2_fact_46 rfl rfl (Nat.le_refl _) (Nat.le_refl _) ⟨by rw [e1], e2⟩
      · rw [if_neg c84] at h
        refine vv_iconst 30 dX2_fact_30 ik_1 ?_
        refine vv_goto 31 35 dX2_fact_31 (by decide) ?_
        refine vv_istore_n (lv' := [(2, _), (0, _), (1, _)]) 35 2 dX2_fact_35 rfl (by decide) rfl ?_
        refine vv_aload_n 36 0 dX2_fact_36 rfl rfl ?_
        obtain ⟨k90, h⟩ := sh_chk h
        refine vv_getR 37 dX2_fact_37 fl_2_15 rfl (g_l_6 hG81) k90.1 ?_
        refine vv_topr (fun r91 er91 => ?_)
        rw [sh_let_eq er91] at h
        have k90r : sh_r μ81 6 1 = some r91 ∧ r91 ∈ sh_FORMS := by rw [er91]; exact k90
        refine vv_bipush 40 dX2_fact_40 bk_23 ?_
        obtain ⟨μ92, hr93, h⟩ := sh_bindv_e h
        refine v1_callV [_] 42 dX2_fact_42 ck_X2_66 (gF_l hG81 k90r.2) ⟨by decide, rfl⟩ (t_X1_addWord hG81 k90r.2 hr93) (by omega) ⟨Nat.le_of_ble_eq_true rfl, Nat.le_of_ble_eq_true rfl⟩ rfl (Nat.le_of_ble_eq_true rfl) ?_
        have hG92 := gp_X1_addWord hG81 k90r.2 hr93
        refine vv_iload_n 45 2 dX2_fact_45 rfl rfl ?_
        obtain ⟨e1, e2⟩ := sh_some2 h
        refine vv_zret 46 dX2_fact_46 rfl rfl (Nat.le_refl _) (Nat.le_refl _) ⟨by rw [e1], e2⟩
noncomputable def F_X2_sum (rec : Nat → Int32 → Int32 → Int32 → sh_Mem → Option (Int32 × sh_Mem)) : Nat → Nat → Int32 → Int32 → Int32 → sh_Mem → Option (Int32 × sh_Mem)
  | 0, _, _, _, _, _ => none
  | fuel + 1, lbl, i1, i2, i3, μ => match lbl with
    | 1 => (if 1600 ≤ i3 then (if i2 = 0 ∨ i2 = 1 then some (i2, μ) else none) else (if i2 = 0 then (if i2 = 0 ∨ i2 = 1 then some (i2, μ) else none) else (if (sh_i μ 2 3) = 43 then sh_let ((sh_i μ 2 3) : Int32) (fun x40 => sh_bindv (f_X8_advance μ) (fun μ41 => sh_bind (rec 4 i1 0 0 μ41) (fun y46 μ44 => (if (sh_r μ44 6 1 = some (sh_ref μ44 6 1) ∧ (sh_ref μ44 6 1) ∈ sh_FORMS) then sh_let (sh_ref μ44 6 1) (fun r48 => sh_bindv (f_X1_addMark r48 x40 μ44) (fun μ49 => F_X2_sum rec fuel 1 i1 y46 (i3 + 1) μ49)) else none)))) else (if (sh_i μ 2 3) = 45 then sh_let ((sh_i μ 2 3) : Int32) (fun x54 => sh_bindv (f_X8_advance μ) (fun μ55 => sh_bind (rec 4 i1 0 0 μ55) (fun y60 μ58 => (if (sh_r μ58 6 1 = some (sh_ref μ58 6 1) ∧ (sh_ref μ58 6 1) ∈ sh_FORMS) then sh_let (sh_ref μ58 6 1) (fun r62 => sh_bindv (f_X1_addMark r62 x54 μ58) (fun μ63 => F_X2_sum rec fuel 1 i1 y60 (i3 + 1) μ63)) else none)))) else (if i2 = 0 ∨ i2 = 1 then some (i2, μ) else none)))))
    | _ => none
noncomputable def f_X2_sum (rec : Nat → Int32 → Int32 → Int32 → sh_Mem → Option (Int32 × sh_Mem)) (a1 : Int32) (μ : sh_Mem) : Option (Int32 × sh_Mem) := sh_bind (rec 4 a1 0 0 μ) (fun y68 μ66 => F_X2_sum rec sh_fuel 1 a1 y68 0 μ66)
theorem gpl_X2_sum {rec : Nat → Int32 → Int32 → Int32 → sh_Mem → Option (Int32 × sh_Mem)} (grec : ∀ ⦃k : Nat⦄ ⦃b1 b2 b3 : Int32⦄ ⦃μ μ' : sh_Mem⦄ ⦃v : Int32⦄, sh_G μ → rec k b1 b2 b3 μ = some (v, μ') → sh_G μ') (fuel : Nat) : (∀ ⦃i1 : Int32⦄ ⦃i2 : Int32⦄ ⦃i3 : Int32⦄ ⦃μ μ' : sh_Mem⦄ ⦃v : Int32⦄, sh_G μ → F_X2_sum rec fuel 1 i1 i2 i3 μ = some (v, μ') → sh_G μ') := by
  induction fuel with
  | zero => intro i1 i2 i3 μ μ' v hG h; cases h
  | succ fuel ih =>
    have ih_8 := ih
    intro i1 i2 i3 μ μ' v hG h
    replace h : ((if 1600 ≤ i3 then (if i2 = 0 ∨ i2 = 1 then some (i2, μ) else none) else (if i2 = 0 then (if i2 = 0 ∨ i2 = 1 then some (i2, μ) else none) else (if (sh_i μ 2 3) = 43 then sh_let ((sh_i μ 2 3) : Int32) (fun x40 => sh_bindv (f_X8_advance μ) (fun μ41 => sh_bind (rec 4 i1 0 0 μ41) (fun y46 μ44 => (if (sh_r μ44 6 1 = some (sh_ref μ44 6 1) ∧ (sh_ref μ44 6 1) ∈ sh_FORMS) then sh_let (sh_ref μ44 6 1) (fun r48 => sh_bindv (f_X1_addMark r48 x40 μ44) (fun μ49 => F_X2_sum rec fuel 1 i1 y46 (i3 + 1) μ49)) else none)))) else (if (sh_i μ 2 3) = 45 then sh_let ((sh_i μ 2 3) : Int32) (fun x54 => sh_bindv (f_X8_advance μ) (fun μ55 => sh_bind (rec 4 i1 0 0 μ55) (fun y60 μ58 => (if (sh_r μ58 6 1 = some (sh_ref μ58 6 1) ∧ (sh_ref μ58 6 1) ∈ sh_FORMS) then sh_let (sh_ref μ58 6 1) (fun r62 => sh_bindv (f_X1_addMark r62 x54 μ58) (fun μ63 => F_X2_sum rec fuel 1 i1 y60 (i3 + 1) μ63)) else none)))) else (if i2 = 0 ∨ i2 = 1 then some (i2, μ) else none))))) : Option (Int32 × sh_Mem)) = some (v, μ') := h
    by_cases c35 : 1600 ≤ i3
    · rw [if_pos c35] at h
      obtain ⟨k36, h⟩ := sh_chk h
      obtain ⟨e1, e2⟩ := sh_some2 h
      exact e2 ▸ hG
    · rw [if_neg c35] at h
      by_cases c37 : i2 = 0
      · rw [if_pos c37] at h
        obtain ⟨k38, h⟩ := sh_chk h
        obtain ⟨e1, e2⟩ := sh_some2 h
        exact e2 ▸ hG
      · rw [if_neg c37] at h
        by_cases c39 : (sh_i μ 2 3) = 43
        · rw [if_pos c39] at h
          obtain ⟨x40, ex40⟩ : ∃ y : Int32, y = (sh_i μ 2 3) := ⟨_, rfl⟩
          rw [sh_let_eq ex40] at h
          obtain ⟨μ41, hr42, h⟩ := sh_bindv_e h
          have hG41 := gp_X8_advance hG hr42
          obtain ⟨y46, μ44, hr45, h⟩ := sh_bind_e h
          have hG44 := grec hG41 hr45
          obtain ⟨k47, h⟩ := sh_chk h
          obtain ⟨r48, er48⟩ : ∃ y : Nat, y = (sh_ref μ44 6 1) := ⟨_, rfl⟩
          rw [sh_let_eq er48] at h
          have k47r : sh_r μ44 6 1 = some r48 ∧ r48 ∈ sh_FORMS := by rw [er48]; exact k47
          obtain ⟨μ49, hr50, h⟩ := sh_bindv_e h
          have hG49 := gp_X1_addMark hG44 k47r.2 hr50
          exact ih_8 hG49 h
        · rw [if_neg c39] at h
          by_cases c52 : (sh_i μ 2 3) = 45
          · rw [if_pos c52] at h
            obtain ⟨x54, ex54⟩ : ∃ y : Int32, y = (sh_i μ 2 3) := ⟨_, rfl⟩
            rw [sh_let_eq ex54] at h
            obtain ⟨μ55, hr56, h⟩ := sh_bindv_e h
            have hG55 := gp_X8_advance hG hr56
            obtain ⟨y60, μ58, hr59, h⟩ := sh_bind_e h
            have hG58 := grec hG55 hr59
            obtain ⟨k61, h⟩ := sh_chk h
            obtain ⟨r62, er62⟩ : ∃ y : Nat, y = (sh_ref μ58 6 1) := ⟨_, rfl⟩
            rw [sh_let_eq er62] at h
            have k61r : sh_r μ58 6 1 = some r62 ∧ r62 ∈ sh_FORMS := by rw [er62]; exact k61
            obtain ⟨μ63, hr64, h⟩ := sh_bindv_e h
            have hG63 := gp_X1_addMark hG58 k61r.2 hr64
            exact ih_8 hG63 h
          · rw [if_neg c52] at h
            obtain ⟨k53, h⟩ := sh_chk h
            obtain ⟨e1, e2⟩ := sh_some2 h
            exact e2 ▸ hG
theorem tl_X2_sum {rec : Nat → Int32 → Int32 → Int32 → sh_Mem → Option (Int32 × sh_Mem)} (grec : ∀ ⦃k : Nat⦄ ⦃b1 b2 b3 : Int32⦄ ⦃μ μ' : sh_Mem⦄ ⦃v : Int32⦄, sh_G μ → rec k b1 b2 b3 μ = some (v, μ') → sh_G μ') {d : Nat} (hd : 8 ≤ d) (h_X2_test : (∀ ⦃b1 : Int32⦄ ⦃μ μ' : sh_Mem⦄ ⦃v : Int32⦄, sh_G μ → rec 0 b1 0 0 μ = some (v, μ') → sh_C0 l B D ca d M_X2_test [.ref 6, .int b1] μ (fun v0 μ0 => v0 = some (.int v) ∧ μ0 = μ'))) (h_X2_both : (∀ ⦃b1 : Int32⦄ ⦃μ μ' : sh_Mem⦄ ⦃v : Int32⦄, sh_G μ → rec 1 b1 0 0 μ = some (v, μ') → sh_C0 l B D ca d M_X2_both [.ref 6, .int b1] μ (fun v0 μ0 => v0 = some (.int v) ∧ μ0 = μ'))) (h_X2_fact : (∀ ⦃b1 : Int32⦄ ⦃μ μ' : sh_Mem⦄ ⦃v : Int32⦄, sh_G μ → rec 2 b1 0 0 μ = some (v, μ') → sh_C0 l B D ca d M_X2_fact [.ref 6, .int b1] μ (fun v0 μ0 => v0 = some (.int v) ∧ μ0 = μ'))) (h_X2_sum : (∀ ⦃b1 : Int32⦄ ⦃μ μ' : sh_Mem⦄ ⦃v : Int32⦄, sh_G μ → rec 3 b1 0 0 μ = some (v, μ') → sh_C0 l B D ca d M_X2_sum [.ref 6, .int b1] μ (fun v0 μ0 => v0 = some (.int v) ∧ μ0 = μ'))) (h_X2_product : (∀ ⦃b1 : Int32⦄ ⦃μ μ' : sh_Mem⦄ ⦃v : Int32⦄, sh_G μ → rec 4 b1 0 0 μ = some (v, μ') → sh_C0 l B D ca d M_X2_product [.ref 6, .int b1] μ (fun v0 μ0 => v0 = some (.int v) ∧ μ0 = μ'))) (h_X2_part : (∀ ⦃b1 : Int32⦄ ⦃μ μ' : sh_Mem⦄ ⦃v : Int32⦄, sh_G μ → rec 5 b1 0 0 μ = some (v, μ') → sh_C0 l B D ca d M_X2_part [.ref 6, .int b1] μ (fun v0 μ0 => v0 = some (.int v) ∧ μ0 = μ'))) (h_X2_ofTwoSums : (∀ ⦃b1 b2 : Int32⦄ ⦃μ μ' : sh_Mem⦄ ⦃v : Int32⦄, sh_G μ → rec 6 b1 b2 0 μ = some (v, μ') → sh_C0 l B D ca d M_X2_ofTwoSums [.ref 6, .int b1, .int b2] μ (fun v0 μ0 => v0 = some (.int v) ∧ μ0 = μ'))) (fuel : Nat) : (∀ ⦃i1 : Int32⦄ ⦃i2 : Int32⦄ ⦃i3 : Int32⦄ ⦃μ μ' : sh_Mem⦄ ⦃v : Int32⦄, sh_G μ → F_X2_sum rec fuel 1 i1 i2 i3 μ = some (v, μ') → sh_V0 l B D ca (d + 1) M_X2_sum 8 [(0, .ref 6), (1, .int i1), (2, .int i2), (3, .int i3)] [] μ (fun v0 μ0 => v0 = some (.int v) ∧ μ0 = μ')) := by
  induction fuel with
  | zero => intro i1 i2 i3 μ μ' v hG h; cases h
  | succ fuel ih =>
    have ih_8 := ih
    intro i1 i2 i3 μ μ' v hG h
    replace h : ((if 1600 ≤ i3 then (if i2 = 0 ∨ i2 = 1 then some (i2, μ) else none) else (if i2 = 0 then (if i2 = 0 ∨ i2 = 1 then some (i2, μ) else none) else (if (sh_i μ 2 3) = 43 then sh_let ((sh_i μ 2 3) : Int32) (fun x40 => sh_bindv (f_X8_advance μ) (fun μ41 => sh_bind (rec 4 i1 0 0 μ41) (fun y46 μ44 => (if (sh_r μ44 6 1 = some (sh_ref μ44 6 1) ∧ (sh_ref μ44 6 1) ∈ sh_FORMS) then sh_let (sh_ref μ44 6 1) (fun r48 => sh_bindv (f_X1_addMark r48 x40 μ44) (fun μ49 => F_X2_sum rec fuel 1 i1 y46 (i3 + 1) μ49)) else none)))) else (if (sh_i μ 2 3) = 45 then sh_let ((sh_i μ 2 3) : Int32) (fun x54 => sh_bindv (f_X8_advance μ) (fun μ55 => sh_bind (rec 4 i1 0 0 μ55) (fun y60 μ58 => (if (sh_r μ58 6 1 = some (sh_ref μ58 6 1) ∧ (sh_ref μ58 6 1) ∈ sh_FORMS) then sh_let (sh_ref μ58 6 1) (fun r62 => sh_bindv (f_X1_addMark r62 x54 μ58) (fun μ63 => F_X2_sum rec fuel 1 i1 y60 (i3 + 1) μ63)) else none)))) else (if i2 = 0 ∨ i2 = 1 then some (i2, μ) else none))))) : Option (Int32 × sh_Mem)) = some (v, μ') := h
    refine vv_iload_n 8 3 dX2_sum_8 rfl rfl ?_
    refine vv_sipush 9 dX2_sum_9 sk_1600 ?_
    refine vv_icmp_ge 12 80 dX2_sum_12 (by decide) (fun c35 => ?_) (fun c35 => ?_)
    · rw [if_pos c35] at h
      refine vv_iload_n 80 2 dX2_sum_80 rfl rfl ?_
      obtain ⟨k36, h⟩ := sh_chk h
      obtain ⟨e1, e2⟩ := sh_some2 h
      refine vv_zret 81 dX2_sum_81 rfl (sh_nb k36) (Nat.le_refl _) (Nat.le_refl _) ⟨by rw [e1], e2⟩
    · rw [if_neg c35] at h
      refine vv_iload_n 15 2 dX2_sum_15 rfl rfl ?_
      refine vv_if_eq 16 80 dX2_sum_16 (by decide) (fun c37 => ?_) (fun c37 => ?_)
      · rw [if_pos c37] at h
        refine vv_iload_n 80 2 dX2_sum_80 rfl rfl ?_
        obtain ⟨k38, h⟩ := sh_chk h
        obtain ⟨e1, e2⟩ := sh_some2 h
        refine vv_zret 81 dX2_sum_81 rfl (sh_nb k38) (Nat.le_refl _) (Nat.le_refl _) ⟨by rw [e1], e2⟩
      · rw [if_neg c37] at h
        refine vv_aload_n 19 0 dX2_sum_19 rfl rfl ?_
        refine vv_getR 20 dX2_sum_20 fl_2_9 rfl (g_l_6 hG) (g_r_6_0 hG) ?_
        refine vv_getI 23 dX2_sum_23 fl_2_28 rfl (g_l_2 hG) ?_
        refine vv_bipush 26 dX2_sum_26 bk_43 ?_
        refine vv_icmp_eq 28 43 dX2_sum_28 (by decide) (fun c39 => ?_) (fun c39 => ?_)
        · rw [if_pos c39] at h
          refine vv_aload_n 43 0 dX2_sum_43 rfl rfl ?_
          refine vv_getR 44 dX2_sum_44 fl_2_9 rfl (g_l_6 hG) (g_r_6_0 hG) ?_
          refine vv_getI 47 dX2_sum_47 fl_2_28 rfl (g_l_2 hG) ?_
          refine vv_topi (fun x40 ex40 => ?_)
          rw [sh_let_eq ex40] at h
          refine vv_istore (lv' := [(4, _), (0, _), (1, _), (2, _), (3, _)]) 50 4 dX2_sum_50 (by decide) rfl ?_
          refine vv_aload_n 52 0 dX2_sum_52 rfl rfl ?_
          refine vv_getR 53 dX2_sum_53 fl_2_9 rfl (g_l_6 hG) (g_r_6_0 hG) ?_
          obtain ⟨μ41, hr42, h⟩ := sh_bindv_e h
          refine v1_callV [] 56 dX2_sum_56 ck_X2_43 (g_l_2 hG) ⟨by decide, rfl⟩ (t_X8_advance hG hr42) (by omega) ⟨Nat.le_of_ble_eq_true rfl, Nat.le_of_ble_eq_true rfl⟩ rfl (Nat.le_of_ble_eq_true rfl) ?_
          have hG41 := gp_X8_advance hG hr42
          refine vv_aload_n 59 0 dX2_sum_59 rfl rfl ?_
          refine vv_iload_n 60 1 dX2_sum_60 rfl rfl ?_
          obtain ⟨y46, μ44, hr45, h⟩ := sh_bind_e h
          refine v1_callV [_] 61 dX2_sum_61 ck_X2_82 (g_l_6 hG41) ⟨by decide, rfl⟩ (h_X2_product hG41 hr45) (Nat.le_refl _) ⟨Nat.le_of_ble_eq_true rfl, Nat.le_of_ble_eq_true rfl⟩ rfl (Nat.le_of_ble_eq_true rfl) ?_
          have hG44 := grec hG41 hr45
          refine vv_istore_n (lv' := [(2, _), (4, _), (0, _), (1, _), (3, _)]) 64 2 dX2_sum_64 rfl (by decide) rfl ?_
          refine vv_aload_n 65 0 dX2_sum_65 rfl rfl ?_
          obtain ⟨k47, h⟩ := sh_chk h
          refine vv_getR 66 dX2_sum_66 fl_2_15 rfl (g_l_6 hG44) k47.1 ?_
          refine vv_topr (fun r48 er48 => ?_)
          rw [sh_let_eq er48] at h
          have k47r : sh_r μ44 6 1 = some r48 ∧ r48 ∈ sh_FORMS := by rw [er48]; exact k47
          refine vv_iload 69 4 dX2_sum_69 rfl ?_
          obtain ⟨μ49, hr50, h⟩ := sh_bindv_e h
          refine v1_callV [_] 71 dX2_sum_71 ck_X2_79 (gF_l hG44 k47r.2) ⟨by decide, rfl⟩ (t_X1_addMark hG44 k47r.2 hr50) (by omega) ⟨Nat.le_of_ble_eq_true rfl, Nat.le_of_ble_eq_true rfl⟩ rfl (Nat.le_of_ble_eq_true rfl) ?_
          have hG49 := gp_X1_addMark hG44 k47r.2 hr50
          refine vv_iincc (lv' := [(3, _), (2, _), (4, _), (0, _), (1, _)]) 74 3 dX2_sum_74 rfl ik_1 (by decide) rfl ?_
          refine vv_goto 77 8 dX2_sum_77 (by decide) ?_
          refine vv_sub [(0, _), (1, _), (2, _), (3, _)] (sh_subm [3, 4, 1, 0] rfl) ?_
          exact ih_8 hG49 h
        · rw [if_neg c39] at h
          refine vv_aload_n 31 0 dX2_sum_31 rfl rfl ?_
          refine vv_getR 32 dX2_sum_32 fl_2_9 rfl (g_l_6 hG) (g_r_6_0 hG) ?_
          refine vv_getI 35 dX2_sum_35 fl_2_28 rfl (g_l_2 hG) ?_
          refine vv_bipush 38 dX2_sum_38 bk_45 ?_
          refine vv_icmp_ne 40 80 dX2_sum_40 (by decide) (fun c52 => ?_) (fun c52 => ?_)
          · rw [if_neg c52] at h
            refine vv_iload_n 80 2 dX2_sum_80 rfl rfl ?_
            obtain ⟨k53, h⟩ := sh_chk h
            obtain ⟨e1, e2⟩ := sh_some2 h
            refine vv_zret 81 dX2_sum_81 rfl (sh_nb k53) (Nat.le_refl _) (Nat.le_refl _) ⟨by rw [e1], e2⟩
          · rw [if_pos c52] at h
            refine vv_aload_n 43 0 dX2_sum_43 rfl rfl ?_
            refine vv_getR 44 dX2_sum_44 fl_2_9 rfl (g_l_6 hG) (g_r_6_0 hG) ?_
            refine vv_getI 47 dX2_sum_47 fl_2_28 rfl (g_l_2 hG) ?_
            refine vv_topi (fun x54 ex54 => ?_)
            rw [sh_let_eq ex54] at h
            refine vv_istore (lv' := [(4, _), (0, _), (1, _), (2, _), (3, _)]) 50 4 dX2_sum_50 (by decide) rfl ?_
            refine vv_aload_n 52 0 dX2_sum_52 rfl rfl ?_
            refine vv_getR 53 dX2_sum_53 fl_2_9 rfl (g_l_6 hG) (g_r_6_0 hG) ?_
            obtain ⟨μ55, hr56, h⟩ := sh_bindv_e h
            refine v1_callV [] 56 dX2_sum_56 ck_X2_43 (g_l_2 hG) ⟨by decide, rfl⟩ (t_X8_advance hG hr56) (by omega) ⟨Nat.le_of_ble_eq_true rfl, Nat.le_of_ble_eq_true rfl⟩ rfl (Nat.le_of_ble_eq_true rfl) ?_
            have hG55 := gp_X8_advance hG hr56
            refine vv_aload_n 59 0 dX2_sum_59 rfl rfl ?_
            refine vv_iload_n 60 1 dX2_sum_60 rfl rfl ?_
            obtain ⟨y60, μ58, hr59, h⟩ := sh_bind_e h
            refine v1_callV [_] 61 dX2_sum_61 ck_X2_82 (g_l_6 hG55) ⟨by decide, rfl⟩ (h_X2_product hG55 hr59) (Nat.le_refl _) ⟨Nat.le_of_ble_eq_true rfl, Nat.le_of_ble_eq_true rfl⟩ rfl (Nat.le_of_ble_eq_true rfl) ?_
            have hG58 := grec hG55 hr59
            refine vv_istore_n (lv' := [(2, _), (4, _), (0, _), (1, _), (3, _)]) 64 2 dX2_sum_64 rfl (by decide) rfl ?_
            refine vv_aload_n 65 0 dX2_sum_65 rfl rfl ?_
            obtain ⟨k61, h⟩ := sh_chk h
            refine vv_getR 66 dX2_sum_66 fl_2_15 rfl (g_l_6 hG58) k61.1 ?_
            refine vv_topr (fun r62 er62 => ?_)
            rw [sh_let_eq er62] at h
            have k61r : sh_r μ58 6 1 = some r62 ∧ r62 ∈ sh_FORMS := by rw [er62]; exact k61
            refine vv_iload 69 4 dX2_sum_69 rfl ?_
            obtain ⟨μ63, hr64, h⟩ := sh_bindv_e h
            refine v1_callV [_] 71 dX2_sum_71 ck_X2_79 (gF_l hG58 k61r.2) ⟨by decide, rfl⟩ (t_X1_addMark hG58 k61r.2 hr64) (by omega) ⟨Nat.le_of_ble_eq_true rfl, Nat.le_of_ble_eq_true rfl⟩ rfl (Nat.le_of_ble_eq_true rfl) ?_
            have hG63 := gp_X1_addMark hG58 k61r.2 hr64
            refine vv_iincc (lv' := [(3, _), (2, _), (4, _), (0, _), (1, _)]) 74 3 dX2_sum_74 rfl ik_1 (by decide) rfl ?_
            refine vv_goto 77 8 dX2_sum_77 (by decide) ?_
            refine vv_sub [(0, _), (1, _), (2, _), (3, _)] (sh_subm [3, 4, 1, 0] rfl) ?_
            exact ih_8 hG63 h
theorem gp_X2_sum {rec : Nat → Int32 → Int32 → Int32 → sh_Mem → Option (Int32 × sh_Mem)} {a1 : Int32} {μ μ' : sh_Mem} {v : Int32}  (grec : ∀ ⦃k : Nat⦄ ⦃b1 b2 b3 : Int32⦄ ⦃μ μ' : sh_Mem⦄ ⦃v : Int32⦄, sh_G μ → rec k b1 b2 b3 μ = some (v, μ') → sh_G μ')(hG : sh_G μ) (h : f_X2_sum rec a1 μ = some (v, μ')) : sh_G μ' := by
  have ih_8 := (gpl_X2_sum grec sh_fuel)
  unfold f_X2_sum at h
  obtain ⟨y68, μ66, hr67, h⟩ := sh_bind_e h
  have hG66 := grec hG hr67
  exact ih_8 hG66 h
theorem t_X2_sum {rec : Nat → Int32 → Int32 → Int32 → sh_Mem → Option (Int32 × sh_Mem)} {a1 : Int32} {μ μ' : sh_Mem} {v : Int32}  (grec : ∀ ⦃k : Nat⦄ ⦃b1 b2 b3 : Int32⦄ ⦃μ μ' : sh_Mem⦄ ⦃v : Int32⦄, sh_G μ → rec k b1 b2 b3 μ = some (v, μ') → sh_G μ') {d : Nat} (hd : 8 ≤ d) (h_X2_test : (∀ ⦃b1 : Int32⦄ ⦃μ μ' : sh_Mem⦄ ⦃v : Int32⦄, sh_G μ → rec 0 b1 0 0 μ = some (v, μ') → sh_C0 l B D ca d M_X2_test [.ref 6, .int b1] μ (fun v0 μ0 => v0 = some (.int v) ∧ μ0 = μ'))) (h_X2_both : (∀ ⦃b1 : Int32⦄ ⦃μ μ' : sh_Mem⦄ ⦃v : Int32⦄, sh_G μ → rec 1 b1 0 0 μ = some (v, μ') → sh_C0 l B D ca d M_X2_both [.ref 6, .int b1] μ (fun v0 μ0 => v0 = some (.int v) ∧ μ0 = μ'))) (h_X2_fact : (∀ ⦃b1 : Int32⦄ ⦃μ μ' : sh_Mem⦄ ⦃v : Int32⦄, sh_G μ → rec 2 b1 0 0 μ = some (v, μ') → sh_C0 l B D ca d M_X2_fact [.ref 6, .int b1] μ (fun v0 μ0 => v0 = some (.int v) ∧ μ0 = μ'))) (h_X2_sum : (∀ ⦃b1 : Int32⦄ ⦃μ μ' : sh_Mem⦄ ⦃v : Int32⦄, sh_G μ → rec 3 b1 0 0 μ = some (v, μ') → sh_C0 l B D ca d M_X2_sum [.ref 6, .int b1] μ (fun v0 μ0 => v0 = some (.int v) ∧ μ0 = μ'))) (h_X2_product : (∀ ⦃b1 : Int32⦄ ⦃μ μ' : sh_Mem⦄ ⦃v : Int32⦄, sh_G μ → rec 4 b1 0 0 μ = some (v, μ') → sh_C0 l B D ca d M_X2_product [.ref 6, .int b1] μ (fun v0 μ0 => v0 = some (.int v) ∧ μ0 = μ'))) (h_X2_part : (∀ ⦃b1 : Int32⦄ ⦃μ μ' : sh_Mem⦄ ⦃v : Int32⦄, sh_G μ → rec 5 b1 0 0 μ = some (v, μ') → sh_C0 l B D ca d M_X2_part [.ref 6, .int b1] μ (fun v0 μ0 => v0 = some (.int v) ∧ μ0 = μ'))) (h_X2_ofTwoSums : (∀ ⦃b1 b2 : Int32⦄ ⦃μ μ' : sh_Mem⦄ ⦃v : Int32⦄, sh_G μ → rec 6 b1 b2 0 μ = some (v, μ') → sh_C0 l B D ca d M_X2_ofTwoSums [.ref 6, .int b1, .int b2] μ (fun v0 μ0 => v0 = some (.int v) ∧ μ0 = μ')))(hG : sh_G μ) (h : f_X2_sum rec a1 μ = some (v, μ')) : sh_C0 l B D ca (d + 1) M_X2_sum [.ref 6, .int a1] μ (fun v0 μ0 => v0 = some (.int v) ∧ μ0 = μ') := by
  have ih_8 := (tl_X2_sum (l := l) (B := B) (D := D) (ca := ca) grec hd h_X2_test h_X2_both h_X2_fact h_X2_sum h_X2_product h_X2_part h_X2_ofTwoSums sh_fuel)
  unfold f_X2_sum at h
  refine vv_aload_n 0 0 dX2_sum_0 rfl rfl ?_
  refine vv_iload_n 1 1 dX2_sum_1 rfl rfl ?_
  obtain ⟨y68, μ66, hr67, h⟩ := sh_bind_e h
  refine v1_callV [_] 2 dX2_sum_2 ck_X2_82 (g_l_6 hG) ⟨by decide, rfl⟩ (h_X2_product hG hr67) (Nat.le_refl _) ⟨Nat.le_of_ble_eq_true rfl, Nat.le_of_ble_eq_true rfl⟩ rfl (Nat.le_of_ble_eq_true rfl) ?_
  have hG66 := grec hG hr67
  refine vv_istore_n (lv' := [(2, _), (0, _), (1, _)]) 5 2 dX2_sum_5 rfl (by decide) rfl ?_
  refine vv_iconst 6 dX2_sum_6 ik_0 ?_
  refine vv_istore_n (lv' := [(3, _), (2, _), (0, _), (1, _)]) 7 3 dX2_sum_7 rfl (by decide) rfl ?_
  refine vv_sub [(0, _), (1, _), (2, _), (3, _)] (sh_subm [2, 3, 1, 0] rfl) ?_
  exact ih_8 hG66 h
noncomputable def F_X2_product (rec : Nat → Int32 → Int32 → Int32 → sh_Mem → Option (Int32 × sh_Mem)) : Nat → Nat → Int32 → Int32 → Int32 → sh_Mem → Option (Int32 × sh_Mem)
  | 0, _, _, _, _, _ => none
  | fuel + 1, lbl, i1, i2, i3, μ => match lbl with
    | 1 => (if 1600 ≤ i3 then (if i2 = 0 ∨ i2 = 1 then some (i2, μ) else none) else (if i2 = 0 then (if i2 = 0 ∨ i2 = 1 then some (i2, μ) else none) else (if (sh_i μ 2 3) = 42 then sh_let ((sh_i μ 2 3) : Int32) (fun x40 => sh_bindv (f_X8_advance μ) (fun μ41 => sh_bind (rec 5 i1 0 0 μ41) (fun y46 μ44 => (if (sh_r μ44 6 1 = some (sh_ref μ44 6 1) ∧ (sh_ref μ44 6 1) ∈ sh_FORMS) then sh_let (sh_ref μ44 6 1) (fun r48 => sh_bindv (f_X1_addMark r48 x40 μ44) (fun μ49 => F_X2_product rec fuel 1 i1 y46 (i3 + 1) μ49)) else none)))) else (if (sh_i μ 2 3) = 47 then sh_let ((sh_i μ 2 3) : Int32) (fun x54 => sh_bindv (f_X8_advance μ) (fun μ55 => sh_bind (rec 5 i1 0 0 μ55) (fun y60 μ58 => (if (sh_r μ58 6 1 = some (sh_ref μ58 6 1) ∧ (sh_ref μ58 6 1) ∈ sh_FORMS) then sh_let (sh_ref μ58 6 1) (fun r62 => sh_bindv (f_X1_addMark r62 x54 μ58) (fun μ63 => F_X2_product rec fuel 1 i1 y60 (i3 + 1) μ63)) else none)))) else (if i2 = 0 ∨ i2 = 1 then some (i2, μ) else none)))))
    | _ => none
noncomputable def f_X2_product (rec : Nat → Int32 → Int32 → Int32 → sh_Mem → Option (Int32 × sh_Mem)) (a1 : Int32) (μ : sh_Mem) : Option (Int32 × sh_Mem) := sh_bind (rec 5 a1 0 0 μ) (fun y68 μ66 => F_X2_product rec sh_fuel 1 a1 y68 0 μ66)
theorem gpl_X2_product {rec : Nat → Int32 → Int32 → Int32 → sh_Mem → Option (Int32 × sh_Mem)} (grec : ∀ ⦃k : Nat⦄ ⦃b1 b2 b3 : Int32⦄ ⦃μ μ' : sh_Mem⦄ ⦃v : Int32⦄, sh_G μ → rec k b1 b2 b3 μ = some (v, μ') → sh_G μ') (fuel : Nat) : (∀ ⦃i1 : Int32⦄ ⦃i2 : Int32⦄ ⦃i3 : Int32⦄ ⦃μ μ' : sh_Mem⦄ ⦃v : Int32⦄, sh_G μ → F_X2_product rec fuel 1 i1 i2 i3 μ = some (v, μ') → sh_G μ') := by
  induction fuel with
  | zero => intro i1 i2 i3 μ μ' v hG h; cases h
  | succ fuel ih =>
    have ih_8 := ih
    intro i1 i2 i3 μ μ' v hG h
    replace h : ((if 1600 ≤ i3 then (if i2 = 0 ∨ i2 = 1 then some (i2, μ) else none) else (if i2 = 0 then (if i2 = 0 ∨ i2 = 1 then some (i2, μ) else none) else (if (sh_i μ 2 3) = 42 then sh_let ((sh_i μ 2 3) : Int32) (fun x40 => sh_bindv (f_X8_advance μ) (fun μ41 => sh_bind (rec 5 i1 0 0 μ41) (fun y46 μ44 => (if (sh_r μ44 6 1 = some (sh_ref μ44 6 1) ∧ (sh_ref μ44 6 1) ∈ sh_FORMS) then sh_let (sh_ref μ44 6 1) (fun r48 => sh_bindv (f_X1_addMark r48 x40 μ44) (fun μ49 => F_X2_product rec fuel 1 i1 y46 (i3 + 1) μ49)) else none)))) else (if (sh_i μ 2 3) = 47 then sh_let ((sh_i μ 2 3) : Int32) (fun x54 => sh_bindv (f_X8_advance μ) (fun μ55 => sh_bind (rec 5 i1 0 0 μ55) (fun y60 μ58 => (if (sh_r μ58 6 1 = some (sh_ref μ58 6 1) ∧ (sh_ref μ58 6 1) ∈ sh_FORMS) then sh_let (sh_ref μ58 6 1) (fun r62 => sh_bindv (f_X1_addMark r62 x54 μ58) (fun μ63 => F_X2_product rec fuel 1 i1 y60 (i3 + 1) μ63)) else none)))) else (if i2 = 0 ∨ i2 = 1 then some (i2, μ) else none))))) : Option (Int32 × sh_Mem)) = some (v, μ') := h
    by_cases c35 : 1600 ≤ i3
    · rw [if_pos c35] at h
      obtain ⟨k36, h⟩ := sh_chk h
      obtain ⟨e1, e2⟩ := sh_some2 h
      exact e2 ▸ hG
    · rw [if_neg c35] at h
      by_cases c37 : i2 = 0
      · rw [if_pos c37] at h
        obtain ⟨k38, h⟩ := sh_chk h
        obtain ⟨e1, e2⟩ := sh_some2 h
        exact e2 ▸ hG
      · rw [if_neg c37] at h
        by_cases c39 : (sh_i μ 2 3) = 42
        · rw [if_pos c39] at h
          obtain ⟨x40, ex40⟩ : ∃ y : Int32, y = (sh_i μ 2 3) := ⟨_, rfl⟩
          rw [sh_let_eq ex40] at h
          obtain ⟨μ41, hr42, h⟩ := sh_bindv_e h
          have hG41 := gp_X8_advance hG hr42
          obtain ⟨y46, μ44, hr45, h⟩ := sh_bind_e h
          have hG44 := grec hG41 hr45
          obtain ⟨k47, h⟩ := sh_chk h
          obtain ⟨r48, er48⟩ : ∃ y : Nat, y = (sh_ref μ44 6 1) := ⟨_, rfl⟩
          rw [sh_let_eq er48] at h
          have k47r : sh_r μ44 6 1 = some r48 ∧ r48 ∈ sh_FORMS := by rw [er48]; exact k47
          obtain ⟨μ49, hr50, h⟩ := sh_bindv_e h
          have hG49 := gp_X1_addMark hG44 k47r.2 hr50
          exact ih_8 hG49 h
        · rw [if_neg c39] at h
          by_cases c52 : (sh_i μ 2 3) = 47
          · rw [if_pos c52] at h
            obtain ⟨x54, ex54⟩ : ∃ y : Int32, y = (sh_i μ 2 3) := ⟨_, rfl⟩
            rw [sh_let_eq ex54] at h
            obtain ⟨μ55, hr56, h⟩ := sh_bindv_e h
            have hG55 := gp_X8_advance hG hr56
            obtain ⟨y60, μ58, hr59, h⟩ := sh_bind_e h
            have hG58 := grec hG55 hr59
            obtain ⟨k61, h⟩ := sh_chk h
            obtain ⟨r62, er62⟩ : ∃ y : Nat, y = (sh_ref μ58 6 1) := ⟨_, rfl⟩
            rw [sh_let_eq er62] at h
            have k61r : sh_r μ58 6 1 = some r62 ∧ r62 ∈ sh_FORMS := by rw [er62]; exact k61
            obtain ⟨μ63, hr64, h⟩ := sh_bindv_e h
            have hG63 := gp_X1_addMark hG58 k61r.2 hr64
            exact ih_8 hG63 h
          · rw [if_neg c52] at h
            obtain ⟨k53, h⟩ := sh_chk h
            obtain ⟨e1, e2⟩ := sh_some2 h
            exact e2 ▸ hG
theorem tl_X2_product {rec : Nat → Int32 → Int32 → Int32 → sh_Mem → Option (Int32 × sh_Mem)} (grec : ∀ ⦃k : Nat⦄ ⦃b1 b2 b3 : Int32⦄ ⦃μ μ' : sh_Mem⦄ ⦃v : Int32⦄, sh_G μ → rec k b1 b2 b3 μ = some (v, μ') → sh_G μ') {d : Nat} (hd : 8 ≤ d) (h_X2_test : (∀ ⦃b1 : Int32⦄ ⦃μ μ' : sh_Mem⦄ ⦃v : Int32⦄, sh_G μ → rec 0 b1 0 0 μ = some (v, μ') → sh_C0 l B D ca d M_X2_test [.ref 6, .int b1] μ (fun v0 μ0 => v0 = some (.int v) ∧ μ0 = μ'))) (h_X2_both : (∀ ⦃b1 : Int32⦄ ⦃μ μ' : sh_Mem⦄ ⦃v : Int32⦄, sh_G μ → rec 1 b1 0 0 μ = some (v, μ') → sh_C0 l B D ca d M_X2_both [.ref 6, .int b1] μ (fun v0 μ0 => v0 = some (.int v) ∧ μ0 = μ'))) (h_X2_fact : (∀ ⦃b1 : Int32⦄ ⦃μ μ' : sh_Mem⦄ ⦃v : Int32⦄, sh_G μ → rec 2 b1 0 0 μ = some (v, μ') → sh_C0 l B D ca d M_X2_fact [.ref 6, .int b1] μ (fun v0 μ0 => v0 = some (.int v) ∧ μ0 = μ'))) (h_X2_sum : (∀ ⦃b1 : Int32⦄ ⦃μ μ' : sh_Mem⦄ ⦃v : Int32⦄, sh_G μ → rec 3 b1 0 0 μ = some (v, μ') → sh_C0 l B D ca d M_X2_sum [.ref 6, .int b1] μ (fun v0 μ0 => v0 = some (.int v) ∧ μ0 = μ'))) (h_X2_product : (∀ ⦃b1 : Int32⦄ ⦃μ μ' : sh_Mem⦄ ⦃v : Int32⦄, sh_G μ → rec 4 b1 0 0 μ = some (v, μ') → sh_C0 l B D ca d M_X2_product [.ref 6, .int b1] μ (fun v0 μ0 => v0 = some (.int v) ∧ μ0 = μ'))) (h_X2_part : (∀ ⦃b1 : Int32⦄ ⦃μ μ' : sh_Mem⦄ ⦃v : Int32⦄, sh_G μ → rec 5 b1 0 0 μ = some (v, μ') → sh_C0 l B D ca d M_X2_part [.ref 6, .int b1] μ (fun v0 μ0 => v0 = some (.int v) ∧ μ0 = μ'))) (h_X2_ofTwoSums : (∀ ⦃b1 b2 : Int32⦄ ⦃μ μ' : sh_Mem⦄ ⦃v : Int32⦄, sh_G μ → rec 6 b1 b2 0 μ = some (v, μ') → sh_C0 l B D ca d M_X2_ofTwoSums [.ref 6, .int b1, .int b2] μ (fun v0 μ0 => v0 = some (.int v) ∧ μ0 = μ'))) (fuel : Nat) : (∀ ⦃i1 : Int32⦄ ⦃i2 : Int32⦄ ⦃i3 : Int32⦄ ⦃μ μ' : sh_Mem⦄ ⦃v : Int32⦄, sh_G μ → F_X2_product rec fuel 1 i1 i2 i3 μ = some (v, μ') → sh_V0 l B D ca (d + 1) M_X2_product 8 [(0, .ref 6), (1, .int i1), (2, .int i2), (3, .int i3)] [] μ (fun v0 μ0 => v0 = some (.int v) ∧ μ0 = μ')) := by
  induction fuel with
  | zero => intro i1 i2 i3 μ μ' v hG h; cases h
  | succ fuel ih =>
    have ih_8 := ih
    intro i1 i2 i3 μ μ' v hG h
    replace h : ((if 1600 ≤ i3 then (if i2 = 0 ∨ i2 = 1 then some (i2, μ) else none) else (if i2 = 0 then (if i2 = 0 ∨ i2 = 1 then some (i2, μ) else none) else (if (sh_i μ 2 3) = 42 then sh_let ((sh_i μ 2 3) : Int32) (fun x40 => sh_bindv (f_X8_advance μ) (fun μ41 => sh_bind (rec 5 i1 0 0 μ41) (fun y46 μ44 => (if (sh_r μ44 6 1 = some (sh_ref μ44 6 1) ∧ (sh_ref μ44 6 1) ∈ sh_FORMS) then sh_let (sh_ref μ44 6 1) (fun r48 => sh_bindv (f_X1_addMark r48 x40 μ44) (fun μ49 => F_X2_product rec fuel 1 i1 y46 (i3 + 1) μ49)) else none)))) else (if (sh_i μ 2 3) = 47 then sh_let ((sh_i μ 2 3) : Int32) (fun x54 => sh_bindv (f_X8_advance μ) (fun μ55 => sh_bind (rec 5 i1 0 0 μ55) (fun y60 μ58 => (if (sh_r μ58 6 1 = some (sh_ref μ58 6 1) ∧ (sh_ref μ58 6 1) ∈ sh_FORMS) then sh_let (sh_ref μ58 6 1) (fun r62 => sh_bindv (f_X1_addMark r62 x54 μ58) (fun μ63 => F_X2_product rec fuel 1 i1 y60 (i3 + 1) μ63)) else none)))) else (if i2 = 0 ∨ i2 = 1 then some (i2, μ) else none))))) : Option (Int32 × sh_Mem)) = some (v, μ') := h
    refine vv_iload_n 8 3 dX2_product_8 rfl rfl ?_
    refine vv_sipush 9 dX2_product_9 sk_1600 ?_
    refine vv_icmp_ge 12 80 dX2_product_12 (by decide) (fun c35 => ?_) (fun c35 => ?_)
    · rw [if_pos c35] at h
      refine vv_iload_n 80 2 dX2_product_80 rfl rfl ?_
      obtain ⟨k36, h⟩ := sh_chk h
      obtain ⟨e1, e2⟩ := sh_some2 h
      refine vv_zret 81 dX2_product_81 rfl (sh_nb k36) (Nat.le_refl _) (Nat.le_refl _) ⟨by rw [e1], e2⟩
    · rw [if_neg c35] at h
      refine vv_iload_n 15 2 dX2_product_15 rfl rfl ?_
      refine vv_if_eq 16 80 dX2_product_16 (by decide) (fun c37 => ?_) (fun c37 => ?_)
      · rw [if_pos c37] at h
        refine vv_iload_n 80 2 dX2_product_80 rfl rfl ?_
        obtain ⟨k38, h⟩ := sh_chk h
        obtain ⟨e1, e2⟩ := sh_some2 h
        refine vv_zret 81 dX2_product_81 rfl (sh_nb k38) (Nat.le_refl _) (Nat.le_refl _) ⟨by rw [e1], e2⟩
      · rw [if_neg c37] at h
        refine vv_aload_n 19 0 dX2_product_19 rfl rfl ?_
        refine vv_getR 20 dX2_product_20 fl_2_9 rfl (g_l_6 hG) (g_r_6_0 hG) ?_
        refine vv_getI 23 dX2_product_23 fl_2_28 rfl (g_l_2 hG) ?_
        refine vv_bipush 26 dX2_product_26 bk_42 ?_
        refine vv_icmp_eq 28 43 dX2_product_28 (by decide) (fun c39 => ?_) (fun c39 => ?_)
        · rw [if_pos c39] at h
          refine vv_aload_n 43 0 dX2_product_43 rfl rfl ?_
          refine vv_getR 44 dX2_product_44 fl_2_9 rfl (g_l_6 hG) (g_r_6_0 hG) ?_
          refine vv_getI 47 dX2_product_47 fl_2_28 rfl (g_l_2 hG) ?_
          refine vv_topi (fun x40 ex40 => ?_)
          rw [sh_let_eq ex40] at h
          refine vv_istore (lv' := [(4, _), (0, _), (1, _), (2, _), (3, _)]) 50 4 dX2_product_50 (by decide) rfl ?_
          refine vv_aload_n 52 0 dX2_product_52 rfl rfl ?_
          refine vv_getR 53 dX2_product_53 fl_2_9 rfl (g_l_6 hG) (g_r_6_0 hG) ?_
          obtain ⟨μ41, hr42, h⟩ := sh_bindv_e h
          refine v1_callV [] 56 dX2_product_56 ck_X2_43 (g_l_2 hG) ⟨by decide, rfl⟩ (t_X8_advance hG hr42) (by omega) ⟨Nat.le_of_ble_eq_true rfl, Nat.le_of_ble_eq_true rfl⟩ rfl (Nat.le_of_ble_eq_true rfl) ?_
          have hG41 := gp_X8_advance hG hr42
          refine vv_aload_n 59 0 dX2_product_59 rfl rfl ?_
          refine vv_iload_n 60 1 dX2_product_60 rfl rfl ?_
          obtain ⟨y46, μ44, hr45, h⟩ := sh_bind_e h
          refine v1_callV [_] 61 dX2_product_61 ck_X2_85 (g_l_6 hG41) ⟨by decide, rfl⟩ (h_X2_part hG41 hr45) (Nat.le_refl _) ⟨Nat.le_of_ble_eq_true rfl, Nat.le_of_ble_eq_true rfl⟩ rfl (Nat.le_of_ble_eq_true rfl) ?_
          have hG44 := grec hG41 hr45
          refine vv_istore_n (lv' := [(2, _), (4, _), (0, _), (1, _), (3, _)]) 64 2 dX2_product_64 rfl (by decide) rfl ?_
          refine vv_aload_n 65 0 dX2_product_65 rfl rfl ?_
          obtain ⟨k47, h⟩ := sh_chk h
          refine vv_getR 66 dX2_product_66 fl_2_15 rfl (g_l_6 hG44) k47.1 ?_
          refine vv_topr (fun r48 er48 => ?_)
          rw [sh_let_eq er48] at h
          have k47r : sh_r μ44 6 1 = some r48 ∧ r48 ∈ sh_FORMS := by rw [er48]; exact k47
          refine vv_iload 69 4 dX2_product_69 rfl ?_
          obtain ⟨μ49, hr50, h⟩ := sh_bindv_e h
          refine v1_callV [_] 71 dX2_product_71 ck_X2_79 (gF_l hG44 k47r.2) ⟨by decide, rfl⟩ (t_X1_addMark hG44 k47r.2 hr50) (by omega) ⟨Nat.le_of_ble_eq_true rfl, Nat.le_of_ble_eq_true rfl⟩ rfl (Nat.le_of_ble_eq_true rfl) ?_
          have hG49 := gp_X1_addMark hG44 k47r.2 hr50
          refine vv_iincc (lv' := [(3, _), (2, _), (4, _), (0, _), (1, _)]) 74 3 dX2_product_74 rfl ik_1 (by decide) rfl ?_
          refine vv_goto 77 8 dX2_product_77 (by decide) ?_
          refine vv_sub [(0, _), (1, _), (2, _), (3, _)] (sh_subm [3, 4, 1, 0] rfl) ?_
          exact ih_8 hG49 h
        · rw [if_neg c39] at h
          refine vv_aload_n 31 0 dX2_product_31 rfl rfl ?_
          refine vv_getR 32 dX2_product_32 fl_2_9 rfl (g_l_6 hG) (g_r_6_0 hG) ?_
          refine vv_getI 35 dX2_product_35 fl_2_28 rfl (g_l_2 hG) ?_
          refine vv_bipush 38 dX2_product_38 bk_47 ?_
          refine vv_icmp_ne 40 80 dX2_product_40 (by decide) (fun c52 => ?_) (fun c52 => ?_)
          · rw [if_neg c52] at h
            refine vv_iload_n 80 2 dX2_product_80 rfl rfl ?_
            obtain ⟨k53, h⟩ := sh_chk h
            obtain ⟨e1, e2⟩ := sh_some2 h
            refine vv_zret 81 dX2_product_81 rfl (sh_nb k53) (Nat.le_refl _) (Nat.le_refl _) ⟨by rw [e1], e2⟩
          · rw [if_pos c52] at h
            refine vv_aload_n 43 0 dX2_product_43 rfl rfl ?_
            refine vv_getR 44 dX2_product_44 fl_2_9 rfl (g_l_6 hG) (g_r_6_0 hG) ?_
            refine vv_getI 47 dX2_product_47 fl_2_28 rfl (g_l_2 hG) ?_
            refine vv_topi (fun x54 ex54 => ?_)
            rw [sh_let_eq ex54] at h
            refine vv_istore (lv' := [(4, _), (0, _), (1, _), (2, _), (3, _)]) 50 4 dX2_product_50 (by decide) rfl ?_
            refine vv_aload_n 52 0 dX2_product_52 rfl rfl ?_
            refine vv_getR 53 dX2_product_53 fl_2_9 rfl (g_l_6 hG) (g_r_6_0 hG) ?_
            obtain ⟨μ55, hr56, h⟩ := sh_bindv_e h
            refine v1_callV [] 56 dX2_product_56 ck_X2_43 (g_l_2 hG) ⟨by decide, rfl⟩ (t_X8_advance hG hr56) (by omega) ⟨Nat.le_of_ble_eq_true rfl, Nat.le_of_ble_eq_true rfl⟩ rfl (Nat.le_of_ble_eq_true rfl) ?_
            have hG55 := gp_X8_advance hG hr56
            refine vv_aload_n 59 0 dX2_product_59 rfl rfl ?_
            refine vv_iload_n 60 1 dX2_product_60 rfl rfl ?_
            obtain ⟨y60, μ58, hr59, h⟩ := sh_bind_e h
            refine v1_callV [_] 61 dX2_product_61 ck_X2_85 (g_l_6 hG55) ⟨by decide, rfl⟩ (h_X2_part hG55 hr59) (Nat.le_refl _) ⟨Nat.le_of_ble_eq_true rfl, Nat.le_of_ble_eq_true rfl⟩ rfl (Nat.le_of_ble_eq_true rfl) ?_
            have hG58 := grec hG55 hr59
            refine vv_istore_n (lv' := [(2, _), (4, _), (0, _), (1, _), (3, _)]) 64 2 dX2_product_64 rfl (by decide) rfl ?_
            refine vv_aload_n 65 0 dX2_product_65 rfl rfl ?_
            obtain ⟨k61, h⟩ := sh_chk h
            refine vv_getR 66 dX2_product_66 fl_2_15 rfl (g_l_6 hG58) k61.1 ?_
            refine vv_topr (fun r62 er62 => ?_)
            rw [sh_let_eq er62] at h
            have k61r : sh_r μ58 6 1 = some r62 ∧ r62 ∈ sh_FORMS := by rw [er62]; exact k61
            refine vv_iload 69 4 dX2_product_69 rfl ?_
            obtain ⟨μ63, hr64, h⟩ := sh_bindv_e h
            refine v1_callV [_] 71 dX2_product_71 ck_X2_79 (gF_l hG58 k61r.2) ⟨by decide, rfl⟩ (t_X1_addMark hG58 k61r.2 hr64) (by omega) ⟨Nat.le_of_ble_eq_true rfl, Nat.le_of_ble_eq_true rfl⟩ rfl (Nat.le_of_ble_eq_true rfl) ?_
            have hG63 := gp_X1_addMark hG58 k61r.2 hr64
            refine vv_iincc (lv' := [(3, _), (2, _), (4, _), (0, _), (1, _)]) 74 3 dX2_product_74 rfl ik_1 (by decide) rfl ?_
            refine vv_goto 77 8 dX2_product_77 (by decide) ?_
            refine vv_sub [(0, _), (1, _), (2, _), (3, _)] (sh_subm [3, 4, 1, 0] rfl) ?_
            exact ih_8 hG63 h
theorem gp_X2_product {rec : Nat → Int32 → Int32 → Int32 → sh_Mem → Option (Int32 × sh_Mem)} {a1 : Int32} {μ μ' : sh_Mem} {v : Int32}  (grec : ∀ ⦃k : Nat⦄ ⦃b1 b2 b3 : Int32⦄ ⦃μ μ' : sh_Mem⦄ ⦃v : Int32⦄, sh_G μ → rec k b1 b2 b3 μ = some (v, μ') → sh_G μ')(hG : sh_G μ) (h : f_X2_product rec a1 μ = some (v, μ')) : sh_G μ' := by
  have ih_8 := (gpl_X2_product grec sh_fuel)
  unfold f_X2_product at h
  obtain ⟨y68, μ66, hr67, h⟩ := sh_bind_e h
  have hG66 := grec hG hr67
  exact ih_8 hG66 h
theorem t_X2_product {rec : Nat → Int32 → Int32 → Int32 → sh_Mem → Option (Int32 × sh_Mem)} {a1 : Int32} {μ μ' : sh_Mem} {v : Int32}  (grec : ∀ ⦃k : Nat⦄ ⦃b1 b2 b3 : Int32⦄ ⦃μ μ' : sh_Mem⦄ ⦃v : Int32⦄, sh_G μ → rec k b1 b2 b3 μ = some (v, μ') → sh_G μ') {d : Nat} (hd : 8 ≤ d) (h_X2_test : (∀ ⦃b1 : Int32⦄ ⦃μ μ' : sh_Mem⦄ ⦃v : Int32⦄, sh_G μ → rec 0 b1 0 0 μ = some (v, μ') → sh_C0 l B D ca d M_X2_test [.ref 6, .int b1] μ (fun v0 μ0 => v0 = some (.int v) ∧ μ0 = μ'))) (h_X2_both : (∀ ⦃b1 : Int32⦄ ⦃μ μ' : sh_Mem⦄ ⦃v : Int32⦄, sh_G μ → rec 1 b1 0 0 μ = some (v, μ') → sh_C0 l B D ca d M_X2_both [.ref 6, .int b1] μ (fun v0 μ0 => v0 = some (.int v) ∧ μ0 = μ'))) (h_X2_fact : (∀ ⦃b1 : Int32⦄ ⦃μ μ' : sh_Mem⦄ ⦃v : Int32⦄, sh_G μ → rec 2 b1 0 0 μ = some (v, μ') → sh_C0 l B D ca d M_X2_fact [.ref 6, .int b1] μ (fun v0 μ0 => v0 = some (.int v) ∧ μ0 = μ'))) (h_X2_sum : (∀ ⦃b1 : Int32⦄ ⦃μ μ' : sh_Mem⦄ ⦃v : Int32⦄, sh_G μ → rec 3 b1 0 0 μ = some (v, μ') → sh_C0 l B D ca d M_X2_sum [.ref 6, .int b1] μ (fun v0 μ0 => v0 = some (.int v) ∧ μ0 = μ'))) (h_X2_product : (∀ ⦃b1 : Int32⦄ ⦃μ μ' : sh_Mem⦄ ⦃v : Int32⦄, sh_G μ → rec 4 b1 0 0 μ = some (v, μ') → sh_C0 l B D ca d M_X2_product [.ref 6, .int b1] μ (fun v0 μ0 => v0 = some (.int v) ∧ μ0 = μ'))) (h_X2_part : (∀ ⦃b1 : Int32⦄ ⦃μ μ' : sh_Mem⦄ ⦃v : Int32⦄, sh_G μ → rec 5 b1 0 0 μ = some (v, μ') → sh_C0 l B D ca d M_X2_part [.ref 6, .int b1] μ (fun v0 μ0 => v0 = some (.int v) ∧ μ0 = μ'))) (h_X2_ofTwoSums : (∀ ⦃b1 b2 : Int32⦄ ⦃μ μ' : sh_Mem⦄ ⦃v : Int32⦄, sh_G μ → rec 6 b1 b2 0 μ = some (v, μ') → sh_C0 l B D ca d M_X2_ofTwoSums [.ref 6, .int b1, .int b2] μ (fun v0 μ0 => v0 = some (.int v) ∧ μ0 = μ')))(hG : sh_G μ) (h : f_X2_product rec a1 μ = some (v, μ')) : sh_C0 l B D ca (d + 1) M_X2_product [.ref 6, .int a1] μ (fun v0 μ0 => v0 = some (.int v) ∧ μ0 = μ') := by
  have ih_8 := (tl_X2_product (l := l) (B := B) (D := D) (ca := ca) grec hd h_X2_test h_X2_both h_X2_fact h_X2_sum h_X2_product h_X2_part h_X2_ofTwoSums sh_fuel)
  unfold f_X2_product at h
  refine vv_aload_n 0 0 dX2_product_0 rfl rfl ?_
  refine vv_iload_n 1 1 dX2_product_1 rfl rfl ?_
  obtain ⟨y68, μ66, hr67, h⟩ := sh_bind_e h
  refine v1_callV [_] 2 dX2_product_2 ck_X2_85 (g_l_6 hG) ⟨by decide, rfl⟩ (h_X2_part hG hr67) (Nat.le_refl _) ⟨Nat.le_of_ble_eq_true rfl, Nat.le_of_ble_eq_true rfl⟩ rfl (Nat.le_of_ble_eq_true rfl) ?_
  have hG66 := grec hG hr67
  refine vv_istore_n (lv' := [(2, _), (0, _), (1, _)]) 5 2 dX2_product_5 rfl (by decide) rfl ?_
  refine vv_iconst 6 dX2_product_6 ik_0 ?_
  refine vv_istore_n (lv' := [(3, _), (2, _), (0, _), (1, _)]) 7 3 dX2_product_7 rfl (by decide) rfl ?_
  refine vv_sub [(0, _), (1, _), (2, _), (3, _)] (sh_subm [2, 3, 1, 0] rfl) ?_
  exact ih_8 hG66 h
noncomputable def f_X2_part (rec : Nat → Int32 → Int32 → Int32 → sh_Mem → Option (Int32 × sh_Mem)) (a1 : Int32) (μ : sh_Mem) : Option (Int32 × sh_Mem) := (if (sh_i μ 2 3) = 40 then sh_bind (f_X2_opens a1 μ) (fun y108 μ106 => (if y108 = 0 then some (0, μ106) else sh_bind (rec 3 (a1 + 1) 0 0 μ106) (fun y112 μ110 => (if y112 = 0 then some (0, μ110) else sh_bind (f_X8_takesMark 41 μ110) (fun y116 μ114 => (if y116 = 0 then some (0, μ114) else some (1, μ114))))))) else (if (sh_i μ 2 3) = (-2) then sh_let ((sh_i μ 2 6) : Int32) (fun x3 => (if x3 = 25 then sh_bind (rec 6 a1 x3 0 μ) (fun y7 μ5 => (if y7 = 0 ∨ y7 = 1 then some (y7, μ5) else none)) else (if x3 = 26 then sh_bind (rec 6 a1 x3 0 μ) (fun y93 μ91 => (if y93 = 0 ∨ y93 = 1 then some (y93, μ91) else none)) else (if (sh_i μ 6 2) = 2 then (if x3 = 7 then sh_bind (f_X2_opens a1 μ) (fun y30 μ28 => (if y30 = 0 then (if (sh_r μ28 6 1 = some (sh_ref μ28 6 1) ∧ (sh_ref μ28 6 1) ∈ sh_FORMS) then sh_let (sh_ref μ28 6 1) (fun r33 => sh_bindv (f_X1_addWord r33 x3 μ28) (fun μ34 => some (0, μ34))) else none) else sh_bind (rec 5 (a1 + 1) 0 0 μ28) (fun y39 μ37 => (if y39 = 0 then (if (sh_r μ37 6 1 = some (sh_ref μ37 6 1) ∧ (sh_ref μ37 6 1) ∈ sh_FORMS) then sh_let (sh_ref μ37 6 1) (fun r42 => sh_bindv (f_X1_addWord r42 x3 μ37) (fun μ43 => some (0, μ43))) else none) else (if (sh_r μ37 6 1 = some (sh_ref μ37 6 1) ∧ (sh_ref μ37 6 1) ∈ sh_FORMS) then sh_let (sh_ref μ37 6 1) (fun r47 => sh_bindv (f_X1_addWord r47 x3 μ37) (fun μ48 => some (1, μ48))) else none))))) else (if x3 = 10 then sh_bind (f_X2_opens a1 μ) (fun y70 μ68 => (if y70 = 0 then (if (sh_r μ68 6 1 = some (sh_ref μ68 6 1) ∧ (sh_ref μ68 6 1) ∈ sh_FORMS) then sh_let (sh_ref μ68 6 1) (fun r73 => sh_bindv (f_X1_addWord r73 x3 μ68) (fun μ74 => some (0, μ74))) else none) else sh_bind (rec 5 (a1 + 1) 0 0 μ68) (fun y79 μ77 => (if y79 = 0 then (if (sh_r μ77 6 1 = some (sh_ref μ77 6 1) ∧ (sh_ref μ77 6 1) ∈ sh_FORMS) then sh_let (sh_ref μ77 6 1) (fun r82 => sh_bindv (f_X1_addWord r82 x3 μ77) (fun μ83 => some (0, μ83))) else none) else (if (sh_r μ77 6 1 = some (sh_ref μ77 6 1) ∧ (sh_ref μ77 6 1) ∈ sh_FORMS) then sh_let (sh_ref μ77 6 1) (fun r87 => sh_bindv (f_X1_addWord r87 x3 μ77) (fun μ88 => some (1, μ88))) else none))))) else sh_bind (f_X2_isFactHere x3 μ) (fun y54 μ52 => (if y54 = 0 then sh_bind (f_X8_fails 1 (sh_i μ52 2 4) μ52) (fun y66 μ64 => (if y66 = 0 ∨ y66 = 1 then some (y66, μ64) else none)) else sh_bindv (f_X8_advance μ52) (fun μ56 => (if (sh_r μ56 6 1 = some (sh_ref μ56 6 1) ∧ (sh_ref μ56 6 1) ∈ sh_FORMS) then sh_let (sh_ref μ56 6 1) (fun r60 => sh_bindv (f_X1_addWord r60 x3 μ56) (fun μ61 => some (1, μ61))) else none)))))) else sh_bind (f_X2_isFactHere x3 μ) (fun y13 μ11 => (if y13 = 0 then sh_bind (f_X8_fails 1 (sh_i μ11 2 4) μ11) (fun y25 μ23 => (if y25 = 0 ∨ y25 = 1 then some (y25, μ23) else none)) else sh_bindv (f_X8_advance μ11) (fun μ15 => (if (sh_r μ15 6 1 = some (sh_ref μ15 6 1) ∧ (sh_ref μ15 6 1) ∈ sh_FORMS) then sh_let (sh_ref μ15 6 1) (fun r19 => sh_bindv (f_X1_addWord r19 x3 μ15) (fun μ20 => some (1, μ20))) else none)))))))) else sh_bind (f_X8_takeNumber 0 9999 μ) (fun y97 μ95 => (if y97 = (-1) then (if y97 = (-1) then some (0, μ95) else some (1, μ95)) else (if (sh_r μ95 6 1 = some (sh_ref μ95 6 1) ∧ (sh_ref μ95 6 1) ∈ sh_FORMS) then sh_let (sh_ref μ95 6 1) (fun r101 => sh_bindv (f_X1_add r101 y97 μ95) (fun μ102 => (if y97 = (-1) then some (0, μ102) else some (1, μ102)))) else none)))))
theorem gp_X2_part {rec : Nat → Int32 → Int32 → Int32 → sh_Mem → Option (Int32 × sh_Mem)} {a1 : Int32} {μ μ' : sh_Mem} {v : Int32}  (grec : ∀ ⦃k : Nat⦄ ⦃b1 b2 b3 : Int32⦄ ⦃μ μ' : sh_Mem⦄ ⦃v : Int32⦄, sh_G μ → rec k b1 b2 b3 μ = some (v, μ') → sh_G μ')(hG : sh_G μ) (h : f_X2_part rec a1 μ = some (v, μ')) : sh_G μ' := by
  unfold f_X2_part at h
  by_cases c1 : (sh_i μ 2 3) = 40
  · rw [if_pos c1] at h
    obtain ⟨y108, μ106, hr107, h⟩ := sh_bind_e h
    have hG106 := gp_X2_opens hG hr107
    by_cases c109 : y108 = 0
    · rw [if_pos c109] at h
      obtain ⟨e1, e2⟩ := sh_some2 h
      exact e2 ▸ hG106
    · rw [if_neg c109] at h
      obtain ⟨y112, μ110, hr111, h⟩ := sh_bind_e h
      have hG110 := grec hG106 hr111
      by_cases c113 : y112 = 0
      · rw [if_pos c113] at h
        obtain ⟨e1, e2⟩ := sh_some2 h
        exact e2 ▸ hG110
      · rw [if_neg c113] at h
        obtain ⟨y116, μ114, hr115, h⟩ := sh_bind_e h
        have hG114 := gp_X8_takesMark hG110 hr115
        by_cases c117 : y116 = 0
        · rw [if_pos c117] at h
          obtain ⟨e1, e2⟩ := sh_some2 h
          exact e2 ▸ hG114
        · rw [if_neg c117] at h
          obtain ⟨e1, e2⟩ := sh_some2 h
          exact e2 ▸ hG114
  · rw [if_neg c1] at h
    by_cases c2 : (sh_i μ 2 3) = (-2)
    · rw [if_pos c2] at h
      obtain ⟨x3, ex3⟩ : ∃ y : Int32, y = (sh_i μ 2 6) := ⟨_, rfl⟩
      rw [sh_let_eq ex3] at h
      by_cases c4 : x3 = 25
      · rw [if_pos c4] at h
        obtain ⟨y7, μ5, hr6, h⟩ := sh_bind_e h
        have hG5 := grec hG hr6
        obtain ⟨k8, h⟩ := sh_chk h
        obtain ⟨e1, e2⟩ := sh_some2 h
        exact e2 ▸ hG5
      · rw [if_neg c4] at h
        by_cases c9 : x3 = 26
        · rw [if_pos c9] at h
          obtain ⟨y93, μ91, hr92, h⟩ := sh_bind_e h
          have hG91 := grec hG hr92
          obtain ⟨k94, h⟩ := sh_chk h
          obtain ⟨e1, e2⟩ := sh_some2 h
          exact e2 ▸ hG91
        · rw [if_neg c9] at h
          by_cases c10 : (sh_i μ 6 2) = 2
          · rw [if_pos c10] at h
            by_cases c27 : x3 = 7
            · rw [if_pos c27] at h
              obtain ⟨y30, μ28, hr29, h⟩ := sh_bind_e h
              have hG28 := gp_X2_opens hG hr29
              by_cases c31 : y30 = 0
              · rw [if_pos c31] at h
                obtain ⟨k32, h⟩ := sh_chk h
                obtain ⟨r33, er33⟩ : ∃ y : Nat, y = (sh_ref μ28 6 1) := ⟨_, rfl⟩
                rw [sh_let_eq er33] at h
                have k32r : sh_r μ28 6 1 = some r33 ∧ r33 ∈ sh_FORMS := by rw [er33]; exact k32
                obtain ⟨μ34, hr35, h⟩ := sh_bindv_e h
                have hG34 := gp_X1_addWord hG28 k32r.2 hr35
                obtain ⟨e1, e2⟩ := sh_some2 h
                exact e2 ▸ hG34
              · rw [if_neg c31] at h
                obtain ⟨y39, μ37, hr38, h⟩ := sh_bind_e h
                have hG37 := grec hG28 hr38
                by_cases c40 : y39 = 0
                · rw [if_pos c40] at h
                  obtain ⟨k41, h⟩ := sh_chk h
                  obtain ⟨r42, er42⟩ : ∃ y : Nat, y = (sh_ref μ37 6 1) := ⟨_, rfl⟩
                  rw [sh_let_eq er42] at h
                  have k41r : sh_r μ37 6 1 = some r42 ∧ r42 ∈ sh_FORMS := by rw [er42]; exact k41
                  obtain ⟨μ43, hr44, h⟩ := sh_bindv_e h
                  have hG43 := gp_X1_addWord hG37 k41r.2 hr44
                  obtain ⟨e1, e2⟩ := sh_some2 h
                  exact e2 ▸ hG43
                · rw [if_neg c40] at h
                  obtain ⟨k46, h⟩ := sh_chk h
                  obtain ⟨r47, er47⟩ : ∃ y : Nat, y = (sh_ref μ37 6 1) := ⟨_, rfl⟩
                  rw [sh_let_eq er47] at h
                  have k46r : sh_r μ37 6 1 = some r47 ∧ r47 ∈ sh_FORMS := by rw [er47]; exact k46
                  obtain ⟨μ48, hr49, h⟩ := sh_bindv_e h
                  have hG48 := gp_X1_addWord hG37 k46r.2 hr49
                  obtain ⟨e1, e2⟩ := sh_some2 h
                  exact e2 ▸ hG48
            · rw [if_neg c27] at h
              by_cases c51 : x3 = 10
              · rw [if_pos c51] at h
                obtain ⟨y70, μ68, hr69, h⟩ := sh_bind_e h
                have hG68 := gp_X2_opens hG hr69
                by_cases c71 : y70 = 0
                · rw [if_pos c71] at h
                  obtain ⟨k72, h⟩ := sh_chk h
                  obtain ⟨r73, er73⟩ : ∃ y : Nat, y = (sh_ref μ68 6 1) := ⟨_, rfl⟩
                  rw [sh_let_eq er73] at h
                  have k72r : sh_r μ68 6 1 = some r73 ∧ r73 ∈ sh_FORMS := by rw [er73]; exact k72
                  obtain ⟨μ74, hr75, h⟩ := sh_bindv_e h
                  have hG74 := gp_X1_addWord hG68 k72r.2 hr75
                  obtain ⟨e1, e2⟩ := sh_some2 h
                  exact e2 ▸ hG74
                · rw [if_neg c71] at h
                  obtain ⟨y79, μ77, hr78, h⟩ := sh_bind_e h
                  have hG77 := grec hG68 hr78
                  by_cases c80 : y79 = 0
                  · rw [if_pos c80] at h
                    obtain ⟨k81, h⟩ := sh_chk h
                    obtain ⟨r82, er82⟩ : ∃ y : Nat, y = (sh_ref μ77 6 1) := ⟨_, rfl⟩
                    rw [sh_let_eq er82] at h
                    have k81r : sh_r μ77 6 1 = some r82 ∧ r82 ∈ sh_FORMS := by rw [er82]; exact k81
                    obtain ⟨μ83, hr84, h⟩ := sh_bindv_e h
                    have hG83 := gp_X1_addWord hG77 k81r.2 hr84
                    obtain ⟨e1, e2⟩ := sh_some2 h
                    exact e2 ▸ hG83
                  · rw [if_neg c80] at h
                    obtain ⟨k86, h⟩ := sh_chk h
                    obtain ⟨r87, er87⟩ : ∃ y : Nat, y = (sh_ref μ77 6 1) := ⟨_, rfl⟩
                    rw [sh_let_eq er87] at h
                    have k86r : sh_r μ77 6 1 = some r87 ∧ r87 ∈ sh_FORMS := by rw [er87]; exact k86
                    obtain ⟨μ88, hr89, h⟩ := sh_bindv_e h
                    have hG88 := gp_X1_addWord hG77 k86r.2 hr89
                    obtain ⟨e1, e2⟩ := sh_some2 h
                    exact e2 ▸ hG88
              · rw [if_neg c51] at h
                obtain ⟨y54, μ52, hr53, h⟩ := sh_bind_e h
                have hG52 := gp_X2_isFactHere hG hr53
                by_cases c55 : y54 = 0
                · rw [if_pos c55] at h
                  obtain ⟨y66, μ64, hr65, h⟩ := sh_bind_e h
                  have hG64 := gp_X8_fails hG52 hr65
                  obtain ⟨k67, h⟩ := sh_chk h
                  obtain ⟨e1, e2⟩ := sh_some2 h
                  exact e2 ▸ hG64
                · rw [if_neg c55] at h
                  obtain ⟨μ56, hr57, h⟩ := sh_bindv_e h
                  have hG56 := gp_X8_advance hG52 hr57
                  obtain ⟨k59, h⟩ := sh_chk h
                  obtain ⟨r60, er60⟩ : ∃ y : Nat, y = (sh_ref μ56 6 1) := ⟨_, rfl⟩
                  rw [sh_let_eq er60] at h
                  have k59r : sh_r μ56 6 1 = some r60 ∧ r60 ∈ sh_FORMS := by rw [er60]; exact k59
                  obtain ⟨μ61, hr62, h⟩ := sh_bindv_e h
                  have hG61 := gp_X1_addWord hG56 k59r.2 hr62
                  obtain ⟨e1, e2⟩ := sh_some2 h
                  exact e2 ▸ hG61
          · rw [if_neg c10] at h
            obtain ⟨y13, μ11, hr12, h⟩ := sh_bind_e h
            have hG11 := gp_X2_isFactHere hG hr12
            by_cases c14 : y13 = 0
            · rw [if_pos c14] at h
              obtain ⟨y25, μ23, hr24, h⟩ := sh_bind_e h
              have hG23 := gp_X8_fails hG11 hr24
              obtain ⟨k26, h⟩ := sh_chk h
              obtain ⟨e1, e2⟩ := sh_some2 h
              exact e2 ▸ hG23
            · rw [if_neg c14] at h
              obtain ⟨μ15, hr16, h⟩ := sh_bindv_e h
              have hG15 := gp_X8_advance hG11 hr16
              obtain ⟨k18, h⟩ := sh_chk h
              obtain ⟨r19, er19⟩ : ∃ y : Nat, y = (sh_ref μ15 6 1) := ⟨_, rfl⟩
              rw [sh_let_eq er19] at h
              have k18r : sh_r μ15 6 1 = some r19 ∧ r19 ∈ sh_FORMS := by rw [er19]; exact k18
              obtain ⟨μ20, hr21, h⟩ := sh_bindv_e h
              have hG20 := gp_X1_addWord hG15 k18r.2 hr21
              obtain ⟨e1, e2⟩ := sh_some2 h
              exact e2 ▸ hG20
    · rw [if_neg c2] at h
      obtain ⟨y97, μ95, hr96, h⟩ := sh_bind_e h
      have hG95 := gp_X8_takeNumber hG hr96
      by_cases c98 : y97 = (-1)
      · rw [if_pos c98] at h
        by_cases c99 : y97 = (-1)
        · rw [if_pos c99] at h
          obtain ⟨e1, e2⟩ := sh_some2 h
          exact e2 ▸ hG95
        · rw [if_neg c99] at h
          obtain ⟨e1, e2⟩ := sh_some2 h
          exact e2 ▸ hG95
      · rw [if_neg c98] at h
        obtain ⟨k100, h⟩ := sh_chk h
        obtain ⟨r101, er101⟩ : ∃ y : Nat, y = (sh_ref μ95 6 1) := ⟨_, rfl⟩
        rw [sh_let_eq er101] at h
        have k100r : sh_r μ95 6 1 = some r101 ∧ r101 ∈ sh_FORMS := by rw [er101]; exact k100
        obtain ⟨μ102, hr103, h⟩ := sh_bindv_e h
        have hG102 := gp_X1_add hG95 k100r.2 hr103
        by_cases c105 : y97 = (-1)
        · rw [if_pos c105] at h
          obtain ⟨e1, e2⟩ := sh_some2 h
          exact e2 ▸ hG102
        · rw [if_neg c105] at h
          obtain ⟨e1, e2⟩ := sh_some2 h
          exact e2 ▸ hG102
theorem t_X2_part {rec : Nat → Int32 → Int32 → Int32 → sh_Mem → Option (Int32 × sh_Mem)} {a1 : Int32} {μ μ' : sh_Mem} {v : Int32}  (grec : ∀ ⦃k : Nat⦄ ⦃b1 b2 b3 : Int32⦄ ⦃μ μ' : sh_Mem⦄ ⦃v : Int32⦄, sh_G μ → rec k b1 b2 b3 μ = some (v, μ') → sh_G μ') {d : Nat} (hd : 8 ≤ d) (h_X2_test : (∀ ⦃b1 : Int32⦄ ⦃μ μ' : sh_Mem⦄ ⦃v : Int32⦄, sh_G μ → rec 0 b1 0 0 μ = some (v, μ') → sh_C0 l B D ca d M_X2_test [.ref 6, .int b1] μ (fun v0 μ0 => v0 = some (.int v) ∧ μ0 = μ'))) (h_X2_both : (∀ ⦃b1 : Int32⦄ ⦃μ μ' : sh_Mem⦄ ⦃v : Int32⦄, sh_G μ → rec 1 b1 0 0 μ = some (v, μ') → sh_C0 l B D ca d M_X2_both [.ref 6, .int b1] μ (fun v0 μ0 => v0 = some (.int v) ∧ μ0 = μ'))) (h_X2_fact : (∀ ⦃b1 : Int32⦄ ⦃μ μ' : sh_Mem⦄ ⦃v : Int32⦄, sh_G μ → rec 2 b1 0 0 μ = some (v, μ') → sh_C0 l B D ca d M_X2_fact [.ref 6, .int b1] μ (fun v0 μ0 => v0 = some (.int v) ∧ μ0 = μ'))) (h_X2_sum : (∀ ⦃b1 : Int32⦄ ⦃μ μ' : sh_Mem⦄ ⦃v : Int32⦄, sh_G μ → rec 3 b1 0 0 μ = some (v, μ') → sh_C0 l B D ca d M_X2_sum [.ref 6, .int b1] μ (fun v0 μ0 => v0 = some (.int v) ∧ μ0 = μ'))) (h_X2_product : (∀ ⦃b1 : Int32⦄ ⦃μ μ' : sh_Mem⦄ ⦃v : Int32⦄, sh_G μ → rec 4 b1 0 0 μ = some (v, μ') → sh_C0 l B D ca d M_X2_product [.ref 6, .int b1] μ (fun v0 μ0 => v0 = some (.int v) ∧ μ0 = μ'))) (h_X2_part : (∀ ⦃b1 : Int32⦄ ⦃μ μ' : sh_Mem⦄ ⦃v : Int32⦄, sh_G μ → rec 5 b1 0 0 μ = some (v, μ') → sh_C0 l B D ca d M_X2_part [.ref 6, .int b1] μ (fun v0 μ0 => v0 = some (.int v) ∧ μ0 = μ'))) (h_X2_ofTwoSums : (∀ ⦃b1 b2 : Int32⦄ ⦃μ μ' : sh_Mem⦄ ⦃v : Int32⦄, sh_G μ → rec 6 b1 b2 0 μ = some (v, μ') → sh_C0 l B D ca d M_X2_ofTwoSums [.ref 6, .int b1, .int b2] μ (fun v0 μ0 => v0 = some (.int v) ∧ μ0 = μ')))(hG : sh_G μ) (h : f_X2_part rec a1 μ = some (v, μ')) : sh_C0 l B D ca (d + 1) M_X2_part [.ref 6, .int a1] μ (fun v0 μ0 => v0 = some (.int v) ∧ μ0 = μ') := by
  unfold f_X2_part at h
  refine vv_aload_n 0 0 dX2_part_0 rfl rfl ?_
  refine vv_getR 1 dX2_part_1 fl_2_9 rfl (g_l_6 hG) (g_r_6_0 hG) ?_
  refine vv_getI 4 dX2_part_4 fl_2_28 rfl (g_l_2 hG) ?_
  refine vv_bipush 7 dX2_part_7 bk_40 ?_
  refine vv_icmp_ne 9 48 dX2_part_9 (by decide) (fun c1 => ?_) (fun c1 => ?_)
  · rw [if_neg c1] at h
    refine vv_aload_n 48 0 dX2_part_48 rfl rfl ?_
    refine vv_getR 49 dX2_part_49 fl_2_9 rfl (g_l_6 hG) (g_r_6_0 hG) ?_
    refine vv_getI 52 dX2_part_52 fl_2_28 rfl (g_l_2 hG) ?_
    refine vv_bipush 55 dX2_part_55 bk_m2 ?_
    refine vv_icmp_eq 57 96 dX2_part_57 (by decide) (fun c2 => ?_) (fun c2 => ?_)
    · rw [if_pos c2] at h
      refine vv_aload_n 96 0 dX2_part_96 rfl rfl ?_
      refine vv_getR 97 dX2_part_97 fl_2_9 rfl (g_l_6 hG) (g_r_6_0 hG) ?_
      refine vv_getI 100 dX2_part_100 fl_2_33 rfl (g_l_2 hG) ?_
      refine vv_topi (fun x3 ex3 => ?_)
      rw [sh_let_eq ex3] at h
      refine vv_istore_n (lv' := [(2, _), (0, _), (1, _)]) 103 2 dX2_part_103 rfl (by decide) rfl ?_
      refine vv_iload_n 104 2 dX2_part_104 rfl rfl ?_
      refine vv_bipush 105 dX2_part_105 bk_25 ?_
      refine vv_icmp_eq 107 116 dX2_part_107 (by decide) (fun c4 => ?_) (fun c4 => ?_)
      · rw [if_pos c4] at h
        refine vv_aload_n 116 0 dX2_part_116 rfl rfl ?_
        refine vv_iload_n 117 1 dX2_part_117 rfl rfl ?_
        refine vv_iload_n 118 2 dX2_part_118 rfl rfl ?_
        obtain ⟨y7, μ5, hr6, h⟩ := sh_bind_e h
        refine v1_callV [_, _] 119 dX2_part_119 ck_X2_92 (g_l_6 hG) ⟨by decide, rfl⟩ (h_X2_ofTwoSums hG hr6) (Nat.le_refl _) ⟨Nat.le_of_ble_eq_true rfl, Nat.le_of_ble_eq_true rfl⟩ rfl (Nat.le_of_ble_eq_true rfl) ?_
        have hG5 := grec hG hr6
        obtain ⟨k8, h⟩ := sh_chk h
        obtain ⟨e1, e2⟩ := sh_some2 h
        refine vv_zret 122 dX2_part_122 rfl (sh_nb k8) (Nat.le_refl _) (Nat.le_refl _) ⟨by rw [e1], e2⟩
      · rw [if_neg c4] at h
        refine vv_iload_n 110 2 dX2_part_110 rfl rfl ?_
        refine vv_bipush 111 dX2_part_111 bk_26 ?_
        refine vv_icmp_ne 113 123 dX2_part_113 (by decide) (fun c9 => ?_) (fun c9 => ?_)
        · rw [if_neg c9] at h
          refine vv_aload_n 123 0 dX2_part_123 rfl rfl ?_
          refine vv_getI 124 dX2_part_124 fl_2_25 rfl (g_l_6 hG) ?_
          refine vv_iconst 127 dX2_part_127 ik_2 ?_
          refine vv_icmp_ne 128 177 dX2_part_128 (by decide) (fun c10 => ?_) (fun c10 => ?_)
          · rw [if_neg c10] at h
            refine vv_aload_n 177 0 dX2_part_177 rfl rfl ?_
            refine vv_iload_n 178 2 dX2_part_178 rfl rfl ?_
            obtain ⟨y13, μ11, hr12, h⟩ := sh_bind_e h
            refine v1_callV [_] 179 dX2_part_179 ck_X2_95 (g_l_6 hG) ⟨by decide, rfl⟩ (t_X2_isFactHere hG hr12) (by omega) ⟨Nat.le_of_ble_eq_true rfl, Nat.le_of_ble_eq_true rfl⟩ rfl (Nat.le_of_ble_eq_true rfl) ?_
            have hG11 := gp_X2_isFactHere hG hr12
            refine vv_if_ne 182 201 dX2_part_182 (by decide) (fun c14 => ?_) (fun c14 => ?_)
            · rw [if_neg c14] at h
              refine vv_aload_n 201 0 dX2_part_201 rfl rfl ?_
              refine vv_getR 202 dX2_part_202 fl_2_9 rfl (g_l_6 hG11) (g_r_6_0 hG11) ?_
              obtain ⟨μ15, hr16, h⟩ := sh_bindv_e h
              refine v1_callV [] 205 dX2_part_205 ck_X2_43 (g_l_2 hG11) ⟨by decide, rfl⟩ (t_X8_advance hG11 hr16) (by omega) ⟨Nat.le_of_ble_eq_true rfl, Nat.le_of_ble_eq_true rfl⟩ rfl (Nat.le_of_ble_eq_true rfl) ?_
              have hG15 := gp_X8_advance hG11 hr16
              refine vv_aload_n 208 0 dX2_part_208 rfl rfl ?_
              obtain ⟨k18, h⟩ := sh_chk h
              refine vv_getR 209 dX2_part_209 fl_2_15 rfl (g_l_6 hG15) k18.1 ?_
              refine vv_topr (fun r19 er19 => ?_)
              rw [sh_let_eq er19] at h
              have k18r : sh_r μ15 6 1 = some r19 ∧ r19 ∈ sh_FORMS := by rw [er19]; exact k18
              refine vv_iload_n 212 2 dX2_part_212 rfl rfl ?_
              obtain ⟨μ20, hr21, h⟩ := sh_bindv_e h
              refine v1_callV [_] 213 dX2_part_213 ck_X2_66 (gF_l hG15 k18r.2) ⟨by decide, rfl⟩ (t_X1_addWord hG15 k18r.2 hr21) (by omega) ⟨Nat.le_of_ble_eq_true rfl, Nat.le_of_ble_eq_true rfl⟩ rfl (Nat.le_of_ble_eq_true rfl) ?_
              have hG20 := gp_X1_addWord hG15 k18r.2 hr21
              refine vv_iconst 216 dX2_part_216 ik_1 ?_
              obtain ⟨e1, e2⟩ := sh_some2 h
              refine vv_zret 217 dX2_part_217 rfl rfl (Nat.le_refl _) (Nat.le_refl _) ⟨by rw [e1], e2⟩
            · rw [if_pos c14] at h
              refine vv_aload_n 185 0 dX2_part_185 rfl rfl ?_
              refine vv_getR 186 dX2_part_186 fl_2_9 rfl (g_l_6 hG11) (g_r_6_0 hG11) ?_
              refine vv_iconst 189 dX2_part_189 ik_1 ?_
              refine vv_aload_n 190 0 dX2_part_190 rfl rfl ?_
              refine vv_getR 191 dX2_part_191 fl_2_9 rfl (g_l_6 hG11) (g_r_6_0 hG11) ?_
              refine vv_getI 194 dX2_part_194 fl_2_36 rfl (g_l_2 hG11) ?_
              obtain ⟨y25, μ23, hr24, h⟩ := sh_bind_e h
              refine v1_callV [_, _] 197 dX2_part_197 ck_X2_39 (g_l_2 hG11) ⟨by decide, rfl⟩ (t_X8_fails hG11 hr24) (by omega) ⟨Nat.le_of_ble_eq_true rfl, Nat.le_of_ble_eq_true rfl⟩ rfl (Nat.le_of_ble_eq_true rfl) ?_
              have hG23 := gp_X8_fails hG11 hr24
              obtain ⟨k26, h⟩ := sh_chk h
              obtain ⟨e1, e2⟩ := sh_some2 h
              refine vv_zret 200 dX2_part_200 rfl (sh_nb k26) (Nat.le_refl _) (Nat.le_refl _) ⟨by rw [e1], e2⟩
          · rw [if_pos c10] at h
            refine vv_iload_n 131 2 dX2_part_131 rfl rfl ?_
            refine vv_bipush 132 dX2_part_132 bk_7 ?_
            refine vv_icmp_eq 134 143 dX2_part_134 (by decide) (fun c27 => ?_) (fun c27 => ?_)
            · rw [if_pos c27] at h
              refine vv_aload_n 143 0 dX2_part_143 rfl rfl ?_
              refine vv_iload_n 144 1 dX2_part_144 rfl rfl ?_
              obtain ⟨y30, μ28, hr29, h⟩ := sh_bind_e h
              refine v1_callV [_] 145 dX2_part_145 ck_X2_73 (g_l_6 hG) ⟨by decide, rfl⟩ (t_X2_opens hG hr29) (by omega) ⟨Nat.le_of_ble_eq_true rfl, Nat.le_of_ble_eq_true rfl⟩ rfl (Nat.le_of_ble_eq_true rfl) ?_
              have hG28 := gp_X2_opens hG hr29
              refine vv_if_eq 148 165 dX2_part_148 (by decide) (fun c31 => ?_) (fun c31 => ?_)
              · rw [if_pos c31] at h
                refine vv_iconst 165 dX2_part_165 ik_0 ?_
                refine vv_istore_n (lv' := [(3, _), (2, _), (0, _), (1, _)]) 166 3 dX2_part_166 rfl (by decide) rfl ?_
                refine vv_aload_n 167 0 dX2_part_167 rfl rfl ?_
                obtain ⟨k32, h⟩ := sh_chk h
                refine vv_getR 168 dX2_part_168 fl_2_15 rfl (g_l_6 hG28) k32.1 ?_
                refine vv_topr (fun r33 er33 => ?_)
                rw [sh_let_eq er33] at h
                have k32r : sh_r μ28 6 1 = some r33 ∧ r33 ∈ sh_FORMS := by rw [er33]; exact k32
                refine vv_iload_n 171 2 dX2_part_171 rfl rfl ?_
                obtain ⟨μ34, hr35, h⟩ := sh_bindv_e h
                refine v1_callV [_] 172 dX2_part_172 ck_X2_66 (gF_l hG28 k32r.2) ⟨by decide, rfl⟩ (t_X1_addWord hG28 k32r.2 hr35) (by omega) ⟨Nat.le_of_ble_eq_true rfl, Nat.le_of_ble_eq_true rfl⟩ rfl (Nat.le_of_ble_eq_true rfl) ?_
                have hG34 := gp_X1_addWord hG28 k32r.2 hr35
                refine vv_iload_n 175 3 dX2_part_175 rfl rfl ?_
                obtain ⟨e1, e2⟩ := sh_some2 h
                refine vv_zret 176 dX2_part_176 rfl rfl (Nat.le_refl _) (Nat.le_refl _) ⟨by rw [e1], e2⟩
              · rw [if_neg c31] at h
                refine vv_aload_n 151 0 dX2_part_151 rfl rfl ?_
                refine vv_iload_n 152 1 dX2_part_152 rfl rfl ?_
                refine vv_iconst 153 dX2_part_153 ik_1 ?_
                refine vv_iadd 154 dX2_part_154 ?_
                obtain ⟨y39, μ37, hr38, h⟩ := sh_bind_e h
                refine v1_callV [_] 155 dX2_part_155 ck_X2_85 (g_l_6 hG28) ⟨by decide, rfl⟩ (h_X2_part hG28 hr38) (Nat.le_refl _) ⟨Nat.le_of_ble_eq_true rfl, Nat.le_of_ble_eq_true rfl⟩ rfl (Nat.le_of_ble_eq_true rfl) ?_
                have hG37 := grec hG28 hr38
                refine vv_if_eq 158 165 dX2_part_158 (by decide) (fun c40 => ?_) (fun c40 => ?_)
                · rw [if_pos c40] at h
                  refine vv_iconst 165 dX2_part_165 ik_0 ?_
                  refine vv_istore_n (lv' := [(3, _), (2, _), (0, _), (1, _)]) 166 3 dX2_part_166 rfl (by decide) rfl ?_
                  refine vv_aload_n 167 0 dX2_part_167 rfl rfl ?_
                  obtain ⟨k41, h⟩ := sh_chk h
                  refine vv_getR 168 dX2_part_168 fl_2_15 rfl (g_l_6 hG37) k41.1 ?_
                  refine vv_topr (fun r42 er42 => ?_)
                  rw [sh_let_eq er42] at h
                  have k41r : sh_r μ37 6 1 = some r42 ∧ r42 ∈ sh_FORMS := by rw [er42]; exact k41
                  refine vv_iload_n 171 2 dX2_part_171 rfl rfl ?_
                  obtain ⟨μ43, hr44, h⟩ := sh_bindv_e h
                  refine v1_callV [_] 172 dX2_part_172 ck_X2_66 (gF_l hG37 k41r.2) ⟨by decide, rfl⟩ (t_X1_addWord hG37 k41r.2 hr44) (by omega) ⟨Nat.le_of_ble_eq_true rfl, Nat.le_of_ble_eq_true rfl⟩ rfl (Nat.le_of_ble_eq_true rfl) ?_
                  have hG43 := gp_X1_addWord hG37 k41r.2 hr44
                  refine vv_iload_n 175 3 dX2_part_175 rfl rfl ?_
                  obtain ⟨e1, e2⟩ := sh_some2 h
                  refine vv_zret 176 dX2_part_176 rfl rfl (Nat.le_refl _) (Nat.le_refl _) ⟨by rw [e1], e2⟩
                · rw [if_neg c40] at h
                  refine vv_iconst 161 dX2_part_161 ik_1 ?_
                  refine vv_goto 162 166 dX2_part_162 (by decide) ?_
                  refine vv_istore_n (lv' := [(3, _), (2, _), (0, _), (1, _)]) 166 3 dX2_part_166 rfl (by decide) rfl ?_
                  refine vv_aload_n 167 0 dX2_part_167 rfl rfl ?_
                  obtain ⟨k46, h⟩ := sh_chk h
                  refine vv_getR 168 dX2_part_168 fl_2_15 rfl (g_l_6 hG37) k46.1 ?_
                  refine vv_topr (fun r47 er47 => ?_)
                  rw [sh_let_eq er47] at h
                  have k46r : sh_r μ37 6 1 = some r47 ∧ r47 ∈ sh_FORMS := by rw [er47]; exact k46
                  refine vv_iload_n 171 2 dX2_part_171 rfl rfl ?_
                  obtain ⟨μ48, hr49, h⟩ := sh_bindv_e h
                  refine v1_callV [_] 172 dX2_part_172 ck_X2_66 (gF_l hG37 k46r.2) ⟨by decide, rfl⟩ (t_X1_addWord hG37 k46r.2 hr49) (by omega) ⟨Nat.le_of_ble_eq_true rfl, Nat.le_of_ble_eq_true rfl⟩ rfl (Nat.le_of_ble_eq_true rfl) ?_
                  have hG48 := gp_X1_addWord hG37 k46r.2 hr49
                  refine vv_iload_n 175 3 dX2_part_175 rfl rfl ?_
                  obtain ⟨e1, e2⟩ := sh_some2 h
                  refine vv_zret 176 dX2_part_176 rfl rfl (Nat.le_refl _) (Nat.le_refl _) ⟨by rw [e1], e2⟩
            · rw [if_neg c27] at h
              refine vv_iload_n 137 2 dX2_part_137 rfl rfl ?_
              refine vv_bipush 138 dX2_part_138 bk_10 ?_
              refine vv_icmp_ne 140 177 dX2_part_140 (by decide) (fun c51 => ?_) (fun c51 => ?_)
              · rw [if_neg c51] at h
                refine vv_aload_n 177 0 dX2_part_177 rfl rfl ?_
                refine vv_iload_n 178 2 dX2_part_178 rfl rfl ?_
                obtain ⟨y54, μ52, hr53, h⟩ := sh_bind_e h
                refine v1_callV [_] 179 dX2_part_179 ck_X2_95 (g_l_6 hG) ⟨by decide, rfl⟩ (t_X2_isFactHere hG hr53) (by omega) ⟨Nat.le_of_ble_eq_true rfl, Nat.le_of_ble_eq_true rfl⟩ rfl (Nat.le_of_ble_eq_true rfl) ?_
                have hG52 := gp_X2_isFactHere hG hr53
                refine vv_if_ne 182 201 dX2_part_182 (by decide) (fun c55 => ?_) (fun c55 => ?_)
                · rw [if_neg c55] at h
                  refine vv_aload_n 201 0 dX2_part_201 rfl rfl ?_
                  refine vv_getR 202 dX2_part_202 fl_2_9 rfl (g_l_6 hG52) (g_r_6_0 hG52) ?_
                  obtain ⟨μ56, hr57, h⟩ := sh_bindv_e h
                  refine v1_callV [] 205 dX2_part_205 ck_X2_43 (g_l_2 hG52) ⟨by decide, rfl⟩ (t_X8_advance hG52 hr57) (by omega) ⟨Nat.le_of_ble_eq_true rfl, Nat.le_of_ble_eq_true rfl⟩ rfl (Nat.le_of_ble_eq_true rfl) ?_
                  have hG56 := gp_X8_advance hG52 hr57
                  refine vv_aload_n 208 0 dX2_part_208 rfl rfl ?_
                  obtain ⟨k59, h⟩ := sh_chk h
                  refine vv_getR 209 dX2_part_209 fl_2_15 rfl (g_l_6 hG56) k59.1 ?_
                  refine vv_topr (fun r60 er60 => ?_)
                  rw [sh_let_eq er60] at h
                  have k59r : sh_r μ56 6 1 = some r60 ∧ r60 ∈ sh_FORMS := by rw [er60]; exact k59
                  refine vv_iload_n 212 2 dX2_part_212 rfl rfl ?_
                  obtain ⟨μ61, hr62, h⟩ := sh_bindv_e h
                  refine v1_callV [_] 213 dX2_part_213 ck_X2_66 (gF_l hG56 k59r.2) ⟨by decide, rfl⟩ (t_X1_addWord hG56 k59r.2 hr62) (by omega) ⟨Nat.le_of_ble_eq_true rfl, Nat.le_of_ble_eq_true rfl⟩ rfl (Nat.le_of_ble_eq_true rfl) ?_
                  have hG61 := gp_X1_addWord hG56 k59r.2 hr62
                  refine vv_iconst 216 dX2_part_216 ik_1 ?_
                  obtain ⟨e1, e2⟩ := sh_some2 h
                  refine vv_zret 217 dX2_part_217 rfl rfl (Nat.le_refl _) (Nat.le_refl _) ⟨by rw [e1], e2⟩
                · rw [if_pos c55] at h
                  refine vv_aload_n 185 0 dX2_part_185 rfl rfl ?_
                  refine vv_getR 186 dX2_part_186 fl_2_9 rfl (g_l_6 hG52) (g_r_6_0 hG52) ?_
                  refine vv_iconst 189 dX2_part_189 ik_1 ?_
                  refine vv_aload_n 190 0 dX2_part_190 rfl rfl ?_
                  refine vv_getR 191 dX2_part_191 fl_2_9 rfl (g_l_6 hG52) (g_r_6_0 hG52) ?_
                  refine vv_getI 194 dX2_part_194 fl_2_36 rfl (g_l_2 hG52) ?_
                  obtain ⟨y66, μ64, hr65, h⟩ := sh_bind_e h
                  refine v1_callV [_, _] 197 dX2_part_197 ck_X2_39 (g_l_2 hG52) ⟨by decide, rfl⟩ (t_X8_fails hG52 hr65) (by omega) ⟨Nat.le_of_ble_eq_true rfl, Nat.le_of_ble_eq_true rfl⟩ rfl (Nat.le_of_ble_eq_true rfl) ?_
                  have hG64 := gp_X8_fails hG52 hr65
                  obtain ⟨k67, h⟩ := sh_chk h
                  obtain ⟨e1, e2⟩ := sh_some2 h
                  refine vv_zret 200 dX2_part_200 rfl (sh_nb k67) (Nat.le_refl _) (Nat.le_refl _) ⟨by rw [e1], e2⟩
              · rw [if_pos c51] at h
                refine vv_aload_n 143 0 dX2_part_143 rfl rfl ?_
                refine vv_iload_n 144 1 dX2_part_144 rfl rfl ?_
                obtain ⟨y70, μ68, hr69, h⟩ := sh_bind_e h
                refine v1_callV [_] 145 dX2_part_145 ck_X2_73 (g_l_6 hG) ⟨by decide, rfl⟩ (t_X2_opens hG hr69) (by omega) ⟨Nat.le_of_ble_eq_true rfl, Nat.le_of_ble_eq_true rfl⟩ rfl (Nat.le_of_ble_eq_true rfl) ?_
                have hG68 := gp_X2_opens hG hr69
                refine vv_if_eq 148 165 dX2_part_148 (by decide) (fun c71 => ?_) (fun c71 => ?_)
                · rw [if_pos c71] at h
                  refine vv_iconst 165 dX2_part_165 ik_0 ?_
                  refine vv_istore_n (lv' := [(3, _), (2, _), (0, _), (1, _)]) 166 3 dX2_part_166 rfl (by decide) rfl ?_
                  refine vv_aload_n 167 0 dX2_part_167 rfl rfl ?_
                  obtain ⟨k72, h⟩ := sh_chk h
                  refine vv_getR 168 dX2_part_168 fl_2_15 rfl (g_l_6 hG68) k72.1 ?_
                  refine vv_topr (fun r73 er73 => ?_)
                  rw [sh_let_eq er73] at h
                  have k72r : sh_r μ68 6 1 = some r73 ∧ r73 ∈ sh_FORMS := by rw [er73]; exact k72
                  refine vv_iload_n 171 2 dX2_part_171 rfl rfl ?_
                  obtain ⟨μ74, hr75, h⟩ := sh_bindv_e h
                  refine v1_callV [_] 172 dX2_part_172 ck_X2_66 (gF_l hG68 k72r.2) ⟨by decide, rfl⟩ (t_X1_addWord hG68 k72r.2 hr75) (by omega) ⟨Nat.le_of_ble_eq_true rfl, Nat.le_of_ble_eq_true rfl⟩ rfl (Nat.le_of_ble_eq_true rfl) ?_
                  have hG74 := gp_X1_addWord hG68 k72r.2 hr75
                  refine vv_iload_n 175 3 dX2_part_175 rfl rfl ?_
                  obtain ⟨e1, e2⟩ := sh_some2 h
                  refine vv_zret 176 dX2_part_176 rfl rfl (Nat.le_refl _) (Nat.le_refl _) ⟨by rw [e1], e2⟩
                · rw [if_neg c71] at h
                  refine vv_aload_n 151 0 dX2_part_151 rfl rfl ?_
                  refine vv_iload_n 152 1 dX2_part_152 rfl rfl ?_
                  refine vv_iconst 153 dX2_part_153 ik_1 ?_
                  refine vv_iadd 154 dX2_part_154 ?_
                  obtain ⟨y79, μ77, hr78, h⟩ := sh_bind_e h
                  refine v1_callV [_] 155 dX2_part_155 ck_X2_85 (g_l_6 hG68) ⟨by decide, rfl⟩ (h_X2_part hG68 hr78) (Nat.le_refl _) ⟨Nat.le_of_ble_eq_true rfl, Nat.le_of_ble_eq_true rfl⟩ rfl (Nat.le_of_ble_eq_true rfl) ?_
                  have hG77 := grec hG68 hr78
                  refine vv_if_eq 158 165 dX2_part_158 (by decide) (fun c80 => ?_) (fun c80 => ?_)
                  · rw [if_pos c80] at h
                    refine vv_iconst 165 dX2_part_165 ik_0 ?_
                    refine vv_istore_n (lv' := [(3, _), (2, _), (0, _), (1, _)]) 166 3 dX2_part_166 rfl (by decide) rfl ?_
                    refine vv_aload_n 167 0 dX2_part_167 rfl rfl ?_
                    obtain ⟨k81, h⟩ := sh_chk h
                    refine vv_getR 168 dX2_part_168 fl_2_15 rfl (g_l_6 hG77) k81.1 ?_
                    refine vv_topr (fun r82 er82 => ?_)
                    rw [sh_let_eq er82] at h
                    have k81r : sh_r μ77 6 1 = some r82 ∧ r82 ∈ sh_FORMS := by rw [er82]; exact k81
                    refine vv_iload_n 171 2 dX2_part_171 rfl rfl ?_
                    obtain ⟨μ83, hr84, h⟩ := sh_bindv_e h
                    refine v1_callV [_] 172 dX2_part_172 ck_X2_66 (gF_l hG77 k81r.2) ⟨by decide, rfl⟩ (t_X1_addWord hG77 k81r.2 hr84) (by omega) ⟨Nat.le_of_ble_eq_true rfl, Nat.le_of_ble_eq_true rfl⟩ rfl (Nat.le_of_ble_eq_true rfl) ?_
                    have hG83 := gp_X1_addWord hG77 k81r.2 hr84
                    refine vv_iload_n 175 3 dX2_part_175 rfl rfl ?_
                    obtain ⟨e1, e2⟩ := sh_some2 h
                    refine vv_zret 176 dX2_part_176 rfl rfl (Nat.le_refl _) (Nat.le_refl _) ⟨by rw [e1], e2⟩
                  · rw [if_neg c80] at h
                    refine vv_iconst 161 dX2_part_161 ik_1 ?_
                    refine vv_goto 162 166 dX2_part_162 (by decide) ?_
                    refine vv_istore_n (lv' := [(3, _), (2, _), (0, _), (1, _)]) 166 3 dX2_part_166 rfl (by decide) rfl ?_
                    refine vv_aload_n 167 0 dX2_part_167 rfl rfl ?_
                    obtain ⟨k86, h⟩ := sh_chk h
                    refine vv_getR 168 dX2_part_168 fl_2_15 rfl (g_l_6 hG77) k86.1 ?_
                    refine vv_topr (fun r87 er87 => ?_)
                    rw [sh_let_eq er87] at h
                    have k86r : sh_r μ77 6 1 = some r87 ∧ r87 ∈ sh_FORMS := by rw [er87]; exact k86
                    refine vv_iload_n 171 2 dX2_part_171 rfl rfl ?_
                    obtain ⟨μ88, hr89, h⟩ := sh_bindv_e h
                    refine v1_callV [_] 172 dX2_part_172 ck_X2_66 (gF_l hG77 k86r.2) ⟨by decide, rfl⟩ (t_X1_addWord hG77 k86r.2 hr89) (by omega) ⟨Nat.le_of_ble_eq_true rfl, Nat.le_of_ble_eq_true rfl⟩ rfl (Nat.le_of_ble_eq_true rfl) ?_
                    have hG88 := gp_X1_addWord hG77 k86r.2 hr89
                    refine vv_iload_n 175 3 dX2_part_175 rfl rfl ?_
                    obtain ⟨e1, e2⟩ := sh_some2 h
                    refine vv_zret 176 dX2_part_176 rfl rfl (Nat.le_refl _) (Nat.le_refl _) ⟨by rw [e1], e2⟩
        · rw [if_pos c9] at h
          refine vv_aload_n 116 0 dX2_part_116 rfl rfl ?_
          refine vv_iload_n 117 1 dX2_part_117 rfl rfl ?_
          refine vv_iload_n 118 2 dX2_part_118 rfl rfl ?_
          obtain ⟨y93, μ91, hr92, h⟩ := sh_bind_e h
          refine v1_callV [_, _] 119 dX2_part_119 ck_X2_92 (g_l_6 hG) ⟨by decide, rfl⟩ (h_X2_ofTwoSums hG hr92) (Nat.le_refl _) ⟨Nat.le_of_ble_eq_true rfl, Nat.le_of_ble_eq_true rfl⟩ rfl (Nat.le_of_ble_eq_true rfl) ?_
          have hG91 := grec hG hr92
          obtain ⟨k94, h⟩ := sh_chk h
          obtain ⟨e1, e2⟩ := sh_some2 h
          refine vv_zret 122 dX2_part_122 rfl (sh_nb k94) (Nat.le_refl _) (Nat.le_refl _) ⟨by rw [e1], e2⟩
    · rw [if_neg c2] at h
      refine vv_aload_n 60 0 dX2_part_60 rfl rfl ?_
      refine vv_getR 61 dX2_part_61 fl_2_9 rfl (g_l_6 hG) (g_r_6_0 hG) ?_
      refine vv_iconst 64 dX2_part_64 ik_0 ?_
      refine vv_sipush 65 dX2_part_65 sk_9999 ?_
      obtain ⟨y97, μ95, hr96, h⟩ := sh_bind_e h
      refine v1_callV [_, _] 68 dX2_part_68 ck_X2_88 (g_l_2 hG) ⟨by decide, rfl⟩ (t_X8_takeNumber hG hr96) (by omega) ⟨Nat.le_of_ble_eq_true rfl, Nat.le_of_ble_eq_true rfl⟩ rfl (Nat.le_of_ble_eq_true rfl) ?_
      have hG95 := gp_X8_takeNumber hG hr96
      refine vv_istore_n (lv' := [(2, _), (0, _), (1, _)]) 71 2 dX2_part_71 rfl (by decide) rfl ?_
      refine vv_iload_n 72 2 dX2_part_72 rfl rfl ?_
      refine vv_iconst 73 dX2_part_73 ik_m1 ?_
      refine vv_icmp_eq 74 85 dX2_part_74 (by decide) (fun c98 => ?_) (fun c98 => ?_)
      · rw [if_pos c98] at h
        refine vv_iload_n 85 2 dX2_part_85 rfl rfl ?_
        refine vv_iconst 86 dX2_part_86 ik_m1 ?_
        refine vv_icmp_eq 87 94 dX2_part_87 (by decide) (fun c99 => ?_) (fun c99 => ?_)
        · rw [if_pos c99] at h
          refine vv_iconst 94 dX2_part_94 ik_0 ?_
          obtain ⟨e1, e2⟩ := sh_some2 h
          refine vv_zret 95 dX2_part_95 rfl rfl (Nat.le_refl _) (Nat.le_refl _) ⟨by rw [e1], e2⟩
        · rw [if_neg c99] at h
          refine vv_iconst 90 dX2_part_90 ik_1 ?_
          refine vv_goto 91 95 dX2_part_91 (by decide) ?_
          obtain ⟨e1, e2⟩ := sh_some2 h
          refine vv_zret 95 dX2_part_95 rfl rfl (Nat.le_refl _) (Nat.le_refl _) ⟨by rw [e1], e2⟩
      · rw [if_neg c98] at h
        refine vv_aload_n 77 0 dX2_part_77 rfl rfl ?_
        obtain ⟨k100, h⟩ := sh_chk h
        refine vv_getR 78 dX2_part_78 fl_2_15 rfl (g_l_6 hG95) k100.1 ?_
        refine vv_topr (fun r101 er101 => ?_)
        rw [sh_let_eq er101] at h
        have k100r : sh_r μ95 6 1 = some r101 ∧ r101 ∈ sh_FORMS := by rw [er101]; exact k100
        refine vv_iload_n 81 2 dX2_part_81 rfl rfl ?_
        obtain ⟨μ102, hr103, h⟩ := sh_bindv_e h
        refine v1_callV [_] 82 dX2_part_82 ck_X2_76 (gF_l hG95 k100r.2) ⟨by decide, rfl⟩ (t_X1_add hG95 k100r.2 hr103) (by omega) ⟨Nat.le_of_ble_eq_true rfl, Nat.le_of_ble_eq_true rfl⟩ rfl (Nat.le_of_ble_eq_true rfl) ?_
        have hG102 := gp_X1_add hG95 k100r.2 hr103
        refine vv_iload_n 85 2 dX2_part_85 rfl rfl ?_
        refine vv_iconst 86 dX2_part_86 ik_m1 ?_
        refine vv_icmp_eq 87 94 dX2_part_87 (by decide) (fun c105 => ?_) (fun c105 => ?_)
        · rw [if_pos c105] at h
          refine vv_iconst 94 dX2_part_94 ik_0 ?_
          obtain ⟨e1, e2⟩ := sh_some2 h
          refine vv_zret 95 dX2_part_95 rfl rfl (Nat.le_refl _) (Nat.le_refl _) ⟨by rw [e1], e2⟩
        · rw [if_neg c105] at h
          refine vv_iconst 90 dX2_part_90 ik_1 ?_
          refine vv_goto 91 95 dX2_part_91 (by decide) ?_
          obtain ⟨e1, e2⟩ := sh_some2 h
          refine vv_zret 95 dX2_part_95 rfl rfl (Nat.le_refl _) (Nat.le_refl _) ⟨by rw [e1], e2⟩
  · rw [if_pos c1] at h
    refine vv_aload_n 12 0 dX2_part_12 rfl rfl ?_
    refine vv_iload_n 13 1 dX2_part_13 rfl rfl ?_
    obtain ⟨y108, μ106, hr107, h⟩ := sh_bind_e h
    refine v1_callV [_] 14 dX2_part_14 ck_X2_73 (g_l_6 hG) ⟨by decide, rfl⟩ (t_X2_opens hG hr107) (by omega) ⟨Nat.le_of_ble_eq_true rfl, Nat.le_of_ble_eq_true rfl⟩ rfl (Nat.le_of_ble_eq_true rfl) ?_
    have hG106 := gp_X2_opens hG hr107
    refine vv_if_eq 17 46 dX2_part_17 (by decide) (fun c109 => ?_) (fun c109 => ?_)
    · rw [if_pos c109] at h
      refine vv_iconst 46 dX2_part_46 ik_0 ?_
      obtain ⟨e1, e2⟩ := sh_some2 h
      refine vv_zret 47 dX2_part_47 rfl rfl (Nat.le_refl _) (Nat.le_refl _) ⟨by rw [e1], e2⟩
    · rw [if_neg c109] at h
      refine vv_aload_n 20 0 dX2_part_20 rfl rfl ?_
      refine vv_iload_n 21 1 dX2_part_21 rfl rfl ?_
      refine vv_iconst 22 dX2_part_22 ik_1 ?_
      refine vv_iadd 23 dX2_part_23 ?_
      obtain ⟨y112, μ110, hr111, h⟩ := sh_bind_e h
      refine v1_callV [_] 24 dX2_part_24 ck_X2_54 (g_l_6 hG106) ⟨by decide, rfl⟩ (h_X2_sum hG106 hr111) (Nat.le_refl _) ⟨Nat.le_of_ble_eq_true rfl, Nat.le_of_ble_eq_true rfl⟩ rfl (Nat.le_of_ble_eq_true rfl) ?_
      have hG110 := grec hG106 hr111
      refine vv_if_eq 27 46 dX2_part_27 (by decide) (fun c113 => ?_) (fun c113 => ?_)
      · rw [if_pos c113] at h
        refine vv_iconst 46 dX2_part_46 ik_0 ?_
        obtain ⟨e1, e2⟩ := sh_some2 h
        refine vv_zret 47 dX2_part_47 rfl rfl (Nat.le_refl _) (Nat.le_refl _) ⟨by rw [e1], e2⟩
      · rw [if_neg c113] at h
        refine vv_aload_n 30 0 dX2_part_30 rfl rfl ?_
        refine vv_getR 31 dX2_part_31 fl_2_9 rfl (g_l_6 hG110) (g_r_6_0 hG110) ?_
        refine vv_bipush 34 dX2_part_34 bk_41 ?_
        obtain ⟨y116, μ114, hr115, h⟩ := sh_bind_e h
        refine v1_callV [_] 36 dX2_part_36 ck_X2_57 (g_l_2 hG110) ⟨by decide, rfl⟩ (t_X8_takesMark hG110 hr115) (by omega) ⟨Nat.le_of_ble_eq_true rfl, Nat.le_of_ble_eq_true rfl⟩ rfl (Nat.le_of_ble_eq_true rfl) ?_
        have hG114 := gp_X8_takesMark hG110 hr115
        refine vv_if_eq 39 46 dX2_part_39 (by decide) (fun c117 => ?_) (fun c117 => ?_)
        · rw [if_pos c117] at h
          refine vv_iconst 46 dX2_part_46 ik_0 ?_
          obtain ⟨e1, e2⟩ := sh_some2 h
          refine vv_zret 47 dX2_part_47 rfl rfl (Nat.le_refl _) (Nat.le_refl _) ⟨by rw [e1], e2⟩
        · rw [if_neg c117] at h
          refine vv_iconst 42 dX2_part_42 ik_1 ?_
          refine vv_goto 43 47 dX2_part_43 (by decide) ?_
          obtain ⟨e1, e2⟩ := sh_some2 h
          refine vv_zret 47 dX2_part_47 rfl rfl (Nat.le_refl _) (Nat.le_refl _) ⟨by rw [e1], e2⟩
noncomputable def f_X2_ofTwoSums (rec : Nat → Int32 → Int32 → Int32 → sh_Mem → Option (Int32 × sh_Mem)) (a1 : Int32) (a2 : Int32) (μ : sh_Mem) : Option (Int32 × sh_Mem) := sh_bindv (f_X8_advance μ) (fun μ1 => (if (sh_i μ1 2 3) = 40 then sh_bind (f_X2_opens a1 μ1) (fun y7 μ5 => (if y7 = 0 then (if (sh_r μ5 6 1 = some (sh_ref μ5 6 1) ∧ (sh_ref μ5 6 1) ∈ sh_FORMS) then sh_let (sh_ref μ5 6 1) (fun r10 => sh_bindv (f_X1_addWord r10 a2 μ5) (fun μ11 => some (0, μ11))) else none) else sh_bind (rec 3 (a1 + 1) 0 0 μ5) (fun y16 μ14 => (if y16 = 0 then (if (sh_r μ14 6 1 = some (sh_ref μ14 6 1) ∧ (sh_ref μ14 6 1) ∈ sh_FORMS) then sh_let (sh_ref μ14 6 1) (fun r19 => sh_bindv (f_X1_addWord r19 a2 μ14) (fun μ20 => some (0, μ20))) else none) else sh_bind (f_X8_takesMark 44 μ14) (fun y25 μ23 => (if y25 = 0 then (if (sh_r μ23 6 1 = some (sh_ref μ23 6 1) ∧ (sh_ref μ23 6 1) ∈ sh_FORMS) then sh_let (sh_ref μ23 6 1) (fun r28 => sh_bindv (f_X1_addWord r28 a2 μ23) (fun μ29 => some (0, μ29))) else none) else sh_bind (rec 3 (a1 + 1) 0 0 μ23) (fun y34 μ32 => (if y34 = 0 then (if (sh_r μ32 6 1 = some (sh_ref μ32 6 1) ∧ (sh_ref μ32 6 1) ∈ sh_FORMS) then sh_let (sh_ref μ32 6 1) (fun r37 => sh_bindv (f_X1_addWord r37 a2 μ32) (fun μ38 => some (0, μ38))) else none) else sh_bind (f_X8_takesMark 41 μ32) (fun y43 μ41 => (if y43 = 0 then (if (sh_r μ41 6 1 = some (sh_ref μ41 6 1) ∧ (sh_ref μ41 6 1) ∈ sh_FORMS) then sh_let (sh_ref μ41 6 1) (fun r46 => sh_bindv (f_X1_addWord r46 a2 μ41) (fun μ47 => some (0, μ47))) else none) else (if (sh_r μ41 6 1 = some (sh_ref μ41 6 1) ∧ (sh_ref μ41 6 1) ∈ sh_FORMS) then sh_let (sh_ref μ41 6 1) (fun r51 => sh_bindv (f_X1_addWord r51 a2 μ41) (fun μ52 => some (1, μ52))) else none))))))))))) else sh_bind (f_X8_fails 1 (sh_i μ1 2 4) μ1) (fun y57 μ55 => (if y57 = 0 ∨ y57 = 1 then some (y57, μ55) else none))))
theorem gp_X2_ofTwoSums {rec : Nat → Int32 → Int32 → Int32 → sh_Mem → Option (Int32 × sh_Mem)} {a1 : Int32} {a2 : Int32} {μ μ' : sh_Mem} {v : Int32}  (grec : ∀ ⦃k : Nat⦄ ⦃b1 b2 b3 : Int32⦄ ⦃μ μ' : sh_Mem⦄ ⦃v : Int32⦄, sh_G μ → rec k b1 b2 b3 μ = some (v, μ') → sh_G μ')(hG : sh_G μ) (h : f_X2_ofTwoSums rec a1 a2 μ = some (v, μ')) : sh_G μ' := by
  unfold f_X2_ofTwoSums at h
  obtain ⟨μ1, hr2, h⟩ := sh_bindv_e h
  have hG1 := gp_X8_advance hG hr2
  by_cases c4 : (sh_i μ1 2 3) = 40
  · rw [if_pos c4] at h
    obtain ⟨y7, μ5, hr6, h⟩ := sh_bind_e h
    have hG5 := gp_X2_opens hG1 hr6
    by_cases c8 : y7 = 0
    · rw [if_pos c8] at h
      obtain ⟨k9, h⟩ := sh_chk h
      obtain ⟨r10, er10⟩ : ∃ y : Nat, y = (sh_ref μ5 6 1) := ⟨_, rfl⟩
      rw [sh_let_eq er10] at h
      have k9r : sh_r μ5 6 1 = some r10 ∧ r10 ∈ sh_FORMS := by rw [er10]; exact k9
      obtain ⟨μ11, hr12, h⟩ := sh_bindv_e h
      have hG11 := gp_X1_addWord hG5 k9r.2 hr12
      obtain ⟨e1, e2⟩ := sh_some2 h
      exact e2 ▸ hG11
    · rw [if_neg c8] at h
      obtain ⟨y16, μ14, hr15, h⟩ := sh_bind_e h
      have hG14 := grec hG5 hr15
      by_cases c17 : y16 = 0
      · rw [if_pos c17] at h
        obtain ⟨k18, h⟩ := sh_chk h
        obtain ⟨r19, er19⟩ : ∃ y : Nat, y = (sh_ref μ14 6 1) := ⟨_, rfl⟩
        rw [sh_let_eq er19] at h
        have k18r : sh_r μ14 6 1 = some r19 ∧ r19 ∈ sh_FORMS := by rw [er19]; exact k18
        obtain ⟨μ20, hr21, h⟩ := sh_bindv_e h
        have hG20 := gp_X1_addWord hG14 k18r.2 hr21
        obtain ⟨e1, e2⟩ := sh_some2 h
        exact e2 ▸ hG20
      · rw [if_neg c17] at h
        obtain ⟨y25, μ23, hr24, h⟩ := sh_bind_e h
        have hG23 := gp_X8_takesMark hG14 hr24
        by_cases c26 : y25 = 0
        · rw [if_pos c26] at h
          obtain ⟨k27, h⟩ := sh_chk h
          obtain ⟨r28, er28⟩ : ∃ y : Nat, y = (sh_ref μ23 6 1) := ⟨_, rfl⟩
          rw [sh_let_eq er28] at h
          have k27r : sh_r μ23 6 1 = some r28 ∧ r28 ∈ sh_FORMS := by rw [er28]; exact k27
          obtain ⟨μ29, hr30, h⟩ := sh_bindv_e h
          have hG29 := gp_X1_addWord hG23 k27r.2 hr30
          obtain ⟨e1, e2⟩ := sh_some2 h
          exact e2 ▸ hG29
        · rw [if_neg c26] at h
          obtain ⟨y34, μ32, hr33, h⟩ := sh_bind_e h
          have hG32 := grec hG23 hr33
          by_cases c35 : y34 = 0
          · rw [if_pos c35] at h
            obtain ⟨k36, h⟩ := sh_chk h
            obtain ⟨r37, er37⟩ : ∃ y : Nat, y = (sh_ref μ32 6 1) := ⟨_, rfl⟩
            rw [sh_let_eq er37] at h
            have k36r : sh_r μ32 6 1 = some r37 ∧ r37 ∈ sh_FORMS := by rw [er37]; exact k36
            obtain ⟨μ38, hr39, h⟩ := sh_bindv_e h
            have hG38 := gp_X1_addWord hG32 k36r.2 hr39
            obtain ⟨e1, e2⟩ := sh_some2 h
            exact e2 ▸ hG38
          · rw [if_neg c35] at h
            obtain ⟨y43, μ41, hr42, h⟩ := sh_bind_e h
            have hG41 := gp_X8_takesMark hG32 hr42
            by_cases c44 : y43 = 0
            · rw [if_pos c44] at h
              obtain ⟨k45, h⟩ := sh_chk h
              obtain ⟨r46, er46⟩ : ∃ y : Nat, y = (sh_ref μ41 6 1) := ⟨_, rfl⟩
              rw [sh_let_eq er46] at h
              have k45r : sh_r μ41 6 1 = some r46 ∧ r46 ∈ sh_FORMS := by rw [er46]; exact k45
              obtain ⟨μ47, hr48, h⟩ := sh_bindv_e h
              have hG47 := gp_X1_addWord hG41 k45r.2 hr48
              obtain ⟨e1, e2⟩ := sh_some2 h
              exact e2 ▸ hG47
            · rw [if_neg c44] at h
              obtain ⟨k50, h⟩ := sh_chk h
              obtain ⟨r51, er51⟩ : ∃ y : Nat, y = (sh_ref μ41 6 1) := ⟨_, rfl⟩
              rw [sh_let_eq er51] at h
              have k50r : sh_r μ41 6 1 = some r51 ∧ r51 ∈ sh_FORMS := by rw [er51]; exact k50
              obtain ⟨μ52, hr53, h⟩ := sh_bindv_e h
              have hG52 := gp_X1_addWord hG41 k50r.2 hr53
              obtain ⟨e1, e2⟩ := sh_some2 h
              exact e2 ▸ hG52
  · rw [if_neg c4] at h
    obtain ⟨y57, μ55, hr56, h⟩ := sh_bind_e h
    have hG55 := gp_X8_fails hG1 hr56
    obtain ⟨k58, h⟩ := sh_chk h
    obtain ⟨e1, e2⟩ := sh_some2 h
    exact e2 ▸ hG55
theorem t_X2_ofTwoSums {rec : Nat → Int32 → Int32 → Int32 → sh_Mem → Option (Int32 × sh_Mem)} {a1 : Int32} {a2 : Int32} {μ μ' : sh_Mem} {v : Int32}  (grec : ∀ ⦃k : Nat⦄ ⦃b1 b2 b3 : Int32⦄ ⦃μ μ' : sh_Mem⦄ ⦃v : Int32⦄, sh_G μ → rec k b1 b2 b3 μ = some (v, μ') → sh_G μ') {d : Nat} (hd : 8 ≤ d) (h_X2_test : (∀ ⦃b1 : Int32⦄ ⦃μ μ' : sh_Mem⦄ ⦃v : Int32⦄, sh_G μ → rec 0 b1 0 0 μ = some (v, μ') → sh_C0 l B D ca d M_X2_test [.ref 6, .int b1] μ (fun v0 μ0 => v0 = some (.int v) ∧ μ0 = μ'))) (h_X2_both : (∀ ⦃b1 : Int32⦄ ⦃μ μ' : sh_Mem⦄ ⦃v : Int32⦄, sh_G μ → rec 1 b1 0 0 μ = some (v, μ') → sh_C0 l B D ca d M_X2_both [.ref 6, .int b1] μ (fun v0 μ0 => v0 = some (.int v) ∧ μ0 = μ'))) (h_X2_fact : (∀ ⦃b1 : Int32⦄ ⦃μ μ' : sh_Mem⦄ ⦃v : Int32⦄, sh_G μ → rec 2 b1 0 0 μ = some (v, μ') → sh_C0 l B D ca d M_X2_fact [.ref 6, .int b1] μ (fun v0 μ0 => v0 = some (.int v) ∧ μ0 = μ'))) (h_X2_sum : (∀ ⦃b1 : Int32⦄ ⦃μ μ' : sh_Mem⦄ ⦃v : Int32⦄, sh_G μ → rec 3 b1 0 0 μ = some (v, μ') → sh_C0 l B D ca d M_X2_sum [.ref 6, .int b1] μ (fun v0 μ0 => v0 = some (.int v) ∧ μ0 = μ'))) (h_X2_product : (∀ ⦃b1 : Int32⦄ ⦃μ μ' : sh_Mem⦄ ⦃v : Int32⦄, sh_G μ → rec 4 b1 0 0 μ = some (v, μ') → sh_C0 l B D ca d M_X2_product [.ref 6, .int b1] μ (fun v0 μ0 => v0 = some (.int v) ∧ μ0 = μ'))) (h_X2_part : (∀ ⦃b1 : Int32⦄ ⦃μ μ' : sh_Mem⦄ ⦃v : Int32⦄, sh_G μ → rec 5 b1 0 0 μ = some (v, μ') → sh_C0 l B D ca d M_X2_part [.ref 6, .int b1] μ (fun v0 μ0 => v0 = some (.int v) ∧ μ0 = μ'))) (h_X2_ofTwoSums : (∀ ⦃b1 b2 : Int32⦄ ⦃μ μ' : sh_Mem⦄ ⦃v : Int32⦄, sh_G μ → rec 6 b1 b2 0 μ = some (v, μ') → sh_C0 l B D ca d M_X2_ofTwoSums [.ref 6, .int b1, .int b2] μ (fun v0 μ0 => v0 = some (.int v) ∧ μ0 = μ')))(hG : sh_G μ) (h : f_X2_ofTwoSums rec a1 a2 μ = some (v, μ')) : sh_C0 l B D ca (d + 1) M_X2_ofTwoSums [.ref 6, .int a1, .int a2] μ (fun v0 μ0 => v0 = some (.int v) ∧ μ0 = μ') := by
  unfold f_X2_ofTwoSums at h
  refine vv_aload_n 0 0 dX2_ofTwoSums_0 rfl rfl ?_
  refine vv_getR 1 dX2_ofTwoSums_1 fl_2_9 rfl (g_l_6 hG) (g_r_6_0 hG) ?_
  obtain ⟨μ1, hr2, h⟩ := sh_bindv_e h
  refine v1_callV [] 4 dX2_ofTwoSums_4 ck_X2_43 (g_l_2 hG) ⟨by decide, rfl⟩ (t_X8_advance hG hr2) (by omega) ⟨Nat.le_of_ble_eq_true rfl, Nat.le_of_ble_eq_true rfl⟩ rfl (Nat.le_of_ble_eq_true rfl) ?_
  have hG1 := gp_X8_advance hG hr2
  refine vv_aload_n 7 0 dX2_ofTwoSums_7 rfl rfl ?_
  refine vv_getR 8 dX2_ofTwoSums_8 fl_2_9 rfl (g_l_6 hG1) (g_r_6_0 hG1) ?_
  refine vv_getI 11 dX2_ofTwoSums_11 fl_2_28 rfl (g_l_2 hG1) ?_
  refine vv_bipush 14 dX2_ofTwoSums_14 bk_40 ?_
  refine vv_icmp_eq 16 35 dX2_ofTwoSums_16 (by decide) (fun c4 => ?_) (fun c4 => ?_)
  · rw [if_pos c4] at h
    refine vv_aload_n 35 0 dX2_ofTwoSums_35 rfl rfl ?_
    refine vv_iload_n 36 1 dX2_ofTwoSums_36 rfl rfl ?_
    obtain ⟨y7, μ5, hr6, h⟩ := sh_bind_e h
    refine v1_callV [_] 37 dX2_ofTwoSums_37 ck_X2_73 (g_l_6 hG1) ⟨by decide, rfl⟩ (t_X2_opens hG1 hr6) (by omega) ⟨Nat.le_of_ble_eq_true rfl, Nat.le_of_ble_eq_true rfl⟩ rfl (Nat.le_of_ble_eq_true rfl) ?_
    have hG5 := gp_X2_opens hG1 hr6
    refine vv_if_eq 40 91 dX2_ofTwoSums_40 (by decide) (fun c8 => ?_) (fun c8 => ?_)
    · rw [if_pos c8] at h
      refine vv_iconst 91 dX2_ofTwoSums_91 ik_0 ?_
      refine vv_istore_n (lv' := [(3, _), (0, _), (1, _), (2, _)]) 92 3 dX2_ofTwoSums_92 rfl (by decide) rfl ?_
      refine vv_aload_n 93 0 dX2_ofTwoSums_93 rfl rfl ?_
      obtain ⟨k9, h⟩ := sh_chk h
      refine vv_getR 94 dX2_ofTwoSums_94 fl_2_15 rfl (g_l_6 hG5) k9.1 ?_
      refine vv_topr (fun r10 er10 => ?_)
      rw [sh_let_eq er10] at h
      have k9r : sh_r μ5 6 1 = some r10 ∧ r10 ∈ sh_FORMS := by rw [er10]; exact k9
      refine vv_iload_n 97 2 dX2_ofTwoSums_97 rfl rfl ?_
      obtain ⟨μ11, hr12, h⟩ := sh_bindv_e h
      refine v1_callV [_] 98 dX2_ofTwoSums_98 ck_X2_66 (gF_l hG5 k9r.2) ⟨by decide, rfl⟩ (t_X1_addWord hG5 k9r.2 hr12) (by omega) ⟨Nat.le_of_ble_eq_true rfl, Nat.le_of_ble_eq_true rfl⟩ rfl (Nat.le_of_ble_eq_true rfl) ?_
      have hG11 := gp_X1_addWord hG5 k9r.2 hr12
      refine vv_iload_n 101 3 dX2_ofTwoSums_101 rfl rfl ?_
      obtain ⟨e1, e2⟩ := sh_some2 h
      refine vv_zret 102 dX2_ofTwoSums_102 rfl rfl (Nat.le_refl _) (Nat.le_refl _) ⟨by rw [e1], e2⟩
    · rw [if_neg c8] at h
      refine vv_aload_n 43 0 dX2_ofTwoSums_43 rfl rfl ?_
      refine vv_iload_n 44 1 dX2_ofTwoSums_44 rfl rfl ?_
      refine vv_iconst 45 dX2_ofTwoSums_45 ik_1 ?_
      refine vv_iadd 46 dX2_ofTwoSums_46 ?_
      obtain ⟨y16, μ14, hr15, h⟩ := sh_bind_e h
      refine v1_callV [_] 47 dX2_ofTwoSums_47 ck_X2_54 (g_l_6 hG5) ⟨by decide, rfl⟩ (h_X2_sum hG5 hr15) (Nat.le_refl _) ⟨Nat.le_of_ble_eq_true rfl, Nat.le_of_ble_eq_true rfl⟩ rfl (Nat.le_of_ble_eq_true rfl) ?_
      have hG14 := grec hG5 hr15
      refine vv_if_eq 50 91 dX2_ofTwoSums_50 (by decide) (fun c17 => ?_) (fun c17 => ?_)
      · rw [if_pos c17] at h
        refine vv_iconst 91 dX2_ofTwoSums_91 ik_0 ?_
        refine vv_istore_n (lv' := [(3, _), (0, _), (1, _), (2, _)]) 92 3 dX2_ofTwoSums_92 rfl (by decide) rfl ?_
        refine vv_aload_n 93 0 dX2_ofTwoSums_93 rfl rfl ?_
        obtain ⟨k18, h⟩ := sh_chk h
        refine vv_getR 94 dX2_ofTwoSums_94 fl_2_15 rfl (g_l_6 hG14) k18.1 ?_
        refine vv_topr (fun r19 er19 => ?_)
        rw [sh_let_eq er19] at h
        have k18r : sh_r μ14 6 1 = some r19 ∧ r19 ∈ sh_FORMS := by rw [er19]; exact k18
        refine vv_iload_n 97 2 dX2_ofTwoSums_97 rfl rfl ?_
        obtain ⟨μ20, hr21, h⟩ := sh_bindv_e h
        refine v1_callV [_] 98 dX2_ofTwoSums_98 ck_X2_66 (gF_l hG14 k18r.2) ⟨by decide, rfl⟩ (t_X1_addWord hG14 k18r.2 hr21) (by omega) ⟨Nat.le_of_ble_eq_true rfl, Nat.le_of_ble_eq_true rfl⟩ rfl (Nat.le_of_ble_eq_true rfl) ?_
        have hG20 := gp_X1_addWord hG14 k18r.2 hr21
        refine vv_iload_n 101 3 dX2_ofTwoSums_101 rfl rfl ?_
        obtain ⟨e1, e2⟩ := sh_some2 h
        refine vv_zret 102 dX2_ofTwoSums_102 rfl rfl (Nat.le_refl _) (Nat.le_refl _) ⟨by rw [e1], e2⟩
      · rw [if_neg c17] at h
        refine vv_aload_n 53 0 dX2_ofTwoSums_53 rfl rfl ?_
        refine vv_getR 54 dX2_ofTwoSums_54 fl_2_9 rfl (g_l_6 hG14) (g_r_6_0 hG14) ?_
        refine vv_bipush 57 dX2_ofTwoSums_57 bk_44 ?_
        obtain ⟨y25, μ23, hr24, h⟩ := sh_bind_e h
        refine v1_callV [_] 59 dX2_ofTwoSums_59 ck_X2_57 (g_l_2 hG14) ⟨by decide, rfl⟩ (t_X8_takesMark hG14 hr24) (by omega) ⟨Nat.le_of_ble_eq_true rfl, Nat.le_of_ble_eq_true rfl⟩ rfl (Nat.le_of_ble_eq_true rfl) ?_
        have hG23 := gp_X8_takesMark hG14 hr24
        refine vv_if_eq 62 91 dX2_ofTwoSums_62 (by decide) (fun c26 => ?_) (fun c26 => ?_)
        · rw [if_pos c26] at h
          refine vv_iconst 91 dX2_ofTwoSums_91 ik_0 ?_
          refine vv_istore_n (lv' := [(3, _), (0, _), (1, _), (2, _)]) 92 3 dX2_ofTwoSums_92 rfl (by decide) rfl ?_
          refine vv_aload_n 93 0 dX2_ofTwoSums_93 rfl rfl ?_
          obtain ⟨k27, h⟩ := sh_chk h
          refine vv_getR 94 dX2_ofTwoSums_94 fl_2_15 rfl (g_l_6 hG23) k27.1 ?_
          refine vv_topr (fun r28 er28 => ?_)
          rw [sh_let_eq er28] at h
          have k27r : sh_r μ23 6 1 = some r28 ∧ r28 ∈ sh_FORMS := by rw [er28]; exact k27
          refine vv_iload_n 97 2 dX2_ofTwoSums_97 rfl rfl ?_
          obtain ⟨μ29, hr30, h⟩ := sh_bindv_e h
          refine v1_callV [_] 98 dX2_ofTwoSums_98 ck_X2_66 (gF_l hG23 k27r.2) ⟨by decide, rfl⟩ (t_X1_addWord hG23 k27r.2 hr30) (by omega) ⟨Nat.le_of_ble_eq_true rfl, Nat.le_of_ble_eq_true rfl⟩ rfl (Nat.le_of_ble_eq_true rfl) ?_
          have hG29 := gp_X1_addWord hG23 k27r.2 hr30
          refine vv_iload_n 101 3 dX2_ofTwoSums_101 rfl rfl ?_
          obtain ⟨e1, e2⟩ := sh_some2 h
          refine vv_zret 102 dX2_ofTwoSums_102 rfl rfl (Nat.le_refl _) (Nat.le_refl _) ⟨by rw [e1], e2⟩
        · rw [if_neg c26] at h
          refine vv_aload_n 65 0 dX2_ofTwoSums_65 rfl rfl ?_
          refine vv_iload_n 66 1 dX2_ofTwoSums_66 rfl rfl ?_
          refine vv_iconst 67 dX2_ofTwoSums_67 ik_1 ?_
          refine vv_iadd 68 dX2_ofTwoSums_68 ?_
          obtain ⟨y34, μ32, hr33, h⟩ := sh_bind_e h
          refine v1_callV [_] 69 dX2_ofTwoSums_69 ck_X2_54 (g_l_6 hG23) ⟨by decide, rfl⟩ (h_X2_sum hG23 hr33) (Nat.le_refl _) ⟨Nat.le_of_ble_eq_true rfl, Nat.le_of_ble_eq_true rfl⟩ rfl (Nat.le_of_ble_eq_true rfl) ?_
          have hG32 := grec hG23 hr33
          refine vv_if_eq 72 91 dX2_ofTwoSums_72 (by decide) (fun c35 => ?_) (fun c35 => ?_)
          · rw [if_pos c35] at h
            refine vv_iconst 91 dX2_ofTwoSums_91 ik_0 ?_
            refine vv_istore_n (lv' := [(3, _), (0, _), (1, _), (2, _)]) 92 3 dX2_ofTwoSums_92 rfl (by decide) rfl ?_
            refine vv_aload_n 93 0 dX2_ofTwoSums_93 rfl rfl ?_
            obtain ⟨k36, h⟩ := sh_chk h
            refine vv_getR 94 dX2_ofTwoSums_94 fl_2_15 rfl (g_l_6 hG32) k36.1 ?_
            refine vv_topr (fun r37 er37 => ?_)
            rw [sh_let_eq er37] at h
            have k36r : sh_r μ32 6 1 = some r37 ∧ r37 ∈ sh_FORMS := by rw [er37]; exact k36
            refine vv_iload_n 97 2 dX2_ofTwoSums_97 rfl rfl ?_
            obtain ⟨μ38, hr39, h⟩ := sh_bindv_e h
            refine v1_callV [_] 98 dX2_ofTwoSums_98 ck_X2_66 (gF_l hG32 k36r.2) ⟨by decide, rfl⟩ (t_X1_addWord hG32 k36r.2 hr39) (by omega) ⟨Nat.le_of_ble_eq_true rfl, Nat.le_of_ble_eq_true rfl⟩ rfl (Nat.le_of_ble_eq_true rfl) ?_
            have hG38 := gp_X1_addWord hG32 k36r.2 hr39
            refine vv_iload_n 101 3 dX2_ofTwoSums_101 rfl rfl ?_
            obtain ⟨e1, e2⟩ := sh_some2 h
            refine vv_zret 102 dX2_ofTwoSums_102 rfl rfl (Nat.le_refl _) (Nat.le_refl _) ⟨by rw [e1], e2⟩
          · rw [if_neg c35] at h
            refine vv_aload_n 75 0 dX2_ofTwoSums_75 rfl rfl ?_
            refine vv_getR 76 dX2_ofTwoSums_76 fl_2_9 rfl (g_l_6 hG32) (g_r_6_0 hG32) ?_
            refine vv_bipush 79 dX2_ofTwoSums_79 bk_41 ?_
            obtain ⟨y43, μ41, hr42, h⟩ := sh_bind_e h
            refine v1_callV [_] 81 dX2_ofTwoSums_81 ck_X2_57 (g_l_2 hG32) ⟨by decide, rfl⟩ (t_X8_takesMark hG32 hr42) (by omega) ⟨Nat.le_of_ble_eq_true rfl, Nat.le_of_ble_eq_true rfl⟩ rfl (Nat.le_of_ble_eq_true rfl) ?_
            have hG41 := gp_X8_takesMark hG32 hr42
            refine vv_if_eq 84 91 dX2_ofTwoSums_84 (by decide) (fun c44 => ?_) (fun c44 => ?_)
            · rw [if_pos c44] at h
              refine vv_iconst 91 dX2_ofTwoSums_91 ik_0 ?_
              refine vv_istore_n (lv' := [(3, _), (0, _), (1, _), (2, _)]) 92 3 dX2_ofTwoSums_92 rfl (by decide) rfl ?_
              refine vv_aload_n 93 0 dX2_ofTwoSums_93 rfl rfl ?_
              obtain ⟨k45, h⟩ := sh_chk h
              refine vv_getR 94 dX2_ofTwoSums_94 fl_2_15 rfl (g_l_6 hG41) k45.1 ?_
              refine vv_topr (fun r46 er46 => ?_)
              rw [sh_let_eq er46] at h
              have k45r : sh_r μ41 6 1 = some r46 ∧ r46 ∈ sh_FORMS := by rw [er46]; exact k45
              refine vv_iload_n 97 2 dX2_ofTwoSums_97 rfl rfl ?_
              obtain ⟨μ47, hr48, h⟩ := sh_bindv_e h
              refine v1_callV [_] 98 dX2_ofTwoSums_98 ck_X2_66 (gF_l hG41 k45r.2) ⟨by decide, rfl⟩ (t_X1_addWord hG41 k45r.2 hr48) (by omega) ⟨Nat.le_of_ble_eq_true rfl, Nat.le_of_ble_eq_true rfl⟩ rfl (Nat.le_of_ble_eq_true rfl) ?_
              have hG47 := gp_X1_addWord hG41 k45r.2 hr48
              refine vv_iload_n 101 3 dX2_ofTwoSums_101 rfl rfl ?_
              obtain ⟨e1, e2⟩ := sh_some2 h
              refine vv_zret 102 dX2_ofTwoSums_102 rfl rfl (Nat.le_refl _) (Nat.le_refl _) ⟨by rw [e1], e2⟩
            · rw [if_neg c44] at h
              refine vv_iconst 87 dX2_ofTwoSums_87 ik_1 ?_
              refine vv_goto 88 92 dX2_ofTwoSums_88 (by decide) ?_
              refine vv_istore_n (lv' := [(3, _), (0, _), (1, _), (2, _)]) 92 3 dX2_ofTwoSums_92 rfl (by decide) rfl ?_
              refine vv_aload_n 93 0 dX2_ofTwoSums_93 rfl rfl ?_
              obtain ⟨k50, h⟩ := sh_chk h
              refine vv_getR 94 dX2_ofTwoSums_94 fl_2_15 rfl (g_l_6 hG41) k50.1 ?_
              refine vv_topr (fun r51 er51 => ?_)
              rw [sh_let_eq er51] at h
              have k50r : sh_r μ41 6 1 = some r51 ∧ r51 ∈ sh_FORMS := by rw [er51]; exact k50
              refine vv_iload_n 97 2 dX2_ofTwoSums_97 rfl rfl ?_
              obtain ⟨μ52, hr53, h⟩ := sh_bindv_e h
              refine v1_callV [_] 98 dX2_ofTwoSums_98 ck_X2_66 (gF_l hG41 k50r.2) ⟨by decide, rfl⟩ (t_X1_addWord hG41 k50r.2 hr53) (by omega) ⟨Nat.le_of_ble_eq_true rfl, Nat.le_of_ble_eq_true rfl⟩ rfl (Nat.le_of_ble_eq_true rfl) ?_
              have hG52 := gp_X1_addWord hG41 k50r.2 hr53
              refine vv_iload_n 101 3 dX2_ofTwoSums_101 rfl rfl ?_
              obtain ⟨e1, e2⟩ := sh_some2 h
              refine vv_zret 102 dX2_ofTwoSums_102 rfl rfl (Nat.le_refl _) (Nat.le_refl _) ⟨by rw [e1], e2⟩
  · rw [if_neg c4] at h
    refine vv_aload_n 19 0 dX2_ofTwoSums_19 rfl rfl ?_
    refine vv_getR 20 dX2_ofTwoSums_20 fl_2_9 rfl (g_l_6 hG1) (g_r_6_0 hG1) ?_
    refine vv_iconst 23 dX2_ofTwoSums_23 ik_1 ?_
    refine vv_aload_n 24 0 dX2_ofTwoSums_24 rfl rfl ?_
    refine vv_getR 25 dX2_ofTwoSums_25 fl_2_9 rfl (g_l_6 hG1) (g_r_6_0 hG1) ?_
    refine vv_getI 28 dX2_ofTwoSums_28 fl_2_36 rfl (g_l_2 hG1) ?_
    obtain ⟨y57, μ55, hr56, h⟩ := sh_bind_e h
    refine v1_callV [_, _] 31 dX2_ofTwoSums_31 ck_X2_39 (g_l_2 hG1) ⟨by decide, rfl⟩ (t_X8_fails hG1 hr56) (by omega) ⟨Nat.le_of_ble_eq_true rfl, Nat.le_of_ble_eq_true rfl⟩ rfl (Nat.le_of_ble_eq_true rfl) ?_
    have hG55 := gp_X8_fails hG1 hr56
    obtain ⟨k58, h⟩ := sh_chk h
    obtain ⟨e1, e2⟩ := sh_some2 h
    refine vv_zret 34 dX2_ofTwoSums_34 rfl (sh_nb k58) (Nat.le_refl _) (Nat.le_refl _) ⟨by rw [e1], e2⟩
noncomputable def G_X2 : Nat → Nat → Int32 → Int32 → Int32 → sh_Mem → Option (Int32 × sh_Mem)
  | 0, _, _, _, _, _ => none
  | dd + 1, k, b1, b2, b3, μ => match k with
    | 0 => f_X2_test (G_X2 dd) b1 μ
    | 1 => f_X2_both (G_X2 dd) b1 μ
    | 2 => f_X2_fact (G_X2 dd) b1 μ
    | 3 => f_X2_sum (G_X2 dd) b1 μ
    | 4 => f_X2_product (G_X2 dd) b1 μ
    | 5 => f_X2_part (G_X2 dd) b1 μ
    | 6 => f_X2_ofTwoSums (G_X2 dd) b1 b2 μ
    | _ => none
theorem Gg_X2 (dd : Nat) : ∀ ⦃k : Nat⦄ ⦃b1 b2 b3 : Int32⦄ ⦃μ μ' : sh_Mem⦄ ⦃v : Int32⦄, sh_G μ → G_X2 dd k b1 b2 b3 μ = some (v, μ') → sh_G μ' := by
  induction dd with
  | zero => intro k b1 b2 b3 μ μ' v hG h; cases h
  | succ dd ih =>
    intro k b1 b2 b3 μ μ' v hG h
    match k, h with
    | 0, h => exact gp_X2_test ih hG h
    | 1, h => exact gp_X2_both ih hG h
    | 2, h => exact gp_X2_fact ih hG h
    | 3, h => exact gp_X2_sum ih hG h
    | 4, h => exact gp_X2_product ih hG h
    | 5, h => exact gp_X2_part ih hG h
    | 6, h => exact gp_X2_ofTwoSums ih hG h
    | n + 7, h => cases h
theorem Gt_X2 (dd : Nat) : (∀ ⦃b1 : Int32⦄ ⦃μ μ' : sh_Mem⦄ ⦃v : Int32⦄, sh_G μ → G_X2 dd 0 b1 0 0 μ = some (v, μ') → sh_C0 l B D ca (8 + dd) M_X2_test [.ref 6, .int b1] μ (fun v0 μ0 => v0 = some (.int v) ∧ μ0 = μ')) ∧ (∀ ⦃b1 : Int32⦄ ⦃μ μ' : sh_Mem⦄ ⦃v : Int32⦄, sh_G μ → G_X2 dd 1 b1 0 0 μ = some (v, μ') → sh_C0 l B D ca (8 + dd) M_X2_both [.ref 6, .int b1] μ (fun v0 μ0 => v0 = some (.int v) ∧ μ0 = μ')) ∧ (∀ ⦃b1 : Int32⦄ ⦃μ μ' : sh_Mem⦄ ⦃v : Int32⦄, sh_G μ → G_X2 dd 2 b1 0 0 μ = some (v, μ') → sh_C0 l B D ca (8 + dd) M_X2_fact [.ref 6, .int b1] μ (fun v0 μ0 => v0 = some (.int v) ∧ μ0 = μ')) ∧ (∀ ⦃b1 : Int32⦄ ⦃μ μ' : sh_Mem⦄ ⦃v : Int32⦄, sh_G μ → G_X2 dd 3 b1 0 0 μ = some (v, μ') → sh_C0 l B D ca (8 + dd) M_X2_sum [.ref 6, .int b1] μ (fun v0 μ0 => v0 = some (.int v) ∧ μ0 = μ')) ∧ (∀ ⦃b1 : Int32⦄ ⦃μ μ' : sh_Mem⦄ ⦃v : Int32⦄, sh_G μ → G_X2 dd 4 b1 0 0 μ = some (v, μ') → sh_C0 l B D ca (8 + dd) M_X2_product [.ref 6, .int b1] μ (fun v0 μ0 => v0 = some (.int v) ∧ μ0 = μ')) ∧ (∀ ⦃b1 : Int32⦄ ⦃μ μ' : sh_Mem⦄ ⦃v : Int32⦄, sh_G μ → G_X2 dd 5 b1 0 0 μ = some (v, μ') → sh_C0 l B D ca (8 + dd) M_X2_part [.ref 6, .int b1] μ (fun v0 μ0 => v0 = some (.int v) ∧ μ0 = μ')) ∧ (∀ ⦃b1 b2 : Int32⦄ ⦃μ μ' : sh_Mem⦄ ⦃v : Int32⦄, sh_G μ → G_X2 dd 6 b1 b2 0 μ = some (v, μ') → sh_C0 l B D ca (8 + dd) M_X2_ofTwoSums [.ref 6, .int b1, .int b2] μ (fun v0 μ0 => v0 = some (.int v) ∧ μ0 = μ')) := by
  induction dd with
  | zero => exact ⟨(by intro b1 μ μ' v hG h; cases h), (by intro b1 μ μ' v hG h; cases h), (by intro b1 μ μ' v hG h; cases h), (by intro b1 μ μ' v hG h; cases h), (by intro b1 μ μ' v hG h; cases h), (by intro b1 μ μ' v hG h; cases h), (by intro b1 b2 μ μ' v hG h; cases h)⟩
  | succ dd ih =>
    obtain ⟨h_X2_test, h_X2_both, h_X2_fact, h_X2_sum, h_X2_product, h_X2_part, h_X2_ofTwoSums⟩ := ih
    have hd : 8 ≤ 8 + dd := Nat.le_add_right _ _
    exact ⟨(by intro b1 μ μ' v hG h; exact t_X2_test (Gg_X2 dd) hd h_X2_test h_X2_both h_X2_fact h_X2_sum h_X2_product h_X2_part h_X2_ofTwoSums hG h), (by intro b1 μ μ' v hG h; exact t_X2_both (Gg_X2 dd) hd h_X2_test h_X2_both h_X2_fact h_X2_sum h_X2_product h_X2_part h_X2_ofTwoSums hG h), (by intro b1 μ μ' v hG h; exact t_X2_fact (Gg_X2 dd) hd h_X2_test h_X2_both h_X2_fact h_X2_sum h_X2_product h_X2_part h_X2_ofTwoSums hG h), (by intro b1 μ μ' v hG h; exact t_X2_sum (Gg_X2 dd) hd h_X2_test h_X2_both h_X2_fact h_X2_sum h_X2_product h_X2_part h_X2_ofTwoSums hG h), (by intro b1 μ μ' v hG h; exact t_X2_product (Gg_X2 dd) hd h_X2_test h_X2_both h_X2_fact h_X2_sum h_X2_product h_X2_part h_X2_ofTwoSums hG h), (by intro b1 μ μ' v hG h; exact t_X2_part (Gg_X2 dd) hd h_X2_test h_X2_both h_X2_fact h_X2_sum h_X2_product h_X2_part h_X2_ofTwoSums hG h), (by intro b1 b2 μ μ' v hG h; exact t_X2_ofTwoSums (Gg_X2 dd) hd h_X2_test h_X2_both h_X2_fact h_X2_sum h_X2_product h_X2_part h_X2_ofTwoSums hG h)⟩
noncomputable def f_X2_test_top (b1 : Int32) (μ : sh_Mem) : Option (Int32 × sh_Mem) := G_X2 64 0 b1 0 0 μ
theorem gp_X2_test_top {b1 : Int32} {μ μ' : sh_Mem} {v : Int32} (hG : sh_G μ) (h : f_X2_test_top b1 μ = some (v, μ')) : sh_G μ' := Gg_X2 64 hG h
theorem t_X2_test_top {b1 : Int32} {μ μ' : sh_Mem} {v : Int32} (hG : sh_G μ) (h : f_X2_test_top b1 μ = some (v, μ')) : sh_C0 l B D ca 72 M_X2_test [.ref 6, .int b1] μ (fun v0 μ0 => v0 = some (.int v) ∧ μ0 = μ') := (Gt_X2 64).1 hG h
noncomputable def f_X2_both_top (b1 : Int32) (μ : sh_Mem) : Option (Int32 × sh_Mem) := G_X2 64 1 b1 0 0 μ
theorem gp_X2_both_top {b1 : Int32} {μ μ' : sh_Mem} {v : Int32} (hG : sh_G μ) (h : f_X2_both_top b1 μ = some (v, μ')) : sh_G μ' := Gg_X2 64 hG h
theorem t_X2_both_top {b1 : Int32} {μ μ' : sh_Mem} {v : Int32} (hG : sh_G μ) (h : f_X2_both_top b1 μ = some (v, μ')) : sh_C0 l B D ca 72 M_X2_both [.ref 6, .int b1] μ (fun v0 μ0 => v0 = some (.int v) ∧ μ0 = μ') := (Gt_X2 64).2.1 hG h
noncomputable def f_X2_fact_top (b1 : Int32) (μ : sh_Mem) : Option (Int32 × sh_Mem) := G_X2 64 2 b1 0 0 μ
theorem gp_X2_fact_top {b1 : Int32} {μ μ' : sh_Mem} {v : Int32} (hG : sh_G μ) (h : f_X2_fact_top b1 μ = some (v, μ')) : sh_G μ' := Gg_X2 64 hG h
theorem t_X2_fact_top {b1 : Int32} {μ μ' : sh_Mem} {v : Int32} (hG : sh_G μ) (h : f_X2_fact_top b1 μ = some (v, μ')) : sh_C0 l B D ca 72 M_X2_fact [.ref 6, .int b1] μ (fun v0 μ0 => v0 = some (.int v) ∧ μ0 = μ') := (Gt_X2 64).2.2.1 hG h
noncomputable def f_X2_sum_top (b1 : Int32) (μ : sh_Mem) : Option (Int32 × sh_Mem) := G_X2 64 3 b1 0 0 μ
theorem gp_X2_sum_top {b1 : Int32} {μ μ' : sh_Mem} {v : Int32} (hG : sh_G μ) (h : f_X2_sum_top b1 μ = some (v, μ')) : sh_G μ' := Gg_X2 64 hG h
theorem t_X2_sum_top {b1 : Int32} {μ μ' : sh_Mem} {v : Int32} (hG : sh_G μ) (h : f_X2_sum_top b1 μ = some (v, μ')) : sh_C0 l B D ca 72 M_X2_sum [.ref 6, .int b1] μ (fun v0 μ0 => v0 = some (.int v) ∧ μ0 = μ') := (Gt_X2 64).2.2.2.1 hG h
noncomputable def f_X2_product_top (b1 : Int32) (μ : sh_Mem) : Option (Int32 × sh_Mem) := G_X2 64 4 b1 0 0 μ
theorem gp_X2_product_top {b1 : Int32} {μ μ' : sh_Mem} {v : Int32} (hG : sh_G μ) (h : f_X2_product_top b1 μ = some (v, μ')) : sh_G μ' := Gg_X2 64 hG h
theorem t_X2_product_top {b1 : Int32} {μ μ' : sh_Mem} {v : Int32} (hG : sh_G μ) (h : f_X2_product_top b1 μ = some (v, μ')) : sh_C0 l B D ca 72 M_X2_product [.ref 6, .int b1] μ (fun v0 μ0 => v0 = some (.int v) ∧ μ0 = μ') := (Gt_X2 64).2.2.2.2.1 hG h
noncomputable def f_X2_part_top (b1 : Int32) (μ : sh_Mem) : Option (Int32 × sh_Mem) := G_X2 64 5 b1 0 0 μ
theorem gp_X2_part_top {b1 : Int32} {μ μ' : sh_Mem} {v : Int32} (hG : sh_G μ) (h : f_X2_part_top b1 μ = some (v, μ')) : sh_G μ' := Gg_X2 64 hG h
theorem t_X2_part_top {b1 : Int32} {μ μ' : sh_Mem} {v : Int32} (hG : sh_G μ) (h : f_X2_part_top b1 μ = some (v, μ')) : sh_C0 l B D ca 72 M_X2_part [.ref 6, .int b1] μ (fun v0 μ0 => v0 = some (.int v) ∧ μ0 = μ') := (Gt_X2 64).2.2.2.2.2.1 hG h
noncomputable def f_X2_ofTwoSums_top (b1 : Int32) (b2 : Int32) (μ : sh_Mem) : Option (Int32 × sh_Mem) := G_X2 64 6 b1 b2 0 μ
theorem gp_X2_ofTwoSums_top {b1 : Int32} {b2 : Int32} {μ μ' : sh_Mem} {v : Int32} (hG : sh_G μ) (h : f_X2_ofTwoSums_top b1 b2 μ = some (v, μ')) : sh_G μ' := Gg_X2 64 hG h
theorem t_X2_ofTwoSums_top {b1 : Int32} {b2 : Int32} {μ μ' : sh_Mem} {v : Int32} (hG : sh_G μ) (h : f_X2_ofTwoSums_top b1 b2 μ = some (v, μ')) : sh_C0 l B D ca 72 M_X2_ofTwoSums [.ref 6, .int b1, .int b2] μ (fun v0 μ0 => v0 = some (.int v) ∧ μ0 = μ') := (Gt_X2 64).2.2.2.2.2.2 hG h
noncomputable def f_X2_readQuestion (f1 : Nat) (μ : sh_Mem) : Option (Int32 × sh_Mem) := (if (sh_i μ 2 3) = (-2) then sh_let ((sh_i μ 2 6) : Int32) (fun x5 => (if x5 < 27 then sh_bind (f_X8_fails 1 (sh_i μ 2 4) μ) (fun y9 μ7 => some ((-1), μ7)) else (if x5 ≤ 32 then sh_bindv (f_X8_advance μ) (fun μ11 => sh_bindv (f_X2_begin f1 2 μ11) (fun μ14 => (if 29 < x5 then sh_bind (f_X2_sum_top 0 μ14) (fun y20 μ18 => (if y20 = 0 then some ((-1), μ18) else sh_bind (f_X8_takesMark (-1) μ18) (fun y24 μ22 => (if y24 = 0 then some ((-1), μ22) else some (x5, μ22))))) else sh_bind (f_X2_test_top 0 μ14) (fun y28 μ26 => (if y28 = 0 then some ((-1), μ26) else sh_bind (f_X8_takesMark (-1) μ26) (fun y32 μ30 => (if y32 = 0 then some ((-1), μ30) else some (x5, μ30)))))))) else sh_bind (f_X8_fails 1 (sh_i μ 2 4) μ) (fun y36 μ34 => some ((-1), μ34))))) else sh_bind (f_X8_fails 1 (sh_i μ 2 4) μ) (fun y4 μ2 => some ((-1), μ2)))
theorem gp_X2_readQuestion {f1 : Nat} {μ μ' : sh_Mem} {v : Int32} (hG : sh_G μ) (hf1 : sh_isF f1) (h : f_X2_readQuestion f1 μ = some (v, μ')) : sh_G μ' := by
  unfold f_X2_readQuestion at h
  by_cases c1 : (sh_i μ 2 3) = (-2)
  · rw [if_pos c1] at h
    obtain ⟨x5, ex5⟩ : ∃ y : Int32, y = (sh_i μ 2 6) := ⟨_, rfl⟩
    rw [sh_let_eq ex5] at h
    by_cases c6 : x5 < 27
    · rw [if_pos c6] at h
      obtain ⟨y9, μ7, hr8, h⟩ := sh_bind_e h
      have hG7 := gp_X8_fails hG hr8
      obtain ⟨e1, e2⟩ := sh_some2 h
      exact e2 ▸ hG7
    · rw [if_neg c6] at h
      by_cases c10 : x5 ≤ 32
      · rw [if_pos c10] at h
        obtain ⟨μ11, hr12, h⟩ := sh_bindv_e h
        have hG11 := gp_X8_advance hG hr12
        obtain ⟨μ14, hr15, h⟩ := sh_bindv_e h
        have hG14 := gp_X2_begin hG11 hf1 hr15
        by_cases c17 : 29 < x5
        · rw [if_pos c17] at h
          obtain ⟨y20, μ18, hr19, h⟩ := sh_bind_e h
          have hG18 := gp_X2_sum_top hG14 hr19
          by_cases c21 : y20 = 0
          · rw [if_pos c21] at h
            obtain ⟨e1, e2⟩ := sh_some2 h
            exact e2 ▸ hG18
          · rw [if_neg c21] at h
            obtain ⟨y24, μ22, hr23, h⟩ := sh_bind_e h
            have hG22 := gp_X8_takesMark hG18 hr23
            by_cases c25 : y24 = 0
            · rw [if_pos c25] at h
              obtain ⟨e1, e2⟩ := sh_some2 h
              exact e2 ▸ hG22
            · rw [if_neg c25] at h
              obtain ⟨e1, e2⟩ := sh_some2 h
              exact e2 ▸ hG22
        · rw [if_neg c17] at h
          obtain ⟨y28, μ26, hr27, h⟩ := sh_bind_e h
          have hG26 := gp_X2_test_top hG14 hr27
          by_cases c29 : y28 = 0
          · rw [if_pos c29] at h
            obtain ⟨e1, e2⟩ := sh_some2 h
            exact e2 ▸ hG26
          · rw [if_neg c29] at h
            obtain ⟨y32, μ30, hr31, h⟩ := sh_bind_e h
            have hG30 := gp_X8_takesMark hG26 hr31
            by_cases c33 : y32 = 0
            · rw [if_pos c33] at h
              obtain ⟨e1, e2⟩ := sh_some2 h
              exact e2 ▸ hG30
            · rw [if_neg c33] at h
              obtain ⟨e1, e2⟩ := sh_some2 h
              exact e2 ▸ hG30
      · rw [if_neg c10] at h
        obtain ⟨y36, μ34, hr35, h⟩ := sh_bind_e h
        have hG34 := gp_X8_fails hG hr35
        obtain ⟨e1, e2⟩ := sh_some2 h
        exact e2 ▸ hG34
  · rw [if_neg c1] at h
    obtain ⟨y4, μ2, hr3, h⟩ := sh_bind_e h
    have hG2 := gp_X8_fails hG hr3
    obtain ⟨e1, e2⟩ := sh_some2 h
    exact e2 ▸ hG2
theorem t_X2_readQuestion {f1 : Nat} {μ μ' : sh_Mem} {v : Int32} (hG : sh_G μ) (hf1 : sh_isF f1) (h : f_X2_readQuestion f1 μ = some (v, μ')) : sh_C0 l B D ca 73 M_X2_readQuestion [.ref 6, .ref f1] μ (fun v0 μ0 => v0 = some (.int v) ∧ μ0 = μ') := by
  unfold f_X2_readQuestion at h
  refine vv_aload_n 0 0 dX2_readQuestion_0 rfl rfl ?_
  refine vv_getR 1 dX2_readQuestion_1 fl_2_9 rfl (g_l_6 hG) (g_r_6_0 hG) ?_
  refine vv_getI 4 dX2_readQuestion_4 fl_2_28 rfl (g_l_2 hG) ?_
  refine vv_bipush 7 dX2_readQuestion_7 bk_m2 ?_
  refine vv_icmp_ne 9 22 dX2_readQuestion_9 (by decide) (fun c1 => ?_) (fun c1 => ?_)
  · rw [if_neg c1] at h
    refine vv_iconst 22 dX2_readQuestion_22 ik_m1 ?_
    refine vv_istore_n (lv' := [(2, _), (0, _), (1, _)]) 23 2 dX2_readQuestion_23 rfl (by decide) rfl ?_
    refine vv_iload_n 24 2 dX2_readQuestion_24 rfl rfl ?_
    refine vv_bipush 25 dX2_readQuestion_25 bk_27 ?_
    refine vv_icmp_lt 27 36 dX2_readQuestion_27 (by decide) (fun _ => ?_) (fun hc => absurd (by decide) hc)
    refine vv_aload_n 36 0 dX2_readQuestion_36 rfl rfl ?_
    refine vv_getR 37 dX2_readQuestion_37 fl_2_9 rfl (g_l_6 hG) (g_r_6_0 hG) ?_
    refine vv_iconst 40 dX2_readQuestion_40 ik_1 ?_
    refine vv_aload_n 41 0 dX2_readQuestion_41 rfl rfl ?_
    refine vv_getR 42 dX2_readQuestion_42 fl_2_9 rfl (g_l_6 hG) (g_r_6_0 hG) ?_
    refine vv_getI 45 dX2_readQuestion_45 fl_2_36 rfl (g_l_2 hG) ?_
    obtain ⟨y4, μ2, hr3, h⟩ := sh_bind_e h
    refine v1_callV [_, _] 48 dX2_readQuestion_48 ck_X2_39 (g_l_2 hG) ⟨by decide, rfl⟩ (t_X8_fails hG hr3) (Nat.le_of_ble_eq_true rfl) ⟨Nat.le_of_ble_eq_true rfl, Nat.le_of_ble_eq_true rfl⟩ rfl (Nat.le_of_ble_eq_true rfl) ?_
    have hG2 := gp_X8_fails hG hr3
    refine vv_pop 51 dX2_readQuestion_51 ?_
    refine vv_iconst 52 dX2_readQuestion_52 ik_m1 ?_
    obtain ⟨e1, e2⟩ := sh_some2 h
    refine vv_iret 53 dX2_readQuestion_53 rfl (Nat.le_refl _) (Nat.le_refl _) ⟨by rw [e1], e2⟩
  · rw [if_pos c1] at h
    refine vv_aload_n 12 0 dX2_readQuestion_12 rfl rfl ?_
    refine vv_getR 13 dX2_readQuestion_13 fl_2_9 rfl (g_l_6 hG) (g_r_6_0 hG) ?_
    refine vv_getI 16 dX2_readQuestion_16 fl_2_33 rfl (g_l_2 hG) ?_
    refine vv_goto 19 23 dX2_readQuestion_19 (by decide) ?_
    refine vv_topi (fun x5 ex5 => ?_)
    rw [sh_let_eq ex5] at h
    refine vv_istore_n (lv' := [(2, _), (0, _), (1, _)]) 23 2 dX2_readQuestion_23 rfl (by decide) rfl ?_
    refine vv_iload_n 24 2 dX2_readQuestion_24 rfl rfl ?_
    refine vv_bipush 25 dX2_readQuestion_25 bk_27 ?_
    refine vv_icmp_lt 27 36 dX2_readQuestion_27 (by decide) (fun c6 => ?_) (fun c6 => ?_)
    · rw [if_pos c6] at h
      refine vv_aload_n 36 0 dX2_readQuestion_36 rfl rfl ?_
      refine vv_getR 37 dX2_readQuestion_37 fl_2_9 rfl (g_l_6 hG) (g_r_6_0 hG) ?_
      refine vv_iconst 40 dX2_readQuestion_40 ik_1 ?_
      refine vv_aload_n 41 0 dX2_readQuestion_41 rfl rfl ?_
      refine vv_getR 42 dX2_readQuestion_42 fl_2_9 rfl (g_l_6 hG) (g_r_6_0 hG) ?_
      refine vv_getI 45 dX2_readQuestion_45 fl_2_36 rfl (g_l_2 hG) ?_
      obtain ⟨y9, μ7, hr8, h⟩ := sh_bind_e h
      refine v1_callV [_, _] 48 dX2_readQuestion_48 ck_X2_39 (g_l_2 hG) ⟨by decide, rfl⟩ (t_X8_fails hG hr8) (Nat.le_of_ble_eq_true rfl) ⟨Nat.le_of_ble_eq_true rfl, Nat.le_of_ble_eq_true rfl⟩ rfl (Nat.le_of_ble_eq_true rfl) ?_
      have hG7 := gp_X8_fails hG hr8
      refine vv_pop 51 dX2_readQuestion_51 ?_
      refine vv_iconst 52 dX2_readQuestion_52 ik_m1 ?_
      obtain ⟨e1, e2⟩ := sh_some2 h
      refine vv_iret 53 dX2_readQuestion_53 rfl (Nat.le_refl _) (Nat.le_refl _) ⟨by rw [e1], e2⟩
    · rw [if_neg c6] at h
      refine vv_iload_n 30 2 dX2_readQuestion_30 rfl rfl ?_
      refine vv_bipush 31 dX2_readQuestion_31 bk_32 ?_
      refine vv_icmp_le 33 54 dX2_readQuestion_33 (by decide) (fun c10 => ?_) (fun c10 => ?_)
      · rw [if_pos c10] at h
        refine vv_aload_n 54 0 dX2_readQuestion_54 rfl rfl ?_
        refine vv_getR 55 dX2_readQuestion_55 fl_2_9 rfl (g_l_6 hG) (g_r_6_0 hG) ?_
        obtain ⟨μ11, hr12, h⟩ := sh_bindv_e h
        refine v1_callV [] 58 dX2_readQuestion_58 ck_X2_43 (g_l_2 hG) ⟨by decide, rfl⟩ (t_X8_advance hG hr12) (Nat.le_of_ble_eq_true rfl) ⟨Nat.le_of_ble_eq_true rfl, Nat.le_of_ble_eq_true rfl⟩ rfl (Nat.le_of_ble_eq_true rfl) ?_
        have hG11 := gp_X8_advance hG hr12
        refine vv_aload_n 61 0 dX2_readQuestion_61 rfl rfl ?_
        refine vv_aload_n 62 1 dX2_readQuestion_62 rfl rfl ?_
        refine vv_iconst 63 dX2_readQuestion_63 ik_2 ?_
        obtain ⟨μ14, hr15, h⟩ := sh_bindv_e h
        refine v1_callV [_, _] 64 dX2_readQuestion_64 ck_X2_46 (g_l_6 hG11) ⟨by decide, rfl⟩ (t_X2_begin hG11 hf1 hr15) (Nat.le_of_ble_eq_true rfl) ⟨Nat.le_of_ble_eq_true rfl, Nat.le_of_ble_eq_true rfl⟩ rfl (Nat.le_of_ble_eq_true rfl) ?_
        have hG14 := gp_X2_begin hG11 hf1 hr15
        refine vv_iload_n 67 2 dX2_readQuestion_67 rfl rfl ?_
        refine vv_bipush 68 dX2_readQuestion_68 bk_29 ?_
        refine vv_icmp_gt 70 81 dX2_readQuestion_70 (by decide) (fun c17 => ?_) (fun c17 => ?_)
        · rw [if_pos c17] at h
          refine vv_aload_n 81 0 dX2_readQuestion_81 rfl rfl ?_
          refine vv_iconst 82 dX2_readQuestion_82 ik_0 ?_
          obtain ⟨y20, μ18, hr19, h⟩ := sh_bind_e h
          refine v1_callV [_] 83 dX2_readQuestion_83 ck_X2_54 (g_l_6 hG14) ⟨by decide, rfl⟩ (t_X2_sum_top hG14 hr19) (Nat.le_of_ble_eq_true rfl) ⟨Nat.le_of_ble_eq_true rfl, Nat.le_of_ble_eq_true rfl⟩ rfl (Nat.le_of_ble_eq_true rfl) ?_
          have hG18 := gp_X2_sum_top hG14 hr19
          refine vv_istore_n (lv' := [(3, _), (2, _), (0, _), (1, _)]) 86 3 dX2_readQuestion_86 rfl (by decide) rfl ?_
          refine vv_iload_n 87 3 dX2_readQuestion_87 rfl rfl ?_
          refine vv_if_eq 88 106 dX2_readQuestion_88 (by decide) (fun c21 => ?_) (fun c21 => ?_)
          · rw [if_pos c21] at h
            refine vv_iconst 106 dX2_readQuestion_106 ik_m1 ?_
            obtain ⟨e1, e2⟩ := sh_some2 h
            refine vv_iret 107 dX2_readQuestion_107 rfl (Nat.le_refl _) (Nat.le_refl _) ⟨by rw [e1], e2⟩
          · rw [if_neg c21] at h
            refine vv_aload_n 91 0 dX2_readQuestion_91 rfl rfl ?_
            refine vv_getR 92 dX2_readQuestion_92 fl_2_9 rfl (g_l_6 hG18) (g_r_6_0 hG18) ?_
            refine vv_iconst 95 dX2_readQuestion_95 ik_m1 ?_
            obtain ⟨y24, μ22, hr23, h⟩ := sh_bind_e h
            refine v1_callV [_] 96 dX2_readQuestion_96 ck_X2_57 (g_l_2 hG18) ⟨by decide, rfl⟩ (t_X8_takesMark hG18 hr23) (Nat.le_of_ble_eq_true rfl) ⟨Nat.le_of_ble_eq_true rfl, Nat.le_of_ble_eq_true rfl⟩ rfl (Nat.le_of_ble_eq_true rfl) ?_
            have hG22 := gp_X8_takesMark hG18 hr23
            refine vv_if_eq 99 106 dX2_readQuestion_99 (by decide) (fun c25 => ?_) (fun c25 => ?_)
            · rw [if_pos c25] at h
              refine vv_iconst 106 dX2_readQuestion_106 ik_m1 ?_
              obtain ⟨e1, e2⟩ := sh_some2 h
              refine vv_iret 107 dX2_readQuestion_107 rfl (Nat.le_refl _) (Nat.le_refl _) ⟨by rw [e1], e2⟩
            · rw [if_neg c25] at h
              refine vv_iload_n 102 2 dX2_readQuestion_102 rfl rfl ?_
              refine vv_goto 103 107 dX2_readQuestion_103 (by decide) ?_
              obtain ⟨e1, e2⟩ := sh_some2 h
              refine vv_iret 107 dX2_readQuestion_107 rfl (Nat.le_refl _) (Nat.le_refl _) ⟨by rw [e1], e2⟩
        · rw [if_neg c17] at h
          refine vv_aload_n 73 0 dX2_readQuestion_73 rfl rfl ?_
          refine vv_iconst 74 dX2_readQuestion_74 ik_0 ?_
          obtain ⟨y28, μ26, hr27, h⟩ := sh_bind_e h
          refine v1_callV [_] 75 dX2_readQuestion_75 ck_X2_50 (g_l_6 hG14) ⟨by decide, rfl⟩ (t_X2_test_top hG14 hr27) (Nat.le_of_ble_eq_true rfl) ⟨Nat.le_of_ble_eq_true rfl, Nat.le_of_ble_eq_true rfl⟩ rfl (Nat.le_of_ble_eq_true rfl) ?_
          have hG26 := gp_X2_test_top hG14 hr27
          refine vv_goto 78 86 dX2_readQuestion_78 (by decide) ?_
          refine vv_istore_n (lv' := [(3, _), (2, _), (0, _), (1, _)]) 86 3 dX2_readQuestion_86 rfl (by decide) rfl ?_
          refine vv_iload_n 87 3 dX2_readQuestion_87 rfl rfl ?_
          refine vv_if_eq 88 106 dX2_readQuestion_88 (by decide) (fun c29 => ?_) (fun c29 => ?_)
          · rw [if_pos c29] at h
            refine vv_iconst 106 dX2_readQuestion_106 ik_m1 ?_
            obtain ⟨e1, e2⟩ := sh_some2 h
            refine vv_iret 107 dX2_readQuestion_107 rfl (Nat.le_refl _) (Nat.le_refl _) ⟨by rw [e1], e2⟩
          · rw [if_neg c29] at h
            refine vv_aload_n 91 0 dX2_readQuestion_91 rfl rfl ?_
            refine vv_getR 92 dX2_readQuestion_92 fl_2_9 rfl (g_l_6 hG26) (g_r_6_0 hG26) ?_
            refine vv_iconst 95 dX2_readQuestion_95 ik_m1 ?_
            obtain ⟨y32, μ30, hr31, h⟩ := sh_bind_e h
            refine v1_callV [_] 96 dX2_readQuestion_96 ck_X2_57 (g_l_2 hG26) ⟨by decide, rfl⟩ (t_X8_takesMark hG26 hr31) (Nat.le_of_ble_eq_true rfl) ⟨Nat.le_of_ble_eq_true rfl, Nat.le_of_ble_eq_true rfl⟩ rfl (Nat.le_of_ble_eq_true rfl) ?_
            have hG30 := gp_X8_takesMark hG26 hr31
            refine vv_if_eq 99 106 dX2_readQuestion_99 (by decide) (fun c33 => ?_) (fun c33 => ?_)
            · rw [if_pos c33] at h
              refine vv_iconst 106 dX2_readQuestion_106 ik_m1 ?_
              obtain ⟨e1, e2⟩ := sh_some2 h
              refine vv_iret 107 dX2_readQuestion_107 rfl (Nat.le_refl _) (Nat.le_refl _) ⟨by rw [e1], e2⟩
            · rw [if_neg c33] at h
              refine vv_iload_n 102 2 dX2_readQuestion_102 rfl rfl ?_
              refine vv_goto 103 107 dX2_readQuestion_103 (by decide) ?_
              obtain ⟨e1, e2⟩ := sh_some2 h
              refine vv_iret 107 dX2_readQuestion_107 rfl (Nat.le_refl _) (Nat.le_refl _) ⟨by rw [e1], e2⟩
      · rw [if_neg c10] at h
        refine vv_aload_n 36 0 dX2_readQuestion_36 rfl rfl ?_
        refine vv_getR 37 dX2_readQuestion_37 fl_2_9 rfl (g_l_6 hG) (g_r_6_0 hG) ?_
        refine vv_iconst 40 dX2_readQuestion_40 ik_1 ?_
        refine vv_aload_n 41 0 dX2_readQuestion_41 rfl rfl ?_
        refine vv_getR 42 dX2_readQuestion_42 fl_2_9 rfl (g_l_6 hG) (g_r_6_0 hG) ?_
        refine vv_getI 45 dX2_readQuestion_45 fl_2_36 rfl (g_l_2 hG) ?_
        obtain ⟨y36, μ34, hr35, h⟩ := sh_bind_e h
        refine v1_callV [_, _] 48 dX2_readQuestion_48 ck_X2_39 (g_l_2 hG) ⟨by decide, rfl⟩ (t_X8_fails hG hr35) (Nat.le_of_ble_eq_true rfl) ⟨Nat.le_of_ble_eq_true rfl, Nat.le_of_ble_eq_true rfl⟩ rfl (Nat.le_of_ble_eq_true rfl) ?_
        have hG34 := gp_X8_fails hG hr35
        refine vv_pop 51 dX2_readQuestion_51 ?_
        refine vv_iconst 52 dX2_readQuestion_52 ik_m1 ?_
        obtain ⟨e1, e2⟩ := sh_some2 h
        refine vv_iret 53 dX2_readQuestion_53 rfl (Nat.le_refl _) (Nat.le_refl _) ⟨by rw [e1], e2⟩
noncomputable def f_X6_readStatement (μ : sh_Mem) : Option (Int32 × sh_Mem) := (if (sh_i μ 2 3) = (-2) then sh_let ((sh_i μ 2 6) : Int32) (fun x14 => sh_bind (f_X6_isOneTooMany x14 μ) (fun y17 μ15 => (if y17 = 0 then (if x14 = 2 then sh_bind (f_X6_readHigh μ15) (fun y22 μ20 => (if y22 = 0 ∨ y22 = 1 then some (y22, μ20) else none)) else (if x14 = 3 then sh_bind (f_X6_readTopic μ15) (fun y27 μ25 => (if y27 = 0 ∨ y27 = 1 then some (y27, μ25) else none)) else (if x14 = 4 then sh_bind (f_X6_readPerson μ15) (fun y32 μ30 => (if y32 = 0 ∨ y32 = 1 then some (y32, μ30) else none)) else (if x14 = 5 then sh_bind (f_X8_fails 1 (sh_i μ15 2 4) μ15) (fun y37 μ35 => (if y37 = 0 ∨ y37 = 1 then some (y37, μ35) else none)) else (if x14 = 6 then sh_bind (f_X8_fails 1 (sh_i μ15 2 4) μ15) (fun y42 μ40 => (if y42 = 0 ∨ y42 = 1 then some (y42, μ40) else none)) else (if x14 = 7 then sh_bind (f_X6_readKnows μ15) (fun y47 μ45 => (if y47 = 0 ∨ y47 = 1 then some (y47, μ45) else none)) else (if x14 = 8 then sh_bind (f_X8_fails 1 (sh_i μ15 2 4) μ15) (fun y52 μ50 => (if y52 = 0 ∨ y52 = 1 then some (y52, μ50) else none)) else (if x14 = 9 then sh_bind (f_X6_readAsks μ15) (fun y57 μ55 => (if y57 = 0 ∨ y57 = 1 then some (y57, μ55) else none)) else (if x14 = 10 then (if (sh_r μ15 7 2 = some (sh_ref μ15 7 2) ∧ ((sh_ref μ15 7 2) = 8 ∨ (sh_ref μ15 7 2) = 29)) then sh_let (sh_ref μ15 7 2) (fun r61 => sh_let (sh_setI μ15 r61 13 1) (fun μ62 => (if (sh_r μ62 7 2 = some (sh_ref μ62 7 2) ∧ ((sh_ref μ62 7 2) = 8 ∨ (sh_ref μ62 7 2) = 29)) then sh_let (sh_ref μ62 7 2) (fun r64 => sh_bindv (f_X6_beginRule (r64 + 5) 0 μ62) (fun μ65 => sh_bind (f_X2_sum_top 0 μ65) (fun y70 μ68 => (if y70 = 0 ∨ y70 = 1 then some (y70, μ68) else none)))) else none))) else none) else (if x14 = 11 then (if (sh_r μ15 7 2 = some (sh_ref μ15 7 2) ∧ ((sh_ref μ15 7 2) = 8 ∨ (sh_ref μ15 7 2) = 29)) then sh_let (sh_ref μ15 7 2) (fun r74 => sh_let (sh_setI μ15 r74 14 1) (fun μ75 => (if (sh_r μ75 7 2 = some (sh_ref μ75 7 2) ∧ ((sh_ref μ75 7 2) = 8 ∨ (sh_ref μ75 7 2) = 29)) then sh_let (sh_ref μ75 7 2) (fun r77 => sh_bindv (f_X6_beginRule (r77 + 8) 1 μ75) (fun μ78 => sh_bind (f_X2_sum_top 0 μ78) (fun y83 μ81 => (if y83 = 0 ∨ y83 = 1 then some (y83, μ81) else none)))) else none))) else none) else (if x14 = 12 then (if (sh_r μ15 7 2 = some (sh_ref μ15 7 2) ∧ ((sh_ref μ15 7 2) = 8 ∨ (sh_ref μ15 7 2) = 29)) then sh_let (sh_ref μ15 7 2) (fun r87 => sh_let (sh_setI μ15 r87 15 1) (fun μ88 => (if (sh_r μ88 7 2 = some (sh_ref μ88 7 2) ∧ ((sh_ref μ88 7 2) = 8 ∨ (sh_ref μ88 7 2) = 29)) then sh_let (sh_ref μ88 7 2) (fun r90 => sh_bindv (f_X6_beginRule (r90 + 11) 1 μ88) (fun μ91 => sh_bind (f_X2_test_top 0 μ91) (fun y96 μ94 => (if y96 = 0 ∨ y96 = 1 then some (y96, μ94) else none)))) else none))) else none) else (if x14 = 13 then sh_bind (f_X6_readCrowd μ15) (fun y101 μ99 => (if y101 = 0 ∨ y101 = 1 then some (y101, μ99) else none)) else sh_bind (f_X8_fails 1 (sh_i μ15 2 4) μ15) (fun y105 μ103 => (if y105 = 0 ∨ y105 = 1 then some (y105, μ103) else none)))))))))))))) else sh_bind (f_X8_fails 5 (sh_i μ15 2 4) μ15) (fun y109 μ107 => (if y109 = 0 ∨ y109 = 1 then some (y109, μ107) else none))))) else sh_bind (f_X6_isOneTooMany (-1) μ) (fun y4 μ2 => (if y4 = 0 then sh_bind (f_X8_fails 1 (sh_i μ2 2 4) μ2) (fun y8 μ6 => (if y8 = 0 ∨ y8 = 1 then some (y8, μ6) else none)) else sh_bind (f_X8_fails 5 (sh_i μ2 2 4) μ2) (fun y12 μ10 => (if y12 = 0 ∨ y12 = 1 then some (y12, μ10) else none)))))
theorem gp_X6_readStatement {μ μ' : sh_Mem} {v : Int32} (hG : sh_G μ) (h : f_X6_readStatement μ = some (v, μ')) : sh_G μ' := by
  unfold f_X6_readStatement at h
  by_cases c1 : (sh_i μ 2 3) = (-2)
  · rw [if_pos c1] at h
    obtain ⟨x14, ex14⟩ : ∃ y : Int32, y = (sh_i μ 2 6) := ⟨_, rfl⟩
    rw [sh_let_eq ex14] at h
    obtain ⟨y17, μ15, hr16, h⟩ := sh_bind_e h
    have hG15 := gp_X6_isOneTooMany hG hr16
    by_cases c18 : y17 = 0
    · rw [if_pos c18] at h
      by_cases c19 : x14 = 2
      · rw [if_pos c19] at h
        obtain ⟨y22, μ20, hr21, h⟩ := sh_bind_e h
        have hG20 := gp_X6_readHigh hG15 hr21
        obtain ⟨k23, h⟩ := sh_chk h
        obtain ⟨e1, e2⟩ := sh_some2 h
        exact e2 ▸ hG20
      rw [if_neg c19] at h
      by_cases c24 : x14 = 3
      · rw [if_pos c24] at h
        obtain ⟨y27, μ25, hr26, h⟩ := sh_bind_e h
        have hG25 := gp_X6_readTopic hG15 hr26
        obtain ⟨k28, h⟩ := sh_chk h
        obtain ⟨e1, e2⟩ := sh_some2 h
        exact e2 ▸ hG25
      rw [if_neg c24] at h
      by_cases c29 : x14 = 4
      · rw [if_pos c29] at h
        obtain ⟨y32, μ30, hr31, h⟩ := sh_bind_e h
        have hG30 := gp_X6_readPerson hG15 hr31
        obtain ⟨k33, h⟩ := sh_chk h
        obtain ⟨e1, e2⟩ := sh_some2 h
        exact e2 ▸ hG30
      rw [if_neg c29] at h
      by_cases c34 : x14 = 5
      · rw [if_pos c34] at h
        obtain ⟨y37, μ35, hr36, h⟩ := sh_bind_e h
        have hG35 := gp_X8_fails hG15 hr36
        obtain ⟨k38, h⟩ := sh_chk h
        obtain ⟨e1, e2⟩ := sh_some2 h
        exact e2 ▸ hG35
      rw [if_neg c34] at h
      by_cases c39 : x14 = 6
      · rw [if_pos c39] at h
        obtain ⟨y42, μ40, hr41, h⟩ := sh_bind_e h
        have hG40 := gp_X8_fails hG15 hr41
        obtain ⟨k43, h⟩ := sh_chk h
        obtain ⟨e1, e2⟩ := sh_some2 h
        exact e2 ▸ hG40
      rw [if_neg c39] at h
      by_cases c44 : x14 = 7
      · rw [if_pos c44] at h
        obtain ⟨y47, μ45, hr46, h⟩ := sh_bind_e h
        have hG45 := gp_X6_readKnows hG15 hr46
        obtain ⟨k48, h⟩ := sh_chk h
        obtain ⟨e1, e2⟩ := sh_some2 h
        exact e2 ▸ hG45
      rw [if_neg c44] at h
      by_cases c49 : x14 = 8
      · rw [if_pos c49] at h
        obtain ⟨y52, μ50, hr51, h⟩ := sh_bind_e h
        have hG50 := gp_X8_fails hG15 hr51
        obtain ⟨k53, h⟩ := sh_chk h
        obtain ⟨e1, e2⟩ := sh_some2 h
        exact e2 ▸ hG50
      rw [if_neg c49] at h
      by_cases c54 : x14 = 9
      · rw [if_pos c54] at h
        obtain ⟨y57, μ55, hr56, h⟩ := sh_bind_e h
        have hG55 := gp_X6_readAsks hG15 hr56
        obtain ⟨k58, h⟩ := sh_chk h
        obtain ⟨e1, e2⟩ := sh_some2 h
        exact e2 ▸ hG55
      rw [if_neg c54] at h
      by_cases c59 : x14 = 10
      · rw [if_pos c59] at h
        obtain ⟨k60, h⟩ := sh_chk h
        obtain ⟨r61, er61⟩ : ∃ y : Nat, y = (sh_ref μ15 7 2) := ⟨_, rfl⟩
        rw [sh_let_eq er61] at h
        have k60r : sh_r μ15 7 2 = some r61 ∧ (r61 = 8 ∨ r61 = 29) := by rw [er61]; exact k60
        obtain ⟨μ62, eμ62⟩ : ∃ y : sh_Mem, y = (sh_setI μ15 r61 13 1) := ⟨_, rfl⟩
        rw [sh_let_eq eμ62] at h
        have hG62 : sh_G μ62 := by rw [eμ62]; exact hG15
        obtain ⟨k63, h⟩ := sh_chk h
        obtain ⟨r64, er64⟩ : ∃ y : Nat, y = (sh_ref μ62 7 2) := ⟨_, rfl⟩
        rw [sh_let_eq er64] at h
        have k63r : sh_r μ62 7 2 = some r64 ∧ (r64 = 8 ∨ r64 = 29) := by rw [er64]; exact k63
        obtain ⟨μ65, hr66, h⟩ := sh_bindv_e h
        have hG65 := gp_X6_beginRule hG62 (gP_f10 k63r.2) hr66
        obtain ⟨y70, μ68, hr69, h⟩ := sh_bind_e h
        have hG68 := gp_X2_sum_top hG65 hr69
        obtain ⟨k71, h⟩ := sh_chk h
        obtain ⟨e1, e2⟩ := sh_some2 h
        exact e2 ▸ hG68
      rw [if_neg c59] at h
      by_cases c72 : x14 = 11
      · rw [if_pos c72] at h
        obtain ⟨k73, h⟩ := sh_chk h
        obtain ⟨r74, er74⟩ : ∃ y : Nat, y = (sh_ref μ15 7 2) := ⟨_, rfl⟩
        rw [sh_let_eq er74] at h
        have k73r : sh_r μ15 7 2 = some r74 ∧ (r74 = 8 ∨ r74 = 29) := by rw [er74]; exact k73
        obtain ⟨μ75, eμ75⟩ : ∃ y : sh_Mem, y = (sh_setI μ15 r74 14 1) := ⟨_, rfl⟩
        rw [sh_let_eq eμ75] at h
        have hG75 : sh_G μ75 := by rw [eμ75]; exact hG15
        obtain ⟨k76, h⟩ := sh_chk h
        obtain ⟨r77, er77⟩ : ∃ y : Nat, y = (sh_ref μ75 7 2) := ⟨_, rfl⟩
        rw [sh_let_eq er77] at h
        have k76r : sh_r μ75 7 2 = some r77 ∧ (r77 = 8 ∨ r77 = 29) := by rw [er77]; exact k76
        obtain ⟨μ78, hr79, h⟩ := sh_bindv_e h
        have hG78 := gp_X6_beginRule hG75 (gP_f11 k76r.2) hr79
        obtain ⟨y83, μ81, hr82, h⟩ := sh_bind_e h
        have hG81 := gp_X2_sum_top hG78 hr82
        obtain ⟨k84, h⟩ := sh_chk h
        obtain ⟨e1, e2⟩ := sh_some2 h
        exact e2 ▸ hG81
      rw [if_neg c72] at h
      by_cases c85 : x14 = 12
      · rw [if_pos c85] at h
        obtain ⟨k86, h⟩ := sh_chk h
        obtain ⟨r87, er87⟩ : ∃ y : Nat, y = (sh_ref μ15 7 2) := ⟨_, rfl⟩
        rw [sh_let_eq er87] at h
        have k86r : sh_r μ15 7 2 = some r87 ∧ (r87 = 8 ∨ r87 = 29) := by rw [er87]; exact k86
        obtain ⟨μ88, eμ88⟩ : ∃ y : sh_Mem, y = (sh_setI μ15 r87 15 1) := ⟨_, rfl⟩
        rw [sh_let_eq eμ88] at h
        have hG88 : sh_G μ88 := by rw [eμ88]; exact hG15
        obtain ⟨k89, h⟩ := sh_chk h
        obtain ⟨r90, er90⟩ : ∃ y : Nat, y = (sh_ref μ88 7 2) := ⟨_, rfl⟩
        rw [sh_let_eq er90] at h
        have k89r : sh_r μ88 7 2 = some r90 ∧ (r90 = 8 ∨ r90 = 29) := by rw [er90]; exact k89
        obtain ⟨μ91, hr92, h⟩ := sh_bindv_e h
        have hG91 := gp_X6_beginRule hG88 (gP_f12 k89r.2) hr92
        obtain ⟨y96, μ94, hr95, h⟩ := sh_bind_e h
        have hG94 := gp_X2_test_top hG91 hr95
        obtain ⟨k97, h⟩ := sh_chk h
        obtain ⟨e1, e2⟩ := sh_some2 h
        exact e2 ▸ hG94
      rw [if_neg c85] at h
      by_cases c98 : x14 = 13
      · rw [if_pos c98] at h
        obtain ⟨y101, μ99, hr100, h⟩ := sh_bind_e h
        have hG99 := gp_X6_readCrowd hG15 hr100
        obtain ⟨k102, h⟩ := sh_chk h
        obtain ⟨e1, e2⟩ := sh_some2 h
        exact e2 ▸ hG99
      rw [if_neg c98] at h
      obtain ⟨y105, μ103, hr104, h⟩ := sh_bind_e h
      have hG103 := gp_X8_fails hG15 hr104
      obtain ⟨k106, h⟩ := sh_chk h
      obtain ⟨e1, e2⟩ := sh_some2 h
      exact e2 ▸ hG103
    · rw [if_neg c18] at h
      obtain ⟨y109, μ107, hr108, h⟩ := sh_bind_e h
      have hG107 := gp_X8_fails hG15 hr108
      obtain ⟨k110, h⟩ := sh_chk h
      obtain ⟨e1, e2⟩ := sh_some2 h
      exact e2 ▸ hG107
  · rw [if_neg c1] at h
    obtain ⟨y4, μ2, hr3, h⟩ := sh_bind_e h
    have hG2 := gp_X6_isOneTooMany hG hr3
    by_cases c5 : y4 = 0
    · rw [if_pos c5] at h
      obtain ⟨y8, μ6, hr7, h⟩ := sh_bind_e h
      have hG6 := gp_X8_fails hG2 hr7
      obtain ⟨k9, h⟩ := sh_chk h
      obtain ⟨e1, e2⟩ := sh_some2 h
      exact e2 ▸ hG6
    · rw [if_neg c5] at h
      obtain ⟨y12, μ10, hr11, h⟩ := sh_bind_e h
      have hG10 := gp_X8_fails hG2 hr11
      obtain ⟨k13, h⟩ := sh_chk h
      obtain ⟨e1, e2⟩ := sh_some2 h
      exact e2 ▸ hG10
theorem t_X6_readStatement {μ μ' : sh_Mem} {v : Int32} (hG : sh_G μ) (h : f_X6_readStatement μ = some (v, μ')) : sh_C0 l B D ca 73 M_X6_readStatement [.ref 7] μ (fun v0 μ0 => v0 = some (.int v) ∧ μ0 = μ') := by
  unfold f_X6_readStatement at h
  refine vv_aload_n 0 0 dX6_readStatement_0 rfl rfl ?_
  refine vv_getR 1 dX6_readStatement_1 fl_6_18 rfl (g_l_7 hG) (g_r_7_0 hG) ?_
  refine vv_getI 4 dX6_readStatement_4 fl_6_33 rfl (g_l_2 hG) ?_
  refine vv_bipush 7 dX6_readStatement_7 bk_m2 ?_
  refine vv_icmp_ne 9 22 dX6_readStatement_9 (by decide) (fun c1 => ?_) (fun c1 => ?_)
  · rw [if_neg c1] at h
    refine vv_iconst 22 dX6_readStatement_22 ik_m1 ?_
    refine vv_istore_n (lv' := [(1, _), (0, _)]) 23 1 dX6_readStatement_23 rfl (by decide) rfl ?_
    refine vv_aload_n 24 0 dX6_readStatement_24 rfl rfl ?_
    refine vv_iload_n 25 1 dX6_readStatement_25 rfl rfl ?_
    obtain ⟨y4, μ2, hr3, h⟩ := sh_bind_e h
    refine v1_callV [_] 26 dX6_readStatement_26 ck_X6_69 (g_l_7 hG) ⟨by decide, rfl⟩ (t_X6_isOneTooMany hG hr3) (Nat.le_of_ble_eq_true rfl) ⟨Nat.le_of_ble_eq_true rfl, Nat.le_of_ble_eq_true rfl⟩ rfl (Nat.le_of_ble_eq_true rfl) ?_
    have hG2 := gp_X6_isOneTooMany hG hr3
    refine vv_if_eq 29 48 dX6_readStatement_29 (by decide) (fun c5 => ?_) (fun c5 => ?_)
    · rw [if_pos c5] at h
      refine vv_iload_n 48 1 dX6_readStatement_48 rfl rfl ?_
      refine vv_tabOut 49 229 dX6_readStatement_49 (by decide) (by decide) ?_
      refine vv_aload_n 229 0 dX6_readStatement_229 rfl rfl ?_
      refine vv_getR 230 dX6_readStatement_230 fl_6_18 rfl (g_l_7 hG2) (g_r_7_0 hG2) ?_
      refine vv_iconst 233 dX6_readStatement_233 ik_1 ?_
      refine vv_aload_n 234 0 dX6_readStatement_234 rfl rfl ?_
      refine vv_getR 235 dX6_readStatement_235 fl_6_18 rfl (g_l_7 hG2) (g_r_7_0 hG2) ?_
      refine vv_getI 238 dX6_readStatement_238 fl_6_46 rfl (g_l_2 hG2) ?_
      obtain ⟨y8, μ6, hr7, h⟩ := sh_bind_e h
      refine v1_callV [_, _] 241 dX6_readStatement_241 ck_X6_49 (g_l_2 hG2) ⟨by decide, rfl⟩ (t_X8_fails hG2 hr7) (Nat.le_of_ble_eq_true rfl) ⟨Nat.le_of_ble_eq_true rfl, Nat.le_of_ble_eq_true rfl⟩ rfl (Nat.le_of_ble_eq_true rfl) ?_
      have hG6 := gp_X8_fails hG2 hr7
      obtain ⟨k9, h⟩ := sh_chk h
      obtain ⟨e1, e2⟩ := sh_some2 h
      refine vv_zret 244 dX6_readStatement_244 rfl (sh_nb k9) (Nat.le_refl _) (Nat.le_refl _) ⟨by rw [e1], e2⟩
    · rw [if_neg c5] at h
      refine vv_aload_n 32 0 dX6_readStatement_32 rfl rfl ?_
      refine vv_getR 33 dX6_readStatement_33 fl_6_18 rfl (g_l_7 hG2) (g_r_7_0 hG2) ?_
      refine vv_iconst 36 dX6_readStatement_36 ik_5 ?_
      refine vv_aload_n 37 0 dX6_readStatement_37 rfl rfl ?_
      refine vv_getR 38 dX6_readStatement_38 fl_6_18 rfl (g_l_7 hG2) (g_r_7_0 hG2) ?_
      refine vv_getI 41 dX6_readStatement_41 fl_6_46 rfl (g_l_2 hG2) ?_
      obtain ⟨y12, μ10, hr11, h⟩ := sh_bind_e h
      refine v1_callV [_, _] 44 dX6_readStatement_44 ck_X6_49 (g_l_2 hG2) ⟨by decide, rfl⟩ (t_X8_fails hG2 hr11) (Nat.le_of_ble_eq_true rfl) ⟨Nat.le_of_ble_eq_true rfl, Nat.le_of_ble_eq_true rfl⟩ rfl (Nat.le_of_ble_eq_true rfl) ?_
      have hG10 := gp_X8_fails hG2 hr11
      obtain ⟨k13, h⟩ := sh_chk h
      obtain ⟨e1, e2⟩ := sh_some2 h
      refine vv_zret 47 dX6_readStatement_47 rfl (sh_nb k13) (Nat.le_refl _) (Nat.le_refl _) ⟨by rw [e1], e2⟩
  · rw [if_pos c1] at h
    refine vv_aload_n 12 0 dX6_readStatement_12 rfl rfl ?_
    refine vv_getR 13 dX6_readStatement_13 fl_6_18 rfl (g_l_7 hG) (g_r_7_0 hG) ?_
    refine vv_getI 16 dX6_readStatement_16 fl_6_66 rfl (g_l_2 hG) ?_
    refine vv_goto 19 23 dX6_readStatement_19 (by decide) ?_
    refine vv_topi (fun x14 ex14 => ?_)
    rw [sh_let_eq ex14] at h
    refine vv_istore_n (lv' := [(1, _), (0, _)]) 23 1 dX6_readStatement_23 rfl (by decide) rfl ?_
    refine vv_aload_n 24 0 dX6_readStatement_24 rfl rfl ?_
    refine vv_iload_n 25 1 dX6_readStatement_25 rfl rfl ?_
    obtain ⟨y17, μ15, hr16, h⟩ := sh_bind_e h
    refine v1_callV [_] 26 dX6_readStatement_26 ck_X6_69 (g_l_7 hG) ⟨by decide, rfl⟩ (t_X6_isOneTooMany hG hr16) (Nat.le_of_ble_eq_true rfl) ⟨Nat.le_of_ble_eq_true rfl, Nat.le_of_ble_eq_true rfl⟩ rfl (Nat.le_of_ble_eq_true rfl) ?_
    have hG15 := gp_X6_isOneTooMany hG hr16
    refine vv_if_eq 29 48 dX6_readStatement_29 (by decide) (fun c18 => ?_) (fun c18 => ?_)
    · rw [if_pos c18] at h
      refine vv_iload_n 48 1 dX6_readStatement_48 rfl rfl ?_
      by_cases c19 : x14 = 2
      · rw [if_pos c19] at h
        refine vv_tabIn 49 112 dX6_readStatement_49 (by rw [c19]; decide) (by rw [c19]; decide) (off := 63) (by rw [c19]; decide) (by decide) ?_
        refine vv_aload_n 112 0 dX6_readStatement_112 rfl rfl ?_
        obtain ⟨y22, μ20, hr21, h⟩ := sh_bind_e h
        refine v1_callV [] 113 dX6_readStatement_113 ck_X6_72 (g_l_7 hG15) ⟨by decide, rfl⟩ (t_X6_readHigh hG15 hr21) (Nat.le_of_ble_eq_true rfl) ⟨Nat.le_of_ble_eq_true rfl, Nat.le_of_ble_eq_true rfl⟩ rfl (Nat.le_of_ble_eq_true rfl) ?_
        have hG20 := gp_X6_readHigh hG15 hr21
        obtain ⟨k23, h⟩ := sh_chk h
        obtain ⟨e1, e2⟩ := sh_some2 h
        refine vv_zret 116 dX6_readStatement_116 rfl (sh_nb k23) (Nat.le_refl _) (Nat.le_refl _) ⟨by rw [e1], e2⟩
      rw [if_neg c19] at h
      by_cases c24 : x14 = 3
      · rw [if_pos c24] at h
        refine vv_tabIn 49 117 dX6_readStatement_49 (by rw [c24]; decide) (by rw [c24]; decide) (off := 68) (by rw [c24]; decide) (by decide) ?_
        refine vv_aload_n 117 0 dX6_readStatement_117 rfl rfl ?_
        obtain ⟨y27, μ25, hr26, h⟩ := sh_bind_e h
        refine v1_callV [] 118 dX6_readStatement_118 ck_X6_75 (g_l_7 hG15) ⟨by decide, rfl⟩ (t_X6_readTopic hG15 hr26) (Nat.le_of_ble_eq_true rfl) ⟨Nat.le_of_ble_eq_true rfl, Nat.le_of_ble_eq_true rfl⟩ rfl (Nat.le_of_ble_eq_true rfl) ?_
        have hG25 := gp_X6_readTopic hG15 hr26
        obtain ⟨k28, h⟩ := sh_chk h
        obtain ⟨e1, e2⟩ := sh_some2 h
        refine vv_zret 121 dX6_readStatement_121 rfl (sh_nb k28) (Nat.le_refl _) (Nat.le_refl _) ⟨by rw [e1], e2⟩
      rw [if_neg c24] at h
      by_cases c29 : x14 = 4
      · rw [if_pos c29] at h
        refine vv_tabIn 49 122 dX6_readStatement_49 (by rw [c29]; decide) (by rw [c29]; decide) (off := 73) (by rw [c29]; decide) (by decide) ?_
        refine vv_aload_n 122 0 dX6_readStatement_122 rfl rfl ?_
        obtain ⟨y32, μ30, hr31, h⟩ := sh_bind_e h
        refine v1_callV [] 123 dX6_readStatement_123 ck_X6_78 (g_l_7 hG15) ⟨by decide, rfl⟩ (t_X6_readPerson hG15 hr31) (Nat.le_of_ble_eq_true rfl) ⟨Nat.le_of_ble_eq_true rfl, Nat.le_of_ble_eq_true rfl⟩ rfl (Nat.le_of_ble_eq_true rfl) ?_
        have hG30 := gp_X6_readPerson hG15 hr31
        obtain ⟨k33, h⟩ := sh_chk h
        obtain ⟨e1, e2⟩ := sh_some2 h
        refine vv_zret 126 dX6_readStatement_126 rfl (sh_nb k33) (Nat.le_refl _) (Nat.le_refl _) ⟨by rw [e1], e2⟩
      rw [if_neg c29] at h
      by_cases c34 : x14 = 5
      · rw [if_pos c34] at h
        refine vv_tabIn 49 229 dX6_readStatement_49 (by rw [c34]; decide) (by rw [c34]; decide) (off := 180) (by rw [c34]; decide) (by decide) ?_
        refine vv_aload_n 229 0 dX6_readStatement_229 rfl rfl ?_
        refine vv_getR 230 dX6_readStatement_230 fl_6_18 rfl (g_l_7 hG15) (g_r_7_0 hG15) ?_
        refine vv_iconst 233 dX6_readStatement_233 ik_1 ?_
        refine vv_aload_n 234 0 dX6_readStatement_234 rfl rfl ?_
        refine vv_getR 235 dX6_readStatement_235 fl_6_18 rfl (g_l_7 hG15) (g_r_7_0 hG15) ?_
        refine vv_getI 238 dX6_readStatement_238 fl_6_46 rfl (g_l_2 hG15) ?_
        obtain ⟨y37, μ35, hr36, h⟩ := sh_bind_e h
        refine v1_callV [_, _] 241 dX6_readStatement_241 ck_X6_49 (g_l_2 hG15) ⟨by decide, rfl⟩ (t_X8_fails hG15 hr36) (Nat.le_of_ble_eq_true rfl) ⟨Nat.le_of_ble_eq_true rfl, Nat.le_of_ble_eq_true rfl⟩ rfl (Nat.le_of_ble_eq_true rfl) ?_
        have hG35 := gp_X8_fails hG15 hr36
        obtain ⟨k38, h⟩ := sh_chk h
        obtain ⟨e1, e2⟩ := sh_some2 h
        refine vv_zret 244 dX6_readStatement_244 rfl (sh_nb k38) (Nat.le_refl _) (Nat.le_refl _) ⟨by rw [e1], e2⟩
      rw [if_neg c34] at h
      by_cases c39 : x14 = 6
      · rw [if_pos c39] at h
        refine vv_tabIn 49 229 dX6_readStatement_49 (by rw [c39]; decide) (by rw [c39]; decide) (off := 180) (by rw [c39]; decide) (by decide) ?_
        refine vv_aload_n 229 0 dX6_readStatement_229 rfl rfl ?_
        refine vv_getR 230 dX6_readStatement_230 fl_6_18 rfl (g_l_7 hG15) (g_r_7_0 hG15) ?_
        refine vv_iconst 233 dX6_readStatement_233 ik_1 ?_
        refine vv_aload_n 234 0 dX6_readStatement_234 rfl rfl ?_
        refine vv_getR 235 dX6_readStatement_235 fl_6_18 rfl (g_l_7 hG15) (g_r_7_0 hG15) ?_
        refine vv_getI 238 dX6_readStatement_238 fl_6_46 rfl (g_l_2 hG15) ?_
        obtain ⟨y42, μ40, hr41, h⟩ := sh_bind_e h
        refine v1_callV [_, _] 241 dX6_readStatement_241 ck_X6_49 (g_l_2 hG15) ⟨by decide, rfl⟩ (t_X8_fails hG15 hr41) (Nat.le_of_ble_eq_true rfl) ⟨Nat.le_of_ble_eq_true rfl, Nat.le_of_ble_eq_true rfl⟩ rfl (Nat.le_of_ble_eq_true rfl) ?_
        have hG40 := gp_X8_fails hG15 hr41
        obtain ⟨k43, h⟩ := sh_chk h
        obtain ⟨e1, e2⟩ := sh_some2 h
        refine vv_zret 244 dX6_readStatement_244 rfl (sh_nb k43) (Nat.le_refl _) (Nat.le_refl _) ⟨by rw [e1], e2⟩
      rw [if_neg c39] at h
      by_cases c44 : x14 = 7
      · rw [if_pos c44] at h
        refine vv_tabIn 49 127 dX6_readStatement_49 (by rw [c44]; decide) (by rw [c44]; decide) (off := 78) (by rw [c44]; decide) (by decide) ?_
        refine vv_aload_n 127 0 dX6_readStatement_127 rfl rfl ?_
        obtain ⟨y47, μ45, hr46, h⟩ := sh_bind_e h
        refine v1_callV [] 128 dX6_readStatement_128 ck_X6_81 (g_l_7 hG15) ⟨by decide, rfl⟩ (t_X6_readKnows hG15 hr46) (Nat.le_of_ble_eq_true rfl) ⟨Nat.le_of_ble_eq_true rfl, Nat.le_of_ble_eq_true rfl⟩ rfl (Nat.le_of_ble_eq_true rfl) ?_
        have hG45 := gp_X6_readKnows hG15 hr46
        obtain ⟨k48, h⟩ := sh_chk h
        obtain ⟨e1, e2⟩ := sh_some2 h
        refine vv_zret 131 dX6_readStatement_131 rfl (sh_nb k48) (Nat.le_refl _) (Nat.le_refl _) ⟨by rw [e1], e2⟩
      rw [if_neg c44] at h
      by_cases c49 : x14 = 8
      · rw [if_pos c49] at h
        refine vv_tabIn 49 229 dX6_readStatement_49 (by rw [c49]; decide) (by rw [c49]; decide) (off := 180) (by rw [c49]; decide) (by decide) ?_
        refine vv_aload_n 229 0 dX6_readStatement_229 rfl rfl ?_
        refine vv_getR 230 dX6_readStatement_230 fl_6_18 rfl (g_l_7 hG15) (g_r_7_0 hG15) ?_
        refine vv_iconst 233 dX6_readStatement_233 ik_1 ?_
        refine vv_aload_n 234 0 dX6_readStatement_234 rfl rfl ?_
        refine vv_getR 235 dX6_readStatement_235 fl_6_18 rfl (g_l_7 hG15) (g_r_7_0 hG15) ?_
        refine vv_getI 238 dX6_readStatement_238 fl_6_46 rfl (g_l_2 hG15) ?_
        obtain ⟨y52, μ50, hr51, h⟩ := sh_bind_e h
        refine v1_callV [_, _] 241 dX6_readStatement_241 ck_X6_49 (g_l_2 hG15) ⟨by decide, rfl⟩ (t_X8_fails hG15 hr51) (Nat.le_of_ble_eq_true rfl) ⟨Nat.le_of_ble_eq_true rfl, Nat.le_of_ble_eq_true rfl⟩ rfl (Nat.le_of_ble_eq_true rfl) ?_
        have hG50 := gp_X8_fails hG15 hr51
        obtain ⟨k53, h⟩ := sh_chk h
        obtain ⟨e1, e2⟩ := sh_some2 h
        refine vv_zret 244 dX6_readStatement_244 rfl (sh_nb k53) (Nat.le_refl _) (Nat.le_refl _) ⟨by rw [e1], e2⟩
      rw [if_neg c49] at h
      by_cases c54 : x14 = 9
      · rw [if_pos c54] at h
        refine vv_tabIn 49 132 dX6_readStatement_49 (by rw [c54]; decide) (by rw [c54]; decide) (off := 83) (by rw [c54]; decide) (by decide) ?_
        refine vv_aload_n 132 0 dX6_readStatement_132 rfl rfl ?_
        obtain ⟨y57, μ55, hr56, h⟩ := sh_bind_e h
        refine v1_callV [] 133 dX6_readStatement_133 ck_X6_84 (g_l_7 hG15) ⟨by decide, rfl⟩ (t_X6_readAsks hG15 hr56) (Nat.le_of_ble_eq_true rfl) ⟨Nat.le_of_ble_eq_true rfl, Nat.le_of_ble_eq_true rfl⟩ rfl (Nat.le_of_ble_eq_true rfl) ?_
        have hG55 := gp_X6_readAsks hG15 hr56
        obtain ⟨k58, h⟩ := sh_chk h
        obtain ⟨e1, e2⟩ := sh_some2 h
        refine vv_zret 136 dX6_readStatement_136 rfl (sh_nb k58) (Nat.le_refl _) (Nat.le_refl _) ⟨by rw [e1], e2⟩
      rw [if_neg c54] at h
      by_cases c59 : x14 = 10
      · rw [if_pos c59] at h
        refine vv_tabIn 49 137 dX6_readStatement_49 (by rw [c59]; decide) (by rw [c59]; decide) (off := 88) (by rw [c59]; decide) (by decide) ?_
        refine vv_aload_n 137 0 dX6_readStatement_137 rfl rfl ?_
        obtain ⟨k60, h⟩ := sh_chk h
        refine vv_getR 138 dX6_readStatement_138 fl_6_12 rfl (g_l_7 hG15) k60.1 ?_
        refine vv_topr (fun r61 er61 => ?_)
        rw [sh_let_eq er61] at h
        have k60r : sh_r μ15 7 2 = some r61 ∧ (r61 = 8 ∨ r61 = 29) := by rw [er61]; exact k60
        refine vv_iconst 141 dX6_readStatement_141 ik_1 ?_
        refine vn_putZ 142 dX6_readStatement_142 fl_6_87 (Or.inl rfl) rfl (by decide) (gP_l hG15 k60r.2) (fun μ62 eμ62 => ?_)
        rw [sh_let_eq eμ62] at h
        have hG62 : sh_G μ62 := by rw [eμ62]; exact hG15
        refine vv_aload_n 145 0 dX6_readStatement_145 rfl rfl ?_
        refine vv_aload_n 146 0 dX6_readStatement_146 rfl rfl ?_
        obtain ⟨k63, h⟩ := sh_chk h
        refine vv_getR 147 dX6_readStatement_147 fl_6_12 rfl (g_l_7 hG62) k63.1 ?_
        refine vv_topr (fun r64 er64 => ?_)
        rw [sh_let_eq er64] at h
        have k63r : sh_r μ62 7 2 = some r64 ∧ (r64 = 8 ∨ r64 = 29) := by rw [er64]; exact k63
        refine vv_getR 150 dX6_readStatement_150 fl_6_91 rfl (gP_l hG62 k63r.2) (gP_r10 hG62 k63r.2) ?_
        refine vv_iconst 153 dX6_readStatement_153 ik_0 ?_
        obtain ⟨μ65, hr66, h⟩ := sh_bindv_e h
        refine v1_callV [_, _] 154 dX6_readStatement_154 ck_X6_97 (g_l_7 hG62) ⟨by decide, rfl⟩ (t_X6_beginRule hG62 (gP_f10 k63r.2) hr66) (Nat.le_of_ble_eq_true rfl) ⟨Nat.le_of_ble_eq_true rfl, Nat.le_of_ble_eq_true rfl⟩ rfl (Nat.le_of_ble_eq_true rfl) ?_
        have hG65 := gp_X6_beginRule hG62 (gP_f10 k63r.2) hr66
        refine vv_aload_n 157 0 dX6_readStatement_157 rfl rfl ?_
        refine vv_getR 158 dX6_readStatement_158 fl_6_22 rfl (g_l_7 hG65) (g_r_7_1 hG65) ?_
        refine vv_iconst 161 dX6_readStatement_161 ik_0 ?_
        obtain ⟨y70, μ68, hr69, h⟩ := sh_bind_e h
        refine v1_callVN [_] 162 dX6_readStatement_162 ck_X6_101 (g_l_6 hG65) ⟨by decide, rfl⟩ (t_X2_sum_top hG65 hr69) (Nat.le_of_ble_eq_true rfl) ⟨Nat.le_of_ble_eq_true rfl, Nat.le_of_ble_eq_true rfl⟩ rfl (Nat.le_of_ble_eq_true rfl) ?_
        have hG68 := gp_X2_sum_top hG65 hr69
        obtain ⟨k71, h⟩ := sh_chk h
        obtain ⟨e1, e2⟩ := sh_some2 h
        refine vv_zret 165 dX6_readStatement_165 rfl (sh_nb k71) (Nat.le_refl _) (Nat.le_refl _) ⟨by rw [e1], e2⟩
      rw [if_neg c59] at h
      by_cases c72 : x14 = 11
      · rw [if_pos c72] at h
        refine vv_tabIn 49 166 dX6_readStatement_49 (by rw [c72]; decide) (by rw [c72]; decide) (off := 117) (by rw [c72]; decide) (by decide) ?_
        refine vv_aload_n 166 0 dX6_readStatement_166 rfl rfl ?_
        obtain ⟨k73, h⟩ := sh_chk h
        refine vv_getR 167 dX6_readStatement_167 fl_6_12 rfl (g_l_7 hG15) k73.1 ?_
        refine vv_topr (fun r74 er74 => ?_)
        rw [sh_let_eq er74] at h
        have k73r : sh_r μ15 7 2 = some r74 ∧ (r74 = 8 ∨ r74 = 29) := by rw [er74]; exact k73
        refine vv_iconst 170 dX6_readStatement_170 ik_1 ?_
        refine vn_putZ 171 dX6_readStatement_171 fl_6_104 (Or.inl rfl) rfl (by decide) (gP_l hG15 k73r.2) (fun μ75 eμ75 => ?_)
        rw [sh_let_eq eμ75] at h
        have hG75 : sh_G μ75 := by rw [eμ75]; exact hG15
        refine vv_aload_n 174 0 dX6_readStatement_174 rfl rfl ?_
        refine vv_aload_n 175 0 dX6_readStatement_175 rfl rfl ?_
        obtain ⟨k76, h⟩ := sh_chk h
        refine vv_getR 176 dX6_readStatement_176 fl_6_12 rfl (g_l_7 hG75) k76.1 ?_
        refine vv_topr (fun r77 er77 => ?_)
        rw [sh_let_eq er77] at h
        have k76r : sh_r μ75 7 2 = some r77 ∧ (r77 = 8 ∨ r77 = 29) := by rw [er77]; exact k76
        refine vv_getR 179 dX6_readStatement_179 fl_6_107 rfl (gP_l hG75 k76r.2) (gP_r11 hG75 k76r.2) ?_
        refine vv_iconst 182 dX6_readStatement_182 ik_1 ?_
        obtain ⟨μ78, hr79, h⟩ := sh_bindv_e h
        refine v1_callV [_, _] 183 dX6_readStatement_183 ck_X6_97 (g_l_7 hG75) ⟨by decide, rfl⟩ (t_X6_beginRule hG75 (gP_f11 k76r.2) hr79) (Nat.le_of_ble_eq_true rfl) ⟨Nat.le_of_ble_eq_true rfl, Nat.le_of_ble_eq_true rfl⟩ rfl (Nat.le_of_ble_eq_true rfl) ?_
        have hG78 := gp_X6_beginRule hG75 (gP_f11 k76r.2) hr79
        refine vv_aload_n 186 0 dX6_readStatement_186 rfl rfl ?_
        refine vv_getR 187 dX6_readStatement_187 fl_6_22 rfl (g_l_7 hG78) (g_r_7_1 hG78) ?_
        refine vv_iconst 190 dX6_readStatement_190 ik_0 ?_
        obtain ⟨y83, μ81, hr82, h⟩ := sh_bind_e h
        refine v1_callVN [_] 191 dX6_readStatement_191 ck_X6_101 (g_l_6 hG78) ⟨by decide, rfl⟩ (t_X2_sum_top hG78 hr82) (Nat.le_of_ble_eq_true rfl) ⟨Nat.le_of_ble_eq_true rfl, Nat.le_of_ble_eq_true rfl⟩ rfl (Nat.le_of_ble_eq_true rfl) ?_
        have hG81 := gp_X2_sum_top hG78 hr82
        obtain ⟨k84, h⟩ := sh_chk h
        obtain ⟨e1, e2⟩ := sh_some2 h
        refine vv_zret 194 dX6_readStatement_194 rfl (sh_nb k84) (Nat.le_refl _) (Nat.le_refl _) ⟨by rw [e1], e2⟩
      rw [if_neg c72] at h
      by_cases c85 : x14 = 12
      · rw [if_pos c85] at h
        refine vv_tabIn 49 195 dX6_readStatement_49 (by rw [c85]; decide) (by rw [c85]; decide) (off := 146) (by rw [c85]; decide) (by decide) ?_
        refine vv_aload_n 195 0 dX6_readStatement_195 rfl rfl ?_
        obtain ⟨k86, h⟩ := sh_chk h
        refine vv_getR 196 dX6_readStatement_196 fl_6_12 rfl (g_l_7 hG15) k86.1 ?_
        refine vv_topr (fun r87 er87 => ?_)
        rw [sh_let_eq er87] at h
        have k86r : sh_r μ15 7 2 = some r87 ∧ (r87 = 8 ∨ r87 = 29) := by rw [er87]; exact k86
        refine vv_iconst 199 dX6_readStatement_199 ik_1 ?_
        refine vn_putZ 200 dX6_readStatement_200 fl_6_110 (Or.inl rfl) rfl (by decide) (gP_l hG15 k86r.2) (fun μ88 eμ88 => ?_)
        rw [sh_let_eq eμ88] at h
        have hG88 : sh_G μ88 := by rw [eμ88]; exact hG15
        refine vv_aload_n 203 0 dX6_readStatement_203 rfl rfl ?_
        refine vv_aload_n 204 0 dX6_readStatement_204 rfl rfl ?_
        obtain ⟨k89, h⟩ := sh_chk h
        refine vv_getR 205 dX6_readStatement_205 fl_6_12 rfl (g_l_7 hG88) k89.1 ?_
        refine vv_topr (fun r90 er90 => ?_)
        rw [sh_let_eq er90] at h
        have k89r : sh_r μ88 7 2 = some r90 ∧ (r90 = 8 ∨ r90 = 29) := by rw [er90]; exact k89
        refine vv_getR 208 dX6_readStatement_208 fl_6_113 rfl (gP_l hG88 k89r.2) (gP_r12 hG88 k89r.2) ?_
        refine vv_iconst 211 dX6_readStatement_211 ik_1 ?_
        obtain ⟨μ91, hr92, h⟩ := sh_bindv_e h
        refine v1_callV [_, _] 212 dX6_readStatement_212 ck_X6_97 (g_l_7 hG88) ⟨by decide, rfl⟩ (t_X6_beginRule hG88 (gP_f12 k89r.2) hr92) (Nat.le_of_ble_eq_true rfl) ⟨Nat.le_of_ble_eq_true rfl, Nat.le_of_ble_eq_true rfl⟩ rfl (Nat.le_of_ble_eq_true rfl) ?_
        have hG91 := gp_X6_beginRule hG88 (gP_f12 k89r.2) hr92
        refine vv_aload_n 215 0 dX6_readStatement_215 rfl rfl ?_
        refine vv_getR 216 dX6_readStatement_216 fl_6_22 rfl (g_l_7 hG91) (g_r_7_1 hG91) ?_
        refine vv_iconst 219 dX6_readStatement_219 ik_0 ?_
        obtain ⟨y96, μ94, hr95, h⟩ := sh_bind_e h
        refine v1_callVN [_] 220 dX6_readStatement_220 ck_X6_116 (g_l_6 hG91) ⟨by decide, rfl⟩ (t_X2_test_top hG91 hr95) (Nat.le_of_ble_eq_true rfl) ⟨Nat.le_of_ble_eq_true rfl, Nat.le_of_ble_eq_true rfl⟩ rfl (Nat.le_of_ble_eq_true rfl) ?_
        have hG94 := gp_X2_test_top hG91 hr95
        obtain ⟨k97, h⟩ := sh_chk h
        obtain ⟨e1, e2⟩ := sh_some2 h
        refine vv_zret 223 dX6_readStatement_223 rfl (sh_nb k97) (Nat.le_refl _) (Nat.le_refl _) ⟨by rw [e1], e2⟩
      rw [if_neg c85] at h
      by_cases c98 : x14 = 13
      · rw [if_pos c98] at h
        refine vv_tabIn 49 224 dX6_readStatement_49 (by rw [c98]; decide) (by rw [c98]; decide) (off := 175) (by rw [c98]; decide) (by decide) ?_
        refine vv_aload_n 224 0 dX6_readStatement_224 rfl rfl ?_
        obtain ⟨y101, μ99, hr100, h⟩ := sh_bind_e h
        refine v1_callV [] 225 dX6_readStatement_225 ck_X6_119 (g_l_7 hG15) ⟨by decide, rfl⟩ (t_X6_readCrowd hG15 hr100) (Nat.le_of_ble_eq_true rfl) ⟨Nat.le_of_ble_eq_true rfl, Nat.le_of_ble_eq_true rfl⟩ rfl (Nat.le_of_ble_eq_true rfl) ?_
        have hG99 := gp_X6_readCrowd hG15 hr100
        obtain ⟨k102, h⟩ := sh_chk h
        obtain ⟨e1, e2⟩ := sh_some2 h
        refine vv_zret 228 dX6_readStatement_228 rfl (sh_nb k102) (Nat.le_refl _) (Nat.le_refl _) ⟨by rw [e1], e2⟩
      rw [if_neg c98] at h
      refine vv_tabOut 49 229 dX6_readStatement_49 (sh_tout 2 13 (by intro j h1 h2; rcases (show j = 2 ∨ j = 3 ∨ j = 4 ∨ j = 5 ∨ j = 6 ∨ j = 7 ∨ j = 8 ∨ j = 9 ∨ j = 10 ∨ j = 11 ∨ j = 12 ∨ j = 13 by omega) with rfl | rfl | rfl | rfl | rfl | rfl | rfl | rfl | rfl | rfl | rfl | rfl <;> first | exact sh_lne c19 (by decide) | exact sh_lne c24 (by decide) | exact sh_lne c29 (by decide) | exact sh_lne c34 (by decide) | exact sh_lne c39 (by decide) | exact sh_lne c44 (by decide) | exact sh_lne c49 (by decide) | exact sh_lne c54 (by decide) | exact sh_lne c59 (by decide) | exact sh_lne c72 (by decide) | exact sh_lne c85 (by decide) | exact sh_lne c98 (by decide))) (by decide) ?_
      refine vv_aload_n 229 0 dX6_readStatement_229 rfl rfl ?_
      refine vv_getR 230 dX6_readStatement_230 fl_6_18 rfl (g_l_7 hG15) (g_r_7_0 hG15) ?_
      refine vv_iconst 233 dX6_readStatement_233 ik_1 ?_
      refine vv_aload_n 234 0 dX6_readStatement_234 rfl rfl ?_
      refine vv_getR 235 dX6_readStatement_235 fl_6_18 rfl (g_l_7 hG15) (g_r_7_0 hG15) ?_
      refine vv_getI 238 dX6_readStatement_238 fl_6_46 rfl (g_l_2 hG15) ?_
      obtain ⟨y105, μ103, hr104, h⟩ := sh_bind_e h
      refine v1_callV [_, _] 241 dX6_readStatement_241 ck_X6_49 (g_l_2 hG15) ⟨by decide, rfl⟩ (t_X8_fails hG15 hr104) (Nat.le_of_ble_eq_true rfl) ⟨Nat.le_of_ble_eq_true rfl, Nat.le_of_ble_eq_true rfl⟩ rfl (Nat.le_of_ble_eq_true rfl) ?_
      have hG103 := gp_X8_fails hG15 hr104
      obtain ⟨k106, h⟩ := sh_chk h
      obtain ⟨e1, e2⟩ := sh_some2 h
      refine vv_zret 244 dX6_readStatement_244 rfl (sh_nb k106) (Nat.le_refl _) (Nat.le_refl _) ⟨by rw [e1], e2⟩
    · rw [if_neg c18] at h
      refine vv_aload_n 32 0 dX6_readStatement_32 rfl rfl ?_
      refine vv_getR 33 dX6_readStatement_33 fl_6_18 rfl (g_l_7 hG15) (g_r_7_0 hG15) ?_
      refine vv_iconst 36 dX6_readStatement_36 ik_5 ?_
      refine vv_aload_n 37 0 dX6_readStatement_37 rfl rfl ?_
      refine vv_getR 38 dX6_readStatement_38 fl_6_18 rfl (g_l_7 hG15) (g_r_7_0 hG15) ?_
      refine vv_getI 41 dX6_readStatement_41 fl_6_46 rfl (g_l_2 hG15) ?_
      obtain ⟨y109, μ107, hr108, h⟩ := sh_bind_e h
      refine v1_callV [_, _] 44 dX6_readStatement_44 ck_X6_49 (g_l_2 hG15) ⟨by decide, rfl⟩ (t_X8_fails hG15 hr108) (Nat.le_of_ble_eq_true rfl) ⟨Nat.le_of_ble_eq_true rfl, Nat.le_of_ble_eq_true rfl⟩ rfl (Nat.le_of_ble_eq_true rfl) ?_
      have hG107 := gp_X8_fails hG15 hr108
      obtain ⟨k110, h⟩ := sh_chk h
      obtain ⟨e1, e2⟩ := sh_some2 h
      refine vv_zret 47 dX6_readStatement_47 rfl (sh_nb k110) (Nat.le_refl _) (Nat.le_refl _) ⟨by rw [e1], e2⟩
noncomputable def f_X10_asked (q1 : Nat) (a2 : Int32) (a3 : Int32) (μ : sh_Mem) : Option (Int32 × sh_Mem) := sh_let (sh_setI μ 55 1 0) (fun μ1 => sh_bind (f_X10_deed q1 a2 a3 μ1) (fun y4 μ2 => (if y4 = 2 then sh_bindv (f_X10_lookAround q1 a2 μ2) (fun μ6 => sh_bindv (f_X10_lift q1 (sh_i μ6 55 5) μ6) (fun μ9 => sh_bindv (f_X10_lift q1 (sh_i μ9 55 6) μ9) (fun μ12 => (if (sh_r μ12 55 0 = some (sh_ref μ12 55 0) ∧ ((sh_ref μ12 55 0) = 8 ∨ (sh_ref μ12 55 0) = 29)) then sh_let (sh_ref μ12 55 0) (fun r16 => sh_bind (f_X1_value (r16 + 8) 56 μ12) (fun y19 μ17 => (if sh_in a2 7 then sh_let (sh_setI μ17 (q1 + 4) a2.toNatClampNeg (f_X10_within μ17 y19 9)) (fun μ21 => some (y4, μ21)) else none))) else none)))) else some (y4, μ2))))
theorem gp_X10_asked {q1 : Nat} {a2 : Int32} {a3 : Int32} {μ μ' : sh_Mem} {v : Int32} (hG : sh_G μ) (hq1 : sh_isL q1) (h : f_X10_asked q1 a2 a3 μ = some (v, μ')) : sh_G μ' := by
  unfold f_X10_asked at h
  obtain ⟨μ1, eμ1⟩ : ∃ y : sh_Mem, y = (sh_setI μ 55 1 0) := ⟨_, rfl⟩
  rw [sh_let_eq eμ1] at h
  have hG1 : sh_G μ1 := by rw [eμ1]; exact hG
  obtain ⟨y4, μ2, hr3, h⟩ := sh_bind_e h
  have hG2 := gp_X10_deed hG1 hq1 hr3
  by_cases c5 : y4 = 2
  · rw [if_pos c5] at h
    obtain ⟨μ6, hr7, h⟩ := sh_bindv_e h
    have hG6 := gp_X10_lookAround hG2 hq1 hr7
    obtain ⟨μ9, hr10, h⟩ := sh_bindv_e h
    have hG9 := gp_X10_lift hG6 hq1 hr10
    obtain ⟨μ12, hr13, h⟩ := sh_bindv_e h
    have hG12 := gp_X10_lift hG9 hq1 hr13
    obtain ⟨k15, h⟩ := sh_chk h
    obtain ⟨r16, er16⟩ : ∃ y : Nat, y = (sh_ref μ12 55 0) := ⟨_, rfl⟩
    rw [sh_let_eq er16] at h
    have k15r : sh_r μ12 55 0 = some r16 ∧ (r16 = 8 ∨ r16 = 29) := by rw [er16]; exact k15
    obtain ⟨y19, μ17, hr18, h⟩ := sh_bind_e h
    have hG17 := gp_X1_value hG12 (gP_f11 k15r.2) (sh_LAYat_56) hr18
    obtain ⟨k20, h⟩ := sh_chk h
    obtain ⟨μ21, eμ21⟩ : ∃ y : sh_Mem, y = (sh_setI μ17 (q1 + 4) a2.toNatClampNeg (f_X10_within μ17 y19 9)) := ⟨_, rfl⟩
    rw [sh_let_eq eμ21] at h
    have hG21 : sh_G μ21 := by rw [eμ21]; exact hG17
    obtain ⟨e1, e2⟩ := sh_some2 h
    exact e2 ▸ hG21
  · rw [if_neg c5] at h
    obtain ⟨e1, e2⟩ := sh_some2 h
    exact e2 ▸ hG2
theorem t_X10_asked {q1 : Nat} {a2 : Int32} {a3 : Int32} {μ μ' : sh_Mem} {v : Int32} (hG : sh_G μ) (hq1 : sh_isL q1) (h : f_X10_asked q1 a2 a3 μ = some (v, μ')) : sh_C0 l B D ca 5 M_X10_asked [.ref 55, .ref q1, .int a2, .int a3] μ (fun v0 μ0 => v0 = some (.int v) ∧ μ0 = μ') := by
  unfold f_X10_asked at h
  refine vv_aload_n 0 0 dX10_asked_0 rfl rfl ?_
  refine vv_iconst 1 dX10_asked_1 ik_0 ?_
  refine vn_putI 2 dX10_asked_2 fl_10_72 (Or.inl rfl) rfl (g_l_55 hG) (fun μ1 eμ1 => ?_)
  rw [sh_let_eq eμ1] at h
  have hG1 : sh_G μ1 := by rw [eμ1]; exact hG
  refine vv_aload_n 5 0 dX10_asked_5 rfl rfl ?_
  refine vv_aload_n 6 1 dX10_asked_6 rfl rfl ?_
  refine vv_iload_n 7 2 dX10_asked_7 rfl rfl ?_
  refine vv_iload_n 8 3 dX10_asked_8 rfl rfl ?_
  obtain ⟨y4, μ2, hr3, h⟩ := sh_bind_e h
  refine v1_callV [_, _, _] 9 dX10_asked_9 ck_X10_85 (g_l_55 hG1) ⟨by decide, rfl⟩ (t_X10_deed hG1 hq1 hr3) (Nat.le_of_ble_eq_true rfl) ⟨Nat.le_of_ble_eq_true rfl, Nat.le_of_ble_eq_true rfl⟩ rfl (Nat.le_of_ble_eq_true rfl) ?_
  have hG2 := gp_X10_deed hG1 hq1 hr3
  refine vv_istore (lv' := [(4, _), (0, _), (1, _), (2, _), (3, _)]) 12 4 dX10_asked_12 (by decide) rfl ?_
  refine vv_iload 14 4 dX10_asked_14 rfl ?_
  refine vv_iconst 16 dX10_asked_16 ik_2 ?_
  refine vv_icmp_ne 17 69 dX10_asked_17 (by decide) (fun c5 => ?_) (fun c5 => ?_)
  · rw [if_neg c5] at h
    refine vv_iload 69 4 dX10_asked_69 rfl ?_
    obtain ⟨e1, e2⟩ := sh_some2 h
    refine vv_iret 71 dX10_asked_71 rfl (Nat.le_refl _) (Nat.le_refl _) ⟨by rw [e1], e2⟩
  · rw [if_pos c5] at h
    refine vv_aload_n 20 0 dX10_asked_20 rfl rfl ?_
    refine vv_aload_n 21 1 dX10_asked_21 rfl rfl ?_
    refine vv_iload_n 22 2 dX10_asked_22 rfl rfl ?_
    obtain ⟨μ6, hr7, h⟩ := sh_bindv_e h
    refine v1_callV [_, _] 23 dX10_asked_23 ck_X10_88 (g_l_55 hG2) ⟨by decide, rfl⟩ (t_X10_lookAround hG2 hq1 hr7) (Nat.le_of_ble_eq_true rfl) ⟨Nat.le_of_ble_eq_true rfl, Nat.le_of_ble_eq_true rfl⟩ rfl (Nat.le_of_ble_eq_true rfl) ?_
    have hG6 := gp_X10_lookAround hG2 hq1 hr7
    refine vv_aload_n 26 0 dX10_asked_26 rfl rfl ?_
    refine vv_aload_n 27 1 dX10_asked_27 rfl rfl ?_
    refine vv_aload_n 28 0 dX10_asked_28 rfl rfl ?_
    refine vv_getI 29 dX10_asked_29 fl_10_92 rfl (g_l_55 hG6) ?_
    obtain ⟨μ9, hr10, h⟩ := sh_bindv_e h
    refine v1_callV [_, _] 32 dX10_asked_32 ck_X10_95 (g_l_55 hG6) ⟨by decide, rfl⟩ (t_X10_lift hG6 hq1 hr10) (Nat.le_of_ble_eq_true rfl) ⟨Nat.le_of_ble_eq_true rfl, Nat.le_of_ble_eq_true rfl⟩ rfl (Nat.le_of_ble_eq_true rfl) ?_
    have hG9 := gp_X10_lift hG6 hq1 hr10
    refine vv_aload_n 35 0 dX10_asked_35 rfl rfl ?_
    refine vv_aload_n 36 1 dX10_asked_36 rfl rfl ?_
    refine vv_aload_n 37 0 dX10_asked_37 rfl rfl ?_
    refine vv_getI 38 dX10_asked_38 fl_10_98 rfl (g_l_55 hG9) ?_
    obtain ⟨μ12, hr13, h⟩ := sh_bindv_e h
    refine v1_callV [_, _] 41 dX10_asked_41 ck_X10_95 (g_l_55 hG9) ⟨by decide, rfl⟩ (t_X10_lift hG9 hq1 hr13) (Nat.le_of_ble_eq_true rfl) ⟨Nat.le_of_ble_eq_true rfl, Nat.le_of_ble_eq_true rfl⟩ rfl (Nat.le_of_ble_eq_true rfl) ?_
    have hG12 := gp_X10_lift hG9 hq1 hr13
    refine vv_aload_n 44 1 dX10_asked_44 rfl rfl ?_
    refine vv_getR 45 dX10_asked_45 fl_10_38 rfl (gL_l hG12 hq1) (gL_r4 hG12 hq1) ?_
    refine vv_iload_n 48 2 dX10_asked_48 rfl rfl ?_
    refine vv_aload_n 49 0 dX10_asked_49 rfl rfl ?_
    obtain ⟨k15, h⟩ := sh_chk h
    refine vv_getR 50 dX10_asked_50 fl_10_22 rfl (g_l_55 hG12) k15.1 ?_
    refine vv_topr (fun r16 er16 => ?_)
    rw [sh_let_eq er16] at h
    have k15r : sh_r μ12 55 0 = some r16 ∧ (r16 = 8 ∨ r16 = 29) := by rw [er16]; exact k15
    refine vv_getR 53 dX10_asked_53 fl_10_101 rfl (gP_l hG12 k15r.2) (gP_r11 hG12 k15r.2) ?_
    refine vv_aload_n 56 0 dX10_asked_56 rfl rfl ?_
    refine vv_getR 57 dX10_asked_57 fl_10_9 rfl (g_l_55 hG12) (g_r_55_2 hG12) ?_
    obtain ⟨y19, μ17, hr18, h⟩ := sh_bind_e h
    refine v1_callV [_] 60 dX10_asked_60 ck_X10_79 (gF_l hG12 (gP_f11 k15r.2)) ⟨by decide, rfl⟩ (t_X1_value hG12 (gP_f11 k15r.2) (sh_LAYat_56) hr18) (Nat.le_of_ble_eq_true rfl) ⟨Nat.le_of_ble_eq_true rfl, Nat.le_of_ble_eq_true rfl⟩ rfl (Nat.le_of_ble_eq_true rfl) ?_
    have hG17 := gp_X1_value hG12 (gP_f11 k15r.2) (sh_LAYat_56) hr18
    refine vv_bipush 63 dX10_asked_63 bk_9 ?_
    refine v1_callS [_, _] 65 dX10_asked_65 ck_X10_104 (c_X10_within (μ := μ17) hG17) (Nat.le_of_ble_eq_true rfl) ⟨Nat.le_of_ble_eq_true rfl, Nat.le_of_ble_eq_true rfl⟩ rfl (Nat.le_of_ble_eq_true rfl) ?_
    obtain ⟨k20, h⟩ := sh_chk h
    refine vn_iast 68 dX10_asked_68 (gA_l hG17 (gLA4 hq1)) k20 (fun μ21 eμ21 => ?_)
    rw [sh_let_eq eμ21] at h
    have hG21 : sh_G μ21 := by rw [eμ21]; exact hG17
    refine vv_iload 69 4 dX10_asked_69 rfl ?_
    obtain ⟨e1, e2⟩ := sh_some2 h
    refine vv_iret 71 dX10_asked_71 rfl (Nat.le_refl _) (Nat.le_refl _) ⟨by rw [e1], e2⟩
noncomputable def f_X10_passDay (q1 : Nat) (a2 : Int32) (μ : sh_Mem) : Option sh_Mem := (if (sh_r μ 55 0 = some (sh_ref μ 55 0) ∧ ((sh_ref μ 55 0) = 8 ∨ (sh_ref μ 55 0) = 29)) then sh_let (sh_ref μ 55 0) (fun r2 => sh_bind (f_X5_rowOf r2 (sh_i μ q1 0) μ) (fun y5 μ3 => (if y5 = (-1) then sh_let (sh_setI μ3 q1 0 ((sh_i μ3 q1 0) + 1)) (fun μ7 => some μ7) else (if (sh_r μ3 55 0 = some (sh_ref μ3 55 0) ∧ ((sh_ref μ3 55 0) = 8 ∨ (sh_ref μ3 55 0) = 29)) then sh_let (sh_ref μ3 55 0) (fun r9 => (if sh_in y5 12 then (if ((a2 >>> ((sh_i μ3 (r9 + 3) y5.toNatClampNeg) &&& 31)) &&& 1) = 0 then (if (sh_r μ3 55 0 = some (sh_ref μ3 55 0) ∧ ((sh_ref μ3 55 0) = 8 ∨ (sh_ref μ3 55 0) = 29)) then sh_let (sh_ref μ3 55 0) (fun r14 => (if sh_in y5 12 then (if (sh_r μ3 55 0 = some (sh_ref μ3 55 0) ∧ ((sh_ref μ3 55 0) = 8 ∨ (sh_ref μ3 55 0) = 29)) then sh_let (sh_ref μ3 55 0) (fun r17 => (if sh_in y5 12 then sh_bind (f_X10_asked q1 (sh_i μ3 (r14 + 3) y5.toNatClampNeg) (sh_i μ3 (r17 + 4) y5.toNatClampNeg) μ3) (fun y21 μ19 => sh_let (sh_setI μ19 q1 0 ((sh_i μ19 q1 0) + 1)) (fun μ22 => some μ22)) else none)) else none) else none)) else none) else sh_let (sh_setI μ3 q1 0 ((sh_i μ3 q1 0) + 1)) (fun μ12 => some μ12)) else none)) else none)))) else none)
theorem gp_X10_passDay {q1 : Nat} {a2 : Int32} {μ μ' : sh_Mem} (hG : sh_G μ) (hq1 : sh_isL q1) (h : f_X10_passDay q1 a2 μ = some μ') : sh_G μ' := by
  unfold f_X10_passDay at h
  obtain ⟨k1, h⟩ := sh_chk h
  obtain ⟨r2, er2⟩ : ∃ y : Nat, y = (sh_ref μ 55 0) := ⟨_, rfl⟩
  rw [sh_let_eq er2] at h
  have k1r : sh_r μ 55 0 = some r2 ∧ (r2 = 8 ∨ r2 = 29) := by rw [er2]; exact k1
  obtain ⟨y5, μ3, hr4, h⟩ := sh_bind_e h
  have hG3 := gp_X5_rowOf hG k1r.2 hr4
  by_cases c6 : y5 = (-1)
  · rw [if_pos c6] at h
    obtain ⟨μ7, eμ7⟩ : ∃ y : sh_Mem, y = (sh_setI μ3 q1 0 ((sh_i μ3 q1 0) + 1)) := ⟨_, rfl⟩
    rw [sh_let_eq eμ7] at h
    have hG7 : sh_G μ7 := by rw [eμ7]; exact hG3
    have e2 := Option.some.inj h
    exact e2 ▸ hG7
  · rw [if_neg c6] at h
    obtain ⟨k8, h⟩ := sh_chk h
    obtain ⟨r9, er9⟩ : ∃ y : Nat, y = (sh_ref μ3 55 0) := ⟨_, rfl⟩
    rw [sh_let_eq er9] at h
    have k8r : sh_r μ3 55 0 = some r9 ∧ (r9 = 8 ∨ r9 = 29) := by rw [er9]; exact k8
    obtain ⟨k10, h⟩ := sh_chk h
    by_cases c11 : ((a2 >>> ((sh_i μ3 (r9 + 3) y5.toNatClampNeg) &&& 31)) &&& 1) = 0
    · rw [if_pos c11] at h
      obtain ⟨k13, h⟩ := sh_chk h
      obtain ⟨r14, er14⟩ : ∃ y : Nat, y = (sh_ref μ3 55 0) := ⟨_, rfl⟩
      rw [sh_let_eq er14] at h
      have k13r : sh_r μ3 55 0 = some r14 ∧ (r14 = 8 ∨ r14 = 29) := by rw [er14]; exact k13
      obtain ⟨k15, h⟩ := sh_chk h
      obtain ⟨k16, h⟩ := sh_chk h
      obtain ⟨r17, er17⟩ : ∃ y : Nat, y = (sh_ref μ3 55 0) := ⟨_, rfl⟩
      rw [sh_let_eq er17] at h
      have k16r : sh_r μ3 55 0 = some r17 ∧ (r17 = 8 ∨ r17 = 29) := by rw [er17]; exact k16
      obtain ⟨k18, h⟩ := sh_chk h
      obtain ⟨y21, μ19, hr20, h⟩ := sh_bind_e h
      have hG19 := gp_X10_asked hG3 hq1 hr20
      obtain ⟨μ22, eμ22⟩ : ∃ y : sh_Mem, y = (sh_setI μ19 q1 0 ((sh_i μ19 q1 0) + 1)) := ⟨_, rfl⟩
      rw [sh_let_eq eμ22] at h
      have hG22 : sh_G μ22 := by rw [eμ22]; exact hG19
      have e2 := Option.some.inj h
      exact e2 ▸ hG22
    · rw [if_neg c11] at h
      obtain ⟨μ12, eμ12⟩ : ∃ y : sh_Mem, y = (sh_setI μ3 q1 0 ((sh_i μ3 q1 0) + 1)) := ⟨_, rfl⟩
      rw [sh_let_eq eμ12] at h
      have hG12 : sh_G μ12 := by rw [eμ12]; exact hG3
      have e2 := Option.some.inj h
      exact e2 ▸ hG12
theorem t_X10_passDay {q1 : Nat} {a2 : Int32} {μ μ' : sh_Mem} (hG : sh_G μ) (hq1 : sh_isL q1) (h : f_X10_passDay q1 a2 μ = some μ') : sh_C0 l B D ca 6 M_X10_passDay [.ref 55, .ref q1, .int a2] μ (fun v0 μ0 => v0 = none ∧ μ0 = μ') := by
  unfold f_X10_passDay at h
  refine vv_aload_n 0 0 dX10_passDay_0 rfl rfl ?_
  obtain ⟨k1, h⟩ := sh_chk h
  refine vv_getR 1 dX10_passDay_1 fl_10_22 rfl (g_l_55 hG) k1.1 ?_
  refine vv_topr (fun r2 er2 => ?_)
  rw [sh_let_eq er2] at h
  have k1r : sh_r μ 55 0 = some r2 ∧ (r2 = 8 ∨ r2 = 29) := by rw [er2]; exact k1
  refine vv_aload_n 4 1 dX10_passDay_4 rfl rfl ?_
  refine vv_getI 5 dX10_passDay_5 fl_10_53 rfl (gL_l hG hq1) ?_
  obtain ⟨y5, μ3, hr4, h⟩ := sh_bind_e h
  refine v1_callV [_] 8 dX10_passDay_8 ck_X10_132 (gP_l hG k1r.2) ⟨by decide, rfl⟩ (t_X5_rowOf hG k1r.2 hr4) (Nat.le_of_ble_eq_true rfl) ⟨Nat.le_of_ble_eq_true rfl, Nat.le_of_ble_eq_true rfl⟩ rfl (Nat.le_of_ble_eq_true rfl) ?_
  have hG3 := gp_X5_rowOf hG k1r.2 hr4
  refine vv_istore_n (lv' := [(3, _), (0, _), (1, _), (2, _)]) 11 3 dX10_passDay_11 rfl (by decide) rfl ?_
  refine vv_iload_n 12 3 dX10_passDay_12 rfl rfl ?_
  refine vv_iconst 13 dX10_passDay_13 ik_m1 ?_
  refine vv_icmp_eq 14 57 dX10_passDay_14 (by decide) (fun c6 => ?_) (fun c6 => ?_)
  · rw [if_pos c6] at h
    refine vv_aload_n 57 1 dX10_passDay_57 rfl rfl ?_
    refine vv_dup_ref 58 dX10_passDay_58 ?_
    refine vv_getI 59 dX10_passDay_59 fl_10_53 rfl (gL_l hG3 hq1) ?_
    refine vv_iconst 62 dX10_passDay_62 ik_1 ?_
    refine vv_iadd 63 dX10_passDay_63 ?_
    refine vn_putI 64 dX10_passDay_64 fl_10_53 (Or.inl rfl) rfl (gL_l hG3 hq1) (fun μ7 eμ7 => ?_)
    rw [sh_let_eq eμ7] at h
    have hG7 : sh_G μ7 := by rw [eμ7]; exact hG3
    have e2 := Option.some.inj h
    refine vv_vret 67 dX10_passDay_67 rfl (Nat.le_refl _) (Nat.le_refl _) ⟨rfl, e2⟩
  · rw [if_neg c6] at h
    refine vv_iload_n 17 2 dX10_passDay_17 rfl rfl ?_
    refine vv_aload_n 18 0 dX10_passDay_18 rfl rfl ?_
    obtain ⟨k8, h⟩ := sh_chk h
    refine vv_getR 19 dX10_passDay_19 fl_10_22 rfl (g_l_55 hG3) k8.1 ?_
    refine vv_topr (fun r9 er9 => ?_)
    rw [sh_let_eq er9] at h
    have k8r : sh_r μ3 55 0 = some r9 ∧ (r9 = 8 ∨ r9 = 29) := by rw [er9]; exact k8
    refine vv_getR 22 dX10_passDay_22 fl_10_135 rfl (gP_l hG3 k8r.2) (gP_r8 hG3 k8r.2) ?_
    refine vv_iload_n 25 3 dX10_passDay_25 rfl rfl ?_
    obtain ⟨k10, h⟩ := sh_chk h
    refine vv_iald 26 dX10_passDay_26 (gA_l hG3 (gPA8 k8r.2)) k10 ?_
    refine vv_ishr 27 dX10_passDay_27 ?_
    refine vv_iconst 28 dX10_passDay_28 ik_1 ?_
    refine vv_iand 29 dX10_passDay_29 ?_
    refine vv_if_ne 30 57 dX10_passDay_30 (by decide) (fun c11 => ?_) (fun c11 => ?_)
    · rw [if_neg c11] at h
      refine vv_aload_n 57 1 dX10_passDay_57 rfl rfl ?_
      refine vv_dup_ref 58 dX10_passDay_58 ?_
      refine vv_getI 59 dX10_passDay_59 fl_10_53 rfl (gL_l hG3 hq1) ?_
      refine vv_iconst 62 dX10_passDay_62 ik_1 ?_
      refine vv_iadd 63 dX10_passDay_63 ?_
      refine vn_putI 64 dX10_passDay_64 fl_10_53 (Or.inl rfl) rfl (gL_l hG3 hq1) (fun μ12 eμ12 => ?_)
      rw [sh_let_eq eμ12] at h
      have hG12 : sh_G μ12 := by rw [eμ12]; exact hG3
      have e2 := Option.some.inj h
      refine vv_vret 67 dX10_passDay_67 rfl (Nat.le_refl _) (Nat.le_refl _) ⟨rfl, e2⟩
    · rw [if_pos c11] at h
      refine vv_aload_n 33 0 dX10_passDay_33 rfl rfl ?_
      refine vv_aload_n 34 1 dX10_passDay_34 rfl rfl ?_
      refine vv_aload_n 35 0 dX10_passDay_35 rfl rfl ?_
      obtain ⟨k13, h⟩ := sh_chk h
      refine vv_getR 36 dX10_passDay_36 fl_10_22 rfl (g_l_55 hG3) k13.1 ?_
      refine vv_topr (fun r14 er14 => ?_)
      rw [sh_let_eq er14] at h
      have k13r : sh_r μ3 55 0 = some r14 ∧ (r14 = 8 ∨ r14 = 29) := by rw [er14]; exact k13
      refine vv_getR 39 dX10_passDay_39 fl_10_135 rfl (gP_l hG3 k13r.2) (gP_r8 hG3 k13r.2) ?_
      refine vv_iload_n 42 3 dX10_passDay_42 rfl rfl ?_
      obtain ⟨k15, h⟩ := sh_chk h
      refine vv_iald 43 dX10_passDay_43 (gA_l hG3 (gPA8 k13r.2)) k15 ?_
      refine vv_aload_n 44 0 dX10_passDay_44 rfl rfl ?_
      obtain ⟨k16, h⟩ := sh_chk h
      refine vv_getR 45 dX10_passDay_45 fl_10_22 rfl (g_l_55 hG3) k16.1 ?_
      refine vv_topr (fun r17 er17 => ?_)
      rw [sh_let_eq er17] at h
      have k16r : sh_r μ3 55 0 = some r17 ∧ (r17 = 8 ∨ r17 = 29) := by rw [er17]; exact k16
      refine vv_getR 48 dX10_passDay_48 fl_10_138 rfl (gP_l hG3 k16r.2) (gP_r9 hG3 k16r.2) ?_
      refine vv_iload_n 51 3 dX10_passDay_51 rfl rfl ?_
      obtain ⟨k18, h⟩ := sh_chk h
      refine vv_iald 52 dX10_passDay_52 (gA_l hG3 (gPA9 k16r.2)) k18 ?_
      obtain ⟨y21, μ19, hr20, h⟩ := sh_bind_e h
      refine v1_callV [_, _, _] 53 dX10_passDay_53 ck_X10_68 (g_l_55 hG3) ⟨by decide, rfl⟩ (t_X10_asked hG3 hq1 hr20) (Nat.le_of_ble_eq_true rfl) ⟨Nat.le_of_ble_eq_true rfl, Nat.le_of_ble_eq_true rfl⟩ rfl (Nat.le_of_ble_eq_true rfl) ?_
      have hG19 := gp_X10_asked hG3 hq1 hr20
      refine vv_pop 56 dX10_passDay_56 ?_
      refine vv_aload_n 57 1 dX10_passDay_57 rfl rfl ?_
      refine vv_dup_ref 58 dX10_passDay_58 ?_
      refine vv_getI 59 dX10_passDay_59 fl_10_53 rfl (gL_l hG19 hq1) ?_
      refine vv_iconst 62 dX10_passDay_62 ik_1 ?_
      refine vv_iadd 63 dX10_passDay_63 ?_
      refine vn_putI 64 dX10_passDay_64 fl_10_53 (Or.inl rfl) rfl (gL_l hG19 hq1) (fun μ22 eμ22 => ?_)
      rw [sh_let_eq eμ22] at h
      have hG22 : sh_G μ22 := by rw [eμ22]; exact hG19
      have e2 := Option.some.inj h
      refine vv_vret 67 dX10_passDay_67 rfl (Nat.le_refl _) (Nat.le_refl _) ⟨rfl, e2⟩
noncomputable def f_X11_askNow (a1 : Int32) (a2 : Int32) (μ : sh_Mem) : Option (Int32 × sh_Mem) := sh_bind (f_X10_asked 49 a1 a2 μ) (fun y3 μ1 => (if y3 = 2 then sh_bindv (f_X4_keep (sh_i μ1 49 0) a1 a2 (sh_i μ1 55 1) μ1) (fun μ5 => some (y3, μ5)) else some (y3, μ1)))
theorem gp_X11_askNow {a1 : Int32} {a2 : Int32} {μ μ' : sh_Mem} {v : Int32} (hG : sh_G μ) (h : f_X11_askNow a1 a2 μ = some (v, μ')) : sh_G μ' := by
  unfold f_X11_askNow at h
  obtain ⟨y3, μ1, hr2, h⟩ := sh_bind_e h
  have hG1 := gp_X10_asked hG sh_isL_49 hr2
  by_cases c4 : y3 = 2
  · rw [if_pos c4] at h
    obtain ⟨μ5, hr6, h⟩ := sh_bindv_e h
    have hG5 := gp_X4_keep hG1 hr6
    obtain ⟨e1, e2⟩ := sh_some2 h
    exact e2 ▸ hG5
  · rw [if_neg c4] at h
    obtain ⟨e1, e2⟩ := sh_some2 h
    exact e2 ▸ hG1
theorem t_X11_askNow {a1 : Int32} {a2 : Int32} {μ μ' : sh_Mem} {v : Int32} (hG : sh_G μ) (h : f_X11_askNow a1 a2 μ = some (v, μ')) : sh_C0 l B D ca 6 M_X11_askNow [.ref 0, .int a1, .int a2] μ (fun v0 μ0 => v0 = some (.int v) ∧ μ0 = μ') := by
  unfold f_X11_askNow at h
  refine vv_aload_n 0 0 dX11_askNow_0 rfl rfl ?_
  refine vv_getR 1 dX11_askNow_1 fl_11_69 rfl (g_l_0 hG) (g_r_0_9 hG) ?_
  refine vv_aload_n 4 0 dX11_askNow_4 rfl rfl ?_
  refine vv_getR 5 dX11_askNow_5 fl_11_60 rfl (g_l_0 hG) (g_r_0_8 hG) ?_
  refine vv_iload_n 8 1 dX11_askNow_8 rfl rfl ?_
  refine vv_iload_n 9 2 dX11_askNow_9 rfl rfl ?_
  obtain ⟨y3, μ1, hr2, h⟩ := sh_bind_e h
  refine v1_callV [_, _, _] 10 dX11_askNow_10 ck_X11_331 (g_l_55 hG) ⟨by decide, rfl⟩ (t_X10_asked hG sh_isL_49 hr2) (Nat.le_of_ble_eq_true rfl) ⟨Nat.le_of_ble_eq_true rfl, Nat.le_of_ble_eq_true rfl⟩ rfl (Nat.le_of_ble_eq_true rfl) ?_
  have hG1 := gp_X10_asked hG sh_isL_49 hr2
  refine vv_istore_n (lv' := [(3, _), (0, _), (1, _), (2, _)]) 13 3 dX11_askNow_13 rfl (by decide) rfl ?_
  refine vv_iload_n 14 3 dX11_askNow_14 rfl rfl ?_
  refine vv_iconst 15 dX11_askNow_15 ik_2 ?_
  refine vv_icmp_ne 16 42 dX11_askNow_16 (by decide) (fun c4 => ?_) (fun c4 => ?_)
  · rw [if_neg c4] at h
    refine vv_iload_n 42 3 dX11_askNow_42 rfl rfl ?_
    obtain ⟨e1, e2⟩ := sh_some2 h
    refine vv_iret 43 dX11_askNow_43 rfl (Nat.le_refl _) (Nat.le_refl _) ⟨by rw [e1], e2⟩
  · rw [if_pos c4] at h
    refine vv_aload_n 19 0 dX11_askNow_19 rfl rfl ?_
    refine vv_getR 20 dX11_askNow_20 fl_11_76 rfl (g_l_0 hG1) (g_r_0_10 hG1) ?_
    refine vv_aload_n 23 0 dX11_askNow_23 rfl rfl ?_
    refine vv_getR 24 dX11_askNow_24 fl_11_60 rfl (g_l_0 hG1) (g_r_0_8 hG1) ?_
    refine vv_getI 27 dX11_askNow_27 fl_11_186 rfl (g_l_49 hG1) ?_
    refine vv_iload_n 30 1 dX11_askNow_30 rfl rfl ?_
    refine vv_iload_n 31 2 dX11_askNow_31 rfl rfl ?_
    refine vv_aload_n 32 0 dX11_askNow_32 rfl rfl ?_
    refine vv_getR 33 dX11_askNow_33 fl_11_69 rfl (g_l_0 hG1) (g_r_0_9 hG1) ?_
    refine vv_getI 36 dX11_askNow_36 fl_11_334 rfl (g_l_55 hG1) ?_
    obtain ⟨μ5, hr6, h⟩ := sh_bindv_e h
    refine v1_callV [_, _, _, _] 39 dX11_askNow_39 ck_X11_337 (g_l_63 hG1) ⟨by decide, rfl⟩ (t_X4_keep hG1 hr6) (Nat.le_of_ble_eq_true rfl) ⟨Nat.le_of_ble_eq_true rfl, Nat.le_of_ble_eq_true rfl⟩ rfl (Nat.le_of_ble_eq_true rfl) ?_
    have hG5 := gp_X4_keep hG1 hr6
    refine vv_iload_n 42 3 dX11_askNow_42 rfl rfl ?_
    obtain ⟨e1, e2⟩ := sh_some2 h
    refine vv_iret 43 dX11_askNow_43 rfl (Nat.le_refl _) (Nat.le_refl _) ⟨by rw [e1], e2⟩
noncomputable def f_X11_dayNow (μ : sh_Mem) : Option (Int32 × sh_Mem) := (if (sh_r μ 0 7 = some (sh_ref μ 0 7) ∧ ((sh_ref μ 0 7) = 8 ∨ (sh_ref μ 0 7) = 29)) then sh_let (sh_ref μ 0 7) (fun r2 => sh_bind (f_X5_rowOf r2 (sh_i μ 49 0) μ) (fun y5 μ3 => (if y5 = (-1) then sh_let (sh_setI μ3 49 0 ((sh_i μ3 49 0) + 1)) (fun μ18 => some (0, μ18)) else (if (sh_r μ3 0 7 = some (sh_ref μ3 0 7) ∧ ((sh_ref μ3 0 7) = 8 ∨ (sh_ref μ3 0 7) = 29)) then sh_let (sh_ref μ3 0 7) (fun r8 => (if sh_in y5 12 then (if (sh_r μ3 0 7 = some (sh_ref μ3 0 7) ∧ ((sh_ref μ3 0 7) = 8 ∨ (sh_ref μ3 0 7) = 29)) then sh_let (sh_ref μ3 0 7) (fun r11 => (if sh_in y5 12 then sh_bind (f_X11_askNow (sh_i μ3 (r8 + 3) y5.toNatClampNeg) (sh_i μ3 (r11 + 4) y5.toNatClampNeg) μ3) (fun y15 μ13 => sh_let (sh_setI μ13 49 0 ((sh_i μ13 49 0) + 1)) (fun μ16 => (if y15 = 2 then some (1, μ16) else some (0, μ16)))) else none)) else none) else none)) else none)))) else none)
theorem gp_X11_dayNow {μ μ' : sh_Mem} {v : Int32} (hG : sh_G μ) (h : f_X11_dayNow μ = some (v, μ')) : sh_G μ' := by
  unfold f_X11_dayNow at h
  obtain ⟨k1, h⟩ := sh_chk h
  obtain ⟨r2, er2⟩ : ∃ y : Nat, y = (sh_ref μ 0 7) := ⟨_, rfl⟩
  rw [sh_let_eq er2] at h
  have k1r : sh_r μ 0 7 = some r2 ∧ (r2 = 8 ∨ r2 = 29) := by rw [er2]; exact k1
  obtain ⟨y5, μ3, hr4, h⟩ := sh_bind_e h
  have hG3 := gp_X5_rowOf hG k1r.2 hr4
  by_cases c6 : y5 = (-1)
  · rw [if_pos c6] at h
    obtain ⟨μ18, eμ18⟩ : ∃ y : sh_Mem, y = (sh_setI μ3 49 0 ((sh_i μ3 49 0) + 1)) := ⟨_, rfl⟩
    rw [sh_let_eq eμ18] at h
    have hG18 : sh_G μ18 := by rw [eμ18]; exact hG3
    obtain ⟨e1, e2⟩ := sh_some2 h
    exact e2 ▸ hG18
  · rw [if_neg c6] at h
    obtain ⟨k7, h⟩ := sh_chk h
    obtain ⟨r8, er8⟩ : ∃ y : Nat, y = (sh_ref μ3 0 7) := ⟨_, rfl⟩
    rw [sh_let_eq er8] at h
    have k7r : sh_r μ3 0 7 = some r8 ∧ (r8 = 8 ∨ r8 = 29) := by rw [er8]; exact k7
    obtain ⟨k9, h⟩ := sh_chk h
    obtain ⟨k10, h⟩ := sh_chk h
    obtain ⟨r11, er11⟩ : ∃ y : Nat, y = (sh_ref μ3 0 7) := ⟨_, rfl⟩
    rw [sh_let_eq er11] at h
    have k10r : sh_r μ3 0 7 = some r11 ∧ (r11 = 8 ∨ r11 = 29) := by rw [er11]; exact k10
    obtain ⟨k12, h⟩ := sh_chk h
    obtain ⟨y15, μ13, hr14, h⟩ := sh_bind_e h
    have hG13 := gp_X11_askNow hG3 hr14
    obtain ⟨μ16, eμ16⟩ : ∃ y : sh_Mem, y = (sh_setI μ13 49 0 ((sh_i μ13 49 0) + 1)) := ⟨_, rfl⟩
    rw [sh_let_eq eμ16] at h
    have hG16 : sh_G μ16 := by rw [eμ16]; exact hG13
    by_cases c17 : y15 = 2
    · rw [if_pos c17] at h
      obtain ⟨e1, e2⟩ := sh_some2 h
      exact e2 ▸ hG16
    · rw [if_neg c17] at h
      obtain ⟨e1, e2⟩ := sh_some2 h
      exact e2 ▸ hG16
theorem t_X11_dayNow {μ μ' : sh_Mem} {v : Int32} (hG : sh_G μ) (h : f_X11_dayNow μ = some (v, μ')) : sh_C0 l B D ca 7 M_X11_dayNow [.ref 0] μ (fun v0 μ0 => v0 = some (.int v) ∧ μ0 = μ') := by
  unfold f_X11_dayNow at h
  refine vv_aload_n 0 0 dX11_dayNow_0 rfl rfl ?_
  obtain ⟨k1, h⟩ := sh_chk h
  refine vv_getR 1 dX11_dayNow_1 fl_11_53 rfl (g_l_0 hG) k1.1 ?_
  refine vv_topr (fun r2 er2 => ?_)
  rw [sh_let_eq er2] at h
  have k1r : sh_r μ 0 7 = some r2 ∧ (r2 = 8 ∨ r2 = 29) := by rw [er2]; exact k1
  refine vv_aload_n 4 0 dX11_dayNow_4 rfl rfl ?_
  refine vv_getR 5 dX11_dayNow_5 fl_11_60 rfl (g_l_0 hG) (g_r_0_8 hG) ?_
  refine vv_getI 8 dX11_dayNow_8 fl_11_186 rfl (g_l_49 hG) ?_
  obtain ⟨y5, μ3, hr4, h⟩ := sh_bind_e h
  refine v1_callV [_] 11 dX11_dayNow_11 ck_X11_347 (gP_l hG k1r.2) ⟨by decide, rfl⟩ (t_X5_rowOf hG k1r.2 hr4) (Nat.le_of_ble_eq_true rfl) ⟨Nat.le_of_ble_eq_true rfl, Nat.le_of_ble_eq_true rfl⟩ rfl (Nat.le_of_ble_eq_true rfl) ?_
  have hG3 := gp_X5_rowOf hG k1r.2 hr4
  refine vv_istore_n (lv' := [(1, _), (0, _)]) 14 1 dX11_dayNow_14 rfl (by decide) rfl ?_
  refine vv_iload_n 15 1 dX11_dayNow_15 rfl rfl ?_
  refine vv_iconst 16 dX11_dayNow_16 ik_m1 ?_
  refine vv_icmp_ne 17 24 dX11_dayNow_17 (by decide) (fun c6 => ?_) (fun c6 => ?_)
  · rw [if_neg c6] at h
    refine vv_aload_n 24 0 dX11_dayNow_24 rfl rfl ?_
    refine vv_aload_n 25 0 dX11_dayNow_25 rfl rfl ?_
    obtain ⟨k7, h⟩ := sh_chk h
    refine vv_getR 26 dX11_dayNow_26 fl_11_53 rfl (g_l_0 hG3) k7.1 ?_
    refine vv_topr (fun r8 er8 => ?_)
    rw [sh_let_eq er8] at h
    have k7r : sh_r μ3 0 7 = some r8 ∧ (r8 = 8 ∨ r8 = 29) := by rw [er8]; exact k7
    refine vv_getR 29 dX11_dayNow_29 fl_11_235 rfl (gP_l hG3 k7r.2) (gP_r8 hG3 k7r.2) ?_
    refine vv_iload_n 32 1 dX11_dayNow_32 rfl rfl ?_
    obtain ⟨k9, h⟩ := sh_chk h
    refine vv_iald 33 dX11_dayNow_33 (gA_l hG3 (gPA8 k7r.2)) k9 ?_
    refine vv_aload_n 34 0 dX11_dayNow_34 rfl rfl ?_
    obtain ⟨k10, h⟩ := sh_chk h
    refine vv_getR 35 dX11_dayNow_35 fl_11_53 rfl (g_l_0 hG3) k10.1 ?_
    refine vv_topr (fun r11 er11 => ?_)
    rw [sh_let_eq er11] at h
    have k10r : sh_r μ3 0 7 = some r11 ∧ (r11 = 8 ∨ r11 = 29) := by rw [er11]; exact k10
    refine vv_getR 38 dX11_dayNow_38 fl_11_238 rfl (gP_l hG3 k10r.2) (gP_r9 hG3 k10r.2) ?_
    refine vv_iload_n 41 1 dX11_dayNow_41 rfl rfl ?_
    obtain ⟨k12, h⟩ := sh_chk h
    refine vv_iald 42 dX11_dayNow_42 (gA_l hG3 (gPA9 k10r.2)) k12 ?_
    obtain ⟨y15, μ13, hr14, h⟩ := sh_bind_e h
    refine v1_callV [_, _] 43 dX11_dayNow_43 ck_X11_328 (g_l_0 hG3) ⟨by decide, rfl⟩ (t_X11_askNow hG3 hr14) (Nat.le_of_ble_eq_true rfl) ⟨Nat.le_of_ble_eq_true rfl, Nat.le_of_ble_eq_true rfl⟩ rfl (Nat.le_of_ble_eq_true rfl) ?_
    have hG13 := gp_X11_askNow hG3 hr14
    refine vv_istore_n (lv' := [(2, _), (1, _), (0, _)]) 46 2 dX11_dayNow_46 rfl (by decide) rfl ?_
    refine vv_aload_n 47 0 dX11_dayNow_47 rfl rfl ?_
    refine vv_getR 48 dX11_dayNow_48 fl_11_60 rfl (g_l_0 hG13) (g_r_0_8 hG13) ?_
    refine vv_dup_ref 51 dX11_dayNow_51 ?_
    refine vv_getI 52 dX11_dayNow_52 fl_11_186 rfl (g_l_49 hG13) ?_
    refine vv_iconst 55 dX11_dayNow_55 ik_1 ?_
    refine vv_iadd 56 dX11_dayNow_56 ?_
    refine vn_putI 57 dX11_dayNow_57 fl_11_186 (Or.inl rfl) rfl (g_l_49 hG13) (fun μ16 eμ16 => ?_)
    rw [sh_let_eq eμ16] at h
    have hG16 : sh_G μ16 := by rw [eμ16]; exact hG13
    refine vv_iload_n 60 2 dX11_dayNow_60 rfl rfl ?_
    refine vv_iconst 61 dX11_dayNow_61 ik_2 ?_
    refine vv_icmp_ne 62 69 dX11_dayNow_62 (by decide) (fun c17 => ?_) (fun c17 => ?_)
    · rw [if_neg c17] at h
      refine vv_iconst 69 dX11_dayNow_69 ik_0 ?_
      obtain ⟨e1, e2⟩ := sh_some2 h
      refine vv_iret 70 dX11_dayNow_70 rfl (Nat.le_refl _) (Nat.le_refl _) ⟨by rw [e1], e2⟩
    · rw [if_pos c17] at h
      refine vv_iconst 65 dX11_dayNow_65 ik_1 ?_
      refine vv_goto 66 70 dX11_dayNow_66 (by decide) ?_
      obtain ⟨e1, e2⟩ := sh_some2 h
      refine vv_iret 70 dX11_dayNow_70 rfl (Nat.le_refl _) (Nat.le_refl _) ⟨by rw [e1], e2⟩
  · rw [if_pos c6] at h
    refine vv_iconst 20 dX11_dayNow_20 ik_m1 ?_
    refine vv_goto 21 46 dX11_dayNow_21 (by decide) ?_
    refine vv_istore_n (lv' := [(2, _), (1, _), (0, _)]) 46 2 dX11_dayNow_46 rfl (by decide) rfl ?_
    refine vv_aload_n 47 0 dX11_dayNow_47 rfl rfl ?_
    refine vv_getR 48 dX11_dayNow_48 fl_11_60 rfl (g_l_0 hG3) (g_r_0_8 hG3) ?_
    refine vv_dup_ref 51 dX11_dayNow_51 ?_
    refine vv_getI 52 dX11_dayNow_52 fl_11_186 rfl (g_l_49 hG3) ?_
    refine vv_iconst 55 dX11_dayNow_55 ik_1 ?_
    refine vv_iadd 56 dX11_dayNow_56 ?_
    refine vn_putI 57 dX11_dayNow_57 fl_11_186 (Or.inl rfl) rfl (g_l_49 hG3) (fun μ18 eμ18 => ?_)
    rw [sh_let_eq eμ18] at h
    have hG18 : sh_G μ18 := by rw [eμ18]; exact hG3
    refine vv_iload_n 60 2 dX11_dayNow_60 rfl rfl ?_
    refine vv_iconst 61 dX11_dayNow_61 ik_2 ?_
    refine vv_icmp_ne 62 69 dX11_dayNow_62 (by decide) (fun _ => ?_) (fun hc => absurd hc (by decide))
    refine vv_iconst 69 dX11_dayNow_69 ik_0 ?_
    obtain ⟨e1, e2⟩ := sh_some2 h
    refine vv_iret 70 dX11_dayNow_70 rfl (Nat.le_refl _) (Nat.le_refl _) ⟨by rw [e1], e2⟩
end
