section
variable {l : Launch} {B : Nat} {D : va_G} {ca : Nat → ClassId} {μ : sh_Mem}
noncomputable def F_X12_stores : Nat → Nat → Int32 → sh_Mem → Option sh_Mem
  | 0, _, _, _ => none
  | fuel + 1, lbl, i1, μ => match lbl with
    | 1 => (if 232 ≤ i1 then (if 20 ≤ (sh_i μ 291 76) then some μ else sh_let (sh_setI μ 291 76 ((sh_i μ 291 76) + 1)) (fun μ10 => some μ10)) else (if sh_in i1 232 then (if sh_in ((232 * (sh_i μ 291 77)) + i1) 4640 then sh_let (sh_setI μ 340 (((232 * (sh_i μ 291 77)) + i1)).toNatClampNeg (sh_i μ 330 i1.toNatClampNeg)) (fun μ13 => F_X12_stores fuel 1 (i1 + 1) μ13) else none) else none))
    | _ => none
noncomputable def f_X12_stores (μ : sh_Mem) : Option sh_Mem := sh_let (sh_setI μ 291 77 (((sh_i μ 291 77) + 1) - ((sh_i μ 291 77) + 1) / 20 * 20)) (fun μ14 => F_X12_stores sh_fuel 1 0 μ14)
theorem gpl_X12_stores (fuel : Nat) : (∀ ⦃i1 : Int32⦄ ⦃μ μ' : sh_Mem⦄, sh_G μ → F_X12_stores fuel 1 i1 μ = some μ' → sh_G μ') := by
  induction fuel with
  | zero => intro i1 μ μ' hG h; cases h
  | succ fuel ih =>
    have ih_15 := ih
    intro i1 μ μ' hG h
    replace h : ((if 232 ≤ i1 then (if 20 ≤ (sh_i μ 291 76) then some μ else sh_let (sh_setI μ 291 76 ((sh_i μ 291 76) + 1)) (fun μ10 => some μ10)) else (if sh_in i1 232 then (if sh_in ((232 * (sh_i μ 291 77)) + i1) 4640 then sh_let (sh_setI μ 340 (((232 * (sh_i μ 291 77)) + i1)).toNatClampNeg (sh_i μ 330 i1.toNatClampNeg)) (fun μ13 => F_X12_stores fuel 1 (i1 + 1) μ13) else none) else none)) : Option sh_Mem) = some μ' := h
    by_cases c8 : 232 ≤ i1
    · rw [if_pos c8] at h
      by_cases c9 : 20 ≤ (sh_i μ 291 76)
      · rw [if_pos c9] at h
        have e2 := Option.some.inj h
        exact e2 ▸ hG
      · rw [if_neg c9] at h
        obtain ⟨μ10, eμ10⟩ : ∃ y : sh_Mem, y = (sh_setI μ 291 76 ((sh_i μ 291 76) + 1)) := ⟨_, rfl⟩
        rw [sh_let_eq eμ10] at h
        have hG10 : sh_G μ10 := by rw [eμ10]; exact hG
        have e2 := Option.some.inj h
        exact e2 ▸ hG10
    · rw [if_neg c8] at h
      obtain ⟨k11, h⟩ := sh_chk h
      obtain ⟨k12, h⟩ := sh_chk h
      obtain ⟨μ13, eμ13⟩ : ∃ y : sh_Mem, y = (sh_setI μ 340 (((232 * (sh_i μ 291 77)) + i1)).toNatClampNeg (sh_i μ 330 i1.toNatClampNeg)) := ⟨_, rfl⟩
      rw [sh_let_eq eμ13] at h
      have hG13 : sh_G μ13 := by rw [eμ13]; exact hG
      exact ih_15 hG13 h
theorem tl_X12_stores (fuel : Nat) : (∀ ⦃i1 : Int32⦄ ⦃μ μ' : sh_Mem⦄, sh_G μ → F_X12_stores fuel 1 i1 μ = some μ' → sh_V0 l B D ca 1 M_X12_stores 15 [(0, .ref 291), (1, .int i1)] [] μ (fun v0 μ0 => v0 = none ∧ μ0 = μ')) := by
  induction fuel with
  | zero => intro i1 μ μ' hG h; cases h
  | succ fuel ih =>
    have ih_15 := ih
    intro i1 μ μ' hG h
    replace h : ((if 232 ≤ i1 then (if 20 ≤ (sh_i μ 291 76) then some μ else sh_let (sh_setI μ 291 76 ((sh_i μ 291 76) + 1)) (fun μ10 => some μ10)) else (if sh_in i1 232 then (if sh_in ((232 * (sh_i μ 291 77)) + i1) 4640 then sh_let (sh_setI μ 340 (((232 * (sh_i μ 291 77)) + i1)).toNatClampNeg (sh_i μ 330 i1.toNatClampNeg)) (fun μ13 => F_X12_stores fuel 1 (i1 + 1) μ13) else none) else none)) : Option sh_Mem) = some μ' := h
    refine vv_iload_n 15 1 dX12_stores_15 rfl rfl ?_
    refine vv_sipush 16 dX12_stores_16 sk_232 ?_
    refine vv_icmp_ge 19 49 dX12_stores_19 (by decide) (fun c8 => ?_) (fun c8 => ?_)
    · rw [if_pos c8] at h
      refine vv_aload_n 49 0 dX12_stores_49 rfl rfl ?_
      refine vv_getI 50 dX12_stores_50 fl_12_402 rfl (g_l_291 hG) ?_
      refine vv_bipush 53 dX12_stores_53 bk_20 ?_
      refine vv_icmp_ge 55 68 dX12_stores_55 (by decide) (fun c9 => ?_) (fun c9 => ?_)
      · rw [if_pos c9] at h
        have e2 := Option.some.inj h
        refine vv_vret 68 dX12_stores_68 rfl (Nat.le_refl _) (Nat.le_refl _) ⟨rfl, e2⟩
      · rw [if_neg c9] at h
        refine vv_aload_n 58 0 dX12_stores_58 rfl rfl ?_
        refine vv_dup_ref 59 dX12_stores_59 ?_
        refine vv_getI 60 dX12_stores_60 fl_12_402 rfl (g_l_291 hG) ?_
        refine vv_iconst 63 dX12_stores_63 ik_1 ?_
        refine vv_iadd 64 dX12_stores_64 ?_
        refine vn_putI 65 dX12_stores_65 fl_12_402 (Or.inl rfl) rfl (g_l_291 hG) (fun μ10 eμ10 => ?_)
        rw [sh_let_eq eμ10] at h
        have hG10 : sh_G μ10 := by rw [eμ10]; exact hG
        have e2 := Option.some.inj h
        refine vv_vret 68 dX12_stores_68 rfl (Nat.le_refl _) (Nat.le_refl _) ⟨rfl, e2⟩
    · rw [if_neg c8] at h
      refine vv_aload_n 22 0 dX12_stores_22 rfl rfl ?_
      refine vv_getR 23 dX12_stores_23 fl_12_160 rfl (g_l_291 hG) (g_r_291_75 hG) ?_
      refine vv_sipush 26 dX12_stores_26 sk_232 ?_
      refine vv_aload_n 29 0 dX12_stores_29 rfl rfl ?_
      refine vv_getI 30 dX12_stores_30 fl_12_619 rfl (g_l_291 hG) ?_
      refine vv_imul 33 dX12_stores_33 ?_
      refine vv_iload_n 34 1 dX12_stores_34 rfl rfl ?_
      refine vv_iadd 35 dX12_stores_35 ?_
      refine vv_aload_n 36 0 dX12_stores_36 rfl rfl ?_
      refine vv_getR 37 dX12_stores_37 fl_12_130 rfl (g_l_291 hG) (g_r_291_52 hG) ?_
      refine vv_iload_n 40 1 dX12_stores_40 rfl rfl ?_
      obtain ⟨k11, h⟩ := sh_chk h
      refine vv_iald 41 dX12_stores_41 (g_l_330 hG) k11 ?_
      obtain ⟨k12, h⟩ := sh_chk h
      refine vn_iast 42 dX12_stores_42 (g_l_340 hG) k12 (fun μ13 eμ13 => ?_)
      rw [sh_let_eq eμ13] at h
      have hG13 : sh_G μ13 := by rw [eμ13]; exact hG
      refine vv_iincc (lv' := [(1, _), (0, _)]) 43 1 dX12_stores_43 rfl ik_1 (by decide) rfl ?_
      refine vv_goto 46 15 dX12_stores_46 (by decide) ?_
      refine vv_sub [(0, _), (1, _)] (sh_subm [1, 0] rfl) ?_
      exact ih_15 hG13 h
theorem gp_X12_stores {μ μ' : sh_Mem} (hG : sh_G μ) (h : f_X12_stores μ = some μ') : sh_G μ' := by
  have ih_15 := (gpl_X12_stores sh_fuel)
  unfold f_X12_stores at h
  obtain ⟨μ14, eμ14⟩ : ∃ y : sh_Mem, y = (sh_setI μ 291 77 (((sh_i μ 291 77) + 1) - ((sh_i μ 291 77) + 1) / 20 * 20)) := ⟨_, rfl⟩
  rw [sh_let_eq eμ14] at h
  have hG14 : sh_G μ14 := by rw [eμ14]; exact hG
  exact ih_15 hG14 h
theorem t_X12_stores {μ μ' : sh_Mem} (hG : sh_G μ) (h : f_X12_stores μ = some μ') : sh_C0 l B D ca 1 M_X12_stores [.ref 291] μ (fun v0 μ0 => v0 = none ∧ μ0 = μ') := by
  have ih_15 := (tl_X12_stores (l := l) (B := B) (D := D) (ca := ca) sh_fuel)
  unfold f_X12_stores at h
  refine vv_aload_n 0 0 dX12_stores_0 rfl rfl ?_
  refine vv_aload_n 1 0 dX12_stores_1 rfl rfl ?_
  refine vv_getI 2 dX12_stores_2 fl_12_619 rfl (g_l_291 hG) ?_
  refine vv_iconst 5 dX12_stores_5 ik_1 ?_
  refine vv_iadd 6 dX12_stores_6 ?_
  refine vv_bipush 7 dX12_stores_7 bk_20 ?_
  refine vv_irem 9 dX12_stores_9 (by decide) ?_
  refine vn_putI 10 dX12_stores_10 fl_12_619 (Or.inl rfl) rfl (g_l_291 hG) (fun μ14 eμ14 => ?_)
  rw [sh_let_eq eμ14] at h
  have hG14 : sh_G μ14 := by rw [eμ14]; exact hG
  refine vv_iconst 13 dX12_stores_13 ik_0 ?_
  refine vv_istore_n (lv' := [(1, _), (0, _)]) 14 1 dX12_stores_14 rfl (by decide) rfl ?_
  refine vv_sub [(0, _), (1, _)] (sh_subm [1, 0] rfl) ?_
  exact ih_15 hG14 h
noncomputable def F_X12_undo : Nat → Nat → Int32 → sh_Mem → Option (Int32 × sh_Mem)
  | 0, _, _, _ => none
  | fuel + 1, lbl, i1, μ => match lbl with
    | 1 => (if 232 ≤ i1 then sh_let (sh_setI μ 291 77 ((((sh_i μ 291 77) + 20) - 1) - (((sh_i μ 291 77) + 20) - 1) / 20 * 20)) (fun μ10 => sh_let (sh_setI μ10 291 76 ((sh_i μ10 291 76) - 1)) (fun μ11 => some (1, μ11))) else (if sh_in ((232 * (sh_i μ 291 77)) + i1) 4640 then (if sh_in i1 232 then sh_let (sh_setI μ 330 i1.toNatClampNeg (sh_i μ 340 (((232 * (sh_i μ 291 77)) + i1)).toNatClampNeg)) (fun μ14 => F_X12_undo fuel 1 (i1 + 1) μ14) else none) else none))
    | _ => none
noncomputable def f_X12_undo (μ : sh_Mem) : Option (Int32 × sh_Mem) := (if (sh_i μ 291 76) = 0 then sh_let (sh_setI μ 293 (Int32.toNatClampNeg 4) ((sh_i μ 293 (Int32.toNatClampNeg 4)) + 1)) (fun μ16 => some (0, μ16)) else F_X12_undo sh_fuel 1 0 μ)
theorem gpl_X12_undo (fuel : Nat) : (∀ ⦃i1 : Int32⦄ ⦃μ μ' : sh_Mem⦄ ⦃v : Int32⦄, sh_G μ → F_X12_undo fuel 1 i1 μ = some (v, μ') → sh_G μ') := by
  induction fuel with
  | zero => intro i1 μ μ' v hG h; cases h
  | succ fuel ih =>
    have ih_21 := ih
    intro i1 μ μ' v hG h
    replace h : ((if 232 ≤ i1 then sh_let (sh_setI μ 291 77 ((((sh_i μ 291 77) + 20) - 1) - (((sh_i μ 291 77) + 20) - 1) / 20 * 20)) (fun μ10 => sh_let (sh_setI μ10 291 76 ((sh_i μ10 291 76) - 1)) (fun μ11 => some (1, μ11))) else (if sh_in ((232 * (sh_i μ 291 77)) + i1) 4640 then (if sh_in i1 232 then sh_let (sh_setI μ 330 i1.toNatClampNeg (sh_i μ 340 (((232 * (sh_i μ 291 77)) + i1)).toNatClampNeg)) (fun μ14 => F_X12_undo fuel 1 (i1 + 1) μ14) else none) else none)) : Option (Int32 × sh_Mem)) = some (v, μ') := h
    by_cases c9 : 232 ≤ i1
    · rw [if_pos c9] at h
      obtain ⟨μ10, eμ10⟩ : ∃ y : sh_Mem, y = (sh_setI μ 291 77 ((((sh_i μ 291 77) + 20) - 1) - (((sh_i μ 291 77) + 20) - 1) / 20 * 20)) := ⟨_, rfl⟩
      rw [sh_let_eq eμ10] at h
      have hG10 : sh_G μ10 := by rw [eμ10]; exact hG
      obtain ⟨μ11, eμ11⟩ : ∃ y : sh_Mem, y = (sh_setI μ10 291 76 ((sh_i μ10 291 76) - 1)) := ⟨_, rfl⟩
      rw [sh_let_eq eμ11] at h
      have hG11 : sh_G μ11 := by rw [eμ11]; exact hG10
      obtain ⟨e1, e2⟩ := sh_some2 h
      exact e2 ▸ hG11
    · rw [if_neg c9] at h
      obtain ⟨k12, h⟩ := sh_chk h
      obtain ⟨k13, h⟩ := sh_chk h
      obtain ⟨μ14, eμ14⟩ : ∃ y : sh_Mem, y = (sh_setI μ 330 i1.toNatClampNeg (sh_i μ 340 (((232 * (sh_i μ 291 77)) + i1)).toNatClampNeg)) := ⟨_, rfl⟩
      rw [sh_let_eq eμ14] at h
      have hG14 : sh_G μ14 := by rw [eμ14]; exact hG
      exact ih_21 hG14 h
theorem tl_X12_undo (fuel : Nat) : (∀ ⦃i1 : Int32⦄ ⦃μ μ' : sh_Mem⦄ ⦃v : Int32⦄, sh_G μ → F_X12_undo fuel 1 i1 μ = some (v, μ') → sh_V0 l B D ca 1 M_X12_undo 21 [(0, .ref 291), (1, .int i1)] [] μ (fun v0 μ0 => v0 = some (.int v) ∧ μ0 = μ')) := by
  induction fuel with
  | zero => intro i1 μ μ' v hG h; cases h
  | succ fuel ih =>
    have ih_21 := ih
    intro i1 μ μ' v hG h
    replace h : ((if 232 ≤ i1 then sh_let (sh_setI μ 291 77 ((((sh_i μ 291 77) + 20) - 1) - (((sh_i μ 291 77) + 20) - 1) / 20 * 20)) (fun μ10 => sh_let (sh_setI μ10 291 76 ((sh_i μ10 291 76) - 1)) (fun μ11 => some (1, μ11))) else (if sh_in ((232 * (sh_i μ 291 77)) + i1) 4640 then (if sh_in i1 232 then sh_let (sh_setI μ 330 i1.toNatClampNeg (sh_i μ 340 (((232 * (sh_i μ 291 77)) + i1)).toNatClampNeg)) (fun μ14 => F_X12_undo fuel 1 (i1 + 1) μ14) else none) else none)) : Option (Int32 × sh_Mem)) = some (v, μ') := h
    refine vv_iload_n 21 1 dX12_undo_21 rfl rfl ?_
    refine vv_sipush 22 dX12_undo_22 sk_232 ?_
    refine vv_icmp_ge 25 55 dX12_undo_25 (by decide) (fun c9 => ?_) (fun c9 => ?_)
    · rw [if_pos c9] at h
      refine vv_aload_n 55 0 dX12_undo_55 rfl rfl ?_
      refine vv_aload_n 56 0 dX12_undo_56 rfl rfl ?_
      refine vv_getI 57 dX12_undo_57 fl_12_619 rfl (g_l_291 hG) ?_
      refine vv_bipush 60 dX12_undo_60 bk_20 ?_
      refine vv_iadd 62 dX12_undo_62 ?_
      refine vv_iconst 63 dX12_undo_63 ik_1 ?_
      refine vv_isub 64 dX12_undo_64 ?_
      refine vv_bipush 65 dX12_undo_65 bk_20 ?_
      refine vv_irem 67 dX12_undo_67 (by decide) ?_
      refine vn_putI 68 dX12_undo_68 fl_12_619 (Or.inl rfl) rfl (g_l_291 hG) (fun μ10 eμ10 => ?_)
      rw [sh_let_eq eμ10] at h
      have hG10 : sh_G μ10 := by rw [eμ10]; exact hG
      refine vv_aload_n 71 0 dX12_undo_71 rfl rfl ?_
      refine vv_dup_ref 72 dX12_undo_72 ?_
      refine vv_getI 73 dX12_undo_73 fl_12_402 rfl (g_l_291 hG10) ?_
      refine vv_iconst 76 dX12_undo_76 ik_1 ?_
      refine vv_isub 77 dX12_undo_77 ?_
      refine vn_putI 78 dX12_undo_78 fl_12_402 (Or.inl rfl) rfl (g_l_291 hG10) (fun μ11 eμ11 => ?_)
      rw [sh_let_eq eμ11] at h
      have hG11 : sh_G μ11 := by rw [eμ11]; exact hG10
      refine vv_iconst 81 dX12_undo_81 ik_1 ?_
      obtain ⟨e1, e2⟩ := sh_some2 h
      refine vv_zret 82 dX12_undo_82 rfl rfl (Nat.le_refl _) (Nat.le_refl _) ⟨by rw [e1], e2⟩
    · rw [if_neg c9] at h
      refine vv_aload_n 28 0 dX12_undo_28 rfl rfl ?_
      refine vv_getR 29 dX12_undo_29 fl_12_130 rfl (g_l_291 hG) (g_r_291_52 hG) ?_
      refine vv_iload_n 32 1 dX12_undo_32 rfl rfl ?_
      refine vv_aload_n 33 0 dX12_undo_33 rfl rfl ?_
      refine vv_getR 34 dX12_undo_34 fl_12_160 rfl (g_l_291 hG) (g_r_291_75 hG) ?_
      refine vv_sipush 37 dX12_undo_37 sk_232 ?_
      refine vv_aload_n 40 0 dX12_undo_40 rfl rfl ?_
      refine vv_getI 41 dX12_undo_41 fl_12_619 rfl (g_l_291 hG) ?_
      refine vv_imul 44 dX12_undo_44 ?_
      refine vv_iload_n 45 1 dX12_undo_45 rfl rfl ?_
      refine vv_iadd 46 dX12_undo_46 ?_
      obtain ⟨k12, h⟩ := sh_chk h
      refine vv_iald 47 dX12_undo_47 (g_l_340 hG) k12 ?_
      obtain ⟨k13, h⟩ := sh_chk h
      refine vn_iast 48 dX12_undo_48 (g_l_330 hG) k13 (fun μ14 eμ14 => ?_)
      rw [sh_let_eq eμ14] at h
      have hG14 : sh_G μ14 := by rw [eμ14]; exact hG
      refine vv_iincc (lv' := [(1, _), (0, _)]) 49 1 dX12_undo_49 rfl ik_1 (by decide) rfl ?_
      refine vv_goto 52 21 dX12_undo_52 (by decide) ?_
      refine vv_sub [(0, _), (1, _)] (sh_subm [1, 0] rfl) ?_
      exact ih_21 hG14 h
theorem gp_X12_undo {μ μ' : sh_Mem} {v : Int32} (hG : sh_G μ) (h : f_X12_undo μ = some (v, μ')) : sh_G μ' := by
  have ih_21 := (gpl_X12_undo sh_fuel)
  unfold f_X12_undo at h
  by_cases c15 : (sh_i μ 291 76) = 0
  · rw [if_pos c15] at h
    obtain ⟨μ16, eμ16⟩ : ∃ y : sh_Mem, y = (sh_setI μ 293 (Int32.toNatClampNeg 4) ((sh_i μ 293 (Int32.toNatClampNeg 4)) + 1)) := ⟨_, rfl⟩
    rw [sh_let_eq eμ16] at h
    have hG16 : sh_G μ16 := by rw [eμ16]; exact hG
    obtain ⟨e1, e2⟩ := sh_some2 h
    exact e2 ▸ hG16
  · rw [if_neg c15] at h
    exact ih_21 hG h
theorem t_X12_undo {μ μ' : sh_Mem} {v : Int32} (hG : sh_G μ) (h : f_X12_undo μ = some (v, μ')) : sh_C0 l B D ca 1 M_X12_undo [.ref 291] μ (fun v0 μ0 => v0 = some (.int v) ∧ μ0 = μ') := by
  have ih_21 := (tl_X12_undo (l := l) (B := B) (D := D) (ca := ca) sh_fuel)
  unfold f_X12_undo at h
  refine vv_aload_n 0 0 dX12_undo_0 rfl rfl ?_
  refine vv_getI 1 dX12_undo_1 fl_12_402 rfl (g_l_291 hG) ?_
  refine vv_if_ne 4 19 dX12_undo_4 (by decide) (fun c15 => ?_) (fun c15 => ?_)
  · rw [if_neg c15] at h
    refine vv_iconst 19 dX12_undo_19 ik_0 ?_
    refine vv_istore_n (lv' := [(1, _), (0, _)]) 20 1 dX12_undo_20 rfl (by decide) rfl ?_
    refine vv_sub [(0, _), (1, _)] (sh_subm [1, 0] rfl) ?_
    exact ih_21 hG h
  · rw [if_pos c15] at h
    refine vv_aload_n 7 0 dX12_undo_7 rfl rfl ?_
    refine vv_getR 8 dX12_undo_8 fl_12_17 rfl (g_l_291 hG) (g_r_291_9 hG) ?_
    refine vv_iconst 11 dX12_undo_11 ik_4 ?_
    refine vv_dup2_ri 12 dX12_undo_12 ?_
    refine vv_iald 13 dX12_undo_13 (g_l_293 hG) (by unfold vp_in; decide) ?_
    refine vv_iconst 14 dX12_undo_14 ik_1 ?_
    refine vv_iadd 15 dX12_undo_15 ?_
    refine vn_iast 16 dX12_undo_16 (g_l_293 hG) (by unfold vp_in; decide) (fun μ16 eμ16 => ?_)
    rw [sh_let_eq eμ16] at h
    have hG16 : sh_G μ16 := by rw [eμ16]; exact hG
    refine vv_iconst 17 dX12_undo_17 ik_0 ?_
    obtain ⟨e1, e2⟩ := sh_some2 h
    refine vv_zret 18 dX12_undo_18 rfl rfl (Nat.le_refl _) (Nat.le_refl _) ⟨by rw [e1], e2⟩
noncomputable def f_X12_isRefused (μ : sh_Mem) : Option (Int32 × sh_Mem) := sh_let (sh_setI μ 293 (Int32.toNatClampNeg 2) ((sh_i μ 293 (Int32.toNatClampNeg 2)) + 1)) (fun μ1 => some (0, μ1))
theorem gp_X12_isRefused {μ μ' : sh_Mem} {v : Int32} (hG : sh_G μ) (h : f_X12_isRefused μ = some (v, μ')) : sh_G μ' := by
  unfold f_X12_isRefused at h
  obtain ⟨μ1, eμ1⟩ : ∃ y : sh_Mem, y = (sh_setI μ 293 (Int32.toNatClampNeg 2) ((sh_i μ 293 (Int32.toNatClampNeg 2)) + 1)) := ⟨_, rfl⟩
  rw [sh_let_eq eμ1] at h
  have hG1 : sh_G μ1 := by rw [eμ1]; exact hG
  obtain ⟨e1, e2⟩ := sh_some2 h
  exact e2 ▸ hG1
theorem t_X12_isRefused {μ μ' : sh_Mem} {v : Int32} (hG : sh_G μ) (h : f_X12_isRefused μ = some (v, μ')) : sh_C0 l B D ca 1 M_X12_isRefused [.ref 291] μ (fun v0 μ0 => v0 = some (.int v) ∧ μ0 = μ') := by
  unfold f_X12_isRefused at h
  refine vv_aload_n 0 0 dX12_isRefused_0 rfl rfl ?_
  refine vv_getR 1 dX12_isRefused_1 fl_12_17 rfl (g_l_291 hG) (g_r_291_9 hG) ?_
  refine vv_iconst 4 dX12_isRefused_4 ik_2 ?_
  refine vv_dup2_ri 5 dX12_isRefused_5 ?_
  refine vv_iald 6 dX12_isRefused_6 (g_l_293 hG) (by unfold vp_in; decide) ?_
  refine vv_iconst 7 dX12_isRefused_7 ik_1 ?_
  refine vv_iadd 8 dX12_isRefused_8 ?_
  refine vn_iast 9 dX12_isRefused_9 (g_l_293 hG) (by unfold vp_in; decide) (fun μ1 eμ1 => ?_)
  rw [sh_let_eq eμ1] at h
  have hG1 : sh_G μ1 := by rw [eμ1]; exact hG
  refine vv_iconst 10 dX12_isRefused_10 ik_0 ?_
  obtain ⟨e1, e2⟩ := sh_some2 h
  refine vv_zret 11 dX12_isRefused_11 rfl rfl (Nat.le_refl _) (Nat.le_refl _) ⟨by rw [e1], e2⟩
noncomputable def f_X12_teach (a1 : Int32) (a2 : Int32) (a3 : Int32) (μ : sh_Mem) : Option (Int32 × sh_Mem) := sh_bind (f_X12_isPerson a1 μ) (fun y3 μ1 => (if y3 = 0 then sh_bind (f_X12_isRefused μ1) (fun y7 μ5 => (if y7 = 0 ∨ y7 = 1 then some (y7, μ5) else none)) else sh_bind (f_X12_isTopic (a2).toInt64 μ1) (fun y11 μ9 => (if y11 = 0 then sh_bind (f_X12_isRefused μ9) (fun y15 μ13 => (if y15 = 0 ∨ y15 = 1 then some (y15, μ13) else none)) else (if (f_X12_isIn μ9 (a3).toInt64 0 1) = 0 then sh_bind (f_X12_isRefused μ9) (fun y20 μ18 => (if y20 = 0 ∨ y20 = 1 then some (y20, μ18) else none)) else sh_bind (f_X12_knowsOf a1 μ9) (fun y24 μ22 => (if ((y24 >>> (a2 &&& 31)) &&& 1) = a3 then sh_bind (f_X12_isRefused μ22) (fun y34 μ32 => (if y34 = 0 ∨ y34 = 1 then some (y34, μ32) else none)) else sh_bindv (f_X12_stores μ22) (fun μ26 => (if sh_in (52 + (3 * a1)) 232 then (if sh_in (52 + (3 * a1)) 232 then sh_let (sh_setI μ26 330 ((52 + (3 * a1))).toNatClampNeg ((sh_i μ26 330 ((52 + (3 * a1))).toNatClampNeg) ^^^ ((1 : Int32) <<< (a2 &&& 31)))) (fun μ31 => some (1, μ31)) else none) else none)))))))))
theorem gp_X12_teach {a1 : Int32} {a2 : Int32} {a3 : Int32} {μ μ' : sh_Mem} {v : Int32} (hG : sh_G μ) (h : f_X12_teach a1 a2 a3 μ = some (v, μ')) : sh_G μ' := by
  unfold f_X12_teach at h
  obtain ⟨y3, μ1, hr2, h⟩ := sh_bind_e h
  have hG1 := gp_X12_isPerson hG hr2
  by_cases c4 : y3 = 0
  · rw [if_pos c4] at h
    obtain ⟨y7, μ5, hr6, h⟩ := sh_bind_e h
    have hG5 := gp_X12_isRefused hG1 hr6
    obtain ⟨k8, h⟩ := sh_chk h
    obtain ⟨e1, e2⟩ := sh_some2 h
    exact e2 ▸ hG5
  · rw [if_neg c4] at h
    obtain ⟨y11, μ9, hr10, h⟩ := sh_bind_e h
    have hG9 := gp_X12_isTopic hG1 hr10
    by_cases c12 : y11 = 0
    · rw [if_pos c12] at h
      obtain ⟨y15, μ13, hr14, h⟩ := sh_bind_e h
      have hG13 := gp_X12_isRefused hG9 hr14
      obtain ⟨k16, h⟩ := sh_chk h
      obtain ⟨e1, e2⟩ := sh_some2 h
      exact e2 ▸ hG13
    · rw [if_neg c12] at h
      by_cases c17 : (f_X12_isIn μ9 (a3).toInt64 0 1) = 0
      · rw [if_pos c17] at h
        obtain ⟨y20, μ18, hr19, h⟩ := sh_bind_e h
        have hG18 := gp_X12_isRefused hG9 hr19
        obtain ⟨k21, h⟩ := sh_chk h
        obtain ⟨e1, e2⟩ := sh_some2 h
        exact e2 ▸ hG18
      · rw [if_neg c17] at h
        obtain ⟨y24, μ22, hr23, h⟩ := sh_bind_e h
        have hG22 := gp_X12_knowsOf hG9 hr23
        by_cases c25 : ((y24 >>> (a2 &&& 31)) &&& 1) = a3
        · rw [if_pos c25] at h
          obtain ⟨y34, μ32, hr33, h⟩ := sh_bind_e h
          have hG32 := gp_X12_isRefused hG22 hr33
          obtain ⟨k35, h⟩ := sh_chk h
          obtain ⟨e1, e2⟩ := sh_some2 h
          exact e2 ▸ hG32
        · rw [if_neg c25] at h
          obtain ⟨μ26, hr27, h⟩ := sh_bindv_e h
          have hG26 := gp_X12_stores hG22 hr27
          obtain ⟨k29, h⟩ := sh_chk h
          obtain ⟨k30, h⟩ := sh_chk h
          obtain ⟨μ31, eμ31⟩ : ∃ y : sh_Mem, y = (sh_setI μ26 330 ((52 + (3 * a1))).toNatClampNeg ((sh_i μ26 330 ((52 + (3 * a1))).toNatClampNeg) ^^^ ((1 : Int32) <<< (a2 &&& 31)))) := ⟨_, rfl⟩
          rw [sh_let_eq eμ31] at h
          have hG31 : sh_G μ31 := by rw [eμ31]; exact hG26
          obtain ⟨e1, e2⟩ := sh_some2 h
          exact e2 ▸ hG31
theorem t_X12_teach {a1 : Int32} {a2 : Int32} {a3 : Int32} {μ μ' : sh_Mem} {v : Int32} (hG : sh_G μ) (h : f_X12_teach a1 a2 a3 μ = some (v, μ')) : sh_C0 l B D ca 3 M_X12_teach [.ref 291, .int a1, .int a2, .int a3] μ (fun v0 μ0 => v0 = some (.int v) ∧ μ0 = μ') := by
  unfold f_X12_teach at h
  refine vv_aload_n 0 0 dX12_teach_0 rfl rfl ?_
  refine vv_iload_n 1 1 dX12_teach_1 rfl rfl ?_
  obtain ⟨y3, μ1, hr2, h⟩ := sh_bind_e h
  refine v1_callV [_] 2 dX12_teach_2 ck_X12_518 (g_l_291 hG) ⟨by decide, rfl⟩ (t_X12_isPerson hG hr2) (Nat.le_of_ble_eq_true rfl) ⟨Nat.le_of_ble_eq_true rfl, Nat.le_of_ble_eq_true rfl⟩ rfl (Nat.le_of_ble_eq_true rfl) ?_
  have hG1 := gp_X12_isPerson hG hr2
  refine vv_if_eq 5 40 dX12_teach_5 (by decide) (fun c4 => ?_) (fun c4 => ?_)
  · rw [if_pos c4] at h
    refine vv_aload_n 40 0 dX12_teach_40 rfl rfl ?_
    obtain ⟨y7, μ5, hr6, h⟩ := sh_bind_e h
    refine v1_callV [] 41 dX12_teach_41 ck_X12_625 (g_l_291 hG1) ⟨by decide, rfl⟩ (t_X12_isRefused hG1 hr6) (Nat.le_of_ble_eq_true rfl) ⟨Nat.le_of_ble_eq_true rfl, Nat.le_of_ble_eq_true rfl⟩ rfl (Nat.le_of_ble_eq_true rfl) ?_
    have hG5 := gp_X12_isRefused hG1 hr6
    obtain ⟨k8, h⟩ := sh_chk h
    obtain ⟨e1, e2⟩ := sh_some2 h
    refine vv_zret 44 dX12_teach_44 rfl (sh_nb k8) (Nat.le_refl _) (Nat.le_refl _) ⟨by rw [e1], e2⟩
  · rw [if_neg c4] at h
    refine vv_aload_n 8 0 dX12_teach_8 rfl rfl ?_
    refine vv_iload_n 9 2 dX12_teach_9 rfl rfl ?_
    refine vv_i2l 10 dX12_teach_10 ?_
    obtain ⟨y11, μ9, hr10, h⟩ := sh_bind_e h
    refine v1_callV [_] 11 dX12_teach_11 ck_X12_521 (g_l_291 hG1) ⟨by decide, rfl⟩ (t_X12_isTopic hG1 hr10) (Nat.le_of_ble_eq_true rfl) ⟨Nat.le_of_ble_eq_true rfl, Nat.le_of_ble_eq_true rfl⟩ rfl (Nat.le_of_ble_eq_true rfl) ?_
    have hG9 := gp_X12_isTopic hG1 hr10
    refine vv_if_eq 14 40 dX12_teach_14 (by decide) (fun c12 => ?_) (fun c12 => ?_)
    · rw [if_pos c12] at h
      refine vv_aload_n 40 0 dX12_teach_40 rfl rfl ?_
      obtain ⟨y15, μ13, hr14, h⟩ := sh_bind_e h
      refine v1_callV [] 41 dX12_teach_41 ck_X12_625 (g_l_291 hG9) ⟨by decide, rfl⟩ (t_X12_isRefused hG9 hr14) (Nat.le_of_ble_eq_true rfl) ⟨Nat.le_of_ble_eq_true rfl, Nat.le_of_ble_eq_true rfl⟩ rfl (Nat.le_of_ble_eq_true rfl) ?_
      have hG13 := gp_X12_isRefused hG9 hr14
      obtain ⟨k16, h⟩ := sh_chk h
      obtain ⟨e1, e2⟩ := sh_some2 h
      refine vv_zret 44 dX12_teach_44 rfl (sh_nb k16) (Nat.le_refl _) (Nat.le_refl _) ⟨by rw [e1], e2⟩
    · rw [if_neg c12] at h
      refine vv_iload_n 17 3 dX12_teach_17 rfl rfl ?_
      refine vv_i2l 18 dX12_teach_18 ?_
      refine vv_lconst 19 dX12_teach_19 lk_0 ?_
      refine vv_lconst 20 dX12_teach_20 lk_1 ?_
      refine v1_callS [_, _, _] 21 dX12_teach_21 ck_X12_296 (c_X12_isIn (μ := μ9) hG9) (Nat.le_of_ble_eq_true rfl) ⟨Nat.le_of_ble_eq_true rfl, Nat.le_of_ble_eq_true rfl⟩ rfl (Nat.le_of_ble_eq_true rfl) ?_
      refine vv_if_eq 24 40 dX12_teach_24 (by decide) (fun c17 => ?_) (fun c17 => ?_)
      · rw [if_pos c17] at h
        refine vv_aload_n 40 0 dX12_teach_40 rfl rfl ?_
        obtain ⟨y20, μ18, hr19, h⟩ := sh_bind_e h
        refine v1_callV [] 41 dX12_teach_41 ck_X12_625 (g_l_291 hG9) ⟨by decide, rfl⟩ (t_X12_isRefused hG9 hr19) (Nat.le_of_ble_eq_true rfl) ⟨Nat.le_of_ble_eq_true rfl, Nat.le_of_ble_eq_true rfl⟩ rfl (Nat.le_of_ble_eq_true rfl) ?_
        have hG18 := gp_X12_isRefused hG9 hr19
        obtain ⟨k21, h⟩ := sh_chk h
        obtain ⟨e1, e2⟩ := sh_some2 h
        refine vv_zret 44 dX12_teach_44 rfl (sh_nb k21) (Nat.le_refl _) (Nat.le_refl _) ⟨by rw [e1], e2⟩
      · rw [if_neg c17] at h
        refine vv_aload_n 27 0 dX12_teach_27 rfl rfl ?_
        refine vv_iload_n 28 1 dX12_teach_28 rfl rfl ?_
        obtain ⟨y24, μ22, hr23, h⟩ := sh_bind_e h
        refine v1_callV [_] 29 dX12_teach_29 ck_X12_437 (g_l_291 hG9) ⟨by decide, rfl⟩ (t_X12_knowsOf hG9 hr23) (Nat.le_of_ble_eq_true rfl) ⟨Nat.le_of_ble_eq_true rfl, Nat.le_of_ble_eq_true rfl⟩ rfl (Nat.le_of_ble_eq_true rfl) ?_
        have hG22 := gp_X12_knowsOf hG9 hr23
        refine vv_iload_n 32 2 dX12_teach_32 rfl rfl ?_
        refine vv_ishr 33 dX12_teach_33 ?_
        refine vv_iconst 34 dX12_teach_34 ik_1 ?_
        refine vv_iand 35 dX12_teach_35 ?_
        refine vv_iload_n 36 3 dX12_teach_36 rfl rfl ?_
        refine vv_icmp_ne 37 45 dX12_teach_37 (by decide) (fun c25 => ?_) (fun c25 => ?_)
        · rw [if_neg c25] at h
          refine vv_aload_n 45 0 dX12_teach_45 rfl rfl ?_
          obtain ⟨μ26, hr27, h⟩ := sh_bindv_e h
          refine v1_callV [] 46 dX12_teach_46 ck_X12_622 (g_l_291 hG22) ⟨by decide, rfl⟩ (t_X12_stores hG22 hr27) (Nat.le_of_ble_eq_true rfl) ⟨Nat.le_of_ble_eq_true rfl, Nat.le_of_ble_eq_true rfl⟩ rfl (Nat.le_of_ble_eq_true rfl) ?_
          have hG26 := gp_X12_stores hG22 hr27
          refine vv_aload_n 49 0 dX12_teach_49 rfl rfl ?_
          refine vv_getR 50 dX12_teach_50 fl_12_130 rfl (g_l_291 hG26) (g_r_291_52 hG26) ?_
          refine vv_bipush 53 dX12_teach_53 bk_52 ?_
          refine vv_iconst 55 dX12_teach_55 ik_3 ?_
          refine vv_iload_n 56 1 dX12_teach_56 rfl rfl ?_
          refine vv_imul 57 dX12_teach_57 ?_
          refine vv_iadd 58 dX12_teach_58 ?_
          refine vv_dup2_ri 59 dX12_teach_59 ?_
          obtain ⟨k29, h⟩ := sh_chk h
          refine vv_iald 60 dX12_teach_60 (g_l_330 hG26) k29 ?_
          refine vv_iconst 61 dX12_teach_61 ik_1 ?_
          refine vv_iload_n 62 2 dX12_teach_62 rfl rfl ?_
          refine vv_ishl 63 dX12_teach_63 ?_
          refine vv_ixor 64 dX12_teach_64 ?_
          obtain ⟨k30, h⟩ := sh_chk h
          refine vn_iast 65 dX12_teach_65 (g_l_330 hG26) k30 (fun μ31 eμ31 => ?_)
          rw [sh_let_eq eμ31] at h
          have hG31 : sh_G μ31 := by rw [eμ31]; exact hG26
          refine vv_iconst 66 dX12_teach_66 ik_1 ?_
          obtain ⟨e1, e2⟩ := sh_some2 h
          refine vv_zret 67 dX12_teach_67 rfl rfl (Nat.le_refl _) (Nat.le_refl _) ⟨by rw [e1], e2⟩
        · rw [if_pos c25] at h
          refine vv_aload_n 40 0 dX12_teach_40 rfl rfl ?_
          obtain ⟨y34, μ32, hr33, h⟩ := sh_bind_e h
          refine v1_callV [] 41 dX12_teach_41 ck_X12_625 (g_l_291 hG22) ⟨by decide, rfl⟩ (t_X12_isRefused hG22 hr33) (Nat.le_of_ble_eq_true rfl) ⟨Nat.le_of_ble_eq_true rfl, Nat.le_of_ble_eq_true rfl⟩ rfl (Nat.le_of_ble_eq_true rfl) ?_
          have hG32 := gp_X12_isRefused hG22 hr33
          obtain ⟨k35, h⟩ := sh_chk h
          obtain ⟨e1, e2⟩ := sh_some2 h
          refine vv_zret 44 dX12_teach_44 rfl (sh_nb k35) (Nat.le_refl _) (Nat.le_refl _) ⟨by rw [e1], e2⟩
noncomputable def f_X12_go (a1 : Int32) (a2 : Int32) (a3 : Int32) (μ : sh_Mem) : Option (Int32 × sh_Mem) := sh_bind (f_X12_cellAt a2 a3 μ) (fun y3 μ1 => (if y3 = (-1) then sh_bind (f_X12_isRefused μ1) (fun y7 μ5 => (if y7 = 0 ∨ y7 = 1 then some (y7, μ5) else none)) else sh_bind (f_X12_isPerson a1 μ1) (fun y11 μ9 => (if y11 = 0 then sh_bind (f_X12_isRefused μ9) (fun y15 μ13 => (if y15 = 0 ∨ y15 = 1 then some (y15, μ13) else none)) else sh_bind (f_X12_isTaken y3 μ9) (fun y19 μ17 => (if y19 = 0 then sh_bindv (f_X12_stores μ17) (fun μ21 => (if sh_in (50 + (3 * a1)) 232 then sh_let (sh_setI μ21 330 ((50 + (3 * a1))).toNatClampNeg y3) (fun μ25 => some (1, μ25)) else none)) else sh_bind (f_X12_isRefused μ17) (fun y28 μ26 => (if y28 = 0 ∨ y28 = 1 then some (y28, μ26) else none))))))))
theorem gp_X12_go {a1 : Int32} {a2 : Int32} {a3 : Int32} {μ μ' : sh_Mem} {v : Int32} (hG : sh_G μ) (h : f_X12_go a1 a2 a3 μ = some (v, μ')) : sh_G μ' := by
  unfold f_X12_go at h
  obtain ⟨y3, μ1, hr2, h⟩ := sh_bind_e h
  have hG1 := gp_X12_cellAt hG hr2
  by_cases c4 : y3 = (-1)
  · rw [if_pos c4] at h
    obtain ⟨y7, μ5, hr6, h⟩ := sh_bind_e h
    have hG5 := gp_X12_isRefused hG1 hr6
    obtain ⟨k8, h⟩ := sh_chk h
    obtain ⟨e1, e2⟩ := sh_some2 h
    exact e2 ▸ hG5
  · rw [if_neg c4] at h
    obtain ⟨y11, μ9, hr10, h⟩ := sh_bind_e h
    have hG9 := gp_X12_isPerson hG1 hr10
    by_cases c12 : y11 = 0
    · rw [if_pos c12] at h
      obtain ⟨y15, μ13, hr14, h⟩ := sh_bind_e h
      have hG13 := gp_X12_isRefused hG9 hr14
      obtain ⟨k16, h⟩ := sh_chk h
      obtain ⟨e1, e2⟩ := sh_some2 h
      exact e2 ▸ hG13
    · rw [if_neg c12] at h
      obtain ⟨y19, μ17, hr18, h⟩ := sh_bind_e h
      have hG17 := gp_X12_isTaken hG9 hr18
      by_cases c20 : y19 = 0
      · rw [if_pos c20] at h
        obtain ⟨μ21, hr22, h⟩ := sh_bindv_e h
        have hG21 := gp_X12_stores hG17 hr22
        obtain ⟨k24, h⟩ := sh_chk h
        obtain ⟨μ25, eμ25⟩ : ∃ y : sh_Mem, y = (sh_setI μ21 330 ((50 + (3 * a1))).toNatClampNeg y3) := ⟨_, rfl⟩
        rw [sh_let_eq eμ25] at h
        have hG25 : sh_G μ25 := by rw [eμ25]; exact hG21
        obtain ⟨e1, e2⟩ := sh_some2 h
        exact e2 ▸ hG25
      · rw [if_neg c20] at h
        obtain ⟨y28, μ26, hr27, h⟩ := sh_bind_e h
        have hG26 := gp_X12_isRefused hG17 hr27
        obtain ⟨k29, h⟩ := sh_chk h
        obtain ⟨e1, e2⟩ := sh_some2 h
        exact e2 ▸ hG26
theorem t_X12_go {a1 : Int32} {a2 : Int32} {a3 : Int32} {μ μ' : sh_Mem} {v : Int32} (hG : sh_G μ) (h : f_X12_go a1 a2 a3 μ = some (v, μ')) : sh_C0 l B D ca 3 M_X12_go [.ref 291, .int a1, .int a2, .int a3] μ (fun v0 μ0 => v0 = some (.int v) ∧ μ0 = μ') := by
  unfold f_X12_go at h
  refine vv_aload_n 0 0 dX12_go_0 rfl rfl ?_
  refine vv_iload_n 1 2 dX12_go_1 rfl rfl ?_
  refine vv_iload_n 2 3 dX12_go_2 rfl rfl ?_
  obtain ⟨y3, μ1, hr2, h⟩ := sh_bind_e h
  refine v1_callV [_, _] 3 dX12_go_3 ck_X12_414 (g_l_291 hG) ⟨by decide, rfl⟩ (t_X12_cellAt hG hr2) (Nat.le_of_ble_eq_true rfl) ⟨Nat.le_of_ble_eq_true rfl, Nat.le_of_ble_eq_true rfl⟩ rfl (Nat.le_of_ble_eq_true rfl) ?_
  have hG1 := gp_X12_cellAt hG hr2
  refine vv_istore (lv' := [(4, _), (0, _), (1, _), (2, _), (3, _)]) 6 4 dX12_go_6 (by decide) rfl ?_
  refine vv_iload 8 4 dX12_go_8 rfl ?_
  refine vv_iconst 10 dX12_go_10 ik_m1 ?_
  refine vv_icmp_eq 11 31 dX12_go_11 (by decide) (fun c4 => ?_) (fun c4 => ?_)
  · rw [if_pos c4] at h
    refine vv_aload_n 31 0 dX12_go_31 rfl rfl ?_
    obtain ⟨y7, μ5, hr6, h⟩ := sh_bind_e h
    refine v1_callV [] 32 dX12_go_32 ck_X12_625 (g_l_291 hG1) ⟨by decide, rfl⟩ (t_X12_isRefused hG1 hr6) (Nat.le_of_ble_eq_true rfl) ⟨Nat.le_of_ble_eq_true rfl, Nat.le_of_ble_eq_true rfl⟩ rfl (Nat.le_of_ble_eq_true rfl) ?_
    have hG5 := gp_X12_isRefused hG1 hr6
    obtain ⟨k8, h⟩ := sh_chk h
    obtain ⟨e1, e2⟩ := sh_some2 h
    refine vv_zret 35 dX12_go_35 rfl (sh_nb k8) (Nat.le_refl _) (Nat.le_refl _) ⟨by rw [e1], e2⟩
  · rw [if_neg c4] at h
    refine vv_aload_n 14 0 dX12_go_14 rfl rfl ?_
    refine vv_iload_n 15 1 dX12_go_15 rfl rfl ?_
    obtain ⟨y11, μ9, hr10, h⟩ := sh_bind_e h
    refine v1_callV [_] 16 dX12_go_16 ck_X12_518 (g_l_291 hG1) ⟨by decide, rfl⟩ (t_X12_isPerson hG1 hr10) (Nat.le_of_ble_eq_true rfl) ⟨Nat.le_of_ble_eq_true rfl, Nat.le_of_ble_eq_true rfl⟩ rfl (Nat.le_of_ble_eq_true rfl) ?_
    have hG9 := gp_X12_isPerson hG1 hr10
    refine vv_if_eq 19 31 dX12_go_19 (by decide) (fun c12 => ?_) (fun c12 => ?_)
    · rw [if_pos c12] at h
      refine vv_aload_n 31 0 dX12_go_31 rfl rfl ?_
      obtain ⟨y15, μ13, hr14, h⟩ := sh_bind_e h
      refine v1_callV [] 32 dX12_go_32 ck_X12_625 (g_l_291 hG9) ⟨by decide, rfl⟩ (t_X12_isRefused hG9 hr14) (Nat.le_of_ble_eq_true rfl) ⟨Nat.le_of_ble_eq_true rfl, Nat.le_of_ble_eq_true rfl⟩ rfl (Nat.le_of_ble_eq_true rfl) ?_
      have hG13 := gp_X12_isRefused hG9 hr14
      obtain ⟨k16, h⟩ := sh_chk h
      obtain ⟨e1, e2⟩ := sh_some2 h
      refine vv_zret 35 dX12_go_35 rfl (sh_nb k16) (Nat.le_refl _) (Nat.le_refl _) ⟨by rw [e1], e2⟩
    · rw [if_neg c12] at h
      refine vv_aload_n 22 0 dX12_go_22 rfl rfl ?_
      refine vv_iload 23 4 dX12_go_23 rfl ?_
      obtain ⟨y19, μ17, hr18, h⟩ := sh_bind_e h
      refine v1_callV [_] 25 dX12_go_25 ck_X12_628 (g_l_291 hG9) ⟨by decide, rfl⟩ (t_X12_isTaken hG9 hr18) (Nat.le_of_ble_eq_true rfl) ⟨Nat.le_of_ble_eq_true rfl, Nat.le_of_ble_eq_true rfl⟩ rfl (Nat.le_of_ble_eq_true rfl) ?_
      have hG17 := gp_X12_isTaken hG9 hr18
      refine vv_if_eq 28 36 dX12_go_28 (by decide) (fun c20 => ?_) (fun c20 => ?_)
      · rw [if_pos c20] at h
        refine vv_aload_n 36 0 dX12_go_36 rfl rfl ?_
        obtain ⟨μ21, hr22, h⟩ := sh_bindv_e h
        refine v1_callV [] 37 dX12_go_37 ck_X12_622 (g_l_291 hG17) ⟨by decide, rfl⟩ (t_X12_stores hG17 hr22) (Nat.le_of_ble_eq_true rfl) ⟨Nat.le_of_ble_eq_true rfl, Nat.le_of_ble_eq_true rfl⟩ rfl (Nat.le_of_ble_eq_true rfl) ?_
        have hG21 := gp_X12_stores hG17 hr22
        refine vv_aload_n 40 0 dX12_go_40 rfl rfl ?_
        refine vv_getR 41 dX12_go_41 fl_12_130 rfl (g_l_291 hG21) (g_r_291_52 hG21) ?_
        refine vv_bipush 44 dX12_go_44 bk_50 ?_
        refine vv_iconst 46 dX12_go_46 ik_3 ?_
        refine vv_iload_n 47 1 dX12_go_47 rfl rfl ?_
        refine vv_imul 48 dX12_go_48 ?_
        refine vv_iadd 49 dX12_go_49 ?_
        refine vv_iload 50 4 dX12_go_50 rfl ?_
        obtain ⟨k24, h⟩ := sh_chk h
        refine vn_iast 52 dX12_go_52 (g_l_330 hG21) k24 (fun μ25 eμ25 => ?_)
        rw [sh_let_eq eμ25] at h
        have hG25 : sh_G μ25 := by rw [eμ25]; exact hG21
        refine vv_iconst 53 dX12_go_53 ik_1 ?_
        obtain ⟨e1, e2⟩ := sh_some2 h
        refine vv_zret 54 dX12_go_54 rfl rfl (Nat.le_refl _) (Nat.le_refl _) ⟨by rw [e1], e2⟩
      · rw [if_neg c20] at h
        refine vv_aload_n 31 0 dX12_go_31 rfl rfl ?_
        obtain ⟨y28, μ26, hr27, h⟩ := sh_bind_e h
        refine v1_callV [] 32 dX12_go_32 ck_X12_625 (g_l_291 hG17) ⟨by decide, rfl⟩ (t_X12_isRefused hG17 hr27) (Nat.le_of_ble_eq_true rfl) ⟨Nat.le_of_ble_eq_true rfl, Nat.le_of_ble_eq_true rfl⟩ rfl (Nat.le_of_ble_eq_true rfl) ?_
        have hG26 := gp_X12_isRefused hG17 hr27
        obtain ⟨k29, h⟩ := sh_chk h
        obtain ⟨e1, e2⟩ := sh_some2 h
        refine vv_zret 35 dX12_go_35 rfl (sh_nb k29) (Nat.le_refl _) (Nat.le_refl _) ⟨by rw [e1], e2⟩
noncomputable def f_X12_ease (a1 : Int32) (μ : sh_Mem) : Option (Int32 × sh_Mem) := sh_bind (f_X12_isPerson a1 μ) (fun y3 μ1 => (if y3 = 0 then sh_bind (f_X12_isRefused μ1) (fun y7 μ5 => (if y7 = 0 ∨ y7 = 1 then some (y7, μ5) else none)) else sh_bind (f_X12_tiredOf a1 μ1) (fun y11 μ9 => (if y11 = 0 then sh_bind (f_X12_isRefused μ9) (fun y20 μ18 => (if y20 = 0 ∨ y20 = 1 then some (y20, μ18) else none)) else sh_bindv (f_X12_stores μ9) (fun μ13 => (if sh_in (51 + (3 * a1)) 232 then sh_let (sh_setI μ13 330 ((51 + (3 * a1))).toNatClampNeg 0) (fun μ17 => some (1, μ17)) else none))))))
theorem gp_X12_ease {a1 : Int32} {μ μ' : sh_Mem} {v : Int32} (hG : sh_G μ) (h : f_X12_ease a1 μ = some (v, μ')) : sh_G μ' := by
  unfold f_X12_ease at h
  obtain ⟨y3, μ1, hr2, h⟩ := sh_bind_e h
  have hG1 := gp_X12_isPerson hG hr2
  by_cases c4 : y3 = 0
  · rw [if_pos c4] at h
    obtain ⟨y7, μ5, hr6, h⟩ := sh_bind_e h
    have hG5 := gp_X12_isRefused hG1 hr6
    obtain ⟨k8, h⟩ := sh_chk h
    obtain ⟨e1, e2⟩ := sh_some2 h
    exact e2 ▸ hG5
  · rw [if_neg c4] at h
    obtain ⟨y11, μ9, hr10, h⟩ := sh_bind_e h
    have hG9 := gp_X12_tiredOf hG1 hr10
    by_cases c12 : y11 = 0
    · rw [if_pos c12] at h
      obtain ⟨y20, μ18, hr19, h⟩ := sh_bind_e h
      have hG18 := gp_X12_isRefused hG9 hr19
      obtain ⟨k21, h⟩ := sh_chk h
      obtain ⟨e1, e2⟩ := sh_some2 h
      exact e2 ▸ hG18
    · rw [if_neg c12] at h
      obtain ⟨μ13, hr14, h⟩ := sh_bindv_e h
      have hG13 := gp_X12_stores hG9 hr14
      obtain ⟨k16, h⟩ := sh_chk h
      obtain ⟨μ17, eμ17⟩ : ∃ y : sh_Mem, y = (sh_setI μ13 330 ((51 + (3 * a1))).toNatClampNeg 0) := ⟨_, rfl⟩
      rw [sh_let_eq eμ17] at h
      have hG17 : sh_G μ17 := by rw [eμ17]; exact hG13
      obtain ⟨e1, e2⟩ := sh_some2 h
      exact e2 ▸ hG17
theorem t_X12_ease {a1 : Int32} {μ μ' : sh_Mem} {v : Int32} (hG : sh_G μ) (h : f_X12_ease a1 μ = some (v, μ')) : sh_C0 l B D ca 3 M_X12_ease [.ref 291, .int a1] μ (fun v0 μ0 => v0 = some (.int v) ∧ μ0 = μ') := by
  unfold f_X12_ease at h
  refine vv_aload_n 0 0 dX12_ease_0 rfl rfl ?_
  refine vv_iload_n 1 1 dX12_ease_1 rfl rfl ?_
  obtain ⟨y3, μ1, hr2, h⟩ := sh_bind_e h
  refine v1_callV [_] 2 dX12_ease_2 ck_X12_518 (g_l_291 hG) ⟨by decide, rfl⟩ (t_X12_isPerson hG hr2) (Nat.le_of_ble_eq_true rfl) ⟨Nat.le_of_ble_eq_true rfl, Nat.le_of_ble_eq_true rfl⟩ rfl (Nat.le_of_ble_eq_true rfl) ?_
  have hG1 := gp_X12_isPerson hG hr2
  refine vv_if_eq 5 16 dX12_ease_5 (by decide) (fun c4 => ?_) (fun c4 => ?_)
  · rw [if_pos c4] at h
    refine vv_aload_n 16 0 dX12_ease_16 rfl rfl ?_
    obtain ⟨y7, μ5, hr6, h⟩ := sh_bind_e h
    refine v1_callV [] 17 dX12_ease_17 ck_X12_625 (g_l_291 hG1) ⟨by decide, rfl⟩ (t_X12_isRefused hG1 hr6) (Nat.le_of_ble_eq_true rfl) ⟨Nat.le_of_ble_eq_true rfl, Nat.le_of_ble_eq_true rfl⟩ rfl (Nat.le_of_ble_eq_true rfl) ?_
    have hG5 := gp_X12_isRefused hG1 hr6
    obtain ⟨k8, h⟩ := sh_chk h
    obtain ⟨e1, e2⟩ := sh_some2 h
    refine vv_zret 20 dX12_ease_20 rfl (sh_nb k8) (Nat.le_refl _) (Nat.le_refl _) ⟨by rw [e1], e2⟩
  · rw [if_neg c4] at h
    refine vv_aload_n 8 0 dX12_ease_8 rfl rfl ?_
    refine vv_iload_n 9 1 dX12_ease_9 rfl rfl ?_
    obtain ⟨y11, μ9, hr10, h⟩ := sh_bind_e h
    refine v1_callV [_] 10 dX12_ease_10 ck_X12_486 (g_l_291 hG1) ⟨by decide, rfl⟩ (t_X12_tiredOf hG1 hr10) (Nat.le_of_ble_eq_true rfl) ⟨Nat.le_of_ble_eq_true rfl, Nat.le_of_ble_eq_true rfl⟩ rfl (Nat.le_of_ble_eq_true rfl) ?_
    have hG9 := gp_X12_tiredOf hG1 hr10
    refine vv_if_ne 13 21 dX12_ease_13 (by decide) (fun c12 => ?_) (fun c12 => ?_)
    · rw [if_neg c12] at h
      refine vv_aload_n 21 0 dX12_ease_21 rfl rfl ?_
      obtain ⟨μ13, hr14, h⟩ := sh_bindv_e h
      refine v1_callV [] 22 dX12_ease_22 ck_X12_622 (g_l_291 hG9) ⟨by decide, rfl⟩ (t_X12_stores hG9 hr14) (Nat.le_of_ble_eq_true rfl) ⟨Nat.le_of_ble_eq_true rfl, Nat.le_of_ble_eq_true rfl⟩ rfl (Nat.le_of_ble_eq_true rfl) ?_
      have hG13 := gp_X12_stores hG9 hr14
      refine vv_aload_n 25 0 dX12_ease_25 rfl rfl ?_
      refine vv_getR 26 dX12_ease_26 fl_12_130 rfl (g_l_291 hG13) (g_r_291_52 hG13) ?_
      refine vv_bipush 29 dX12_ease_29 bk_51 ?_
      refine vv_iconst 31 dX12_ease_31 ik_3 ?_
      refine vv_iload_n 32 1 dX12_ease_32 rfl rfl ?_
      refine vv_imul 33 dX12_ease_33 ?_
      refine vv_iadd 34 dX12_ease_34 ?_
      refine vv_iconst 35 dX12_ease_35 ik_0 ?_
      obtain ⟨k16, h⟩ := sh_chk h
      refine vn_iast 36 dX12_ease_36 (g_l_330 hG13) k16 (fun μ17 eμ17 => ?_)
      rw [sh_let_eq eμ17] at h
      have hG17 : sh_G μ17 := by rw [eμ17]; exact hG13
      refine vv_iconst 37 dX12_ease_37 ik_1 ?_
      obtain ⟨e1, e2⟩ := sh_some2 h
      refine vv_zret 38 dX12_ease_38 rfl rfl (Nat.le_refl _) (Nat.le_refl _) ⟨by rw [e1], e2⟩
    · rw [if_pos c12] at h
      refine vv_aload_n 16 0 dX12_ease_16 rfl rfl ?_
      obtain ⟨y20, μ18, hr19, h⟩ := sh_bind_e h
      refine v1_callV [] 17 dX12_ease_17 ck_X12_625 (g_l_291 hG9) ⟨by decide, rfl⟩ (t_X12_isRefused hG9 hr19) (Nat.le_of_ble_eq_true rfl) ⟨Nat.le_of_ble_eq_true rfl, Nat.le_of_ble_eq_true rfl⟩ rfl (Nat.le_of_ble_eq_true rfl) ?_
      have hG18 := gp_X12_isRefused hG9 hr19
      obtain ⟨k21, h⟩ := sh_chk h
      obtain ⟨e1, e2⟩ := sh_some2 h
      refine vv_zret 20 dX12_ease_20 rfl (sh_nb k21) (Nat.le_refl _) (Nat.le_refl _) ⟨by rw [e1], e2⟩
noncomputable def f_X12_seed (a1 : Int32) (μ : sh_Mem) : Option (Int32 × sh_Mem) := (if 0 ≤ a1 then sh_let (sh_setL μ 291 78 (a1).toInt64) (fun μ2 => some (1, μ2)) else sh_let (sh_setI μ 293 (Int32.toNatClampNeg 5) ((sh_i μ 293 (Int32.toNatClampNeg 5)) + 1)) (fun μ3 => some (0, μ3)))
theorem gp_X12_seed {a1 : Int32} {μ μ' : sh_Mem} {v : Int32} (hG : sh_G μ) (h : f_X12_seed a1 μ = some (v, μ')) : sh_G μ' := by
  unfold f_X12_seed at h
  by_cases c1 : 0 ≤ a1
  · rw [if_pos c1] at h
    obtain ⟨μ2, eμ2⟩ : ∃ y : sh_Mem, y = (sh_setL μ 291 78 (a1).toInt64) := ⟨_, rfl⟩
    rw [sh_let_eq eμ2] at h
    have hG2 : sh_G μ2 := by rw [eμ2]; exact hG
    obtain ⟨e1, e2⟩ := sh_some2 h
    exact e2 ▸ hG2
  · rw [if_neg c1] at h
    obtain ⟨μ3, eμ3⟩ : ∃ y : sh_Mem, y = (sh_setI μ 293 (Int32.toNatClampNeg 5) ((sh_i μ 293 (Int32.toNatClampNeg 5)) + 1)) := ⟨_, rfl⟩
    rw [sh_let_eq eμ3] at h
    have hG3 : sh_G μ3 := by rw [eμ3]; exact hG
    obtain ⟨e1, e2⟩ := sh_some2 h
    exact e2 ▸ hG3
theorem t_X12_seed {a1 : Int32} {μ μ' : sh_Mem} {v : Int32} (hG : sh_G μ) (h : f_X12_seed a1 μ = some (v, μ')) : sh_C0 l B D ca 1 M_X12_seed [.ref 291, .int a1] μ (fun v0 μ0 => v0 = some (.int v) ∧ μ0 = μ') := by
  unfold f_X12_seed at h
  refine vv_iload_n 0 1 dX12_seed_0 rfl rfl ?_
  refine vv_if_ge 1 16 dX12_seed_1 (by decide) (fun c1 => ?_) (fun c1 => ?_)
  · rw [if_pos c1] at h
    refine vv_aload_n 16 0 dX12_seed_16 rfl rfl ?_
    refine vv_iload_n 17 1 dX12_seed_17 rfl rfl ?_
    refine vv_i2l 18 dX12_seed_18 ?_
    refine vn_putL 19 dX12_seed_19 fl_12_163 (Or.inl rfl) rfl (g_l_291 hG) (fun μ2 eμ2 => ?_)
    rw [sh_let_eq eμ2] at h
    have hG2 : sh_G μ2 := by rw [eμ2]; exact hG
    refine vv_iconst 22 dX12_seed_22 ik_1 ?_
    obtain ⟨e1, e2⟩ := sh_some2 h
    refine vv_zret 23 dX12_seed_23 rfl rfl (Nat.le_refl _) (Nat.le_refl _) ⟨by rw [e1], e2⟩
  · rw [if_neg c1] at h
    refine vv_aload_n 4 0 dX12_seed_4 rfl rfl ?_
    refine vv_getR 5 dX12_seed_5 fl_12_17 rfl (g_l_291 hG) (g_r_291_9 hG) ?_
    refine vv_iconst 8 dX12_seed_8 ik_5 ?_
    refine vv_dup2_ri 9 dX12_seed_9 ?_
    refine vv_iald 10 dX12_seed_10 (g_l_293 hG) (by unfold vp_in; decide) ?_
    refine vv_iconst 11 dX12_seed_11 ik_1 ?_
    refine vv_iadd 12 dX12_seed_12 ?_
    refine vn_iast 13 dX12_seed_13 (g_l_293 hG) (by unfold vp_in; decide) (fun μ3 eμ3 => ?_)
    rw [sh_let_eq eμ3] at h
    have hG3 : sh_G μ3 := by rw [eμ3]; exact hG
    refine vv_iconst 14 dX12_seed_14 ik_0 ?_
    obtain ⟨e1, e2⟩ := sh_some2 h
    refine vv_zret 15 dX12_seed_15 rfl rfl (Nat.le_refl _) (Nat.le_refl _) ⟨by rw [e1], e2⟩
noncomputable def f_X12_drawOf (a1 : Int32) (μ : sh_Mem) : Option (Int32 × sh_Mem) := sh_let (sh_setL μ 291 78 (((1103515245 * (sh_l μ 291 78)) + 12345) - ((1103515245 * (sh_l μ 291 78)) + 12345) / 2147483648 * 2147483648)) (fun μ1 => (if ¬ (a1).toInt64 = 0 then some (((((sh_l μ1 291 78) / 64) - ((sh_l μ1 291 78) / 64) / (a1).toInt64 * (a1).toInt64)).toInt32, μ1) else none))
theorem gp_X12_drawOf {a1 : Int32} {μ μ' : sh_Mem} {v : Int32} (hG : sh_G μ) (h : f_X12_drawOf a1 μ = some (v, μ')) : sh_G μ' := by
  unfold f_X12_drawOf at h
  obtain ⟨μ1, eμ1⟩ : ∃ y : sh_Mem, y = (sh_setL μ 291 78 (((1103515245 * (sh_l μ 291 78)) + 12345) - ((1103515245 * (sh_l μ 291 78)) + 12345) / 2147483648 * 2147483648)) := ⟨_, rfl⟩
  rw [sh_let_eq eμ1] at h
  have hG1 : sh_G μ1 := by rw [eμ1]; exact hG
  obtain ⟨k2, h⟩ := sh_chk h
  obtain ⟨e1, e2⟩ := sh_some2 h
  exact e2 ▸ hG1
theorem t_X12_drawOf {a1 : Int32} {μ μ' : sh_Mem} {v : Int32} (hG : sh_G μ) (h : f_X12_drawOf a1 μ = some (v, μ')) : sh_C0 l B D ca 1 M_X12_drawOf [.ref 291, .int a1] μ (fun v0 μ0 => v0 = some (.int v) ∧ μ0 = μ') := by
  unfold f_X12_drawOf at h
  refine vv_aload_n 0 0 dX12_drawOf_0 rfl rfl ?_
  refine vv_ldc2 1 dX12_drawOf_1 kl_12_631 ?_
  refine vv_aload_n 4 0 dX12_drawOf_4 rfl rfl ?_
  refine vv_getL 5 dX12_drawOf_5 fl_12_163 rfl (g_l_291 hG) ?_
  refine vv_lmul 8 dX12_drawOf_8 ?_
  refine vv_ldc2 9 dX12_drawOf_9 kl_12_633 ?_
  refine vv_ladd 12 dX12_drawOf_12 ?_
  refine vv_ldc2 13 dX12_drawOf_13 kl_12_635 ?_
  refine vv_lrem 16 dX12_drawOf_16 (by decide) ?_
  refine vn_putL 17 dX12_drawOf_17 fl_12_163 (Or.inl rfl) rfl (g_l_291 hG) (fun μ1 eμ1 => ?_)
  rw [sh_let_eq eμ1] at h
  have hG1 : sh_G μ1 := by rw [eμ1]; exact hG
  refine vv_aload_n 20 0 dX12_drawOf_20 rfl rfl ?_
  refine vv_getL 21 dX12_drawOf_21 fl_12_163 rfl (g_l_291 hG1) ?_
  refine vv_ldc2 24 dX12_drawOf_24 kl_12_637 ?_
  refine vv_ldiv 27 dX12_drawOf_27 (by decide) ?_
  refine vv_iload_n 28 1 dX12_drawOf_28 rfl rfl ?_
  refine vv_i2l 29 dX12_drawOf_29 ?_
  obtain ⟨k2, h⟩ := sh_chk h
  refine vv_lrem 30 dX12_drawOf_30 k2 ?_
  refine vv_l2i 31 dX12_drawOf_31 ?_
  obtain ⟨e1, e2⟩ := sh_some2 h
  refine vv_iret 32 dX12_drawOf_32 rfl (Nat.le_refl _) (Nat.le_refl _) ⟨by rw [e1], e2⟩
noncomputable def f_X12_qCode (a1 : Int32) (μ : sh_Mem) : Option sh_Mem := (if sh_in (sh_i μ 291 103) 1700 then sh_let (sh_setI μ 364 ((sh_i μ 291 103)).toNatClampNeg a1) (fun μ2 => sh_let (sh_setI μ2 291 103 ((sh_i μ2 291 103) + 1)) (fun μ3 => some μ3)) else none)
theorem gp_X12_qCode {a1 : Int32} {μ μ' : sh_Mem} (hG : sh_G μ) (h : f_X12_qCode a1 μ = some μ') : sh_G μ' := by
  unfold f_X12_qCode at h
  obtain ⟨k1, h⟩ := sh_chk h
  obtain ⟨μ2, eμ2⟩ : ∃ y : sh_Mem, y = (sh_setI μ 364 ((sh_i μ 291 103)).toNatClampNeg a1) := ⟨_, rfl⟩
  rw [sh_let_eq eμ2] at h
  have hG2 : sh_G μ2 := by rw [eμ2]; exact hG
  obtain ⟨μ3, eμ3⟩ : ∃ y : sh_Mem, y = (sh_setI μ2 291 103 ((sh_i μ2 291 103) + 1)) := ⟨_, rfl⟩
  rw [sh_let_eq eμ3] at h
  have hG3 : sh_G μ3 := by rw [eμ3]; exact hG2
  have e2 := Option.some.inj h
  exact e2 ▸ hG3
theorem t_X12_qCode {a1 : Int32} {μ μ' : sh_Mem} (hG : sh_G μ) (h : f_X12_qCode a1 μ = some μ') : sh_C0 l B D ca 1 M_X12_qCode [.ref 291, .int a1] μ (fun v0 μ0 => v0 = none ∧ μ0 = μ') := by
  unfold f_X12_qCode at h
  refine vv_aload_n 0 0 dX12_qCode_0 rfl rfl ?_
  refine vv_getR 1 dX12_qCode_1 fl_12_236 rfl (g_l_291 hG) (g_r_291_102 hG) ?_
  refine vv_aload_n 4 0 dX12_qCode_4 rfl rfl ?_
  refine vv_getI 5 dX12_qCode_5 fl_12_344 rfl (g_l_291 hG) ?_
  refine vv_iload_n 8 1 dX12_qCode_8 rfl rfl ?_
  obtain ⟨k1, h⟩ := sh_chk h
  refine vn_iast 9 dX12_qCode_9 (g_l_364 hG) k1 (fun μ2 eμ2 => ?_)
  rw [sh_let_eq eμ2] at h
  have hG2 : sh_G μ2 := by rw [eμ2]; exact hG
  refine vv_aload_n 10 0 dX12_qCode_10 rfl rfl ?_
  refine vv_dup_ref 11 dX12_qCode_11 ?_
  refine vv_getI 12 dX12_qCode_12 fl_12_344 rfl (g_l_291 hG2) ?_
  refine vv_iconst 15 dX12_qCode_15 ik_1 ?_
  refine vv_iadd 16 dX12_qCode_16 ?_
  refine vn_putI 17 dX12_qCode_17 fl_12_344 (Or.inl rfl) rfl (g_l_291 hG2) (fun μ3 eμ3 => ?_)
  rw [sh_let_eq eμ3] at h
  have hG3 : sh_G μ3 := by rw [eμ3]; exact hG2
  have e2 := Option.some.inj h
  refine vv_vret 20 dX12_qCode_20 rfl (Nat.le_refl _) (Nat.le_refl _) ⟨rfl, e2⟩
noncomputable def f_X12_qOpens (a1 : Int32) (a2 : Int32) (μ : sh_Mem) : Option sh_Mem := (if (sh_i μ 291 5) = 0 then (if (sh_i μ 291 106) = 6 then sh_bindv (f_X12_fail 4 a2 μ) (fun μ7 => some μ7) else sh_let (sh_setI μ 291 106 ((sh_i μ 291 106) + 1)) (fun μ3 => (if sh_in (sh_i μ3 291 105) 1700 then sh_let (sh_setI μ3 365 ((sh_i μ3 291 105)).toNatClampNeg a1) (fun μ5 => sh_let (sh_setI μ5 291 105 ((sh_i μ5 291 105) + 1)) (fun μ6 => some μ6)) else none))) else some μ)
theorem gp_X12_qOpens {a1 : Int32} {a2 : Int32} {μ μ' : sh_Mem} (hG : sh_G μ) (h : f_X12_qOpens a1 a2 μ = some μ') : sh_G μ' := by
  unfold f_X12_qOpens at h
  by_cases c1 : (sh_i μ 291 5) = 0
  · rw [if_pos c1] at h
    by_cases c2 : (sh_i μ 291 106) = 6
    · rw [if_pos c2] at h
      obtain ⟨μ7, hr8, h⟩ := sh_bindv_e h
      have hG7 := gp_X12_fail hG hr8
      have e2 := Option.some.inj h
      exact e2 ▸ hG7
    · rw [if_neg c2] at h
      obtain ⟨μ3, eμ3⟩ : ∃ y : sh_Mem, y = (sh_setI μ 291 106 ((sh_i μ 291 106) + 1)) := ⟨_, rfl⟩
      rw [sh_let_eq eμ3] at h
      have hG3 : sh_G μ3 := by rw [eμ3]; exact hG
      obtain ⟨k4, h⟩ := sh_chk h
      obtain ⟨μ5, eμ5⟩ : ∃ y : sh_Mem, y = (sh_setI μ3 365 ((sh_i μ3 291 105)).toNatClampNeg a1) := ⟨_, rfl⟩
      rw [sh_let_eq eμ5] at h
      have hG5 : sh_G μ5 := by rw [eμ5]; exact hG3
      obtain ⟨μ6, eμ6⟩ : ∃ y : sh_Mem, y = (sh_setI μ5 291 105 ((sh_i μ5 291 105) + 1)) := ⟨_, rfl⟩
      rw [sh_let_eq eμ6] at h
      have hG6 : sh_G μ6 := by rw [eμ6]; exact hG5
      have e2 := Option.some.inj h
      exact e2 ▸ hG6
  · rw [if_neg c1] at h
    have e2 := Option.some.inj h
    exact e2 ▸ hG
theorem t_X12_qOpens {a1 : Int32} {a2 : Int32} {μ μ' : sh_Mem} (hG : sh_G μ) (h : f_X12_qOpens a1 a2 μ = some μ') : sh_C0 l B D ca 2 M_X12_qOpens [.ref 291, .int a1, .int a2] μ (fun v0 μ0 => v0 = none ∧ μ0 = μ') := by
  unfold f_X12_qOpens at h
  refine vv_aload_n 0 0 dX12_qOpens_0 rfl rfl ?_
  refine vv_getI 1 dX12_qOpens_1 fl_12_253 rfl (g_l_291 hG) ?_
  refine vv_if_eq 4 8 dX12_qOpens_4 (by decide) (fun c1 => ?_) (fun c1 => ?_)
  · rw [if_pos c1] at h
    refine vv_aload_n 8 0 dX12_qOpens_8 rfl rfl ?_
    refine vv_getI 9 dX12_qOpens_9 fl_12_350 rfl (g_l_291 hG) ?_
    refine vv_bipush 12 dX12_qOpens_12 bk_6 ?_
    refine vv_icmp_ne 14 24 dX12_qOpens_14 (by decide) (fun c2 => ?_) (fun c2 => ?_)
    · rw [if_neg c2] at h
      refine vv_aload_n 24 0 dX12_qOpens_24 rfl rfl ?_
      refine vv_dup_ref 25 dX12_qOpens_25 ?_
      refine vv_getI 26 dX12_qOpens_26 fl_12_350 rfl (g_l_291 hG) ?_
      refine vv_iconst 29 dX12_qOpens_29 ik_1 ?_
      refine vv_iadd 30 dX12_qOpens_30 ?_
      refine vn_putI 31 dX12_qOpens_31 fl_12_350 (Or.inl rfl) rfl (g_l_291 hG) (fun μ3 eμ3 => ?_)
      rw [sh_let_eq eμ3] at h
      have hG3 : sh_G μ3 := by rw [eμ3]; exact hG
      refine vv_aload_n 34 0 dX12_qOpens_34 rfl rfl ?_
      refine vv_getR 35 dX12_qOpens_35 fl_12_239 rfl (g_l_291 hG3) (g_r_291_104 hG3) ?_
      refine vv_aload_n 38 0 dX12_qOpens_38 rfl rfl ?_
      refine vv_getI 39 dX12_qOpens_39 fl_12_347 rfl (g_l_291 hG3) ?_
      refine vv_iload_n 42 1 dX12_qOpens_42 rfl rfl ?_
      obtain ⟨k4, h⟩ := sh_chk h
      refine vn_iast 43 dX12_qOpens_43 (g_l_365 hG3) k4 (fun μ5 eμ5 => ?_)
      rw [sh_let_eq eμ5] at h
      have hG5 : sh_G μ5 := by rw [eμ5]; exact hG3
      refine vv_aload_n 44 0 dX12_qOpens_44 rfl rfl ?_
      refine vv_dup_ref 45 dX12_qOpens_45 ?_
      refine vv_getI 46 dX12_qOpens_46 fl_12_347 rfl (g_l_291 hG5) ?_
      refine vv_iconst 49 dX12_qOpens_49 ik_1 ?_
      refine vv_iadd 50 dX12_qOpens_50 ?_
      refine vn_putI 51 dX12_qOpens_51 fl_12_347 (Or.inl rfl) rfl (g_l_291 hG5) (fun μ6 eμ6 => ?_)
      rw [sh_let_eq eμ6] at h
      have hG6 : sh_G μ6 := by rw [eμ6]; exact hG5
      have e2 := Option.some.inj h
      refine vv_vret 54 dX12_qOpens_54 rfl (Nat.le_refl _) (Nat.le_refl _) ⟨rfl, e2⟩
    · rw [if_pos c2] at h
      refine vv_aload_n 17 0 dX12_qOpens_17 rfl rfl ?_
      refine vv_iconst 18 dX12_qOpens_18 ik_4 ?_
      refine vv_iload_n 19 2 dX12_qOpens_19 rfl rfl ?_
      obtain ⟨μ7, hr8, h⟩ := sh_bindv_e h
      refine v1_callV [_, _] 20 dX12_qOpens_20 ck_X12_283 (g_l_291 hG) ⟨by decide, rfl⟩ (t_X12_fail hG hr8) (Nat.le_of_ble_eq_true rfl) ⟨Nat.le_of_ble_eq_true rfl, Nat.le_of_ble_eq_true rfl⟩ rfl (Nat.le_of_ble_eq_true rfl) ?_
      have hG7 := gp_X12_fail hG hr8
      have e2 := Option.some.inj h
      refine vv_vret 23 dX12_qOpens_23 rfl (Nat.le_refl _) (Nat.le_refl _) ⟨rfl, e2⟩
  · rw [if_neg c1] at h
    have e2 := Option.some.inj h
    refine vv_vret 7 dX12_qOpens_7 rfl (Nat.le_refl _) (Nat.le_refl _) ⟨rfl, e2⟩
noncomputable def f_X12_qIsOn (a1 : Int32) (μ : sh_Mem) : Option (Int32 × sh_Mem) := (if (sh_i μ 291 105) ≤ 0 then some (0, μ) else (if sh_in ((sh_i μ 291 105) - 1) 1700 then (if (sh_i μ 365 (((sh_i μ 291 105) - 1)).toNatClampNeg) = a1 then some (1, μ) else some (0, μ)) else none))
theorem gp_X12_qIsOn {a1 : Int32} {μ μ' : sh_Mem} {v : Int32} (hG : sh_G μ) (h : f_X12_qIsOn a1 μ = some (v, μ')) : sh_G μ' := by
  unfold f_X12_qIsOn at h
  by_cases c1 : (sh_i μ 291 105) ≤ 0
  · rw [if_pos c1] at h
    obtain ⟨e1, e2⟩ := sh_some2 h
    exact e2 ▸ hG
  · rw [if_neg c1] at h
    obtain ⟨k2, h⟩ := sh_chk h
    by_cases c3 : (sh_i μ 365 (((sh_i μ 291 105) - 1)).toNatClampNeg) = a1
    · rw [if_pos c3] at h
      obtain ⟨e1, e2⟩ := sh_some2 h
      exact e2 ▸ hG
    · rw [if_neg c3] at h
      obtain ⟨e1, e2⟩ := sh_some2 h
      exact e2 ▸ hG
theorem t_X12_qIsOn {a1 : Int32} {μ μ' : sh_Mem} {v : Int32} (hG : sh_G μ) (h : f_X12_qIsOn a1 μ = some (v, μ')) : sh_C0 l B D ca 1 M_X12_qIsOn [.ref 291, .int a1] μ (fun v0 μ0 => v0 = some (.int v) ∧ μ0 = μ') := by
  unfold f_X12_qIsOn at h
  refine vv_aload_n 0 0 dX12_qIsOn_0 rfl rfl ?_
  refine vv_getI 1 dX12_qIsOn_1 fl_12_347 rfl (g_l_291 hG) ?_
  refine vv_if_le 4 26 dX12_qIsOn_4 (by decide) (fun c1 => ?_) (fun c1 => ?_)
  · rw [if_pos c1] at h
    refine vv_iconst 26 dX12_qIsOn_26 ik_0 ?_
    obtain ⟨e1, e2⟩ := sh_some2 h
    refine vv_zret 27 dX12_qIsOn_27 rfl rfl (Nat.le_refl _) (Nat.le_refl _) ⟨by rw [e1], e2⟩
  · rw [if_neg c1] at h
    refine vv_aload_n 7 0 dX12_qIsOn_7 rfl rfl ?_
    refine vv_getR 8 dX12_qIsOn_8 fl_12_239 rfl (g_l_291 hG) (g_r_291_104 hG) ?_
    refine vv_aload_n 11 0 dX12_qIsOn_11 rfl rfl ?_
    refine vv_getI 12 dX12_qIsOn_12 fl_12_347 rfl (g_l_291 hG) ?_
    refine vv_iconst 15 dX12_qIsOn_15 ik_1 ?_
    refine vv_isub 16 dX12_qIsOn_16 ?_
    obtain ⟨k2, h⟩ := sh_chk h
    refine vv_iald 17 dX12_qIsOn_17 (g_l_365 hG) k2 ?_
    refine vv_iload_n 18 1 dX12_qIsOn_18 rfl rfl ?_
    refine vv_icmp_ne 19 26 dX12_qIsOn_19 (by decide) (fun c3 => ?_) (fun c3 => ?_)
    · rw [if_neg c3] at h
      refine vv_iconst 26 dX12_qIsOn_26 ik_0 ?_
      obtain ⟨e1, e2⟩ := sh_some2 h
      refine vv_zret 27 dX12_qIsOn_27 rfl rfl (Nat.le_refl _) (Nat.le_refl _) ⟨by rw [e1], e2⟩
    · rw [if_pos c3] at h
      refine vv_iconst 22 dX12_qIsOn_22 ik_1 ?_
      refine vv_goto 23 27 dX12_qIsOn_23 (by decide) ?_
      obtain ⟨e1, e2⟩ := sh_some2 h
      refine vv_zret 27 dX12_qIsOn_27 rfl rfl (Nat.le_refl _) (Nat.le_refl _) ⟨by rw [e1], e2⟩
noncomputable def f_X12_qDrops (μ : sh_Mem) : Option sh_Mem := sh_let (sh_setI μ 291 105 ((sh_i μ 291 105) - 1)) (fun μ1 => (if sh_in (sh_i μ1 291 105) 1700 then sh_bindv (f_X12_qCode (sh_i μ1 365 ((sh_i μ1 291 105)).toNatClampNeg) μ1) (fun μ3 => some μ3) else none))
theorem gp_X12_qDrops {μ μ' : sh_Mem} (hG : sh_G μ) (h : f_X12_qDrops μ = some μ') : sh_G μ' := by
  unfold f_X12_qDrops at h
  obtain ⟨μ1, eμ1⟩ : ∃ y : sh_Mem, y = (sh_setI μ 291 105 ((sh_i μ 291 105) - 1)) := ⟨_, rfl⟩
  rw [sh_let_eq eμ1] at h
  have hG1 : sh_G μ1 := by rw [eμ1]; exact hG
  obtain ⟨k2, h⟩ := sh_chk h
  obtain ⟨μ3, hr4, h⟩ := sh_bindv_e h
  have hG3 := gp_X12_qCode hG1 hr4
  have e2 := Option.some.inj h
  exact e2 ▸ hG3
theorem t_X12_qDrops {μ μ' : sh_Mem} (hG : sh_G μ) (h : f_X12_qDrops μ = some μ') : sh_C0 l B D ca 2 M_X12_qDrops [.ref 291] μ (fun v0 μ0 => v0 = none ∧ μ0 = μ') := by
  unfold f_X12_qDrops at h
  refine vv_aload_n 0 0 dX12_qDrops_0 rfl rfl ?_
  refine vv_dup_ref 1 dX12_qDrops_1 ?_
  refine vv_getI 2 dX12_qDrops_2 fl_12_347 rfl (g_l_291 hG) ?_
  refine vv_iconst 5 dX12_qDrops_5 ik_1 ?_
  refine vv_isub 6 dX12_qDrops_6 ?_
  refine vn_putI 7 dX12_qDrops_7 fl_12_347 (Or.inl rfl) rfl (g_l_291 hG) (fun μ1 eμ1 => ?_)
  rw [sh_let_eq eμ1] at h
  have hG1 : sh_G μ1 := by rw [eμ1]; exact hG
  refine vv_aload_n 10 0 dX12_qDrops_10 rfl rfl ?_
  refine vv_aload_n 11 0 dX12_qDrops_11 rfl rfl ?_
  refine vv_getR 12 dX12_qDrops_12 fl_12_239 rfl (g_l_291 hG1) (g_r_291_104 hG1) ?_
  refine vv_aload_n 15 0 dX12_qDrops_15 rfl rfl ?_
  refine vv_getI 16 dX12_qDrops_16 fl_12_347 rfl (g_l_291 hG1) ?_
  obtain ⟨k2, h⟩ := sh_chk h
  refine vv_iald 19 dX12_qDrops_19 (g_l_365 hG1) k2 ?_
  obtain ⟨μ3, hr4, h⟩ := sh_bindv_e h
  refine v1_callV [_] 20 dX12_qDrops_20 ck_X12_642 (g_l_291 hG1) ⟨by decide, rfl⟩ (t_X12_qCode hG1 hr4) (Nat.le_of_ble_eq_true rfl) ⟨Nat.le_of_ble_eq_true rfl, Nat.le_of_ble_eq_true rfl⟩ rfl (Nat.le_of_ble_eq_true rfl) ?_
  have hG3 := gp_X12_qCode hG1 hr4
  have e2 := Option.some.inj h
  refine vv_vret 23 dX12_qDrops_23 rfl (Nat.le_refl _) (Nat.le_refl _) ⟨rfl, e2⟩
def f_X12_qIsBracket (μ : sh_Mem) (a1 : Int32) : Int32 := (if a1 < 20 then 0 else (if 24 < a1 then 0 else 1))
theorem c_X12_qIsBracket (hG : sh_G μ)  {a1 : Int32} : sh_C0 l B D ca 1 M_X12_qIsBracket [.int a1] μ (fun v μ' => v = some (.int (f_X12_qIsBracket μ a1)) ∧ μ' = μ) := by
  refine vv_iload_n 0 0 dX12_qIsBracket_0 rfl rfl ?_
  refine vv_bipush 1 dX12_qIsBracket_1 bk_20 ?_
  refine vv_icmp_lt 3 16 dX12_qIsBracket_3 (by decide) (fun h1 => ?_) (fun h1 => ?_)
  · refine vv_iconst 16 dX12_qIsBracket_16 ik_0 ?_
    refine vv_zret 17 dX12_qIsBracket_17 rfl rfl (Nat.le_refl _) (Nat.le_refl _) ?_
    exact ⟨by show some _ = some (Value.int (f_X12_qIsBracket μ a1)); unfold f_X12_qIsBracket; rw [if_pos h1], rfl⟩
  · refine vv_iload_n 6 0 dX12_qIsBracket_6 rfl rfl ?_
    refine vv_bipush 7 dX12_qIsBracket_7 bk_24 ?_
    refine vv_icmp_gt 9 16 dX12_qIsBracket_9 (by decide) (fun h2 => ?_) (fun h2 => ?_)
    · refine vv_iconst 16 dX12_qIsBracket_16 ik_0 ?_
      refine vv_zret 17 dX12_qIsBracket_17 rfl rfl (Nat.le_refl _) (Nat.le_refl _) ?_
      exact ⟨by show some _ = some (Value.int (f_X12_qIsBracket μ a1)); unfold f_X12_qIsBracket; rw [if_neg h1, if_pos h2], rfl⟩
    · refine vv_iconst 12 dX12_qIsBracket_12 ik_1 ?_
      refine vv_goto 13 17 dX12_qIsBracket_13 (by decide) ?_
      refine vv_zret 17 dX12_qIsBracket_17 rfl rfl (Nat.le_refl _) (Nat.le_refl _) ?_
      exact ⟨by show some _ = some (Value.int (f_X12_qIsBracket μ a1)); unfold f_X12_qIsBracket; rw [if_neg h1, if_neg h2], rfl⟩
noncomputable def F_X12_qBracket : Nat → Nat → Int32 → sh_Mem → Option (Int32 × sh_Mem)
  | 0, _, _, _ => none
  | fuel + 1, lbl, i1, μ => match lbl with
    | 1 => (if i1 < (sh_i μ 291 107) then (if i1 < (sh_i μ 291 107) then some ((-1), μ) else (if sh_in i1 1700 then some ((sh_i μ 365 i1.toNatClampNeg), μ) else none)) else (if sh_in i1 1700 then (if (f_X12_qIsBracket μ (sh_i μ 365 i1.toNatClampNeg)) = 0 then F_X12_qBracket fuel 1 (i1 + (-1)) μ else (if i1 < (sh_i μ 291 107) then some ((-1), μ) else (if sh_in i1 1700 then some ((sh_i μ 365 i1.toNatClampNeg), μ) else none))) else none))
    | _ => none
noncomputable def f_X12_qBracket (μ : sh_Mem) : Option (Int32 × sh_Mem) := sh_let (((sh_i μ 291 105) - 1) : Int32) (fun x16 => F_X12_qBracket sh_fuel 1 x16 μ)
theorem gpl_X12_qBracket (fuel : Nat) : (∀ ⦃i1 : Int32⦄ ⦃μ μ' : sh_Mem⦄ ⦃v : Int32⦄, sh_G μ → F_X12_qBracket fuel 1 i1 μ = some (v, μ') → sh_G μ') := by
  induction fuel with
  | zero => intro i1 μ μ' v hG h; cases h
  | succ fuel ih =>
    have ih_7 := ih
    intro i1 μ μ' v hG h
    replace h : ((if i1 < (sh_i μ 291 107) then (if i1 < (sh_i μ 291 107) then some ((-1), μ) else (if sh_in i1 1700 then some ((sh_i μ 365 i1.toNatClampNeg), μ) else none)) else (if sh_in i1 1700 then (if (f_X12_qIsBracket μ (sh_i μ 365 i1.toNatClampNeg)) = 0 then F_X12_qBracket fuel 1 (i1 + (-1)) μ else (if i1 < (sh_i μ 291 107) then some ((-1), μ) else (if sh_in i1 1700 then some ((sh_i μ 365 i1.toNatClampNeg), μ) else none))) else none)) : Option (Int32 × sh_Mem)) = some (v, μ') := h
    by_cases c9 : i1 < (sh_i μ 291 107)
    · rw [if_pos c9] at h
      by_cases c10 : i1 < (sh_i μ 291 107)
      · rw [if_pos c10] at h
        obtain ⟨e1, e2⟩ := sh_some2 h
        exact e2 ▸ hG
      · rw [if_neg c10] at h
        obtain ⟨k11, h⟩ := sh_chk h
        obtain ⟨e1, e2⟩ := sh_some2 h
        exact e2 ▸ hG
    · rw [if_neg c9] at h
      obtain ⟨k12, h⟩ := sh_chk h
      by_cases c13 : (f_X12_qIsBracket μ (sh_i μ 365 i1.toNatClampNeg)) = 0
      · rw [if_pos c13] at h
        exact ih_7 hG h
      · rw [if_neg c13] at h
        by_cases c14 : i1 < (sh_i μ 291 107)
        · rw [if_pos c14] at h
          obtain ⟨e1, e2⟩ := sh_some2 h
          exact e2 ▸ hG
        · rw [if_neg c14] at h
          obtain ⟨k15, h⟩ := sh_chk h
          obtain ⟨e1, e2⟩ := sh_some2 h
          exact e2 ▸ hG
theorem tl_X12_qBracket (fuel : Nat) : (∀ ⦃i1 : Int32⦄ ⦃μ μ' : sh_Mem⦄ ⦃v : Int32⦄, sh_G μ → F_X12_qBracket fuel 1 i1 μ = some (v, μ') → sh_V0 l B D ca 2 M_X12_qBracket 7 [(0, .ref 291), (1, .int i1)] [] μ (fun v0 μ0 => v0 = some (.int v) ∧ μ0 = μ')) := by
  induction fuel with
  | zero => intro i1 μ μ' v hG h; cases h
  | succ fuel ih =>
    have ih_7 := ih
    intro i1 μ μ' v hG h
    replace h : ((if i1 < (sh_i μ 291 107) then (if i1 < (sh_i μ 291 107) then some ((-1), μ) else (if sh_in i1 1700 then some ((sh_i μ 365 i1.toNatClampNeg), μ) else none)) else (if sh_in i1 1700 then (if (f_X12_qIsBracket μ (sh_i μ 365 i1.toNatClampNeg)) = 0 then F_X12_qBracket fuel 1 (i1 + (-1)) μ else (if i1 < (sh_i μ 291 107) then some ((-1), μ) else (if sh_in i1 1700 then some ((sh_i μ 365 i1.toNatClampNeg), μ) else none))) else none)) : Option (Int32 × sh_Mem)) = some (v, μ') := h
    refine vv_iload_n 7 1 dX12_qBracket_7 rfl rfl ?_
    refine vv_aload_n 8 0 dX12_qBracket_8 rfl rfl ?_
    refine vv_getI 9 dX12_qBracket_9 fl_12_353 rfl (g_l_291 hG) ?_
    refine vv_icmp_lt 12 33 dX12_qBracket_12 (by decide) (fun c9 => ?_) (fun c9 => ?_)
    · rw [if_pos c9] at h
      refine vv_iload_n 33 1 dX12_qBracket_33 rfl rfl ?_
      refine vv_aload_n 34 0 dX12_qBracket_34 rfl rfl ?_
      refine vv_getI 35 dX12_qBracket_35 fl_12_353 rfl (g_l_291 hG) ?_
      refine vv_icmp_lt 38 50 dX12_qBracket_38 (by decide) (fun c10 => ?_) (fun c10 => ?_)
      · rw [if_pos c10] at h
        refine vv_iconst 50 dX12_qBracket_50 ik_m1 ?_
        obtain ⟨e1, e2⟩ := sh_some2 h
        refine vv_iret 51 dX12_qBracket_51 rfl (Nat.le_refl _) (Nat.le_refl _) ⟨by rw [e1], e2⟩
      · rw [if_neg c10] at h
        refine vv_aload_n 41 0 dX12_qBracket_41 rfl rfl ?_
        refine vv_getR 42 dX12_qBracket_42 fl_12_239 rfl (g_l_291 hG) (g_r_291_104 hG) ?_
        refine vv_iload_n 45 1 dX12_qBracket_45 rfl rfl ?_
        obtain ⟨k11, h⟩ := sh_chk h
        refine vv_iald 46 dX12_qBracket_46 (g_l_365 hG) k11 ?_
        refine vv_goto 47 51 dX12_qBracket_47 (by decide) ?_
        obtain ⟨e1, e2⟩ := sh_some2 h
        refine vv_iret 51 dX12_qBracket_51 rfl (Nat.le_refl _) (Nat.le_refl _) ⟨by rw [e1], e2⟩
    · rw [if_neg c9] at h
      refine vv_aload_n 15 0 dX12_qBracket_15 rfl rfl ?_
      refine vv_getR 16 dX12_qBracket_16 fl_12_239 rfl (g_l_291 hG) (g_r_291_104 hG) ?_
      refine vv_iload_n 19 1 dX12_qBracket_19 rfl rfl ?_
      obtain ⟨k12, h⟩ := sh_chk h
      refine vv_iald 20 dX12_qBracket_20 (g_l_365 hG) k12 ?_
      refine v1_callS [_] 21 dX12_qBracket_21 ck_X12_645 (c_X12_qIsBracket (μ := μ) hG) (Nat.le_of_ble_eq_true rfl) ⟨Nat.le_of_ble_eq_true rfl, Nat.le_of_ble_eq_true rfl⟩ rfl (Nat.le_of_ble_eq_true rfl) ?_
      refine vv_if_ne 24 33 dX12_qBracket_24 (by decide) (fun c13 => ?_) (fun c13 => ?_)
      · rw [if_neg c13] at h
        refine vv_iload_n 33 1 dX12_qBracket_33 rfl rfl ?_
        refine vv_aload_n 34 0 dX12_qBracket_34 rfl rfl ?_
        refine vv_getI 35 dX12_qBracket_35 fl_12_353 rfl (g_l_291 hG) ?_
        refine vv_icmp_lt 38 50 dX12_qBracket_38 (by decide) (fun c14 => ?_) (fun c14 => ?_)
        · rw [if_pos c14] at h
          refine vv_iconst 50 dX12_qBracket_50 ik_m1 ?_
          obtain ⟨e1, e2⟩ := sh_some2 h
          refine vv_iret 51 dX12_qBracket_51 rfl (Nat.le_refl _) (Nat.le_refl _) ⟨by rw [e1], e2⟩
        · rw [if_neg c14] at h
          refine vv_aload_n 41 0 dX12_qBracket_41 rfl rfl ?_
          refine vv_getR 42 dX12_qBracket_42 fl_12_239 rfl (g_l_291 hG) (g_r_291_104 hG) ?_
          refine vv_iload_n 45 1 dX12_qBracket_45 rfl rfl ?_
          obtain ⟨k15, h⟩ := sh_chk h
          refine vv_iald 46 dX12_qBracket_46 (g_l_365 hG) k15 ?_
          refine vv_goto 47 51 dX12_qBracket_47 (by decide) ?_
          obtain ⟨e1, e2⟩ := sh_some2 h
          refine vv_iret 51 dX12_qBracket_51 rfl (Nat.le_refl _) (Nat.le_refl _) ⟨by rw [e1], e2⟩
      · rw [if_pos c13] at h
        refine vv_iincc (lv' := [(1, _), (0, _)]) 27 1 dX12_qBracket_27 rfl ik_m1 (by decide) rfl ?_
        refine vv_goto 30 7 dX12_qBracket_30 (by decide) ?_
        refine vv_sub [(0, _), (1, _)] (sh_subm [1, 0] rfl) ?_
        exact ih_7 hG h
theorem gp_X12_qBracket {μ μ' : sh_Mem} {v : Int32} (hG : sh_G μ) (h : f_X12_qBracket μ = some (v, μ')) : sh_G μ' := by
  have ih_7 := (gpl_X12_qBracket sh_fuel)
  unfold f_X12_qBracket at h
  obtain ⟨x16, ex16⟩ : ∃ y : Int32, y = ((sh_i μ 291 105) - 1) := ⟨_, rfl⟩
  rw [sh_let_eq ex16] at h
  exact ih_7 hG h
theorem t_X12_qBracket {μ μ' : sh_Mem} {v : Int32} (hG : sh_G μ) (h : f_X12_qBracket μ = some (v, μ')) : sh_C0 l B D ca 2 M_X12_qBracket [.ref 291] μ (fun v0 μ0 => v0 = some (.int v) ∧ μ0 = μ') := by
  have ih_7 := (tl_X12_qBracket (l := l) (B := B) (D := D) (ca := ca) sh_fuel)
  unfold f_X12_qBracket at h
  refine vv_aload_n 0 0 dX12_qBracket_0 rfl rfl ?_
  refine vv_getI 1 dX12_qBracket_1 fl_12_347 rfl (g_l_291 hG) ?_
  refine vv_iconst 4 dX12_qBracket_4 ik_1 ?_
  refine vv_isub 5 dX12_qBracket_5 ?_
  refine vv_topi (fun x16 ex16 => ?_)
  rw [sh_let_eq ex16] at h
  refine vv_istore_n (lv' := [(1, _), (0, _)]) 6 1 dX12_qBracket_6 rfl (by decide) rfl ?_
  refine vv_sub [(0, _), (1, _)] (sh_subm [1, 0] rfl) ?_
  exact ih_7 hG h
noncomputable def F_X12_qDropsToBracket : Nat → Nat → sh_Mem → Option sh_Mem
  | 0, _, _ => none
  | fuel + 1, lbl, μ => match lbl with
    | 1 => (if (sh_i μ 291 105) ≤ (sh_i μ 291 107) then some μ else (if sh_in ((sh_i μ 291 105) - 1) 1700 then (if (f_X12_qIsBracket μ (sh_i μ 365 (((sh_i μ 291 105) - 1)).toNatClampNeg)) = 0 then sh_bindv (f_X12_qDrops μ) (fun μ10 => F_X12_qDropsToBracket fuel 1  μ10) else some μ) else none))
    | _ => none
noncomputable def f_X12_qDropsToBracket (μ : sh_Mem) : Option sh_Mem := F_X12_qDropsToBracket sh_fuel 1  μ
theorem gpl_X12_qDropsToBracket (fuel : Nat) : (∀ ⦃μ μ' : sh_Mem⦄, sh_G μ → F_X12_qDropsToBracket fuel 1 μ = some μ' → sh_G μ') := by
  induction fuel with
  | zero => intro μ μ' hG h; cases h
  | succ fuel ih =>
    have ih_0 := ih
    intro μ μ' hG h
    replace h : ((if (sh_i μ 291 105) ≤ (sh_i μ 291 107) then some μ else (if sh_in ((sh_i μ 291 105) - 1) 1700 then (if (f_X12_qIsBracket μ (sh_i μ 365 (((sh_i μ 291 105) - 1)).toNatClampNeg)) = 0 then sh_bindv (f_X12_qDrops μ) (fun μ10 => F_X12_qDropsToBracket fuel 1  μ10) else some μ) else none)) : Option sh_Mem) = some μ' := h
    by_cases c7 : (sh_i μ 291 105) ≤ (sh_i μ 291 107)
    · rw [if_pos c7] at h
      have e2 := Option.some.inj h
      exact e2 ▸ hG
    · rw [if_neg c7] at h
      obtain ⟨k8, h⟩ := sh_chk h
      by_cases c9 : (f_X12_qIsBracket μ (sh_i μ 365 (((sh_i μ 291 105) - 1)).toNatClampNeg)) = 0
      · rw [if_pos c9] at h
        obtain ⟨μ10, hr11, h⟩ := sh_bindv_e h
        have hG10 := gp_X12_qDrops hG hr11
        exact ih_0 hG10 h
      · rw [if_neg c9] at h
        have e2 := Option.some.inj h
        exact e2 ▸ hG
theorem tl_X12_qDropsToBracket (fuel : Nat) : (∀ ⦃μ μ' : sh_Mem⦄, sh_G μ → F_X12_qDropsToBracket fuel 1 μ = some μ' → sh_V0 l B D ca 3 M_X12_qDropsToBracket 0 [(0, .ref 291)] [] μ (fun v0 μ0 => v0 = none ∧ μ0 = μ')) := by
  induction fuel with
  | zero => intro μ μ' hG h; cases h
  | succ fuel ih =>
    have ih_0 := ih
    intro μ μ' hG h
    replace h : ((if (sh_i μ 291 105) ≤ (sh_i μ 291 107) then some μ else (if sh_in ((sh_i μ 291 105) - 1) 1700 then (if (f_X12_qIsBracket μ (sh_i μ 365 (((sh_i μ 291 105) - 1)).toNatClampNeg)) = 0 then sh_bindv (f_X12_qDrops μ) (fun μ10 => F_X12_qDropsToBracket fuel 1  μ10) else some μ) else none)) : Option sh_Mem) = some μ' := h
    refine vv_aload_n 0 0 dX12_qDropsToBracket_0 rfl rfl ?_
    refine vv_getI 1 dX12_qDropsToBracket_1 fl_12_347 rfl (g_l_291 hG) ?_
    refine vv_aload_n 4 0 dX12_qDropsToBracket_4 rfl rfl ?_
    refine vv_getI 5 dX12_qDropsToBracket_5 fl_12_353 rfl (g_l_291 hG) ?_
    refine vv_icmp_le 8 35 dX12_qDropsToBracket_8 (by decide) (fun c7 => ?_) (fun c7 => ?_)
    · rw [if_pos c7] at h
      have e2 := Option.some.inj h
      refine vv_vret 35 dX12_qDropsToBracket_35 rfl (Nat.le_refl _) (Nat.le_refl _) ⟨rfl, e2⟩
    · rw [if_neg c7] at h
      refine vv_aload_n 11 0 dX12_qDropsToBracket_11 rfl rfl ?_
      refine vv_getR 12 dX12_qDropsToBracket_12 fl_12_239 rfl (g_l_291 hG) (g_r_291_104 hG) ?_
      refine vv_aload_n 15 0 dX12_qDropsToBracket_15 rfl rfl ?_
      refine vv_getI 16 dX12_qDropsToBracket_16 fl_12_347 rfl (g_l_291 hG) ?_
      refine vv_iconst 19 dX12_qDropsToBracket_19 ik_1 ?_
      refine vv_isub 20 dX12_qDropsToBracket_20 ?_
      obtain ⟨k8, h⟩ := sh_chk h
      refine vv_iald 21 dX12_qDropsToBracket_21 (g_l_365 hG) k8 ?_
      refine v1_callS [_] 22 dX12_qDropsToBracket_22 ck_X12_645 (c_X12_qIsBracket (μ := μ) hG) (Nat.le_of_ble_eq_true rfl) ⟨Nat.le_of_ble_eq_true rfl, Nat.le_of_ble_eq_true rfl⟩ rfl (Nat.le_of_ble_eq_true rfl) ?_
      refine vv_if_ne 25 35 dX12_qDropsToBracket_25 (by decide) (fun c9 => ?_) (fun c9 => ?_)
      · rw [if_neg c9] at h
        have e2 := Option.some.inj h
        refine vv_vret 35 dX12_qDropsToBracket_35 rfl (Nat.le_refl _) (Nat.le_refl _) ⟨rfl, e2⟩
      · rw [if_pos c9] at h
        refine vv_aload_n 28 0 dX12_qDropsToBracket_28 rfl rfl ?_
        obtain ⟨μ10, hr11, h⟩ := sh_bindv_e h
        refine v1_callV [] 29 dX12_qDropsToBracket_29 ck_X12_648 (g_l_291 hG) ⟨by decide, rfl⟩ (t_X12_qDrops hG hr11) (Nat.le_of_ble_eq_true rfl) ⟨Nat.le_of_ble_eq_true rfl, Nat.le_of_ble_eq_true rfl⟩ rfl (Nat.le_of_ble_eq_true rfl) ?_
        have hG10 := gp_X12_qDrops hG hr11
        refine vv_goto 32 0 dX12_qDropsToBracket_32 (by decide) ?_
        refine vv_sub [(0, _)] (sh_subm [0] rfl) ?_
        exact ih_0 hG10 h
theorem gp_X12_qDropsToBracket {μ μ' : sh_Mem} (hG : sh_G μ) (h : f_X12_qDropsToBracket μ = some μ') : sh_G μ' := by
  have ih_0 := (gpl_X12_qDropsToBracket sh_fuel)
  unfold f_X12_qDropsToBracket at h
  exact ih_0 hG h
theorem t_X12_qDropsToBracket {μ μ' : sh_Mem} (hG : sh_G μ) (h : f_X12_qDropsToBracket μ = some μ') : sh_C0 l B D ca 3 M_X12_qDropsToBracket [.ref 291] μ (fun v0 μ0 => v0 = none ∧ μ0 = μ') := by
  have ih_0 := (tl_X12_qDropsToBracket (l := l) (B := B) (D := D) (ca := ca) sh_fuel)
  unfold f_X12_qDropsToBracket at h
  refine vv_sub [(0, _)] (sh_subm [0] rfl) ?_
  exact ih_0 hG h
noncomputable def f_X12_qWordHere (μ : sh_Mem) : Option (Int32 × sh_Mem) := sh_bind (f_X12_isHere 353 5 μ) (fun y3 μ1 => (if y3 = 0 then sh_bind (f_X12_isHere 354 6 μ1) (fun y7 μ5 => (if y7 = 0 then sh_bind (f_X12_isHere 355 5 μ5) (fun y11 μ9 => (if y11 = 0 then sh_bind (f_X12_isHere 356 3 μ9) (fun y15 μ13 => (if y15 = 0 then sh_bind (f_X12_isHere 357 5 μ13) (fun y19 μ17 => (if y19 = 0 then sh_bind (f_X12_isHere 358 4 μ17) (fun y23 μ21 => (if y23 = 0 then sh_bind (f_X12_isHere 359 6 μ21) (fun y27 μ25 => (if y27 = 0 then sh_bind (f_X12_isHere 360 6 μ25) (fun y31 μ29 => (if y31 = 0 then sh_bind (f_X12_isHere 361 3 μ29) (fun y35 μ33 => (if y35 = 0 then sh_bind (f_X12_isHere 362 5 μ33) (fun y39 μ37 => (if y39 = 0 then sh_bind (f_X12_isHere 363 5 μ37) (fun y43 μ41 => (if y43 = 0 then some ((-1), μ41) else some (10, μ41))) else some (9, μ37))) else some (8, μ33))) else some (7, μ29))) else some (6, μ25))) else some (5, μ21))) else some (4, μ17))) else some (3, μ13))) else some (2, μ9))) else some (1, μ5))) else some (0, μ1)))
theorem gp_X12_qWordHere {μ μ' : sh_Mem} {v : Int32} (hG : sh_G μ) (h : f_X12_qWordHere μ = some (v, μ')) : sh_G μ' := by
  unfold f_X12_qWordHere at h
  obtain ⟨y3, μ1, hr2, h⟩ := sh_bind_e h
  have hG1 := gp_X12_isHere hG (sh_LAYat_353) hr2
  by_cases c4 : y3 = 0
  · rw [if_pos c4] at h
    obtain ⟨y7, μ5, hr6, h⟩ := sh_bind_e h
    have hG5 := gp_X12_isHere hG1 (sh_LAYat_354) hr6
    by_cases c8 : y7 = 0
    · rw [if_pos c8] at h
      obtain ⟨y11, μ9, hr10, h⟩ := sh_bind_e h
      have hG9 := gp_X12_isHere hG5 (sh_LAYat_355) hr10
      by_cases c12 : y11 = 0
      · rw [if_pos c12] at h
        obtain ⟨y15, μ13, hr14, h⟩ := sh_bind_e h
        have hG13 := gp_X12_isHere hG9 (sh_LAYat_356) hr14
        by_cases c16 : y15 = 0
        · rw [if_pos c16] at h
          obtain ⟨y19, μ17, hr18, h⟩ := sh_bind_e h
          have hG17 := gp_X12_isHere hG13 (sh_LAYat_357) hr18
          by_cases c20 : y19 = 0
          · rw [if_pos c20] at h
            obtain ⟨y23, μ21, hr22, h⟩ := sh_bind_e h
            have hG21 := gp_X12_isHere hG17 (sh_LAYat_358) hr22
            by_cases c24 : y23 = 0
            · rw [if_pos c24] at h
              obtain ⟨y27, μ25, hr26, h⟩ := sh_bind_e h
              have hG25 := gp_X12_isHere hG21 (sh_LAYat_359) hr26
              by_cases c28 : y27 = 0
              · rw [if_pos c28] at h
                obtain ⟨y31, μ29, hr30, h⟩ := sh_bind_e h
                have hG29 := gp_X12_isHere hG25 (sh_LAYat_360) hr30
                by_cases c32 : y31 = 0
                · rw [if_pos c32] at h
                  obtain ⟨y35, μ33, hr34, h⟩ := sh_bind_e h
                  have hG33 := gp_X12_isHere hG29 (sh_LAYat_361) hr34
                  by_cases c36 : y35 = 0
                  · rw [if_pos c36] at h
                    obtain ⟨y39, μ37, hr38, h⟩ := sh_bind_e h
                    have hG37 := gp_X12_isHere hG33 (sh_LAYat_362) hr38
                    by_cases c40 : y39 = 0
                    · rw [if_pos c40] at h
                      obtain ⟨y43, μ41, hr42, h⟩ := sh_bind_e h
                      have hG41 := gp_X12_isHere hG37 (sh_LAYat_363) hr42
                      by_cases c44 : y43 = 0
                      · rw [if_pos c44] at h
                        obtain ⟨e1, e2⟩ := sh_some2 h
                        exact e2 ▸ hG41
                      · rw [if_neg c44] at h
                        obtain ⟨e1, e2⟩ := sh_some2 h
                        exact e2 ▸ hG41
                    · rw [if_neg c40] at h
                      obtain ⟨e1, e2⟩ := sh_some2 h
                      exact e2 ▸ hG37
                  · rw [if_neg c36] at h
                    obtain ⟨e1, e2⟩ := sh_some2 h
                    exact e2 ▸ hG33
                · rw [if_neg c32] at h
                  obtain ⟨e1, e2⟩ := sh_some2 h
                  exact e2 ▸ hG29
              · rw [if_neg c28] at h
                obtain ⟨e1, e2⟩ := sh_some2 h
                exact e2 ▸ hG25
            · rw [if_neg c24] at h
              obtain ⟨e1, e2⟩ := sh_some2 h
              exact e2 ▸ hG21
          · rw [if_neg c20] at h
            obtain ⟨e1, e2⟩ := sh_some2 h
            exact e2 ▸ hG17
        · rw [if_neg c16] at h
          obtain ⟨e1, e2⟩ := sh_some2 h
          exact e2 ▸ hG13
      · rw [if_neg c12] at h
        obtain ⟨e1, e2⟩ := sh_some2 h
        exact e2 ▸ hG9
    · rw [if_neg c8] at h
      obtain ⟨e1, e2⟩ := sh_some2 h
      exact e2 ▸ hG5
  · rw [if_neg c4] at h
    obtain ⟨e1, e2⟩ := sh_some2 h
    exact e2 ▸ hG1
theorem t_X12_qWordHere {μ μ' : sh_Mem} {v : Int32} (hG : sh_G μ) (h : f_X12_qWordHere μ = some (v, μ')) : sh_C0 l B D ca 3 M_X12_qWordHere [.ref 291] μ (fun v0 μ0 => v0 = some (.int v) ∧ μ0 = μ') := by
  unfold f_X12_qWordHere at h
  refine vv_aload_n 0 0 dX12_qWordHere_0 rfl rfl ?_
  refine vv_aload_n 1 0 dX12_qWordHere_1 rfl rfl ?_
  refine vv_getR 2 dX12_qWordHere_2 fl_12_203 rfl (g_l_291 hG) (g_r_291_91 hG) ?_
  obtain ⟨y3, μ1, hr2, h⟩ := sh_bind_e h
  refine v1_callV [_] 5 dX12_qWordHere_5 ck_X12_276 (g_l_291 hG) ⟨by decide, rfl⟩ (t_X12_isHere hG (sh_LAYat_353) hr2) (Nat.le_of_ble_eq_true rfl) ⟨Nat.le_of_ble_eq_true rfl, Nat.le_of_ble_eq_true rfl⟩ rfl (Nat.le_of_ble_eq_true rfl) ?_
  have hG1 := gp_X12_isHere hG (sh_LAYat_353) hr2
  refine vv_if_eq 8 13 dX12_qWordHere_8 (by decide) (fun c4 => ?_) (fun c4 => ?_)
  · rw [if_pos c4] at h
    refine vv_aload_n 13 0 dX12_qWordHere_13 rfl rfl ?_
    refine vv_aload_n 14 0 dX12_qWordHere_14 rfl rfl ?_
    refine vv_getR 15 dX12_qWordHere_15 fl_12_206 rfl (g_l_291 hG1) (g_r_291_92 hG1) ?_
    obtain ⟨y7, μ5, hr6, h⟩ := sh_bind_e h
    refine v1_callV [_] 18 dX12_qWordHere_18 ck_X12_276 (g_l_291 hG1) ⟨by decide, rfl⟩ (t_X12_isHere hG1 (sh_LAYat_354) hr6) (Nat.le_of_ble_eq_true rfl) ⟨Nat.le_of_ble_eq_true rfl, Nat.le_of_ble_eq_true rfl⟩ rfl (Nat.le_of_ble_eq_true rfl) ?_
    have hG5 := gp_X12_isHere hG1 (sh_LAYat_354) hr6
    refine vv_if_eq 21 26 dX12_qWordHere_21 (by decide) (fun c8 => ?_) (fun c8 => ?_)
    · rw [if_pos c8] at h
      refine vv_aload_n 26 0 dX12_qWordHere_26 rfl rfl ?_
      refine vv_aload_n 27 0 dX12_qWordHere_27 rfl rfl ?_
      refine vv_getR 28 dX12_qWordHere_28 fl_12_209 rfl (g_l_291 hG5) (g_r_291_93 hG5) ?_
      obtain ⟨y11, μ9, hr10, h⟩ := sh_bind_e h
      refine v1_callV [_] 31 dX12_qWordHere_31 ck_X12_276 (g_l_291 hG5) ⟨by decide, rfl⟩ (t_X12_isHere hG5 (sh_LAYat_355) hr10) (Nat.le_of_ble_eq_true rfl) ⟨Nat.le_of_ble_eq_true rfl, Nat.le_of_ble_eq_true rfl⟩ rfl (Nat.le_of_ble_eq_true rfl) ?_
      have hG9 := gp_X12_isHere hG5 (sh_LAYat_355) hr10
      refine vv_if_eq 34 39 dX12_qWordHere_34 (by decide) (fun c12 => ?_) (fun c12 => ?_)
      · rw [if_pos c12] at h
        refine vv_aload_n 39 0 dX12_qWordHere_39 rfl rfl ?_
        refine vv_aload_n 40 0 dX12_qWordHere_40 rfl rfl ?_
        refine vv_getR 41 dX12_qWordHere_41 fl_12_212 rfl (g_l_291 hG9) (g_r_291_94 hG9) ?_
        obtain ⟨y15, μ13, hr14, h⟩ := sh_bind_e h
        refine v1_callV [_] 44 dX12_qWordHere_44 ck_X12_276 (g_l_291 hG9) ⟨by decide, rfl⟩ (t_X12_isHere hG9 (sh_LAYat_356) hr14) (Nat.le_of_ble_eq_true rfl) ⟨Nat.le_of_ble_eq_true rfl, Nat.le_of_ble_eq_true rfl⟩ rfl (Nat.le_of_ble_eq_true rfl) ?_
        have hG13 := gp_X12_isHere hG9 (sh_LAYat_356) hr14
        refine vv_if_eq 47 52 dX12_qWordHere_47 (by decide) (fun c16 => ?_) (fun c16 => ?_)
        · rw [if_pos c16] at h
          refine vv_aload_n 52 0 dX12_qWordHere_52 rfl rfl ?_
          refine vv_aload_n 53 0 dX12_qWordHere_53 rfl rfl ?_
          refine vv_getR 54 dX12_qWordHere_54 fl_12_215 rfl (g_l_291 hG13) (g_r_291_95 hG13) ?_
          obtain ⟨y19, μ17, hr18, h⟩ := sh_bind_e h
          refine v1_callV [_] 57 dX12_qWordHere_57 ck_X12_276 (g_l_291 hG13) ⟨by decide, rfl⟩ (t_X12_isHere hG13 (sh_LAYat_357) hr18) (Nat.le_of_ble_eq_true rfl) ⟨Nat.le_of_ble_eq_true rfl, Nat.le_of_ble_eq_true rfl⟩ rfl (Nat.le_of_ble_eq_true rfl) ?_
          have hG17 := gp_X12_isHere hG13 (sh_LAYat_357) hr18
          refine vv_if_eq 60 65 dX12_qWordHere_60 (by decide) (fun c20 => ?_) (fun c20 => ?_)
          · rw [if_pos c20] at h
            refine vv_aload_n 65 0 dX12_qWordHere_65 rfl rfl ?_
            refine vv_aload_n 66 0 dX12_qWordHere_66 rfl rfl ?_
            refine vv_getR 67 dX12_qWordHere_67 fl_12_218 rfl (g_l_291 hG17) (g_r_291_96 hG17) ?_
            obtain ⟨y23, μ21, hr22, h⟩ := sh_bind_e h
            refine v1_callV [_] 70 dX12_qWordHere_70 ck_X12_276 (g_l_291 hG17) ⟨by decide, rfl⟩ (t_X12_isHere hG17 (sh_LAYat_358) hr22) (Nat.le_of_ble_eq_true rfl) ⟨Nat.le_of_ble_eq_true rfl, Nat.le_of_ble_eq_true rfl⟩ rfl (Nat.le_of_ble_eq_true rfl) ?_
            have hG21 := gp_X12_isHere hG17 (sh_LAYat_358) hr22
            refine vv_if_eq 73 78 dX12_qWordHere_73 (by decide) (fun c24 => ?_) (fun c24 => ?_)
            · rw [if_pos c24] at h
              refine vv_aload_n 78 0 dX12_qWordHere_78 rfl rfl ?_
              refine vv_aload_n 79 0 dX12_qWordHere_79 rfl rfl ?_
              refine vv_getR 80 dX12_qWordHere_80 fl_12_221 rfl (g_l_291 hG21) (g_r_291_97 hG21) ?_
              obtain ⟨y27, μ25, hr26, h⟩ := sh_bind_e h
              refine v1_callV [_] 83 dX12_qWordHere_83 ck_X12_276 (g_l_291 hG21) ⟨by decide, rfl⟩ (t_X12_isHere hG21 (sh_LAYat_359) hr26) (Nat.le_of_ble_eq_true rfl) ⟨Nat.le_of_ble_eq_true rfl, Nat.le_of_ble_eq_true rfl⟩ rfl (Nat.le_of_ble_eq_true rfl) ?_
              have hG25 := gp_X12_isHere hG21 (sh_LAYat_359) hr26
              refine vv_if_eq 86 92 dX12_qWordHere_86 (by decide) (fun c28 => ?_) (fun c28 => ?_)
              · rw [if_pos c28] at h
                refine vv_aload_n 92 0 dX12_qWordHere_92 rfl rfl ?_
                refine vv_aload_n 93 0 dX12_qWordHere_93 rfl rfl ?_
                refine vv_getR 94 dX12_qWordHere_94 fl_12_224 rfl (g_l_291 hG25) (g_r_291_98 hG25) ?_
                obtain ⟨y31, μ29, hr30, h⟩ := sh_bind_e h
                refine v1_callV [_] 97 dX12_qWordHere_97 ck_X12_276 (g_l_291 hG25) ⟨by decide, rfl⟩ (t_X12_isHere hG25 (sh_LAYat_360) hr30) (Nat.le_of_ble_eq_true rfl) ⟨Nat.le_of_ble_eq_true rfl, Nat.le_of_ble_eq_true rfl⟩ rfl (Nat.le_of_ble_eq_true rfl) ?_
                have hG29 := gp_X12_isHere hG25 (sh_LAYat_360) hr30
                refine vv_if_eq 100 106 dX12_qWordHere_100 (by decide) (fun c32 => ?_) (fun c32 => ?_)
                · rw [if_pos c32] at h
                  refine vv_aload_n 106 0 dX12_qWordHere_106 rfl rfl ?_
                  refine vv_aload_n 107 0 dX12_qWordHere_107 rfl rfl ?_
                  refine vv_getR 108 dX12_qWordHere_108 fl_12_227 rfl (g_l_291 hG29) (g_r_291_99 hG29) ?_
                  obtain ⟨y35, μ33, hr34, h⟩ := sh_bind_e h
                  refine v1_callV [_] 111 dX12_qWordHere_111 ck_X12_276 (g_l_291 hG29) ⟨by decide, rfl⟩ (t_X12_isHere hG29 (sh_LAYat_361) hr34) (Nat.le_of_ble_eq_true rfl) ⟨Nat.le_of_ble_eq_true rfl, Nat.le_of_ble_eq_true rfl⟩ rfl (Nat.le_of_ble_eq_true rfl) ?_
                  have hG33 := gp_X12_isHere hG29 (sh_LAYat_361) hr34
                  refine vv_if_eq 114 120 dX12_qWordHere_114 (by decide) (fun c36 => ?_) (fun c36 => ?_)
                  · rw [if_pos c36] at h
                    refine vv_aload_n 120 0 dX12_qWordHere_120 rfl rfl ?_
                    refine vv_aload_n 121 0 dX12_qWordHere_121 rfl rfl ?_
                    refine vv_getR 122 dX12_qWordHere_122 fl_12_230 rfl (g_l_291 hG33) (g_r_291_100 hG33) ?_
                    obtain ⟨y39, μ37, hr38, h⟩ := sh_bind_e h
                    refine v1_callV [_] 125 dX12_qWordHere_125 ck_X12_276 (g_l_291 hG33) ⟨by decide, rfl⟩ (t_X12_isHere hG33 (sh_LAYat_362) hr38) (Nat.le_of_ble_eq_true rfl) ⟨Nat.le_of_ble_eq_true rfl, Nat.le_of_ble_eq_true rfl⟩ rfl (Nat.le_of_ble_eq_true rfl) ?_
                    have hG37 := gp_X12_isHere hG33 (sh_LAYat_362) hr38
                    refine vv_if_eq 128 134 dX12_qWordHere_128 (by decide) (fun c40 => ?_) (fun c40 => ?_)
                    · rw [if_pos c40] at h
                      refine vv_aload_n 134 0 dX12_qWordHere_134 rfl rfl ?_
                      refine vv_aload_n 135 0 dX12_qWordHere_135 rfl rfl ?_
                      refine vv_getR 136 dX12_qWordHere_136 fl_12_233 rfl (g_l_291 hG37) (g_r_291_101 hG37) ?_
                      obtain ⟨y43, μ41, hr42, h⟩ := sh_bind_e h
                      refine v1_callV [_] 139 dX12_qWordHere_139 ck_X12_276 (g_l_291 hG37) ⟨by decide, rfl⟩ (t_X12_isHere hG37 (sh_LAYat_363) hr42) (Nat.le_of_ble_eq_true rfl) ⟨Nat.le_of_ble_eq_true rfl, Nat.le_of_ble_eq_true rfl⟩ rfl (Nat.le_of_ble_eq_true rfl) ?_
                      have hG41 := gp_X12_isHere hG37 (sh_LAYat_363) hr42
                      refine vv_if_eq 142 148 dX12_qWordHere_142 (by decide) (fun c44 => ?_) (fun c44 => ?_)
                      · rw [if_pos c44] at h
                        refine vv_iconst 148 dX12_qWordHere_148 ik_m1 ?_
                        obtain ⟨e1, e2⟩ := sh_some2 h
                        refine vv_iret 149 dX12_qWordHere_149 rfl (Nat.le_refl _) (Nat.le_refl _) ⟨by rw [e1], e2⟩
                      · rw [if_neg c44] at h
                        refine vv_bipush 145 dX12_qWordHere_145 bk_10 ?_
                        obtain ⟨e1, e2⟩ := sh_some2 h
                        refine vv_iret 147 dX12_qWordHere_147 rfl (Nat.le_refl _) (Nat.le_refl _) ⟨by rw [e1], e2⟩
                    · rw [if_neg c40] at h
                      refine vv_bipush 131 dX12_qWordHere_131 bk_9 ?_
                      obtain ⟨e1, e2⟩ := sh_some2 h
                      refine vv_iret 133 dX12_qWordHere_133 rfl (Nat.le_refl _) (Nat.le_refl _) ⟨by rw [e1], e2⟩
                  · rw [if_neg c36] at h
                    refine vv_bipush 117 dX12_qWordHere_117 bk_8 ?_
                    obtain ⟨e1, e2⟩ := sh_some2 h
                    refine vv_iret 119 dX12_qWordHere_119 rfl (Nat.le_refl _) (Nat.le_refl _) ⟨by rw [e1], e2⟩
                · rw [if_neg c32] at h
                  refine vv_bipush 103 dX12_qWordHere_103 bk_7 ?_
                  obtain ⟨e1, e2⟩ := sh_some2 h
                  refine vv_iret 105 dX12_qWordHere_105 rfl (Nat.le_refl _) (Nat.le_refl _) ⟨by rw [e1], e2⟩
              · rw [if_neg c28] at h
                refine vv_bipush 89 dX12_qWordHere_89 bk_6 ?_
                obtain ⟨e1, e2⟩ := sh_some2 h
                refine vv_iret 91 dX12_qWordHere_91 rfl (Nat.le_refl _) (Nat.le_refl _) ⟨by rw [e1], e2⟩
            · rw [if_neg c24] at h
              refine vv_iconst 76 dX12_qWordHere_76 ik_5 ?_
              obtain ⟨e1, e2⟩ := sh_some2 h
              refine vv_iret 77 dX12_qWordHere_77 rfl (Nat.le_refl _) (Nat.le_refl _) ⟨by rw [e1], e2⟩
          · rw [if_neg c20] at h
            refine vv_iconst 63 dX12_qWordHere_63 ik_4 ?_
            obtain ⟨e1, e2⟩ := sh_some2 h
            refine vv_iret 64 dX12_qWordHere_64 rfl (Nat.le_refl _) (Nat.le_refl _) ⟨by rw [e1], e2⟩
        · rw [if_neg c16] at h
          refine vv_iconst 50 dX12_qWordHere_50 ik_3 ?_
          obtain ⟨e1, e2⟩ := sh_some2 h
          refine vv_iret 51 dX12_qWordHere_51 rfl (Nat.le_refl _) (Nat.le_refl _) ⟨by rw [e1], e2⟩
      · rw [if_neg c12] at h
        refine vv_iconst 37 dX12_qWordHere_37 ik_2 ?_
        obtain ⟨e1, e2⟩ := sh_some2 h
        refine vv_iret 38 dX12_qWordHere_38 rfl (Nat.le_refl _) (Nat.le_refl _) ⟨by rw [e1], e2⟩
    · rw [if_neg c8] at h
      refine vv_iconst 24 dX12_qWordHere_24 ik_1 ?_
      obtain ⟨e1, e2⟩ := sh_some2 h
      refine vv_iret 25 dX12_qWordHere_25 rfl (Nat.le_refl _) (Nat.le_refl _) ⟨by rw [e1], e2⟩
  · rw [if_neg c4] at h
    refine vv_iconst 11 dX12_qWordHere_11 ik_0 ?_
    obtain ⟨e1, e2⟩ := sh_some2 h
    refine vv_iret 12 dX12_qWordHere_12 rfl (Nat.le_refl _) (Nat.le_refl _) ⟨by rw [e1], e2⟩
noncomputable def f_X12_qWordOf (a1 : Int32) (a2 : Int32) (μ : sh_Mem) : Option (Int32 × sh_Mem) := sh_bind (f_X12_qWordHere μ) (fun y3 μ1 => (if y3 < a1 then some ((-1), μ1) else (if a2 ≤ y3 then some ((-1), μ1) else (if (f_X12_isAllowed μ1 y3) = 0 then some ((-1), μ1) else some (y3, μ1)))))
theorem gp_X12_qWordOf {a1 : Int32} {a2 : Int32} {μ μ' : sh_Mem} {v : Int32} (hG : sh_G μ) (h : f_X12_qWordOf a1 a2 μ = some (v, μ')) : sh_G μ' := by
  unfold f_X12_qWordOf at h
  obtain ⟨y3, μ1, hr2, h⟩ := sh_bind_e h
  have hG1 := gp_X12_qWordHere hG hr2
  by_cases c4 : y3 < a1
  · rw [if_pos c4] at h
    obtain ⟨e1, e2⟩ := sh_some2 h
    exact e2 ▸ hG1
  · rw [if_neg c4] at h
    by_cases c5 : a2 ≤ y3
    · rw [if_pos c5] at h
      obtain ⟨e1, e2⟩ := sh_some2 h
      exact e2 ▸ hG1
    · rw [if_neg c5] at h
      by_cases c6 : (f_X12_isAllowed μ1 y3) = 0
      · rw [if_pos c6] at h
        obtain ⟨e1, e2⟩ := sh_some2 h
        exact e2 ▸ hG1
      · rw [if_neg c6] at h
        obtain ⟨e1, e2⟩ := sh_some2 h
        exact e2 ▸ hG1
theorem t_X12_qWordOf {a1 : Int32} {a2 : Int32} {μ μ' : sh_Mem} {v : Int32} (hG : sh_G μ) (h : f_X12_qWordOf a1 a2 μ = some (v, μ')) : sh_C0 l B D ca 4 M_X12_qWordOf [.ref 291, .int a1, .int a2] μ (fun v0 μ0 => v0 = some (.int v) ∧ μ0 = μ') := by
  unfold f_X12_qWordOf at h
  refine vv_aload_n 0 0 dX12_qWordOf_0 rfl rfl ?_
  obtain ⟨y3, μ1, hr2, h⟩ := sh_bind_e h
  refine v1_callV [] 1 dX12_qWordOf_1 ck_X12_651 (g_l_291 hG) ⟨by decide, rfl⟩ (t_X12_qWordHere hG hr2) (Nat.le_of_ble_eq_true rfl) ⟨Nat.le_of_ble_eq_true rfl, Nat.le_of_ble_eq_true rfl⟩ rfl (Nat.le_of_ble_eq_true rfl) ?_
  have hG1 := gp_X12_qWordHere hG hr2
  refine vv_istore_n (lv' := [(3, _), (0, _), (1, _), (2, _)]) 4 3 dX12_qWordOf_4 rfl (by decide) rfl ?_
  refine vv_iload_n 5 3 dX12_qWordOf_5 rfl rfl ?_
  refine vv_iload_n 6 1 dX12_qWordOf_6 rfl rfl ?_
  refine vv_icmp_lt 7 27 dX12_qWordOf_7 (by decide) (fun c4 => ?_) (fun c4 => ?_)
  · rw [if_pos c4] at h
    refine vv_iconst 27 dX12_qWordOf_27 ik_m1 ?_
    obtain ⟨e1, e2⟩ := sh_some2 h
    refine vv_iret 28 dX12_qWordOf_28 rfl (Nat.le_refl _) (Nat.le_refl _) ⟨by rw [e1], e2⟩
  · rw [if_neg c4] at h
    refine vv_iload_n 10 3 dX12_qWordOf_10 rfl rfl ?_
    refine vv_iload_n 11 2 dX12_qWordOf_11 rfl rfl ?_
    refine vv_icmp_ge 12 27 dX12_qWordOf_12 (by decide) (fun c5 => ?_) (fun c5 => ?_)
    · rw [if_pos c5] at h
      refine vv_iconst 27 dX12_qWordOf_27 ik_m1 ?_
      obtain ⟨e1, e2⟩ := sh_some2 h
      refine vv_iret 28 dX12_qWordOf_28 rfl (Nat.le_refl _) (Nat.le_refl _) ⟨by rw [e1], e2⟩
    · rw [if_neg c5] at h
      refine vv_aload_n 15 0 dX12_qWordOf_15 rfl rfl ?_
      refine vv_iload_n 16 3 dX12_qWordOf_16 rfl rfl ?_
      refine v1_callV [_] 17 dX12_qWordOf_17 ck_X12_654 (g_l_291 hG1) ⟨by decide, rfl⟩ (c_X12_isAllowed (μ := μ1) hG1) (Nat.le_of_ble_eq_true rfl) ⟨Nat.le_of_ble_eq_true rfl, Nat.le_of_ble_eq_true rfl⟩ rfl (Nat.le_of_ble_eq_true rfl) ?_
      refine vv_if_eq 20 27 dX12_qWordOf_20 (by decide) (fun c6 => ?_) (fun c6 => ?_)
      · rw [if_pos c6] at h
        refine vv_iconst 27 dX12_qWordOf_27 ik_m1 ?_
        obtain ⟨e1, e2⟩ := sh_some2 h
        refine vv_iret 28 dX12_qWordOf_28 rfl (Nat.le_refl _) (Nat.le_refl _) ⟨by rw [e1], e2⟩
      · rw [if_neg c6] at h
        refine vv_iload_n 23 3 dX12_qWordOf_23 rfl rfl ?_
        refine vv_goto 24 28 dX12_qWordOf_24 (by decide) ?_
        obtain ⟨e1, e2⟩ := sh_some2 h
        refine vv_iret 28 dX12_qWordOf_28 rfl (Nat.le_refl _) (Nat.le_refl _) ⟨by rw [e1], e2⟩
noncomputable def f_X12_qAsksWord (a1 : Int32) (μ : sh_Mem) : Option sh_Mem := (if a1 = 0 then sh_bindv (f_X12_needs 353 5 μ) (fun μ2 => some μ2) else (if a1 = 1 then sh_bindv (f_X12_needs 354 6 μ) (fun μ6 => some μ6) else (if a1 = 2 then sh_bindv (f_X12_needs 355 5 μ) (fun μ10 => some μ10) else (if a1 = 3 then sh_bindv (f_X12_needs 356 3 μ) (fun μ14 => some μ14) else (if a1 = 4 then sh_bindv (f_X12_needs 357 5 μ) (fun μ18 => some μ18) else (if a1 = 5 then sh_bindv (f_X12_needs 358 4 μ) (fun μ22 => some μ22) else (if a1 = 6 then sh_bindv (f_X12_needs 359 6 μ) (fun μ26 => some μ26) else (if a1 = 7 then sh_bindv (f_X12_needs 360 6 μ) (fun μ30 => some μ30) else (if a1 = 8 then sh_bindv (f_X12_needs 361 3 μ) (fun μ34 => some μ34) else (if a1 = 9 then sh_bindv (f_X12_needs 362 5 μ) (fun μ38 => some μ38) else sh_bindv (f_X12_needs 363 5 μ) (fun μ41 => some μ41)))))))))))
theorem gp_X12_qAsksWord {a1 : Int32} {μ μ' : sh_Mem} (hG : sh_G μ) (h : f_X12_qAsksWord a1 μ = some μ') : sh_G μ' := by
  unfold f_X12_qAsksWord at h
  by_cases c1 : a1 = 0
  · rw [if_pos c1] at h
    obtain ⟨μ2, hr3, h⟩ := sh_bindv_e h
    have hG2 := gp_X12_needs hG (sh_LAYat_353) hr3
    have e2 := Option.some.inj h
    exact e2 ▸ hG2
  rw [if_neg c1] at h
  by_cases c5 : a1 = 1
  · rw [if_pos c5] at h
    obtain ⟨μ6, hr7, h⟩ := sh_bindv_e h
    have hG6 := gp_X12_needs hG (sh_LAYat_354) hr7
    have e2 := Option.some.inj h
    exact e2 ▸ hG6
  rw [if_neg c5] at h
  by_cases c9 : a1 = 2
  · rw [if_pos c9] at h
    obtain ⟨μ10, hr11, h⟩ := sh_bindv_e h
    have hG10 := gp_X12_needs hG (sh_LAYat_355) hr11
    have e2 := Option.some.inj h
    exact e2 ▸ hG10
  rw [if_neg c9] at h
  by_cases c13 : a1 = 3
  · rw [if_pos c13] at h
    obtain ⟨μ14, hr15, h⟩ := sh_bindv_e h
    have hG14 := gp_X12_needs hG (sh_LAYat_356) hr15
    have e2 := Option.some.inj h
    exact e2 ▸ hG14
  rw [if_neg c13] at h
  by_cases c17 : a1 = 4
  · rw [if_pos c17] at h
    obtain ⟨μ18, hr19, h⟩ := sh_bindv_e h
    have hG18 := gp_X12_needs hG (sh_LAYat_357) hr19
    have e2 := Option.some.inj h
    exact e2 ▸ hG18
  rw [if_neg c17] at h
  by_cases c21 : a1 = 5
  · rw [if_pos c21] at h
    obtain ⟨μ22, hr23, h⟩ := sh_bindv_e h
    have hG22 := gp_X12_needs hG (sh_LAYat_358) hr23
    have e2 := Option.some.inj h
    exact e2 ▸ hG22
  rw [if_neg c21] at h
  by_cases c25 : a1 = 6
  · rw [if_pos c25] at h
    obtain ⟨μ26, hr27, h⟩ := sh_bindv_e h
    have hG26 := gp_X12_needs hG (sh_LAYat_359) hr27
    have e2 := Option.some.inj h
    exact e2 ▸ hG26
  rw [if_neg c25] at h
  by_cases c29 : a1 = 7
  · rw [if_pos c29] at h
    obtain ⟨μ30, hr31, h⟩ := sh_bindv_e h
    have hG30 := gp_X12_needs hG (sh_LAYat_360) hr31
    have e2 := Option.some.inj h
    exact e2 ▸ hG30
  rw [if_neg c29] at h
  by_cases c33 : a1 = 8
  · rw [if_pos c33] at h
    obtain ⟨μ34, hr35, h⟩ := sh_bindv_e h
    have hG34 := gp_X12_needs hG (sh_LAYat_361) hr35
    have e2 := Option.some.inj h
    exact e2 ▸ hG34
  rw [if_neg c33] at h
  by_cases c37 : a1 = 9
  · rw [if_pos c37] at h
    obtain ⟨μ38, hr39, h⟩ := sh_bindv_e h
    have hG38 := gp_X12_needs hG (sh_LAYat_362) hr39
    have e2 := Option.some.inj h
    exact e2 ▸ hG38
  rw [if_neg c37] at h
  obtain ⟨μ41, hr42, h⟩ := sh_bindv_e h
  have hG41 := gp_X12_needs hG (sh_LAYat_363) hr42
  have e2 := Option.some.inj h
  exact e2 ▸ hG41
theorem t_X12_qAsksWord {a1 : Int32} {μ μ' : sh_Mem} (hG : sh_G μ) (h : f_X12_qAsksWord a1 μ = some μ') : sh_C0 l B D ca 5 M_X12_qAsksWord [.ref 291, .int a1] μ (fun v0 μ0 => v0 = none ∧ μ0 = μ') := by
  unfold f_X12_qAsksWord at h
  refine vv_iload_n 0 1 dX12_qAsksWord_0 rfl rfl ?_
  by_cases c1 : a1 = 0
  · rw [if_pos c1] at h
    refine vv_tabIn 1 56 dX12_qAsksWord_1 (by rw [c1]; decide) (by rw [c1]; decide) (off := 55) (by rw [c1]; decide) (by decide) ?_
    refine vv_aload_n 56 0 dX12_qAsksWord_56 rfl rfl ?_
    refine vv_aload_n 57 0 dX12_qAsksWord_57 rfl rfl ?_
    refine vv_getR 58 dX12_qAsksWord_58 fl_12_203 rfl (g_l_291 hG) (g_r_291_91 hG) ?_
    obtain ⟨μ2, hr3, h⟩ := sh_bindv_e h
    refine v1_callV [_] 61 dX12_qAsksWord_61 ck_X12_318 (g_l_291 hG) ⟨by decide, rfl⟩ (t_X12_needs hG (sh_LAYat_353) hr3) (Nat.le_of_ble_eq_true rfl) ⟨Nat.le_of_ble_eq_true rfl, Nat.le_of_ble_eq_true rfl⟩ rfl (Nat.le_of_ble_eq_true rfl) ?_
    have hG2 := gp_X12_needs hG (sh_LAYat_353) hr3
    refine vv_goto 64 174 dX12_qAsksWord_64 (by decide) ?_
    have e2 := Option.some.inj h
    refine vv_vret 174 dX12_qAsksWord_174 rfl (Nat.le_refl _) (Nat.le_refl _) ⟨rfl, e2⟩
  rw [if_neg c1] at h
  by_cases c5 : a1 = 1
  · rw [if_pos c5] at h
    refine vv_tabIn 1 67 dX12_qAsksWord_1 (by rw [c5]; decide) (by rw [c5]; decide) (off := 66) (by rw [c5]; decide) (by decide) ?_
    refine vv_aload_n 67 0 dX12_qAsksWord_67 rfl rfl ?_
    refine vv_aload_n 68 0 dX12_qAsksWord_68 rfl rfl ?_
    refine vv_getR 69 dX12_qAsksWord_69 fl_12_206 rfl (g_l_291 hG) (g_r_291_92 hG) ?_
    obtain ⟨μ6, hr7, h⟩ := sh_bindv_e h
    refine v1_callV [_] 72 dX12_qAsksWord_72 ck_X12_318 (g_l_291 hG) ⟨by decide, rfl⟩ (t_X12_needs hG (sh_LAYat_354) hr7) (Nat.le_of_ble_eq_true rfl) ⟨Nat.le_of_ble_eq_true rfl, Nat.le_of_ble_eq_true rfl⟩ rfl (Nat.le_of_ble_eq_true rfl) ?_
    have hG6 := gp_X12_needs hG (sh_LAYat_354) hr7
    refine vv_goto 75 174 dX12_qAsksWord_75 (by decide) ?_
    have e2 := Option.some.inj h
    refine vv_vret 174 dX12_qAsksWord_174 rfl (Nat.le_refl _) (Nat.le_refl _) ⟨rfl, e2⟩
  rw [if_neg c5] at h
  by_cases c9 : a1 = 2
  · rw [if_pos c9] at h
    refine vv_tabIn 1 78 dX12_qAsksWord_1 (by rw [c9]; decide) (by rw [c9]; decide) (off := 77) (by rw [c9]; decide) (by decide) ?_
    refine vv_aload_n 78 0 dX12_qAsksWord_78 rfl rfl ?_
    refine vv_aload_n 79 0 dX12_qAsksWord_79 rfl rfl ?_
    refine vv_getR 80 dX12_qAsksWord_80 fl_12_209 rfl (g_l_291 hG) (g_r_291_93 hG) ?_
    obtain ⟨μ10, hr11, h⟩ := sh_bindv_e h
    refine v1_callV [_] 83 dX12_qAsksWord_83 ck_X12_318 (g_l_291 hG) ⟨by decide, rfl⟩ (t_X12_needs hG (sh_LAYat_355) hr11) (Nat.le_of_ble_eq_true rfl) ⟨Nat.le_of_ble_eq_true rfl, Nat.le_of_ble_eq_true rfl⟩ rfl (Nat.le_of_ble_eq_true rfl) ?_
    have hG10 := gp_X12_needs hG (sh_LAYat_355) hr11
    refine vv_goto 86 174 dX12_qAsksWord_86 (by decide) ?_
    have e2 := Option.some.inj h
    refine vv_vret 174 dX12_qAsksWord_174 rfl (Nat.le_refl _) (Nat.le_refl _) ⟨rfl, e2⟩
  rw [if_neg c9] at h
  by_cases c13 : a1 = 3
  · rw [if_pos c13] at h
    refine vv_tabIn 1 89 dX12_qAsksWord_1 (by rw [c13]; decide) (by rw [c13]; decide) (off := 88) (by rw [c13]; decide) (by decide) ?_
    refine vv_aload_n 89 0 dX12_qAsksWord_89 rfl rfl ?_
    refine vv_aload_n 90 0 dX12_qAsksWord_90 rfl rfl ?_
    refine vv_getR 91 dX12_qAsksWord_91 fl_12_212 rfl (g_l_291 hG) (g_r_291_94 hG) ?_
    obtain ⟨μ14, hr15, h⟩ := sh_bindv_e h
    refine v1_callV [_] 94 dX12_qAsksWord_94 ck_X12_318 (g_l_291 hG) ⟨by decide, rfl⟩ (t_X12_needs hG (sh_LAYat_356) hr15) (Nat.le_of_ble_eq_true rfl) ⟨Nat.le_of_ble_eq_true rfl, Nat.le_of_ble_eq_true rfl⟩ rfl (Nat.le_of_ble_eq_true rfl) ?_
    have hG14 := gp_X12_needs hG (sh_LAYat_356) hr15
    refine vv_goto 97 174 dX12_qAsksWord_97 (by decide) ?_
    have e2 := Option.some.inj h
    refine vv_vret 174 dX12_qAsksWord_174 rfl (Nat.le_refl _) (Nat.le_refl _) ⟨rfl, e2⟩
  rw [if_neg c13] at h
  by_cases c17 : a1 = 4
  · rw [if_pos c17] at h
    refine vv_tabIn 1 100 dX12_qAsksWord_1 (by rw [c17]; decide) (by rw [c17]; decide) (off := 99) (by rw [c17]; decide) (by decide) ?_
    refine vv_aload_n 100 0 dX12_qAsksWord_100 rfl rfl ?_
    refine vv_aload_n 101 0 dX12_qAsksWord_101 rfl rfl ?_
    refine vv_getR 102 dX12_qAsksWord_102 fl_12_215 rfl (g_l_291 hG) (g_r_291_95 hG) ?_
    obtain ⟨μ18, hr19, h⟩ := sh_bindv_e h
    refine v1_callV [_] 105 dX12_qAsksWord_105 ck_X12_318 (g_l_291 hG) ⟨by decide, rfl⟩ (t_X12_needs hG (sh_LAYat_357) hr19) (Nat.le_of_ble_eq_true rfl) ⟨Nat.le_of_ble_eq_true rfl, Nat.le_of_ble_eq_true rfl⟩ rfl (Nat.le_of_ble_eq_true rfl) ?_
    have hG18 := gp_X12_needs hG (sh_LAYat_357) hr19
    refine vv_goto 108 174 dX12_qAsksWord_108 (by decide) ?_
    have e2 := Option.some.inj h
    refine vv_vret 174 dX12_qAsksWord_174 rfl (Nat.le_refl _) (Nat.le_refl _) ⟨rfl, e2⟩
  rw [if_neg c17] at h
  by_cases c21 : a1 = 5
  · rw [if_pos c21] at h
    refine vv_tabIn 1 111 dX12_qAsksWord_1 (by rw [c21]; decide) (by rw [c21]; decide) (off := 110) (by rw [c21]; decide) (by decide) ?_
    refine vv_aload_n 111 0 dX12_qAsksWord_111 rfl rfl ?_
    refine vv_aload_n 112 0 dX12_qAsksWord_112 rfl rfl ?_
    refine vv_getR 113 dX12_qAsksWord_113 fl_12_218 rfl (g_l_291 hG) (g_r_291_96 hG) ?_
    obtain ⟨μ22, hr23, h⟩ := sh_bindv_e h
    refine v1_callV [_] 116 dX12_qAsksWord_116 ck_X12_318 (g_l_291 hG) ⟨by decide, rfl⟩ (t_X12_needs hG (sh_LAYat_358) hr23) (Nat.le_of_ble_eq_true rfl) ⟨Nat.le_of_ble_eq_true rfl, Nat.le_of_ble_eq_true rfl⟩ rfl (Nat.le_of_ble_eq_true rfl) ?_
    have hG22 := gp_X12_needs hG (sh_LAYat_358) hr23
    refine vv_goto 119 174 dX12_qAsksWord_119 (by decide) ?_
    have e2 := Option.some.inj h
    refine vv_vret 174 dX12_qAsksWord_174 rfl (Nat.le_refl _) (Nat.le_refl _) ⟨rfl, e2⟩
  rw [if_neg c21] at h
  by_cases c25 : a1 = 6
  · rw [if_pos c25] at h
    refine vv_tabIn 1 122 dX12_qAsksWord_1 (by rw [c25]; decide) (by rw [c25]; decide) (off := 121) (by rw [c25]; decide) (by decide) ?_
    refine vv_aload_n 122 0 dX12_qAsksWord_122 rfl rfl ?_
    refine vv_aload_n 123 0 dX12_qAsksWord_123 rfl rfl ?_
    refine vv_getR 124 dX12_qAsksWord_124 fl_12_221 rfl (g_l_291 hG) (g_r_291_97 hG) ?_
    obtain ⟨μ26, hr27, h⟩ := sh_bindv_e h
    refine v1_callV [_] 127 dX12_qAsksWord_127 ck_X12_318 (g_l_291 hG) ⟨by decide, rfl⟩ (t_X12_needs hG (sh_LAYat_359) hr27) (Nat.le_of_ble_eq_true rfl) ⟨Nat.le_of_ble_eq_true rfl, Nat.le_of_ble_eq_true rfl⟩ rfl (Nat.le_of_ble_eq_true rfl) ?_
    have hG26 := gp_X12_needs hG (sh_LAYat_359) hr27
    refine vv_goto 130 174 dX12_qAsksWord_130 (by decide) ?_
    have e2 := Option.some.inj h
    refine vv_vret 174 dX12_qAsksWord_174 rfl (Nat.le_refl _) (Nat.le_refl _) ⟨rfl, e2⟩
  rw [if_neg c25] at h
  by_cases c29 : a1 = 7
  · rw [if_pos c29] at h
    refine vv_tabIn 1 133 dX12_qAsksWord_1 (by rw [c29]; decide) (by rw [c29]; decide) (off := 132) (by rw [c29]; decide) (by decide) ?_
    refine vv_aload_n 133 0 dX12_qAsksWord_133 rfl rfl ?_
    refine vv_aload_n 134 0 dX12_qAsksWord_134 rfl rfl ?_
    refine vv_getR 135 dX12_qAsksWord_135 fl_12_224 rfl (g_l_291 hG) (g_r_291_98 hG) ?_
    obtain ⟨μ30, hr31, h⟩ := sh_bindv_e h
    refine v1_callV [_] 138 dX12_qAsksWord_138 ck_X12_318 (g_l_291 hG) ⟨by decide, rfl⟩ (t_X12_needs hG (sh_LAYat_360) hr31) (Nat.le_of_ble_eq_true rfl) ⟨Nat.le_of_ble_eq_true rfl, Nat.le_of_ble_eq_true rfl⟩ rfl (Nat.le_of_ble_eq_true rfl) ?_
    have hG30 := gp_X12_needs hG (sh_LAYat_360) hr31
    refine vv_goto 141 174 dX12_qAsksWord_141 (by decide) ?_
    have e2 := Option.some.inj h
    refine vv_vret 174 dX12_qAsksWord_174 rfl (Nat.le_refl _) (Nat.le_refl _) ⟨rfl, e2⟩
  rw [if_neg c29] at h
  by_cases c33 : a1 = 8
  · rw [if_pos c33] at h
    refine vv_tabIn 1 144 dX12_qAsksWord_1 (by rw [c33]; decide) (by rw [c33]; decide) (off := 143) (by rw [c33]; decide) (by decide) ?_
    refine vv_aload_n 144 0 dX12_qAsksWord_144 rfl rfl ?_
    refine vv_aload_n 145 0 dX12_qAsksWord_145 rfl rfl ?_
    refine vv_getR 146 dX12_qAsksWord_146 fl_12_227 rfl (g_l_291 hG) (g_r_291_99 hG) ?_
    obtain ⟨μ34, hr35, h⟩ := sh_bindv_e h
    refine v1_callV [_] 149 dX12_qAsksWord_149 ck_X12_318 (g_l_291 hG) ⟨by decide, rfl⟩ (t_X12_needs hG (sh_LAYat_361) hr35) (Nat.le_of_ble_eq_true rfl) ⟨Nat.le_of_ble_eq_true rfl, Nat.le_of_ble_eq_true rfl⟩ rfl (Nat.le_of_ble_eq_true rfl) ?_
    have hG34 := gp_X12_needs hG (sh_LAYat_361) hr35
    refine vv_goto 152 174 dX12_qAsksWord_152 (by decide) ?_
    have e2 := Option.some.inj h
    refine vv_vret 174 dX12_qAsksWord_174 rfl (Nat.le_refl _) (Nat.le_refl _) ⟨rfl, e2⟩
  rw [if_neg c33] at h
  by_cases c37 : a1 = 9
  · rw [if_pos c37] at h
    refine vv_tabIn 1 155 dX12_qAsksWord_1 (by rw [c37]; decide) (by rw [c37]; decide) (off := 154) (by rw [c37]; decide) (by decide) ?_
    refine vv_aload_n 155 0 dX12_qAsksWord_155 rfl rfl ?_
    refine vv_aload_n 156 0 dX12_qAsksWord_156 rfl rfl ?_
    refine vv_getR 157 dX12_qAsksWord_157 fl_12_230 rfl (g_l_291 hG) (g_r_291_100 hG) ?_
    obtain ⟨μ38, hr39, h⟩ := sh_bindv_e h
    refine v1_callV [_] 160 dX12_qAsksWord_160 ck_X12_318 (g_l_291 hG) ⟨by decide, rfl⟩ (t_X12_needs hG (sh_LAYat_362) hr39) (Nat.le_of_ble_eq_true rfl) ⟨Nat.le_of_ble_eq_true rfl, Nat.le_of_ble_eq_true rfl⟩ rfl (Nat.le_of_ble_eq_true rfl) ?_
    have hG38 := gp_X12_needs hG (sh_LAYat_362) hr39
    refine vv_goto 163 174 dX12_qAsksWord_163 (by decide) ?_
    have e2 := Option.some.inj h
    refine vv_vret 174 dX12_qAsksWord_174 rfl (Nat.le_refl _) (Nat.le_refl _) ⟨rfl, e2⟩
  rw [if_neg c37] at h
  refine vv_tabOut 1 166 dX12_qAsksWord_1 (sh_tout 0 9 (by intro j h1 h2; rcases (show j = 0 ∨ j = 1 ∨ j = 2 ∨ j = 3 ∨ j = 4 ∨ j = 5 ∨ j = 6 ∨ j = 7 ∨ j = 8 ∨ j = 9 by omega) with rfl | rfl | rfl | rfl | rfl | rfl | rfl | rfl | rfl | rfl <;> first | exact sh_lne c1 (by decide) | exact sh_lne c5 (by decide) | exact sh_lne c9 (by decide) | exact sh_lne c13 (by decide) | exact sh_lne c17 (by decide) | exact sh_lne c21 (by decide) | exact sh_lne c25 (by decide) | exact sh_lne c29 (by decide) | exact sh_lne c33 (by decide) | exact sh_lne c37 (by decide))) (by decide) ?_
  refine vv_aload_n 166 0 dX12_qAsksWord_166 rfl rfl ?_
  refine vv_aload_n 167 0 dX12_qAsksWord_167 rfl rfl ?_
  refine vv_getR 168 dX12_qAsksWord_168 fl_12_233 rfl (g_l_291 hG) (g_r_291_101 hG) ?_
  obtain ⟨μ41, hr42, h⟩ := sh_bindv_e h
  refine v1_callV [_] 171 dX12_qAsksWord_171 ck_X12_318 (g_l_291 hG) ⟨by decide, rfl⟩ (t_X12_needs hG (sh_LAYat_363) hr42) (Nat.le_of_ble_eq_true rfl) ⟨Nat.le_of_ble_eq_true rfl, Nat.le_of_ble_eq_true rfl⟩ rfl (Nat.le_of_ble_eq_true rfl) ?_
  have hG41 := gp_X12_needs hG (sh_LAYat_363) hr42
  have e2 := Option.some.inj h
  refine vv_vret 174 dX12_qAsksWord_174 rfl (Nat.le_refl _) (Nat.le_refl _) ⟨rfl, e2⟩
noncomputable def F_X12_qEndsPart : Nat → Nat → sh_Mem → Option sh_Mem
  | 0, _, _ => none
  | fuel + 1, lbl, μ => match lbl with
    | 1 => (if (sh_i μ 291 5) = 0 then (if (sh_i μ 291 105) ≤ (sh_i μ 291 107) then some μ else (if sh_in ((sh_i μ 291 105) - 1) 1700 then (if (sh_i μ 365 (((sh_i μ 291 105) - 1)).toNatClampNeg) < 60 then some μ else sh_let (sh_setI μ 291 106 ((sh_i μ 291 106) - 1)) (fun μ13 => sh_bindv (f_X12_qDrops μ13) (fun μ14 => F_X12_qEndsPart fuel 1  μ14))) else none)) else some μ)
    | _ => none
noncomputable def f_X12_qEndsPart (μ : sh_Mem) : Option sh_Mem := F_X12_qEndsPart sh_fuel 1  μ
theorem gpl_X12_qEndsPart (fuel : Nat) : (∀ ⦃μ μ' : sh_Mem⦄, sh_G μ → F_X12_qEndsPart fuel 1 μ = some μ' → sh_G μ') := by
  induction fuel with
  | zero => intro μ μ' hG h; cases h
  | succ fuel ih =>
    have ih_0 := ih
    intro μ μ' hG h
    replace h : ((if (sh_i μ 291 5) = 0 then (if (sh_i μ 291 105) ≤ (sh_i μ 291 107) then some μ else (if sh_in ((sh_i μ 291 105) - 1) 1700 then (if (sh_i μ 365 (((sh_i μ 291 105) - 1)).toNatClampNeg) < 60 then some μ else sh_let (sh_setI μ 291 106 ((sh_i μ 291 106) - 1)) (fun μ13 => sh_bindv (f_X12_qDrops μ13) (fun μ14 => F_X12_qEndsPart fuel 1  μ14))) else none)) else some μ) : Option sh_Mem) = some μ' := h
    by_cases c9 : (sh_i μ 291 5) = 0
    · rw [if_pos c9] at h
      by_cases c10 : (sh_i μ 291 105) ≤ (sh_i μ 291 107)
      · rw [if_pos c10] at h
        have e2 := Option.some.inj h
        exact e2 ▸ hG
      · rw [if_neg c10] at h
        obtain ⟨k11, h⟩ := sh_chk h
        by_cases c12 : (sh_i μ 365 (((sh_i μ 291 105) - 1)).toNatClampNeg) < 60
        · rw [if_pos c12] at h
          have e2 := Option.some.inj h
          exact e2 ▸ hG
        · rw [if_neg c12] at h
          obtain ⟨μ13, eμ13⟩ : ∃ y : sh_Mem, y = (sh_setI μ 291 106 ((sh_i μ 291 106) - 1)) := ⟨_, rfl⟩
          rw [sh_let_eq eμ13] at h
          have hG13 : sh_G μ13 := by rw [eμ13]; exact hG
          obtain ⟨μ14, hr15, h⟩ := sh_bindv_e h
          have hG14 := gp_X12_qDrops hG13 hr15
          exact ih_0 hG14 h
    · rw [if_neg c9] at h
      have e2 := Option.some.inj h
      exact e2 ▸ hG
theorem tl_X12_qEndsPart (fuel : Nat) : (∀ ⦃μ μ' : sh_Mem⦄, sh_G μ → F_X12_qEndsPart fuel 1 μ = some μ' → sh_V0 l B D ca 3 M_X12_qEndsPart 0 [(0, .ref 291)] [] μ (fun v0 μ0 => v0 = none ∧ μ0 = μ')) := by
  induction fuel with
  | zero => intro μ μ' hG h; cases h
  | succ fuel ih =>
    have ih_0 := ih
    intro μ μ' hG h
    replace h : ((if (sh_i μ 291 5) = 0 then (if (sh_i μ 291 105) ≤ (sh_i μ 291 107) then some μ else (if sh_in ((sh_i μ 291 105) - 1) 1700 then (if (sh_i μ 365 (((sh_i μ 291 105) - 1)).toNatClampNeg) < 60 then some μ else sh_let (sh_setI μ 291 106 ((sh_i μ 291 106) - 1)) (fun μ13 => sh_bindv (f_X12_qDrops μ13) (fun μ14 => F_X12_qEndsPart fuel 1  μ14))) else none)) else some μ) : Option sh_Mem) = some μ' := h
    refine vv_aload_n 0 0 dX12_qEndsPart_0 rfl rfl ?_
    refine vv_getI 1 dX12_qEndsPart_1 fl_12_253 rfl (g_l_291 hG) ?_
    refine vv_if_ne 4 51 dX12_qEndsPart_4 (by decide) (fun c9 => ?_) (fun c9 => ?_)
    · rw [if_neg c9] at h
      have e2 := Option.some.inj h
      refine vv_vret 51 dX12_qEndsPart_51 rfl (Nat.le_refl _) (Nat.le_refl _) ⟨rfl, e2⟩
    · rw [if_pos c9] at h
      refine vv_aload_n 7 0 dX12_qEndsPart_7 rfl rfl ?_
      refine vv_getI 8 dX12_qEndsPart_8 fl_12_347 rfl (g_l_291 hG) ?_
      refine vv_aload_n 11 0 dX12_qEndsPart_11 rfl rfl ?_
      refine vv_getI 12 dX12_qEndsPart_12 fl_12_353 rfl (g_l_291 hG) ?_
      refine vv_icmp_le 15 51 dX12_qEndsPart_15 (by decide) (fun c10 => ?_) (fun c10 => ?_)
      · rw [if_pos c10] at h
        have e2 := Option.some.inj h
        refine vv_vret 51 dX12_qEndsPart_51 rfl (Nat.le_refl _) (Nat.le_refl _) ⟨rfl, e2⟩
      · rw [if_neg c10] at h
        refine vv_aload_n 18 0 dX12_qEndsPart_18 rfl rfl ?_
        refine vv_getR 19 dX12_qEndsPart_19 fl_12_239 rfl (g_l_291 hG) (g_r_291_104 hG) ?_
        refine vv_aload_n 22 0 dX12_qEndsPart_22 rfl rfl ?_
        refine vv_getI 23 dX12_qEndsPart_23 fl_12_347 rfl (g_l_291 hG) ?_
        refine vv_iconst 26 dX12_qEndsPart_26 ik_1 ?_
        refine vv_isub 27 dX12_qEndsPart_27 ?_
        obtain ⟨k11, h⟩ := sh_chk h
        refine vv_iald 28 dX12_qEndsPart_28 (g_l_365 hG) k11 ?_
        refine vv_bipush 29 dX12_qEndsPart_29 bk_60 ?_
        refine vv_icmp_lt 31 51 dX12_qEndsPart_31 (by decide) (fun c12 => ?_) (fun c12 => ?_)
        · rw [if_pos c12] at h
          have e2 := Option.some.inj h
          refine vv_vret 51 dX12_qEndsPart_51 rfl (Nat.le_refl _) (Nat.le_refl _) ⟨rfl, e2⟩
        · rw [if_neg c12] at h
          refine vv_aload_n 34 0 dX12_qEndsPart_34 rfl rfl ?_
          refine vv_dup_ref 35 dX12_qEndsPart_35 ?_
          refine vv_getI 36 dX12_qEndsPart_36 fl_12_350 rfl (g_l_291 hG) ?_
          refine vv_iconst 39 dX12_qEndsPart_39 ik_1 ?_
          refine vv_isub 40 dX12_qEndsPart_40 ?_
          refine vn_putI 41 dX12_qEndsPart_41 fl_12_350 (Or.inl rfl) rfl (g_l_291 hG) (fun μ13 eμ13 => ?_)
          rw [sh_let_eq eμ13] at h
          have hG13 : sh_G μ13 := by rw [eμ13]; exact hG
          refine vv_aload_n 44 0 dX12_qEndsPart_44 rfl rfl ?_
          obtain ⟨μ14, hr15, h⟩ := sh_bindv_e h
          refine v1_callV [] 45 dX12_qEndsPart_45 ck_X12_648 (g_l_291 hG13) ⟨by decide, rfl⟩ (t_X12_qDrops hG13 hr15) (Nat.le_of_ble_eq_true rfl) ⟨Nat.le_of_ble_eq_true rfl, Nat.le_of_ble_eq_true rfl⟩ rfl (Nat.le_of_ble_eq_true rfl) ?_
          have hG14 := gp_X12_qDrops hG13 hr15
          refine vv_goto 48 0 dX12_qEndsPart_48 (by decide) ?_
          refine vv_sub [(0, _)] (sh_subm [0] rfl) ?_
          exact ih_0 hG14 h
theorem gp_X12_qEndsPart {μ μ' : sh_Mem} (hG : sh_G μ) (h : f_X12_qEndsPart μ = some μ') : sh_G μ' := by
  have ih_0 := (gpl_X12_qEndsPart sh_fuel)
  unfold f_X12_qEndsPart at h
  exact ih_0 hG h
theorem t_X12_qEndsPart {μ μ' : sh_Mem} (hG : sh_G μ) (h : f_X12_qEndsPart μ = some μ') : sh_C0 l B D ca 3 M_X12_qEndsPart [.ref 291] μ (fun v0 μ0 => v0 = none ∧ μ0 = μ') := by
  have ih_0 := (tl_X12_qEndsPart (l := l) (B := B) (D := D) (ca := ca) sh_fuel)
  unfold f_X12_qEndsPart at h
  refine vv_sub [(0, _)] (sh_subm [0] rfl) ?_
  exact ih_0 hG h
noncomputable def F_X12_qPartTold : Nat → Nat → Int32 → sh_Mem → Option sh_Mem
  | 0, _, _, _ => none
  | fuel + 1, lbl, i1, μ => match lbl with
    | 1 => (if i1 = 0 then (if (sh_i μ 291 5) = 0 then sh_bind (f_X12_qWordOf 0 9 μ) (fun y227 μ225 => (if y227 = (-1) then (if y227 = (-1) then sh_bind (f_X12_number 0 9999 μ225) (fun y232 μ230 => sh_bindv (f_X12_qCode (1000 + y232) μ230) (fun μ233 => sh_bindv (f_X12_qEndsPart μ233) (fun μ236 => some μ236))) else sh_bindv (f_X12_qCode (40 + y227) μ225) (fun μ239 => sh_bindv (f_X12_qEndsPart μ239) (fun μ242 => some μ242))) else sh_bindv (f_X12_qAsksWord y227 μ225) (fun μ245 => (if y227 = (-1) then sh_bind (f_X12_number 0 9999 μ245) (fun y251 μ249 => sh_bindv (f_X12_qCode (1000 + y251) μ249) (fun μ252 => sh_bindv (f_X12_qEndsPart μ252) (fun μ255 => some μ255))) else sh_bindv (f_X12_qCode (40 + y227) μ245) (fun μ258 => sh_bindv (f_X12_qEndsPart μ258) (fun μ261 => some μ261)))))) else some μ) else (if (sh_i μ 291 5) = 0 then sh_bind (f_X12_look μ) (fun y307 μ305 => sh_bind (f_X12_qWordOf 9 11 μ305) (fun y310 μ308 => (if y307 = 40 then sh_bindv (f_X12_qOpens 20 (sh_i μ308 291 2) μ308) (fun μ441 => sh_let (sh_setI μ441 291 2 ((sh_i μ441 291 2) + 1)) (fun μ444 => F_X12_qPartTold fuel 1 i1 μ444)) else sh_bind (f_X12_isHere 351 3 μ308) (fun y314 μ312 => (if y314 = 0 then sh_bind (f_X12_isHere 352 3 μ312) (fun y375 μ373 => (if y375 = 0 then (if y310 = (-1) then F_X12_qPartTold fuel 1 0 μ373 else sh_bindv (f_X12_qOpens ((60 + y310) - 9) (sh_i μ373 291 2) μ373) (fun μ378 => sh_bindv (f_X12_qAsksWord y310 μ378) (fun μ381 => F_X12_qPartTold fuel 1 i1 μ381))) else sh_bind (f_X12_takes 351 3 μ373) (fun y386 μ384 => (if y386 = 0 then sh_bindv (f_X12_needs 352 3 μ384) (fun μ413 => sh_bind (f_X12_look μ413) (fun y418 μ416 => (if y418 = 40 then sh_let ((sh_i μ416 291 2) : Int32) (fun x423 => (if x423 = (-1) then sh_bindv (f_X12_asksSign 40 μ416) (fun μ425 => F_X12_qPartTold fuel 1 i1 μ425) else (if y386 = 0 then sh_bindv (f_X12_qOpens 22 x423 μ416) (fun μ429 => sh_bindv (f_X12_asksSign 40 μ429) (fun μ432 => F_X12_qPartTold fuel 1 i1 μ432)) else sh_bindv (f_X12_qOpens 21 x423 μ416) (fun μ435 => sh_bindv (f_X12_asksSign 40 μ435) (fun μ438 => F_X12_qPartTold fuel 1 i1 μ438))))) else sh_bindv (f_X12_asksSign 40 μ416) (fun μ420 => F_X12_qPartTold fuel 1 i1 μ420)))) else sh_bind (f_X12_look μ384) (fun y390 μ388 => (if y390 = 40 then sh_let ((sh_i μ388 291 2) : Int32) (fun x395 => (if x395 = (-1) then sh_bindv (f_X12_asksSign 40 μ388) (fun μ397 => F_X12_qPartTold fuel 1 i1 μ397) else (if y386 = 0 then sh_bindv (f_X12_qOpens 22 x395 μ388) (fun μ401 => sh_bindv (f_X12_asksSign 40 μ401) (fun μ404 => F_X12_qPartTold fuel 1 i1 μ404)) else sh_bindv (f_X12_qOpens 21 x395 μ388) (fun μ407 => sh_bindv (f_X12_asksSign 40 μ407) (fun μ410 => F_X12_qPartTold fuel 1 i1 μ410))))) else sh_bindv (f_X12_asksSign 40 μ388) (fun μ392 => F_X12_qPartTold fuel 1 i1 μ392))))))) else sh_bind (f_X12_takes 351 3 μ312) (fun y318 μ316 => (if y318 = 0 then sh_bindv (f_X12_needs 352 3 μ316) (fun μ345 => sh_bind (f_X12_look μ345) (fun y350 μ348 => (if y350 = 40 then sh_let ((sh_i μ348 291 2) : Int32) (fun x355 => (if x355 = (-1) then sh_bindv (f_X12_asksSign 40 μ348) (fun μ357 => F_X12_qPartTold fuel 1 i1 μ357) else (if y318 = 0 then sh_bindv (f_X12_qOpens 22 x355 μ348) (fun μ361 => sh_bindv (f_X12_asksSign 40 μ361) (fun μ364 => F_X12_qPartTold fuel 1 i1 μ364)) else sh_bindv (f_X12_qOpens 21 x355 μ348) (fun μ367 => sh_bindv (f_X12_asksSign 40 μ367) (fun μ370 => F_X12_qPartTold fuel 1 i1 μ370))))) else sh_bindv (f_X12_asksSign 40 μ348) (fun μ352 => F_X12_qPartTold fuel 1 i1 μ352)))) else sh_bind (f_X12_look μ316) (fun y322 μ320 => (if y322 = 40 then sh_let ((sh_i μ320 291 2) : Int32) (fun x327 => (if x327 = (-1) then sh_bindv (f_X12_asksSign 40 μ320) (fun μ329 => F_X12_qPartTold fuel 1 i1 μ329) else (if y318 = 0 then sh_bindv (f_X12_qOpens 22 x327 μ320) (fun μ333 => sh_bindv (f_X12_asksSign 40 μ333) (fun μ336 => F_X12_qPartTold fuel 1 i1 μ336)) else sh_bindv (f_X12_qOpens 21 x327 μ320) (fun μ339 => sh_bindv (f_X12_asksSign 40 μ339) (fun μ342 => F_X12_qPartTold fuel 1 i1 μ342))))) else sh_bindv (f_X12_asksSign 40 μ320) (fun μ324 => F_X12_qPartTold fuel 1 i1 μ324)))))))))) else (if (sh_i μ 291 5) = 0 then sh_bind (f_X12_qWordOf 0 9 μ) (fun y268 μ266 => (if y268 = (-1) then (if y268 = (-1) then sh_bind (f_X12_number 0 9999 μ266) (fun y273 μ271 => sh_bindv (f_X12_qCode (1000 + y273) μ271) (fun μ274 => sh_bindv (f_X12_qEndsPart μ274) (fun μ277 => some μ277))) else sh_bindv (f_X12_qCode (40 + y268) μ266) (fun μ280 => sh_bindv (f_X12_qEndsPart μ280) (fun μ283 => some μ283))) else sh_bindv (f_X12_qAsksWord y268 μ266) (fun μ286 => (if y268 = (-1) then sh_bind (f_X12_number 0 9999 μ286) (fun y292 μ290 => sh_bindv (f_X12_qCode (1000 + y292) μ290) (fun μ293 => sh_bindv (f_X12_qEndsPart μ293) (fun μ296 => some μ296))) else sh_bindv (f_X12_qCode (40 + y268) μ286) (fun μ299 => sh_bindv (f_X12_qEndsPart μ299) (fun μ302 => some μ302)))))) else some μ)))
    | _ => none
noncomputable def f_X12_qPartTold (μ : sh_Mem) : Option sh_Mem := F_X12_qPartTold sh_fuel 1 1 μ
theorem gpl_X12_qPartTold (fuel : Nat) : (∀ ⦃i1 : Int32⦄ ⦃μ μ' : sh_Mem⦄, sh_G μ → F_X12_qPartTold fuel 1 i1 μ = some μ' → sh_G μ') := by
  induction fuel with
  | zero => intro i1 μ μ' hG h; cases h
  | succ fuel ih =>
    have ih_2 := ih
    intro i1 μ μ' hG h
    replace h : ((if i1 = 0 then (if (sh_i μ 291 5) = 0 then sh_bind (f_X12_qWordOf 0 9 μ) (fun y227 μ225 => (if y227 = (-1) then (if y227 = (-1) then sh_bind (f_X12_number 0 9999 μ225) (fun y232 μ230 => sh_bindv (f_X12_qCode (1000 + y232) μ230) (fun μ233 => sh_bindv (f_X12_qEndsPart μ233) (fun μ236 => some μ236))) else sh_bindv (f_X12_qCode (40 + y227) μ225) (fun μ239 => sh_bindv (f_X12_qEndsPart μ239) (fun μ242 => some μ242))) else sh_bindv (f_X12_qAsksWord y227 μ225) (fun μ245 => (if y227 = (-1) then sh_bind (f_X12_number 0 9999 μ245) (fun y251 μ249 => sh_bindv (f_X12_qCode (1000 + y251) μ249) (fun μ252 => sh_bindv (f_X12_qEndsPart μ252) (fun μ255 => some μ255))) else sh_bindv (f_X12_qCode (40 + y227) μ245) (fun μ258 => sh_bindv (f_X12_qEndsPart μ258) (fun μ261 => some μ261)))))) else some μ) else (if (sh_i μ 291 5) = 0 then sh_bind (f_X12_look μ) (fun y307 μ305 => sh_bind (f_X12_qWordOf 9 11 μ305) (fun y310 μ308 => (if y307 = 40 then sh_bindv (f_X12_qOpens 20 (sh_i μ308 291 2) μ308) (fun μ441 => sh_let (sh_setI μ441 291 2 ((sh_i μ441 291 2) + 1)) (fun μ444 => F_X12_qPartTold fuel 1 i1 μ444)) else sh_bind (f_X12_isHere 351 3 μ308) (fun y314 μ312 => (if y314 = 0 then sh_bind (f_X12_isHere 352 3 μ312) (fun y375 μ373 => (if y375 = 0 then (if y310 = (-1) then F_X12_qPartTold fuel 1 0 μ373 else sh_bindv (f_X12_qOpens ((60 + y310) - 9) (sh_i μ373 291 2) μ373) (fun μ378 => sh_bindv (f_X12_qAsksWord y310 μ378) (fun μ381 => F_X12_qPartTold fuel 1 i1 μ381))) else sh_bind (f_X12_takes 351 3 μ373) (fun y386 μ384 => (if y386 = 0 then sh_bindv (f_X12_needs 352 3 μ384) (fun μ413 => sh_bind (f_X12_look μ413) (fun y418 μ416 => (if y418 = 40 then sh_let ((sh_i μ416 291 2) : Int32) (fun x423 => (if x423 = (-1) then sh_bindv (f_X12_asksSign 40 μ416) (fun μ425 => F_X12_qPartTold fuel 1 i1 μ425) else (if y386 = 0 then sh_bindv (f_X12_qOpens 22 x423 μ416) (fun μ429 => sh_bindv (f_X12_asksSign 40 μ429) (fun μ432 => F_X12_qPartTold fuel 1 i1 μ432)) else sh_bindv (f_X12_qOpens 21 x423 μ416) (fun μ435 => sh_bindv (f_X12_asksSign 40 μ435) (fun μ438 => F_X12_qPartTold fuel 1 i1 μ438))))) else sh_bindv (f_X12_asksSign 40 μ416) (fun μ420 => F_X12_qPartTold fuel 1 i1 μ420)))) else sh_bind (f_X12_look μ384) (fun y390 μ388 => (if y390 = 40 then sh_let ((sh_i μ388 291 2) : Int32) (fun x395 => (if x395 = (-1) then sh_bindv (f_X12_asksSign 40 μ388) (fun μ397 => F_X12_qPartTold fuel 1 i1 μ397) else (if y386 = 0 then sh_bindv (f_X12_qOpens 22 x395 μ388) (fun μ401 => sh_bindv (f_X12_asksSign 40 μ401) (fun μ404 => F_X12_qPartTold fuel 1 i1 μ404)) else sh_bindv (f_X12_qOpens 21 x395 μ388) (fun μ407 => sh_bindv (f_X12_asksSign 40 μ407) (fun μ410 => F_X12_qPartTold fuel 1 i1 μ410))))) else sh_bindv (f_X12_asksSign 40 μ388) (fun μ392 => F_X12_qPartTold fuel 1 i1 μ392))))))) else sh_bind (f_X12_takes 351 3 μ312) (fun y318 μ316 => (if y318 = 0 then sh_bindv (f_X12_needs 352 3 μ316) (fun μ345 => sh_bind (f_X12_look μ345) (fun y350 μ348 => (if y350 = 40 then sh_let ((sh_i μ348 291 2) : Int32) (fun x355 => (if x355 = (-1) then sh_bindv (f_X12_asksSign 40 μ348) (fun μ357 => F_X12_qPartTold fuel 1 i1 μ357) else (if y318 = 0 then sh_bindv (f_X12_qOpens 22 x355 μ348) (fun μ361 => sh_bindv (f_X12_asksSign 40 μ361) (fun μ364 => F_X12_qPartTold fuel 1 i1 μ364)) else sh_bindv (f_X12_qOpens 21 x355 μ348) (fun μ367 => sh_bindv (f_X12_asksSign 40 μ367) (fun μ370 => F_X12_qPartTold fuel 1 i1 μ370))))) else sh_bindv (f_X12_asksSign 40 μ348) (fun μ352 => F_X12_qPartTold fuel 1 i1 μ352)))) else sh_bind (f_X12_look μ316) (fun y322 μ320 => (if y322 = 40 then sh_let ((sh_i μ320 291 2) : Int32) (fun x327 => (if x327 = (-1) then sh_bindv (f_X12_asksSign 40 μ320) (fun μ329 => F_X12_qPartTold fuel 1 i1 μ329) else (if y318 = 0 then sh_bindv (f_X12_qOpens 22 x327 μ320) (fun μ333 => sh_bindv (f_X12_asksSign 40 μ333) (fun μ336 => F_X12_qPartTold fuel 1 i1 μ336)) else sh_bindv (f_X12_qOpens 21 x327 μ320) (fun μ339 => sh_bindv (f_X12_asksSign 40 μ339) (fun μ342 => F_X12_qPartTold fuel 1 i1 μ342))))) else sh_bindv (f_X12_asksSign 40 μ320) (fun μ324 => F_X12_qPartTold fuel 1 i1 μ324)))))))))) else (if (sh_i μ 291 5) = 0 then sh_bind (f_X12_qWordOf 0 9 μ) (fun y268 μ266 => (if y268 = (-1) then (if y268 = (-1) then sh_bind (f_X12_number 0 9999 μ266) (fun y273 μ271 => sh_bindv (f_X12_qCode (1000 + y273) μ271) (fun μ274 => sh_bindv (f_X12_qEndsPart μ274) (fun μ277 => some μ277))) else sh_bindv (f_X12_qCode (40 + y268) μ266) (fun μ280 => sh_bindv (f_X12_qEndsPart μ280) (fun μ283 => some μ283))) else sh_bindv (f_X12_qAsksWord y268 μ266) (fun μ286 => (if y268 = (-1) then sh_bind (f_X12_number 0 9999 μ286) (fun y292 μ290 => sh_bindv (f_X12_qCode (1000 + y292) μ290) (fun μ293 => sh_bindv (f_X12_qEndsPart μ293) (fun μ296 => some μ296))) else sh_bindv (f_X12_qCode (40 + y268) μ286) (fun μ299 => sh_bindv (f_X12_qEndsPart μ299) (fun μ302 => some μ302)))))) else some μ))) : Option sh_Mem) = some μ' := h
    by_cases c223 : i1 = 0
    · rw [if_pos c223] at h
      by_cases c224 : (sh_i μ 291 5) = 0
      · rw [if_pos c224] at h
        obtain ⟨y227, μ225, hr226, h⟩ := sh_bind_e h
        have hG225 := gp_X12_qWordOf hG hr226
        by_cases c228 : y227 = (-1)
        · rw [if_pos c228] at h
          by_cases c229 : y227 = (-1)
          · rw [if_pos c229] at h
            obtain ⟨y232, μ230, hr231, h⟩ := sh_bind_e h
            have hG230 := gp_X12_number hG225 hr231
            obtain ⟨μ233, hr234, h⟩ := sh_bindv_e h
            have hG233 := gp_X12_qCode hG230 hr234
            obtain ⟨μ236, hr237, h⟩ := sh_bindv_e h
            have hG236 := gp_X12_qEndsPart hG233 hr237
            have e2 := Option.some.inj h
            exact e2 ▸ hG236
          · rw [if_neg c229] at h
            obtain ⟨μ239, hr240, h⟩ := sh_bindv_e h
            have hG239 := gp_X12_qCode hG225 hr240
            obtain ⟨μ242, hr243, h⟩ := sh_bindv_e h
            have hG242 := gp_X12_qEndsPart hG239 hr243
            have e2 := Option.some.inj h
            exact e2 ▸ hG242
        · rw [if_neg c228] at h
          obtain ⟨μ245, hr246, h⟩ := sh_bindv_e h
          have hG245 := gp_X12_qAsksWord hG225 hr246
          by_cases c248 : y227 = (-1)
          · rw [if_pos c248] at h
            obtain ⟨y251, μ249, hr250, h⟩ := sh_bind_e h
            have hG249 := gp_X12_number hG245 hr250
            obtain ⟨μ252, hr253, h⟩ := sh_bindv_e h
            have hG252 := gp_X12_qCode hG249 hr253
            obtain ⟨μ255, hr256, h⟩ := sh_bindv_e h
            have hG255 := gp_X12_qEndsPart hG252 hr256
            have e2 := Option.some.inj h
            exact e2 ▸ hG255
          · rw [if_neg c248] at h
            obtain ⟨μ258, hr259, h⟩ := sh_bindv_e h
            have hG258 := gp_X12_qCode hG245 hr259
            obtain ⟨μ261, hr262, h⟩ := sh_bindv_e h
            have hG261 := gp_X12_qEndsPart hG258 hr262
            have e2 := Option.some.inj h
            exact e2 ▸ hG261
      · rw [if_neg c224] at h
        have e2 := Option.some.inj h
        exact e2 ▸ hG
    · rw [if_neg c223] at h
      by_cases c264 : (sh_i μ 291 5) = 0
      · rw [if_pos c264] at h
        obtain ⟨y307, μ305, hr306, h⟩ := sh_bind_e h
        have hG305 := gp_X12_look hG hr306
        obtain ⟨y310, μ308, hr309, h⟩ := sh_bind_e h
        have hG308 := gp_X12_qWordOf hG305 hr309
        by_cases c311 : y307 = 40
        · rw [if_pos c311] at h
          obtain ⟨μ441, hr442, h⟩ := sh_bindv_e h
          have hG441 := gp_X12_qOpens hG308 hr442
          obtain ⟨μ444, eμ444⟩ : ∃ y : sh_Mem, y = (sh_setI μ441 291 2 ((sh_i μ441 291 2) + 1)) := ⟨_, rfl⟩
          rw [sh_let_eq eμ444] at h
          have hG444 : sh_G μ444 := by rw [eμ444]; exact hG441
          exact ih_2 hG444 h
        · rw [if_neg c311] at h
          obtain ⟨y314, μ312, hr313, h⟩ := sh_bind_e h
          have hG312 := gp_X12_isHere hG308 (sh_LAYat_351) hr313
          by_cases c315 : y314 = 0
          · rw [if_pos c315] at h
            obtain ⟨y375, μ373, hr374, h⟩ := sh_bind_e h
            have hG373 := gp_X12_isHere hG312 (sh_LAYat_352) hr374
            by_cases c376 : y375 = 0
            · rw [if_pos c376] at h
              by_cases c377 : y310 = (-1)
              · rw [if_pos c377] at h
                exact ih_2 hG373 h
              · rw [if_neg c377] at h
                obtain ⟨μ378, hr379, h⟩ := sh_bindv_e h
                have hG378 := gp_X12_qOpens hG373 hr379
                obtain ⟨μ381, hr382, h⟩ := sh_bindv_e h
                have hG381 := gp_X12_qAsksWord hG378 hr382
                exact ih_2 hG381 h
            · rw [if_neg c376] at h
              obtain ⟨y386, μ384, hr385, h⟩ := sh_bind_e h
              have hG384 := gp_X12_takes hG373 (sh_LAYat_351) hr385
              by_cases c387 : y386 = 0
              · rw [if_pos c387] at h
                obtain ⟨μ413, hr414, h⟩ := sh_bindv_e h
                have hG413 := gp_X12_needs hG384 (sh_LAYat_352) hr414
                obtain ⟨y418, μ416, hr417, h⟩ := sh_bind_e h
                have hG416 := gp_X12_look hG413 hr417
                by_cases c419 : y418 = 40
                · rw [if_pos c419] at h
                  obtain ⟨x423, ex423⟩ : ∃ y : Int32, y = (sh_i μ416 291 2) := ⟨_, rfl⟩
                  rw [sh_let_eq ex423] at h
                  by_cases c424 : x423 = (-1)
                  · rw [if_pos c424] at h
                    obtain ⟨μ425, hr426, h⟩ := sh_bindv_e h
                    have hG425 := gp_X12_asksSign hG416 hr426
                    exact ih_2 hG425 h
                  · rw [if_neg c424] at h
                    by_cases c428 : y386 = 0
                    · rw [if_pos c428] at h
                      obtain ⟨μ429, hr430, h⟩ := sh_bindv_e h
                      have hG429 := gp_X12_qOpens hG416 hr430
                      obtain ⟨μ432, hr433, h⟩ := sh_bindv_e h
                      have hG432 := gp_X12_asksSign hG429 hr433
                      exact ih_2 hG432 h
                    · rw [if_neg c428] at h
                      obtain ⟨μ435, hr436, h⟩ := sh_bindv_e h
                      have hG435 := gp_X12_qOpens hG416 hr436
                      obtain ⟨μ438, hr439, h⟩ := sh_bindv_e h
                      have hG438 := gp_X12_asksSign hG435 hr439
                      exact ih_2 hG438 h
                · rw [if_neg c419] at h
                  obtain ⟨μ420, hr421, h⟩ := sh_bindv_e h
                  have hG420 := gp_X12_asksSign hG416 hr421
                  exact ih_2 hG420 h
              · rw [if_neg c387] at h
                obtain ⟨y390, μ388, hr389, h⟩ := sh_bind_e h
                have hG388 := gp_X12_look hG384 hr389
                by_cases c391 : y390 = 40
                · rw [if_pos c391] at h
                  obtain ⟨x395, ex395⟩ : ∃ y : Int32, y = (sh_i μ388 291 2) := ⟨_, rfl⟩
                  rw [sh_let_eq ex395] at h
                  by_cases c396 : x395 = (-1)
                  · rw [if_pos c396] at h
                    obtain ⟨μ397, hr398, h⟩ := sh_bindv_e h
                    have hG397 := gp_X12_asksSign hG388 hr398
                    exact ih_2 hG397 h
                  · rw [if_neg c396] at h
                    by_cases c400 : y386 = 0
                    · rw [if_pos c400] at h
                      obtain ⟨μ401, hr402, h⟩ := sh_bindv_e h
                      have hG401 := gp_X12_qOpens hG388 hr402
                      obtain ⟨μ404, hr405, h⟩ := sh_bindv_e h
                      have hG404 := gp_X12_asksSign hG401 hr405
                      exact ih_2 hG404 h
                    · rw [if_neg c400] at h
                      obtain ⟨μ407, hr408, h⟩ := sh_bindv_e h
                      have hG407 := gp_X12_qOpens hG388 hr408
                      obtain ⟨μ410, hr411, h⟩ := sh_bindv_e h
                      have hG410 := gp_X12_asksSign hG407 hr411
                      exact ih_2 hG410 h
                · rw [if_neg c391] at h
                  obtain ⟨μ392, hr393, h⟩ := sh_bindv_e h
                  have hG392 := gp_X12_asksSign hG388 hr393
                  exact ih_2 hG392 h
          · rw [if_neg c315] at h
            obtain ⟨y318, μ316, hr317, h⟩ := sh_bind_e h
            have hG316 := gp_X12_takes hG312 (sh_LAYat_351) hr317
            by_cases c319 : y318 = 0
            · rw [if_pos c319] at h
              obtain ⟨μ345, hr346, h⟩ := sh_bindv_e h
              have hG345 := gp_X12_needs hG316 (sh_LAYat_352) hr346
              obtain ⟨y350, μ348, hr349, h⟩ := sh_bind_e h
              have hG348 := gp_X12_look hG345 hr349
              by_cases c351 : y350 = 40
              · rw [if_pos c351] at h
                obtain ⟨x355, ex355⟩ : ∃ y : Int32, y = (sh_i μ348 291 2) := ⟨_, rfl⟩
                rw [sh_let_eq ex355] at h
                by_cases c356 : x355 = (-1)
                · rw [if_pos c356] at h
                  obtain ⟨μ357, hr358, h⟩ := sh_bindv_e h
                  have hG357 := gp_X12_asksSign hG348 hr358
                  exact ih_2 hG357 h
                · rw [if_neg c356] at h
                  by_cases c360 : y318 = 0
                  · rw [if_pos c360] at h
                    obtain ⟨μ361, hr362, h⟩ := sh_bindv_e h
                    have hG361 := gp_X12_qOpens hG348 hr362
                    obtain ⟨μ364, hr365, h⟩ := sh_bindv_e h
                    have hG364 := gp_X12_asksSign hG361 hr365
                    exact ih_2 hG364 h
                  · rw [if_neg c360] at h
                    obtain ⟨μ367, hr368, h⟩ := sh_bindv_e h
                    have hG367 := gp_X12_qOpens hG348 hr368
                    obtain ⟨μ370, hr371, h⟩ := sh_bindv_e h
                    have hG370 := gp_X12_asksSign hG367 hr371
                    exact ih_2 hG370 h
              · rw [if_neg c351] at h
                obtain ⟨μ352, hr353, h⟩ := sh_bindv_e h
                have hG352 := gp_X12_asksSign hG348 hr353
                exact ih_2 hG352 h
            · rw [if_neg c319] at h
              obtain ⟨y322, μ320, hr321, h⟩ := sh_bind_e h
              have hG320 := gp_X12_look hG316 hr321
              by_cases c323 : y322 = 40
              · rw [if_pos c323] at h
                obtain ⟨x327, ex327⟩ : ∃ y : Int32, y = (sh_i μ320 291 2) := ⟨_, rfl⟩
                rw [sh_let_eq ex327] at h
                by_cases c328 : x327 = (-1)
                · rw [if_pos c328] at h
                  obtain ⟨μ329, hr330, h⟩ := sh_bindv_e h
                  have hG329 := gp_X12_asksSign hG320 hr330
                  exact ih_2 hG329 h
                · rw [if_neg c328] at h
                  by_cases c332 : y318 = 0
                  · rw [if_pos c332] at h
                    obtain ⟨μ333, hr334, h⟩ := sh_bindv_e h
                    have hG333 := gp_X12_qOpens hG320 hr334
                    obtain ⟨μ336, hr337, h⟩ := sh_bindv_e h
                    have hG336 := gp_X12_asksSign hG333 hr337
                    exact ih_2 hG336 h
                  · rw [if_neg c332] at h
                    obtain ⟨μ339, hr340, h⟩ := sh_bindv_e h
                    have hG339 := gp_X12_qOpens hG320 hr340
                    obtain ⟨μ342, hr343, h⟩ := sh_bindv_e h
                    have hG342 := gp_X12_asksSign hG339 hr343
                    exact ih_2 hG342 h
              · rw [if_neg c323] at h
                obtain ⟨μ324, hr325, h⟩ := sh_bindv_e h
                have hG324 := gp_X12_asksSign hG320 hr325
                exact ih_2 hG324 h
      · rw [if_neg c264] at h
        by_cases c265 : (sh_i μ 291 5) = 0
        · rw [if_pos c265] at h
          obtain ⟨y268, μ266, hr267, h⟩ := sh_bind_e h
          have hG266 := gp_X12_qWordOf hG hr267
          by_cases c269 : y268 = (-1)
          · rw [if_pos c269] at h
            by_cases c270 : y268 = (-1)
            · rw [if_pos c270] at h
              obtain ⟨y273, μ271, hr272, h⟩ := sh_bind_e h
              have hG271 := gp_X12_number hG266 hr272
              obtain ⟨μ274, hr275, h⟩ := sh_bindv_e h
              have hG274 := gp_X12_qCode hG271 hr275
              obtain ⟨μ277, hr278, h⟩ := sh_bindv_e h
              have hG277 := gp_X12_qEndsPart hG274 hr278
              have e2 := Option.some.inj h
              exact e2 ▸ hG277
            · rw [if_neg c270] at h
              obtain ⟨μ280, hr281, h⟩ := sh_bindv_e h
              have hG280 := gp_X12_qCode hG266 hr281
              obtain ⟨μ283, hr284, h⟩ := sh_bindv_e h
              have hG283 := gp_X12_qEndsPart hG280 hr284
              have e2 := Option.some.inj h
              exact e2 ▸ hG283
          · rw [if_neg c269] at h
            obtain ⟨μ286, hr287, h⟩ := sh_bindv_e h
            have hG286 := gp_X12_qAsksWord hG266 hr287
            by_cases c289 : y268 = (-1)
            · rw [if_pos c289] at h
              obtain ⟨y292, μ290, hr291, h⟩ := sh_bind_e h
              have hG290 := gp_X12_number hG286 hr291
              obtain ⟨μ293, hr294, h⟩ := sh_bindv_e h
              have hG293 := gp_X12_qCode hG290 hr294
              obtain ⟨μ296, hr297, h⟩ := sh_bindv_e h
              have hG296 := gp_X12_qEndsPart hG293 hr297
              have e2 := Option.some.inj h
              exact e2 ▸ hG296
            · rw [if_neg c289] at h
              obtain ⟨μ299, hr300, h⟩ := sh_bindv_e h
              have hG299 := gp_X12_qCode hG286 hr300
              obtain ⟨μ302, hr303, h⟩ := sh_bindv_e h
              have hG302 := gp_X12_qEndsPart hG299 hr303
              have e2 := Option.some.inj h
              exact e2 ▸ hG302
        · rw [if_neg c265] at h
          have e2 := Option.some.inj h
          exact e2 ▸ hG
theorem tl_X12_qPartTold (fuel : Nat) : (∀ ⦃i1 : Int32⦄ ⦃μ μ' : sh_Mem⦄, sh_G μ → F_X12_qPartTold fuel 1 i1 μ = some μ' → sh_V0 l B D ca 6 M_X12_qPartTold 2 [(0, .ref 291), (1, .int i1)] [] μ (fun v0 μ0 => v0 = none ∧ μ0 = μ')) := by
  induction fuel with
  | zero => intro i1 μ μ' hG h; cases h
  | succ fuel ih =>
    have ih_2 := ih
    intro i1 μ μ' hG h
    replace h : ((if i1 = 0 then (if (sh_i μ 291 5) = 0 then sh_bind (f_X12_qWordOf 0 9 μ) (fun y227 μ225 => (if y227 = (-1) then (if y227 = (-1) then sh_bind (f_X12_number 0 9999 μ225) (fun y232 μ230 => sh_bindv (f_X12_qCode (1000 + y232) μ230) (fun μ233 => sh_bindv (f_X12_qEndsPart μ233) (fun μ236 => some μ236))) else sh_bindv (f_X12_qCode (40 + y227) μ225) (fun μ239 => sh_bindv (f_X12_qEndsPart μ239) (fun μ242 => some μ242))) else sh_bindv (f_X12_qAsksWord y227 μ225) (fun μ245 => (if y227 = (-1) then sh_bind (f_X12_number 0 9999 μ245) (fun y251 μ249 => sh_bindv (f_X12_qCode (1000 + y251) μ249) (fun μ252 => sh_bindv (f_X12_qEndsPart μ252) (fun μ255 => some μ255))) else sh_bindv (f_X12_qCode (40 + y227) μ245) (fun μ258 => sh_bindv (f_X12_qEndsPart μ258) (fun μ261 => some μ261)))))) else some μ) else (if (sh_i μ 291 5) = 0 then sh_bind (f_X12_look μ) (fun y307 μ305 => sh_bind (f_X12_qWordOf 9 11 μ305) (fun y310 μ308 => (if y307 = 40 then sh_bindv (f_X12_qOpens 20 (sh_i μ308 291 2) μ308) (fun μ441 => sh_let (sh_setI μ441 291 2 ((sh_i μ441 291 2) + 1)) (fun μ444 => F_X12_qPartTold fuel 1 i1 μ444)) else sh_bind (f_X12_isHere 351 3 μ308) (fun y314 μ312 => (if y314 = 0 then sh_bind (f_X12_isHere 352 3 μ312) (fun y375 μ373 => (if y375 = 0 then (if y310 = (-1) then F_X12_qPartTold fuel 1 0 μ373 else sh_bindv (f_X12_qOpens ((60 + y310) - 9) (sh_i μ373 291 2) μ373) (fun μ378 => sh_bindv (f_X12_qAsksWord y310 μ378) (fun μ381 => F_X12_qPartTold fuel 1 i1 μ381))) else sh_bind (f_X12_takes 351 3 μ373) (fun y386 μ384 => (if y386 = 0 then sh_bindv (f_X12_needs 352 3 μ384) (fun μ413 => sh_bind (f_X12_look μ413) (fun y418 μ416 => (if y418 = 40 then sh_let ((sh_i μ416 291 2) : Int32) (fun x423 => (if x423 = (-1) then sh_bindv (f_X12_asksSign 40 μ416) (fun μ425 => F_X12_qPartTold fuel 1 i1 μ425) else (if y386 = 0 then sh_bindv (f_X12_qOpens 22 x423 μ416) (fun μ429 => sh_bindv (f_X12_asksSign 40 μ429) (fun μ432 => F_X12_qPartTold fuel 1 i1 μ432)) else sh_bindv (f_X12_qOpens 21 x423 μ416) (fun μ435 => sh_bindv (f_X12_asksSign 40 μ435) (fun μ438 => F_X12_qPartTold fuel 1 i1 μ438))))) else sh_bindv (f_X12_asksSign 40 μ416) (fun μ420 => F_X12_qPartTold fuel 1 i1 μ420)))) else sh_bind (f_X12_look μ384) (fun y390 μ388 => (if y390 = 40 then sh_let ((sh_i μ388 291 2) : Int32) (fun x395 => (if x395 = (-1) then sh_bindv (f_X12_asksSign 40 μ388) (fun μ397 => F_X12_qPartTold fuel 1 i1 μ397) else (if y386 = 0 then sh_bindv (f_X12_qOpens 22 x395 μ388) (fun μ401 => sh_bindv (f_X12_asksSign 40 μ401) (fun μ404 => F_X12_qPartTold fuel 1 i1 μ404)) else sh_bindv (f_X12_qOpens 21 x395 μ388) (fun μ407 => sh_bindv (f_X12_asksSign 40 μ407) (fun μ410 => F_X12_qPartTold fuel 1 i1 μ410))))) else sh_bindv (f_X12_asksSign 40 μ388) (fun μ392 => F_X12_qPartTold fuel 1 i1 μ392))))))) else sh_bind (f_X12_takes 351 3 μ312) (fun y318 μ316 => (if y318 = 0 then sh_bindv (f_X12_needs 352 3 μ316) (fun μ345 => sh_bind (f_X12_look μ345) (fun y350 μ348 => (if y350 = 40 then sh_let ((sh_i μ348 291 2) : Int32) (fun x355 => (if x355 = (-1) then sh_bindv (f_X12_asksSign 40 μ348) (fun μ357 => F_X12_qPartTold fuel 1 i1 μ357) else (if y318 = 0 then sh_bindv (f_X12_qOpens 22 x355 μ348) (fun μ361 => sh_bindv (f_X12_asksSign 40 μ361) (fun μ364 => F_X12_qPartTold fuel 1 i1 μ364)) else sh_bindv (f_X12_qOpens 21 x355 μ348) (fun μ367 => sh_bindv (f_X12_asksSign 40 μ367) (fun μ370 => F_X12_qPartTold fuel 1 i1 μ370))))) else sh_bindv (f_X12_asksSign 40 μ348) (fun μ352 => F_X12_qPartTold fuel 1 i1 μ352)))) else sh_bind (f_X12_look μ316) (fun y322 μ320 => (if y322 = 40 then sh_let ((sh_i μ320 291 2) : Int32) (fun x327 => (if x327 = (-1) then sh_bindv (f_X12_asksSign 40 μ320) (fun μ329 => F_X12_qPartTold fuel 1 i1 μ329) else (if y318 = 0 then sh_bindv (f_X12_qOpens 22 x327 μ320) (fun μ333 => sh_bindv (f_X12_asksSign 40 μ333) (fun μ336 => F_X12_qPartTold fuel 1 i1 μ336)) else sh_bindv (f_X12_qOpens 21 x327 μ320) (fun μ339 => sh_bindv (f_X12_asksSign 40 μ339) (fun μ342 => F_X12_qPartTold fuel 1 i1 μ342))))) else sh_bindv (f_X12_asksSign 40 μ320) (fun μ324 => F_X12_qPartTold fuel 1 i1 μ324)))))))))) else (if (sh_i μ 291 5) = 0 then sh_bind (f_X12_qWordOf 0 9 μ) (fun y268 μ266 => (if y268 = (-1) then (if y268 = (-1) then sh_bind (f_X12_number 0 9999 μ266) (fun y273 μ271 => sh_bindv (f_X12_qCode (1000 + y273) μ271) (fun μ274 => sh_bindv (f_X12_qEndsPart μ274) (fun μ277 => some μ277))) else sh_bindv (f_X12_qCode (40 + y268) μ266) (fun μ280 => sh_bindv (f_X12_qEndsPart μ280) (fun μ283 => some μ283))) else sh_bindv (f_X12_qAsksWord y268 μ266) (fun μ286 => (if y268 = (-1) then sh_bind (f_X12_number 0 9999 μ286) (fun y292 μ290 => sh_bindv (f_X12_qCode (1000 + y292) μ290) (fun μ293 => sh_bindv (f_X12_qEndsPart μ293) (fun μ296 => some μ296))) else sh_bindv (f_X12_qCode (40 + y268) μ286) (fun μ299 => sh_bindv (f_X12_qEndsPart μ299) (fun μ302 => some μ302)))))) else some μ))) : Option sh_Mem) = some μ' := h
    refine vv_iload_n 2 1 dX12_qPartTold_2 rfl rfl ?_
    refine vv_if_eq 3 186 dX12_qPartTold_3 (by decide) (fun c223 => ?_) (fun c223 => ?_)
    · rw [if_pos c223] at h
      refine vv_aload_n 186 0 dX12_qPartTold_186 rfl rfl ?_
      refine vv_getI 187 dX12_qPartTold_187 fl_12_253 rfl (g_l_291 hG) ?_
      refine vv_if_eq 190 194 dX12_qPartTold_190 (by decide) (fun c224 => ?_) (fun c224 => ?_)
      · rw [if_pos c224] at h
        refine vv_aload_n 194 0 dX12_qPartTold_194 rfl rfl ?_
        refine vv_iconst 195 dX12_qPartTold_195 ik_0 ?_
        refine vv_bipush 196 dX12_qPartTold_196 bk_9 ?_
        obtain ⟨y227, μ225, hr226, h⟩ := sh_bind_e h
        refine v1_callV [_, _] 198 dX12_qPartTold_198 ck_X12_657 (g_l_291 hG) ⟨by decide, rfl⟩ (t_X12_qWordOf hG hr226) (Nat.le_of_ble_eq_true rfl) ⟨Nat.le_of_ble_eq_true rfl, Nat.le_of_ble_eq_true rfl⟩ rfl (Nat.le_of_ble_eq_true rfl) ?_
        have hG225 := gp_X12_qWordOf hG hr226
        refine vv_istore_n (lv' := [(2, _), (0, _), (1, _)]) 201 2 dX12_qPartTold_201 rfl (by decide) rfl ?_
        refine vv_iload_n 202 2 dX12_qPartTold_202 rfl rfl ?_
        refine vv_iconst 203 dX12_qPartTold_203 ik_m1 ?_
        refine vv_icmp_eq 204 212 dX12_qPartTold_204 (by decide) (fun c228 => ?_) (fun c228 => ?_)
        · rw [if_pos c228] at h
          refine vv_aload_n 212 0 dX12_qPartTold_212 rfl rfl ?_
          refine vv_iload_n 213 2 dX12_qPartTold_213 rfl rfl ?_
          refine vv_iconst 214 dX12_qPartTold_214 ik_m1 ?_
          refine vv_icmp_eq 215 225 dX12_qPartTold_215 (by decide) (fun c229 => ?_) (fun c229 => ?_)
          · rw [if_pos c229] at h
            refine vv_sipush 225 dX12_qPartTold_225 sk_1000 ?_
            refine vv_aload_n 228 0 dX12_qPartTold_228 rfl rfl ?_
            refine vv_iconst 229 dX12_qPartTold_229 ik_0 ?_
            refine vv_sipush 230 dX12_qPartTold_230 sk_9999 ?_
            obtain ⟨y232, μ230, hr231, h⟩ := sh_bind_e h
            refine v1_callV [_, _] 233 dX12_qPartTold_233 ck_X12_322 (g_l_291 hG225) ⟨by decide, rfl⟩ (t_X12_number hG225 hr231) (Nat.le_of_ble_eq_true rfl) ⟨Nat.le_of_ble_eq_true rfl, Nat.le_of_ble_eq_true rfl⟩ rfl (Nat.le_of_ble_eq_true rfl) ?_
            have hG230 := gp_X12_number hG225 hr231
            refine vv_iadd 236 dX12_qPartTold_236 ?_
            obtain ⟨μ233, hr234, h⟩ := sh_bindv_e h
            refine v1_callV [_] 237 dX12_qPartTold_237 ck_X12_642 (g_l_291 hG230) ⟨by decide, rfl⟩ (t_X12_qCode hG230 hr234) (Nat.le_of_ble_eq_true rfl) ⟨Nat.le_of_ble_eq_true rfl, Nat.le_of_ble_eq_true rfl⟩ rfl (Nat.le_of_ble_eq_true rfl) ?_
            have hG233 := gp_X12_qCode hG230 hr234
            refine vv_aload_n 240 0 dX12_qPartTold_240 rfl rfl ?_
            obtain ⟨μ236, hr237, h⟩ := sh_bindv_e h
            refine v1_callV [] 241 dX12_qPartTold_241 ck_X12_666 (g_l_291 hG233) ⟨by decide, rfl⟩ (t_X12_qEndsPart hG233 hr237) (Nat.le_of_ble_eq_true rfl) ⟨Nat.le_of_ble_eq_true rfl, Nat.le_of_ble_eq_true rfl⟩ rfl (Nat.le_of_ble_eq_true rfl) ?_
            have hG236 := gp_X12_qEndsPart hG233 hr237
            have e2 := Option.some.inj h
            refine vv_vret 244 dX12_qPartTold_244 rfl (Nat.le_refl _) (Nat.le_refl _) ⟨rfl, e2⟩
          · rw [if_neg c229] at h
            refine vv_bipush 218 dX12_qPartTold_218 bk_40 ?_
            refine vv_iload_n 220 2 dX12_qPartTold_220 rfl rfl ?_
            refine vv_iadd 221 dX12_qPartTold_221 ?_
            refine vv_goto 222 237 dX12_qPartTold_222 (by decide) ?_
            obtain ⟨μ239, hr240, h⟩ := sh_bindv_e h
            refine v1_callV [_] 237 dX12_qPartTold_237 ck_X12_642 (g_l_291 hG225) ⟨by decide, rfl⟩ (t_X12_qCode hG225 hr240) (Nat.le_of_ble_eq_true rfl) ⟨Nat.le_of_ble_eq_true rfl, Nat.le_of_ble_eq_true rfl⟩ rfl (Nat.le_of_ble_eq_true rfl) ?_
            have hG239 := gp_X12_qCode hG225 hr240
            refine vv_aload_n 240 0 dX12_qPartTold_240 rfl rfl ?_
            obtain ⟨μ242, hr243, h⟩ := sh_bindv_e h
            refine v1_callV [] 241 dX12_qPartTold_241 ck_X12_666 (g_l_291 hG239) ⟨by decide, rfl⟩ (t_X12_qEndsPart hG239 hr243) (Nat.le_of_ble_eq_true rfl) ⟨Nat.le_of_ble_eq_true rfl, Nat.le_of_ble_eq_true rfl⟩ rfl (Nat.le_of_ble_eq_true rfl) ?_
            have hG242 := gp_X12_qEndsPart hG239 hr243
            have e2 := Option.some.inj h
            refine vv_vret 244 dX12_qPartTold_244 rfl (Nat.le_refl _) (Nat.le_refl _) ⟨rfl, e2⟩
        · rw [if_neg c228] at h
          refine vv_aload_n 207 0 dX12_qPartTold_207 rfl rfl ?_
          refine vv_iload_n 208 2 dX12_qPartTold_208 rfl rfl ?_
          obtain ⟨μ245, hr246, h⟩ := sh_bindv_e h
          refine v1_callV [_] 209 dX12_qPartTold_209 ck_X12_663 (g_l_291 hG225) ⟨by decide, rfl⟩ (t_X12_qAsksWord hG225 hr246) (Nat.le_of_ble_eq_true rfl) ⟨Nat.le_of_ble_eq_true rfl, Nat.le_of_ble_eq_true rfl⟩ rfl (Nat.le_of_ble_eq_true rfl) ?_
          have hG245 := gp_X12_qAsksWord hG225 hr246
          refine vv_aload_n 212 0 dX12_qPartTold_212 rfl rfl ?_
          refine vv_iload_n 213 2 dX12_qPartTold_213 rfl rfl ?_
          refine vv_iconst 214 dX12_qPartTold_214 ik_m1 ?_
          refine vv_icmp_eq 215 225 dX12_qPartTold_215 (by decide) (fun c248 => ?_) (fun c248 => ?_)
          · rw [if_pos c248] at h
            refine vv_sipush 225 dX12_qPartTold_225 sk_1000 ?_
            refine vv_aload_n 228 0 dX12_qPartTold_228 rfl rfl ?_
            refine vv_iconst 229 dX12_qPartTold_229 ik_0 ?_
            refine vv_sipush 230 dX12_qPartTold_230 sk_9999 ?_
            obtain ⟨y251, μ249, hr250, h⟩ := sh_bind_e h
            refine v1_callV [_, _] 233 dX12_qPartTold_233 ck_X12_322 (g_l_291 hG245) ⟨by decide, rfl⟩ (t_X12_number hG245 hr250) (Nat.le_of_ble_eq_true rfl) ⟨Nat.le_of_ble_eq_true rfl, Nat.le_of_ble_eq_true rfl⟩ rfl (Nat.le_of_ble_eq_true rfl) ?_
            have hG249 := gp_X12_number hG245 hr250
            refine vv_iadd 236 dX12_qPartTold_236 ?_
            obtain ⟨μ252, hr253, h⟩ := sh_bindv_e h
            refine v1_callV [_] 237 dX12_qPartTold_237 ck_X12_642 (g_l_291 hG249) ⟨by decide, rfl⟩ (t_X12_qCode hG249 hr253) (Nat.le_of_ble_eq_true rfl) ⟨Nat.le_of_ble_eq_true rfl, Nat.le_of_ble_eq_true rfl⟩ rfl (Nat.le_of_ble_eq_true rfl) ?_
            have hG252 := gp_X12_qCode hG249 hr253
            refine vv_aload_n 240 0 dX12_qPartTold_240 rfl rfl ?_
            obtain ⟨μ255, hr256, h⟩ := sh_bindv_e h
            refine v1_callV [] 241 dX12_qPartTold_241 ck_X12_666 (g_l_291 hG252) ⟨by decide, rfl⟩ (t_X12_qEndsPart hG252 hr256) (Nat.le_of_ble_eq_true rfl) ⟨Nat.le_of_ble_eq_true rfl, Nat.le_of_ble_eq_true rfl⟩ rfl (Nat.le_of_ble_eq_true rfl) ?_
            have hG255 := gp_X12_qEndsPart hG252 hr256
            have e2 := Option.some.inj h
            refine vv_vret 244 dX12_qPartTold_244 rfl (Nat.le_refl _) (Nat.le_refl _) ⟨rfl, e2⟩
          · rw [if_neg c248] at h
            refine vv_bipush 218 dX12_qPartTold_218 bk_40 ?_
            refine vv_iload_n 220 2 dX12_qPartTold_220 rfl rfl ?_
            refine vv_iadd 221 dX12_qPartTold_221 ?_
            refine vv_goto 222 237 dX12_qPartTold_222 (by decide) ?_
            obtain ⟨μ258, hr259, h⟩ := sh_bindv_e h
            refine v1_callV [_] 237 dX12_qPartTold_237 ck_X12_642 (g_l_291 hG245) ⟨by decide, rfl⟩ (t_X12_qCode hG245 hr259) (Nat.le_of_ble_eq_true rfl) ⟨Nat.le_of_ble_eq_true rfl, Nat.le_of_ble_eq_true rfl⟩ rfl (Nat.le_of_ble_eq_true rfl) ?_
            have hG258 := gp_X12_qCode hG245 hr259
            refine vv_aload_n 240 0 dX12_qPartTold_240 rfl rfl ?_
            obtain ⟨μ261, hr262, h⟩ := sh_bindv_e h
            refine v1_callV [] 241 dX12_qPartTold_241 ck_X12_666 (g_l_291 hG258) ⟨by decide, rfl⟩ (t_X12_qEndsPart hG258 hr262) (Nat.le_of_ble_eq_true rfl) ⟨Nat.le_of_ble_eq_true rfl, Nat.le_of_ble_eq_true rfl⟩ rfl (Nat.le_of_ble_eq_true rfl) ?_
            have hG261 := gp_X12_qEndsPart hG258 hr262
            have e2 := Option.some.inj h
            refine vv_vret 244 dX12_qPartTold_244 rfl (Nat.le_refl _) (Nat.le_refl _) ⟨rfl, e2⟩
      · rw [if_neg c224] at h
        have e2 := Option.some.inj h
        refine vv_vret 193 dX12_qPartTold_193 rfl (Nat.le_refl _) (Nat.le_refl _) ⟨rfl, e2⟩
    · rw [if_neg c223] at h
      refine vv_aload_n 6 0 dX12_qPartTold_6 rfl rfl ?_
      refine vv_getI 7 dX12_qPartTold_7 fl_12_253 rfl (g_l_291 hG) ?_
      refine vv_if_ne 10 186 dX12_qPartTold_10 (by decide) (fun c264 => ?_) (fun c264 => ?_)
      · rw [if_neg c264] at h
        refine vv_aload_n 186 0 dX12_qPartTold_186 rfl rfl ?_
        refine vv_getI 187 dX12_qPartTold_187 fl_12_253 rfl (g_l_291 hG) ?_
        refine vv_if_eq 190 194 dX12_qPartTold_190 (by decide) (fun c265 => ?_) (fun c265 => ?_)
        · rw [if_pos c265] at h
          refine vv_aload_n 194 0 dX12_qPartTold_194 rfl rfl ?_
          refine vv_iconst 195 dX12_qPartTold_195 ik_0 ?_
          refine vv_bipush 196 dX12_qPartTold_196 bk_9 ?_
          obtain ⟨y268, μ266, hr267, h⟩ := sh_bind_e h
          refine v1_callV [_, _] 198 dX12_qPartTold_198 ck_X12_657 (g_l_291 hG) ⟨by decide, rfl⟩ (t_X12_qWordOf hG hr267) (Nat.le_of_ble_eq_true rfl) ⟨Nat.le_of_ble_eq_true rfl, Nat.le_of_ble_eq_true rfl⟩ rfl (Nat.le_of_ble_eq_true rfl) ?_
          have hG266 := gp_X12_qWordOf hG hr267
          refine vv_istore_n (lv' := [(2, _), (0, _), (1, _)]) 201 2 dX12_qPartTold_201 rfl (by decide) rfl ?_
          refine vv_iload_n 202 2 dX12_qPartTold_202 rfl rfl ?_
          refine vv_iconst 203 dX12_qPartTold_203 ik_m1 ?_
          refine vv_icmp_eq 204 212 dX12_qPartTold_204 (by decide) (fun c269 => ?_) (fun c269 => ?_)
          · rw [if_pos c269] at h
            refine vv_aload_n 212 0 dX12_qPartTold_212 rfl rfl ?_
            refine vv_iload_n 213 2 dX12_qPartTold_213 rfl rfl ?_
            refine vv_iconst 214 dX12_qPartTold_214 ik_m1 ?_
            refine vv_icmp_eq 215 225 dX12_qPartTold_215 (by decide) (fun c270 => ?_) (fun c270 => ?_)
            · rw [if_pos c270] at h
              refine vv_sipush 225 dX12_qPartTold_225 sk_1000 ?_
              refine vv_aload_n 228 0 dX12_qPartTold_228 rfl rfl ?_
              refine vv_iconst 229 dX12_qPartTold_229 ik_0 ?_
              refine vv_sipush 230 dX12_qPartTold_230 sk_9999 ?_
              obtain ⟨y273, μ271, hr272, h⟩ := sh_bind_e h
              refine v1_callV [_, _] 233 dX12_qPartTold_233 ck_X12_322 (g_l_291 hG266) ⟨by decide, rfl⟩ (t_X12_number hG266 hr272) (Nat.le_of_ble_eq_true rfl) ⟨Nat.le_of_ble_eq_true rfl, Nat.le_of_ble_eq_true rfl⟩ rfl (Nat.le_of_ble_eq_true rfl) ?_
              have hG271 := gp_X12_number hG266 hr272
              refine vv_iadd 236 dX12_qPartTold_236 ?_
              obtain ⟨μ274, hr275, h⟩ := sh_bindv_e h
              refine v1_callV [_] 237 dX12_qPartTold_237 ck_X12_642 (g_l_291 hG271) ⟨by decide, rfl⟩ (t_X12_qCode hG271 hr275) (Nat.le_of_ble_eq_true rfl) ⟨Nat.le_of_ble_eq_true rfl, Nat.le_of_ble_eq_true rfl⟩ rfl (Nat.le_of_ble_eq_true rfl) ?_
              have hG274 := gp_X12_qCode hG271 hr275
              refine vv_aload_n 240 0 dX12_qPartTold_240 rfl rfl ?_
              obtain ⟨μ277, hr278, h⟩ := sh_bindv_e h
              refine v1_callV [] 241 dX12_qPartTold_241 ck_X12_666 (g_l_291 hG274) ⟨by decide, rfl⟩ (t_X12_qEndsPart hG274 hr278) (Nat.le_of_ble_eq_true rfl) ⟨Nat.le_of_ble_eq_true rfl, Nat.le_of_ble_eq_true rfl⟩ rfl (Nat.le_of_ble_eq_true rfl) ?_
              have hG277 := gp_X12_qEndsPart hG274 hr278
              have e2 := Option.some.inj h
              refine vv_vret 244 dX12_qPartTold_244 rfl (Nat.le_refl _) (Nat.le_refl _) ⟨rfl, e2⟩
            · rw [if_neg c270] at h
              refine vv_bipush 218 dX12_qPartTold_218 bk_40 ?_
              refine vv_iload_n 220 2 dX12_qPartTold_220 rfl rfl ?_
              refine vv_iadd 221 dX12_qPartTold_221 ?_
              refine vv_goto 222 237 dX12_qPartTold_222 (by decide) ?_
              obtain ⟨μ280, hr281, h⟩ := sh_bindv_e h
              refine v1_callV [_] 237 dX12_qPartTold_237 ck_X12_642 (g_l_291 hG266) ⟨by decide, rfl⟩ (t_X12_qCode hG266 hr281) (Nat.le_of_ble_eq_true rfl) ⟨Nat.le_of_ble_eq_true rfl, Nat.le_of_ble_eq_true rfl⟩ rfl (Nat.le_of_ble_eq_true rfl) ?_
              have hG280 := gp_X12_qCode hG266 hr281
              refine vv_aload_n 240 0 dX12_qPartTold_240 rfl rfl ?_
              obtain ⟨μ283, hr284, h⟩ := sh_bindv_e h
              refine v1_callV [] 241 dX12_qPartTold_241 ck_X12_666 (g_l_291 hG280) ⟨by decide, rfl⟩ (t_X12_qEndsPart hG280 hr284) (Nat.le_of_ble_eq_true rfl) ⟨Nat.le_of_ble_eq_true rfl, Nat.le_of_ble_eq_true rfl⟩ rfl (Nat.le_of_ble_eq_true rfl) ?_
              have hG283 := gp_X12_qEndsPart hG280 hr284
              have e2 := Option.some.inj h
              refine vv_vret 244 dX12_qPartTold_244 rfl (Nat.le_refl _) (Nat.le_refl _) ⟨rfl, e2⟩
          · rw [if_neg c269] at h
            refine vv_aload_n 207 0 dX12_qPartTold_207 rfl rfl ?_
            refine vv_iload_n 208 2 dX12_qPartTold_208 rfl rfl ?_
            obtain ⟨μ286, hr287, h⟩ := sh_bindv_e h
            refine v1_callV [_] 209 dX12_qPartTold_209 ck_X12_663 (g_l_291 hG266) ⟨by decide, rfl⟩ (t_X12_qAsksWord hG266 hr287) (Nat.le_of_ble_eq_true rfl) ⟨Nat.le_of_ble_eq_true rfl, Nat.le_of_ble_eq_true rfl⟩ rfl (Nat.le_of_ble_eq_true rfl) ?_
            have hG286 := gp_X12_qAsksWord hG266 hr287
            refine vv_aload_n 212 0 dX12_qPartTold_212 rfl rfl ?_
            refine vv_iload_n 213 2 dX12_qPartTold_213 rfl rfl ?_
            refine vv_iconst 214 dX12_qPartTold_214 ik_m1 ?_
            refine vv_icmp_eq 215 225 dX12_qPartTold_215 (by decide) (fun c289 => ?_) (fun c289 => ?_)
            · rw [if_pos c289] at h
              refine vv_sipush 225 dX12_qPartTold_225 sk_1000 ?_
              refine vv_aload_n 228 0 dX12_qPartTold_228 rfl rfl ?_
              refine vv_iconst 229 dX12_qPartTold_229 ik_0 ?_
              refine vv_sipush 230 dX12_qPartTold_230 sk_9999 ?_
              obtain ⟨y292, μ290, hr291, h⟩ := sh_bind_e h
              refine v1_callV [_, _] 233 dX12_qPartTold_233 ck_X12_322 (g_l_291 hG286) ⟨by decide, rfl⟩ (t_X12_number hG286 hr291) (Nat.le_of_ble_eq_true rfl) ⟨Nat.le_of_ble_eq_true rfl, Nat.le_of_ble_eq_true rfl⟩ rfl (Nat.le_of_ble_eq_true rfl) ?_
              have hG290 := gp_X12_number hG286 hr291
              refine vv_iadd 236 dX12_qPartTold_236 ?_
              obtain ⟨μ293, hr294, h⟩ := sh_bindv_e h
              refine v1_callV [_] 237 dX12_qPartTold_237 ck_X12_642 (g_l_291 hG290) ⟨by decide, rfl⟩ (t_X12_qCode hG290 hr294) (Nat.le_of_ble_eq_true rfl) ⟨Nat.le_of_ble_eq_true rfl, Nat.le_of_ble_eq_true rfl⟩ rfl (Nat.le_of_ble_eq_true rfl) ?_
              have hG293 := gp_X12_qCode hG290 hr294
              refine vv_aload_n 240 0 dX12_qPartTold_240 rfl rfl ?_
              obtain ⟨μ296, hr297, h⟩ := sh_bindv_e h
              refine v1_callV [] 241 dX12_qPartTold_241 ck_X12_666 (g_l_291 hG293) ⟨by decide, rfl⟩ (t_X12_qEndsPart hG293 hr297) (Nat.le_of_ble_eq_true rfl) ⟨Nat.le_of_ble_eq_true rfl, Nat.le_of_ble_eq_true rfl⟩ rfl (Nat.le_of_ble_eq_true rfl) ?_
              have hG296 := gp_X12_qEndsPart hG293 hr297
              have e2 := Option.some.inj h
              refine vv_vret 244 dX12_qPartTold_244 rfl (Nat.le_refl _) (Nat.le_refl _) ⟨rfl, e2⟩
            · rw [if_neg c289] at h
              refine vv_bipush 218 dX12_qPartTold_218 bk_40 ?_
              refine vv_iload_n 220 2 dX12_qPartTold_220 rfl rfl ?_
              refine vv_iadd 221 dX12_qPartTold_221 ?_
              refine vv_goto 222 237 dX12_qPartTold_222 (by decide) ?_
              obtain ⟨μ299, hr300, h⟩ := sh_bindv_e h
              refine v1_callV [_] 237 dX12_qPartTold_237 ck_X12_642 (g_l_291 hG286) ⟨by decide, rfl⟩ (t_X12_qCode hG286 hr300) (Nat.le_of_ble_eq_true rfl) ⟨Nat.le_of_ble_eq_true rfl, Nat.le_of_ble_eq_true rfl⟩ rfl (Nat.le_of_ble_eq_true rfl) ?_
              have hG299 := gp_X12_qCode hG286 hr300
              refine vv_aload_n 240 0 dX12_qPartTold_240 rfl rfl ?_
              obtain ⟨μ302, hr303, h⟩ := sh_bindv_e h
              refine v1_callV [] 241 dX12_qPartTold_241 ck_X12_666 (g_l_291 hG299) ⟨by decide, rfl⟩ (t_X12_qEndsPart hG299 hr303) (Nat.le_of_ble_eq_true rfl) ⟨Nat.le_of_ble_eq_true rfl, Nat.le_of_ble_eq_true rfl⟩ rfl (Nat.le_of_ble_eq_true rfl) ?_
              have hG302 := gp_X12_qEndsPart hG299 hr303
              have e2 := Option.some.inj h
              refine vv_vret 244 dX12_qPartTold_244 rfl (Nat.le_refl _) (Nat.le_refl _) ⟨rfl, e2⟩
        · rw [if_neg c265] at h
          have e2 := Option.some.inj h
          refine vv_vret 193 dX12_qPartTold_193 rfl (Nat.le_refl _) (Nat.le_refl _) ⟨rfl, e2⟩
      · rw [if_pos c264] at h
        refine vv_aload_n 13 0 dX12_qPartTold_13 rfl rfl ?_
        obtain ⟨y307, μ305, hr306, h⟩ := sh_bind_e h
        refine v1_callV [] 14 dX12_qPartTold_14 ck_X12_265 (g_l_291 hG) ⟨by decide, rfl⟩ (t_X12_look hG hr306) (Nat.le_of_ble_eq_true rfl) ⟨Nat.le_of_ble_eq_true rfl, Nat.le_of_ble_eq_true rfl⟩ rfl (Nat.le_of_ble_eq_true rfl) ?_
        have hG305 := gp_X12_look hG hr306
        refine vv_istore_n (lv' := [(2, _), (0, _), (1, _)]) 17 2 dX12_qPartTold_17 rfl (by decide) rfl ?_
        refine vv_aload_n 18 0 dX12_qPartTold_18 rfl rfl ?_
        refine vv_bipush 19 dX12_qPartTold_19 bk_9 ?_
        refine vv_bipush 21 dX12_qPartTold_21 bk_11 ?_
        obtain ⟨y310, μ308, hr309, h⟩ := sh_bind_e h
        refine v1_callV [_, _] 23 dX12_qPartTold_23 ck_X12_657 (g_l_291 hG305) ⟨by decide, rfl⟩ (t_X12_qWordOf hG305 hr309) (Nat.le_of_ble_eq_true rfl) ⟨Nat.le_of_ble_eq_true rfl, Nat.le_of_ble_eq_true rfl⟩ rfl (Nat.le_of_ble_eq_true rfl) ?_
        have hG308 := gp_X12_qWordOf hG305 hr309
        refine vv_istore_n (lv' := [(3, _), (2, _), (0, _), (1, _)]) 26 3 dX12_qPartTold_26 rfl (by decide) rfl ?_
        refine vv_iload_n 27 2 dX12_qPartTold_27 rfl rfl ?_
        refine vv_bipush 28 dX12_qPartTold_28 bk_40 ?_
        refine vv_icmp_ne 30 56 dX12_qPartTold_30 (by decide) (fun c311 => ?_) (fun c311 => ?_)
        · rw [if_neg c311] at h
          refine vv_aload_n 56 0 dX12_qPartTold_56 rfl rfl ?_
          refine vv_aload_n 57 0 dX12_qPartTold_57 rfl rfl ?_
          refine vv_getR 58 dX12_qPartTold_58 fl_12_197 rfl (g_l_291 hG308) (g_r_291_89 hG308) ?_
          obtain ⟨y314, μ312, hr313, h⟩ := sh_bind_e h
          refine v1_callV [_] 61 dX12_qPartTold_61 ck_X12_276 (g_l_291 hG308) ⟨by decide, rfl⟩ (t_X12_isHere hG308 (sh_LAYat_351) hr313) (Nat.le_of_ble_eq_true rfl) ⟨Nat.le_of_ble_eq_true rfl, Nat.le_of_ble_eq_true rfl⟩ rfl (Nat.le_of_ble_eq_true rfl) ?_
          have hG312 := gp_X12_isHere hG308 (sh_LAYat_351) hr313
          refine vv_if_ne 64 78 dX12_qPartTold_64 (by decide) (fun c315 => ?_) (fun c315 => ?_)
          · rw [if_neg c315] at h
            refine vv_aload_n 78 0 dX12_qPartTold_78 rfl rfl ?_
            refine vv_aload_n 79 0 dX12_qPartTold_79 rfl rfl ?_
            refine vv_getR 80 dX12_qPartTold_80 fl_12_197 rfl (g_l_291 hG312) (g_r_291_89 hG312) ?_
            obtain ⟨y318, μ316, hr317, h⟩ := sh_bind_e h
            refine v1_callV [_] 83 dX12_qPartTold_83 ck_X12_280 (g_l_291 hG312) ⟨by decide, rfl⟩ (t_X12_takes hG312 (sh_LAYat_351) hr317) (Nat.le_of_ble_eq_true rfl) ⟨Nat.le_of_ble_eq_true rfl, Nat.le_of_ble_eq_true rfl⟩ rfl (Nat.le_of_ble_eq_true rfl) ?_
            have hG316 := gp_X12_takes hG312 (sh_LAYat_351) hr317
            refine vv_istore (lv' := [(4, _), (3, _), (2, _), (0, _), (1, _)]) 86 4 dX12_qPartTold_86 (by decide) rfl ?_
            refine vv_iload 88 4 dX12_qPartTold_88 rfl ?_
            refine vv_if_ne 90 101 dX12_qPartTold_90 (by decide) (fun c319 => ?_) (fun c319 => ?_)
            · rw [if_neg c319] at h
              refine vv_aload_n 101 0 dX12_qPartTold_101 rfl rfl ?_
              obtain ⟨y322, μ320, hr321, h⟩ := sh_bind_e h
              refine v1_callV [] 102 dX12_qPartTold_102 ck_X12_265 (g_l_291 hG316) ⟨by decide, rfl⟩ (t_X12_look hG316 hr321) (Nat.le_of_ble_eq_true rfl) ⟨Nat.le_of_ble_eq_true rfl, Nat.le_of_ble_eq_true rfl⟩ rfl (Nat.le_of_ble_eq_true rfl) ?_
              have hG320 := gp_X12_look hG316 hr321
              refine vv_bipush 105 dX12_qPartTold_105 bk_40 ?_
              refine vv_icmp_ne 107 117 dX12_qPartTold_107 (by decide) (fun c323 => ?_) (fun c323 => ?_)
              · rw [if_neg c323] at h
                refine vv_iconst 117 dX12_qPartTold_117 ik_m1 ?_
                refine vv_istore (lv' := [(5, _), (4, _), (3, _), (2, _), (0, _), (1, _)]) 118 5 dX12_qPartTold_118 (by decide) rfl ?_
                refine vv_iload 120 5 dX12_qPartTold_120 rfl ?_
                refine vv_iconst 122 dX12_qPartTold_122 ik_m1 ?_
                refine vv_icmp_eq 123 144 dX12_qPartTold_123 (by decide) (fun _ => ?_) (fun hc => absurd (by decide) hc)
                refine vv_aload_n 144 0 dX12_qPartTold_144 rfl rfl ?_
                refine vv_bipush 145 dX12_qPartTold_145 bk_40 ?_
                obtain ⟨μ324, hr325, h⟩ := sh_bindv_e h
                refine v1_callV [_] 147 dX12_qPartTold_147 ck_X12_326 (g_l_291 hG320) ⟨by decide, rfl⟩ (t_X12_asksSign hG320 hr325) (Nat.le_of_ble_eq_true rfl) ⟨Nat.le_of_ble_eq_true rfl, Nat.le_of_ble_eq_true rfl⟩ rfl (Nat.le_of_ble_eq_true rfl) ?_
                have hG324 := gp_X12_asksSign hG320 hr325
                refine vv_goto 150 183 dX12_qPartTold_150 (by decide) ?_
                refine vv_goto 183 2 dX12_qPartTold_183 (by decide) ?_
                refine vv_sub [(0, _), (1, _)] (sh_subm [4, 5] rfl) ?_
                exact ih_2 hG324 h
              · rw [if_pos c323] at h
                refine vv_aload_n 110 0 dX12_qPartTold_110 rfl rfl ?_
                refine vv_getI 111 dX12_qPartTold_111 fl_12_259 rfl (g_l_291 hG320) ?_
                refine vv_goto 114 118 dX12_qPartTold_114 (by decide) ?_
                refine vv_topi (fun x327 ex327 => ?_)
                rw [sh_let_eq ex327] at h
                refine vv_istore (lv' := [(5, _), (4, _), (3, _), (2, _), (0, _), (1, _)]) 118 5 dX12_qPartTold_118 (by decide) rfl ?_
                refine vv_iload 120 5 dX12_qPartTold_120 rfl ?_
                refine vv_iconst 122 dX12_qPartTold_122 ik_m1 ?_
                refine vv_icmp_eq 123 144 dX12_qPartTold_123 (by decide) (fun c328 => ?_) (fun c328 => ?_)
                · rw [if_pos c328] at h
                  refine vv_aload_n 144 0 dX12_qPartTold_144 rfl rfl ?_
                  refine vv_bipush 145 dX12_qPartTold_145 bk_40 ?_
                  obtain ⟨μ329, hr330, h⟩ := sh_bindv_e h
                  refine v1_callV [_] 147 dX12_qPartTold_147 ck_X12_326 (g_l_291 hG320) ⟨by decide, rfl⟩ (t_X12_asksSign hG320 hr330) (Nat.le_of_ble_eq_true rfl) ⟨Nat.le_of_ble_eq_true rfl, Nat.le_of_ble_eq_true rfl⟩ rfl (Nat.le_of_ble_eq_true rfl) ?_
                  have hG329 := gp_X12_asksSign hG320 hr330
                  refine vv_goto 150 183 dX12_qPartTold_150 (by decide) ?_
                  refine vv_goto 183 2 dX12_qPartTold_183 (by decide) ?_
                  refine vv_sub [(0, _), (1, _)] (sh_subm [4, 5] rfl) ?_
                  exact ih_2 hG329 h
                · rw [if_neg c328] at h
                  refine vv_aload_n 126 0 dX12_qPartTold_126 rfl rfl ?_
                  refine vv_iload 127 4 dX12_qPartTold_127 rfl ?_
                  refine vv_if_eq 129 137 dX12_qPartTold_129 (by decide) (fun c332 => ?_) (fun c332 => ?_)
                  · rw [if_pos c332] at h
                    refine vv_bipush 137 dX12_qPartTold_137 bk_22 ?_
                    refine vv_iload 139 5 dX12_qPartTold_139 rfl ?_
                    obtain ⟨μ333, hr334, h⟩ := sh_bindv_e h
                    refine v1_callV [_, _] 141 dX12_qPartTold_141 ck_X12_660 (g_l_291 hG320) ⟨by decide, rfl⟩ (t_X12_qOpens hG320 hr334) (Nat.le_of_ble_eq_true rfl) ⟨Nat.le_of_ble_eq_true rfl, Nat.le_of_ble_eq_true rfl⟩ rfl (Nat.le_of_ble_eq_true rfl) ?_
                    have hG333 := gp_X12_qOpens hG320 hr334
                    refine vv_aload_n 144 0 dX12_qPartTold_144 rfl rfl ?_
                    refine vv_bipush 145 dX12_qPartTold_145 bk_40 ?_
                    obtain ⟨μ336, hr337, h⟩ := sh_bindv_e h
                    refine v1_callV [_] 147 dX12_qPartTold_147 ck_X12_326 (g_l_291 hG333) ⟨by decide, rfl⟩ (t_X12_asksSign hG333 hr337) (Nat.le_of_ble_eq_true rfl) ⟨Nat.le_of_ble_eq_true rfl, Nat.le_of_ble_eq_true rfl⟩ rfl (Nat.le_of_ble_eq_true rfl) ?_
                    have hG336 := gp_X12_asksSign hG333 hr337
                    refine vv_goto 150 183 dX12_qPartTold_150 (by decide) ?_
                    refine vv_goto 183 2 dX12_qPartTold_183 (by decide) ?_
                    refine vv_sub [(0, _), (1, _)] (sh_subm [4, 5] rfl) ?_
                    exact ih_2 hG336 h
                  · rw [if_neg c332] at h
                    refine vv_bipush 132 dX12_qPartTold_132 bk_21 ?_
                    refine vv_goto 134 139 dX12_qPartTold_134 (by decide) ?_
                    refine vv_iload 139 5 dX12_qPartTold_139 rfl ?_
                    obtain ⟨μ339, hr340, h⟩ := sh_bindv_e h
                    refine v1_callV [_, _] 141 dX12_qPartTold_141 ck_X12_660 (g_l_291 hG320) ⟨by decide, rfl⟩ (t_X12_qOpens hG320 hr340) (Nat.le_of_ble_eq_true rfl) ⟨Nat.le_of_ble_eq_true rfl, Nat.le_of_ble_eq_true rfl⟩ rfl (Nat.le_of_ble_eq_true rfl) ?_
                    have hG339 := gp_X12_qOpens hG320 hr340
                    refine vv_aload_n 144 0 dX12_qPartTold_144 rfl rfl ?_
                    refine vv_bipush 145 dX12_qPartTold_145 bk_40 ?_
                    obtain ⟨μ342, hr343, h⟩ := sh_bindv_e h
                    refine v1_callV [_] 147 dX12_qPartTold_147 ck_X12_326 (g_l_291 hG339) ⟨by decide, rfl⟩ (t_X12_asksSign hG339 hr343) (Nat.le_of_ble_eq_true rfl) ⟨Nat.le_of_ble_eq_true rfl, Nat.le_of_ble_eq_true rfl⟩ rfl (Nat.le_of_ble_eq_true rfl) ?_
                    have hG342 := gp_X12_asksSign hG339 hr343
                    refine vv_goto 150 183 dX12_qPartTold_150 (by decide) ?_
                    refine vv_goto 183 2 dX12_qPartTold_183 (by decide) ?_
                    refine vv_sub [(0, _), (1, _)] (sh_subm [4, 5] rfl) ?_
                    exact ih_2 hG342 h
            · rw [if_pos c319] at h
              refine vv_aload_n 93 0 dX12_qPartTold_93 rfl rfl ?_
              refine vv_aload_n 94 0 dX12_qPartTold_94 rfl rfl ?_
              refine vv_getR 95 dX12_qPartTold_95 fl_12_200 rfl (g_l_291 hG316) (g_r_291_90 hG316) ?_
              obtain ⟨μ345, hr346, h⟩ := sh_bindv_e h
              refine v1_callV [_] 98 dX12_qPartTold_98 ck_X12_318 (g_l_291 hG316) ⟨by decide, rfl⟩ (t_X12_needs hG316 (sh_LAYat_352) hr346) (Nat.le_of_ble_eq_true rfl) ⟨Nat.le_of_ble_eq_true rfl, Nat.le_of_ble_eq_true rfl⟩ rfl (Nat.le_of_ble_eq_true rfl) ?_
              have hG345 := gp_X12_needs hG316 (sh_LAYat_352) hr346
              refine vv_aload_n 101 0 dX12_qPartTold_101 rfl rfl ?_
              obtain ⟨y350, μ348, hr349, h⟩ := sh_bind_e h
              refine v1_callV [] 102 dX12_qPartTold_102 ck_X12_265 (g_l_291 hG345) ⟨by decide, rfl⟩ (t_X12_look hG345 hr349) (Nat.le_of_ble_eq_true rfl) ⟨Nat.le_of_ble_eq_true rfl, Nat.le_of_ble_eq_true rfl⟩ rfl (Nat.le_of_ble_eq_true rfl) ?_
              have hG348 := gp_X12_look hG345 hr349
              refine vv_bipush 105 dX12_qPartTold_105 bk_40 ?_
              refine vv_icmp_ne 107 117 dX12_qPartTold_107 (by decide) (fun c351 => ?_) (fun c351 => ?_)
              · rw [if_neg c351] at h
                refine vv_iconst 117 dX12_qPartTold_117 ik_m1 ?_
                refine vv_istore (lv' := [(5, _), (4, _), (3, _), (2, _), (0, _), (1, _)]) 118 5 dX12_qPartTold_118 (by decide) rfl ?_
                refine vv_iload 120 5 dX12_qPartTold_120 rfl ?_
                refine vv_iconst 122 dX12_qPartTold_122 ik_m1 ?_
                refine vv_icmp_eq 123 144 dX12_qPartTold_123 (by decide) (fun _ => ?_) (fun hc => absurd (by decide) hc)
                refine vv_aload_n 144 0 dX12_qPartTold_144 rfl rfl ?_
                refine vv_bipush 145 dX12_qPartTold_145 bk_40 ?_
                obtain ⟨μ352, hr353, h⟩ := sh_bindv_e h
                refine v1_callV [_] 147 dX12_qPartTold_147 ck_X12_326 (g_l_291 hG348) ⟨by decide, rfl⟩ (t_X12_asksSign hG348 hr353) (Nat.le_of_ble_eq_true rfl) ⟨Nat.le_of_ble_eq_true rfl, Nat.le_of_ble_eq_true rfl⟩ rfl (Nat.le_of_ble_eq_true rfl) ?_
                have hG352 := gp_X12_asksSign hG348 hr353
                refine vv_goto 150 183 dX12_qPartTold_150 (by decide) ?_
                refine vv_goto 183 2 dX12_qPartTold_183 (by decide) ?_
                refine vv_sub [(0, _), (1, _)] (sh_subm [4, 5] rfl) ?_
                exact ih_2 hG352 h
              · rw [if_pos c351] at h
                refine vv_aload_n 110 0 dX12_qPartTold_110 rfl rfl ?_
                refine vv_getI 111 dX12_qPartTold_111 fl_12_259 rfl (g_l_291 hG348) ?_
                refine vv_goto 114 118 dX12_qPartTold_114 (by decide) ?_
                refine vv_topi (fun x355 ex355 => ?_)
                rw [sh_let_eq ex355] at h
                refine vv_istore (lv' := [(5, _), (4, _), (3, _), (2, _), (0, _), (1, _)]) 118 5 dX12_qPartTold_118 (by decide) rfl ?_
                refine vv_iload 120 5 dX12_qPartTold_120 rfl ?_
                refine vv_iconst 122 dX12_qPartTold_122 ik_m1 ?_
                refine vv_icmp_eq 123 144 dX12_qPartTold_123 (by decide) (fun c356 => ?_) (fun c356 => ?_)
                · rw [if_pos c356] at h
                  refine vv_aload_n 144 0 dX12_qPartTold_144 rfl rfl ?_
                  refine vv_bipush 145 dX12_qPartTold_145 bk_40 ?_
                  obtain ⟨μ357, hr358, h⟩ := sh_bindv_e h
                  refine v1_callV [_] 147 dX12_qPartTold_147 ck_X12_326 (g_l_291 hG348) ⟨by decide, rfl⟩ (t_X12_asksSign hG348 hr358) (Nat.le_of_ble_eq_true rfl) ⟨Nat.le_of_ble_eq_true rfl, Nat.le_of_ble_eq_true rfl⟩ rfl (Nat.le_of_ble_eq_true rfl) ?_
                  have hG357 := gp_X12_asksSign hG348 hr358
                  refine vv_goto 150 183 dX12_qPartTold_150 (by decide) ?_
                  refine vv_goto 183 2 dX12_qPartTold_183 (by decide) ?_
                  refine vv_sub [(0, _), (1, _)] (sh_subm [4, 5] rfl) ?_
                  exact ih_2 hG357 h
                · rw [if_neg c356] at h
                  refine vv_aload_n 126 0 dX12_qPartTold_126 rfl rfl ?_
                  refine vv_iload 127 4 dX12_qPartTold_127 rfl ?_
                  refine vv_if_eq 129 137 dX12_qPartTold_129 (by decide) (fun c360 => ?_) (fun c360 => ?_)
                  · rw [if_pos c360] at h
                    refine vv_bipush 137 dX12_qPartTold_137 bk_22 ?_
                    refine vv_iload 139 5 dX12_qPartTold_139 rfl ?_
                    obtain ⟨μ361, hr362, h⟩ := sh_bindv_e h
                    refine v1_callV [_, _] 141 dX12_qPartTold_141 ck_X12_660 (g_l_291 hG348) ⟨by decide, rfl⟩ (t_X12_qOpens hG348 hr362) (Nat.le_of_ble_eq_true rfl) ⟨Nat.le_of_ble_eq_true rfl, Nat.le_of_ble_eq_true rfl⟩ rfl (Nat.le_of_ble_eq_true rfl) ?_
                    have hG361 := gp_X12_qOpens hG348 hr362
                    refine vv_aload_n 144 0 dX12_qPartTold_144 rfl rfl ?_
                    refine vv_bipush 145 dX12_qPartTold_145 bk_40 ?_
                    obtain ⟨μ364, hr365, h⟩ := sh_bindv_e h
                    refine v1_callV [_] 147 dX12_qPartTold_147 ck_X12_326 (g_l_291 hG361) ⟨by decide, rfl⟩ (t_X12_asksSign hG361 hr365) (Nat.le_of_ble_eq_true rfl) ⟨Nat.le_of_ble_eq_true rfl, Nat.le_of_ble_eq_true rfl⟩ rfl (Nat.le_of_ble_eq_true rfl) ?_
                    have hG364 := gp_X12_asksSign hG361 hr365
                    refine vv_goto 150 183 dX12_qPartTold_150 (by decide) ?_
                    refine vv_goto 183 2 dX12_qPartTold_183 (by decide) ?_
                    refine vv_sub [(0, _), (1, _)] (sh_subm [4, 5] rfl) ?_
                    exact ih_2 hG364 h
                  · rw [if_neg c360] at h
                    refine vv_bipush 132 dX12_qPartTold_132 bk_21 ?_
                    refine vv_goto 134 139 dX12_qPartTold_134 (by decide) ?_
                    refine vv_iload 139 5 dX12_qPartTold_139 rfl ?_
                    obtain ⟨μ367, hr368, h⟩ := sh_bindv_e h
                    refine v1_callV [_, _] 141 dX12_qPartTold_141 ck_X12_660 (g_l_291 hG348) ⟨by decide, rfl⟩ (t_X12_qOpens hG348 hr368) (Nat.le_of_ble_eq_true rfl) ⟨Nat.le_of_ble_eq_true rfl, Nat.le_of_ble_eq_true rfl⟩ rfl (Nat.le_of_ble_eq_true rfl) ?_
                    have hG367 := gp_X12_qOpens hG348 hr368
                    refine vv_aload_n 144 0 dX12_qPartTold_144 rfl rfl ?_
                    refine vv_bipush 145 dX12_qPartTold_145 bk_40 ?_
                    obtain ⟨μ370, hr371, h⟩ := sh_bindv_e h
                    refine v1_callV [_] 147 dX12_qPartTold_147 ck_X12_326 (g_l_291 hG367) ⟨by decide, rfl⟩ (t_X12_asksSign hG367 hr371) (Nat.le_of_ble_eq_true rfl) ⟨Nat.le_of_ble_eq_true rfl, Nat.le_of_ble_eq_true rfl⟩ rfl (Nat.le_of_ble_eq_true rfl) ?_
                    have hG370 := gp_X12_asksSign hG367 hr371
                    refine vv_goto 150 183 dX12_qPartTold_150 (by decide) ?_
                    refine vv_goto 183 2 dX12_qPartTold_183 (by decide) ?_
                    refine vv_sub [(0, _), (1, _)] (sh_subm [4, 5] rfl) ?_
                    exact ih_2 hG370 h
          · rw [if_pos c315] at h
            refine vv_aload_n 67 0 dX12_qPartTold_67 rfl rfl ?_
            refine vv_aload_n 68 0 dX12_qPartTold_68 rfl rfl ?_
            refine vv_getR 69 dX12_qPartTold_69 fl_12_200 rfl (g_l_291 hG312) (g_r_291_90 hG312) ?_
            obtain ⟨y375, μ373, hr374, h⟩ := sh_bind_e h
            refine v1_callV [_] 72 dX12_qPartTold_72 ck_X12_276 (g_l_291 hG312) ⟨by decide, rfl⟩ (t_X12_isHere hG312 (sh_LAYat_352) hr374) (Nat.le_of_ble_eq_true rfl) ⟨Nat.le_of_ble_eq_true rfl, Nat.le_of_ble_eq_true rfl⟩ rfl (Nat.le_of_ble_eq_true rfl) ?_
            have hG373 := gp_X12_isHere hG312 (sh_LAYat_352) hr374
            refine vv_if_eq 75 153 dX12_qPartTold_75 (by decide) (fun c376 => ?_) (fun c376 => ?_)
            · rw [if_pos c376] at h
              refine vv_iload_n 153 3 dX12_qPartTold_153 rfl rfl ?_
              refine vv_iconst 154 dX12_qPartTold_154 ik_m1 ?_
              refine vv_icmp_eq 155 181 dX12_qPartTold_155 (by decide) (fun c377 => ?_) (fun c377 => ?_)
              · rw [if_pos c377] at h
                refine vv_iconst 181 dX12_qPartTold_181 ik_0 ?_
                refine vv_istore_n (lv' := [(1, _), (3, _), (2, _), (0, _)]) 182 1 dX12_qPartTold_182 rfl (by decide) rfl ?_
                refine vv_goto 183 2 dX12_qPartTold_183 (by decide) ?_
                refine vv_sub [(0, _), (1, _)] (sh_subm [3, 0] rfl) ?_
                exact ih_2 hG373 h
              · rw [if_neg c377] at h
                refine vv_aload_n 158 0 dX12_qPartTold_158 rfl rfl ?_
                refine vv_bipush 159 dX12_qPartTold_159 bk_60 ?_
                refine vv_iload_n 161 3 dX12_qPartTold_161 rfl rfl ?_
                refine vv_iadd 162 dX12_qPartTold_162 ?_
                refine vv_bipush 163 dX12_qPartTold_163 bk_9 ?_
                refine vv_isub 165 dX12_qPartTold_165 ?_
                refine vv_aload_n 166 0 dX12_qPartTold_166 rfl rfl ?_
                refine vv_getI 167 dX12_qPartTold_167 fl_12_259 rfl (g_l_291 hG373) ?_
                obtain ⟨μ378, hr379, h⟩ := sh_bindv_e h
                refine v1_callV [_, _] 170 dX12_qPartTold_170 ck_X12_660 (g_l_291 hG373) ⟨by decide, rfl⟩ (t_X12_qOpens hG373 hr379) (Nat.le_of_ble_eq_true rfl) ⟨Nat.le_of_ble_eq_true rfl, Nat.le_of_ble_eq_true rfl⟩ rfl (Nat.le_of_ble_eq_true rfl) ?_
                have hG378 := gp_X12_qOpens hG373 hr379
                refine vv_aload_n 173 0 dX12_qPartTold_173 rfl rfl ?_
                refine vv_iload_n 174 3 dX12_qPartTold_174 rfl rfl ?_
                obtain ⟨μ381, hr382, h⟩ := sh_bindv_e h
                refine v1_callV [_] 175 dX12_qPartTold_175 ck_X12_663 (g_l_291 hG378) ⟨by decide, rfl⟩ (t_X12_qAsksWord hG378 hr382) (Nat.le_of_ble_eq_true rfl) ⟨Nat.le_of_ble_eq_true rfl, Nat.le_of_ble_eq_true rfl⟩ rfl (Nat.le_of_ble_eq_true rfl) ?_
                have hG381 := gp_X12_qAsksWord hG378 hr382
                refine vv_goto 178 183 dX12_qPartTold_178 (by decide) ?_
                refine vv_goto 183 2 dX12_qPartTold_183 (by decide) ?_
                refine vv_sub [(0, _), (1, _)] (sh_subm [2, 3] rfl) ?_
                exact ih_2 hG381 h
            · rw [if_neg c376] at h
              refine vv_aload_n 78 0 dX12_qPartTold_78 rfl rfl ?_
              refine vv_aload_n 79 0 dX12_qPartTold_79 rfl rfl ?_
              refine vv_getR 80 dX12_qPartTold_80 fl_12_197 rfl (g_l_291 hG373) (g_r_291_89 hG373) ?_
              obtain ⟨y386, μ384, hr385, h⟩ := sh_bind_e h
              refine v1_callV [_] 83 dX12_qPartTold_83 ck_X12_280 (g_l_291 hG373) ⟨by decide, rfl⟩ (t_X12_takes hG373 (sh_LAYat_351) hr385) (Nat.le_of_ble_eq_true rfl) ⟨Nat.le_of_ble_eq_true rfl, Nat.le_of_ble_eq_true rfl⟩ rfl (Nat.le_of_ble_eq_true rfl) ?_
              have hG384 := gp_X12_takes hG373 (sh_LAYat_351) hr385
              refine vv_istore (lv' := [(4, _), (3, _), (2, _), (0, _), (1, _)]) 86 4 dX12_qPartTold_86 (by decide) rfl ?_
              refine vv_iload 88 4 dX12_qPartTold_88 rfl ?_
              refine vv_if_ne 90 101 dX12_qPartTold_90 (by decide) (fun c387 => ?_) (fun c387 => ?_)
              · rw [if_neg c387] at h
                refine vv_aload_n 101 0 dX12_qPartTold_101 rfl rfl ?_
                obtain ⟨y390, μ388, hr389, h⟩ := sh_bind_e h
                refine v1_callV [] 102 dX12_qPartTold_102 ck_X12_265 (g_l_291 hG384) ⟨by decide, rfl⟩ (t_X12_look hG384 hr389) (Nat.le_of_ble_eq_true rfl) ⟨Nat.le_of_ble_eq_true rfl, Nat.le_of_ble_eq_true rfl⟩ rfl (Nat.le_of_ble_eq_true rfl) ?_
                have hG388 := gp_X12_look hG384 hr389
                refine vv_bipush 105 dX12_qPartTold_105 bk_40 ?_
                refine vv_icmp_ne 107 117 dX12_qPartTold_107 (by decide) (fun c391 => ?_) (fun c391 => ?_)
                · rw [if_neg c391] at h
                  refine vv_iconst 117 dX12_qPartTold_117 ik_m1 ?_
                  refine vv_istore (lv' := [(5, _), (4, _), (3, _), (2, _), (0, _), (1, _)]) 118 5 dX12_qPartTold_118 (by decide) rfl ?_
                  refine vv_iload 120 5 dX12_qPartTold_120 rfl ?_
                  refine vv_iconst 122 dX12_qPartTold_122 ik_m1 ?_
                  refine vv_icmp_eq 123 144 dX12_qPartTold_123 (by decide) (fun _ => ?_) (fun hc => absurd (by decide) hc)
                  refine vv_aload_n 144 0 dX12_qPartTold_144 rfl rfl ?_
                  refine vv_bipush 145 dX12_qPartTold_145 bk_40 ?_
                  obtain ⟨μ392, hr393, h⟩ := sh_bindv_e h
                  refine v1_callV [_] 147 dX12_qPartTold_147 ck_X12_326 (g_l_291 hG388) ⟨by decide, rfl⟩ (t_X12_asksSign hG388 hr393) (Nat.le_of_ble_eq_true rfl) ⟨Nat.le_of_ble_eq_true rfl, Nat.le_of_ble_eq_true rfl⟩ rfl (Nat.le_of_ble_eq_true rfl) ?_
                  have hG392 := gp_X12_asksSign hG388 hr393
                  refine vv_goto 150 183 dX12_qPartTold_150 (by decide) ?_
                  refine vv_goto 183 2 dX12_qPartTold_183 (by decide) ?_
                  refine vv_sub [(0, _), (1, _)] (sh_subm [4, 5] rfl) ?_
                  exact ih_2 hG392 h
                · rw [if_pos c391] at h
                  refine vv_aload_n 110 0 dX12_qPartTold_110 rfl rfl ?_
                  refine vv_getI 111 dX12_qPartTold_111 fl_12_259 rfl (g_l_291 hG388) ?_
                  refine vv_goto 114 118 dX12_qPartTold_114 (by decide) ?_
                  refine vv_topi (fun x395 ex395 => ?_)
                  rw [sh_let_eq ex395] at h
                  refine vv_istore (lv' := [(5, _), (4, _), (3, _), (2, _), (0, _), (1, _)]) 118 5 dX12_qPartTold_118 (by decide) rfl ?_
                  refine vv_iload 120 5 dX12_qPartTold_120 rfl ?_
                  refine vv_iconst 122 dX12_qPartTold_122 ik_m1 ?_
                  refine vv_icmp_eq 123 144 dX12_qPartTold_123 (by decide) (fun c396 => ?_) (fun c396 => ?_)
                  · rw [if_pos c396] at h
                    refine vv_aload_n 144 0 dX12_qPartTold_144 rfl rfl ?_
                    refine vv_bipush 145 dX12_qPartTold_145 bk_40 ?_
                    obtain ⟨μ397, hr398, h⟩ := sh_bindv_e h
                    refine v1_callV [_] 147 dX12_qPartTold_147 ck_X12_326 (g_l_291 hG388) ⟨by decide, rfl⟩ (t_X12_asksSign hG388 hr398) (Nat.le_of_ble_eq_true rfl) ⟨Nat.le_of_ble_eq_true rfl, Nat.le_of_ble_eq_true rfl⟩ rfl (Nat.le_of_ble_eq_true rfl) ?_
                    have hG397 := gp_X12_asksSign hG388 hr398
                    refine vv_goto 150 183 dX12_qPartTold_150 (by decide) ?_
                    refine vv_goto 183 2 dX12_qPartTold_183 (by decide) ?_
                    refine vv_sub [(0, _), (1, _)] (sh_subm [4, 5] rfl) ?_
                    exact ih_2 hG397 h
                  · rw [if_neg c396] at h
                    refine vv_aload_n 126 0 dX12_qPartTold_126 rfl rfl ?_
                    refine vv_iload 127 4 dX12_qPartTold_127 rfl ?_
                    refine vv_if_eq 129 137 dX12_qPartTold_129 (by decide) (fun c400 => ?_) (fun c400 => ?_)
                    · rw [if_pos c400] at h
                      refine vv_bipush 137 dX12_qPartTold_137 bk_22 ?_
                      refine vv_iload 139 5 dX12_qPartTold_139 rfl ?_
                      obtain ⟨μ401, hr402, h⟩ := sh_bindv_e h
                      refine v1_callV [_, _] 141 dX12_qPartTold_141 ck_X12_660 (g_l_291 hG388) ⟨by decide, rfl⟩ (t_X12_qOpens hG388 hr402) (Nat.le_of_ble_eq_true rfl) ⟨Nat.le_of_ble_eq_true rfl, Nat.le_of_ble_eq_true rfl⟩ rfl (Nat.le_of_ble_eq_true rfl) ?_
                      have hG401 := gp_X12_qOpens hG388 hr402
                      refine vv_aload_n 144 0 dX12_qPartTold_144 rfl rfl ?_
                      refine vv_bipush 145 dX12_qPartTold_145 bk_40 ?_
                      obtain ⟨μ404, hr405, h⟩ := sh_bindv_e h
                      refine v1_callV [_] 147 dX12_qPartTold_147 ck_X12_326 (g_l_291 hG401) ⟨by decide, rfl⟩ (t_X12_asksSign hG401 hr405) (Nat.le_of_ble_eq_true rfl) ⟨Nat.le_of_ble_eq_true rfl, Nat.le_of_ble_eq_true rfl⟩ rfl (Nat.le_of_ble_eq_true rfl) ?_
                      have hG404 := gp_X12_asksSign hG401 hr405
                      refine vv_goto 150 183 dX12_qPartTold_150 (by decide) ?_
                      refine vv_goto 183 2 dX12_qPartTold_183 (by decide) ?_
                      refine vv_sub [(0, _), (1, _)] (sh_subm [4, 5] rfl) ?_
                      exact ih_2 hG404 h
                    · rw [if_neg c400] at h
                      refine vv_bipush 132 dX12_qPartTold_132 bk_21 ?_
                      refine vv_goto 134 139 dX12_qPartTold_134 (by decide) ?_
                      refine vv_iload 139 5 dX12_qPartTold_139 rfl ?_
                      obtain ⟨μ407, hr408, h⟩ := sh_bindv_e h
                      refine v1_callV [_, _] 141 dX12_qPartTold_141 ck_X12_660 (g_l_291 hG388) ⟨by decide, rfl⟩ (t_X12_qOpens hG388 hr408) (Nat.le_of_ble_eq_true rfl) ⟨Nat.le_of_ble_eq_true rfl, Nat.le_of_ble_eq_true rfl⟩ rfl (Nat.le_of_ble_eq_true rfl) ?_
                      have hG407 := gp_X12_qOpens hG388 hr408
                      refine vv_aload_n 144 0 dX12_qPartTold_144 rfl rfl ?_
                      refine vv_bipush 145 dX12_qPartTold_145 bk_40 ?_
                      obtain ⟨μ410, hr411, h⟩ := sh_bindv_e h
                      refine v1_callV [_] 147 dX12_qPartTold_147 ck_X12_326 (g_l_291 hG407) ⟨by decide, rfl⟩ (t_X12_asksSign hG407 hr411) (Nat.le_of_ble_eq_true rfl) ⟨Nat.le_of_ble_eq_true rfl, Nat.le_of_ble_eq_true rfl⟩ rfl (Nat.le_of_ble_eq_true rfl) ?_
                      have hG410 := gp_X12_asksSign hG407 hr411
                      refine vv_goto 150 183 dX12_qPartTold_150 (by decide) ?_
                      refine vv_goto 183 2 dX12_qPartTold_183 (by decide) ?_
                      refine vv_sub [(0, _), (1, _)] (sh_subm [4, 5] rfl) ?_
                      exact ih_2 hG410 h
              · rw [if_pos c387] at h
                refine vv_aload_n 93 0 dX12_qPartTold_93 rfl rfl ?_
                refine vv_aload_n 94 0 dX12_qPartTold_94 rfl rfl ?_
                refine vv_getR 95 dX12_qPartTold_95 fl_12_200 rfl (g_l_291 hG384) (g_r_291_90 hG384) ?_
                obtain ⟨μ413, hr414, h⟩ := sh_bindv_e h
                refine v1_callV [_] 98 dX12_qPartTold_98 ck_X12_318 (g_l_291 hG384) ⟨by decide, rfl⟩ (t_X12_needs hG384 (sh_LAYat_352) hr414) (Nat.le_of_ble_eq_true rfl) ⟨Nat.le_of_ble_eq_true rfl, Nat.le_of_ble_eq_true rfl⟩ rfl (Nat.le_of_ble_eq_true rfl) ?_
                have hG413 := gp_X12_needs hG384 (sh_LAYat_352) hr414
                refine vv_aload_n 101 0 dX12_qPartTold_101 rfl rfl ?_
                obtain ⟨y418, μ416, hr417, h⟩ := sh_bind_e h
                refine v1_callV [] 102 dX12_qPartTold_102 ck_X12_265 (g_l_291 hG413) ⟨by decide, rfl⟩ (t_X12_look hG413 hr417) (Nat.le_of_ble_eq_true rfl) ⟨Nat.le_of_ble_eq_true rfl, Nat.le_of_ble_eq_true rfl⟩ rfl (Nat.le_of_ble_eq_true rfl) ?_
                have hG416 := gp_X12_look hG413 hr417
                refine vv_bipush 105 dX12_qPartTold_105 bk_40 ?_
                refine vv_icmp_ne 107 117 dX12_qPartTold_107 (by decide) (fun c419 => ?_) (fun c419 => ?_)
                · rw [if_neg c419] at h
                  refine vv_iconst 117 dX12_qPartTold_117 ik_m1 ?_
                  refine vv_istore (lv' := [(5, _), (4, _), (3, _), (2, _), (0, _), (1, _)]) 118 5 dX12_qPartTold_118 (by decide) rfl ?_
                  refine vv_iload 120 5 dX12_qPartTold_120 rfl ?_
                  refine vv_iconst 122 dX12_qPartTold_122 ik_m1 ?_
                  refine vv_icmp_eq 123 144 dX12_qPartTold_123 (by decide) (fun _ => ?_) (fun hc => absurd (by decide) hc)
                  refine vv_aload_n 144 0 dX12_qPartTold_144 rfl rfl ?_
                  refine vv_bipush 145 dX12_qPartTold_145 bk_40 ?_
                  obtain ⟨μ420, hr421, h⟩ := sh_bindv_e h
                  refine v1_callV [_] 147 dX12_qPartTold_147 ck_X12_326 (g_l_291 hG416) ⟨by decide, rfl⟩ (t_X12_asksSign hG416 hr421) (Nat.le_of_ble_eq_true rfl) ⟨Nat.le_of_ble_eq_true rfl, Nat.le_of_ble_eq_true rfl⟩ rfl (Nat.le_of_ble_eq_true rfl) ?_
                  have hG420 := gp_X12_asksSign hG416 hr421
                  refine vv_goto 150 183 dX12_qPartTold_150 (by decide) ?_
                  refine vv_goto 183 2 dX12_qPartTold_183 (by decide) ?_
                  refine vv_sub [(0, _), (1, _)] (sh_subm [4, 5] rfl) ?_
                  exact ih_2 hG420 h
                · rw [if_pos c419] at h
                  refine vv_aload_n 110 0 dX12_qPartTold_110 rfl rfl ?_
                  refine vv_getI 111 dX12_qPartTold_111 fl_12_259 rfl (g_l_291 hG416) ?_
                  refine vv_goto 114 118 dX12_qPartTold_114 (by decide) ?_
                  refine vv_topi (fun x423 ex423 => ?_)
                  rw [sh_let_eq ex423] at h
                  refine vv_istore (lv' := [(5, _), (4, _), (3, _), (2, _), (0, _), (1, _)]) 118 5 dX12_qPartTold_118 (by decide) rfl ?_
                  refine vv_iload 120 5 dX12_qPartTold_120 rfl ?_
                  refine vv_iconst 122 dX12_qPartTold_122 ik_m1 ?_
                  refine vv_icmp_eq 123 144 dX12_qPartTold_123 (by decide) (fun c424 => ?_) (fun c424 => ?_)
                  · rw [if_pos c424] at h
                    refine vv_aload_n 144 0 dX12_qPartTold_144 rfl rfl ?_
                    refine vv_bipush 145 dX12_qPartTold_145 bk_40 ?_
                    obtain ⟨μ425, hr426, h⟩ := sh_bindv_e h
                    refine v1_callV [_] 147 dX12_qPartTold_147 ck_X12_326 (g_l_291 hG416) ⟨by decide, rfl⟩ (t_X12_asksSign hG416 hr426) (Nat.le_of_ble_eq_true rfl) ⟨Nat.le_of_ble_eq_true rfl, Nat.le_of_ble_eq_true rfl⟩ rfl (Nat.le_of_ble_eq_true rfl) ?_
                    have hG425 := gp_X12_asksSign hG416 hr426
                    refine vv_goto 150 183 dX12_qPartTold_150 (by decide) ?_
                    refine vv_goto 183 2 dX12_qPartTold_183 (by decide) ?_
                    refine vv_sub [(0, _), (1, _)] (sh_subm [4, 5] rfl) ?_
                    exact ih_2 hG425 h
                  · rw [if_neg c424] at h
                    refine vv_aload_n 126 0 dX12_qPartTold_126 rfl rfl ?_
                    refine vv_iload 127 4 dX12_qPartTold_127 rfl ?_
                    refine vv_if_eq 129 137 dX12_qPartTold_129 (by decide) (fun c428 => ?_) (fun c428 => ?_)
                    · rw [if_pos c428] at h
                      refine vv_bipush 137 dX12_qPartTold_137 bk_22 ?_
                      refine vv_iload 139 5 dX12_qPartTold_139 rfl ?_
                      obtain ⟨μ429, hr430, h⟩ := sh_bindv_e h
                      refine v1_callV [_, _] 141 dX12_qPartTold_141 ck_X12_660 (g_l_291 hG416) ⟨by decide, rfl⟩ (t_X12_qOpens hG416 hr430) (Nat.le_of_ble_eq_true rfl) ⟨Nat.le_of_ble_eq_true rfl, Nat.le_of_ble_eq_true rfl⟩ rfl (Nat.le_of_ble_eq_true rfl) ?_
                      have hG429 := gp_X12_qOpens hG416 hr430
                      refine vv_aload_n 144 0 dX12_qPartTold_144 rfl rfl ?_
                      refine vv_bipush 145 dX12_qPartTold_145 bk_40 ?_
                      obtain ⟨μ432, hr433, h⟩ := sh_bindv_e h
                      refine v1_callV [_] 147 dX12_qPartTold_147 ck_X12_326 (g_l_291 hG429) ⟨by decide, rfl⟩ (t_X12_asksSign hG429 hr433) (Nat.le_of_ble_eq_true rfl) ⟨Nat.le_of_ble_eq_true rfl, Nat.le_of_ble_eq_true rfl⟩ rfl (Nat.le_of_ble_eq_true rfl) ?_
                      have hG432 := gp_X12_asksSign hG429 hr433
                      refine vv_goto 150 183 dX12_qPartTold_150 (by decide) ?_
                      refine vv_goto 183 2 dX12_qPartTold_183 (by decide) ?_
                      refine vv_sub [(0, _), (1, _)] (sh_subm [4, 5] rfl) ?_
                      exact ih_2 hG432 h
                    · rw [if_neg c428] at h
                      refine vv_bipush 132 dX12_qPartTold_132 bk_21 ?_
                      refine vv_goto 134 139 dX12_qPartTold_134 (by decide) ?_
                      refine vv_iload 139 5 dX12_qPartTold_139 rfl ?_
                      obtain ⟨μ435, hr436, h⟩ := sh_bindv_e h
                      refine v1_callV [_, _] 141 dX12_qPartTold_141 ck_X12_660 (g_l_291 hG416) ⟨by decide, rfl⟩ (t_X12_qOpens hG416 hr436) (Nat.le_of_ble_eq_true rfl) ⟨Nat.le_of_ble_eq_true rfl, Nat.le_of_ble_eq_true rfl⟩ rfl (Nat.le_of_ble_eq_true rfl) ?_
                      have hG435 := gp_X12_qOpens hG416 hr436
                      refine vv_aload_n 144 0 dX12_qPartTold_144 rfl rfl ?_
                      refine vv_bipush 145 dX12_qPartTold_145 bk_40 ?_
                      obtain ⟨μ438, hr439, h⟩ := sh_bindv_e h
                      refine v1_callV [_] 147 dX12_qPartTold_147 ck_X12_326 (g_l_291 hG435) ⟨by decide, rfl⟩ (t_X12_asksSign hG435 hr439) (Nat.le_of_ble_eq_true rfl) ⟨Nat.le_of_ble_eq_true rfl, Nat.le_of_ble_eq_true rfl⟩ rfl (Nat.le_of_ble_eq_true rfl) ?_
                      have hG438 := gp_X12_asksSign hG435 hr439
                      refine vv_goto 150 183 dX12_qPartTold_150 (by decide) ?_
                      refine vv_goto 183 2 dX12_qPartTold_183 (by decide) ?_
                      refine vv_sub [(0, _), (1, _)] (sh_subm [4, 5] rfl) ?_
                      exact ih_2 hG438 h
        · rw [if_pos c311] at h
          refine vv_aload_n 33 0 dX12_qPartTold_33 rfl rfl ?_
          refine vv_bipush 34 dX12_qPartTold_34 bk_20 ?_
          refine vv_aload_n 36 0 dX12_qPartTold_36 rfl rfl ?_
          refine vv_getI 37 dX12_qPartTold_37 fl_12_259 rfl (g_l_291 hG308) ?_
          obtain ⟨μ441, hr442, h⟩ := sh_bindv_e h
          refine v1_callV [_, _] 40 dX12_qPartTold_40 ck_X12_660 (g_l_291 hG308) ⟨by decide, rfl⟩ (t_X12_qOpens hG308 hr442) (Nat.le_of_ble_eq_true rfl) ⟨Nat.le_of_ble_eq_true rfl, Nat.le_of_ble_eq_true rfl⟩ rfl (Nat.le_of_ble_eq_true rfl) ?_
          have hG441 := gp_X12_qOpens hG308 hr442
          refine vv_aload_n 43 0 dX12_qPartTold_43 rfl rfl ?_
          refine vv_dup_ref 44 dX12_qPartTold_44 ?_
          refine vv_getI 45 dX12_qPartTold_45 fl_12_259 rfl (g_l_291 hG441) ?_
          refine vv_iconst 48 dX12_qPartTold_48 ik_1 ?_
          refine vv_iadd 49 dX12_qPartTold_49 ?_
          refine vn_putI 50 dX12_qPartTold_50 fl_12_259 (Or.inl rfl) rfl (g_l_291 hG441) (fun μ444 eμ444 => ?_)
          rw [sh_let_eq eμ444] at h
          have hG444 : sh_G μ444 := by rw [eμ444]; exact hG441
          refine vv_goto 53 183 dX12_qPartTold_53 (by decide) ?_
          refine vv_goto 183 2 dX12_qPartTold_183 (by decide) ?_
          refine vv_sub [(0, _), (1, _)] (sh_subm [2, 3] rfl) ?_
          exact ih_2 hG444 h
theorem gp_X12_qPartTold {μ μ' : sh_Mem} (hG : sh_G μ) (h : f_X12_qPartTold μ = some μ') : sh_G μ' := by
  have ih_2 := (gpl_X12_qPartTold sh_fuel)
  unfold f_X12_qPartTold at h
  exact ih_2 hG h
theorem t_X12_qPartTold {μ μ' : sh_Mem} (hG : sh_G μ) (h : f_X12_qPartTold μ = some μ') : sh_C0 l B D ca 6 M_X12_qPartTold [.ref 291] μ (fun v0 μ0 => v0 = none ∧ μ0 = μ') := by
  have ih_2 := (tl_X12_qPartTold (l := l) (B := B) (D := D) (ca := ca) sh_fuel)
  unfold f_X12_qPartTold at h
  refine vv_iconst 0 dX12_qPartTold_0 ik_1 ?_
  refine vv_istore_n (lv' := [(1, _), (0, _)]) 1 1 dX12_qPartTold_1 rfl (by decide) rfl ?_
  refine vv_sub [(0, _), (1, _)] (sh_subm [1, 0] rfl) ?_
  exact ih_2 hG h
noncomputable def F_X12_qGoesOn : Nat → Nat → Int32 → sh_Mem → Option (Int32 × sh_Mem)
  | 0, _, _, _ => none
  | fuel + 1, lbl, i1, μ => match lbl with
    | 1 => (if (sh_i μ 291 5) = 0 then sh_bind (f_X12_look μ) (fun y240 μ238 => (if y240 = 41 then sh_bind (f_X12_qBracket μ238) (fun y244 μ242 => (if y244 = 20 then F_X12_qGoesOn fuel 2 0 μ242 else sh_bind (f_X12_qBracket μ242) (fun y248 μ246 => (if y248 = 23 then F_X12_qGoesOn fuel 2 0 μ246 else sh_bind (f_X12_qBracket μ246) (fun y252 μ250 => (if y252 = 24 then F_X12_qGoesOn fuel 2 0 μ250 else F_X12_qGoesOn fuel 4 0 μ250)))))) else F_X12_qGoesOn fuel 4 0 μ238)) else F_X12_qGoesOn fuel 4 0 μ)
    | 2 => sh_let (sh_setI μ 291 2 ((sh_i μ 291 2) + 1)) (fun μ254 => sh_bindv (f_X12_qDropsToBracket μ254) (fun μ255 => sh_let (sh_setI μ255 291 105 ((sh_i μ255 291 105) - 1)) (fun μ258 => sh_let (sh_setI μ258 291 106 ((sh_i μ258 291 106) - 1)) (fun μ259 => (if sh_in (sh_i μ259 291 105) 1700 then (if (sh_i μ259 365 ((sh_i μ259 291 105)).toNatClampNeg) = 20 then F_X12_qGoesOn fuel 3 0 μ259 else (if sh_in (sh_i μ259 291 105) 1700 then (if (sh_i μ259 365 ((sh_i μ259 291 105)).toNatClampNeg) = 23 then sh_bindv (f_X12_qCode 5 μ259) (fun μ267 => F_X12_qGoesOn fuel 3 0 μ267) else sh_bindv (f_X12_qCode 6 μ259) (fun μ264 => F_X12_qGoesOn fuel 3 0 μ264)) else none)) else none)))))
    | 3 => sh_bindv (f_X12_qEndsPart μ) (fun μ270 => F_X12_qGoesOn fuel 1 0 μ270)
    | 4 => sh_bind (f_X12_takesSign 42 μ) (fun y275 μ273 => (if y275 = 0 then sh_bind (f_X12_takesSign 47 μ273) (fun y279 μ277 => (if y279 = 0 then sh_bind (f_X12_takesSign 43 μ277) (fun y283 μ281 => (if y283 = 0 then sh_bind (f_X12_takesSign 45 μ281) (fun y287 μ285 => (if y287 = 0 then sh_bind (f_X12_qBracket μ285) (fun y291 μ289 => (if y291 = 21 then F_X12_qGoesOn fuel 11 0 μ289 else sh_bind (f_X12_qBracket μ289) (fun y295 μ293 => (if y295 = 22 then F_X12_qGoesOn fuel 11 0 μ293 else sh_bind (f_X12_qBracket μ293) (fun y299 μ297 => (if y299 = (-1) then F_X12_qGoesOn fuel 12 0 μ297 else (if (sh_i μ297 291 5) = 0 then sh_bindv (f_X12_fail 1 (sh_i μ297 291 2) μ297) (fun μ302 => F_X12_qGoesOn fuel 12 0 μ302) else F_X12_qGoesOn fuel 12 0 μ297))))))) else F_X12_qGoesOn fuel 8 0 μ285)) else F_X12_qGoesOn fuel 8 0 μ281)) else F_X12_qGoesOn fuel 5 0 μ277)) else F_X12_qGoesOn fuel 5 0 μ273))
    | 5 => (if sh_in ((sh_i μ 291 2) - 1) 1600 then (if (sh_i μ 292 (((sh_i μ 291 2) - 1)).toNatClampNeg) = 42 then F_X12_qGoesOn fuel 6 3 μ else F_X12_qGoesOn fuel 6 4 μ) else none)
    | 6 => sh_bind (f_X12_qIsOn 3 μ) (fun y309 μ307 => (if y309 = 0 then sh_bind (f_X12_qIsOn 4 μ307) (fun y313 μ311 => (if y313 = 0 then (if sh_in (sh_i μ311 291 105) 1700 then sh_let (sh_setI μ311 365 ((sh_i μ311 291 105)).toNatClampNeg i1) (fun μ316 => sh_let (sh_setI μ316 291 105 ((sh_i μ316 291 105) + 1)) (fun μ317 => some (1, μ317))) else none) else F_X12_qGoesOn fuel 7 i1 μ311)) else F_X12_qGoesOn fuel 7 i1 μ307))
    | 7 => sh_bindv (f_X12_qDrops μ) (fun μ318 => F_X12_qGoesOn fuel 6 i1 μ318)
    | 8 => (if sh_in ((sh_i μ 291 2) - 1) 1600 then (if (sh_i μ 292 (((sh_i μ 291 2) - 1)).toNatClampNeg) = 43 then F_X12_qGoesOn fuel 9 1 μ else F_X12_qGoesOn fuel 9 2 μ) else none)
    | 9 => sh_bind (f_X12_qIsOn 3 μ) (fun y325 μ323 => (if y325 = 0 then sh_bind (f_X12_qIsOn 4 μ323) (fun y329 μ327 => (if y329 = 0 then sh_bind (f_X12_qIsOn 1 μ327) (fun y333 μ331 => (if y333 = 0 then sh_bind (f_X12_qIsOn 2 μ331) (fun y337 μ335 => (if y337 = 0 then (if sh_in (sh_i μ335 291 105) 1700 then sh_let (sh_setI μ335 365 ((sh_i μ335 291 105)).toNatClampNeg i1) (fun μ340 => sh_let (sh_setI μ340 291 105 ((sh_i μ340 291 105) + 1)) (fun μ341 => some (1, μ341))) else none) else F_X12_qGoesOn fuel 10 i1 μ335)) else F_X12_qGoesOn fuel 10 i1 μ331)) else F_X12_qGoesOn fuel 10 i1 μ327)) else F_X12_qGoesOn fuel 10 i1 μ323))
    | 10 => sh_bindv (f_X12_qDrops μ) (fun μ342 => F_X12_qGoesOn fuel 9 i1 μ342)
    | 11 => sh_bindv (f_X12_asksSign 44 μ) (fun μ345 => (if (sh_i μ345 291 5) = 0 then sh_bindv (f_X12_qDropsToBracket μ345) (fun μ349 => (if sh_in ((sh_i μ349 291 105) - 1) 1700 then (if sh_in ((sh_i μ349 291 105) - 1) 1700 then sh_let (sh_setI μ349 365 (((sh_i μ349 291 105) - 1)).toNatClampNeg ((sh_i μ349 365 (((sh_i μ349 291 105) - 1)).toNatClampNeg) + 2)) (fun μ354 => some (1, μ354)) else none) else none)) else some (0, μ345)))
    | 12 => some (0, μ)
    | _ => none
noncomputable def f_X12_qGoesOn (μ : sh_Mem) : Option (Int32 × sh_Mem) := F_X12_qGoesOn sh_fuel 1 0 μ
theorem gpl_X12_qGoesOn (fuel : Nat) : (∀ ⦃i1 : Int32⦄ ⦃μ μ' : sh_Mem⦄ ⦃v : Int32⦄, sh_G μ → F_X12_qGoesOn fuel 1 i1 μ = some (v, μ') → sh_G μ') ∧ (∀ ⦃i1 : Int32⦄ ⦃μ μ' : sh_Mem⦄ ⦃v : Int32⦄, sh_G μ → F_X12_qGoesOn fuel 2 i1 μ = some (v, μ') → sh_G μ') ∧ (∀ ⦃i1 : Int32⦄ ⦃μ μ' : sh_Mem⦄ ⦃v : Int32⦄, sh_G μ → F_X12_qGoesOn fuel 3 i1 μ = some (v, μ') → sh_G μ') ∧ (∀ ⦃i1 : Int32⦄ ⦃μ μ' : sh_Mem⦄ ⦃v : Int32⦄, sh_G μ → F_X12_qGoesOn fuel 4 i1 μ = some (v, μ') → sh_G μ') ∧ (∀ ⦃i1 : Int32⦄ ⦃μ μ' : sh_Mem⦄ ⦃v : Int32⦄, sh_G μ → F_X12_qGoesOn fuel 5 i1 μ = some (v, μ') → sh_G μ') ∧ (∀ ⦃i1 : Int32⦄ ⦃μ μ' : sh_Mem⦄ ⦃v : Int32⦄, sh_G μ → F_X12_qGoesOn fuel 6 i1 μ = some (v, μ') → sh_G μ') ∧ (∀ ⦃i1 : Int32⦄ ⦃μ μ' : sh_Mem⦄ ⦃v : Int32⦄, sh_G μ → F_X12_qGoesOn fuel 7 i1 μ = some (v, μ') → sh_G μ') ∧ (∀ ⦃i1 : Int32⦄ ⦃μ μ' : sh_Mem⦄ ⦃v : Int32⦄, sh_G μ → F_X12_qGoesOn fuel 8 i1 μ = some (v, μ') → sh_G μ') ∧ (∀ ⦃i1 : Int32⦄ ⦃μ μ' : sh_Mem⦄ ⦃v : Int32⦄, sh_G μ → F_X12_qGoesOn fuel 9 i1 μ = some (v, μ') → sh_G μ') ∧ (∀ ⦃i1 : Int32⦄ ⦃μ μ' : sh_Mem⦄ ⦃v : Int32⦄, sh_G μ → F_X12_qGoesOn fuel 10 i1 μ = some (v, μ') → sh_G μ') ∧ (∀ ⦃i1 : Int32⦄ ⦃μ μ' : sh_Mem⦄ ⦃v : Int32⦄, sh_G μ → F_X12_qGoesOn fuel 11 i1 μ = some (v, μ') → sh_G μ') ∧ (∀ ⦃i1 : Int32⦄ ⦃μ μ' : sh_Mem⦄ ⦃v : Int32⦄, sh_G μ → F_X12_qGoesOn fuel 12 i1 μ = some (v, μ') → sh_G μ') := by
  induction fuel with
  | zero => exact ⟨(by intro i1 μ μ' v hG h; cases h), (by intro i1 μ μ' v hG h; cases h), (by intro i1 μ μ' v hG h; cases h), (by intro i1 μ μ' v hG h; cases h), (by intro i1 μ μ' v hG h; cases h), (by intro i1 μ μ' v hG h; cases h), (by intro i1 μ μ' v hG h; cases h), (by intro i1 μ μ' v hG h; cases h), (by intro i1 μ μ' v hG h; cases h), (by intro i1 μ μ' v hG h; cases h), (by intro i1 μ μ' v hG h; cases h), (by intro i1 μ μ' v hG h; cases h)⟩
  | succ fuel ih =>
    obtain ⟨ih_0, ih_43, ih_115, ih_122, ih_140, ih_162, ih_178, ih_225, ih_247, ih_279, ih_326, ih_386⟩ := ih
    refine ⟨?_, ?_, ?_, ?_, ?_, ?_, ?_, ?_, ?_, ?_, ?_, ?_⟩
    · intro i1 μ μ' v hG h
      replace h : ((if (sh_i μ 291 5) = 0 then sh_bind (f_X12_look μ) (fun y240 μ238 => (if y240 = 41 then sh_bind (f_X12_qBracket μ238) (fun y244 μ242 => (if y244 = 20 then F_X12_qGoesOn fuel 2 0 μ242 else sh_bind (f_X12_qBracket μ242) (fun y248 μ246 => (if y248 = 23 then F_X12_qGoesOn fuel 2 0 μ246 else sh_bind (f_X12_qBracket μ246) (fun y252 μ250 => (if y252 = 24 then F_X12_qGoesOn fuel 2 0 μ250 else F_X12_qGoesOn fuel 4 0 μ250)))))) else F_X12_qGoesOn fuel 4 0 μ238)) else F_X12_qGoesOn fuel 4 0 μ) : Option (Int32 × sh_Mem)) = some (v, μ') := h
      by_cases c237 : (sh_i μ 291 5) = 0
      · rw [if_pos c237] at h
        obtain ⟨y240, μ238, hr239, h⟩ := sh_bind_e h
        have hG238 := gp_X12_look hG hr239
        by_cases c241 : y240 = 41
        · rw [if_pos c241] at h
          obtain ⟨y244, μ242, hr243, h⟩ := sh_bind_e h
          have hG242 := gp_X12_qBracket hG238 hr243
          by_cases c245 : y244 = 20
          · rw [if_pos c245] at h
            exact ih_43 hG242 h
          · rw [if_neg c245] at h
            obtain ⟨y248, μ246, hr247, h⟩ := sh_bind_e h
            have hG246 := gp_X12_qBracket hG242 hr247
            by_cases c249 : y248 = 23
            · rw [if_pos c249] at h
              exact ih_43 hG246 h
            · rw [if_neg c249] at h
              obtain ⟨y252, μ250, hr251, h⟩ := sh_bind_e h
              have hG250 := gp_X12_qBracket hG246 hr251
              by_cases c253 : y252 = 24
              · rw [if_pos c253] at h
                exact ih_43 hG250 h
              · rw [if_neg c253] at h
                exact ih_122 hG250 h
        · rw [if_neg c241] at h
          exact ih_122 hG238 h
      · rw [if_neg c237] at h
        exact ih_122 hG h
    · intro i1 μ μ' v hG h
      replace h : (sh_let (sh_setI μ 291 2 ((sh_i μ 291 2) + 1)) (fun μ254 => sh_bindv (f_X12_qDropsToBracket μ254) (fun μ255 => sh_let (sh_setI μ255 291 105 ((sh_i μ255 291 105) - 1)) (fun μ258 => sh_let (sh_setI μ258 291 106 ((sh_i μ258 291 106) - 1)) (fun μ259 => (if sh_in (sh_i μ259 291 105) 1700 then (if (sh_i μ259 365 ((sh_i μ259 291 105)).toNatClampNeg) = 20 then F_X12_qGoesOn fuel 3 0 μ259 else (if sh_in (sh_i μ259 291 105) 1700 then (if (sh_i μ259 365 ((sh_i μ259 291 105)).toNatClampNeg) = 23 then sh_bindv (f_X12_qCode 5 μ259) (fun μ267 => F_X12_qGoesOn fuel 3 0 μ267) else sh_bindv (f_X12_qCode 6 μ259) (fun μ264 => F_X12_qGoesOn fuel 3 0 μ264)) else none)) else none))))) : Option (Int32 × sh_Mem)) = some (v, μ') := h
      obtain ⟨μ254, eμ254⟩ : ∃ y : sh_Mem, y = (sh_setI μ 291 2 ((sh_i μ 291 2) + 1)) := ⟨_, rfl⟩
      rw [sh_let_eq eμ254] at h
      have hG254 : sh_G μ254 := by rw [eμ254]; exact hG
      obtain ⟨μ255, hr256, h⟩ := sh_bindv_e h
      have hG255 := gp_X12_qDropsToBracket hG254 hr256
      obtain ⟨μ258, eμ258⟩ : ∃ y : sh_Mem, y = (sh_setI μ255 291 105 ((sh_i μ255 291 105) - 1)) := ⟨_, rfl⟩
      rw [sh_let_eq eμ258] at h
      have hG258 : sh_G μ258 := by rw [eμ258]; exact hG255
      obtain ⟨μ259, eμ259⟩ : ∃ y : sh_Mem, y = (sh_setI μ258 291 106 ((sh_i μ258 291 106) - 1)) := ⟨_, rfl⟩
      rw [sh_let_eq eμ259] at h
      have hG259 : sh_G μ259 := by rw [eμ259]; exact hG258
      obtain ⟨k260, h⟩ := sh_chk h
      by_cases c261 : (sh_i μ259 365 ((sh_i μ259 291 105)).toNatClampNeg) = 20
      · rw [if_pos c261] at h
        exact ih_115 hG259 h
      · rw [if_neg c261] at h
        obtain ⟨k262, h⟩ := sh_chk h
        by_cases c263 : (sh_i μ259 365 ((sh_i μ259 291 105)).toNatClampNeg) = 23
        · rw [if_pos c263] at h
          obtain ⟨μ267, hr268, h⟩ := sh_bindv_e h
          have hG267 := gp_X12_qCode hG259 hr268
          exact ih_115 hG267 h
        · rw [if_neg c263] at h
          obtain ⟨μ264, hr265, h⟩ := sh_bindv_e h
          have hG264 := gp_X12_qCode hG259 hr265
          exact ih_115 hG264 h
    · intro i1 μ μ' v hG h
      replace h : (sh_bindv (f_X12_qEndsPart μ) (fun μ270 => F_X12_qGoesOn fuel 1 0 μ270) : Option (Int32 × sh_Mem)) = some (v, μ') := h
      obtain ⟨μ270, hr271, h⟩ := sh_bindv_e h
      have hG270 := gp_X12_qEndsPart hG hr271
      exact ih_0 hG270 h
    · intro i1 μ μ' v hG h
      replace h : (sh_bind (f_X12_takesSign 42 μ) (fun y275 μ273 => (if y275 = 0 then sh_bind (f_X12_takesSign 47 μ273) (fun y279 μ277 => (if y279 = 0 then sh_bind (f_X12_takesSign 43 μ277) (fun y283 μ281 => (if y283 = 0 then sh_bind (f_X12_takesSign 45 μ281) (fun y287 μ285 => (if y287 = 0 then sh_bind (f_X12_qBracket μ285) (fun y291 μ289 => (if y291 = 21 then F_X12_qGoesOn fuel 11 0 μ289 else sh_bind (f_X12_qBracket μ289) (fun y295 μ293 => (if y295 = 22 then F_X12_qGoesOn fuel 11 0 μ293 else sh_bind (f_X12_qBracket μ293) (fun y299 μ297 => (if y299 = (-1) then F_X12_qGoesOn fuel 12 0 μ297 else (if (sh_i μ297 291 5) = 0 then sh_bindv (f_X12_fail 1 (sh_i μ297 291 2) μ297) (fun μ302 => F_X12_qGoesOn fuel 12 0 μ302) else F_X12_qGoesOn fuel 12 0 μ297))))))) else F_X12_qGoesOn fuel 8 0 μ285)) else F_X12_qGoesOn fuel 8 0 μ281)) else F_X12_qGoesOn fuel 5 0 μ277)) else F_X12_qGoesOn fuel 5 0 μ273)) : Option (Int32 × sh_Mem)) = some (v, μ') := h
      obtain ⟨y275, μ273, hr274, h⟩ := sh_bind_e h
      have hG273 := gp_X12_takesSign hG hr274
      by_cases c276 : y275 = 0
      · rw [if_pos c276] at h
        obtain ⟨y279, μ277, hr278, h⟩ := sh_bind_e h
        have hG277 := gp_X12_takesSign hG273 hr278
        by_cases c280 : y279 = 0
        · rw [if_pos c280] at h
          obtain ⟨y283, μ281, hr282, h⟩ := sh_bind_e h
          have hG281 := gp_X12_takesSign hG277 hr282
          by_cases c284 : y283 = 0
          · rw [if_pos c284] at h
            obtain ⟨y287, μ285, hr286, h⟩ := sh_bind_e h
            have hG285 := gp_X12_takesSign hG281 hr286
            by_cases c288 : y287 = 0
            · rw [if_pos c288] at h
              obtain ⟨y291, μ289, hr290, h⟩ := sh_bind_e h
              have hG289 := gp_X12_qBracket hG285 hr290
              by_cases c292 : y291 = 21
              · rw [if_pos c292] at h
                exact ih_326 hG289 h
              · rw [if_neg c292] at h
                obtain ⟨y295, μ293, hr294, h⟩ := sh_bind_e h
                have hG293 := gp_X12_qBracket hG289 hr294
                by_cases c296 : y295 = 22
                · rw [if_pos c296] at h
                  exact ih_326 hG293 h
                · rw [if_neg c296] at h
                  obtain ⟨y299, μ297, hr298, h⟩ := sh_bind_e h
                  have hG297 := gp_X12_qBracket hG293 hr298
                  by_cases c300 : y299 = (-1)
                  · rw [if_pos c300] at h
                    exact ih_386 hG297 h
                  · rw [if_neg c300] at h
                    by_cases c301 : (sh_i μ297 291 5) = 0
                    · rw [if_pos c301] at h
                      obtain ⟨μ302, hr303, h⟩ := sh_bindv_e h
                      have hG302 := gp_X12_fail hG297 hr303
                      exact ih_386 hG302 h
                    · rw [if_neg c301] at h
                      exact ih_386 hG297 h
            · rw [if_neg c288] at h
              exact ih_225 hG285 h
          · rw [if_neg c284] at h
            exact ih_225 hG281 h
        · rw [if_neg c280] at h
          exact ih_140 hG277 h
      · rw [if_neg c276] at h
        exact ih_140 hG273 h
    · intro i1 μ μ' v hG h
      replace h : ((if sh_in ((sh_i μ 291 2) - 1) 1600 then (if (sh_i μ 292 (((sh_i μ 291 2) - 1)).toNatClampNeg) = 42 then F_X12_qGoesOn fuel 6 3 μ else F_X12_qGoesOn fuel 6 4 μ) else none) : Option (Int32 × sh_Mem)) = some (v, μ') := h
      obtain ⟨k305, h⟩ := sh_chk h
      by_cases c306 : (sh_i μ 292 (((sh_i μ 291 2) - 1)).toNatClampNeg) = 42
      · rw [if_pos c306] at h
        exact ih_162 hG h
      · rw [if_neg c306] at h
        exact ih_162 hG h
    · intro i1 μ μ' v hG h
      replace h : (sh_bind (f_X12_qIsOn 3 μ) (fun y309 μ307 => (if y309 = 0 then sh_bind (f_X12_qIsOn 4 μ307) (fun y313 μ311 => (if y313 = 0 then (if sh_in (sh_i μ311 291 105) 1700 then sh_let (sh_setI μ311 365 ((sh_i μ311 291 105)).toNatClampNeg i1) (fun μ316 => sh_let (sh_setI μ316 291 105 ((sh_i μ316 291 105) + 1)) (fun μ317 => some (1, μ317))) else none) else F_X12_qGoesOn fuel 7 i1 μ311)) else F_X12_qGoesOn fuel 7 i1 μ307)) : Option (Int32 × sh_Mem)) = some (v, μ') := h
      obtain ⟨y309, μ307, hr308, h⟩ := sh_bind_e h
      have hG307 := gp_X12_qIsOn hG hr308
      by_cases c310 : y309 = 0
      · rw [if_pos c310] at h
        obtain ⟨y313, μ311, hr312, h⟩ := sh_bind_e h
        have hG311 := gp_X12_qIsOn hG307 hr312
        by_cases c314 : y313 = 0
        · rw [if_pos c314] at h
          obtain ⟨k315, h⟩ := sh_chk h
          obtain ⟨μ316, eμ316⟩ : ∃ y : sh_Mem, y = (sh_setI μ311 365 ((sh_i μ311 291 105)).toNatClampNeg i1) := ⟨_, rfl⟩
          rw [sh_let_eq eμ316] at h
          have hG316 : sh_G μ316 := by rw [eμ316]; exact hG311
          obtain ⟨μ317, eμ317⟩ : ∃ y : sh_Mem, y = (sh_setI μ316 291 105 ((sh_i μ316 291 105) + 1)) := ⟨_, rfl⟩
          rw [sh_let_eq eμ317] at h
          have hG317 : sh_G μ317 := by rw [eμ317]; exact hG316
          obtain ⟨e1, e2⟩ := sh_some2 h
          exact e2 ▸ hG317
        · rw [if_neg c314] at h
          exact ih_178 hG311 h
      · rw [if_neg c310] at h
        exact ih_178 hG307 h
    · intro i1 μ μ' v hG h
      replace h : (sh_bindv (f_X12_qDrops μ) (fun μ318 => F_X12_qGoesOn fuel 6 i1 μ318) : Option (Int32 × sh_Mem)) = some (v, μ') := h
      obtain ⟨μ318, hr319, h⟩ := sh_bindv_e h
      have hG318 := gp_X12_qDrops hG hr319
      exact ih_162 hG318 h
    · intro i1 μ μ' v hG h
      replace h : ((if sh_in ((sh_i μ 291 2) - 1) 1600 then (if (sh_i μ 292 (((sh_i μ 291 2) - 1)).toNatClampNeg) = 43 then F_X12_qGoesOn fuel 9 1 μ else F_X12_qGoesOn fuel 9 2 μ) else none) : Option (Int32 × sh_Mem)) = some (v, μ') := h
      obtain ⟨k321, h⟩ := sh_chk h
      by_cases c322 : (sh_i μ 292 (((sh_i μ 291 2) - 1)).toNatClampNeg) = 43
      · rw [if_pos c322] at h
        exact ih_247 hG h
      · rw [if_neg c322] at h
        exact ih_247 hG h
    · intro i1 μ μ' v hG h
      replace h : (sh_bind (f_X12_qIsOn 3 μ) (fun y325 μ323 => (if y325 = 0 then sh_bind (f_X12_qIsOn 4 μ323) (fun y329 μ327 => (if y329 = 0 then sh_bind (f_X12_qIsOn 1 μ327) (fun y333 μ331 => (if y333 = 0 then sh_bind (f_X12_qIsOn 2 μ331) (fun y337 μ335 => (if y337 = 0 then (if sh_in (sh_i μ335 291 105) 1700 then sh_let (sh_setI μ335 365 ((sh_i μ335 291 105)).toNatClampNeg i1) (fun μ340 => sh_let (sh_setI μ340 291 105 ((sh_i μ340 291 105) + 1)) (fun μ341 => some (1, μ341))) else none) else F_X12_qGoesOn fuel 10 i1 μ335)) else F_X12_qGoesOn fuel 10 i1 μ331)) else F_X12_qGoesOn fuel 10 i1 μ327)) else F_X12_qGoesOn fuel 10 i1 μ323)) : Option (Int32 × sh_Mem)) = some (v, μ') := h
      obtain ⟨y325, μ323, hr324, h⟩ := sh_bind_e h
      have hG323 := gp_X12_qIsOn hG hr324
      by_cases c326 : y325 = 0
      · rw [if_pos c326] at h
        obtain ⟨y329, μ327, hr328, h⟩ := sh_bind_e h
        have hG327 := gp_X12_qIsOn hG323 hr328
        by_cases c330 : y329 = 0
        · rw [if_pos c330] at h
          obtain ⟨y333, μ331, hr332, h⟩ := sh_bind_e h
          have hG331 := gp_X12_qIsOn hG327 hr332
          by_cases c334 : y333 = 0
          · rw [if_pos c334] at h
            obtain ⟨y337, μ335, hr336, h⟩ := sh_bind_e h
            have hG335 := gp_X12_qIsOn hG331 hr336
            by_cases c338 : y337 = 0
            · rw [if_pos c338] at h
              obtain ⟨k339, h⟩ := sh_chk h
              obtain ⟨μ340, eμ340⟩ : ∃ y : sh_Mem, y = (sh_setI μ335 365 ((sh_i μ335 291 105)).toNatClampNeg i1) := ⟨_, rfl⟩
              rw [sh_let_eq eμ340] at h
              have hG340 : sh_G μ340 := by rw [eμ340]; exact hG335
              obtain ⟨μ341, eμ341⟩ : ∃ y : sh_Mem, y = (sh_setI μ340 291 105 ((sh_i μ340 291 105) + 1)) := ⟨_, rfl⟩
              rw [sh_let_eq eμ341] at h
              have hG341 : sh_G μ341 := by rw [eμ341]; exact hG340
              obtain ⟨e1, e2⟩ := sh_some2 h
              exact e2 ▸ hG341
            · rw [if_neg c338] at h
              exact ih_279 hG335 h
          · rw [if_neg c334] at h
            exact ih_279 hG331 h
        · rw [if_neg c330] at h
          exact ih_279 hG327 h
      · rw [if_neg c326] at h
        exact ih_279 hG323 h
    · intro i1 μ μ' v hG h
      replace h : (sh_bindv (f_X12_qDrops μ) (fun μ342 => F_X12_qGoesOn fuel 9 i1 μ342) : Option (Int32 × sh_Mem)) = some (v, μ') := h
      obtain ⟨μ342, hr343, h⟩ := sh_bindv_e h
      have hG342 := gp_X12_qDrops hG hr343
      exact ih_247 hG342 h
    · intro i1 μ μ' v hG h
      replace h : (sh_bindv (f_X12_asksSign 44 μ) (fun μ345 => (if (sh_i μ345 291 5) = 0 then sh_bindv (f_X12_qDropsToBracket μ345) (fun μ349 => (if sh_in ((sh_i μ349 291 105) - 1) 1700 then (if sh_in ((sh_i μ349 291 105) - 1) 1700 then sh_let (sh_setI μ349 365 (((sh_i μ349 291 105) - 1)).toNatClampNeg ((sh_i μ349 365 (((sh_i μ349 291 105) - 1)).toNatClampNeg) + 2)) (fun μ354 => some (1, μ354)) else none) else none)) else some (0, μ345))) : Option (Int32 × sh_Mem)) = some (v, μ') := h
      obtain ⟨μ345, hr346, h⟩ := sh_bindv_e h
      have hG345 := gp_X12_asksSign hG hr346
      by_cases c348 : (sh_i μ345 291 5) = 0
      · rw [if_pos c348] at h
        obtain ⟨μ349, hr350, h⟩ := sh_bindv_e h
        have hG349 := gp_X12_qDropsToBracket hG345 hr350
        obtain ⟨k352, h⟩ := sh_chk h
        obtain ⟨k353, h⟩ := sh_chk h
        obtain ⟨μ354, eμ354⟩ : ∃ y : sh_Mem, y = (sh_setI μ349 365 (((sh_i μ349 291 105) - 1)).toNatClampNeg ((sh_i μ349 365 (((sh_i μ349 291 105) - 1)).toNatClampNeg) + 2)) := ⟨_, rfl⟩
        rw [sh_let_eq eμ354] at h
        have hG354 : sh_G μ354 := by rw [eμ354]; exact hG349
        obtain ⟨e1, e2⟩ := sh_some2 h
        exact e2 ▸ hG354
      · rw [if_neg c348] at h
        obtain ⟨e1, e2⟩ := sh_some2 h
        exact e2 ▸ hG345
    · intro i1 μ μ' v hG h
      replace h : (some (0, μ) : Option (Int32 × sh_Mem)) = some (v, μ') := h
      obtain ⟨e1, e2⟩ := sh_some2 h
      exact e2 ▸ hG
theorem tl_X12_qGoesOn (fuel : Nat) : (∀ ⦃i1 : Int32⦄ ⦃μ μ' : sh_Mem⦄ ⦃v : Int32⦄, sh_G μ → F_X12_qGoesOn fuel 1 i1 μ = some (v, μ') → sh_V0 l B D ca 4 M_X12_qGoesOn 0 [(0, .ref 291)] [] μ (fun v0 μ0 => v0 = some (.int v) ∧ μ0 = μ')) ∧ (∀ ⦃i1 : Int32⦄ ⦃μ μ' : sh_Mem⦄ ⦃v : Int32⦄, sh_G μ → F_X12_qGoesOn fuel 2 i1 μ = some (v, μ') → sh_V0 l B D ca 4 M_X12_qGoesOn 43 [(0, .ref 291)] [] μ (fun v0 μ0 => v0 = some (.int v) ∧ μ0 = μ')) ∧ (∀ ⦃i1 : Int32⦄ ⦃μ μ' : sh_Mem⦄ ⦃v : Int32⦄, sh_G μ → F_X12_qGoesOn fuel 3 i1 μ = some (v, μ') → sh_V0 l B D ca 4 M_X12_qGoesOn 115 [(0, .ref 291)] [] μ (fun v0 μ0 => v0 = some (.int v) ∧ μ0 = μ')) ∧ (∀ ⦃i1 : Int32⦄ ⦃μ μ' : sh_Mem⦄ ⦃v : Int32⦄, sh_G μ → F_X12_qGoesOn fuel 4 i1 μ = some (v, μ') → sh_V0 l B D ca 4 M_X12_qGoesOn 122 [(0, .ref 291)] [] μ (fun v0 μ0 => v0 = some (.int v) ∧ μ0 = μ')) ∧ (∀ ⦃i1 : Int32⦄ ⦃μ μ' : sh_Mem⦄ ⦃v : Int32⦄, sh_G μ → F_X12_qGoesOn fuel 5 i1 μ = some (v, μ') → sh_V0 l B D ca 4 M_X12_qGoesOn 140 [(0, .ref 291)] [] μ (fun v0 μ0 => v0 = some (.int v) ∧ μ0 = μ')) ∧ (∀ ⦃i1 : Int32⦄ ⦃μ μ' : sh_Mem⦄ ⦃v : Int32⦄, sh_G μ → F_X12_qGoesOn fuel 6 i1 μ = some (v, μ') → sh_V0 l B D ca 4 M_X12_qGoesOn 162 [(0, .ref 291), (1, .int i1)] [] μ (fun v0 μ0 => v0 = some (.int v) ∧ μ0 = μ')) ∧ (∀ ⦃i1 : Int32⦄ ⦃μ μ' : sh_Mem⦄ ⦃v : Int32⦄, sh_G μ → F_X12_qGoesOn fuel 7 i1 μ = some (v, μ') → sh_V0 l B D ca 4 M_X12_qGoesOn 178 [(0, .ref 291), (1, .int i1)] [] μ (fun v0 μ0 => v0 = some (.int v) ∧ μ0 = μ')) ∧ (∀ ⦃i1 : Int32⦄ ⦃μ μ' : sh_Mem⦄ ⦃v : Int32⦄, sh_G μ → F_X12_qGoesOn fuel 8 i1 μ = some (v, μ') → sh_V0 l B D ca 4 M_X12_qGoesOn 225 [(0, .ref 291)] [] μ (fun v0 μ0 => v0 = some (.int v) ∧ μ0 = μ')) ∧ (∀ ⦃i1 : Int32⦄ ⦃μ μ' : sh_Mem⦄ ⦃v : Int32⦄, sh_G μ → F_X12_qGoesOn fuel 9 i1 μ = some (v, μ') → sh_V0 l B D ca 4 M_X12_qGoesOn 247 [(0, .ref 291), (1, .int i1)] [] μ (fun v0 μ0 => v0 = some (.int v) ∧ μ0 = μ')) ∧ (∀ ⦃i1 : Int32⦄ ⦃μ μ' : sh_Mem⦄ ⦃v : Int32⦄, sh_G μ → F_X12_qGoesOn fuel 10 i1 μ = some (v, μ') → sh_V0 l B D ca 4 M_X12_qGoesOn 279 [(0, .ref 291), (1, .int i1)] [] μ (fun v0 μ0 => v0 = some (.int v) ∧ μ0 = μ')) ∧ (∀ ⦃i1 : Int32⦄ ⦃μ μ' : sh_Mem⦄ ⦃v : Int32⦄, sh_G μ → F_X12_qGoesOn fuel 11 i1 μ = some (v, μ') → sh_V0 l B D ca 4 M_X12_qGoesOn 326 [(0, .ref 291)] [] μ (fun v0 μ0 => v0 = some (.int v) ∧ μ0 = μ')) ∧ (∀ ⦃i1 : Int32⦄ ⦃μ μ' : sh_Mem⦄ ⦃v : Int32⦄, sh_G μ → F_X12_qGoesOn fuel 12 i1 μ = some (v, μ') → sh_V0 l B D ca 4 M_X12_qGoesOn 386 [(0, .ref 291)] [] μ (fun v0 μ0 => v0 = some (.int v) ∧ μ0 = μ')) := by
  induction fuel with
  | zero => exact ⟨(by intro i1 μ μ' v hG h; cases h), (by intro i1 μ μ' v hG h; cases h), (by intro i1 μ μ' v hG h; cases h), (by intro i1 μ μ' v hG h; cases h), (by intro i1 μ μ' v hG h; cases h), (by intro i1 μ μ' v hG h; cases h), (by intro i1 μ μ' v hG h; cases h), (by intro i1 μ μ' v hG h; cases h), (by intro i1 μ μ' v hG h; cases h), (by intro i1 μ μ' v hG h; cases h), (by intro i1 μ μ' v hG h; cases h), (by intro i1 μ μ' v hG h; cases h)⟩
  | succ fuel ih =>
    obtain ⟨ih_0, ih_43, ih_115, ih_122, ih_140, ih_162, ih_178, ih_225, ih_247, ih_279, ih_326, ih_386⟩ := ih
    refine ⟨?_, ?_, ?_, ?_, ?_, ?_, ?_, ?_, ?_, ?_, ?_, ?_⟩
    · intro i1 μ μ' v hG h
      replace h : ((if (sh_i μ 291 5) = 0 then sh_bind (f_X12_look μ) (fun y240 μ238 => (if y240 = 41 then sh_bind (f_X12_qBracket μ238) (fun y244 μ242 => (if y244 = 20 then F_X12_qGoesOn fuel 2 0 μ242 else sh_bind (f_X12_qBracket μ242) (fun y248 μ246 => (if y248 = 23 then F_X12_qGoesOn fuel 2 0 μ246 else sh_bind (f_X12_qBracket μ246) (fun y252 μ250 => (if y252 = 24 then F_X12_qGoesOn fuel 2 0 μ250 else F_X12_qGoesOn fuel 4 0 μ250)))))) else F_X12_qGoesOn fuel 4 0 μ238)) else F_X12_qGoesOn fuel 4 0 μ) : Option (Int32 × sh_Mem)) = some (v, μ') := h
      refine vv_aload_n 0 0 dX12_qGoesOn_0 rfl rfl ?_
      refine vv_getI 1 dX12_qGoesOn_1 fl_12_253 rfl (g_l_291 hG) ?_
      refine vv_if_ne 4 122 dX12_qGoesOn_4 (by decide) (fun c237 => ?_) (fun c237 => ?_)
      · rw [if_neg c237] at h
        refine vv_sub [(0, _)] (sh_subm [0] rfl) ?_
        exact ih_122 hG h
      · rw [if_pos c237] at h
        refine vv_aload_n 7 0 dX12_qGoesOn_7 rfl rfl ?_
        obtain ⟨y240, μ238, hr239, h⟩ := sh_bind_e h
        refine v1_callV [] 8 dX12_qGoesOn_8 ck_X12_265 (g_l_291 hG) ⟨by decide, rfl⟩ (t_X12_look hG hr239) (Nat.le_of_ble_eq_true rfl) ⟨Nat.le_of_ble_eq_true rfl, Nat.le_of_ble_eq_true rfl⟩ rfl (Nat.le_of_ble_eq_true rfl) ?_
        have hG238 := gp_X12_look hG hr239
        refine vv_bipush 11 dX12_qGoesOn_11 bk_41 ?_
        refine vv_icmp_ne 13 122 dX12_qGoesOn_13 (by decide) (fun c241 => ?_) (fun c241 => ?_)
        · rw [if_neg c241] at h
          refine vv_sub [(0, _)] (sh_subm [0] rfl) ?_
          exact ih_122 hG238 h
        · rw [if_pos c241] at h
          refine vv_aload_n 16 0 dX12_qGoesOn_16 rfl rfl ?_
          obtain ⟨y244, μ242, hr243, h⟩ := sh_bind_e h
          refine v1_callV [] 17 dX12_qGoesOn_17 ck_X12_669 (g_l_291 hG238) ⟨by decide, rfl⟩ (t_X12_qBracket hG238 hr243) (Nat.le_of_ble_eq_true rfl) ⟨Nat.le_of_ble_eq_true rfl, Nat.le_of_ble_eq_true rfl⟩ rfl (Nat.le_of_ble_eq_true rfl) ?_
          have hG242 := gp_X12_qBracket hG238 hr243
          refine vv_bipush 20 dX12_qGoesOn_20 bk_20 ?_
          refine vv_icmp_eq 22 43 dX12_qGoesOn_22 (by decide) (fun c245 => ?_) (fun c245 => ?_)
          · rw [if_pos c245] at h
            refine vv_sub [(0, _)] (sh_subm [0] rfl) ?_
            exact ih_43 hG242 h
          · rw [if_neg c245] at h
            refine vv_aload_n 25 0 dX12_qGoesOn_25 rfl rfl ?_
            obtain ⟨y248, μ246, hr247, h⟩ := sh_bind_e h
            refine v1_callV [] 26 dX12_qGoesOn_26 ck_X12_669 (g_l_291 hG242) ⟨by decide, rfl⟩ (t_X12_qBracket hG242 hr247) (Nat.le_of_ble_eq_true rfl) ⟨Nat.le_of_ble_eq_true rfl, Nat.le_of_ble_eq_true rfl⟩ rfl (Nat.le_of_ble_eq_true rfl) ?_
            have hG246 := gp_X12_qBracket hG242 hr247
            refine vv_bipush 29 dX12_qGoesOn_29 bk_23 ?_
            refine vv_icmp_eq 31 43 dX12_qGoesOn_31 (by decide) (fun c249 => ?_) (fun c249 => ?_)
            · rw [if_pos c249] at h
              refine vv_sub [(0, _)] (sh_subm [0] rfl) ?_
              exact ih_43 hG246 h
            · rw [if_neg c249] at h
              refine vv_aload_n 34 0 dX12_qGoesOn_34 rfl rfl ?_
              obtain ⟨y252, μ250, hr251, h⟩ := sh_bind_e h
              refine v1_callV [] 35 dX12_qGoesOn_35 ck_X12_669 (g_l_291 hG246) ⟨by decide, rfl⟩ (t_X12_qBracket hG246 hr251) (Nat.le_of_ble_eq_true rfl) ⟨Nat.le_of_ble_eq_true rfl, Nat.le_of_ble_eq_true rfl⟩ rfl (Nat.le_of_ble_eq_true rfl) ?_
              have hG250 := gp_X12_qBracket hG246 hr251
              refine vv_bipush 38 dX12_qGoesOn_38 bk_24 ?_
              refine vv_icmp_ne 40 122 dX12_qGoesOn_40 (by decide) (fun c253 => ?_) (fun c253 => ?_)
              · rw [if_neg c253] at h
                refine vv_sub [(0, _)] (sh_subm [0] rfl) ?_
                exact ih_122 hG250 h
              · rw [if_pos c253] at h
                refine vv_sub [(0, _)] (sh_subm [0] rfl) ?_
                exact ih_43 hG250 h
    · intro i1 μ μ' v hG h
      replace h : (sh_let (sh_setI μ 291 2 ((sh_i μ 291 2) + 1)) (fun μ254 => sh_bindv (f_X12_qDropsToBracket μ254) (fun μ255 => sh_let (sh_setI μ255 291 105 ((sh_i μ255 291 105) - 1)) (fun μ258 => sh_let (sh_setI μ258 291 106 ((sh_i μ258 291 106) - 1)) (fun μ259 => (if sh_in (sh_i μ259 291 105) 1700 then (if (sh_i μ259 365 ((sh_i μ259 291 105)).toNatClampNeg) = 20 then F_X12_qGoesOn fuel 3 0 μ259 else (if sh_in (sh_i μ259 291 105) 1700 then (if (sh_i μ259 365 ((sh_i μ259 291 105)).toNatClampNeg) = 23 then sh_bindv (f_X12_qCode 5 μ259) (fun μ267 => F_X12_qGoesOn fuel 3 0 μ267) else sh_bindv (f_X12_qCode 6 μ259) (fun μ264 => F_X12_qGoesOn fuel 3 0 μ264)) else none)) else none))))) : Option (Int32 × sh_Mem)) = some (v, μ') := h
      refine vv_aload_n 43 0 dX12_qGoesOn_43 rfl rfl ?_
      refine vv_dup_ref 44 dX12_qGoesOn_44 ?_
      refine vv_getI 45 dX12_qGoesOn_45 fl_12_259 rfl (g_l_291 hG) ?_
      refine vv_iconst 48 dX12_qGoesOn_48 ik_1 ?_
      refine vv_iadd 49 dX12_qGoesOn_49 ?_
      refine vn_putI 50 dX12_qGoesOn_50 fl_12_259 (Or.inl rfl) rfl (g_l_291 hG) (fun μ254 eμ254 => ?_)
      rw [sh_let_eq eμ254] at h
      have hG254 : sh_G μ254 := by rw [eμ254]; exact hG
      refine vv_aload_n 53 0 dX12_qGoesOn_53 rfl rfl ?_
      obtain ⟨μ255, hr256, h⟩ := sh_bindv_e h
      refine v1_callV [] 54 dX12_qGoesOn_54 ck_X12_672 (g_l_291 hG254) ⟨by decide, rfl⟩ (t_X12_qDropsToBracket hG254 hr256) (Nat.le_of_ble_eq_true rfl) ⟨Nat.le_of_ble_eq_true rfl, Nat.le_of_ble_eq_true rfl⟩ rfl (Nat.le_of_ble_eq_true rfl) ?_
      have hG255 := gp_X12_qDropsToBracket hG254 hr256
      refine vv_aload_n 57 0 dX12_qGoesOn_57 rfl rfl ?_
      refine vv_dup_ref 58 dX12_qGoesOn_58 ?_
      refine vv_getI 59 dX12_qGoesOn_59 fl_12_347 rfl (g_l_291 hG255) ?_
      refine vv_iconst 62 dX12_qGoesOn_62 ik_1 ?_
      refine vv_isub 63 dX12_qGoesOn_63 ?_
      refine vn_putI 64 dX12_qGoesOn_64 fl_12_347 (Or.inl rfl) rfl (g_l_291 hG255) (fun μ258 eμ258 => ?_)
      rw [sh_let_eq eμ258] at h
      have hG258 : sh_G μ258 := by rw [eμ258]; exact hG255
      refine vv_aload_n 67 0 dX12_qGoesOn_67 rfl rfl ?_
      refine vv_dup_ref 68 dX12_qGoesOn_68 ?_
      refine vv_getI 69 dX12_qGoesOn_69 fl_12_350 rfl (g_l_291 hG258) ?_
      refine vv_iconst 72 dX12_qGoesOn_72 ik_1 ?_
      refine vv_isub 73 dX12_qGoesOn_73 ?_
      refine vn_putI 74 dX12_qGoesOn_74 fl_12_350 (Or.inl rfl) rfl (g_l_291 hG258) (fun μ259 eμ259 => ?_)
      rw [sh_let_eq eμ259] at h
      have hG259 : sh_G μ259 := by rw [eμ259]; exact hG258
      refine vv_aload_n 77 0 dX12_qGoesOn_77 rfl rfl ?_
      refine vv_getR 78 dX12_qGoesOn_78 fl_12_239 rfl (g_l_291 hG259) (g_r_291_104 hG259) ?_
      refine vv_aload_n 81 0 dX12_qGoesOn_81 rfl rfl ?_
      refine vv_getI 82 dX12_qGoesOn_82 fl_12_347 rfl (g_l_291 hG259) ?_
      obtain ⟨k260, h⟩ := sh_chk h
      refine vv_iald 85 dX12_qGoesOn_85 (g_l_365 hG259) k260 ?_
      refine vv_bipush 86 dX12_qGoesOn_86 bk_20 ?_
      refine vv_icmp_eq 88 115 dX12_qGoesOn_88 (by decide) (fun c261 => ?_) (fun c261 => ?_)
      · rw [if_pos c261] at h
        refine vv_sub [(0, _)] (sh_subm [0] rfl) ?_
        exact ih_115 hG259 h
      · rw [if_neg c261] at h
        refine vv_aload_n 91 0 dX12_qGoesOn_91 rfl rfl ?_
        refine vv_aload_n 92 0 dX12_qGoesOn_92 rfl rfl ?_
        refine vv_getR 93 dX12_qGoesOn_93 fl_12_239 rfl (g_l_291 hG259) (g_r_291_104 hG259) ?_
        refine vv_aload_n 96 0 dX12_qGoesOn_96 rfl rfl ?_
        refine vv_getI 97 dX12_qGoesOn_97 fl_12_347 rfl (g_l_291 hG259) ?_
        obtain ⟨k262, h⟩ := sh_chk h
        refine vv_iald 100 dX12_qGoesOn_100 (g_l_365 hG259) k262 ?_
        refine vv_bipush 101 dX12_qGoesOn_101 bk_23 ?_
        refine vv_icmp_ne 103 110 dX12_qGoesOn_103 (by decide) (fun c263 => ?_) (fun c263 => ?_)
        · rw [if_neg c263] at h
          refine vv_bipush 110 dX12_qGoesOn_110 bk_6 ?_
          obtain ⟨μ264, hr265, h⟩ := sh_bindv_e h
          refine v1_callV [_] 112 dX12_qGoesOn_112 ck_X12_642 (g_l_291 hG259) ⟨by decide, rfl⟩ (t_X12_qCode hG259 hr265) (Nat.le_of_ble_eq_true rfl) ⟨Nat.le_of_ble_eq_true rfl, Nat.le_of_ble_eq_true rfl⟩ rfl (Nat.le_of_ble_eq_true rfl) ?_
          have hG264 := gp_X12_qCode hG259 hr265
          refine vv_sub [(0, _)] (sh_subm [0] rfl) ?_
          exact ih_115 hG264 h
        · rw [if_pos c263] at h
          refine vv_iconst 106 dX12_qGoesOn_106 ik_5 ?_
          refine vv_goto 107 112 dX12_qGoesOn_107 (by decide) ?_
          obtain ⟨μ267, hr268, h⟩ := sh_bindv_e h
          refine v1_callV [_] 112 dX12_qGoesOn_112 ck_X12_642 (g_l_291 hG259) ⟨by decide, rfl⟩ (t_X12_qCode hG259 hr268) (Nat.le_of_ble_eq_true rfl) ⟨Nat.le_of_ble_eq_true rfl, Nat.le_of_ble_eq_true rfl⟩ rfl (Nat.le_of_ble_eq_true rfl) ?_
          have hG267 := gp_X12_qCode hG259 hr268
          refine vv_sub [(0, _)] (sh_subm [0] rfl) ?_
          exact ih_115 hG267 h
    · intro i1 μ μ' v hG h
      replace h : (sh_bindv (f_X12_qEndsPart μ) (fun μ270 => F_X12_qGoesOn fuel 1 0 μ270) : Option (Int32 × sh_Mem)) = some (v, μ') := h
      refine vv_aload_n 115 0 dX12_qGoesOn_115 rfl rfl ?_
      obtain ⟨μ270, hr271, h⟩ := sh_bindv_e h
      refine v1_callV [] 116 dX12_qGoesOn_116 ck_X12_666 (g_l_291 hG) ⟨by decide, rfl⟩ (t_X12_qEndsPart hG hr271) (Nat.le_of_ble_eq_true rfl) ⟨Nat.le_of_ble_eq_true rfl, Nat.le_of_ble_eq_true rfl⟩ rfl (Nat.le_of_ble_eq_true rfl) ?_
      have hG270 := gp_X12_qEndsPart hG hr271
      refine vv_goto 119 0 dX12_qGoesOn_119 (by decide) ?_
      refine vv_sub [(0, _)] (sh_subm [0] rfl) ?_
      exact ih_0 hG270 h
    · intro i1 μ μ' v hG h
      replace h : (sh_bind (f_X12_takesSign 42 μ) (fun y275 μ273 => (if y275 = 0 then sh_bind (f_X12_takesSign 47 μ273) (fun y279 μ277 => (if y279 = 0 then sh_bind (f_X12_takesSign 43 μ277) (fun y283 μ281 => (if y283 = 0 then sh_bind (f_X12_takesSign 45 μ281) (fun y287 μ285 => (if y287 = 0 then sh_bind (f_X12_qBracket μ285) (fun y291 μ289 => (if y291 = 21 then F_X12_qGoesOn fuel 11 0 μ289 else sh_bind (f_X12_qBracket μ289) (fun y295 μ293 => (if y295 = 22 then F_X12_qGoesOn fuel 11 0 μ293 else sh_bind (f_X12_qBracket μ293) (fun y299 μ297 => (if y299 = (-1) then F_X12_qGoesOn fuel 12 0 μ297 else (if (sh_i μ297 291 5) = 0 then sh_bindv (f_X12_fail 1 (sh_i μ297 291 2) μ297) (fun μ302 => F_X12_qGoesOn fuel 12 0 μ302) else F_X12_qGoesOn fuel 12 0 μ297))))))) else F_X12_qGoesOn fuel 8 0 μ285)) else F_X12_qGoesOn fuel 8 0 μ281)) else F_X12_qGoesOn fuel 5 0 μ277)) else F_X12_qGoesOn fuel 5 0 μ273)) : Option (Int32 × sh_Mem)) = some (v, μ') := h
      refine vv_aload_n 122 0 dX12_qGoesOn_122 rfl rfl ?_
      refine vv_bipush 123 dX12_qGoesOn_123 bk_42 ?_
      obtain ⟨y275, μ273, hr274, h⟩ := sh_bind_e h
      refine v1_callV [_] 125 dX12_qGoesOn_125 ck_X12_287 (g_l_291 hG) ⟨by decide, rfl⟩ (t_X12_takesSign hG hr274) (Nat.le_of_ble_eq_true rfl) ⟨Nat.le_of_ble_eq_true rfl, Nat.le_of_ble_eq_true rfl⟩ rfl (Nat.le_of_ble_eq_true rfl) ?_
      have hG273 := gp_X12_takesSign hG hr274
      refine vv_if_ne 128 140 dX12_qGoesOn_128 (by decide) (fun c276 => ?_) (fun c276 => ?_)
      · rw [if_neg c276] at h
        refine vv_sub [(0, _)] (sh_subm [0] rfl) ?_
        exact ih_140 hG273 h
      · rw [if_pos c276] at h
        refine vv_aload_n 131 0 dX12_qGoesOn_131 rfl rfl ?_
        refine vv_bipush 132 dX12_qGoesOn_132 bk_47 ?_
        obtain ⟨y279, μ277, hr278, h⟩ := sh_bind_e h
        refine v1_callV [_] 134 dX12_qGoesOn_134 ck_X12_287 (g_l_291 hG273) ⟨by decide, rfl⟩ (t_X12_takesSign hG273 hr278) (Nat.le_of_ble_eq_true rfl) ⟨Nat.le_of_ble_eq_true rfl, Nat.le_of_ble_eq_true rfl⟩ rfl (Nat.le_of_ble_eq_true rfl) ?_
        have hG277 := gp_X12_takesSign hG273 hr278
        refine vv_if_eq 137 207 dX12_qGoesOn_137 (by decide) (fun c280 => ?_) (fun c280 => ?_)
        · rw [if_pos c280] at h
          refine vv_aload_n 207 0 dX12_qGoesOn_207 rfl rfl ?_
          refine vv_bipush 208 dX12_qGoesOn_208 bk_43 ?_
          obtain ⟨y283, μ281, hr282, h⟩ := sh_bind_e h
          refine v1_callV [_] 210 dX12_qGoesOn_210 ck_X12_287 (g_l_291 hG277) ⟨by decide, rfl⟩ (t_X12_takesSign hG277 hr282) (Nat.le_of_ble_eq_true rfl) ⟨Nat.le_of_ble_eq_true rfl, Nat.le_of_ble_eq_true rfl⟩ rfl (Nat.le_of_ble_eq_true rfl) ?_
          have hG281 := gp_X12_takesSign hG277 hr282
          refine vv_if_ne 213 225 dX12_qGoesOn_213 (by decide) (fun c284 => ?_) (fun c284 => ?_)
          · rw [if_neg c284] at h
            refine vv_sub [(0, _)] (sh_subm [0] rfl) ?_
            exact ih_225 hG281 h
          · rw [if_pos c284] at h
            refine vv_aload_n 216 0 dX12_qGoesOn_216 rfl rfl ?_
            refine vv_bipush 217 dX12_qGoesOn_217 bk_45 ?_
            obtain ⟨y287, μ285, hr286, h⟩ := sh_bind_e h
            refine v1_callV [_] 219 dX12_qGoesOn_219 ck_X12_287 (g_l_291 hG281) ⟨by decide, rfl⟩ (t_X12_takesSign hG281 hr286) (Nat.le_of_ble_eq_true rfl) ⟨Nat.le_of_ble_eq_true rfl, Nat.le_of_ble_eq_true rfl⟩ rfl (Nat.le_of_ble_eq_true rfl) ?_
            have hG285 := gp_X12_takesSign hG281 hr286
            refine vv_if_eq 222 308 dX12_qGoesOn_222 (by decide) (fun c288 => ?_) (fun c288 => ?_)
            · rw [if_pos c288] at h
              refine vv_aload_n 308 0 dX12_qGoesOn_308 rfl rfl ?_
              obtain ⟨y291, μ289, hr290, h⟩ := sh_bind_e h
              refine v1_callV [] 309 dX12_qGoesOn_309 ck_X12_669 (g_l_291 hG285) ⟨by decide, rfl⟩ (t_X12_qBracket hG285 hr290) (Nat.le_of_ble_eq_true rfl) ⟨Nat.le_of_ble_eq_true rfl, Nat.le_of_ble_eq_true rfl⟩ rfl (Nat.le_of_ble_eq_true rfl) ?_
              have hG289 := gp_X12_qBracket hG285 hr290
              refine vv_bipush 312 dX12_qGoesOn_312 bk_21 ?_
              refine vv_icmp_eq 314 326 dX12_qGoesOn_314 (by decide) (fun c292 => ?_) (fun c292 => ?_)
              · rw [if_pos c292] at h
                refine vv_sub [(0, _)] (sh_subm [0] rfl) ?_
                exact ih_326 hG289 h
              · rw [if_neg c292] at h
                refine vv_aload_n 317 0 dX12_qGoesOn_317 rfl rfl ?_
                obtain ⟨y295, μ293, hr294, h⟩ := sh_bind_e h
                refine v1_callV [] 318 dX12_qGoesOn_318 ck_X12_669 (g_l_291 hG289) ⟨by decide, rfl⟩ (t_X12_qBracket hG289 hr294) (Nat.le_of_ble_eq_true rfl) ⟨Nat.le_of_ble_eq_true rfl, Nat.le_of_ble_eq_true rfl⟩ rfl (Nat.le_of_ble_eq_true rfl) ?_
                have hG293 := gp_X12_qBracket hG289 hr294
                refine vv_bipush 321 dX12_qGoesOn_321 bk_22 ?_
                refine vv_icmp_ne 323 362 dX12_qGoesOn_323 (by decide) (fun c296 => ?_) (fun c296 => ?_)
                · rw [if_neg c296] at h
                  refine vv_aload_n 362 0 dX12_qGoesOn_362 rfl rfl ?_
                  obtain ⟨y299, μ297, hr298, h⟩ := sh_bind_e h
                  refine v1_callV [] 363 dX12_qGoesOn_363 ck_X12_669 (g_l_291 hG293) ⟨by decide, rfl⟩ (t_X12_qBracket hG293 hr298) (Nat.le_of_ble_eq_true rfl) ⟨Nat.le_of_ble_eq_true rfl, Nat.le_of_ble_eq_true rfl⟩ rfl (Nat.le_of_ble_eq_true rfl) ?_
                  have hG297 := gp_X12_qBracket hG293 hr298
                  refine vv_iconst 366 dX12_qGoesOn_366 ik_m1 ?_
                  refine vv_icmp_eq 367 386 dX12_qGoesOn_367 (by decide) (fun c300 => ?_) (fun c300 => ?_)
                  · rw [if_pos c300] at h
                    refine vv_sub [(0, _)] (sh_subm [0] rfl) ?_
                    exact ih_386 hG297 h
                  · rw [if_neg c300] at h
                    refine vv_aload_n 370 0 dX12_qGoesOn_370 rfl rfl ?_
                    refine vv_getI 371 dX12_qGoesOn_371 fl_12_253 rfl (g_l_291 hG297) ?_
                    refine vv_if_ne 374 386 dX12_qGoesOn_374 (by decide) (fun c301 => ?_) (fun c301 => ?_)
                    · rw [if_neg c301] at h
                      refine vv_sub [(0, _)] (sh_subm [0] rfl) ?_
                      exact ih_386 hG297 h
                    · rw [if_pos c301] at h
                      refine vv_aload_n 377 0 dX12_qGoesOn_377 rfl rfl ?_
                      refine vv_iconst 378 dX12_qGoesOn_378 ik_1 ?_
                      refine vv_aload_n 379 0 dX12_qGoesOn_379 rfl rfl ?_
                      refine vv_getI 380 dX12_qGoesOn_380 fl_12_259 rfl (g_l_291 hG297) ?_
                      obtain ⟨μ302, hr303, h⟩ := sh_bindv_e h
                      refine v1_callV [_, _] 383 dX12_qGoesOn_383 ck_X12_283 (g_l_291 hG297) ⟨by decide, rfl⟩ (t_X12_fail hG297 hr303) (Nat.le_of_ble_eq_true rfl) ⟨Nat.le_of_ble_eq_true rfl, Nat.le_of_ble_eq_true rfl⟩ rfl (Nat.le_of_ble_eq_true rfl) ?_
                      have hG302 := gp_X12_fail hG297 hr303
                      refine vv_sub [(0, _)] (sh_subm [0] rfl) ?_
                      exact ih_386 hG302 h
                · rw [if_pos c296] at h
                  refine vv_sub [(0, _)] (sh_subm [0] rfl) ?_
                  exact ih_326 hG293 h
            · rw [if_neg c288] at h
              refine vv_sub [(0, _)] (sh_subm [0] rfl) ?_
              exact ih_225 hG285 h
        · rw [if_neg c280] at h
          refine vv_sub [(0, _)] (sh_subm [0] rfl) ?_
          exact ih_140 hG277 h
    · intro i1 μ μ' v hG h
      replace h : ((if sh_in ((sh_i μ 291 2) - 1) 1600 then (if (sh_i μ 292 (((sh_i μ 291 2) - 1)).toNatClampNeg) = 42 then F_X12_qGoesOn fuel 6 3 μ else F_X12_qGoesOn fuel 6 4 μ) else none) : Option (Int32 × sh_Mem)) = some (v, μ') := h
      refine vv_aload_n 140 0 dX12_qGoesOn_140 rfl rfl ?_
      refine vv_getR 141 dX12_qGoesOn_141 fl_12_7 rfl (g_l_291 hG) (g_r_291_0 hG) ?_
      refine vv_aload_n 144 0 dX12_qGoesOn_144 rfl rfl ?_
      refine vv_getI 145 dX12_qGoesOn_145 fl_12_259 rfl (g_l_291 hG) ?_
      refine vv_iconst 148 dX12_qGoesOn_148 ik_1 ?_
      refine vv_isub 149 dX12_qGoesOn_149 ?_
      obtain ⟨k305, h⟩ := sh_chk h
      refine vv_iald 150 dX12_qGoesOn_150 (g_l_292 hG) k305 ?_
      refine vv_bipush 151 dX12_qGoesOn_151 bk_42 ?_
      refine vv_icmp_ne 153 160 dX12_qGoesOn_153 (by decide) (fun c306 => ?_) (fun c306 => ?_)
      · rw [if_neg c306] at h
        refine vv_iconst 160 dX12_qGoesOn_160 ik_4 ?_
        refine vv_istore_n (lv' := [(1, _), (0, _)]) 161 1 dX12_qGoesOn_161 rfl (by decide) rfl ?_
        refine vv_sub [(0, _), (1, _)] (sh_subm [1, 0] rfl) ?_
        exact ih_162 hG h
      · rw [if_pos c306] at h
        refine vv_iconst 156 dX12_qGoesOn_156 ik_3 ?_
        refine vv_goto 157 161 dX12_qGoesOn_157 (by decide) ?_
        refine vv_istore_n (lv' := [(1, _), (0, _)]) 161 1 dX12_qGoesOn_161 rfl (by decide) rfl ?_
        refine vv_sub [(0, _), (1, _)] (sh_subm [1, 0] rfl) ?_
        exact ih_162 hG h
    · intro i1 μ μ' v hG h
      replace h : (sh_bind (f_X12_qIsOn 3 μ) (fun y309 μ307 => (if y309 = 0 then sh_bind (f_X12_qIsOn 4 μ307) (fun y313 μ311 => (if y313 = 0 then (if sh_in (sh_i μ311 291 105) 1700 then sh_let (sh_setI μ311 365 ((sh_i μ311 291 105)).toNatClampNeg i1) (fun μ316 => sh_let (sh_setI μ316 291 105 ((sh_i μ316 291 105) + 1)) (fun μ317 => some (1, μ317))) else none) else F_X12_qGoesOn fuel 7 i1 μ311)) else F_X12_qGoesOn fuel 7 i1 μ307)) : Option (Int32 × sh_Mem)) = some (v, μ') := h
      refine vv_aload_n 162 0 dX12_qGoesOn_162 rfl rfl ?_
      refine vv_iconst 163 dX12_qGoesOn_163 ik_3 ?_
      obtain ⟨y309, μ307, hr308, h⟩ := sh_bind_e h
      refine v1_callV [_] 164 dX12_qGoesOn_164 ck_X12_675 (g_l_291 hG) ⟨by decide, rfl⟩ (t_X12_qIsOn hG hr308) (Nat.le_of_ble_eq_true rfl) ⟨Nat.le_of_ble_eq_true rfl, Nat.le_of_ble_eq_true rfl⟩ rfl (Nat.le_of_ble_eq_true rfl) ?_
      have hG307 := gp_X12_qIsOn hG hr308
      refine vv_if_ne 167 178 dX12_qGoesOn_167 (by decide) (fun c310 => ?_) (fun c310 => ?_)
      · rw [if_neg c310] at h
        refine vv_sub [(0, _), (1, _)] (sh_subm [0, 1] rfl) ?_
        exact ih_178 hG307 h
      · rw [if_pos c310] at h
        refine vv_aload_n 170 0 dX12_qGoesOn_170 rfl rfl ?_
        refine vv_iconst 171 dX12_qGoesOn_171 ik_4 ?_
        obtain ⟨y313, μ311, hr312, h⟩ := sh_bind_e h
        refine v1_callV [_] 172 dX12_qGoesOn_172 ck_X12_675 (g_l_291 hG307) ⟨by decide, rfl⟩ (t_X12_qIsOn hG307 hr312) (Nat.le_of_ble_eq_true rfl) ⟨Nat.le_of_ble_eq_true rfl, Nat.le_of_ble_eq_true rfl⟩ rfl (Nat.le_of_ble_eq_true rfl) ?_
        have hG311 := gp_X12_qIsOn hG307 hr312
        refine vv_if_eq 175 185 dX12_qGoesOn_175 (by decide) (fun c314 => ?_) (fun c314 => ?_)
        · rw [if_pos c314] at h
          refine vv_aload_n 185 0 dX12_qGoesOn_185 rfl rfl ?_
          refine vv_getR 186 dX12_qGoesOn_186 fl_12_239 rfl (g_l_291 hG311) (g_r_291_104 hG311) ?_
          refine vv_aload_n 189 0 dX12_qGoesOn_189 rfl rfl ?_
          refine vv_getI 190 dX12_qGoesOn_190 fl_12_347 rfl (g_l_291 hG311) ?_
          refine vv_iload_n 193 1 dX12_qGoesOn_193 rfl rfl ?_
          obtain ⟨k315, h⟩ := sh_chk h
          refine vn_iast 194 dX12_qGoesOn_194 (g_l_365 hG311) k315 (fun μ316 eμ316 => ?_)
          rw [sh_let_eq eμ316] at h
          have hG316 : sh_G μ316 := by rw [eμ316]; exact hG311
          refine vv_aload_n 195 0 dX12_qGoesOn_195 rfl rfl ?_
          refine vv_dup_ref 196 dX12_qGoesOn_196 ?_
          refine vv_getI 197 dX12_qGoesOn_197 fl_12_347 rfl (g_l_291 hG316) ?_
          refine vv_iconst 200 dX12_qGoesOn_200 ik_1 ?_
          refine vv_iadd 201 dX12_qGoesOn_201 ?_
          refine vn_putI 202 dX12_qGoesOn_202 fl_12_347 (Or.inl rfl) rfl (g_l_291 hG316) (fun μ317 eμ317 => ?_)
          rw [sh_let_eq eμ317] at h
          have hG317 : sh_G μ317 := by rw [eμ317]; exact hG316
          refine vv_iconst 205 dX12_qGoesOn_205 ik_1 ?_
          obtain ⟨e1, e2⟩ := sh_some2 h
          refine vv_zret 206 dX12_qGoesOn_206 rfl rfl (Nat.le_refl _) (Nat.le_refl _) ⟨by rw [e1], e2⟩
        · rw [if_neg c314] at h
          refine vv_sub [(0, _), (1, _)] (sh_subm [0, 1] rfl) ?_
          exact ih_178 hG311 h
    · intro i1 μ μ' v hG h
      replace h : (sh_bindv (f_X12_qDrops μ) (fun μ318 => F_X12_qGoesOn fuel 6 i1 μ318) : Option (Int32 × sh_Mem)) = some (v, μ') := h
      refine vv_aload_n 178 0 dX12_qGoesOn_178 rfl rfl ?_
      obtain ⟨μ318, hr319, h⟩ := sh_bindv_e h
      refine v1_callV [] 179 dX12_qGoesOn_179 ck_X12_648 (g_l_291 hG) ⟨by decide, rfl⟩ (t_X12_qDrops hG hr319) (Nat.le_of_ble_eq_true rfl) ⟨Nat.le_of_ble_eq_true rfl, Nat.le_of_ble_eq_true rfl⟩ rfl (Nat.le_of_ble_eq_true rfl) ?_
      have hG318 := gp_X12_qDrops hG hr319
      refine vv_goto 182 162 dX12_qGoesOn_182 (by decide) ?_
      refine vv_sub [(0, _), (1, _)] (sh_subm [0, 1] rfl) ?_
      exact ih_162 hG318 h
    · intro i1 μ μ' v hG h
      replace h : ((if sh_in ((sh_i μ 291 2) - 1) 1600 then (if (sh_i μ 292 (((sh_i μ 291 2) - 1)).toNatClampNeg) = 43 then F_X12_qGoesOn fuel 9 1 μ else F_X12_qGoesOn fuel 9 2 μ) else none) : Option (Int32 × sh_Mem)) = some (v, μ') := h
      refine vv_aload_n 225 0 dX12_qGoesOn_225 rfl rfl ?_
      refine vv_getR 226 dX12_qGoesOn_226 fl_12_7 rfl (g_l_291 hG) (g_r_291_0 hG) ?_
      refine vv_aload_n 229 0 dX12_qGoesOn_229 rfl rfl ?_
      refine vv_getI 230 dX12_qGoesOn_230 fl_12_259 rfl (g_l_291 hG) ?_
      refine vv_iconst 233 dX12_qGoesOn_233 ik_1 ?_
      refine vv_isub 234 dX12_qGoesOn_234 ?_
      obtain ⟨k321, h⟩ := sh_chk h
      refine vv_iald 235 dX12_qGoesOn_235 (g_l_292 hG) k321 ?_
      refine vv_bipush 236 dX12_qGoesOn_236 bk_43 ?_
      refine vv_icmp_ne 238 245 dX12_qGoesOn_238 (by decide) (fun c322 => ?_) (fun c322 => ?_)
      · rw [if_neg c322] at h
        refine vv_iconst 245 dX12_qGoesOn_245 ik_2 ?_
        refine vv_istore_n (lv' := [(1, _), (0, _)]) 246 1 dX12_qGoesOn_246 rfl (by decide) rfl ?_
        refine vv_sub [(0, _), (1, _)] (sh_subm [1, 0] rfl) ?_
        exact ih_247 hG h
      · rw [if_pos c322] at h
        refine vv_iconst 241 dX12_qGoesOn_241 ik_1 ?_
        refine vv_goto 242 246 dX12_qGoesOn_242 (by decide) ?_
        refine vv_istore_n (lv' := [(1, _), (0, _)]) 246 1 dX12_qGoesOn_246 rfl (by decide) rfl ?_
        refine vv_sub [(0, _), (1, _)] (sh_subm [1, 0] rfl) ?_
        exact ih_247 hG h
    · intro i1 μ μ' v hG h
      replace h : (sh_bind (f_X12_qIsOn 3 μ) (fun y325 μ323 => (if y325 = 0 then sh_bind (f_X12_qIsOn 4 μ323) (fun y329 μ327 => (if y329 = 0 then sh_bind (f_X12_qIsOn 1 μ327) (fun y333 μ331 => (if y333 = 0 then sh_bind (f_X12_qIsOn 2 μ331) (fun y337 μ335 => (if y337 = 0 then (if sh_in (sh_i μ335 291 105) 1700 then sh_let (sh_setI μ335 365 ((sh_i μ335 291 105)).toNatClampNeg i1) (fun μ340 => sh_let (sh_setI μ340 291 105 ((sh_i μ340 291 105) + 1)) (fun μ341 => some (1, μ341))) else none) else F_X12_qGoesOn fuel 10 i1 μ335)) else F_X12_qGoesOn fuel 10 i1 μ331)) else F_X12_qGoesOn fuel 10 i1 μ327)) else F_X12_qGoesOn fuel 10 i1 μ323)) : Option (Int32 × sh_Mem)) = some (v, μ') := h
      refine vv_aload_n 247 0 dX12_qGoesOn_247 rfl rfl ?_
      refine vv_iconst 248 dX12_qGoesOn_248 ik_3 ?_
      obtain ⟨y325, μ323, hr324, h⟩ := sh_bind_e h
      refine v1_callV [_] 249 dX12_qGoesOn_249 ck_X12_675 (g_l_291 hG) ⟨by decide, rfl⟩ (t_X12_qIsOn hG hr324) (Nat.le_of_ble_eq_true rfl) ⟨Nat.le_of_ble_eq_true rfl, Nat.le_of_ble_eq_true rfl⟩ rfl (Nat.le_of_ble_eq_true rfl) ?_
      have hG323 := gp_X12_qIsOn hG hr324
      refine vv_if_ne 252 279 dX12_qGoesOn_252 (by decide) (fun c326 => ?_) (fun c326 => ?_)
      · rw [if_neg c326] at h
        refine vv_sub [(0, _), (1, _)] (sh_subm [0, 1] rfl) ?_
        exact ih_279 hG323 h
      · rw [if_pos c326] at h
        refine vv_aload_n 255 0 dX12_qGoesOn_255 rfl rfl ?_
        refine vv_iconst 256 dX12_qGoesOn_256 ik_4 ?_
        obtain ⟨y329, μ327, hr328, h⟩ := sh_bind_e h
        refine v1_callV [_] 257 dX12_qGoesOn_257 ck_X12_675 (g_l_291 hG323) ⟨by decide, rfl⟩ (t_X12_qIsOn hG323 hr328) (Nat.le_of_ble_eq_true rfl) ⟨Nat.le_of_ble_eq_true rfl, Nat.le_of_ble_eq_true rfl⟩ rfl (Nat.le_of_ble_eq_true rfl) ?_
        have hG327 := gp_X12_qIsOn hG323 hr328
        refine vv_if_ne 260 279 dX12_qGoesOn_260 (by decide) (fun c330 => ?_) (fun c330 => ?_)
        · rw [if_neg c330] at h
          refine vv_sub [(0, _), (1, _)] (sh_subm [0, 1] rfl) ?_
          exact ih_279 hG327 h
        · rw [if_pos c330] at h
          refine vv_aload_n 263 0 dX12_qGoesOn_263 rfl rfl ?_
          refine vv_iconst 264 dX12_qGoesOn_264 ik_1 ?_
          obtain ⟨y333, μ331, hr332, h⟩ := sh_bind_e h
          refine v1_callV [_] 265 dX12_qGoesOn_265 ck_X12_675 (g_l_291 hG327) ⟨by decide, rfl⟩ (t_X12_qIsOn hG327 hr332) (Nat.le_of_ble_eq_true rfl) ⟨Nat.le_of_ble_eq_true rfl, Nat.le_of_ble_eq_true rfl⟩ rfl (Nat.le_of_ble_eq_true rfl) ?_
          have hG331 := gp_X12_qIsOn hG327 hr332
          refine vv_if_ne 268 279 dX12_qGoesOn_268 (by decide) (fun c334 => ?_) (fun c334 => ?_)
          · rw [if_neg c334] at h
            refine vv_sub [(0, _), (1, _)] (sh_subm [0, 1] rfl) ?_
            exact ih_279 hG331 h
          · rw [if_pos c334] at h
            refine vv_aload_n 271 0 dX12_qGoesOn_271 rfl rfl ?_
            refine vv_iconst 272 dX12_qGoesOn_272 ik_2 ?_
            obtain ⟨y337, μ335, hr336, h⟩ := sh_bind_e h
            refine v1_callV [_] 273 dX12_qGoesOn_273 ck_X12_675 (g_l_291 hG331) ⟨by decide, rfl⟩ (t_X12_qIsOn hG331 hr336) (Nat.le_of_ble_eq_true rfl) ⟨Nat.le_of_ble_eq_true rfl, Nat.le_of_ble_eq_true rfl⟩ rfl (Nat.le_of_ble_eq_true rfl) ?_
            have hG335 := gp_X12_qIsOn hG331 hr336
            refine vv_if_eq 276 286 dX12_qGoesOn_276 (by decide) (fun c338 => ?_) (fun c338 => ?_)
            · rw [if_pos c338] at h
              refine vv_aload_n 286 0 dX12_qGoesOn_286 rfl rfl ?_
              refine vv_getR 287 dX12_qGoesOn_287 fl_12_239 rfl (g_l_291 hG335) (g_r_291_104 hG335) ?_
              refine vv_aload_n 290 0 dX12_qGoesOn_290 rfl rfl ?_
              refine vv_getI 291 dX12_qGoesOn_291 fl_12_347 rfl (g_l_291 hG335) ?_
              refine vv_iload_n 294 1 dX12_qGoesOn_294 rfl rfl ?_
              obtain ⟨k339, h⟩ := sh_chk h
              refine vn_iast 295 dX12_qGoesOn_295 (g_l_365 hG335) k339 (fun μ340 eμ340 => ?_)
              rw [sh_let_eq eμ340] at h
              have hG340 : sh_G μ340 := by rw [eμ340]; exact hG335
              refine vv_aload_n 296 0 dX12_qGoesOn_296 rfl rfl ?_
              refine vv_dup_ref 297 dX12_qGoesOn_297 ?_
              refine vv_getI 298 dX12_qGoesOn_298 fl_12_347 rfl (g_l_291 hG340) ?_
              refine vv_iconst 301 dX12_qGoesOn_301 ik_1 ?_
              refine vv_iadd 302 dX12_qGoesOn_302 ?_
              refine vn_putI 303 dX12_qGoesOn_303 fl_12_347 (Or.inl rfl) rfl (g_l_291 hG340) (fun μ341 eμ341 => ?_)
              rw [sh_let_eq eμ341] at h
              have hG341 : sh_G μ341 := by rw [eμ341]; exact hG340
              refine vv_iconst 306 dX12_qGoesOn_306 ik_1 ?_
              obtain ⟨e1, e2⟩ := sh_some2 h
              refine vv_zret 307 dX12_qGoesOn_307 rfl rfl (Nat.le_refl _) (Nat.le_refl _) ⟨by rw [e1], e2⟩
            · rw [if_neg c338] at h
              refine vv_sub [(0, _), (1, _)] (sh_subm [0, 1] rfl) ?_
              exact ih_279 hG335 h
    · intro i1 μ μ' v hG h
      replace h : (sh_bindv (f_X12_qDrops μ) (fun μ342 => F_X12_qGoesOn fuel 9 i1 μ342) : Option (Int32 × sh_Mem)) = some (v, μ') := h
      refine vv_aload_n 279 0 dX12_qGoesOn_279 rfl rfl ?_
      obtain ⟨μ342, hr343, h⟩ := sh_bindv_e h
      refine v1_callV [] 280 dX12_qGoesOn_280 ck_X12_648 (g_l_291 hG) ⟨by decide, rfl⟩ (t_X12_qDrops hG hr343) (Nat.le_of_ble_eq_true rfl) ⟨Nat.le_of_ble_eq_true rfl, Nat.le_of_ble_eq_true rfl⟩ rfl (Nat.le_of_ble_eq_true rfl) ?_
      have hG342 := gp_X12_qDrops hG hr343
      refine vv_goto 283 247 dX12_qGoesOn_283 (by decide) ?_
      refine vv_sub [(0, _), (1, _)] (sh_subm [0, 1] rfl) ?_
      exact ih_247 hG342 h
    · intro i1 μ μ' v hG h
      replace h : (sh_bindv (f_X12_asksSign 44 μ) (fun μ345 => (if (sh_i μ345 291 5) = 0 then sh_bindv (f_X12_qDropsToBracket μ345) (fun μ349 => (if sh_in ((sh_i μ349 291 105) - 1) 1700 then (if sh_in ((sh_i μ349 291 105) - 1) 1700 then sh_let (sh_setI μ349 365 (((sh_i μ349 291 105) - 1)).toNatClampNeg ((sh_i μ349 365 (((sh_i μ349 291 105) - 1)).toNatClampNeg) + 2)) (fun μ354 => some (1, μ354)) else none) else none)) else some (0, μ345))) : Option (Int32 × sh_Mem)) = some (v, μ') := h
      refine vv_aload_n 326 0 dX12_qGoesOn_326 rfl rfl ?_
      refine vv_bipush 327 dX12_qGoesOn_327 bk_44 ?_
      obtain ⟨μ345, hr346, h⟩ := sh_bindv_e h
      refine v1_callV [_] 329 dX12_qGoesOn_329 ck_X12_326 (g_l_291 hG) ⟨by decide, rfl⟩ (t_X12_asksSign hG hr346) (Nat.le_of_ble_eq_true rfl) ⟨Nat.le_of_ble_eq_true rfl, Nat.le_of_ble_eq_true rfl⟩ rfl (Nat.le_of_ble_eq_true rfl) ?_
      have hG345 := gp_X12_asksSign hG hr346
      refine vv_aload_n 332 0 dX12_qGoesOn_332 rfl rfl ?_
      refine vv_getI 333 dX12_qGoesOn_333 fl_12_253 rfl (g_l_291 hG345) ?_
      refine vv_if_eq 336 341 dX12_qGoesOn_336 (by decide) (fun c348 => ?_) (fun c348 => ?_)
      · rw [if_pos c348] at h
        refine vv_aload_n 341 0 dX12_qGoesOn_341 rfl rfl ?_
        obtain ⟨μ349, hr350, h⟩ := sh_bindv_e h
        refine v1_callV [] 342 dX12_qGoesOn_342 ck_X12_672 (g_l_291 hG345) ⟨by decide, rfl⟩ (t_X12_qDropsToBracket hG345 hr350) (Nat.le_of_ble_eq_true rfl) ⟨Nat.le_of_ble_eq_true rfl, Nat.le_of_ble_eq_true rfl⟩ rfl (Nat.le_of_ble_eq_true rfl) ?_
        have hG349 := gp_X12_qDropsToBracket hG345 hr350
        refine vv_aload_n 345 0 dX12_qGoesOn_345 rfl rfl ?_
        refine vv_getR 346 dX12_qGoesOn_346 fl_12_239 rfl (g_l_291 hG349) (g_r_291_104 hG349) ?_
        refine vv_aload_n 349 0 dX12_qGoesOn_349 rfl rfl ?_
        refine vv_getI 350 dX12_qGoesOn_350 fl_12_347 rfl (g_l_291 hG349) ?_
        refine vv_iconst 353 dX12_qGoesOn_353 ik_1 ?_
        refine vv_isub 354 dX12_qGoesOn_354 ?_
        refine vv_dup2_ri 355 dX12_qGoesOn_355 ?_
        obtain ⟨k352, h⟩ := sh_chk h
        refine vv_iald 356 dX12_qGoesOn_356 (g_l_365 hG349) k352 ?_
        refine vv_iconst 357 dX12_qGoesOn_357 ik_2 ?_
        refine vv_iadd 358 dX12_qGoesOn_358 ?_
        obtain ⟨k353, h⟩ := sh_chk h
        refine vn_iast 359 dX12_qGoesOn_359 (g_l_365 hG349) k353 (fun μ354 eμ354 => ?_)
        rw [sh_let_eq eμ354] at h
        have hG354 : sh_G μ354 := by rw [eμ354]; exact hG349
        refine vv_iconst 360 dX12_qGoesOn_360 ik_1 ?_
        obtain ⟨e1, e2⟩ := sh_some2 h
        refine vv_zret 361 dX12_qGoesOn_361 rfl rfl (Nat.le_refl _) (Nat.le_refl _) ⟨by rw [e1], e2⟩
      · rw [if_neg c348] at h
        refine vv_iconst 339 dX12_qGoesOn_339 ik_0 ?_
        obtain ⟨e1, e2⟩ := sh_some2 h
        refine vv_zret 340 dX12_qGoesOn_340 rfl rfl (Nat.le_refl _) (Nat.le_refl _) ⟨by rw [e1], e2⟩
    · intro i1 μ μ' v hG h
      replace h : (some (0, μ) : Option (Int32 × sh_Mem)) = some (v, μ') := h
      refine vv_iconst 386 dX12_qGoesOn_386 ik_0 ?_
      obtain ⟨e1, e2⟩ := sh_some2 h
      refine vv_zret 387 dX12_qGoesOn_387 rfl rfl (Nat.le_refl _) (Nat.le_refl _) ⟨by rw [e1], e2⟩
theorem gp_X12_qGoesOn {μ μ' : sh_Mem} {v : Int32} (hG : sh_G μ) (h : f_X12_qGoesOn μ = some (v, μ')) : sh_G μ' := by
  have ih_0 := (gpl_X12_qGoesOn sh_fuel).1
  have ih_43 := (gpl_X12_qGoesOn sh_fuel).2.1
  have ih_115 := (gpl_X12_qGoesOn sh_fuel).2.2.1
  have ih_122 := (gpl_X12_qGoesOn sh_fuel).2.2.2.1
  have ih_140 := (gpl_X12_qGoesOn sh_fuel).2.2.2.2.1
  have ih_162 := (gpl_X12_qGoesOn sh_fuel).2.2.2.2.2.1
  have ih_178 := (gpl_X12_qGoesOn sh_fuel).2.2.2.2.2.2.1
  have ih_225 := (gpl_X12_qGoesOn sh_fuel).2.2.2.2.2.2.2.1
  have ih_247 := (gpl_X12_qGoesOn sh_fuel).2.2.2.2.2.2.2.2.1
  have ih_279 := (gpl_X12_qGoesOn sh_fuel).2.2.2.2.2.2.2.2.2.1
  have ih_326 := (gpl_X12_qGoesOn sh_fuel).2.2.2.2.2.2.2.2.2.2.1
  have ih_386 := (gpl_X12_qGoesOn sh_fuel).2.2.2.2.2.2.2.2.2.2.2
  unfold f_X12_qGoesOn at h
  exact ih_0 hG h
theorem t_X12_qGoesOn {μ μ' : sh_Mem} {v : Int32} (hG : sh_G μ) (h : f_X12_qGoesOn μ = some (v, μ')) : sh_C0 l B D ca 4 M_X12_qGoesOn [.ref 291] μ (fun v0 μ0 => v0 = some (.int v) ∧ μ0 = μ') := by
  have ih_0 := (tl_X12_qGoesOn (l := l) (B := B) (D := D) (ca := ca) sh_fuel).1
  have ih_43 := (tl_X12_qGoesOn (l := l) (B := B) (D := D) (ca := ca) sh_fuel).2.1
  have ih_115 := (tl_X12_qGoesOn (l := l) (B := B) (D := D) (ca := ca) sh_fuel).2.2.1
  have ih_122 := (tl_X12_qGoesOn (l := l) (B := B) (D := D) (ca := ca) sh_fuel).2.2.2.1
  have ih_140 := (tl_X12_qGoesOn (l := l) (B := B) (D := D) (ca := ca) sh_fuel).2.2.2.2.1
  have ih_162 := (tl_X12_qGoesOn (l := l) (B := B) (D := D) (ca := ca) sh_fuel).2.2.2.2.2.1
  have ih_178 := (tl_X12_qGoesOn (l := l) (B := B) (D := D) (ca := ca) sh_fuel).2.2.2.2.2.2.1
  have ih_225 := (tl_X12_qGoesOn (l := l) (B := B) (D := D) (ca := ca) sh_fuel).2.2.2.2.2.2.2.1
  have ih_247 := (tl_X12_qGoesOn (l := l) (B := B) (D := D) (ca := ca) sh_fuel).2.2.2.2.2.2.2.2.1
  have ih_279 := (tl_X12_qGoesOn (l := l) (B := B) (D := D) (ca := ca) sh_fuel).2.2.2.2.2.2.2.2.2.1
  have ih_326 := (tl_X12_qGoesOn (l := l) (B := B) (D := D) (ca := ca) sh_fuel).2.2.2.2.2.2.2.2.2.2.1
  have ih_386 := (tl_X12_qGoesOn (l := l) (B := B) (D := D) (ca := ca) sh_fuel).2.2.2.2.2.2.2.2.2.2.2
  unfold f_X12_qGoesOn at h
  refine vv_sub [(0, _)] (sh_subm [0] rfl) ?_
  exact ih_0 hG h
noncomputable def F_X12_qSums : Nat → Nat → Int32 → Int32 → sh_Mem → Option sh_Mem
  | 0, _, _, _, _ => none
  | fuel + 1, lbl, i1, i2, μ => match lbl with
    | 1 => (if i2 = 0 then F_X12_qSums fuel 2 i1 i2 μ else (if (sh_i μ 291 5) = 0 then sh_bindv (f_X12_qPartTold μ) (fun μ39 => (if (sh_i μ39 291 5) = 0 then sh_bind (f_X12_qGoesOn μ39) (fun y45 μ43 => (if y45 = 0 then F_X12_qSums fuel 1 i1 0 μ43 else F_X12_qSums fuel 1 i1 1 μ43)) else F_X12_qSums fuel 1 i1 0 μ39)) else F_X12_qSums fuel 2 i1 i2 μ))
    | 2 => (if (sh_i μ 291 5) = 0 then (if (sh_i μ 291 105) ≤ (sh_i μ 291 107) then sh_let (sh_setI μ 291 107 i1) (fun μ50 => some μ50) else sh_bindv (f_X12_qDrops μ) (fun μ51 => F_X12_qSums fuel 2 i1 i2 μ51)) else sh_let (sh_setI μ 291 107 i1) (fun μ48 => some μ48))
    | _ => none
noncomputable def f_X12_qSums (μ : sh_Mem) : Option sh_Mem := sh_let ((sh_i μ 291 107) : Int32) (fun x54 => sh_let (sh_setI μ 291 107 (sh_i μ 291 105)) (fun μ55 => F_X12_qSums sh_fuel 1 x54 1 μ55))
theorem gpl_X12_qSums (fuel : Nat) : (∀ ⦃i1 : Int32⦄ ⦃i2 : Int32⦄ ⦃μ μ' : sh_Mem⦄, sh_G μ → F_X12_qSums fuel 1 i1 i2 μ = some μ' → sh_G μ') ∧ (∀ ⦃i1 : Int32⦄ ⦃i2 : Int32⦄ ⦃μ μ' : sh_Mem⦄, sh_G μ → F_X12_qSums fuel 2 i1 i2 μ = some μ' → sh_G μ') := by
  induction fuel with
  | zero => exact ⟨(by intro i1 i2 μ μ' hG h; cases h), (by intro i1 i2 μ μ' hG h; cases h)⟩
  | succ fuel ih =>
    obtain ⟨ih_15, ih_53⟩ := ih
    refine ⟨?_, ?_⟩
    · intro i1 i2 μ μ' hG h
      replace h : ((if i2 = 0 then F_X12_qSums fuel 2 i1 i2 μ else (if (sh_i μ 291 5) = 0 then sh_bindv (f_X12_qPartTold μ) (fun μ39 => (if (sh_i μ39 291 5) = 0 then sh_bind (f_X12_qGoesOn μ39) (fun y45 μ43 => (if y45 = 0 then F_X12_qSums fuel 1 i1 0 μ43 else F_X12_qSums fuel 1 i1 1 μ43)) else F_X12_qSums fuel 1 i1 0 μ39)) else F_X12_qSums fuel 2 i1 i2 μ)) : Option sh_Mem) = some μ' := h
      by_cases c37 : i2 = 0
      · rw [if_pos c37] at h
        exact ih_53 hG h
      · rw [if_neg c37] at h
        by_cases c38 : (sh_i μ 291 5) = 0
        · rw [if_pos c38] at h
          obtain ⟨μ39, hr40, h⟩ := sh_bindv_e h
          have hG39 := gp_X12_qPartTold hG hr40
          by_cases c42 : (sh_i μ39 291 5) = 0
          · rw [if_pos c42] at h
            obtain ⟨y45, μ43, hr44, h⟩ := sh_bind_e h
            have hG43 := gp_X12_qGoesOn hG39 hr44
            by_cases c46 : y45 = 0
            · rw [if_pos c46] at h
              exact ih_15 hG43 h
            · rw [if_neg c46] at h
              exact ih_15 hG43 h
          · rw [if_neg c42] at h
            exact ih_15 hG39 h
        · rw [if_neg c38] at h
          exact ih_53 hG h
    · intro i1 i2 μ μ' hG h
      replace h : ((if (sh_i μ 291 5) = 0 then (if (sh_i μ 291 105) ≤ (sh_i μ 291 107) then sh_let (sh_setI μ 291 107 i1) (fun μ50 => some μ50) else sh_bindv (f_X12_qDrops μ) (fun μ51 => F_X12_qSums fuel 2 i1 i2 μ51)) else sh_let (sh_setI μ 291 107 i1) (fun μ48 => some μ48)) : Option sh_Mem) = some μ' := h
      by_cases c47 : (sh_i μ 291 5) = 0
      · rw [if_pos c47] at h
        by_cases c49 : (sh_i μ 291 105) ≤ (sh_i μ 291 107)
        · rw [if_pos c49] at h
          obtain ⟨μ50, eμ50⟩ : ∃ y : sh_Mem, y = (sh_setI μ 291 107 i1) := ⟨_, rfl⟩
          rw [sh_let_eq eμ50] at h
          have hG50 : sh_G μ50 := by rw [eμ50]; exact hG
          have e2 := Option.some.inj h
          exact e2 ▸ hG50
        · rw [if_neg c49] at h
          obtain ⟨μ51, hr52, h⟩ := sh_bindv_e h
          have hG51 := gp_X12_qDrops hG hr52
          exact ih_53 hG51 h
      · rw [if_neg c47] at h
        obtain ⟨μ48, eμ48⟩ : ∃ y : sh_Mem, y = (sh_setI μ 291 107 i1) := ⟨_, rfl⟩
        rw [sh_let_eq eμ48] at h
        have hG48 : sh_G μ48 := by rw [eμ48]; exact hG
        have e2 := Option.some.inj h
        exact e2 ▸ hG48
theorem tl_X12_qSums (fuel : Nat) : (∀ ⦃i1 : Int32⦄ ⦃i2 : Int32⦄ ⦃μ μ' : sh_Mem⦄, sh_G μ → F_X12_qSums fuel 1 i1 i2 μ = some μ' → sh_V0 l B D ca 7 M_X12_qSums 15 [(0, .ref 291), (1, .int i1), (2, .int i2)] [] μ (fun v0 μ0 => v0 = none ∧ μ0 = μ')) ∧ (∀ ⦃i1 : Int32⦄ ⦃i2 : Int32⦄ ⦃μ μ' : sh_Mem⦄, sh_G μ → F_X12_qSums fuel 2 i1 i2 μ = some μ' → sh_V0 l B D ca 7 M_X12_qSums 53 [(0, .ref 291), (1, .int i1), (2, .int i2)] [] μ (fun v0 μ0 => v0 = none ∧ μ0 = μ')) := by
  induction fuel with
  | zero => exact ⟨(by intro i1 i2 μ μ' hG h; cases h), (by intro i1 i2 μ μ' hG h; cases h)⟩
  | succ fuel ih =>
    obtain ⟨ih_15, ih_53⟩ := ih
    refine ⟨?_, ?_⟩
    · intro i1 i2 μ μ' hG h
      replace h : ((if i2 = 0 then F_X12_qSums fuel 2 i1 i2 μ else (if (sh_i μ 291 5) = 0 then sh_bindv (f_X12_qPartTold μ) (fun μ39 => (if (sh_i μ39 291 5) = 0 then sh_bind (f_X12_qGoesOn μ39) (fun y45 μ43 => (if y45 = 0 then F_X12_qSums fuel 1 i1 0 μ43 else F_X12_qSums fuel 1 i1 1 μ43)) else F_X12_qSums fuel 1 i1 0 μ39)) else F_X12_qSums fuel 2 i1 i2 μ)) : Option sh_Mem) = some μ' := h
      refine vv_iload_n 15 2 dX12_qSums_15 rfl rfl ?_
      refine vv_if_eq 16 53 dX12_qSums_16 (by decide) (fun c37 => ?_) (fun c37 => ?_)
      · rw [if_pos c37] at h
        refine vv_sub [(0, _), (1, _), (2, _)] (sh_subm [0, 1, 2] rfl) ?_
        exact ih_53 hG h
      · rw [if_neg c37] at h
        refine vv_aload_n 19 0 dX12_qSums_19 rfl rfl ?_
        refine vv_getI 20 dX12_qSums_20 fl_12_253 rfl (g_l_291 hG) ?_
        refine vv_if_ne 23 53 dX12_qSums_23 (by decide) (fun c38 => ?_) (fun c38 => ?_)
        · rw [if_neg c38] at h
          refine vv_sub [(0, _), (1, _), (2, _)] (sh_subm [0, 1, 2] rfl) ?_
          exact ih_53 hG h
        · rw [if_pos c38] at h
          refine vv_aload_n 26 0 dX12_qSums_26 rfl rfl ?_
          obtain ⟨μ39, hr40, h⟩ := sh_bindv_e h
          refine v1_callV [] 27 dX12_qSums_27 ck_X12_678 (g_l_291 hG) ⟨by decide, rfl⟩ (t_X12_qPartTold hG hr40) (Nat.le_of_ble_eq_true rfl) ⟨Nat.le_of_ble_eq_true rfl, Nat.le_of_ble_eq_true rfl⟩ rfl (Nat.le_of_ble_eq_true rfl) ?_
          have hG39 := gp_X12_qPartTold hG hr40
          refine vv_aload_n 30 0 dX12_qSums_30 rfl rfl ?_
          refine vv_getI 31 dX12_qSums_31 fl_12_253 rfl (g_l_291 hG39) ?_
          refine vv_if_ne 34 48 dX12_qSums_34 (by decide) (fun c42 => ?_) (fun c42 => ?_)
          · rw [if_neg c42] at h
            refine vv_iconst 48 dX12_qSums_48 ik_0 ?_
            refine vv_istore_n (lv' := [(2, _), (0, _), (1, _)]) 49 2 dX12_qSums_49 rfl (by decide) rfl ?_
            refine vv_goto 50 15 dX12_qSums_50 (by decide) ?_
            refine vv_sub [(0, _), (1, _), (2, _)] (sh_subm [1, 2, 0] rfl) ?_
            exact ih_15 hG39 h
          · rw [if_pos c42] at h
            refine vv_aload_n 37 0 dX12_qSums_37 rfl rfl ?_
            obtain ⟨y45, μ43, hr44, h⟩ := sh_bind_e h
            refine v1_callV [] 38 dX12_qSums_38 ck_X12_681 (g_l_291 hG39) ⟨by decide, rfl⟩ (t_X12_qGoesOn hG39 hr44) (Nat.le_of_ble_eq_true rfl) ⟨Nat.le_of_ble_eq_true rfl, Nat.le_of_ble_eq_true rfl⟩ rfl (Nat.le_of_ble_eq_true rfl) ?_
            have hG43 := gp_X12_qGoesOn hG39 hr44
            refine vv_if_eq 41 48 dX12_qSums_41 (by decide) (fun c46 => ?_) (fun c46 => ?_)
            · rw [if_pos c46] at h
              refine vv_iconst 48 dX12_qSums_48 ik_0 ?_
              refine vv_istore_n (lv' := [(2, _), (0, _), (1, _)]) 49 2 dX12_qSums_49 rfl (by decide) rfl ?_
              refine vv_goto 50 15 dX12_qSums_50 (by decide) ?_
              refine vv_sub [(0, _), (1, _), (2, _)] (sh_subm [1, 2, 0] rfl) ?_
              exact ih_15 hG43 h
            · rw [if_neg c46] at h
              refine vv_iconst 44 dX12_qSums_44 ik_1 ?_
              refine vv_goto 45 49 dX12_qSums_45 (by decide) ?_
              refine vv_istore_n (lv' := [(2, _), (0, _), (1, _)]) 49 2 dX12_qSums_49 rfl (by decide) rfl ?_
              refine vv_goto 50 15 dX12_qSums_50 (by decide) ?_
              refine vv_sub [(0, _), (1, _), (2, _)] (sh_subm [1, 2, 0] rfl) ?_
              exact ih_15 hG43 h
    · intro i1 i2 μ μ' hG h
      replace h : ((if (sh_i μ 291 5) = 0 then (if (sh_i μ 291 105) ≤ (sh_i μ 291 107) then sh_let (sh_setI μ 291 107 i1) (fun μ50 => some μ50) else sh_bindv (f_X12_qDrops μ) (fun μ51 => F_X12_qSums fuel 2 i1 i2 μ51)) else sh_let (sh_setI μ 291 107 i1) (fun μ48 => some μ48)) : Option sh_Mem) = some μ' := h
      refine vv_aload_n 53 0 dX12_qSums_53 rfl rfl ?_
      refine vv_getI 54 dX12_qSums_54 fl_12_253 rfl (g_l_291 hG) ?_
      refine vv_if_ne 57 78 dX12_qSums_57 (by decide) (fun c47 => ?_) (fun c47 => ?_)
      · rw [if_neg c47] at h
        refine vv_aload_n 78 0 dX12_qSums_78 rfl rfl ?_
        refine vv_iload_n 79 1 dX12_qSums_79 rfl rfl ?_
        refine vn_putI 80 dX12_qSums_80 fl_12_353 (Or.inl rfl) rfl (g_l_291 hG) (fun μ48 eμ48 => ?_)
        rw [sh_let_eq eμ48] at h
        have hG48 : sh_G μ48 := by rw [eμ48]; exact hG
        have e2 := Option.some.inj h
        refine vv_vret 83 dX12_qSums_83 rfl (Nat.le_refl _) (Nat.le_refl _) ⟨rfl, e2⟩
      · rw [if_pos c47] at h
        refine vv_aload_n 60 0 dX12_qSums_60 rfl rfl ?_
        refine vv_getI 61 dX12_qSums_61 fl_12_347 rfl (g_l_291 hG) ?_
        refine vv_aload_n 64 0 dX12_qSums_64 rfl rfl ?_
        refine vv_getI 65 dX12_qSums_65 fl_12_353 rfl (g_l_291 hG) ?_
        refine vv_icmp_le 68 78 dX12_qSums_68 (by decide) (fun c49 => ?_) (fun c49 => ?_)
        · rw [if_pos c49] at h
          refine vv_aload_n 78 0 dX12_qSums_78 rfl rfl ?_
          refine vv_iload_n 79 1 dX12_qSums_79 rfl rfl ?_
          refine vn_putI 80 dX12_qSums_80 fl_12_353 (Or.inl rfl) rfl (g_l_291 hG) (fun μ50 eμ50 => ?_)
          rw [sh_let_eq eμ50] at h
          have hG50 : sh_G μ50 := by rw [eμ50]; exact hG
          have e2 := Option.some.inj h
          refine vv_vret 83 dX12_qSums_83 rfl (Nat.le_refl _) (Nat.le_refl _) ⟨rfl, e2⟩
        · rw [if_neg c49] at h
          refine vv_aload_n 71 0 dX12_qSums_71 rfl rfl ?_
          obtain ⟨μ51, hr52, h⟩ := sh_bindv_e h
          refine v1_callV [] 72 dX12_qSums_72 ck_X12_648 (g_l_291 hG) ⟨by decide, rfl⟩ (t_X12_qDrops hG hr52) (Nat.le_of_ble_eq_true rfl) ⟨Nat.le_of_ble_eq_true rfl, Nat.le_of_ble_eq_true rfl⟩ rfl (Nat.le_of_ble_eq_true rfl) ?_
          have hG51 := gp_X12_qDrops hG hr52
          refine vv_goto 75 53 dX12_qSums_75 (by decide) ?_
          refine vv_sub [(0, _), (1, _), (2, _)] (sh_subm [0, 1, 2] rfl) ?_
          exact ih_53 hG51 h
theorem gp_X12_qSums {μ μ' : sh_Mem} (hG : sh_G μ) (h : f_X12_qSums μ = some μ') : sh_G μ' := by
  have ih_15 := (gpl_X12_qSums sh_fuel).1
  have ih_53 := (gpl_X12_qSums sh_fuel).2
  unfold f_X12_qSums at h
  obtain ⟨x54, ex54⟩ : ∃ y : Int32, y = (sh_i μ 291 107) := ⟨_, rfl⟩
  rw [sh_let_eq ex54] at h
  obtain ⟨μ55, eμ55⟩ : ∃ y : sh_Mem, y = (sh_setI μ 291 107 (sh_i μ 291 105)) := ⟨_, rfl⟩
  rw [sh_let_eq eμ55] at h
  have hG55 : sh_G μ55 := by rw [eμ55]; exact hG
  exact ih_15 hG55 h
theorem t_X12_qSums {μ μ' : sh_Mem} (hG : sh_G μ) (h : f_X12_qSums μ = some μ') : sh_C0 l B D ca 7 M_X12_qSums [.ref 291] μ (fun v0 μ0 => v0 = none ∧ μ0 = μ') := by
  have ih_15 := (tl_X12_qSums (l := l) (B := B) (D := D) (ca := ca) sh_fuel).1
  have ih_53 := (tl_X12_qSums (l := l) (B := B) (D := D) (ca := ca) sh_fuel).2
  unfold f_X12_qSums at h
  refine vv_aload_n 0 0 dX12_qSums_0 rfl rfl ?_
  refine vv_getI 1 dX12_qSums_1 fl_12_353 rfl (g_l_291 hG) ?_
  refine vv_topi (fun x54 ex54 => ?_)
  rw [sh_let_eq ex54] at h
  refine vv_istore_n (lv' := [(1, _), (0, _)]) 4 1 dX12_qSums_4 rfl (by decide) rfl ?_
  refine vv_aload_n 5 0 dX12_qSums_5 rfl rfl ?_
  refine vv_aload_n 6 0 dX12_qSums_6 rfl rfl ?_
  refine vv_getI 7 dX12_qSums_7 fl_12_347 rfl (g_l_291 hG) ?_
  refine vn_putI 10 dX12_qSums_10 fl_12_353 (Or.inl rfl) rfl (g_l_291 hG) (fun μ55 eμ55 => ?_)
  rw [sh_let_eq eμ55] at h
  have hG55 : sh_G μ55 := by rw [eμ55]; exact hG
  refine vv_iconst 13 dX12_qSums_13 ik_1 ?_
  refine vv_istore_n (lv' := [(2, _), (1, _), (0, _)]) 14 2 dX12_qSums_14 rfl (by decide) rfl ?_
  refine vv_sub [(0, _), (1, _), (2, _)] (sh_subm [2, 1, 0] rfl) ?_
  exact ih_15 hG55 h
noncomputable def f_X12_qFact (μ : sh_Mem) : Option sh_Mem := sh_bind (f_X12_takes 350 3 μ) (fun y3 μ1 => (if y3 = 0 then sh_bindv (f_X12_qSums μ1) (fun μ5 => (if (sh_i μ5 291 5) = 0 then sh_bind (f_X12_look μ5) (fun y11 μ9 => (if y11 = 60 then sh_let (sh_setI μ9 291 2 ((sh_i μ9 291 2) + 1)) (fun μ13 => sh_bindv (f_X12_qSums μ13) (fun μ14 => (if y11 = 60 then sh_bindv (f_X12_qCode 7 μ14) (fun μ25 => some μ25) else (if y11 = 62 then sh_bindv (f_X12_qCode 8 μ14) (fun μ22 => some μ22) else sh_bindv (f_X12_qCode 9 μ14) (fun μ19 => some μ19))))) else (if y11 = 62 then sh_let (sh_setI μ9 291 2 ((sh_i μ9 291 2) + 1)) (fun μ29 => sh_bindv (f_X12_qSums μ29) (fun μ30 => (if y11 = 60 then sh_bindv (f_X12_qCode 7 μ30) (fun μ41 => some μ41) else (if y11 = 62 then sh_bindv (f_X12_qCode 8 μ30) (fun μ38 => some μ38) else sh_bindv (f_X12_qCode 9 μ30) (fun μ35 => some μ35))))) else (if y11 = 61 then sh_let (sh_setI μ9 291 2 ((sh_i μ9 291 2) + 1)) (fun μ45 => sh_bindv (f_X12_qSums μ45) (fun μ46 => (if y11 = 60 then sh_bindv (f_X12_qCode 7 μ46) (fun μ57 => some μ57) else (if y11 = 62 then sh_bindv (f_X12_qCode 8 μ46) (fun μ54 => some μ54) else sh_bindv (f_X12_qCode 9 μ46) (fun μ51 => some μ51))))) else sh_bindv (f_X12_fail 1 (sh_i μ9 291 2) μ9) (fun μ60 => some μ60))))) else some μ5)) else sh_bindv (f_X12_qCode 13 μ1) (fun μ63 => some μ63)))
theorem gp_X12_qFact {μ μ' : sh_Mem} (hG : sh_G μ) (h : f_X12_qFact μ = some μ') : sh_G μ' := by
  unfold f_X12_qFact at h
  obtain ⟨y3, μ1, hr2, h⟩ := sh_bind_e h
  have hG1 := gp_X12_takes hG (sh_LAYat_350) hr2
  by_cases c4 : y3 = 0
  · rw [if_pos c4] at h
    obtain ⟨μ5, hr6, h⟩ := sh_bindv_e h
    have hG5 := gp_X12_qSums hG1 hr6
    by_cases c8 : (sh_i μ5 291 5) = 0
    · rw [if_pos c8] at h
      obtain ⟨y11, μ9, hr10, h⟩ := sh_bind_e h
      have hG9 := gp_X12_look hG5 hr10
      by_cases c12 : y11 = 60
      · rw [if_pos c12] at h
        obtain ⟨μ13, eμ13⟩ : ∃ y : sh_Mem, y = (sh_setI μ9 291 2 ((sh_i μ9 291 2) + 1)) := ⟨_, rfl⟩
        rw [sh_let_eq eμ13] at h
        have hG13 : sh_G μ13 := by rw [eμ13]; exact hG9
        obtain ⟨μ14, hr15, h⟩ := sh_bindv_e h
        have hG14 := gp_X12_qSums hG13 hr15
        by_cases c17 : y11 = 60
        · rw [if_pos c17] at h
          obtain ⟨μ25, hr26, h⟩ := sh_bindv_e h
          have hG25 := gp_X12_qCode hG14 hr26
          have e2 := Option.some.inj h
          exact e2 ▸ hG25
        · rw [if_neg c17] at h
          by_cases c18 : y11 = 62
          · rw [if_pos c18] at h
            obtain ⟨μ22, hr23, h⟩ := sh_bindv_e h
            have hG22 := gp_X12_qCode hG14 hr23
            have e2 := Option.some.inj h
            exact e2 ▸ hG22
          · rw [if_neg c18] at h
            obtain ⟨μ19, hr20, h⟩ := sh_bindv_e h
            have hG19 := gp_X12_qCode hG14 hr20
            have e2 := Option.some.inj h
            exact e2 ▸ hG19
      · rw [if_neg c12] at h
        by_cases c28 : y11 = 62
        · rw [if_pos c28] at h
          obtain ⟨μ29, eμ29⟩ : ∃ y : sh_Mem, y = (sh_setI μ9 291 2 ((sh_i μ9 291 2) + 1)) := ⟨_, rfl⟩
          rw [sh_let_eq eμ29] at h
          have hG29 : sh_G μ29 := by rw [eμ29]; exact hG9
          obtain ⟨μ30, hr31, h⟩ := sh_bindv_e h
          have hG30 := gp_X12_qSums hG29 hr31
          by_cases c33 : y11 = 60
          · rw [if_pos c33] at h
            obtain ⟨μ41, hr42, h⟩ := sh_bindv_e h
            have hG41 := gp_X12_qCode hG30 hr42
            have e2 := Option.some.inj h
            exact e2 ▸ hG41
          · rw [if_neg c33] at h
            by_cases c34 : y11 = 62
            · rw [if_pos c34] at h
              obtain ⟨μ38, hr39, h⟩ := sh_bindv_e h
              have hG38 := gp_X12_qCode hG30 hr39
              have e2 := Option.some.inj h
              exact e2 ▸ hG38
            · rw [if_neg c34] at h
              obtain ⟨μ35, hr36, h⟩ := sh_bindv_e h
              have hG35 := gp_X12_qCode hG30 hr36
              have e2 := Option.some.inj h
              exact e2 ▸ hG35
        · rw [if_neg c28] at h
          by_cases c44 : y11 = 61
          · rw [if_pos c44] at h
            obtain ⟨μ45, eμ45⟩ : ∃ y : sh_Mem, y = (sh_setI μ9 291 2 ((sh_i μ9 291 2) + 1)) := ⟨_, rfl⟩
            rw [sh_let_eq eμ45] at h
            have hG45 : sh_G μ45 := by rw [eμ45]; exact hG9
            obtain ⟨μ46, hr47, h⟩ := sh_bindv_e h
            have hG46 := gp_X12_qSums hG45 hr47
            by_cases c49 : y11 = 60
            · rw [if_pos c49] at h
              obtain ⟨μ57, hr58, h⟩ := sh_bindv_e h
              have hG57 := gp_X12_qCode hG46 hr58
              have e2 := Option.some.inj h
              exact e2 ▸ hG57
            · rw [if_neg c49] at h
              by_cases c50 : y11 = 62
              · rw [if_pos c50] at h
                obtain ⟨μ54, hr55, h⟩ := sh_bindv_e h
                have hG54 := gp_X12_qCode hG46 hr55
                have e2 := Option.some.inj h
                exact e2 ▸ hG54
              · rw [if_neg c50] at h
                obtain ⟨μ51, hr52, h⟩ := sh_bindv_e h
                have hG51 := gp_X12_qCode hG46 hr52
                have e2 := Option.some.inj h
                exact e2 ▸ hG51
          · rw [if_neg c44] at h
            obtain ⟨μ60, hr61, h⟩ := sh_bindv_e h
            have hG60 := gp_X12_fail hG9 hr61
            have e2 := Option.some.inj h
            exact e2 ▸ hG60
    · rw [if_neg c8] at h
      have e2 := Option.some.inj h
      exact e2 ▸ hG5
  · rw [if_neg c4] at h
    obtain ⟨μ63, hr64, h⟩ := sh_bindv_e h
    have hG63 := gp_X12_qCode hG1 hr64
    have e2 := Option.some.inj h
    exact e2 ▸ hG63
theorem t_X12_qFact {μ μ' : sh_Mem} (hG : sh_G μ) (h : f_X12_qFact μ = some μ') : sh_C0 l B D ca 8 M_X12_qFact [.ref 291] μ (fun v0 μ0 => v0 = none ∧ μ0 = μ') := by
  unfold f_X12_qFact at h
  refine vv_aload_n 0 0 dX12_qFact_0 rfl rfl ?_
  refine vv_aload_n 1 0 dX12_qFact_1 rfl rfl ?_
  refine vv_getR 2 dX12_qFact_2 fl_12_194 rfl (g_l_291 hG) (g_r_291_88 hG) ?_
  obtain ⟨y3, μ1, hr2, h⟩ := sh_bind_e h
  refine v1_callV [_] 5 dX12_qFact_5 ck_X12_280 (g_l_291 hG) ⟨by decide, rfl⟩ (t_X12_takes hG (sh_LAYat_350) hr2) (Nat.le_of_ble_eq_true rfl) ⟨Nat.le_of_ble_eq_true rfl, Nat.le_of_ble_eq_true rfl⟩ rfl (Nat.le_of_ble_eq_true rfl) ?_
  have hG1 := gp_X12_takes hG (sh_LAYat_350) hr2
  refine vv_if_eq 8 18 dX12_qFact_8 (by decide) (fun c4 => ?_) (fun c4 => ?_)
  · rw [if_pos c4] at h
    refine vv_aload_n 18 0 dX12_qFact_18 rfl rfl ?_
    obtain ⟨μ5, hr6, h⟩ := sh_bindv_e h
    refine v1_callV [] 19 dX12_qFact_19 ck_X12_359 (g_l_291 hG1) ⟨by decide, rfl⟩ (t_X12_qSums hG1 hr6) (Nat.le_of_ble_eq_true rfl) ⟨Nat.le_of_ble_eq_true rfl, Nat.le_of_ble_eq_true rfl⟩ rfl (Nat.le_of_ble_eq_true rfl) ?_
    have hG5 := gp_X12_qSums hG1 hr6
    refine vv_aload_n 22 0 dX12_qFact_22 rfl rfl ?_
    refine vv_getI 23 dX12_qFact_23 fl_12_253 rfl (g_l_291 hG5) ?_
    refine vv_if_eq 26 30 dX12_qFact_26 (by decide) (fun c8 => ?_) (fun c8 => ?_)
    · rw [if_pos c8] at h
      refine vv_aload_n 30 0 dX12_qFact_30 rfl rfl ?_
      obtain ⟨y11, μ9, hr10, h⟩ := sh_bind_e h
      refine v1_callV [] 31 dX12_qFact_31 ck_X12_265 (g_l_291 hG5) ⟨by decide, rfl⟩ (t_X12_look hG5 hr10) (Nat.le_of_ble_eq_true rfl) ⟨Nat.le_of_ble_eq_true rfl, Nat.le_of_ble_eq_true rfl⟩ rfl (Nat.le_of_ble_eq_true rfl) ?_
      have hG9 := gp_X12_look hG5 hr10
      refine vv_istore_n (lv' := [(1, _), (0, _)]) 34 1 dX12_qFact_34 rfl (by decide) rfl ?_
      refine vv_iload_n 35 1 dX12_qFact_35 rfl rfl ?_
      refine vv_bipush 36 dX12_qFact_36 bk_60 ?_
      refine vv_icmp_eq 38 63 dX12_qFact_38 (by decide) (fun c12 => ?_) (fun c12 => ?_)
      · rw [if_pos c12] at h
        refine vv_aload_n 63 0 dX12_qFact_63 rfl rfl ?_
        refine vv_dup_ref 64 dX12_qFact_64 ?_
        refine vv_getI 65 dX12_qFact_65 fl_12_259 rfl (g_l_291 hG9) ?_
        refine vv_iconst 68 dX12_qFact_68 ik_1 ?_
        refine vv_iadd 69 dX12_qFact_69 ?_
        refine vn_putI 70 dX12_qFact_70 fl_12_259 (Or.inl rfl) rfl (g_l_291 hG9) (fun μ13 eμ13 => ?_)
        rw [sh_let_eq eμ13] at h
        have hG13 : sh_G μ13 := by rw [eμ13]; exact hG9
        refine vv_aload_n 73 0 dX12_qFact_73 rfl rfl ?_
        obtain ⟨μ14, hr15, h⟩ := sh_bindv_e h
        refine v1_callV [] 74 dX12_qFact_74 ck_X12_359 (g_l_291 hG13) ⟨by decide, rfl⟩ (t_X12_qSums hG13 hr15) (Nat.le_of_ble_eq_true rfl) ⟨Nat.le_of_ble_eq_true rfl, Nat.le_of_ble_eq_true rfl⟩ rfl (Nat.le_of_ble_eq_true rfl) ?_
        have hG14 := gp_X12_qSums hG13 hr15
        refine vv_aload_n 77 0 dX12_qFact_77 rfl rfl ?_
        refine vv_iload_n 78 1 dX12_qFact_78 rfl rfl ?_
        refine vv_bipush 79 dX12_qFact_79 bk_60 ?_
        refine vv_icmp_ne 81 89 dX12_qFact_81 (by decide) (fun c17 => ?_) (fun c17 => ?_)
        · rw [if_neg c17] at h
          refine vv_iload_n 89 1 dX12_qFact_89 rfl rfl ?_
          refine vv_bipush 90 dX12_qFact_90 bk_62 ?_
          refine vv_icmp_ne 92 100 dX12_qFact_92 (by decide) (fun c18 => ?_) (fun c18 => ?_)
          · rw [if_neg c18] at h
            refine vv_bipush 100 dX12_qFact_100 bk_9 ?_
            obtain ⟨μ19, hr20, h⟩ := sh_bindv_e h
            refine v1_callV [_] 102 dX12_qFact_102 ck_X12_642 (g_l_291 hG14) ⟨by decide, rfl⟩ (t_X12_qCode hG14 hr20) (Nat.le_of_ble_eq_true rfl) ⟨Nat.le_of_ble_eq_true rfl, Nat.le_of_ble_eq_true rfl⟩ rfl (Nat.le_of_ble_eq_true rfl) ?_
            have hG19 := gp_X12_qCode hG14 hr20
            have e2 := Option.some.inj h
            refine vv_vret 105 dX12_qFact_105 rfl (Nat.le_refl _) (Nat.le_refl _) ⟨rfl, e2⟩
          · rw [if_pos c18] at h
            refine vv_bipush 95 dX12_qFact_95 bk_8 ?_
            refine vv_goto 97 102 dX12_qFact_97 (by decide) ?_
            obtain ⟨μ22, hr23, h⟩ := sh_bindv_e h
            refine v1_callV [_] 102 dX12_qFact_102 ck_X12_642 (g_l_291 hG14) ⟨by decide, rfl⟩ (t_X12_qCode hG14 hr23) (Nat.le_of_ble_eq_true rfl) ⟨Nat.le_of_ble_eq_true rfl, Nat.le_of_ble_eq_true rfl⟩ rfl (Nat.le_of_ble_eq_true rfl) ?_
            have hG22 := gp_X12_qCode hG14 hr23
            have e2 := Option.some.inj h
            refine vv_vret 105 dX12_qFact_105 rfl (Nat.le_refl _) (Nat.le_refl _) ⟨rfl, e2⟩
        · rw [if_pos c17] at h
          refine vv_bipush 84 dX12_qFact_84 bk_7 ?_
          refine vv_goto 86 102 dX12_qFact_86 (by decide) ?_
          obtain ⟨μ25, hr26, h⟩ := sh_bindv_e h
          refine v1_callV [_] 102 dX12_qFact_102 ck_X12_642 (g_l_291 hG14) ⟨by decide, rfl⟩ (t_X12_qCode hG14 hr26) (Nat.le_of_ble_eq_true rfl) ⟨Nat.le_of_ble_eq_true rfl, Nat.le_of_ble_eq_true rfl⟩ rfl (Nat.le_of_ble_eq_true rfl) ?_
          have hG25 := gp_X12_qCode hG14 hr26
          have e2 := Option.some.inj h
          refine vv_vret 105 dX12_qFact_105 rfl (Nat.le_refl _) (Nat.le_refl _) ⟨rfl, e2⟩
      · rw [if_neg c12] at h
        refine vv_iload_n 41 1 dX12_qFact_41 rfl rfl ?_
        refine vv_bipush 42 dX12_qFact_42 bk_62 ?_
        refine vv_icmp_eq 44 63 dX12_qFact_44 (by decide) (fun c28 => ?_) (fun c28 => ?_)
        · rw [if_pos c28] at h
          refine vv_aload_n 63 0 dX12_qFact_63 rfl rfl ?_
          refine vv_dup_ref 64 dX12_qFact_64 ?_
          refine vv_getI 65 dX12_qFact_65 fl_12_259 rfl (g_l_291 hG9) ?_
          refine vv_iconst 68 dX12_qFact_68 ik_1 ?_
          refine vv_iadd 69 dX12_qFact_69 ?_
          refine vn_putI 70 dX12_qFact_70 fl_12_259 (Or.inl rfl) rfl (g_l_291 hG9) (fun μ29 eμ29 => ?_)
          rw [sh_let_eq eμ29] at h
          have hG29 : sh_G μ29 := by rw [eμ29]; exact hG9
          refine vv_aload_n 73 0 dX12_qFact_73 rfl rfl ?_
          obtain ⟨μ30, hr31, h⟩ := sh_bindv_e h
          refine v1_callV [] 74 dX12_qFact_74 ck_X12_359 (g_l_291 hG29) ⟨by decide, rfl⟩ (t_X12_qSums hG29 hr31) (Nat.le_of_ble_eq_true rfl) ⟨Nat.le_of_ble_eq_true rfl, Nat.le_of_ble_eq_true rfl⟩ rfl (Nat.le_of_ble_eq_true rfl) ?_
          have hG30 := gp_X12_qSums hG29 hr31
          refine vv_aload_n 77 0 dX12_qFact_77 rfl rfl ?_
          refine vv_iload_n 78 1 dX12_qFact_78 rfl rfl ?_
          refine vv_bipush 79 dX12_qFact_79 bk_60 ?_
          refine vv_icmp_ne 81 89 dX12_qFact_81 (by decide) (fun c33 => ?_) (fun c33 => ?_)
          · rw [if_neg c33] at h
            refine vv_iload_n 89 1 dX12_qFact_89 rfl rfl ?_
            refine vv_bipush 90 dX12_qFact_90 bk_62 ?_
            refine vv_icmp_ne 92 100 dX12_qFact_92 (by decide) (fun c34 => ?_) (fun c34 => ?_)
            · rw [if_neg c34] at h
              refine vv_bipush 100 dX12_qFact_100 bk_9 ?_
              obtain ⟨μ35, hr36, h⟩ := sh_bindv_e h
              refine v1_callV [_] 102 dX12_qFact_102 ck_X12_642 (g_l_291 hG30) ⟨by decide, rfl⟩ (t_X12_qCode hG30 hr36) (Nat.le_of_ble_eq_true rfl) ⟨Nat.le_of_ble_eq_true rfl, Nat.le_of_ble_eq_true rfl⟩ rfl (Nat.le_of_ble_eq_true rfl) ?_
              have hG35 := gp_X12_qCode hG30 hr36
              have e2 := Option.some.inj h
              refine vv_vret 105 dX12_qFact_105 rfl (Nat.le_refl _) (Nat.le_refl _) ⟨rfl, e2⟩
            · rw [if_pos c34] at h
              refine vv_bipush 95 dX12_qFact_95 bk_8 ?_
              refine vv_goto 97 102 dX12_qFact_97 (by decide) ?_
              obtain ⟨μ38, hr39, h⟩ := sh_bindv_e h
              refine v1_callV [_] 102 dX12_qFact_102 ck_X12_642 (g_l_291 hG30) ⟨by decide, rfl⟩ (t_X12_qCode hG30 hr39) (Nat.le_of_ble_eq_true rfl) ⟨Nat.le_of_ble_eq_true rfl, Nat.le_of_ble_eq_true rfl⟩ rfl (Nat.le_of_ble_eq_true rfl) ?_
              have hG38 := gp_X12_qCode hG30 hr39
              have e2 := Option.some.inj h
              refine vv_vret 105 dX12_qFact_105 rfl (Nat.le_refl _) (Nat.le_refl _) ⟨rfl, e2⟩
          · rw [if_pos c33] at h
            refine vv_bipush 84 dX12_qFact_84 bk_7 ?_
            refine vv_goto 86 102 dX12_qFact_86 (by decide) ?_
            obtain ⟨μ41, hr42, h⟩ := sh_bindv_e h
            refine v1_callV [_] 102 dX12_qFact_102 ck_X12_642 (g_l_291 hG30) ⟨by decide, rfl⟩ (t_X12_qCode hG30 hr42) (Nat.le_of_ble_eq_true rfl) ⟨Nat.le_of_ble_eq_true rfl, Nat.le_of_ble_eq_true rfl⟩ rfl (Nat.le_of_ble_eq_true rfl) ?_
            have hG41 := gp_X12_qCode hG30 hr42
            have e2 := Option.some.inj h
            refine vv_vret 105 dX12_qFact_105 rfl (Nat.le_refl _) (Nat.le_refl _) ⟨rfl, e2⟩
        · rw [if_neg c28] at h
          refine vv_iload_n 47 1 dX12_qFact_47 rfl rfl ?_
          refine vv_bipush 48 dX12_qFact_48 bk_61 ?_
          refine vv_icmp_eq 50 63 dX12_qFact_50 (by decide) (fun c44 => ?_) (fun c44 => ?_)
          · rw [if_pos c44] at h
            refine vv_aload_n 63 0 dX12_qFact_63 rfl rfl ?_
            refine vv_dup_ref 64 dX12_qFact_64 ?_
            refine vv_getI 65 dX12_qFact_65 fl_12_259 rfl (g_l_291 hG9) ?_
            refine vv_iconst 68 dX12_qFact_68 ik_1 ?_
            refine vv_iadd 69 dX12_qFact_69 ?_
            refine vn_putI 70 dX12_qFact_70 fl_12_259 (Or.inl rfl) rfl (g_l_291 hG9) (fun μ45 eμ45 => ?_)
            rw [sh_let_eq eμ45] at h
            have hG45 : sh_G μ45 := by rw [eμ45]; exact hG9
            refine vv_aload_n 73 0 dX12_qFact_73 rfl rfl ?_
            obtain ⟨μ46, hr47, h⟩ := sh_bindv_e h
            refine v1_callV [] 74 dX12_qFact_74 ck_X12_359 (g_l_291 hG45) ⟨by decide, rfl⟩ (t_X12_qSums hG45 hr47) (Nat.le_of_ble_eq_true rfl) ⟨Nat.le_of_ble_eq_true rfl, Nat.le_of_ble_eq_true rfl⟩ rfl (Nat.le_of_ble_eq_true rfl) ?_
            have hG46 := gp_X12_qSums hG45 hr47
            refine vv_aload_n 77 0 dX12_qFact_77 rfl rfl ?_
            refine vv_iload_n 78 1 dX12_qFact_78 rfl rfl ?_
            refine vv_bipush 79 dX12_qFact_79 bk_60 ?_
            refine vv_icmp_ne 81 89 dX12_qFact_81 (by decide) (fun c49 => ?_) (fun c49 => ?_)
            · rw [if_neg c49] at h
              refine vv_iload_n 89 1 dX12_qFact_89 rfl rfl ?_
              refine vv_bipush 90 dX12_qFact_90 bk_62 ?_
              refine vv_icmp_ne 92 100 dX12_qFact_92 (by decide) (fun c50 => ?_) (fun c50 => ?_)
              · rw [if_neg c50] at h
                refine vv_bipush 100 dX12_qFact_100 bk_9 ?_
                obtain ⟨μ51, hr52, h⟩ := sh_bindv_e h
                refine v1_callV [_] 102 dX12_qFact_102 ck_X12_642 (g_l_291 hG46) ⟨by decide, rfl⟩ (t_X12_qCode hG46 hr52) (Nat.le_of_ble_eq_true rfl) ⟨Nat.le_of_ble_eq_true rfl, Nat.le_of_ble_eq_true rfl⟩ rfl (Nat.le_of_ble_eq_true rfl) ?_
                have hG51 := gp_X12_qCode hG46 hr52
                have e2 := Option.some.inj h
                refine vv_vret 105 dX12_qFact_105 rfl (Nat.le_refl _) (Nat.le_refl _) ⟨rfl, e2⟩
              · rw [if_pos c50] at h
                refine vv_bipush 95 dX12_qFact_95 bk_8 ?_
                refine vv_goto 97 102 dX12_qFact_97 (by decide) ?_
                obtain ⟨μ54, hr55, h⟩ := sh_bindv_e h
                refine v1_callV [_] 102 dX12_qFact_102 ck_X12_642 (g_l_291 hG46) ⟨by decide, rfl⟩ (t_X12_qCode hG46 hr55) (Nat.le_of_ble_eq_true rfl) ⟨Nat.le_of_ble_eq_true rfl, Nat.le_of_ble_eq_true rfl⟩ rfl (Nat.le_of_ble_eq_true rfl) ?_
                have hG54 := gp_X12_qCode hG46 hr55
                have e2 := Option.some.inj h
                refine vv_vret 105 dX12_qFact_105 rfl (Nat.le_refl _) (Nat.le_refl _) ⟨rfl, e2⟩
            · rw [if_pos c49] at h
              refine vv_bipush 84 dX12_qFact_84 bk_7 ?_
              refine vv_goto 86 102 dX12_qFact_86 (by decide) ?_
              obtain ⟨μ57, hr58, h⟩ := sh_bindv_e h
              refine v1_callV [_] 102 dX12_qFact_102 ck_X12_642 (g_l_291 hG46) ⟨by decide, rfl⟩ (t_X12_qCode hG46 hr58) (Nat.le_of_ble_eq_true rfl) ⟨Nat.le_of_ble_eq_true rfl, Nat.le_of_ble_eq_true rfl⟩ rfl (Nat.le_of_ble_eq_true rfl) ?_
              have hG57 := gp_X12_qCode hG46 hr58
              have e2 := Option.some.inj h
              refine vv_vret 105 dX12_qFact_105 rfl (Nat.le_refl _) (Nat.le_refl _) ⟨rfl, e2⟩
          · rw [if_neg c44] at h
            refine vv_aload_n 53 0 dX12_qFact_53 rfl rfl ?_
            refine vv_iconst 54 dX12_qFact_54 ik_1 ?_
            refine vv_aload_n 55 0 dX12_qFact_55 rfl rfl ?_
            refine vv_getI 56 dX12_qFact_56 fl_12_259 rfl (g_l_291 hG9) ?_
            obtain ⟨μ60, hr61, h⟩ := sh_bindv_e h
            refine v1_callV [_, _] 59 dX12_qFact_59 ck_X12_283 (g_l_291 hG9) ⟨by decide, rfl⟩ (t_X12_fail hG9 hr61) (Nat.le_of_ble_eq_true rfl) ⟨Nat.le_of_ble_eq_true rfl, Nat.le_of_ble_eq_true rfl⟩ rfl (Nat.le_of_ble_eq_true rfl) ?_
            have hG60 := gp_X12_fail hG9 hr61
            have e2 := Option.some.inj h
            refine vv_vret 62 dX12_qFact_62 rfl (Nat.le_refl _) (Nat.le_refl _) ⟨rfl, e2⟩
    · rw [if_neg c8] at h
      have e2 := Option.some.inj h
      refine vv_vret 29 dX12_qFact_29 rfl (Nat.le_refl _) (Nat.le_refl _) ⟨rfl, e2⟩
  · rw [if_neg c4] at h
    refine vv_aload_n 11 0 dX12_qFact_11 rfl rfl ?_
    refine vv_bipush 12 dX12_qFact_12 bk_13 ?_
    obtain ⟨μ63, hr64, h⟩ := sh_bindv_e h
    refine v1_callV [_] 14 dX12_qFact_14 ck_X12_642 (g_l_291 hG1) ⟨by decide, rfl⟩ (t_X12_qCode hG1 hr64) (Nat.le_of_ble_eq_true rfl) ⟨Nat.le_of_ble_eq_true rfl, Nat.le_of_ble_eq_true rfl⟩ rfl (Nat.le_of_ble_eq_true rfl) ?_
    have hG63 := gp_X12_qCode hG1 hr64
    have e2 := Option.some.inj h
    refine vv_vret 17 dX12_qFact_17 rfl (Nat.le_refl _) (Nat.le_refl _) ⟨rfl, e2⟩
end
