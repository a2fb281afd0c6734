section
variable {l : Launch} {B : Nat} {D : va_G} {ca : Nat → ClassId} {μ : sh_Mem}
noncomputable def F_X0_isAtRest : Nat → Nat → Int32 → Int32 → sh_Mem → Option (Int32 × sh_Mem)
  | 0, _, _, _, _ => none
  | fuel + 1, lbl, i1, i2, μ => match lbl with
    | 1 => (if (sh_r μ 55 0 = some (sh_ref μ 55 0) ∧ ((sh_ref μ 55 0) = 8 ∨ (sh_ref μ 55 0) = 29)) then sh_let (sh_ref μ 55 0) (fun r9 => (if (sh_i μ r9 3) ≤ i2 then some (1, μ) else sh_let ((i1 ^^^ ((1 : Int32) <<< (i2 &&& 31))) : Int32) (fun x11 => (if sh_in ((x11 * 7) + i2) 896 then (if sh_in ((i1 * 7) + i2) 896 then (if (sh_i μ 217 (((x11 * 7) + i2)).toNatClampNeg) ≤ (sh_i μ 217 (((i1 * 7) + i2)).toNatClampNeg) then F_X0_isAtRest fuel 1 i1 (i2 + 1) μ else some (0, μ)) else none) else none)))) else none)
    | _ => none
noncomputable def f_X0_isAtRest (a1 : Int32) (μ : sh_Mem) : Option (Int32 × sh_Mem) := F_X0_isAtRest sh_fuel 1 a1 0 μ
theorem gpl_X0_isAtRest (fuel : Nat) : (∀ ⦃i1 : Int32⦄ ⦃i2 : Int32⦄ ⦃μ μ' : sh_Mem⦄ ⦃v : Int32⦄, sh_G μ → F_X0_isAtRest fuel 1 i1 i2 μ = some (v, μ') → sh_G μ') := by
  induction fuel with
  | zero => intro i1 i2 μ μ' v hG h; cases h
  | succ fuel ih =>
    have ih_2 := ih
    intro i1 i2 μ μ' v hG h
    replace h : ((if (sh_r μ 55 0 = some (sh_ref μ 55 0) ∧ ((sh_ref μ 55 0) = 8 ∨ (sh_ref μ 55 0) = 29)) then sh_let (sh_ref μ 55 0) (fun r9 => (if (sh_i μ r9 3) ≤ i2 then some (1, μ) else sh_let ((i1 ^^^ ((1 : Int32) <<< (i2 &&& 31))) : Int32) (fun x11 => (if sh_in ((x11 * 7) + i2) 896 then (if sh_in ((i1 * 7) + i2) 896 then (if (sh_i μ 217 (((x11 * 7) + i2)).toNatClampNeg) ≤ (sh_i μ 217 (((i1 * 7) + i2)).toNatClampNeg) then F_X0_isAtRest fuel 1 i1 (i2 + 1) μ else some (0, μ)) else none) else none)))) else none) : Option (Int32 × sh_Mem)) = some (v, μ') := h
    obtain ⟨k8, h⟩ := sh_chk h
    obtain ⟨r9, er9⟩ : ∃ y : Nat, y = (sh_ref μ 55 0) := ⟨_, rfl⟩
    rw [sh_let_eq er9] at h
    have k8r : sh_r μ 55 0 = some r9 ∧ (r9 = 8 ∨ r9 = 29) := by rw [er9]; exact k8
    by_cases c10 : (sh_i μ r9 3) ≤ i2
    · rw [if_pos c10] at h
      obtain ⟨e1, e2⟩ := sh_some2 h
      exact e2 ▸ hG
    · rw [if_neg c10] at h
      obtain ⟨x11, ex11⟩ : ∃ y : Int32, y = (i1 ^^^ ((1 : Int32) <<< (i2 &&& 31))) := ⟨_, rfl⟩
      rw [sh_let_eq ex11] at h
      obtain ⟨k12, h⟩ := sh_chk h
      obtain ⟨k13, h⟩ := sh_chk h
      by_cases c14 : (sh_i μ 217 (((x11 * 7) + i2)).toNatClampNeg) ≤ (sh_i μ 217 (((i1 * 7) + i2)).toNatClampNeg)
      · rw [if_pos c14] at h
        exact ih_2 hG h
      · rw [if_neg c14] at h
        obtain ⟨e1, e2⟩ := sh_some2 h
        exact e2 ▸ hG
theorem tl_X0_isAtRest (fuel : Nat) : (∀ ⦃i1 : Int32⦄ ⦃i2 : Int32⦄ ⦃μ μ' : sh_Mem⦄ ⦃v : Int32⦄, sh_G μ → F_X0_isAtRest fuel 1 i1 i2 μ = some (v, μ') → sh_V0 l B D ca 1 M_X0_isAtRest 2 [(0, .ref 208), (1, .int i1), (2, .int i2)] [] μ (fun v0 μ0 => v0 = some (.int v) ∧ μ0 = μ')) := by
  induction fuel with
  | zero => intro i1 i2 μ μ' v hG h; cases h
  | succ fuel ih =>
    have ih_2 := ih
    intro i1 i2 μ μ' v hG h
    replace h : ((if (sh_r μ 55 0 = some (sh_ref μ 55 0) ∧ ((sh_ref μ 55 0) = 8 ∨ (sh_ref μ 55 0) = 29)) then sh_let (sh_ref μ 55 0) (fun r9 => (if (sh_i μ r9 3) ≤ i2 then some (1, μ) else sh_let ((i1 ^^^ ((1 : Int32) <<< (i2 &&& 31))) : Int32) (fun x11 => (if sh_in ((x11 * 7) + i2) 896 then (if sh_in ((i1 * 7) + i2) 896 then (if (sh_i μ 217 (((x11 * 7) + i2)).toNatClampNeg) ≤ (sh_i μ 217 (((i1 * 7) + i2)).toNatClampNeg) then F_X0_isAtRest fuel 1 i1 (i2 + 1) μ else some (0, μ)) else none) else none)))) else none) : Option (Int32 × sh_Mem)) = some (v, μ') := h
    refine vv_iload_n 2 2 dX0_isAtRest_2 rfl rfl ?_
    refine vv_aload_n 3 0 dX0_isAtRest_3 rfl rfl ?_
    refine vv_getR 4 dX0_isAtRest_4 fl_0_29 rfl (g_l_208 hG) (g_r_208_0 hG) ?_
    obtain ⟨k8, h⟩ := sh_chk h
    refine vv_getR 7 dX0_isAtRest_7 fl_0_50 rfl (g_l_55 hG) k8.1 ?_
    refine vv_topr (fun r9 er9 => ?_)
    rw [sh_let_eq er9] at h
    have k8r : sh_r μ 55 0 = some r9 ∧ (r9 = 8 ∨ r9 = 29) := by rw [er9]; exact k8
    refine vv_getI 10 dX0_isAtRest_10 fl_0_54 rfl (gP_l hG k8r.2) ?_
    refine vv_icmp_ge 13 55 dX0_isAtRest_13 (by decide) (fun c10 => ?_) (fun c10 => ?_)
    · rw [if_pos c10] at h
      refine vv_iconst 55 dX0_isAtRest_55 ik_1 ?_
      obtain ⟨e1, e2⟩ := sh_some2 h
      refine vv_zret 56 dX0_isAtRest_56 rfl rfl (Nat.le_refl _) (Nat.le_refl _) ⟨by rw [e1], e2⟩
    · rw [if_neg c10] at h
      refine vv_iload_n 16 1 dX0_isAtRest_16 rfl rfl ?_
      refine vv_iconst 17 dX0_isAtRest_17 ik_1 ?_
      refine vv_iload_n 18 2 dX0_isAtRest_18 rfl rfl ?_
      refine vv_ishl 19 dX0_isAtRest_19 ?_
      refine vv_ixor 20 dX0_isAtRest_20 ?_
      refine vv_topi (fun x11 ex11 => ?_)
      rw [sh_let_eq ex11] at h
      refine vv_istore_n (lv' := [(3, _), (0, _), (1, _), (2, _)]) 21 3 dX0_isAtRest_21 rfl (by decide) rfl ?_
      refine vv_aload_n 22 0 dX0_isAtRest_22 rfl rfl ?_
      refine vv_getR 23 dX0_isAtRest_23 fl_0_26 rfl (g_l_208 hG) (g_r_208_5 hG) ?_
      refine vv_iload_n 26 3 dX0_isAtRest_26 rfl rfl ?_
      refine vv_bipush 27 dX0_isAtRest_27 bk_7 ?_
      refine vv_imul 29 dX0_isAtRest_29 ?_
      refine vv_iload_n 30 2 dX0_isAtRest_30 rfl rfl ?_
      refine vv_iadd 31 dX0_isAtRest_31 ?_
      obtain ⟨k12, h⟩ := sh_chk h
      refine vv_iald 32 dX0_isAtRest_32 (g_l_217 hG) k12 ?_
      refine vv_aload_n 33 0 dX0_isAtRest_33 rfl rfl ?_
      refine vv_getR 34 dX0_isAtRest_34 fl_0_26 rfl (g_l_208 hG) (g_r_208_5 hG) ?_
      refine vv_iload_n 37 1 dX0_isAtRest_37 rfl rfl ?_
      refine vv_bipush 38 dX0_isAtRest_38 bk_7 ?_
      refine vv_imul 40 dX0_isAtRest_40 ?_
      refine vv_iload_n 41 2 dX0_isAtRest_41 rfl rfl ?_
      refine vv_iadd 42 dX0_isAtRest_42 ?_
      obtain ⟨k13, h⟩ := sh_chk h
      refine vv_iald 43 dX0_isAtRest_43 (g_l_217 hG) k13 ?_
      refine vv_icmp_le 44 49 dX0_isAtRest_44 (by decide) (fun c14 => ?_) (fun c14 => ?_)
      · rw [if_pos c14] at h
        refine vv_iincc (lv' := [(2, _), (3, _), (0, _), (1, _)]) 49 2 dX0_isAtRest_49 rfl ik_1 (by decide) rfl ?_
        refine vv_goto 52 2 dX0_isAtRest_52 (by decide) ?_
        refine vv_sub [(0, _), (1, _), (2, _)] (sh_subm [2, 3, 0] rfl) ?_
        exact ih_2 hG h
      · rw [if_neg c14] at h
        refine vv_iconst 47 dX0_isAtRest_47 ik_0 ?_
        obtain ⟨e1, e2⟩ := sh_some2 h
        refine vv_zret 48 dX0_isAtRest_48 rfl rfl (Nat.le_refl _) (Nat.le_refl _) ⟨by rw [e1], e2⟩
theorem gp_X0_isAtRest {a1 : Int32} {μ μ' : sh_Mem} {v : Int32} (hG : sh_G μ) (h : f_X0_isAtRest a1 μ = some (v, μ')) : sh_G μ' := by
  have ih_2 := (gpl_X0_isAtRest sh_fuel)
  unfold f_X0_isAtRest at h
  exact ih_2 hG h
theorem t_X0_isAtRest {a1 : Int32} {μ μ' : sh_Mem} {v : Int32} (hG : sh_G μ) (h : f_X0_isAtRest a1 μ = some (v, μ')) : sh_C0 l B D ca 1 M_X0_isAtRest [.ref 208, .int a1] μ (fun v0 μ0 => v0 = some (.int v) ∧ μ0 = μ') := by
  have ih_2 := (tl_X0_isAtRest (l := l) (B := B) (D := D) (ca := ca) sh_fuel)
  unfold f_X0_isAtRest at h
  refine vv_iconst 0 dX0_isAtRest_0 ik_0 ?_
  refine vv_istore_n (lv' := [(2, _), (0, _), (1, _)]) 1 2 dX0_isAtRest_1 rfl (by decide) rfl ?_
  refine vv_sub [(0, _), (1, _), (2, _)] (sh_subm [1, 2, 0] rfl) ?_
  exact ih_2 hG h
noncomputable def F_X0_mostLeft : Nat → Nat → Int32 → Int32 → Int32 → Int32 → Int32 → Int32 → sh_Mem → Option (Int32 × sh_Mem)
  | 0, _, _, _, _, _, _, _, _ => none
  | fuel + 1, lbl, i1, i2, i3, i4, i5, i6, μ => match lbl with
    | 1 => (if (sh_r μ 55 0 = some (sh_ref μ 55 0) ∧ ((sh_ref μ 55 0) = 8 ∨ (sh_ref μ 55 0) = 29)) then sh_let (sh_ref μ 55 0) (fun r32 => (if (sh_i μ r32 3) ≤ i4 then some (i3, μ) else F_X0_mostLeft fuel 2 i1 i2 i3 i4 0 0 μ)) else none)
    | 2 => (if (sh_r μ 55 0 = some (sh_ref μ 55 0) ∧ ((sh_ref μ 55 0) = 8 ∨ (sh_ref μ 55 0) = 29)) then sh_let (sh_ref μ 55 0) (fun r35 => (if (sh_i μ r35 3) ≤ i6 then (if i5 ≤ i3 then F_X0_mostLeft fuel 1 i1 i2 i3 (i4 + 1) 0 0 μ else F_X0_mostLeft fuel 1 i1 i2 i5 (i4 + 1) 0 0 μ) else (if ((i1 >>> (i4 &&& 31)) &&& 1) = 1 then (if ((i1 >>> (i6 &&& 31)) &&& 1) = 1 then (if sh_in i6 7 then (if sh_in i2 49 then (if sh_in i4 7 then (if sh_in i2 49 then (if (sh_i μ ((218 + 6 * i6.toNatClampNeg) + 1) i2.toNatClampNeg) = (sh_i μ ((218 + 6 * i4.toNatClampNeg) + 1) i2.toNatClampNeg) then F_X0_mostLeft fuel 2 i1 i2 i3 i4 (i5 + 1) (i6 + 1) μ else F_X0_mostLeft fuel 2 i1 i2 i3 i4 i5 (i6 + 1) μ) else none) else none) else none) else none) else F_X0_mostLeft fuel 2 i1 i2 i3 i4 i5 (i6 + 1) μ) else (if i5 ≤ i3 then F_X0_mostLeft fuel 1 i1 i2 i3 (i4 + 1) 0 0 μ else F_X0_mostLeft fuel 1 i1 i2 i5 (i4 + 1) 0 0 μ)))) else none)
    | _ => none
noncomputable def f_X0_mostLeft (a1 : Int32) (a2 : Int32) (μ : sh_Mem) : Option (Int32 × sh_Mem) := F_X0_mostLeft sh_fuel 1 a1 a2 0 0 0 0 μ
theorem gpl_X0_mostLeft (fuel : Nat) : (∀ ⦃i1 : Int32⦄ ⦃i2 : Int32⦄ ⦃i3 : Int32⦄ ⦃i4 : Int32⦄ ⦃i5 : Int32⦄ ⦃i6 : Int32⦄ ⦃μ μ' : sh_Mem⦄ ⦃v : Int32⦄, sh_G μ → F_X0_mostLeft fuel 1 i1 i2 i3 i4 i5 i6 μ = some (v, μ') → sh_G μ') ∧ (∀ ⦃i1 : Int32⦄ ⦃i2 : Int32⦄ ⦃i3 : Int32⦄ ⦃i4 : Int32⦄ ⦃i5 : Int32⦄ ⦃i6 : Int32⦄ ⦃μ μ' : sh_Mem⦄ ⦃v : Int32⦄, sh_G μ → F_X0_mostLeft fuel 2 i1 i2 i3 i4 i5 i6 μ = some (v, μ') → sh_G μ') := by
  induction fuel with
  | zero => exact ⟨(by intro i1 i2 i3 i4 i5 i6 μ μ' v hG h; cases h), (by intro i1 i2 i3 i4 i5 i6 μ μ' v hG h; cases h)⟩
  | succ fuel ih =>
    obtain ⟨ih_5, ih_26⟩ := ih
    refine ⟨?_, ?_⟩
    · intro i1 i2 i3 i4 i5 i6 μ μ' v hG h
      replace h : ((if (sh_r μ 55 0 = some (sh_ref μ 55 0) ∧ ((sh_ref μ 55 0) = 8 ∨ (sh_ref μ 55 0) = 29)) then sh_let (sh_ref μ 55 0) (fun r32 => (if (sh_i μ r32 3) ≤ i4 then some (i3, μ) else F_X0_mostLeft fuel 2 i1 i2 i3 i4 0 0 μ)) else none) : Option (Int32 × sh_Mem)) = some (v, μ') := h
      obtain ⟨k31, h⟩ := sh_chk h
      obtain ⟨r32, er32⟩ : ∃ y : Nat, y = (sh_ref μ 55 0) := ⟨_, rfl⟩
      rw [sh_let_eq er32] at h
      have k31r : sh_r μ 55 0 = some r32 ∧ (r32 = 8 ∨ r32 = 29) := by rw [er32]; exact k31
      by_cases c33 : (sh_i μ r32 3) ≤ i4
      · rw [if_pos c33] at h
        obtain ⟨e1, e2⟩ := sh_some2 h
        exact e2 ▸ hG
      · rw [if_neg c33] at h
        exact ih_26 hG h
    · intro i1 i2 i3 i4 i5 i6 μ μ' v hG h
      replace h : ((if (sh_r μ 55 0 = some (sh_ref μ 55 0) ∧ ((sh_ref μ 55 0) = 8 ∨ (sh_ref μ 55 0) = 29)) then sh_let (sh_ref μ 55 0) (fun r35 => (if (sh_i μ r35 3) ≤ i6 then (if i5 ≤ i3 then F_X0_mostLeft fuel 1 i1 i2 i3 (i4 + 1) 0 0 μ else F_X0_mostLeft fuel 1 i1 i2 i5 (i4 + 1) 0 0 μ) else (if ((i1 >>> (i4 &&& 31)) &&& 1) = 1 then (if ((i1 >>> (i6 &&& 31)) &&& 1) = 1 then (if sh_in i6 7 then (if sh_in i2 49 then (if sh_in i4 7 then (if sh_in i2 49 then (if (sh_i μ ((218 + 6 * i6.toNatClampNeg) + 1) i2.toNatClampNeg) = (sh_i μ ((218 + 6 * i4.toNatClampNeg) + 1) i2.toNatClampNeg) then F_X0_mostLeft fuel 2 i1 i2 i3 i4 (i5 + 1) (i6 + 1) μ else F_X0_mostLeft fuel 2 i1 i2 i3 i4 i5 (i6 + 1) μ) else none) else none) else none) else none) else F_X0_mostLeft fuel 2 i1 i2 i3 i4 i5 (i6 + 1) μ) else (if i5 ≤ i3 then F_X0_mostLeft fuel 1 i1 i2 i3 (i4 + 1) 0 0 μ else F_X0_mostLeft fuel 1 i1 i2 i5 (i4 + 1) 0 0 μ)))) else none) : Option (Int32 × sh_Mem)) = some (v, μ') := h
      obtain ⟨k34, h⟩ := sh_chk h
      obtain ⟨r35, er35⟩ : ∃ y : Nat, y = (sh_ref μ 55 0) := ⟨_, rfl⟩
      rw [sh_let_eq er35] at h
      have k34r : sh_r μ 55 0 = some r35 ∧ (r35 = 8 ∨ r35 = 29) := by rw [er35]; exact k34
      by_cases c36 : (sh_i μ r35 3) ≤ i6
      · rw [if_pos c36] at h
        by_cases c37 : i5 ≤ i3
        · rw [if_pos c37] at h
          exact ih_5 hG h
        · rw [if_neg c37] at h
          exact ih_5 hG h
      · rw [if_neg c36] at h
        by_cases c38 : ((i1 >>> (i4 &&& 31)) &&& 1) = 1
        · rw [if_pos c38] at h
          by_cases c40 : ((i1 >>> (i6 &&& 31)) &&& 1) = 1
          · rw [if_pos c40] at h
            obtain ⟨k41, h⟩ := sh_chk h
            obtain ⟨k42, h⟩ := sh_chk h
            obtain ⟨k43, h⟩ := sh_chk h
            obtain ⟨k44, h⟩ := sh_chk h
            by_cases c45 : (sh_i μ ((218 + 6 * i6.toNatClampNeg) + 1) i2.toNatClampNeg) = (sh_i μ ((218 + 6 * i4.toNatClampNeg) + 1) i2.toNatClampNeg)
            · rw [if_pos c45] at h
              exact ih_26 hG h
            · rw [if_neg c45] at h
              exact ih_26 hG h
          · rw [if_neg c40] at h
            exact ih_26 hG h
        · rw [if_neg c38] at h
          by_cases c39 : i5 ≤ i3
          · rw [if_pos c39] at h
            exact ih_5 hG h
          · rw [if_neg c39] at h
            exact ih_5 hG h
theorem tl_X0_mostLeft (fuel : Nat) : (∀ ⦃i1 : Int32⦄ ⦃i2 : Int32⦄ ⦃i3 : Int32⦄ ⦃i4 : Int32⦄ ⦃i5 : Int32⦄ ⦃i6 : Int32⦄ ⦃μ μ' : sh_Mem⦄ ⦃v : Int32⦄, sh_G μ → F_X0_mostLeft fuel 1 i1 i2 i3 i4 i5 i6 μ = some (v, μ') → sh_V0 l B D ca 1 M_X0_mostLeft 5 [(0, .ref 208), (1, .int i1), (2, .int i2), (3, .int i3), (4, .int i4)] [] μ (fun v0 μ0 => v0 = some (.int v) ∧ μ0 = μ')) ∧ (∀ ⦃i1 : Int32⦄ ⦃i2 : Int32⦄ ⦃i3 : Int32⦄ ⦃i4 : Int32⦄ ⦃i5 : Int32⦄ ⦃i6 : Int32⦄ ⦃μ μ' : sh_Mem⦄ ⦃v : Int32⦄, sh_G μ → F_X0_mostLeft fuel 2 i1 i2 i3 i4 i5 i6 μ = some (v, μ') → sh_V0 l B D ca 1 M_X0_mostLeft 26 [(0, .ref 208), (1, .int i1), (2, .int i2), (3, .int i3), (4, .int i4), (5, .int i5), (6, .int i6)] [] μ (fun v0 μ0 => v0 = some (.int v) ∧ μ0 = μ')) := by
  induction fuel with
  | zero => exact ⟨(by intro i1 i2 i3 i4 i5 i6 μ μ' v hG h; cases h), (by intro i1 i2 i3 i4 i5 i6 μ μ' v hG h; cases h)⟩
  | succ fuel ih =>
    obtain ⟨ih_5, ih_26⟩ := ih
    refine ⟨?_, ?_⟩
    · intro i1 i2 i3 i4 i5 i6 μ μ' v hG h
      replace h : ((if (sh_r μ 55 0 = some (sh_ref μ 55 0) ∧ ((sh_ref μ 55 0) = 8 ∨ (sh_ref μ 55 0) = 29)) then sh_let (sh_ref μ 55 0) (fun r32 => (if (sh_i μ r32 3) ≤ i4 then some (i3, μ) else F_X0_mostLeft fuel 2 i1 i2 i3 i4 0 0 μ)) else none) : Option (Int32 × sh_Mem)) = some (v, μ') := h
      refine vv_iload 5 4 dX0_mostLeft_5 rfl ?_
      refine vv_aload_n 7 0 dX0_mostLeft_7 rfl rfl ?_
      refine vv_getR 8 dX0_mostLeft_8 fl_0_29 rfl (g_l_208 hG) (g_r_208_0 hG) ?_
      obtain ⟨k31, h⟩ := sh_chk h
      refine vv_getR 11 dX0_mostLeft_11 fl_0_50 rfl (g_l_55 hG) k31.1 ?_
      refine vv_topr (fun r32 er32 => ?_)
      rw [sh_let_eq er32] at h
      have k31r : sh_r μ 55 0 = some r32 ∧ (r32 = 8 ∨ r32 = 29) := by rw [er32]; exact k31
      refine vv_getI 14 dX0_mostLeft_14 fl_0_54 rfl (gP_l hG k31r.2) ?_
      refine vv_icmp_ge 17 116 dX0_mostLeft_17 (by decide) (fun c33 => ?_) (fun c33 => ?_)
      · rw [if_pos c33] at h
        refine vv_iload_n 116 3 dX0_mostLeft_116 rfl rfl ?_
        obtain ⟨e1, e2⟩ := sh_some2 h
        refine vv_iret 117 dX0_mostLeft_117 rfl (Nat.le_refl _) (Nat.le_refl _) ⟨by rw [e1], e2⟩
      · rw [if_neg c33] at h
        refine vv_iconst 20 dX0_mostLeft_20 ik_0 ?_
        refine vv_istore (lv' := [(5, _), (0, _), (1, _), (2, _), (3, _), (4, _)]) 21 5 dX0_mostLeft_21 (by decide) rfl ?_
        refine vv_iconst 23 dX0_mostLeft_23 ik_0 ?_
        refine vv_istore (lv' := [(6, _), (5, _), (0, _), (1, _), (2, _), (3, _), (4, _)]) 24 6 dX0_mostLeft_24 (by decide) rfl ?_
        refine vv_sub [(0, _), (1, _), (2, _), (3, _), (4, _), (5, _), (6, _)] (sh_subm [2, 3, 4, 5, 6, 1, 0] rfl) ?_
        exact ih_26 hG h
    · intro i1 i2 i3 i4 i5 i6 μ μ' v hG h
      replace h : ((if (sh_r μ 55 0 = some (sh_ref μ 55 0) ∧ ((sh_ref μ 55 0) = 8 ∨ (sh_ref μ 55 0) = 29)) then sh_let (sh_ref μ 55 0) (fun r35 => (if (sh_i μ r35 3) ≤ i6 then (if i5 ≤ i3 then F_X0_mostLeft fuel 1 i1 i2 i3 (i4 + 1) 0 0 μ else F_X0_mostLeft fuel 1 i1 i2 i5 (i4 + 1) 0 0 μ) else (if ((i1 >>> (i4 &&& 31)) &&& 1) = 1 then (if ((i1 >>> (i6 &&& 31)) &&& 1) = 1 then (if sh_in i6 7 then (if sh_in i2 49 then (if sh_in i4 7 then (if sh_in i2 49 then (if (sh_i μ ((218 + 6 * i6.toNatClampNeg) + 1) i2.toNatClampNeg) = (sh_i μ ((218 + 6 * i4.toNatClampNeg) + 1) i2.toNatClampNeg) then F_X0_mostLeft fuel 2 i1 i2 i3 i4 (i5 + 1) (i6 + 1) μ else F_X0_mostLeft fuel 2 i1 i2 i3 i4 i5 (i6 + 1) μ) else none) else none) else none) else none) else F_X0_mostLeft fuel 2 i1 i2 i3 i4 i5 (i6 + 1) μ) else (if i5 ≤ i3 then F_X0_mostLeft fuel 1 i1 i2 i3 (i4 + 1) 0 0 μ else F_X0_mostLeft fuel 1 i1 i2 i5 (i4 + 1) 0 0 μ)))) else none) : Option (Int32 × sh_Mem)) = some (v, μ') := h
      refine vv_iload 26 6 dX0_mostLeft_26 rfl ?_
      refine vv_aload_n 28 0 dX0_mostLeft_28 rfl rfl ?_
      refine vv_getR 29 dX0_mostLeft_29 fl_0_29 rfl (g_l_208 hG) (g_r_208_0 hG) ?_
      obtain ⟨k34, h⟩ := sh_chk h
      refine vv_getR 32 dX0_mostLeft_32 fl_0_50 rfl (g_l_55 hG) k34.1 ?_
      refine vv_topr (fun r35 er35 => ?_)
      rw [sh_let_eq er35] at h
      have k34r : sh_r μ 55 0 = some r35 ∧ (r35 = 8 ∨ r35 = 29) := by rw [er35]; exact k34
      refine vv_getI 35 dX0_mostLeft_35 fl_0_54 rfl (gP_l hG k34r.2) ?_
      refine vv_icmp_ge 38 97 dX0_mostLeft_38 (by decide) (fun c36 => ?_) (fun c36 => ?_)
      · rw [if_pos c36] at h
        refine vv_iload 97 5 dX0_mostLeft_97 rfl ?_
        refine vv_iload_n 99 3 dX0_mostLeft_99 rfl rfl ?_
        refine vv_icmp_le 100 108 dX0_mostLeft_100 (by decide) (fun c37 => ?_) (fun c37 => ?_)
        · rw [if_pos c37] at h
          refine vv_iload_n 108 3 dX0_mostLeft_108 rfl rfl ?_
          refine vv_istore_n (lv' := [(3, _), (0, _), (1, _), (2, _), (4, _), (5, _), (6, _)]) 109 3 dX0_mostLeft_109 rfl (by decide) rfl ?_
          refine vv_iincc (lv' := [(4, _), (3, _), (0, _), (1, _), (2, _), (5, _), (6, _)]) 110 4 dX0_mostLeft_110 rfl ik_1 (by decide) rfl ?_
          refine vv_goto 113 5 dX0_mostLeft_113 (by decide) ?_
          refine vv_sub [(0, _), (1, _), (2, _), (3, _), (4, _)] (sh_subm [2, 3, 4, 1, 0] rfl) ?_
          exact ih_5 hG h
        · rw [if_neg c37] at h
          refine vv_iload 103 5 dX0_mostLeft_103 rfl ?_
          refine vv_goto 105 109 dX0_mostLeft_105 (by decide) ?_
          refine vv_istore_n (lv' := [(3, _), (0, _), (1, _), (2, _), (4, _), (5, _), (6, _)]) 109 3 dX0_mostLeft_109 rfl (by decide) rfl ?_
          refine vv_iincc (lv' := [(4, _), (3, _), (0, _), (1, _), (2, _), (5, _), (6, _)]) 110 4 dX0_mostLeft_110 rfl ik_1 (by decide) rfl ?_
          refine vv_goto 113 5 dX0_mostLeft_113 (by decide) ?_
          refine vv_sub [(0, _), (1, _), (2, _), (3, _), (4, _)] (sh_subm [2, 3, 4, 1, 0] rfl) ?_
          exact ih_5 hG h
      · rw [if_neg c36] at h
        refine vv_iload_n 41 1 dX0_mostLeft_41 rfl rfl ?_
        refine vv_iload 42 4 dX0_mostLeft_42 rfl ?_
        refine vv_ishr 44 dX0_mostLeft_44 ?_
        refine vv_iconst 45 dX0_mostLeft_45 ik_1 ?_
        refine vv_iand 46 dX0_mostLeft_46 ?_
        refine vv_iconst 47 dX0_mostLeft_47 ik_1 ?_
        refine vv_icmp_ne 48 97 dX0_mostLeft_48 (by decide) (fun c38 => ?_) (fun c38 => ?_)
        · rw [if_neg c38] at h
          refine vv_iload 97 5 dX0_mostLeft_97 rfl ?_
          refine vv_iload_n 99 3 dX0_mostLeft_99 rfl rfl ?_
          refine vv_icmp_le 100 108 dX0_mostLeft_100 (by decide) (fun c39 => ?_) (fun c39 => ?_)
          · rw [if_pos c39] at h
            refine vv_iload_n 108 3 dX0_mostLeft_108 rfl rfl ?_
            refine vv_istore_n (lv' := [(3, _), (0, _), (1, _), (2, _), (4, _), (5, _), (6, _)]) 109 3 dX0_mostLeft_109 rfl (by decide) rfl ?_
            refine vv_iincc (lv' := [(4, _), (3, _), (0, _), (1, _), (2, _), (5, _), (6, _)]) 110 4 dX0_mostLeft_110 rfl ik_1 (by decide) rfl ?_
            refine vv_goto 113 5 dX0_mostLeft_113 (by decide) ?_
            refine vv_sub [(0, _), (1, _), (2, _), (3, _), (4, _)] (sh_subm [2, 3, 4, 1, 0] rfl) ?_
            exact ih_5 hG h
          · rw [if_neg c39] at h
            refine vv_iload 103 5 dX0_mostLeft_103 rfl ?_
            refine vv_goto 105 109 dX0_mostLeft_105 (by decide) ?_
            refine vv_istore_n (lv' := [(3, _), (0, _), (1, _), (2, _), (4, _), (5, _), (6, _)]) 109 3 dX0_mostLeft_109 rfl (by decide) rfl ?_
            refine vv_iincc (lv' := [(4, _), (3, _), (0, _), (1, _), (2, _), (5, _), (6, _)]) 110 4 dX0_mostLeft_110 rfl ik_1 (by decide) rfl ?_
            refine vv_goto 113 5 dX0_mostLeft_113 (by decide) ?_
            refine vv_sub [(0, _), (1, _), (2, _), (3, _), (4, _)] (sh_subm [2, 3, 4, 1, 0] rfl) ?_
            exact ih_5 hG h
        · rw [if_pos c38] at h
          refine vv_iload_n 51 1 dX0_mostLeft_51 rfl rfl ?_
          refine vv_iload 52 6 dX0_mostLeft_52 rfl ?_
          refine vv_ishr 54 dX0_mostLeft_54 ?_
          refine vv_iconst 55 dX0_mostLeft_55 ik_1 ?_
          refine vv_iand 56 dX0_mostLeft_56 ?_
          refine vv_iconst 57 dX0_mostLeft_57 ik_1 ?_
          refine vv_icmp_ne 58 91 dX0_mostLeft_58 (by decide) (fun c40 => ?_) (fun c40 => ?_)
          · rw [if_neg c40] at h
            refine vv_iincc (lv' := [(6, _), (0, _), (1, _), (2, _), (3, _), (4, _), (5, _)]) 91 6 dX0_mostLeft_91 rfl ik_1 (by decide) rfl ?_
            refine vv_goto 94 26 dX0_mostLeft_94 (by decide) ?_
            refine vv_sub [(0, _), (1, _), (2, _), (3, _), (4, _), (5, _), (6, _)] (sh_subm [1, 2, 3, 4, 5, 6, 0] rfl) ?_
            exact ih_26 hG h
          · rw [if_pos c40] at h
            refine vv_aload_n 61 0 dX0_mostLeft_61 rfl rfl ?_
            refine vv_getR 62 dX0_mostLeft_62 fl_0_18 rfl (g_l_208 hG) (g_r_208_2 hG) ?_
            refine vv_iload 65 6 dX0_mostLeft_65 rfl ?_
            obtain ⟨k41, h⟩ := sh_chk h
            refine vv_aald 67 dX0_mostLeft_67 (g_l_215 hG) k41 (gR_215 hG k41) ?_
            refine vv_getR 68 dX0_mostLeft_68 fl_0_47 rfl (gL_l hG (gRL_215 k41)) (gL_r1 hG (gRL_215 k41)) ?_
            refine vv_iload_n 71 2 dX0_mostLeft_71 rfl rfl ?_
            obtain ⟨k42, h⟩ := sh_chk h
            refine vv_iald 72 dX0_mostLeft_72 (gA_l hG (gLA1 (gRL_215 k41))) k42 ?_
            refine vv_aload_n 73 0 dX0_mostLeft_73 rfl rfl ?_
            refine vv_getR 74 dX0_mostLeft_74 fl_0_18 rfl (g_l_208 hG) (g_r_208_2 hG) ?_
            refine vv_iload 77 4 dX0_mostLeft_77 rfl ?_
            obtain ⟨k43, h⟩ := sh_chk h
            refine vv_aald 79 dX0_mostLeft_79 (g_l_215 hG) k43 (gR_215 hG k43) ?_
            refine vv_getR 80 dX0_mostLeft_80 fl_0_47 rfl (gL_l hG (gRL_215 k43)) (gL_r1 hG (gRL_215 k43)) ?_
            refine vv_iload_n 83 2 dX0_mostLeft_83 rfl rfl ?_
            obtain ⟨k44, h⟩ := sh_chk h
            refine vv_iald 84 dX0_mostLeft_84 (gA_l hG (gLA1 (gRL_215 k43))) k44 ?_
            refine vv_icmp_ne 85 91 dX0_mostLeft_85 (by decide) (fun c45 => ?_) (fun c45 => ?_)
            · rw [if_neg c45] at h
              refine vv_iincc (lv' := [(6, _), (0, _), (1, _), (2, _), (3, _), (4, _), (5, _)]) 91 6 dX0_mostLeft_91 rfl ik_1 (by decide) rfl ?_
              refine vv_goto 94 26 dX0_mostLeft_94 (by decide) ?_
              refine vv_sub [(0, _), (1, _), (2, _), (3, _), (4, _), (5, _), (6, _)] (sh_subm [1, 2, 3, 4, 5, 6, 0] rfl) ?_
              exact ih_26 hG h
            · rw [if_pos c45] at h
              refine vv_iincc (lv' := [(5, _), (0, _), (1, _), (2, _), (3, _), (4, _), (6, _)]) 88 5 dX0_mostLeft_88 rfl ik_1 (by decide) rfl ?_
              refine vv_iincc (lv' := [(6, _), (5, _), (0, _), (1, _), (2, _), (3, _), (4, _)]) 91 6 dX0_mostLeft_91 rfl ik_1 (by decide) rfl ?_
              refine vv_goto 94 26 dX0_mostLeft_94 (by decide) ?_
              refine vv_sub [(0, _), (1, _), (2, _), (3, _), (4, _), (5, _), (6, _)] (sh_subm [2, 3, 4, 5, 6, 1, 0] rfl) ?_
              exact ih_26 hG h
theorem gp_X0_mostLeft {a1 : Int32} {a2 : Int32} {μ μ' : sh_Mem} {v : Int32} (hG : sh_G μ) (h : f_X0_mostLeft a1 a2 μ = some (v, μ')) : sh_G μ' := by
  have ih_5 := (gpl_X0_mostLeft sh_fuel).1
  have ih_26 := (gpl_X0_mostLeft sh_fuel).2
  unfold f_X0_mostLeft at h
  exact ih_5 hG h
theorem t_X0_mostLeft {a1 : Int32} {a2 : Int32} {μ μ' : sh_Mem} {v : Int32} (hG : sh_G μ) (h : f_X0_mostLeft a1 a2 μ = some (v, μ')) : sh_C0 l B D ca 1 M_X0_mostLeft [.ref 208, .int a1, .int a2] μ (fun v0 μ0 => v0 = some (.int v) ∧ μ0 = μ') := by
  have ih_5 := (tl_X0_mostLeft (l := l) (B := B) (D := D) (ca := ca) sh_fuel).1
  have ih_26 := (tl_X0_mostLeft (l := l) (B := B) (D := D) (ca := ca) sh_fuel).2
  unfold f_X0_mostLeft at h
  refine vv_iconst 0 dX0_mostLeft_0 ik_0 ?_
  refine vv_istore_n (lv' := [(3, _), (0, _), (1, _), (2, _)]) 1 3 dX0_mostLeft_1 rfl (by decide) rfl ?_
  refine vv_iconst 2 dX0_mostLeft_2 ik_0 ?_
  refine vv_istore (lv' := [(4, _), (3, _), (0, _), (1, _), (2, _)]) 3 4 dX0_mostLeft_3 (by decide) rfl ?_
  refine vv_sub [(0, _), (1, _), (2, _), (3, _), (4, _)] (sh_subm [2, 3, 4, 1, 0] rfl) ?_
  exact ih_5 hG h
noncomputable def f_X1_add (f : Nat) (a1 : Int32) (μ : sh_Mem) : Option sh_Mem := (if (Int32.ofNat 1600) ≤ (sh_i μ f 1) then some μ else (if sh_in (sh_i μ f 1) 1600 then sh_let (sh_setI μ (f + 1) ((sh_i μ f 1)).toNatClampNeg a1) (fun μ3 => sh_let (sh_setI μ3 f 1 ((sh_i μ3 f 1) + 1)) (fun μ4 => some μ4)) else none))
theorem gp_X1_add {f : Nat} {a1 : Int32} {μ μ' : sh_Mem} (hG : sh_G μ) (hf : sh_isF f) (h : f_X1_add f a1 μ = some μ') : sh_G μ' := by
  unfold f_X1_add at h
  by_cases c1 : (Int32.ofNat 1600) ≤ (sh_i μ f 1)
  · rw [if_pos c1] at h
    have e2 := Option.some.inj h
    exact e2 ▸ hG
  · rw [if_neg c1] at h
    obtain ⟨k2, h⟩ := sh_chk h
    obtain ⟨μ3, eμ3⟩ : ∃ y : sh_Mem, y = (sh_setI μ (f + 1) ((sh_i μ f 1)).toNatClampNeg a1) := ⟨_, rfl⟩
    rw [sh_let_eq eμ3] at h
    have hG3 : sh_G μ3 := by rw [eμ3]; exact hG
    obtain ⟨μ4, eμ4⟩ : ∃ y : sh_Mem, y = (sh_setI μ3 f 1 ((sh_i μ3 f 1) + 1)) := ⟨_, rfl⟩
    rw [sh_let_eq eμ4] at h
    have hG4 : sh_G μ4 := by rw [eμ4]; exact hG3
    have e2 := Option.some.inj h
    exact e2 ▸ hG4
theorem t_X1_add {f : Nat} {a1 : Int32} {μ μ' : sh_Mem} (hG : sh_G μ) (hf : sh_isF f) (h : f_X1_add f a1 μ = some μ') : sh_C0 l B D ca 1 M_X1_add [.ref f, .int a1] μ (fun v0 μ0 => v0 = none ∧ μ0 = μ') := by
  unfold f_X1_add at h
  refine vv_aload_n 0 0 dX1_add_0 rfl rfl ?_
  refine vv_getI 1 dX1_add_1 fl_1_19 rfl (gF_l hG hf) ?_
  refine vv_aload_n 4 0 dX1_add_4 rfl rfl ?_
  refine vv_getR 5 dX1_add_5 fl_1_9 rfl (gF_l hG hf) (gF_r0 hG hf) ?_
  refine vv_alen 8 dX1_add_8 (gA_l hG (gFA0 hf)) (by decide) ?_
  refine vv_icmp_ge 9 32 dX1_add_9 (by decide) (fun c1 => ?_) (fun c1 => ?_)
  · rw [if_pos c1] at h
    have e2 := Option.some.inj h
    refine vv_vret 32 dX1_add_32 rfl (Nat.le_refl _) (Nat.le_refl _) ⟨rfl, e2⟩
  · rw [if_neg c1] at h
    refine vv_aload_n 12 0 dX1_add_12 rfl rfl ?_
    refine vv_getR 13 dX1_add_13 fl_1_9 rfl (gF_l hG hf) (gF_r0 hG hf) ?_
    refine vv_aload_n 16 0 dX1_add_16 rfl rfl ?_
    refine vv_getI 17 dX1_add_17 fl_1_19 rfl (gF_l hG hf) ?_
    refine vv_iload_n 20 1 dX1_add_20 rfl rfl ?_
    obtain ⟨k2, h⟩ := sh_chk h
    refine vn_iast 21 dX1_add_21 (gA_l hG (gFA0 hf)) k2 (fun μ3 eμ3 => ?_)
    rw [sh_let_eq eμ3] at h
    have hG3 : sh_G μ3 := by rw [eμ3]; exact hG
    refine vv_aload_n 22 0 dX1_add_22 rfl rfl ?_
    refine vv_dup_ref 23 dX1_add_23 ?_
    refine vv_getI 24 dX1_add_24 fl_1_19 rfl (gF_l hG3 hf) ?_
    refine vv_iconst 27 dX1_add_27 ik_1 ?_
    refine vv_iadd 28 dX1_add_28 ?_
    refine vn_putI 29 dX1_add_29 fl_1_19 (Or.inl rfl) rfl (gF_l hG3 hf) (fun μ4 eμ4 => ?_)
    rw [sh_let_eq eμ4] at h
    have hG4 : sh_G μ4 := by rw [eμ4]; exact hG3
    have e2 := Option.some.inj h
    refine vv_vret 32 dX1_add_32 rfl (Nat.le_refl _) (Nat.le_refl _) ⟨rfl, e2⟩
noncomputable def f_X1_addWord (f : Nat) (a1 : Int32) (μ : sh_Mem) : Option sh_Mem := sh_bindv (f_X1_add f ((-1) - a1) μ) (fun μ1 => some μ1)
theorem gp_X1_addWord {f : Nat} {a1 : Int32} {μ μ' : sh_Mem} (hG : sh_G μ) (hf : sh_isF f) (h : f_X1_addWord f a1 μ = some μ') : sh_G μ' := by
  unfold f_X1_addWord at h
  obtain ⟨μ1, hr2, h⟩ := sh_bindv_e h
  have hG1 := gp_X1_add hG hf hr2
  have e2 := Option.some.inj h
  exact e2 ▸ hG1
theorem t_X1_addWord {f : Nat} {a1 : Int32} {μ μ' : sh_Mem} (hG : sh_G μ) (hf : sh_isF f) (h : f_X1_addWord f a1 μ = some μ') : sh_C0 l B D ca 2 M_X1_addWord [.ref f, .int a1] μ (fun v0 μ0 => v0 = none ∧ μ0 = μ') := by
  unfold f_X1_addWord at h
  refine vv_aload_n 0 0 dX1_addWord_0 rfl rfl ?_
  refine vv_iconst 1 dX1_addWord_1 ik_m1 ?_
  refine vv_iload_n 2 1 dX1_addWord_2 rfl rfl ?_
  refine vv_isub 3 dX1_addWord_3 ?_
  obtain ⟨μ1, hr2, h⟩ := sh_bindv_e h
  refine v1_callV [_] 4 dX1_addWord_4 ck_X1_23 (gF_l hG hf) ⟨by decide, rfl⟩ (t_X1_add hG hf hr2) (Nat.le_of_ble_eq_true rfl) ⟨Nat.le_of_ble_eq_true rfl, Nat.le_of_ble_eq_true rfl⟩ rfl (Nat.le_of_ble_eq_true rfl) ?_
  have hG1 := gp_X1_add hG hf hr2
  have e2 := Option.some.inj h
  refine vv_vret 7 dX1_addWord_7 rfl (Nat.le_refl _) (Nat.le_refl _) ⟨rfl, e2⟩
noncomputable def f_X1_addMark (f : Nat) (a1 : Int32) (μ : sh_Mem) : Option sh_Mem := sh_bindv (f_X1_add f ((-100) - a1) μ) (fun μ1 => some μ1)
theorem gp_X1_addMark {f : Nat} {a1 : Int32} {μ μ' : sh_Mem} (hG : sh_G μ) (hf : sh_isF f) (h : f_X1_addMark f a1 μ = some μ') : sh_G μ' := by
  unfold f_X1_addMark at h
  obtain ⟨μ1, hr2, h⟩ := sh_bindv_e h
  have hG1 := gp_X1_add hG hf hr2
  have e2 := Option.some.inj h
  exact e2 ▸ hG1
theorem t_X1_addMark {f : Nat} {a1 : Int32} {μ μ' : sh_Mem} (hG : sh_G μ) (hf : sh_isF f) (h : f_X1_addMark f a1 μ = some μ') : sh_C0 l B D ca 2 M_X1_addMark [.ref f, .int a1] μ (fun v0 μ0 => v0 = none ∧ μ0 = μ') := by
  unfold f_X1_addMark at h
  refine vv_aload_n 0 0 dX1_addMark_0 rfl rfl ?_
  refine vv_bipush 1 dX1_addMark_1 bk_m100 ?_
  refine vv_iload_n 3 1 dX1_addMark_3 rfl rfl ?_
  refine vv_isub 4 dX1_addMark_4 ?_
  obtain ⟨μ1, hr2, h⟩ := sh_bindv_e h
  refine v1_callV [_] 5 dX1_addMark_5 ck_X1_23 (gF_l hG hf) ⟨by decide, rfl⟩ (t_X1_add hG hf hr2) (Nat.le_of_ble_eq_true rfl) ⟨Nat.le_of_ble_eq_true rfl, Nat.le_of_ble_eq_true rfl⟩ rfl (Nat.le_of_ble_eq_true rfl) ?_
  have hG1 := gp_X1_add hG hf hr2
  have e2 := Option.some.inj h
  refine vv_vret 8 dX1_addMark_8 rfl (Nat.le_refl _) (Nat.le_refl _) ⟨rfl, e2⟩
noncomputable def F_X1_names : Nat → Nat → Nat → Int32 → Int32 → sh_Mem → Option (Int32 × sh_Mem)
  | 0, _, _, _, _, _ => none
  | fuel + 1, lbl, r0, i1, i2, μ => match lbl with
    | 1 => (if (sh_i μ r0 1) ≤ i2 then some (0, μ) else (if (Int32.ofNat 1600) ≤ i2 then some (0, μ) else (if sh_in i2 1600 then (if (sh_i μ (r0 + 1) i2.toNatClampNeg) = ((-1) - i1) then some (1, μ) else F_X1_names fuel 1 r0 i1 (i2 + 1) μ) else none)))
    | _ => none
noncomputable def f_X1_names (f : Nat) (a1 : Int32) (μ : sh_Mem) : Option (Int32 × sh_Mem) := F_X1_names sh_fuel 1 f a1 0 μ
theorem gpl_X1_names (fuel : Nat) : (∀ ⦃r0 : Nat⦄ ⦃i1 : Int32⦄ ⦃i2 : Int32⦄ ⦃μ μ' : sh_Mem⦄ ⦃v : Int32⦄, sh_G μ → sh_isF r0 → F_X1_names fuel 1 r0 i1 i2 μ = some (v, μ') → sh_G μ') := by
  induction fuel with
  | zero => intro r0 i1 i2 μ μ' v hG hr0 h; cases h
  | succ fuel ih =>
    have ih_2 := ih
    intro r0 i1 i2 μ μ' v hG hr0 h
    replace h : ((if (sh_i μ r0 1) ≤ i2 then some (0, μ) else (if (Int32.ofNat 1600) ≤ i2 then some (0, μ) else (if sh_in i2 1600 then (if (sh_i μ (r0 + 1) i2.toNatClampNeg) = ((-1) - i1) then some (1, μ) else F_X1_names fuel 1 r0 i1 (i2 + 1) μ) else none))) : Option (Int32 × sh_Mem)) = some (v, μ') := h
    by_cases c5 : (sh_i μ r0 1) ≤ i2
    · rw [if_pos c5] at h
      obtain ⟨e1, e2⟩ := sh_some2 h
      exact e2 ▸ hG
    · rw [if_neg c5] at h
      by_cases c6 : (Int32.ofNat 1600) ≤ i2
      · rw [if_pos c6] at h
        obtain ⟨e1, e2⟩ := sh_some2 h
        exact e2 ▸ hG
      · rw [if_neg c6] at h
        obtain ⟨k7, h⟩ := sh_chk h
        by_cases c8 : (sh_i μ (r0 + 1) i2.toNatClampNeg) = ((-1) - i1)
        · rw [if_pos c8] at h
          obtain ⟨e1, e2⟩ := sh_some2 h
          exact e2 ▸ hG
        · rw [if_neg c8] at h
          exact ih_2 hG hr0 h
theorem tl_X1_names (fuel : Nat) : (∀ ⦃r0 : Nat⦄ ⦃i1 : Int32⦄ ⦃i2 : Int32⦄ ⦃μ μ' : sh_Mem⦄ ⦃v : Int32⦄, sh_G μ → sh_isF r0 → F_X1_names fuel 1 r0 i1 i2 μ = some (v, μ') → sh_V0 l B D ca 1 M_X1_names 2 [(0, .ref r0), (1, .int i1), (2, .int i2)] [] μ (fun v0 μ0 => v0 = some (.int v) ∧ μ0 = μ')) := by
  induction fuel with
  | zero => intro r0 i1 i2 μ μ' v hG hr0 h; cases h
  | succ fuel ih =>
    have ih_2 := ih
    intro r0 i1 i2 μ μ' v hG hr0 h
    replace h : ((if (sh_i μ r0 1) ≤ i2 then some (0, μ) else (if (Int32.ofNat 1600) ≤ i2 then some (0, μ) else (if sh_in i2 1600 then (if (sh_i μ (r0 + 1) i2.toNatClampNeg) = ((-1) - i1) then some (1, μ) else F_X1_names fuel 1 r0 i1 (i2 + 1) μ) else none))) : Option (Int32 × sh_Mem)) = some (v, μ') := h
    refine vv_iload_n 2 2 dX1_names_2 rfl rfl ?_
    refine vv_aload_n 3 0 dX1_names_3 rfl rfl ?_
    refine vv_getI 4 dX1_names_4 fl_1_19 rfl (gF_l hG hr0) ?_
    refine vv_icmp_ge 7 39 dX1_names_7 (by decide) (fun c5 => ?_) (fun c5 => ?_)
    · rw [if_pos c5] at h
      refine vv_iconst 39 dX1_names_39 ik_0 ?_
      obtain ⟨e1, e2⟩ := sh_some2 h
      refine vv_zret 40 dX1_names_40 rfl rfl (Nat.le_refl _) (Nat.le_refl _) ⟨by rw [e1], e2⟩
    · rw [if_neg c5] at h
      refine vv_iload_n 10 2 dX1_names_10 rfl rfl ?_
      refine vv_aload_n 11 0 dX1_names_11 rfl rfl ?_
      refine vv_getR 12 dX1_names_12 fl_1_9 rfl (gF_l hG hr0) (gF_r0 hG hr0) ?_
      refine vv_alen 15 dX1_names_15 (gA_l hG (gFA0 hr0)) (by decide) ?_
      refine vv_icmp_ge 16 39 dX1_names_16 (by decide) (fun c6 => ?_) (fun c6 => ?_)
      · rw [if_pos c6] at h
        refine vv_iconst 39 dX1_names_39 ik_0 ?_
        obtain ⟨e1, e2⟩ := sh_some2 h
        refine vv_zret 40 dX1_names_40 rfl rfl (Nat.le_refl _) (Nat.le_refl _) ⟨by rw [e1], e2⟩
      · rw [if_neg c6] at h
        refine vv_aload_n 19 0 dX1_names_19 rfl rfl ?_
        refine vv_getR 20 dX1_names_20 fl_1_9 rfl (gF_l hG hr0) (gF_r0 hG hr0) ?_
        refine vv_iload_n 23 2 dX1_names_23 rfl rfl ?_
        obtain ⟨k7, h⟩ := sh_chk h
        refine vv_iald 24 dX1_names_24 (gA_l hG (gFA0 hr0)) k7 ?_
        refine vv_iconst 25 dX1_names_25 ik_m1 ?_
        refine vv_iload_n 26 1 dX1_names_26 rfl rfl ?_
        refine vv_isub 27 dX1_names_27 ?_
        refine vv_icmp_ne 28 33 dX1_names_28 (by decide) (fun c8 => ?_) (fun c8 => ?_)
        · rw [if_neg c8] at h
          refine vv_iincc (lv' := [(2, _), (0, _), (1, _)]) 33 2 dX1_names_33 rfl ik_1 (by decide) rfl ?_
          refine vv_goto 36 2 dX1_names_36 (by decide) ?_
          refine vv_sub [(0, _), (1, _), (2, _)] (sh_subm [1, 2, 0] rfl) ?_
          exact ih_2 hG hr0 h
        · rw [if_pos c8] at h
          refine vv_iconst 31 dX1_names_31 ik_1 ?_
          obtain ⟨e1, e2⟩ := sh_some2 h
          refine vv_zret 32 dX1_names_32 rfl rfl (Nat.le_refl _) (Nat.le_refl _) ⟨by rw [e1], e2⟩
theorem gp_X1_names {f : Nat} {a1 : Int32} {μ μ' : sh_Mem} {v : Int32} (hG : sh_G μ) (hf : sh_isF f) (h : f_X1_names f a1 μ = some (v, μ')) : sh_G μ' := by
  have ih_2 := (gpl_X1_names sh_fuel)
  unfold f_X1_names at h
  exact ih_2 hG hf h
theorem t_X1_names {f : Nat} {a1 : Int32} {μ μ' : sh_Mem} {v : Int32} (hG : sh_G μ) (hf : sh_isF f) (h : f_X1_names f a1 μ = some (v, μ')) : sh_C0 l B D ca 1 M_X1_names [.ref f, .int a1] μ (fun v0 μ0 => v0 = some (.int v) ∧ μ0 = μ') := by
  have ih_2 := (tl_X1_names (l := l) (B := B) (D := D) (ca := ca) sh_fuel)
  unfold f_X1_names at h
  refine vv_iconst 0 dX1_names_0 ik_0 ?_
  refine vv_istore_n (lv' := [(2, _), (0, _), (1, _)]) 1 2 dX1_names_1 rfl (by decide) rfl ?_
  refine vv_sub [(0, _), (1, _), (2, _)] (sh_subm [1, 2, 0] rfl) ?_
  exact ih_2 hG hf h
def f_X1_isFact (μ : sh_Mem) (a1 : Int32) : Int32 := (if a1 = 6 then 1 else (if a1 = 3 then 1 else (if a1 < 14 then 0 else (if 20 < a1 then 0 else 1))))
theorem c_X1_isFact (hG : sh_G μ)  {a1 : Int32} : sh_C0 l B D ca 1 M_X1_isFact [.int a1] μ (fun v μ' => v = some (.int (f_X1_isFact μ a1)) ∧ μ' = μ) := by
  refine vv_iload_n 0 0 dX1_isFact_0 rfl rfl ?_
  refine vv_bipush 1 dX1_isFact_1 bk_6 ?_
  refine vv_icmp_eq 3 23 dX1_isFact_3 (by decide) (fun h1 => ?_) (fun h1 => ?_)
  · refine vv_iconst 23 dX1_isFact_23 ik_1 ?_
    refine vv_goto 24 28 dX1_isFact_24 (by decide) ?_
    refine vv_zret 28 dX1_isFact_28 rfl rfl (Nat.le_refl _) (Nat.le_refl _) ?_
    exact ⟨by show some _ = some (Value.int (f_X1_isFact μ a1)); unfold f_X1_isFact; rw [if_pos h1], rfl⟩
  · refine vv_iload_n 6 0 dX1_isFact_6 rfl rfl ?_
    refine vv_iconst 7 dX1_isFact_7 ik_3 ?_
    refine vv_icmp_eq 8 23 dX1_isFact_8 (by decide) (fun h2 => ?_) (fun h2 => ?_)
    · refine vv_iconst 23 dX1_isFact_23 ik_1 ?_
      refine vv_goto 24 28 dX1_isFact_24 (by decide) ?_
      refine vv_zret 28 dX1_isFact_28 rfl rfl (Nat.le_refl _) (Nat.le_refl _) ?_
      exact ⟨by show some _ = some (Value.int (f_X1_isFact μ a1)); unfold f_X1_isFact; rw [if_neg h1, if_pos h2], rfl⟩
    · refine vv_iload_n 11 0 dX1_isFact_11 rfl rfl ?_
      refine vv_bipush 12 dX1_isFact_12 bk_14 ?_
      refine vv_icmp_lt 14 27 dX1_isFact_14 (by decide) (fun h3 => ?_) (fun h3 => ?_)
      · refine vv_iconst 27 dX1_isFact_27 ik_0 ?_
        refine vv_zret 28 dX1_isFact_28 rfl rfl (Nat.le_refl _) (Nat.le_refl _) ?_
        exact ⟨by show some _ = some (Value.int (f_X1_isFact μ a1)); unfold f_X1_isFact; rw [if_neg h1, if_neg h2, if_pos h3], rfl⟩
      · refine vv_iload_n 17 0 dX1_isFact_17 rfl rfl ?_
        refine vv_bipush 18 dX1_isFact_18 bk_20 ?_
        refine vv_icmp_gt 20 27 dX1_isFact_20 (by decide) (fun h4 => ?_) (fun h4 => ?_)
        · refine vv_iconst 27 dX1_isFact_27 ik_0 ?_
          refine vv_zret 28 dX1_isFact_28 rfl rfl (Nat.le_refl _) (Nat.le_refl _) ?_
          exact ⟨by show some _ = some (Value.int (f_X1_isFact μ a1)); unfold f_X1_isFact; rw [if_neg h1, if_neg h2, if_neg h3, if_pos h4], rfl⟩
        · refine vv_iconst 23 dX1_isFact_23 ik_1 ?_
          refine vv_goto 24 28 dX1_isFact_24 (by decide) ?_
          refine vv_zret 28 dX1_isFact_28 rfl rfl (Nat.le_refl _) (Nat.le_refl _) ?_
          exact ⟨by show some _ = some (Value.int (f_X1_isFact μ a1)); unfold f_X1_isFact; rw [if_neg h1, if_neg h2, if_neg h3, if_neg h4], rfl⟩
noncomputable def f_X1_ofOne (a1 : Int32) (a2 : Int64) (g : Nat) (μ : sh_Mem) : Option (Int64 × sh_Mem) := (if a1 = 23 then (if (lg_cmp a2 0) = 0 then some (1, μ) else some (0, μ)) else (if (lg_cmp a2 0) < 0 then some (0, μ) else (if (lg_cmp a2 5) < 0 then sh_let ((a2).toInt32 : Int32) (fun x4 => (if a1 = 7 then some (((((sh_i μ g (Int32.toNatClampNeg 7)) >>> (x4 &&& 31)) &&& 1)).toInt64, μ) else (if sh_in (33 + x4) 38 then some (((sh_i μ g ((33 + x4)).toNatClampNeg)).toInt64, μ) else none))) else some (0, μ))))
theorem gp_X1_ofOne {a1 : Int32} {a2 : Int64} {g : Nat} {μ μ' : sh_Mem} {v : Int64} (hG : sh_G μ) (hg : sh_LAY[g]? = some (13, 38)) (h : f_X1_ofOne a1 a2 g μ = some (v, μ')) : sh_G μ' := by
  unfold f_X1_ofOne at h
  by_cases c1 : a1 = 23
  · rw [if_pos c1] at h
    by_cases c7 : (lg_cmp a2 0) = 0
    · rw [if_pos c7] at h
      obtain ⟨e1, e2⟩ := sh_some2 h
      exact e2 ▸ hG
    · rw [if_neg c7] at h
      obtain ⟨e1, e2⟩ := sh_some2 h
      exact e2 ▸ hG
  · rw [if_neg c1] at h
    by_cases c2 : (lg_cmp a2 0) < 0
    · rw [if_pos c2] at h
      obtain ⟨e1, e2⟩ := sh_some2 h
      exact e2 ▸ hG
    · rw [if_neg c2] at h
      by_cases c3 : (lg_cmp a2 5) < 0
      · rw [if_pos c3] at h
        obtain ⟨x4, ex4⟩ : ∃ y : Int32, y = (a2).toInt32 := ⟨_, rfl⟩
        rw [sh_let_eq ex4] at h
        by_cases c5 : a1 = 7
        · rw [if_pos c5] at h
          obtain ⟨e1, e2⟩ := sh_some2 h
          exact e2 ▸ hG
        · rw [if_neg c5] at h
          obtain ⟨k6, h⟩ := sh_chk h
          obtain ⟨e1, e2⟩ := sh_some2 h
          exact e2 ▸ hG
      · rw [if_neg c3] at h
        obtain ⟨e1, e2⟩ := sh_some2 h
        exact e2 ▸ hG
theorem t_X1_ofOne {a1 : Int32} {a2 : Int64} {g : Nat} {μ μ' : sh_Mem} {v : Int64} (hG : sh_G μ) (hg : sh_LAY[g]? = some (13, 38)) (h : f_X1_ofOne a1 a2 g μ = some (v, μ')) : sh_C0 l B D ca 1 M_X1_ofOne [.int a1, .long a2, .ref g] μ (fun v0 μ0 => v0 = some (.long v) ∧ μ0 = μ') := by
  unfold f_X1_ofOne at h
  refine vv_iload_n 0 0 dX1_ofOne_0 rfl rfl ?_
  refine vv_bipush 1 dX1_ofOne_1 bk_23 ?_
  refine vv_icmp_ne 3 18 dX1_ofOne_3 (by decide) (fun c1 => ?_) (fun c1 => ?_)
  · rw [if_neg c1] at h
    refine vv_lload_n 18 1 dX1_ofOne_18 rfl rfl ?_
    refine vv_lconst 19 dX1_ofOne_19 lk_0 ?_
    refine vv_lcmp 20 dX1_ofOne_20 ?_
    refine vv_if_lt 21 32 dX1_ofOne_21 (by decide) (fun c2 => ?_) (fun c2 => ?_)
    · rw [if_pos c2] at h
      refine vv_lconst 32 dX1_ofOne_32 lk_0 ?_
      obtain ⟨e1, e2⟩ := sh_some2 h
      refine vv_lret 33 dX1_ofOne_33 rfl (Nat.le_refl _) (Nat.le_refl _) ⟨by rw [e1], e2⟩
    · rw [if_neg c2] at h
      refine vv_lload_n 24 1 dX1_ofOne_24 rfl rfl ?_
      refine vv_ldc2 25 dX1_ofOne_25 kl_1_39 ?_
      refine vv_lcmp 28 dX1_ofOne_28 ?_
      refine vv_if_lt 29 34 dX1_ofOne_29 (by decide) (fun c3 => ?_) (fun c3 => ?_)
      · rw [if_pos c3] at h
        refine vv_lload_n 34 1 dX1_ofOne_34 rfl rfl ?_
        refine vv_l2i 35 dX1_ofOne_35 ?_
        refine vv_topi (fun x4 ex4 => ?_)
        rw [sh_let_eq ex4] at h
        refine vv_istore (lv' := [(4, _), (0, _), (1, _), (3, _)]) 36 4 dX1_ofOne_36 (by decide) rfl ?_
        refine vv_iload_n 38 0 dX1_ofOne_38 rfl rfl ?_
        refine vv_bipush 39 dX1_ofOne_39 bk_7 ?_
        refine vv_icmp_ne 41 57 dX1_ofOne_41 (by decide) (fun c5 => ?_) (fun c5 => ?_)
        · rw [if_neg c5] at h
          refine vv_aload_n 57 3 dX1_ofOne_57 rfl rfl ?_
          refine vv_bipush 58 dX1_ofOne_58 bk_33 ?_
          refine vv_iload 60 4 dX1_ofOne_60 rfl ?_
          refine vv_iadd 62 dX1_ofOne_62 ?_
          obtain ⟨k6, h⟩ := sh_chk h
          refine vv_iald 63 dX1_ofOne_63 (gA_l hG hg) k6 ?_
          refine vv_i2l 64 dX1_ofOne_64 ?_
          obtain ⟨e1, e2⟩ := sh_some2 h
          refine vv_lret 65 dX1_ofOne_65 rfl (Nat.le_refl _) (Nat.le_refl _) ⟨by rw [e1], e2⟩
        · rw [if_pos c5] at h
          refine vv_aload_n 44 3 dX1_ofOne_44 rfl rfl ?_
          refine vv_bipush 45 dX1_ofOne_45 bk_7 ?_
          refine vv_iald 47 dX1_ofOne_47 (gA_l hG hg) (by unfold vp_in; decide) ?_
          refine vv_iload 48 4 dX1_ofOne_48 rfl ?_
          refine vv_ishr 50 dX1_ofOne_50 ?_
          refine vv_iconst 51 dX1_ofOne_51 ik_1 ?_
          refine vv_iand 52 dX1_ofOne_52 ?_
          refine vv_i2l 53 dX1_ofOne_53 ?_
          refine vv_goto 54 65 dX1_ofOne_54 (by decide) ?_
          obtain ⟨e1, e2⟩ := sh_some2 h
          refine vv_lret 65 dX1_ofOne_65 rfl (Nat.le_refl _) (Nat.le_refl _) ⟨by rw [e1], e2⟩
      · rw [if_neg c3] at h
        refine vv_lconst 32 dX1_ofOne_32 lk_0 ?_
        obtain ⟨e1, e2⟩ := sh_some2 h
        refine vv_lret 33 dX1_ofOne_33 rfl (Nat.le_refl _) (Nat.le_refl _) ⟨by rw [e1], e2⟩
  · rw [if_pos c1] at h
    refine vv_lload_n 6 1 dX1_ofOne_6 rfl rfl ?_
    refine vv_lconst 7 dX1_ofOne_7 lk_0 ?_
    refine vv_lcmp 8 dX1_ofOne_8 ?_
    refine vv_if_ne 9 16 dX1_ofOne_9 (by decide) (fun c7 => ?_) (fun c7 => ?_)
    · rw [if_neg c7] at h
      refine vv_lconst 16 dX1_ofOne_16 lk_0 ?_
      obtain ⟨e1, e2⟩ := sh_some2 h
      refine vv_lret 17 dX1_ofOne_17 rfl (Nat.le_refl _) (Nat.le_refl _) ⟨by rw [e1], e2⟩
    · rw [if_pos c7] at h
      refine vv_lconst 12 dX1_ofOne_12 lk_1 ?_
      refine vv_goto 13 17 dX1_ofOne_13 (by decide) ?_
      obtain ⟨e1, e2⟩ := sh_some2 h
      refine vv_lret 17 dX1_ofOne_17 rfl (Nat.le_refl _) (Nat.le_refl _) ⟨by rw [e1], e2⟩
noncomputable def f_X2_begin (f1 : Nat) (a2 : Int32) (μ : sh_Mem) : Option sh_Mem := sh_let (sh_setR μ 6 1 (some f1)) (fun μ1 => (if (sh_r μ1 6 1 = some (sh_ref μ1 6 1) ∧ (sh_ref μ1 6 1) ∈ sh_FORMS) then sh_let (sh_ref μ1 6 1) (fun r3 => sh_let (sh_setI μ1 r3 1 0) (fun μ4 => sh_let (sh_setI μ4 6 2 a2) (fun μ5 => some μ5))) else none))
theorem gp_X2_begin {f1 : Nat} {a2 : Int32} {μ μ' : sh_Mem} (hG : sh_G μ) (hf1 : sh_isF f1) (h : f_X2_begin f1 a2 μ = some μ') : sh_G μ' := by
  unfold f_X2_begin at h
  obtain ⟨μ1, eμ1⟩ : ∃ y : sh_Mem, y = (sh_setR μ 6 1 (some f1)) := ⟨_, rfl⟩
  rw [sh_let_eq eμ1] at h
  have hG1 : sh_G μ1 := by rw [eμ1]; exact hG.setR (by decide +kernel)
  obtain ⟨k2, h⟩ := sh_chk h
  obtain ⟨r3, er3⟩ : ∃ y : Nat, y = (sh_ref μ1 6 1) := ⟨_, rfl⟩
  rw [sh_let_eq er3] at h
  have k2r : sh_r μ1 6 1 = some r3 ∧ r3 ∈ sh_FORMS := by rw [er3]; exact k2
  obtain ⟨μ4, eμ4⟩ : ∃ y : sh_Mem, y = (sh_setI μ1 r3 1 0) := ⟨_, rfl⟩
  rw [sh_let_eq eμ4] at h
  have hG4 : sh_G μ4 := by rw [eμ4]; exact hG1
  obtain ⟨μ5, eμ5⟩ : ∃ y : sh_Mem, y = (sh_setI μ4 6 2 a2) := ⟨_, rfl⟩
  rw [sh_let_eq eμ5] at h
  have hG5 : sh_G μ5 := by rw [eμ5]; exact hG4
  have e2 := Option.some.inj h
  exact e2 ▸ hG5
theorem t_X2_begin {f1 : Nat} {a2 : Int32} {μ μ' : sh_Mem} (hG : sh_G μ) (hf1 : sh_isF f1) (h : f_X2_begin f1 a2 μ = some μ') : sh_C0 l B D ca 1 M_X2_begin [.ref 6, .ref f1, .int a2] μ (fun v0 μ0 => v0 = none ∧ μ0 = μ') := by
  unfold f_X2_begin at h
  refine vv_aload_n 0 0 dX2_begin_0 rfl rfl ?_
  refine vv_aload_n 1 1 dX2_begin_1 rfl rfl ?_
  refine vn_putR 2 dX2_begin_2 fl_2_15 (Or.inl rfl) rfl (g_l_6 hG) (fun μ1 eμ1 => ?_)
  rw [sh_let_eq eμ1] at h
  have hG1 : sh_G μ1 := by rw [eμ1]; exact hG.setR (by decide +kernel)
  refine vv_aload_n 5 0 dX2_begin_5 rfl rfl ?_
  obtain ⟨k2, h⟩ := sh_chk h
  refine vv_getR 6 dX2_begin_6 fl_2_15 rfl (g_l_6 hG1) k2.1 ?_
  refine vv_topr (fun r3 er3 => ?_)
  rw [sh_let_eq er3] at h
  have k2r : sh_r μ1 6 1 = some r3 ∧ r3 ∈ sh_FORMS := by rw [er3]; exact k2
  refine vv_iconst 9 dX2_begin_9 ik_0 ?_
  refine vn_putI 10 dX2_begin_10 fl_2_19 (Or.inl rfl) rfl (gF_l hG1 k2r.2) (fun μ4 eμ4 => ?_)
  rw [sh_let_eq eμ4] at h
  have hG4 : sh_G μ4 := by rw [eμ4]; exact hG1
  refine vv_aload_n 13 0 dX2_begin_13 rfl rfl ?_
  refine vv_iload_n 14 2 dX2_begin_14 rfl rfl ?_
  refine vn_putI 15 dX2_begin_15 fl_2_25 (Or.inl rfl) rfl (g_l_6 hG4) (fun μ5 eμ5 => ?_)
  rw [sh_let_eq eμ5] at h
  have hG5 : sh_G μ5 := by rw [eμ5]; exact hG4
  have e2 := Option.some.inj h
  refine vv_vret 18 dX2_begin_18 rfl (Nat.le_refl _) (Nat.le_refl _) ⟨rfl, e2⟩
noncomputable def f_X2_isFactHere (a1 : Int32) (μ : sh_Mem) : Option (Int32 × sh_Mem) := (if a1 = 3 then (if (sh_i μ 6 2) = 2 then some (0, μ) else some (1, μ)) else (if a1 = 4 then some (0, μ) else (if a1 = 5 then some (0, μ) else (if a1 = 6 then some (1, μ) else (if a1 = 7 then some (0, μ) else (if a1 = 8 then some (0, μ) else (if a1 = 9 then some (0, μ) else (if a1 = 10 then some (0, μ) else (if a1 = 11 then some (0, μ) else (if a1 = 12 then some (0, μ) else (if a1 = 13 then some (0, μ) else (if a1 = 14 then some (1, μ) else (if a1 = 15 then some (1, μ) else (if a1 = 16 then some (1, μ) else (if a1 = 17 then (if (sh_i μ 6 2) = 0 then some (1, μ) else some (0, μ)) else (if a1 = 18 then (if (sh_i μ 6 2) = 2 then some (1, μ) else some (0, μ)) else (if a1 = 19 then (if (sh_i μ 6 2) = 2 then some (1, μ) else some (0, μ)) else (if a1 = 20 then (if (sh_i μ 6 2) = 2 then some (1, μ) else some (0, μ)) else some (0, μ)))))))))))))))))))
theorem gp_X2_isFactHere {a1 : Int32} {μ μ' : sh_Mem} {v : Int32} (hG : sh_G μ) (h : f_X2_isFactHere a1 μ = some (v, μ')) : sh_G μ' := by
  unfold f_X2_isFactHere at h
  by_cases c1 : a1 = 3
  · rw [if_pos c1] at h
    by_cases c2 : (sh_i μ 6 2) = 2
    · rw [if_pos c2] at h
      obtain ⟨e1, e2⟩ := sh_some2 h
      exact e2 ▸ hG
    · rw [if_neg c2] at h
      obtain ⟨e1, e2⟩ := sh_some2 h
      exact e2 ▸ hG
  rw [if_neg c1] at h
  by_cases c3 : a1 = 4
  · rw [if_pos c3] at h
    obtain ⟨e1, e2⟩ := sh_some2 h
    exact e2 ▸ hG
  rw [if_neg c3] at h
  by_cases c4 : a1 = 5
  · rw [if_pos c4] at h
    obtain ⟨e1, e2⟩ := sh_some2 h
    exact e2 ▸ hG
  rw [if_neg c4] at h
  by_cases c5 : a1 = 6
  · rw [if_pos c5] at h
    obtain ⟨e1, e2⟩ := sh_some2 h
    exact e2 ▸ hG
  rw [if_neg c5] at h
  by_cases c6 : a1 = 7
  · rw [if_pos c6] at h
    obtain ⟨e1, e2⟩ := sh_some2 h
    exact e2 ▸ hG
  rw [if_neg c6] at h
  by_cases c7 : a1 = 8
  · rw [if_pos c7] at h
    obtain ⟨e1, e2⟩ := sh_some2 h
    exact e2 ▸ hG
  rw [if_neg c7] at h
  by_cases c8 : a1 = 9
  · rw [if_pos c8] at h
    obtain ⟨e1, e2⟩ := sh_some2 h
    exact e2 ▸ hG
  rw [if_neg c8] at h
  by_cases c9 : a1 = 10
  · rw [if_pos c9] at h
    obtain ⟨e1, e2⟩ := sh_some2 h
    exact e2 ▸ hG
  rw [if_neg c9] at h
  by_cases c10 : a1 = 11
  · rw [if_pos c10] at h
    obtain ⟨e1, e2⟩ := sh_some2 h
    exact e2 ▸ hG
  rw [if_neg c10] at h
  by_cases c11 : a1 = 12
  · rw [if_pos c11] at h
    obtain ⟨e1, e2⟩ := sh_some2 h
    exact e2 ▸ hG
  rw [if_neg c11] at h
  by_cases c12 : a1 = 13
  · rw [if_pos c12] at h
    obtain ⟨e1, e2⟩ := sh_some2 h
    exact e2 ▸ hG
  rw [if_neg c12] at h
  by_cases c13 : a1 = 14
  · rw [if_pos c13] at h
    obtain ⟨e1, e2⟩ := sh_some2 h
    exact e2 ▸ hG
  rw [if_neg c13] at h
  by_cases c14 : a1 = 15
  · rw [if_pos c14] at h
    obtain ⟨e1, e2⟩ := sh_some2 h
    exact e2 ▸ hG
  rw [if_neg c14] at h
  by_cases c15 : a1 = 16
  · rw [if_pos c15] at h
    obtain ⟨e1, e2⟩ := sh_some2 h
    exact e2 ▸ hG
  rw [if_neg c15] at h
  by_cases c16 : a1 = 17
  · rw [if_pos c16] at h
    by_cases c17 : (sh_i μ 6 2) = 0
    · rw [if_pos c17] at h
      obtain ⟨e1, e2⟩ := sh_some2 h
      exact e2 ▸ hG
    · rw [if_neg c17] at h
      obtain ⟨e1, e2⟩ := sh_some2 h
      exact e2 ▸ hG
  rw [if_neg c16] at h
  by_cases c18 : a1 = 18
  · rw [if_pos c18] at h
    by_cases c19 : (sh_i μ 6 2) = 2
    · rw [if_pos c19] at h
      obtain ⟨e1, e2⟩ := sh_some2 h
      exact e2 ▸ hG
    · rw [if_neg c19] at h
      obtain ⟨e1, e2⟩ := sh_some2 h
      exact e2 ▸ hG
  rw [if_neg c18] at h
  by_cases c20 : a1 = 19
  · rw [if_pos c20] at h
    by_cases c21 : (sh_i μ 6 2) = 2
    · rw [if_pos c21] at h
      obtain ⟨e1, e2⟩ := sh_some2 h
      exact e2 ▸ hG
    · rw [if_neg c21] at h
      obtain ⟨e1, e2⟩ := sh_some2 h
      exact e2 ▸ hG
  rw [if_neg c20] at h
  by_cases c22 : a1 = 20
  · rw [if_pos c22] at h
    by_cases c23 : (sh_i μ 6 2) = 2
    · rw [if_pos c23] at h
      obtain ⟨e1, e2⟩ := sh_some2 h
      exact e2 ▸ hG
    · rw [if_neg c23] at h
      obtain ⟨e1, e2⟩ := sh_some2 h
      exact e2 ▸ hG
  rw [if_neg c22] at h
  obtain ⟨e1, e2⟩ := sh_some2 h
  exact e2 ▸ hG
theorem t_X2_isFactHere {a1 : Int32} {μ μ' : sh_Mem} {v : Int32} (hG : sh_G μ) (h : f_X2_isFactHere a1 μ = some (v, μ')) : sh_C0 l B D ca 1 M_X2_isFactHere [.ref 6, .int a1] μ (fun v0 μ0 => v0 = some (.int v) ∧ μ0 = μ') := by
  unfold f_X2_isFactHere at h
  refine vv_iload_n 0 1 dX2_isFactHere_0 rfl rfl ?_
  by_cases c1 : a1 = 3
  · rw [if_pos c1] at h
    refine vv_tabIn 1 90 dX2_isFactHere_1 (by rw [c1]; decide) (by rw [c1]; decide) (off := 89) (by rw [c1]; decide) (by decide) ?_
    refine vv_aload_n 90 0 dX2_isFactHere_90 rfl rfl ?_
    refine vv_getI 91 dX2_isFactHere_91 fl_2_25 rfl (g_l_6 hG) ?_
    refine vv_iconst 94 dX2_isFactHere_94 ik_2 ?_
    refine vv_icmp_eq 95 102 dX2_isFactHere_95 (by decide) (fun c2 => ?_) (fun c2 => ?_)
    · rw [if_pos c2] at h
      refine vv_iconst 102 dX2_isFactHere_102 ik_0 ?_
      obtain ⟨e1, e2⟩ := sh_some2 h
      refine vv_zret 103 dX2_isFactHere_103 rfl rfl (Nat.le_refl _) (Nat.le_refl _) ⟨by rw [e1], e2⟩
    · rw [if_neg c2] at h
      refine vv_iconst 98 dX2_isFactHere_98 ik_1 ?_
      refine vv_goto 99 103 dX2_isFactHere_99 (by decide) ?_
      obtain ⟨e1, e2⟩ := sh_some2 h
      refine vv_zret 103 dX2_isFactHere_103 rfl rfl (Nat.le_refl _) (Nat.le_refl _) ⟨by rw [e1], e2⟩
  rw [if_neg c1] at h
  by_cases c3 : a1 = 4
  · rw [if_pos c3] at h
    refine vv_tabIn 1 131 dX2_isFactHere_1 (by rw [c3]; decide) (by rw [c3]; decide) (off := 130) (by rw [c3]; decide) (by decide) ?_
    refine vv_iconst 131 dX2_isFactHere_131 ik_0 ?_
    obtain ⟨e1, e2⟩ := sh_some2 h
    refine vv_zret 132 dX2_isFactHere_132 rfl rfl (Nat.le_refl _) (Nat.le_refl _) ⟨by rw [e1], e2⟩
  rw [if_neg c3] at h
  by_cases c4 : a1 = 5
  · rw [if_pos c4] at h
    refine vv_tabIn 1 131 dX2_isFactHere_1 (by rw [c4]; decide) (by rw [c4]; decide) (off := 130) (by rw [c4]; decide) (by decide) ?_
    refine vv_iconst 131 dX2_isFactHere_131 ik_0 ?_
    obtain ⟨e1, e2⟩ := sh_some2 h
    refine vv_zret 132 dX2_isFactHere_132 rfl rfl (Nat.le_refl _) (Nat.le_refl _) ⟨by rw [e1], e2⟩
  rw [if_neg c4] at h
  by_cases c5 : a1 = 6
  · rw [if_pos c5] at h
    refine vv_tabIn 1 88 dX2_isFactHere_1 (by rw [c5]; decide) (by rw [c5]; decide) (off := 87) (by rw [c5]; decide) (by decide) ?_
    refine vv_iconst 88 dX2_isFactHere_88 ik_1 ?_
    obtain ⟨e1, e2⟩ := sh_some2 h
    refine vv_zret 89 dX2_isFactHere_89 rfl rfl (Nat.le_refl _) (Nat.le_refl _) ⟨by rw [e1], e2⟩
  rw [if_neg c5] at h
  by_cases c6 : a1 = 7
  · rw [if_pos c6] at h
    refine vv_tabIn 1 131 dX2_isFactHere_1 (by rw [c6]; decide) (by rw [c6]; decide) (off := 130) (by rw [c6]; decide) (by decide) ?_
    refine vv_iconst 131 dX2_isFactHere_131 ik_0 ?_
    obtain ⟨e1, e2⟩ := sh_some2 h
    refine vv_zret 132 dX2_isFactHere_132 rfl rfl (Nat.le_refl _) (Nat.le_refl _) ⟨by rw [e1], e2⟩
  rw [if_neg c6] at h
  by_cases c7 : a1 = 8
  · rw [if_pos c7] at h
    refine vv_tabIn 1 131 dX2_isFactHere_1 (by rw [c7]; decide) (by rw [c7]; decide) (off := 130) (by rw [c7]; decide) (by decide) ?_
    refine vv_iconst 131 dX2_isFactHere_131 ik_0 ?_
    obtain ⟨e1, e2⟩ := sh_some2 h
    refine vv_zret 132 dX2_isFactHere_132 rfl rfl (Nat.le_refl _) (Nat.le_refl _) ⟨by rw [e1], e2⟩
  rw [if_neg c7] at h
  by_cases c8 : a1 = 9
  · rw [if_pos c8] at h
    refine vv_tabIn 1 131 dX2_isFactHere_1 (by rw [c8]; decide) (by rw [c8]; decide) (off := 130) (by rw [c8]; decide) (by decide) ?_
    refine vv_iconst 131 dX2_isFactHere_131 ik_0 ?_
    obtain ⟨e1, e2⟩ := sh_some2 h
    refine vv_zret 132 dX2_isFactHere_132 rfl rfl (Nat.le_refl _) (Nat.le_refl _) ⟨by rw [e1], e2⟩
  rw [if_neg c8] at h
  by_cases c9 : a1 = 10
  · rw [if_pos c9] at h
    refine vv_tabIn 1 131 dX2_isFactHere_1 (by rw [c9]; decide) (by rw [c9]; decide) (off := 130) (by rw [c9]; decide) (by decide) ?_
    refine vv_iconst 131 dX2_isFactHere_131 ik_0 ?_
    obtain ⟨e1, e2⟩ := sh_some2 h
    refine vv_zret 132 dX2_isFactHere_132 rfl rfl (Nat.le_refl _) (Nat.le_refl _) ⟨by rw [e1], e2⟩
  rw [if_neg c9] at h
  by_cases c10 : a1 = 11
  · rw [if_pos c10] at h
    refine vv_tabIn 1 131 dX2_isFactHere_1 (by rw [c10]; decide) (by rw [c10]; decide) (off := 130) (by rw [c10]; decide) (by decide) ?_
    refine vv_iconst 131 dX2_isFactHere_131 ik_0 ?_
    obtain ⟨e1, e2⟩ := sh_some2 h
    refine vv_zret 132 dX2_isFactHere_132 rfl rfl (Nat.le_refl _) (Nat.le_refl _) ⟨by rw [e1], e2⟩
  rw [if_neg c10] at h
  by_cases c11 : a1 = 12
  · rw [if_pos c11] at h
    refine vv_tabIn 1 131 dX2_isFactHere_1 (by rw [c11]; decide) (by rw [c11]; decide) (off := 130) (by rw [c11]; decide) (by decide) ?_
    refine vv_iconst 131 dX2_isFactHere_131 ik_0 ?_
    obtain ⟨e1, e2⟩ := sh_some2 h
    refine vv_zret 132 dX2_isFactHere_132 rfl rfl (Nat.le_refl _) (Nat.le_refl _) ⟨by rw [e1], e2⟩
  rw [if_neg c11] at h
  by_cases c12 : a1 = 13
  · rw [if_pos c12] at h
    refine vv_tabIn 1 131 dX2_isFactHere_1 (by rw [c12]; decide) (by rw [c12]; decide) (off := 130) (by rw [c12]; decide) (by decide) ?_
    refine vv_iconst 131 dX2_isFactHere_131 ik_0 ?_
    obtain ⟨e1, e2⟩ := sh_some2 h
    refine vv_zret 132 dX2_isFactHere_132 rfl rfl (Nat.le_refl _) (Nat.le_refl _) ⟨by rw [e1], e2⟩
  rw [if_neg c12] at h
  by_cases c13 : a1 = 14
  · rw [if_pos c13] at h
    refine vv_tabIn 1 88 dX2_isFactHere_1 (by rw [c13]; decide) (by rw [c13]; decide) (off := 87) (by rw [c13]; decide) (by decide) ?_
    refine vv_iconst 88 dX2_isFactHere_88 ik_1 ?_
    obtain ⟨e1, e2⟩ := sh_some2 h
    refine vv_zret 89 dX2_isFactHere_89 rfl rfl (Nat.le_refl _) (Nat.le_refl _) ⟨by rw [e1], e2⟩
  rw [if_neg c13] at h
  by_cases c14 : a1 = 15
  · rw [if_pos c14] at h
    refine vv_tabIn 1 88 dX2_isFactHere_1 (by rw [c14]; decide) (by rw [c14]; decide) (off := 87) (by rw [c14]; decide) (by decide) ?_
    refine vv_iconst 88 dX2_isFactHere_88 ik_1 ?_
    obtain ⟨e1, e2⟩ := sh_some2 h
    refine vv_zret 89 dX2_isFactHere_89 rfl rfl (Nat.le_refl _) (Nat.le_refl _) ⟨by rw [e1], e2⟩
  rw [if_neg c14] at h
  by_cases c15 : a1 = 16
  · rw [if_pos c15] at h
    refine vv_tabIn 1 88 dX2_isFactHere_1 (by rw [c15]; decide) (by rw [c15]; decide) (off := 87) (by rw [c15]; decide) (by decide) ?_
    refine vv_iconst 88 dX2_isFactHere_88 ik_1 ?_
    obtain ⟨e1, e2⟩ := sh_some2 h
    refine vv_zret 89 dX2_isFactHere_89 rfl rfl (Nat.le_refl _) (Nat.le_refl _) ⟨by rw [e1], e2⟩
  rw [if_neg c15] at h
  by_cases c16 : a1 = 17
  · rw [if_pos c16] at h
    refine vv_tabIn 1 104 dX2_isFactHere_1 (by rw [c16]; decide) (by rw [c16]; decide) (off := 103) (by rw [c16]; decide) (by decide) ?_
    refine vv_aload_n 104 0 dX2_isFactHere_104 rfl rfl ?_
    refine vv_getI 105 dX2_isFactHere_105 fl_2_25 rfl (g_l_6 hG) ?_
    refine vv_if_ne 108 115 dX2_isFactHere_108 (by decide) (fun c17 => ?_) (fun c17 => ?_)
    · rw [if_neg c17] at h
      refine vv_iconst 115 dX2_isFactHere_115 ik_0 ?_
      obtain ⟨e1, e2⟩ := sh_some2 h
      refine vv_zret 116 dX2_isFactHere_116 rfl rfl (Nat.le_refl _) (Nat.le_refl _) ⟨by rw [e1], e2⟩
    · rw [if_pos c17] at h
      refine vv_iconst 111 dX2_isFactHere_111 ik_1 ?_
      refine vv_goto 112 116 dX2_isFactHere_112 (by decide) ?_
      obtain ⟨e1, e2⟩ := sh_some2 h
      refine vv_zret 116 dX2_isFactHere_116 rfl rfl (Nat.le_refl _) (Nat.le_refl _) ⟨by rw [e1], e2⟩
  rw [if_neg c16] at h
  by_cases c18 : a1 = 18
  · rw [if_pos c18] at h
    refine vv_tabIn 1 117 dX2_isFactHere_1 (by rw [c18]; decide) (by rw [c18]; decide) (off := 116) (by rw [c18]; decide) (by decide) ?_
    refine vv_aload_n 117 0 dX2_isFactHere_117 rfl rfl ?_
    refine vv_getI 118 dX2_isFactHere_118 fl_2_25 rfl (g_l_6 hG) ?_
    refine vv_iconst 121 dX2_isFactHere_121 ik_2 ?_
    refine vv_icmp_ne 122 129 dX2_isFactHere_122 (by decide) (fun c19 => ?_) (fun c19 => ?_)
    · rw [if_neg c19] at h
      refine vv_iconst 129 dX2_isFactHere_129 ik_0 ?_
      obtain ⟨e1, e2⟩ := sh_some2 h
      refine vv_zret 130 dX2_isFactHere_130 rfl rfl (Nat.le_refl _) (Nat.le_refl _) ⟨by rw [e1], e2⟩
    · rw [if_pos c19] at h
      refine vv_iconst 125 dX2_isFactHere_125 ik_1 ?_
      refine vv_goto 126 130 dX2_isFactHere_126 (by decide) ?_
      obtain ⟨e1, e2⟩ := sh_some2 h
      refine vv_zret 130 dX2_isFactHere_130 rfl rfl (Nat.le_refl _) (Nat.le_refl _) ⟨by rw [e1], e2⟩
  rw [if_neg c18] at h
  by_cases c20 : a1 = 19
  · rw [if_pos c20] at h
    refine vv_tabIn 1 117 dX2_isFactHere_1 (by rw [c20]; decide) (by rw [c20]; decide) (off := 116) (by rw [c20]; decide) (by decide) ?_
    refine vv_aload_n 117 0 dX2_isFactHere_117 rfl rfl ?_
    refine vv_getI 118 dX2_isFactHere_118 fl_2_25 rfl (g_l_6 hG) ?_
    refine vv_iconst 121 dX2_isFactHere_121 ik_2 ?_
    refine vv_icmp_ne 122 129 dX2_isFactHere_122 (by decide) (fun c21 => ?_) (fun c21 => ?_)
    · rw [if_neg c21] at h
      refine vv_iconst 129 dX2_isFactHere_129 ik_0 ?_
      obtain ⟨e1, e2⟩ := sh_some2 h
      refine vv_zret 130 dX2_isFactHere_130 rfl rfl (Nat.le_refl _) (Nat.le_refl _) ⟨by rw [e1], e2⟩
    · rw [if_pos c21] at h
      refine vv_iconst 125 dX2_isFactHere_125 ik_1 ?_
      refine vv_goto 126 130 dX2_isFactHere_126 (by decide) ?_
      obtain ⟨e1, e2⟩ := sh_some2 h
      refine vv_zret 130 dX2_isFactHere_130 rfl rfl (Nat.le_refl _) (Nat.le_refl _) ⟨by rw [e1], e2⟩
  rw [if_neg c20] at h
  by_cases c22 : a1 = 20
  · rw [if_pos c22] at h
    refine vv_tabIn 1 117 dX2_isFactHere_1 (by rw [c22]; decide) (by rw [c22]; decide) (off := 116) (by rw [c22]; decide) (by decide) ?_
    refine vv_aload_n 117 0 dX2_isFactHere_117 rfl rfl ?_
    refine vv_getI 118 dX2_isFactHere_118 fl_2_25 rfl (g_l_6 hG) ?_
    refine vv_iconst 121 dX2_isFactHere_121 ik_2 ?_
    refine vv_icmp_ne 122 129 dX2_isFactHere_122 (by decide) (fun c23 => ?_) (fun c23 => ?_)
    · rw [if_neg c23] at h
      refine vv_iconst 129 dX2_isFactHere_129 ik_0 ?_
      obtain ⟨e1, e2⟩ := sh_some2 h
      refine vv_zret 130 dX2_isFactHere_130 rfl rfl (Nat.le_refl _) (Nat.le_refl _) ⟨by rw [e1], e2⟩
    · rw [if_pos c23] at h
      refine vv_iconst 125 dX2_isFactHere_125 ik_1 ?_
      refine vv_goto 126 130 dX2_isFactHere_126 (by decide) ?_
      obtain ⟨e1, e2⟩ := sh_some2 h
      refine vv_zret 130 dX2_isFactHere_130 rfl rfl (Nat.le_refl _) (Nat.le_refl _) ⟨by rw [e1], e2⟩
  rw [if_neg c22] at h
  refine vv_tabOut 1 131 dX2_isFactHere_1 (sh_tout 3 20 (by intro j h1 h2; rcases (show j = 3 ∨ j = 4 ∨ j = 5 ∨ j = 6 ∨ j = 7 ∨ j = 8 ∨ j = 9 ∨ j = 10 ∨ j = 11 ∨ j = 12 ∨ j = 13 ∨ j = 14 ∨ j = 15 ∨ j = 16 ∨ j = 17 ∨ j = 18 ∨ j = 19 ∨ j = 20 by omega) with rfl | rfl | rfl | rfl | rfl | rfl | rfl | rfl | rfl | rfl | rfl | rfl | rfl | rfl | rfl | rfl | rfl | rfl <;> first | exact sh_lne c1 (by decide) | exact sh_lne c3 (by decide) | exact sh_lne c4 (by decide) | exact sh_lne c5 (by decide) | exact sh_lne c6 (by decide) | exact sh_lne c7 (by decide) | exact sh_lne c8 (by decide) | exact sh_lne c9 (by decide) | exact sh_lne c10 (by decide) | exact sh_lne c11 (by decide) | exact sh_lne c12 (by decide) | exact sh_lne c13 (by decide) | exact sh_lne c14 (by decide) | exact sh_lne c15 (by decide) | exact sh_lne c16 (by decide) | exact sh_lne c18 (by decide) | exact sh_lne c20 (by decide) | exact sh_lne c22 (by decide))) (by decide) ?_
  refine vv_iconst 131 dX2_isFactHere_131 ik_0 ?_
  obtain ⟨e1, e2⟩ := sh_some2 h
  refine vv_zret 132 dX2_isFactHere_132 rfl rfl (Nat.le_refl _) (Nat.le_refl _) ⟨by rw [e1], e2⟩
noncomputable def f_X3_copyFrom (r : Nat) (q1 : Nat) (μ : sh_Mem) : Option sh_Mem := sh_let (sh_setI μ r 0 (sh_i μ q1 0)) (fun μ1 => sh_let (sh_rowI μ1 (r + 1) (va_cpy (sh_i μ1 (q1 + 1)) (sh_i μ1 (r + 1)) (Int32.toNatClampNeg 0) (Int32.toNatClampNeg 0) (Int32.toNatClampNeg 49))) (fun μ2 => sh_let (sh_rowI μ2 (r + 2) (va_cpy (sh_i μ2 (q1 + 2)) (sh_i μ2 (r + 2)) (Int32.toNatClampNeg 0) (Int32.toNatClampNeg 0) (Int32.toNatClampNeg 7))) (fun μ3 => sh_let (sh_rowI μ3 (r + 3) (va_cpy (sh_i μ3 (q1 + 3)) (sh_i μ3 (r + 3)) (Int32.toNatClampNeg 0) (Int32.toNatClampNeg 0) (Int32.toNatClampNeg 7))) (fun μ4 => sh_let (sh_rowI μ4 (r + 4) (va_cpy (sh_i μ4 (q1 + 4)) (sh_i μ4 (r + 4)) (Int32.toNatClampNeg 0) (Int32.toNatClampNeg 0) (Int32.toNatClampNeg 7))) (fun μ5 => sh_let (sh_rowI μ5 (r + 5) (va_cpy (sh_i μ5 (q1 + 5)) (sh_i μ5 (r + 5)) (Int32.toNatClampNeg 0) (Int32.toNatClampNeg 0) (Int32.toNatClampNeg 7))) (fun μ6 => some μ6))))))
theorem gp_X3_copyFrom {r : Nat} {q1 : Nat} {μ μ' : sh_Mem} (hG : sh_G μ) (hr : sh_isL r) (hq1 : sh_isL q1) (h : f_X3_copyFrom r q1 μ = some μ') : sh_G μ' := by
  unfold f_X3_copyFrom at h
  obtain ⟨μ1, eμ1⟩ : ∃ y : sh_Mem, y = (sh_setI μ r 0 (sh_i μ q1 0)) := ⟨_, rfl⟩
  rw [sh_let_eq eμ1] at h
  have hG1 : sh_G μ1 := by rw [eμ1]; exact hG
  obtain ⟨μ2, eμ2⟩ : ∃ y : sh_Mem, y = (sh_rowI μ1 (r + 1) (va_cpy (sh_i μ1 (q1 + 1)) (sh_i μ1 (r + 1)) (Int32.toNatClampNeg 0) (Int32.toNatClampNeg 0) (Int32.toNatClampNeg 49))) := ⟨_, rfl⟩
  rw [sh_let_eq eμ2] at h
  have hG2 : sh_G μ2 := by rw [eμ2]; exact hG1
  obtain ⟨μ3, eμ3⟩ : ∃ y : sh_Mem, y = (sh_rowI μ2 (r + 2) (va_cpy (sh_i μ2 (q1 + 2)) (sh_i μ2 (r + 2)) (Int32.toNatClampNeg 0) (Int32.toNatClampNeg 0) (Int32.toNatClampNeg 7))) := ⟨_, rfl⟩
  rw [sh_let_eq eμ3] at h
  have hG3 : sh_G μ3 := by rw [eμ3]; exact hG2
  obtain ⟨μ4, eμ4⟩ : ∃ y : sh_Mem, y = (sh_rowI μ3 (r + 3) (va_cpy (sh_i μ3 (q1 + 3)) (sh_i μ3 (r + 3)) (Int32.toNatClampNeg 0) (Int32.toNatClampNeg 0) (Int32.toNatClampNeg 7))) := ⟨_, rfl⟩
  rw [sh_let_eq eμ4] at h
  have hG4 : sh_G μ4 := by rw [eμ4]; exact hG3
  obtain ⟨μ5, eμ5⟩ : ∃ y : sh_Mem, y = (sh_rowI μ4 (r + 4) (va_cpy (sh_i μ4 (q1 + 4)) (sh_i μ4 (r + 4)) (Int32.toNatClampNeg 0) (Int32.toNatClampNeg 0) (Int32.toNatClampNeg 7))) := ⟨_, rfl⟩
  rw [sh_let_eq eμ5] at h
  have hG5 : sh_G μ5 := by rw [eμ5]; exact hG4
  obtain ⟨μ6, eμ6⟩ : ∃ y : sh_Mem, y = (sh_rowI μ5 (r + 5) (va_cpy (sh_i μ5 (q1 + 5)) (sh_i μ5 (r + 5)) (Int32.toNatClampNeg 0) (Int32.toNatClampNeg 0) (Int32.toNatClampNeg 7))) := ⟨_, rfl⟩
  rw [sh_let_eq eμ6] at h
  have hG6 : sh_G μ6 := by rw [eμ6]; exact hG5
  have e2 := Option.some.inj h
  exact e2 ▸ hG6
theorem t_X3_copyFrom {r : Nat} {q1 : Nat} {μ μ' : sh_Mem} (hG : sh_G μ) (hr : sh_isL r) (hq1 : sh_isL q1) (h : f_X3_copyFrom r q1 μ = some μ') : sh_C0 l B D ca 1 M_X3_copyFrom [.ref r, .ref q1] μ (fun v0 μ0 => v0 = none ∧ μ0 = μ') := by
  unfold f_X3_copyFrom at h
  refine vv_aload_n 0 0 dX3_copyFrom_0 rfl rfl ?_
  refine vv_aload_n 1 1 dX3_copyFrom_1 rfl rfl ?_
  refine vv_getI 2 dX3_copyFrom_2 fl_3_27 rfl (gL_l hG hq1) ?_
  refine vn_putI 5 dX3_copyFrom_5 fl_3_27 (Or.inl rfl) rfl (gL_l hG hr) (fun μ1 eμ1 => ?_)
  rw [sh_let_eq eμ1] at h
  have hG1 : sh_G μ1 := by rw [eμ1]; exact hG
  refine vv_aload_n 8 1 dX3_copyFrom_8 rfl rfl ?_
  refine vv_getR 9 dX3_copyFrom_9 fl_3_9 rfl (gL_l hG1 hq1) (gL_r1 hG1 hq1) ?_
  refine vv_iconst 12 dX3_copyFrom_12 ik_0 ?_
  refine vv_aload_n 13 0 dX3_copyFrom_13 rfl rfl ?_
  refine vv_getR 14 dX3_copyFrom_14 fl_3_9 rfl (gL_l hG1 hr) (gL_r1 hG1 hr) ?_
  refine vv_iconst 17 dX3_copyFrom_17 ik_0 ?_
  refine vv_bipush 18 dX3_copyFrom_18 bk_49 ?_
  refine vn_copy 20 dX3_copyFrom_20 ck_X3_31 (gA_l hG1 (gLA1 hq1)) (gA_l hG1 (gLA1 hr)) (by decide) (by decide) (by decide) (by decide) (by decide) (Nat.le_of_ble_eq_true rfl) (Nat.le_of_ble_eq_true rfl) (fun μ2 eμ2 => ?_)
  rw [sh_let_eq eμ2] at h
  have hG2 : sh_G μ2 := by rw [eμ2]; exact hG1
  refine vv_aload_n 23 1 dX3_copyFrom_23 rfl rfl ?_
  refine vv_getR 24 dX3_copyFrom_24 fl_3_15 rfl (gL_l hG2 hq1) (gL_r2 hG2 hq1) ?_
  refine vv_iconst 27 dX3_copyFrom_27 ik_0 ?_
  refine vv_aload_n 28 0 dX3_copyFrom_28 rfl rfl ?_
  refine vv_getR 29 dX3_copyFrom_29 fl_3_15 rfl (gL_l hG2 hr) (gL_r2 hG2 hr) ?_
  refine vv_iconst 32 dX3_copyFrom_32 ik_0 ?_
  refine vv_bipush 33 dX3_copyFrom_33 bk_7 ?_
  refine vn_copy 35 dX3_copyFrom_35 ck_X3_31 (gA_l hG2 (gLA2 hq1)) (gA_l hG2 (gLA2 hr)) (by decide) (by decide) (by decide) (by decide) (by decide) (Nat.le_of_ble_eq_true rfl) (Nat.le_of_ble_eq_true rfl) (fun μ3 eμ3 => ?_)
  rw [sh_let_eq eμ3] at h
  have hG3 : sh_G μ3 := by rw [eμ3]; exact hG2
  refine vv_aload_n 38 1 dX3_copyFrom_38 rfl rfl ?_
  refine vv_getR 39 dX3_copyFrom_39 fl_3_18 rfl (gL_l hG3 hq1) (gL_r3 hG3 hq1) ?_
  refine vv_iconst 42 dX3_copyFrom_42 ik_0 ?_
  refine vv_aload_n 43 0 dX3_copyFrom_43 rfl rfl ?_
  refine vv_getR 44 dX3_copyFrom_44 fl_3_18 rfl (gL_l hG3 hr) (gL_r3 hG3 hr) ?_
  refine vv_iconst 47 dX3_copyFrom_47 ik_0 ?_
  refine vv_bipush 48 dX3_copyFrom_48 bk_7 ?_
  refine vn_copy 50 dX3_copyFrom_50 ck_X3_31 (gA_l hG3 (gLA3 hq1)) (gA_l hG3 (gLA3 hr)) (by decide) (by decide) (by decide) (by decide) (by decide) (Nat.le_of_ble_eq_true rfl) (Nat.le_of_ble_eq_true rfl) (fun μ4 eμ4 => ?_)
  rw [sh_let_eq eμ4] at h
  have hG4 : sh_G μ4 := by rw [eμ4]; exact hG3
  refine vv_aload_n 53 1 dX3_copyFrom_53 rfl rfl ?_
  refine vv_getR 54 dX3_copyFrom_54 fl_3_21 rfl (gL_l hG4 hq1) (gL_r4 hG4 hq1) ?_
  refine vv_iconst 57 dX3_copyFrom_57 ik_0 ?_
  refine vv_aload_n 58 0 dX3_copyFrom_58 rfl rfl ?_
  refine vv_getR 59 dX3_copyFrom_59 fl_3_21 rfl (gL_l hG4 hr) (gL_r4 hG4 hr) ?_
  refine vv_iconst 62 dX3_copyFrom_62 ik_0 ?_
  refine vv_bipush 63 dX3_copyFrom_63 bk_7 ?_
  refine vn_copy 65 dX3_copyFrom_65 ck_X3_31 (gA_l hG4 (gLA4 hq1)) (gA_l hG4 (gLA4 hr)) (by decide) (by decide) (by decide) (by decide) (by decide) (Nat.le_of_ble_eq_true rfl) (Nat.le_of_ble_eq_true rfl) (fun μ5 eμ5 => ?_)
  rw [sh_let_eq eμ5] at h
  have hG5 : sh_G μ5 := by rw [eμ5]; exact hG4
  refine vv_aload_n 68 1 dX3_copyFrom_68 rfl rfl ?_
  refine vv_getR 69 dX3_copyFrom_69 fl_3_24 rfl (gL_l hG5 hq1) (gL_r5 hG5 hq1) ?_
  refine vv_iconst 72 dX3_copyFrom_72 ik_0 ?_
  refine vv_aload_n 73 0 dX3_copyFrom_73 rfl rfl ?_
  refine vv_getR 74 dX3_copyFrom_74 fl_3_24 rfl (gL_l hG5 hr) (gL_r5 hG5 hr) ?_
  refine vv_iconst 77 dX3_copyFrom_77 ik_0 ?_
  refine vv_bipush 78 dX3_copyFrom_78 bk_7 ?_
  refine vn_copy 80 dX3_copyFrom_80 ck_X3_31 (gA_l hG5 (gLA5 hq1)) (gA_l hG5 (gLA5 hr)) (by decide) (by decide) (by decide) (by decide) (by decide) (Nat.le_of_ble_eq_true rfl) (Nat.le_of_ble_eq_true rfl) (fun μ6 eμ6 => ?_)
  rw [sh_let_eq eμ6] at h
  have hG6 : sh_G μ6 := by rw [eμ6]; exact hG5
  have e2 := Option.some.inj h
  refine vv_vret 83 dX3_copyFrom_83 rfl (Nat.le_refl _) (Nat.le_refl _) ⟨rfl, e2⟩
noncomputable def F_X3_together : Nat → Nat → Nat → Int32 → Int32 → Int32 → sh_Mem → Option (Int32 × sh_Mem)
  | 0, _, _, _, _, _, _ => none
  | fuel + 1, lbl, r0, i1, i2, i3, μ => match lbl with
    | 1 => (if i1 ≤ i3 then some (i2, μ) else (if 49 ≤ i3 then some (i2, μ) else (if sh_in i3 49 then sh_let ((i2 + (sh_i μ (r0 + 1) i3.toNatClampNeg)) : Int32) (fun x8 => F_X3_together fuel 1 r0 i1 x8 (i3 + 1) μ) else none)))
    | _ => none
noncomputable def f_X3_together (r : Nat) (a1 : Int32) (μ : sh_Mem) : Option (Int32 × sh_Mem) := F_X3_together sh_fuel 1 r a1 0 0 μ
theorem gpl_X3_together (fuel : Nat) : (∀ ⦃r0 : Nat⦄ ⦃i1 : Int32⦄ ⦃i2 : Int32⦄ ⦃i3 : Int32⦄ ⦃μ μ' : sh_Mem⦄ ⦃v : Int32⦄, sh_G μ → sh_isL r0 → F_X3_together fuel 1 r0 i1 i2 i3 μ = some (v, μ') → sh_G μ') := by
  induction fuel with
  | zero => intro r0 i1 i2 i3 μ μ' v hG hr0 h; cases h
  | succ fuel ih =>
    have ih_4 := ih
    intro r0 i1 i2 i3 μ μ' v hG hr0 h
    replace h : ((if i1 ≤ i3 then some (i2, μ) else (if 49 ≤ i3 then some (i2, μ) else (if sh_in i3 49 then sh_let ((i2 + (sh_i μ (r0 + 1) i3.toNatClampNeg)) : Int32) (fun x8 => F_X3_together fuel 1 r0 i1 x8 (i3 + 1) μ) else none))) : Option (Int32 × sh_Mem)) = some (v, μ') := h
    by_cases c5 : i1 ≤ i3
    · rw [if_pos c5] at h
      obtain ⟨e1, e2⟩ := sh_some2 h
      exact e2 ▸ hG
    · rw [if_neg c5] at h
      by_cases c6 : 49 ≤ i3
      · rw [if_pos c6] at h
        obtain ⟨e1, e2⟩ := sh_some2 h
        exact e2 ▸ hG
      · rw [if_neg c6] at h
        obtain ⟨k7, h⟩ := sh_chk h
        obtain ⟨x8, ex8⟩ : ∃ y : Int32, y = (i2 + (sh_i μ (r0 + 1) i3.toNatClampNeg)) := ⟨_, rfl⟩
        rw [sh_let_eq ex8] at h
        exact ih_4 hG hr0 h
theorem tl_X3_together (fuel : Nat) : (∀ ⦃r0 : Nat⦄ ⦃i1 : Int32⦄ ⦃i2 : Int32⦄ ⦃i3 : Int32⦄ ⦃μ μ' : sh_Mem⦄ ⦃v : Int32⦄, sh_G μ → sh_isL r0 → F_X3_together fuel 1 r0 i1 i2 i3 μ = some (v, μ') → sh_V0 l B D ca 1 M_X3_together 4 [(0, .ref r0), (1, .int i1), (2, .int i2), (3, .int i3)] [] μ (fun v0 μ0 => v0 = some (.int v) ∧ μ0 = μ')) := by
  induction fuel with
  | zero => intro r0 i1 i2 i3 μ μ' v hG hr0 h; cases h
  | succ fuel ih =>
    have ih_4 := ih
    intro r0 i1 i2 i3 μ μ' v hG hr0 h
    replace h : ((if i1 ≤ i3 then some (i2, μ) else (if 49 ≤ i3 then some (i2, μ) else (if sh_in i3 49 then sh_let ((i2 + (sh_i μ (r0 + 1) i3.toNatClampNeg)) : Int32) (fun x8 => F_X3_together fuel 1 r0 i1 x8 (i3 + 1) μ) else none))) : Option (Int32 × sh_Mem)) = some (v, μ') := h
    refine vv_iload_n 4 3 dX3_together_4 rfl rfl ?_
    refine vv_iload_n 5 1 dX3_together_5 rfl rfl ?_
    refine vv_icmp_ge 6 30 dX3_together_6 (by decide) (fun c5 => ?_) (fun c5 => ?_)
    · rw [if_pos c5] at h
      refine vv_iload_n 30 2 dX3_together_30 rfl rfl ?_
      obtain ⟨e1, e2⟩ := sh_some2 h
      refine vv_iret 31 dX3_together_31 rfl (Nat.le_refl _) (Nat.le_refl _) ⟨by rw [e1], e2⟩
    · rw [if_neg c5] at h
      refine vv_iload_n 9 3 dX3_together_9 rfl rfl ?_
      refine vv_bipush 10 dX3_together_10 bk_49 ?_
      refine vv_icmp_ge 12 30 dX3_together_12 (by decide) (fun c6 => ?_) (fun c6 => ?_)
      · rw [if_pos c6] at h
        refine vv_iload_n 30 2 dX3_together_30 rfl rfl ?_
        obtain ⟨e1, e2⟩ := sh_some2 h
        refine vv_iret 31 dX3_together_31 rfl (Nat.le_refl _) (Nat.le_refl _) ⟨by rw [e1], e2⟩
      · rw [if_neg c6] at h
        refine vv_iload_n 15 2 dX3_together_15 rfl rfl ?_
        refine vv_aload_n 16 0 dX3_together_16 rfl rfl ?_
        refine vv_getR 17 dX3_together_17 fl_3_9 rfl (gL_l hG hr0) (gL_r1 hG hr0) ?_
        refine vv_iload_n 20 3 dX3_together_20 rfl rfl ?_
        obtain ⟨k7, h⟩ := sh_chk h
        refine vv_iald 21 dX3_together_21 (gA_l hG (gLA1 hr0)) k7 ?_
        refine vv_iadd 22 dX3_together_22 ?_
        refine vv_topi (fun x8 ex8 => ?_)
        rw [sh_let_eq ex8] at h
        refine vv_istore_n (lv' := [(2, _), (0, _), (1, _), (3, _)]) 23 2 dX3_together_23 rfl (by decide) rfl ?_
        refine vv_iincc (lv' := [(3, _), (2, _), (0, _), (1, _)]) 24 3 dX3_together_24 rfl ik_1 (by decide) rfl ?_
        refine vv_goto 27 4 dX3_together_27 (by decide) ?_
        refine vv_sub [(0, _), (1, _), (2, _), (3, _)] (sh_subm [2, 3, 1, 0] rfl) ?_
        exact ih_4 hG hr0 h
theorem gp_X3_together {r : Nat} {a1 : Int32} {μ μ' : sh_Mem} {v : Int32} (hG : sh_G μ) (hr : sh_isL r) (h : f_X3_together r a1 μ = some (v, μ')) : sh_G μ' := by
  have ih_4 := (gpl_X3_together sh_fuel)
  unfold f_X3_together at h
  exact ih_4 hG hr h
theorem t_X3_together {r : Nat} {a1 : Int32} {μ μ' : sh_Mem} {v : Int32} (hG : sh_G μ) (hr : sh_isL r) (h : f_X3_together r a1 μ = some (v, μ')) : sh_C0 l B D ca 1 M_X3_together [.ref r, .int a1] μ (fun v0 μ0 => v0 = some (.int v) ∧ μ0 = μ') := by
  have ih_4 := (tl_X3_together (l := l) (B := B) (D := D) (ca := ca) sh_fuel)
  unfold f_X3_together at h
  refine vv_iconst 0 dX3_together_0 ik_0 ?_
  refine vv_istore_n (lv' := [(2, _), (0, _), (1, _)]) 1 2 dX3_together_1 rfl (by decide) rfl ?_
  refine vv_iconst 2 dX3_together_2 ik_0 ?_
  refine vv_istore_n (lv' := [(3, _), (2, _), (0, _), (1, _)]) 3 3 dX3_together_3 rfl (by decide) rfl ?_
  refine vv_sub [(0, _), (1, _), (2, _), (3, _)] (sh_subm [2, 3, 1, 0] rfl) ?_
  exact ih_4 hG hr h
noncomputable def F_X3_isSomeoneAt : Nat → Nat → Nat → Int32 → Int32 → Int32 → Int32 → sh_Mem → Option (Int32 × sh_Mem)
  | 0, _, _, _, _, _, _, _ => none
  | fuel + 1, lbl, r0, i1, i2, i3, i4, μ => match lbl with
    | 1 => (if i3 ≤ i4 then some (0, μ) else (if 7 ≤ i4 then some (0, μ) else (if sh_in i4 7 then (if (sh_i μ (r0 + 2) i4.toNatClampNeg) = i1 then (if sh_in i4 7 then (if (sh_i μ (r0 + 3) i4.toNatClampNeg) = i2 then some (1, μ) else F_X3_isSomeoneAt fuel 1 r0 i1 i2 i3 (i4 + 1) μ) else none) else F_X3_isSomeoneAt fuel 1 r0 i1 i2 i3 (i4 + 1) μ) else none)))
    | _ => none
noncomputable def f_X3_isSomeoneAt (r : Nat) (a1 : Int32) (a2 : Int32) (a3 : Int32) (μ : sh_Mem) : Option (Int32 × sh_Mem) := F_X3_isSomeoneAt sh_fuel 1 r a1 a2 a3 0 μ
theorem gpl_X3_isSomeoneAt (fuel : Nat) : (∀ ⦃r0 : Nat⦄ ⦃i1 : Int32⦄ ⦃i2 : Int32⦄ ⦃i3 : Int32⦄ ⦃i4 : Int32⦄ ⦃μ μ' : sh_Mem⦄ ⦃v : Int32⦄, sh_G μ → sh_isL r0 → F_X3_isSomeoneAt fuel 1 r0 i1 i2 i3 i4 μ = some (v, μ') → sh_G μ') := by
  induction fuel with
  | zero => intro r0 i1 i2 i3 i4 μ μ' v hG hr0 h; cases h
  | succ fuel ih =>
    have ih_3 := ih
    intro r0 i1 i2 i3 i4 μ μ' v hG hr0 h
    replace h : ((if i3 ≤ i4 then some (0, μ) else (if 7 ≤ i4 then some (0, μ) else (if sh_in i4 7 then (if (sh_i μ (r0 + 2) i4.toNatClampNeg) = i1 then (if sh_in i4 7 then (if (sh_i μ (r0 + 3) i4.toNatClampNeg) = i2 then some (1, μ) else F_X3_isSomeoneAt fuel 1 r0 i1 i2 i3 (i4 + 1) μ) else none) else F_X3_isSomeoneAt fuel 1 r0 i1 i2 i3 (i4 + 1) μ) else none))) : Option (Int32 × sh_Mem)) = some (v, μ') := h
    by_cases c7 : i3 ≤ i4
    · rw [if_pos c7] at h
      obtain ⟨e1, e2⟩ := sh_some2 h
      exact e2 ▸ hG
    · rw [if_neg c7] at h
      by_cases c8 : 7 ≤ i4
      · rw [if_pos c8] at h
        obtain ⟨e1, e2⟩ := sh_some2 h
        exact e2 ▸ hG
      · rw [if_neg c8] at h
        obtain ⟨k9, h⟩ := sh_chk h
        by_cases c10 : (sh_i μ (r0 + 2) i4.toNatClampNeg) = i1
        · rw [if_pos c10] at h
          obtain ⟨k11, h⟩ := sh_chk h
          by_cases c12 : (sh_i μ (r0 + 3) i4.toNatClampNeg) = i2
          · rw [if_pos c12] at h
            obtain ⟨e1, e2⟩ := sh_some2 h
            exact e2 ▸ hG
          · rw [if_neg c12] at h
            exact ih_3 hG hr0 h
        · rw [if_neg c10] at h
          exact ih_3 hG hr0 h
theorem tl_X3_isSomeoneAt (fuel : Nat) : (∀ ⦃r0 : Nat⦄ ⦃i1 : Int32⦄ ⦃i2 : Int32⦄ ⦃i3 : Int32⦄ ⦃i4 : Int32⦄ ⦃μ μ' : sh_Mem⦄ ⦃v : Int32⦄, sh_G μ → sh_isL r0 → F_X3_isSomeoneAt fuel 1 r0 i1 i2 i3 i4 μ = some (v, μ') → sh_V0 l B D ca 1 M_X3_isSomeoneAt 3 [(0, .ref r0), (1, .int i1), (2, .int i2), (3, .int i3), (4, .int i4)] [] μ (fun v0 μ0 => v0 = some (.int v) ∧ μ0 = μ')) := by
  induction fuel with
  | zero => intro r0 i1 i2 i3 i4 μ μ' v hG hr0 h; cases h
  | succ fuel ih =>
    have ih_3 := ih
    intro r0 i1 i2 i3 i4 μ μ' v hG hr0 h
    replace h : ((if i3 ≤ i4 then some (0, μ) else (if 7 ≤ i4 then some (0, μ) else (if sh_in i4 7 then (if (sh_i μ (r0 + 2) i4.toNatClampNeg) = i1 then (if sh_in i4 7 then (if (sh_i μ (r0 + 3) i4.toNatClampNeg) = i2 then some (1, μ) else F_X3_isSomeoneAt fuel 1 r0 i1 i2 i3 (i4 + 1) μ) else none) else F_X3_isSomeoneAt fuel 1 r0 i1 i2 i3 (i4 + 1) μ) else none))) : Option (Int32 × sh_Mem)) = some (v, μ') := h
    refine vv_iload 3 4 dX3_isSomeoneAt_3 rfl ?_
    refine vv_iload_n 5 3 dX3_isSomeoneAt_5 rfl rfl ?_
    refine vv_icmp_ge 6 46 dX3_isSomeoneAt_6 (by decide) (fun c7 => ?_) (fun c7 => ?_)
    · rw [if_pos c7] at h
      refine vv_iconst 46 dX3_isSomeoneAt_46 ik_0 ?_
      obtain ⟨e1, e2⟩ := sh_some2 h
      refine vv_zret 47 dX3_isSomeoneAt_47 rfl rfl (Nat.le_refl _) (Nat.le_refl _) ⟨by rw [e1], e2⟩
    · rw [if_neg c7] at h
      refine vv_iload 9 4 dX3_isSomeoneAt_9 rfl ?_
      refine vv_bipush 11 dX3_isSomeoneAt_11 bk_7 ?_
      refine vv_icmp_ge 13 46 dX3_isSomeoneAt_13 (by decide) (fun c8 => ?_) (fun c8 => ?_)
      · rw [if_pos c8] at h
        refine vv_iconst 46 dX3_isSomeoneAt_46 ik_0 ?_
        obtain ⟨e1, e2⟩ := sh_some2 h
        refine vv_zret 47 dX3_isSomeoneAt_47 rfl rfl (Nat.le_refl _) (Nat.le_refl _) ⟨by rw [e1], e2⟩
      · rw [if_neg c8] at h
        refine vv_aload_n 16 0 dX3_isSomeoneAt_16 rfl rfl ?_
        refine vv_getR 17 dX3_isSomeoneAt_17 fl_3_15 rfl (gL_l hG hr0) (gL_r2 hG hr0) ?_
        refine vv_iload 20 4 dX3_isSomeoneAt_20 rfl ?_
        obtain ⟨k9, h⟩ := sh_chk h
        refine vv_iald 22 dX3_isSomeoneAt_22 (gA_l hG (gLA2 hr0)) k9 ?_
        refine vv_iload_n 23 1 dX3_isSomeoneAt_23 rfl rfl ?_
        refine vv_icmp_ne 24 40 dX3_isSomeoneAt_24 (by decide) (fun c10 => ?_) (fun c10 => ?_)
        · rw [if_neg c10] at h
          refine vv_iincc (lv' := [(4, _), (0, _), (1, _), (2, _), (3, _)]) 40 4 dX3_isSomeoneAt_40 rfl ik_1 (by decide) rfl ?_
          refine vv_goto 43 3 dX3_isSomeoneAt_43 (by decide) ?_
          refine vv_sub [(0, _), (1, _), (2, _), (3, _), (4, _)] (sh_subm [1, 2, 3, 4, 0] rfl) ?_
          exact ih_3 hG hr0 h
        · rw [if_pos c10] at h
          refine vv_aload_n 27 0 dX3_isSomeoneAt_27 rfl rfl ?_
          refine vv_getR 28 dX3_isSomeoneAt_28 fl_3_18 rfl (gL_l hG hr0) (gL_r3 hG hr0) ?_
          refine vv_iload 31 4 dX3_isSomeoneAt_31 rfl ?_
          obtain ⟨k11, h⟩ := sh_chk h
          refine vv_iald 33 dX3_isSomeoneAt_33 (gA_l hG (gLA3 hr0)) k11 ?_
          refine vv_iload_n 34 2 dX3_isSomeoneAt_34 rfl rfl ?_
          refine vv_icmp_ne 35 40 dX3_isSomeoneAt_35 (by decide) (fun c12 => ?_) (fun c12 => ?_)
          · rw [if_neg c12] at h
            refine vv_iincc (lv' := [(4, _), (0, _), (1, _), (2, _), (3, _)]) 40 4 dX3_isSomeoneAt_40 rfl ik_1 (by decide) rfl ?_
            refine vv_goto 43 3 dX3_isSomeoneAt_43 (by decide) ?_
            refine vv_sub [(0, _), (1, _), (2, _), (3, _), (4, _)] (sh_subm [1, 2, 3, 4, 0] rfl) ?_
            exact ih_3 hG hr0 h
          · rw [if_pos c12] at h
            refine vv_iconst 38 dX3_isSomeoneAt_38 ik_1 ?_
            obtain ⟨e1, e2⟩ := sh_some2 h
            refine vv_zret 39 dX3_isSomeoneAt_39 rfl rfl (Nat.le_refl _) (Nat.le_refl _) ⟨by rw [e1], e2⟩
theorem gp_X3_isSomeoneAt {r : Nat} {a1 : Int32} {a2 : Int32} {a3 : Int32} {μ μ' : sh_Mem} {v : Int32} (hG : sh_G μ) (hr : sh_isL r) (h : f_X3_isSomeoneAt r a1 a2 a3 μ = some (v, μ')) : sh_G μ' := by
  have ih_3 := (gpl_X3_isSomeoneAt sh_fuel)
  unfold f_X3_isSomeoneAt at h
  exact ih_3 hG hr h
theorem t_X3_isSomeoneAt {r : Nat} {a1 : Int32} {a2 : Int32} {a3 : Int32} {μ μ' : sh_Mem} {v : Int32} (hG : sh_G μ) (hr : sh_isL r) (h : f_X3_isSomeoneAt r a1 a2 a3 μ = some (v, μ')) : sh_C0 l B D ca 1 M_X3_isSomeoneAt [.ref r, .int a1, .int a2, .int a3] μ (fun v0 μ0 => v0 = some (.int v) ∧ μ0 = μ') := by
  have ih_3 := (tl_X3_isSomeoneAt (l := l) (B := B) (D := D) (ca := ca) sh_fuel)
  unfold f_X3_isSomeoneAt at h
  refine vv_iconst 0 dX3_isSomeoneAt_0 ik_0 ?_
  refine vv_istore (lv' := [(4, _), (0, _), (1, _), (2, _), (3, _)]) 1 4 dX3_isSomeoneAt_1 (by decide) rfl ?_
  refine vv_sub [(0, _), (1, _), (2, _), (3, _), (4, _)] (sh_subm [1, 2, 3, 4, 0] rfl) ?_
  exact ih_3 hG hr h
noncomputable def f_X4_forget (μ : sh_Mem) : Option sh_Mem := sh_let (sh_setI μ 63 1 0) (fun μ1 => sh_let (sh_setI μ1 63 2 0) (fun μ2 => some μ2))
theorem gp_X4_forget {μ μ' : sh_Mem} (hG : sh_G μ) (h : f_X4_forget μ = some μ') : sh_G μ' := by
  unfold f_X4_forget at h
  obtain ⟨μ1, eμ1⟩ : ∃ y : sh_Mem, y = (sh_setI μ 63 1 0) := ⟨_, rfl⟩
  rw [sh_let_eq eμ1] at h
  have hG1 : sh_G μ1 := by rw [eμ1]; exact hG
  obtain ⟨μ2, eμ2⟩ : ∃ y : sh_Mem, y = (sh_setI μ1 63 2 0) := ⟨_, rfl⟩
  rw [sh_let_eq eμ2] at h
  have hG2 : sh_G μ2 := by rw [eμ2]; exact hG1
  have e2 := Option.some.inj h
  exact e2 ▸ hG2
theorem t_X4_forget {μ μ' : sh_Mem} (hG : sh_G μ) (h : f_X4_forget μ = some μ') : sh_C0 l B D ca 1 M_X4_forget [.ref 63] μ (fun v0 μ0 => v0 = none ∧ μ0 = μ') := by
  unfold f_X4_forget at h
  refine vv_aload_n 0 0 dX4_forget_0 rfl rfl ?_
  refine vv_iconst 1 dX4_forget_1 ik_0 ?_
  refine vn_putI 2 dX4_forget_2 fl_4_30 (Or.inl rfl) rfl (g_l_63 hG) (fun μ1 eμ1 => ?_)
  rw [sh_let_eq eμ1] at h
  have hG1 : sh_G μ1 := by rw [eμ1]; exact hG
  refine vv_aload_n 5 0 dX4_forget_5 rfl rfl ?_
  refine vv_iconst 6 dX4_forget_6 ik_0 ?_
  refine vn_putI 7 dX4_forget_7 fl_4_34 (Or.inl rfl) rfl (g_l_63 hG1) (fun μ2 eμ2 => ?_)
  rw [sh_let_eq eμ2] at h
  have hG2 : sh_G μ2 := by rw [eμ2]; exact hG1
  have e2 := Option.some.inj h
  refine vv_vret 10 dX4_forget_10 rfl (Nat.le_refl _) (Nat.le_refl _) ⟨rfl, e2⟩
noncomputable def f_X4_keep (a1 : Int32) (a2 : Int32) (a3 : Int32) (a4 : Int32) (μ : sh_Mem) : Option sh_Mem := (if (sh_i μ 63 1) < 40 then sh_let (((sh_i μ 63 1) * 4) : Int32) (fun x2 => (if sh_in x2 160 then sh_let (sh_setI μ 64 x2.toNatClampNeg a1) (fun μ4 => (if sh_in (x2 + 1) 160 then sh_let (sh_setI μ4 64 ((x2 + 1)).toNatClampNeg a2) (fun μ6 => (if sh_in (x2 + 2) 160 then sh_let (sh_setI μ6 64 ((x2 + 2)).toNatClampNeg a3) (fun μ8 => (if sh_in (x2 + 3) 160 then sh_let (sh_setI μ8 64 ((x2 + 3)).toNatClampNeg a4) (fun μ10 => sh_let (sh_setI μ10 63 1 ((sh_i μ10 63 1) + 1)) (fun μ11 => some μ11)) else none)) else none)) else none)) else none)) else (if ¬ ((Int32.ofNat 160) - 4) < 0 then (if (Int32.toNatClampNeg 4) + (((Int32.ofNat 160) - 4)).toNatClampNeg ≤ 160 then (if (Int32.toNatClampNeg 0) + (((Int32.ofNat 160) - 4)).toNatClampNeg ≤ 160 then sh_let (sh_rowI μ 64 (va_cpy (sh_i μ 64) (sh_i μ 64) (Int32.toNatClampNeg 4) (Int32.toNatClampNeg 0) (((Int32.ofNat 160) - 4)).toNatClampNeg)) (fun μ15 => sh_let (sh_setI μ15 63 1 39) (fun μ16 => sh_let (((sh_i μ16 63 1) * 4) : Int32) (fun x17 => (if sh_in x17 160 then sh_let (sh_setI μ16 64 x17.toNatClampNeg a1) (fun μ19 => (if sh_in (x17 + 1) 160 then sh_let (sh_setI μ19 64 ((x17 + 1)).toNatClampNeg a2) (fun μ21 => (if sh_in (x17 + 2) 160 then sh_let (sh_setI μ21 64 ((x17 + 2)).toNatClampNeg a3) (fun μ23 => (if sh_in (x17 + 3) 160 then sh_let (sh_setI μ23 64 ((x17 + 3)).toNatClampNeg a4) (fun μ25 => sh_let (sh_setI μ25 63 1 ((sh_i μ25 63 1) + 1)) (fun μ26 => some μ26)) else none)) else none)) else none)) else none)))) else none) else none) else none))
theorem gp_X4_keep {a1 : Int32} {a2 : Int32} {a3 : Int32} {a4 : Int32} {μ μ' : sh_Mem} (hG : sh_G μ) (h : f_X4_keep a1 a2 a3 a4 μ = some μ') : sh_G μ' := by
  unfold f_X4_keep at h
  by_cases c1 : (sh_i μ 63 1) < 40
  · rw [if_pos c1] at h
    obtain ⟨x2, ex2⟩ : ∃ y : Int32, y = ((sh_i μ 63 1) * 4) := ⟨_, rfl⟩
    rw [sh_let_eq ex2] at h
    obtain ⟨k3, h⟩ := sh_chk h
    obtain ⟨μ4, eμ4⟩ : ∃ y : sh_Mem, y = (sh_setI μ 64 x2.toNatClampNeg a1) := ⟨_, rfl⟩
    rw [sh_let_eq eμ4] at h
    have hG4 : sh_G μ4 := by rw [eμ4]; exact hG
    obtain ⟨k5, h⟩ := sh_chk h
    obtain ⟨μ6, eμ6⟩ : ∃ y : sh_Mem, y = (sh_setI μ4 64 ((x2 + 1)).toNatClampNeg a2) := ⟨_, rfl⟩
    rw [sh_let_eq eμ6] at h
    have hG6 : sh_G μ6 := by rw [eμ6]; exact hG4
    obtain ⟨k7, h⟩ := sh_chk h
    obtain ⟨μ8, eμ8⟩ : ∃ y : sh_Mem, y = (sh_setI μ6 64 ((x2 + 2)).toNatClampNeg a3) := ⟨_, rfl⟩
    rw [sh_let_eq eμ8] at h
    have hG8 : sh_G μ8 := by rw [eμ8]; exact hG6
    obtain ⟨k9, h⟩ := sh_chk h
    obtain ⟨μ10, eμ10⟩ : ∃ y : sh_Mem, y = (sh_setI μ8 64 ((x2 + 3)).toNatClampNeg a4) := ⟨_, rfl⟩
    rw [sh_let_eq eμ10] at h
    have hG10 : sh_G μ10 := by rw [eμ10]; exact hG8
    obtain ⟨μ11, eμ11⟩ : ∃ y : sh_Mem, y = (sh_setI μ10 63 1 ((sh_i μ10 63 1) + 1)) := ⟨_, rfl⟩
    rw [sh_let_eq eμ11] at h
    have hG11 : sh_G μ11 := by rw [eμ11]; exact hG10
    have e2 := Option.some.inj h
    exact e2 ▸ hG11
  · rw [if_neg c1] at h
    obtain ⟨k12, h⟩ := sh_chk h
    obtain ⟨k13, h⟩ := sh_chk h
    obtain ⟨k14, h⟩ := sh_chk h
    obtain ⟨μ15, eμ15⟩ : ∃ y : sh_Mem, y = (sh_rowI μ 64 (va_cpy (sh_i μ 64) (sh_i μ 64) (Int32.toNatClampNeg 4) (Int32.toNatClampNeg 0) (((Int32.ofNat 160) - 4)).toNatClampNeg)) := ⟨_, rfl⟩
    rw [sh_let_eq eμ15] at h
    have hG15 : sh_G μ15 := by rw [eμ15]; exact hG
    obtain ⟨μ16, eμ16⟩ : ∃ y : sh_Mem, y = (sh_setI μ15 63 1 39) := ⟨_, rfl⟩
    rw [sh_let_eq eμ16] at h
    have hG16 : sh_G μ16 := by rw [eμ16]; exact hG15
    obtain ⟨x17, ex17⟩ : ∃ y : Int32, y = ((sh_i μ16 63 1) * 4) := ⟨_, rfl⟩
    rw [sh_let_eq ex17] at h
    obtain ⟨k18, h⟩ := sh_chk h
    obtain ⟨μ19, eμ19⟩ : ∃ y : sh_Mem, y = (sh_setI μ16 64 x17.toNatClampNeg a1) := ⟨_, rfl⟩
    rw [sh_let_eq eμ19] at h
    have hG19 : sh_G μ19 := by rw [eμ19]; exact hG16
    obtain ⟨k20, h⟩ := sh_chk h
    obtain ⟨μ21, eμ21⟩ : ∃ y : sh_Mem, y = (sh_setI μ19 64 ((x17 + 1)).toNatClampNeg a2) := ⟨_, rfl⟩
    rw [sh_let_eq eμ21] at h
    have hG21 : sh_G μ21 := by rw [eμ21]; exact hG19
    obtain ⟨k22, h⟩ := sh_chk h
    obtain ⟨μ23, eμ23⟩ : ∃ y : sh_Mem, y = (sh_setI μ21 64 ((x17 + 2)).toNatClampNeg a3) := ⟨_, rfl⟩
    rw [sh_let_eq eμ23] at h
    have hG23 : sh_G μ23 := by rw [eμ23]; exact hG21
    obtain ⟨k24, h⟩ := sh_chk h
    obtain ⟨μ25, eμ25⟩ : ∃ y : sh_Mem, y = (sh_setI μ23 64 ((x17 + 3)).toNatClampNeg a4) := ⟨_, rfl⟩
    rw [sh_let_eq eμ25] at h
    have hG25 : sh_G μ25 := by rw [eμ25]; exact hG23
    obtain ⟨μ26, eμ26⟩ : ∃ y : sh_Mem, y = (sh_setI μ25 63 1 ((sh_i μ25 63 1) + 1)) := ⟨_, rfl⟩
    rw [sh_let_eq eμ26] at h
    have hG26 : sh_G μ26 := by rw [eμ26]; exact hG25
    have e2 := Option.some.inj h
    exact e2 ▸ hG26
theorem t_X4_keep {a1 : Int32} {a2 : Int32} {a3 : Int32} {a4 : Int32} {μ μ' : sh_Mem} (hG : sh_G μ) (h : f_X4_keep a1 a2 a3 a4 μ = some μ') : sh_C0 l B D ca 1 M_X4_keep [.ref 63, .int a1, .int a2, .int a3, .int a4] μ (fun v0 μ0 => v0 = none ∧ μ0 = μ') := by
  unfold f_X4_keep at h
  refine vv_aload_n 0 0 dX4_keep_0 rfl rfl ?_
  refine vv_getI 1 dX4_keep_1 fl_4_30 rfl (g_l_63 hG) ?_
  refine vv_bipush 4 dX4_keep_4 bk_40 ?_
  refine vv_icmp_lt 6 35 dX4_keep_6 (by decide) (fun c1 => ?_) (fun c1 => ?_)
  · rw [if_pos c1] at h
    refine vv_aload_n 35 0 dX4_keep_35 rfl rfl ?_
    refine vv_getI 36 dX4_keep_36 fl_4_30 rfl (g_l_63 hG) ?_
    refine vv_iconst 39 dX4_keep_39 ik_4 ?_
    refine vv_imul 40 dX4_keep_40 ?_
    refine vv_topi (fun x2 ex2 => ?_)
    rw [sh_let_eq ex2] at h
    refine vv_istore (lv' := [(5, _), (0, _), (1, _), (2, _), (3, _), (4, _)]) 41 5 dX4_keep_41 (by decide) rfl ?_
    refine vv_aload_n 43 0 dX4_keep_43 rfl rfl ?_
    refine vv_getR 44 dX4_keep_44 fl_4_9 rfl (g_l_63 hG) (g_r_63_0 hG) ?_
    refine vv_iload 47 5 dX4_keep_47 rfl ?_
    refine vv_iload_n 49 1 dX4_keep_49 rfl rfl ?_
    obtain ⟨k3, h⟩ := sh_chk h
    refine vn_iast 50 dX4_keep_50 (g_l_64 hG) k3 (fun μ4 eμ4 => ?_)
    rw [sh_let_eq eμ4] at h
    have hG4 : sh_G μ4 := by rw [eμ4]; exact hG
    refine vv_aload_n 51 0 dX4_keep_51 rfl rfl ?_
    refine vv_getR 52 dX4_keep_52 fl_4_9 rfl (g_l_63 hG4) (g_r_63_0 hG4) ?_
    refine vv_iload 55 5 dX4_keep_55 rfl ?_
    refine vv_iconst 57 dX4_keep_57 ik_1 ?_
    refine vv_iadd 58 dX4_keep_58 ?_
    refine vv_iload_n 59 2 dX4_keep_59 rfl rfl ?_
    obtain ⟨k5, h⟩ := sh_chk h
    refine vn_iast 60 dX4_keep_60 (g_l_64 hG4) k5 (fun μ6 eμ6 => ?_)
    rw [sh_let_eq eμ6] at h
    have hG6 : sh_G μ6 := by rw [eμ6]; exact hG4
    refine vv_aload_n 61 0 dX4_keep_61 rfl rfl ?_
    refine vv_getR 62 dX4_keep_62 fl_4_9 rfl (g_l_63 hG6) (g_r_63_0 hG6) ?_
    refine vv_iload 65 5 dX4_keep_65 rfl ?_
    refine vv_iconst 67 dX4_keep_67 ik_2 ?_
    refine vv_iadd 68 dX4_keep_68 ?_
    refine vv_iload_n 69 3 dX4_keep_69 rfl rfl ?_
    obtain ⟨k7, h⟩ := sh_chk h
    refine vn_iast 70 dX4_keep_70 (g_l_64 hG6) k7 (fun μ8 eμ8 => ?_)
    rw [sh_let_eq eμ8] at h
    have hG8 : sh_G μ8 := by rw [eμ8]; exact hG6
    refine vv_aload_n 71 0 dX4_keep_71 rfl rfl ?_
    refine vv_getR 72 dX4_keep_72 fl_4_9 rfl (g_l_63 hG8) (g_r_63_0 hG8) ?_
    refine vv_iload 75 5 dX4_keep_75 rfl ?_
    refine vv_iconst 77 dX4_keep_77 ik_3 ?_
    refine vv_iadd 78 dX4_keep_78 ?_
    refine vv_iload 79 4 dX4_keep_79 rfl ?_
    obtain ⟨k9, h⟩ := sh_chk h
    refine vn_iast 81 dX4_keep_81 (g_l_64 hG8) k9 (fun μ10 eμ10 => ?_)
    rw [sh_let_eq eμ10] at h
    have hG10 : sh_G μ10 := by rw [eμ10]; exact hG8
    refine vv_aload_n 82 0 dX4_keep_82 rfl rfl ?_
    refine vv_dup_ref 83 dX4_keep_83 ?_
    refine vv_getI 84 dX4_keep_84 fl_4_30 rfl (g_l_63 hG10) ?_
    refine vv_iconst 87 dX4_keep_87 ik_1 ?_
    refine vv_iadd 88 dX4_keep_88 ?_
    refine vn_putI 89 dX4_keep_89 fl_4_30 (Or.inl rfl) rfl (g_l_63 hG10) (fun μ11 eμ11 => ?_)
    rw [sh_let_eq eμ11] at h
    have hG11 : sh_G μ11 := by rw [eμ11]; exact hG10
    have e2 := Option.some.inj h
    refine vv_vret 92 dX4_keep_92 rfl (Nat.le_refl _) (Nat.le_refl _) ⟨rfl, e2⟩
  · rw [if_neg c1] at h
    refine vv_aload_n 9 0 dX4_keep_9 rfl rfl ?_
    refine vv_getR 10 dX4_keep_10 fl_4_9 rfl (g_l_63 hG) (g_r_63_0 hG) ?_
    refine vv_iconst 13 dX4_keep_13 ik_4 ?_
    refine vv_aload_n 14 0 dX4_keep_14 rfl rfl ?_
    refine vv_getR 15 dX4_keep_15 fl_4_9 rfl (g_l_63 hG) (g_r_63_0 hG) ?_
    refine vv_iconst 18 dX4_keep_18 ik_0 ?_
    refine vv_aload_n 19 0 dX4_keep_19 rfl rfl ?_
    refine vv_getR 20 dX4_keep_20 fl_4_9 rfl (g_l_63 hG) (g_r_63_0 hG) ?_
    refine vv_alen 23 dX4_keep_23 (g_l_64 hG) (by decide) ?_
    refine vv_iconst 24 dX4_keep_24 ik_4 ?_
    refine vv_isub 25 dX4_keep_25 ?_
    obtain ⟨k12, h⟩ := sh_chk h
    obtain ⟨k13, h⟩ := sh_chk h
    obtain ⟨k14, h⟩ := sh_chk h
    refine vn_copy 26 dX4_keep_26 ck_X4_37 (g_l_64 hG) (g_l_64 hG) (by decide) (by decide) k12 k13 k14 (Nat.le_of_ble_eq_true rfl) (Nat.le_of_ble_eq_true rfl) (fun μ15 eμ15 => ?_)
    rw [sh_let_eq eμ15] at h
    have hG15 : sh_G μ15 := by rw [eμ15]; exact hG
    refine vv_aload_n 29 0 dX4_keep_29 rfl rfl ?_
    refine vv_bipush 30 dX4_keep_30 bk_39 ?_
    refine vn_putI 32 dX4_keep_32 fl_4_30 (Or.inl rfl) rfl (g_l_63 hG15) (fun μ16 eμ16 => ?_)
    rw [sh_let_eq eμ16] at h
    have hG16 : sh_G μ16 := by rw [eμ16]; exact hG15
    refine vv_aload_n 35 0 dX4_keep_35 rfl rfl ?_
    refine vv_getI 36 dX4_keep_36 fl_4_30 rfl (g_l_63 hG16) ?_
    refine vv_iconst 39 dX4_keep_39 ik_4 ?_
    refine vv_imul 40 dX4_keep_40 ?_
    refine vv_topi (fun x17 ex17 => ?_)
    rw [sh_let_eq ex17] at h
    refine vv_istore (lv' := [(5, _), (0, _), (1, _), (2, _), (3, _), (4, _)]) 41 5 dX4_keep_41 (by decide) rfl ?_
    refine vv_aload_n 43 0 dX4_keep_43 rfl rfl ?_
    refine vv_getR 44 dX4_keep_44 fl_4_9 rfl (g_l_63 hG16) (g_r_63_0 hG16) ?_
    refine vv_iload 47 5 dX4_keep_47 rfl ?_
    refine vv_iload_n 49 1 dX4_keep_49 rfl rfl ?_
    obtain ⟨k18, h⟩ := sh_chk h
    refine vn_iast 50 dX4_keep_50 (g_l_64 hG16) k18 (fun μ19 eμ19 => ?_)
    rw [sh_let_eq eμ19] at h
    have hG19 : sh_G μ19 := by rw [eμ19]; exact hG16
    refine vv_aload_n 51 0 dX4_keep_51 rfl rfl ?_
    refine vv_getR 52 dX4_keep_52 fl_4_9 rfl (g_l_63 hG19) (g_r_63_0 hG19) ?_
    refine vv_iload 55 5 dX4_keep_55 rfl ?_
    refine vv_iconst 57 dX4_keep_57 ik_1 ?_
    refine vv_iadd 58 dX4_keep_58 ?_
    refine vv_iload_n 59 2 dX4_keep_59 rfl rfl ?_
    obtain ⟨k20, h⟩ := sh_chk h
    refine vn_iast 60 dX4_keep_60 (g_l_64 hG19) k20 (fun μ21 eμ21 => ?_)
    rw [sh_let_eq eμ21] at h
    have hG21 : sh_G μ21 := by rw [eμ21]; exact hG19
    refine vv_aload_n 61 0 dX4_keep_61 rfl rfl ?_
    refine vv_getR 62 dX4_keep_62 fl_4_9 rfl (g_l_63 hG21) (g_r_63_0 hG21) ?_
    refine vv_iload 65 5 dX4_keep_65 rfl ?_
    refine vv_iconst 67 dX4_keep_67 ik_2 ?_
    refine vv_iadd 68 dX4_keep_68 ?_
    refine vv_iload_n 69 3 dX4_keep_69 rfl rfl ?_
    obtain ⟨k22, h⟩ := sh_chk h
    refine vn_iast 70 dX4_keep_70 (g_l_64 hG21) k22 (fun μ23 eμ23 => ?_)
    rw [sh_let_eq eμ23] at h
    have hG23 : sh_G μ23 := by rw [eμ23]; exact hG21
    refine vv_aload_n 71 0 dX4_keep_71 rfl rfl ?_
    refine vv_getR 72 dX4_keep_72 fl_4_9 rfl (g_l_63 hG23) (g_r_63_0 hG23) ?_
    refine vv_iload 75 5 dX4_keep_75 rfl ?_
    refine vv_iconst 77 dX4_keep_77 ik_3 ?_
    refine vv_iadd 78 dX4_keep_78 ?_
    refine vv_iload 79 4 dX4_keep_79 rfl ?_
    obtain ⟨k24, h⟩ := sh_chk h
    refine vn_iast 81 dX4_keep_81 (g_l_64 hG23) k24 (fun μ25 eμ25 => ?_)
    rw [sh_let_eq eμ25] at h
    have hG25 : sh_G μ25 := by rw [eμ25]; exact hG23
    refine vv_aload_n 82 0 dX4_keep_82 rfl rfl ?_
    refine vv_dup_ref 83 dX4_keep_83 ?_
    refine vv_getI 84 dX4_keep_84 fl_4_30 rfl (g_l_63 hG25) ?_
    refine vv_iconst 87 dX4_keep_87 ik_1 ?_
    refine vv_iadd 88 dX4_keep_88 ?_
    refine vn_putI 89 dX4_keep_89 fl_4_30 (Or.inl rfl) rfl (g_l_63 hG25) (fun μ26 eμ26 => ?_)
    rw [sh_let_eq eμ26] at h
    have hG26 : sh_G μ26 := by rw [eμ26]; exact hG25
    have e2 := Option.some.inj h
    refine vv_vret 92 dX4_keep_92 rfl (Nat.le_refl _) (Nat.le_refl _) ⟨rfl, e2⟩
noncomputable def f_X4_remember (q1 : Nat) (μ : sh_Mem) : Option sh_Mem := sh_let ((((sh_i μ 63 3) + (sh_i μ 63 2)) - ((sh_i μ 63 3) + (sh_i μ 63 2)) / 20 * 20) : Int32) (fun x1 => (if sh_in x1 20 then sh_bindv (f_X3_copyFrom (88 + 6 * x1.toNatClampNeg) q1 μ) (fun μ3 => (if sh_in x1 20 then (if ¬ (Int32.ofNat 160) < 0 then (if (Int32.toNatClampNeg 0) + ((Int32.ofNat 160)).toNatClampNeg ≤ 160 then (if (Int32.toNatClampNeg 0) + ((Int32.ofNat 160)).toNatClampNeg ≤ 160 then sh_let (sh_rowI μ3 (67 + x1.toNatClampNeg) (va_cpy (sh_i μ3 64) (sh_i μ3 (67 + x1.toNatClampNeg)) (Int32.toNatClampNeg 0) (Int32.toNatClampNeg 0) ((Int32.ofNat 160)).toNatClampNeg)) (fun μ10 => (if sh_in x1 20 then sh_let (sh_setI μ10 87 x1.toNatClampNeg (sh_i μ10 63 1)) (fun μ12 => (if 20 ≤ (sh_i μ12 63 2) then sh_let (sh_setI μ12 63 3 (((sh_i μ12 63 3) + 1) - ((sh_i μ12 63 3) + 1) / 20 * 20)) (fun μ14 => some μ14) else sh_let (sh_setI μ12 63 2 ((sh_i μ12 63 2) + 1)) (fun μ15 => some μ15))) else none)) else none) else none) else none) else none)) else none))
theorem gp_X4_remember {q1 : Nat} {μ μ' : sh_Mem} (hG : sh_G μ) (hq1 : sh_isL q1) (h : f_X4_remember q1 μ = some μ') : sh_G μ' := by
  unfold f_X4_remember at h
  obtain ⟨x1, ex1⟩ : ∃ y : Int32, y = (((sh_i μ 63 3) + (sh_i μ 63 2)) - ((sh_i μ 63 3) + (sh_i μ 63 2)) / 20 * 20) := ⟨_, rfl⟩
  rw [sh_let_eq ex1] at h
  obtain ⟨k2, h⟩ := sh_chk h
  obtain ⟨μ3, hr4, h⟩ := sh_bindv_e h
  have hG3 := gp_X3_copyFrom hG (gRL_65 k2) hq1 hr4
  obtain ⟨k6, h⟩ := sh_chk h
  obtain ⟨k7, h⟩ := sh_chk h
  obtain ⟨k8, h⟩ := sh_chk h
  obtain ⟨k9, h⟩ := sh_chk h
  obtain ⟨μ10, eμ10⟩ : ∃ y : sh_Mem, y = (sh_rowI μ3 (67 + x1.toNatClampNeg) (va_cpy (sh_i μ3 64) (sh_i μ3 (67 + x1.toNatClampNeg)) (Int32.toNatClampNeg 0) (Int32.toNatClampNeg 0) ((Int32.ofNat 160)).toNatClampNeg)) := ⟨_, rfl⟩
  rw [sh_let_eq eμ10] at h
  have hG10 : sh_G μ10 := by rw [eμ10]; exact hG3
  obtain ⟨k11, h⟩ := sh_chk h
  obtain ⟨μ12, eμ12⟩ : ∃ y : sh_Mem, y = (sh_setI μ10 87 x1.toNatClampNeg (sh_i μ10 63 1)) := ⟨_, rfl⟩
  rw [sh_let_eq eμ12] at h
  have hG12 : sh_G μ12 := by rw [eμ12]; exact hG10
  by_cases c13 : 20 ≤ (sh_i μ12 63 2)
  · rw [if_pos c13] at h
    obtain ⟨μ14, eμ14⟩ : ∃ y : sh_Mem, y = (sh_setI μ12 63 3 (((sh_i μ12 63 3) + 1) - ((sh_i μ12 63 3) + 1) / 20 * 20)) := ⟨_, rfl⟩
    rw [sh_let_eq eμ14] at h
    have hG14 : sh_G μ14 := by rw [eμ14]; exact hG12
    have e2 := Option.some.inj h
    exact e2 ▸ hG14
  · rw [if_neg c13] at h
    obtain ⟨μ15, eμ15⟩ : ∃ y : sh_Mem, y = (sh_setI μ12 63 2 ((sh_i μ12 63 2) + 1)) := ⟨_, rfl⟩
    rw [sh_let_eq eμ15] at h
    have hG15 : sh_G μ15 := by rw [eμ15]; exact hG12
    have e2 := Option.some.inj h
    exact e2 ▸ hG15
theorem t_X4_remember {q1 : Nat} {μ μ' : sh_Mem} (hG : sh_G μ) (hq1 : sh_isL q1) (h : f_X4_remember q1 μ = some μ') : sh_C0 l B D ca 2 M_X4_remember [.ref 63, .ref q1] μ (fun v0 μ0 => v0 = none ∧ μ0 = μ') := by
  unfold f_X4_remember at h
  refine vv_aload_n 0 0 dX4_remember_0 rfl rfl ?_
  refine vv_getI 1 dX4_remember_1 fl_4_43 rfl (g_l_63 hG) ?_
  refine vv_aload_n 4 0 dX4_remember_4 rfl rfl ?_
  refine vv_getI 5 dX4_remember_5 fl_4_34 rfl (g_l_63 hG) ?_
  refine vv_iadd 8 dX4_remember_8 ?_
  refine vv_bipush 9 dX4_remember_9 bk_20 ?_
  refine vv_irem 11 dX4_remember_11 (by decide) ?_
  refine vv_topi (fun x1 ex1 => ?_)
  rw [sh_let_eq ex1] at h
  refine vv_istore_n (lv' := [(2, _), (0, _), (1, _)]) 12 2 dX4_remember_12 rfl (by decide) rfl ?_
  refine vv_aload_n 13 0 dX4_remember_13 rfl rfl ?_
  refine vv_getR 14 dX4_remember_14 fl_4_17 rfl (g_l_63 hG) (g_r_63_4 hG) ?_
  refine vv_iload_n 17 2 dX4_remember_17 rfl rfl ?_
  obtain ⟨k2, h⟩ := sh_chk h
  refine vv_aald 18 dX4_remember_18 (g_l_65 hG) k2 (gR_65 hG k2) ?_
  refine vv_aload_n 19 1 dX4_remember_19 rfl rfl ?_
  obtain ⟨μ3, hr4, h⟩ := sh_bindv_e h
  refine v1_callV [_] 20 dX4_remember_20 ck_X4_46 (gL_l hG (gRL_65 k2)) ⟨by decide, rfl⟩ (t_X3_copyFrom hG (gRL_65 k2) hq1 hr4) (Nat.le_of_ble_eq_true rfl) ⟨Nat.le_of_ble_eq_true rfl, Nat.le_of_ble_eq_true rfl⟩ rfl (Nat.le_of_ble_eq_true rfl) ?_
  have hG3 := gp_X3_copyFrom hG (gRL_65 k2) hq1 hr4
  refine vv_aload_n 23 0 dX4_remember_23 rfl rfl ?_
  refine vv_getR 24 dX4_remember_24 fl_4_9 rfl (g_l_63 hG3) (g_r_63_0 hG3) ?_
  refine vv_iconst 27 dX4_remember_27 ik_0 ?_
  refine vv_aload_n 28 0 dX4_remember_28 rfl rfl ?_
  refine vv_getR 29 dX4_remember_29 fl_4_23 rfl (g_l_63 hG3) (g_r_63_5 hG3) ?_
  refine vv_iload_n 32 2 dX4_remember_32 rfl rfl ?_
  obtain ⟨k6, h⟩ := sh_chk h
  refine vv_aaldq 33 dX4_remember_33 (g_l_66 hG3) k6 (gR_66 hG3 k6) ?_
  refine vv_iconst 34 dX4_remember_34 ik_0 ?_
  refine vv_aload_n 35 0 dX4_remember_35 rfl rfl ?_
  refine vv_getR 36 dX4_remember_36 fl_4_9 rfl (g_l_63 hG3) (g_r_63_0 hG3) ?_
  refine vv_alen 39 dX4_remember_39 (g_l_64 hG3) (by decide) ?_
  obtain ⟨k7, h⟩ := sh_chk h
  obtain ⟨k8, h⟩ := sh_chk h
  obtain ⟨k9, h⟩ := sh_chk h
  refine vn_copy 40 dX4_remember_40 ck_X4_37 (g_l_64 hG3) (gA_l hG3 (gRL_66 k6)) (by decide) (by decide) k7 k8 k9 (Nat.le_of_ble_eq_true rfl) (Nat.le_of_ble_eq_true rfl) (fun μ10 eμ10 => ?_)
  rw [sh_let_eq eμ10] at h
  have hG10 : sh_G μ10 := by rw [eμ10]; exact hG3
  refine vv_aload_n 43 0 dX4_remember_43 rfl rfl ?_
  refine vv_getR 44 dX4_remember_44 fl_4_26 rfl (g_l_63 hG10) (g_r_63_6 hG10) ?_
  refine vv_iload_n 47 2 dX4_remember_47 rfl rfl ?_
  refine vv_aload_n 48 0 dX4_remember_48 rfl rfl ?_
  refine vv_getI 49 dX4_remember_49 fl_4_30 rfl (g_l_63 hG10) ?_
  obtain ⟨k11, h⟩ := sh_chk h
  refine vn_iast 52 dX4_remember_52 (g_l_87 hG10) k11 (fun μ12 eμ12 => ?_)
  rw [sh_let_eq eμ12] at h
  have hG12 : sh_G μ12 := by rw [eμ12]; exact hG10
  refine vv_aload_n 53 0 dX4_remember_53 rfl rfl ?_
  refine vv_getI 54 dX4_remember_54 fl_4_34 rfl (g_l_63 hG12) ?_
  refine vv_bipush 57 dX4_remember_57 bk_20 ?_
  refine vv_icmp_ge 59 75 dX4_remember_59 (by decide) (fun c13 => ?_) (fun c13 => ?_)
  · rw [if_pos c13] at h
    refine vv_aload_n 75 0 dX4_remember_75 rfl rfl ?_
    refine vv_aload_n 76 0 dX4_remember_76 rfl rfl ?_
    refine vv_getI 77 dX4_remember_77 fl_4_43 rfl (g_l_63 hG12) ?_
    refine vv_iconst 80 dX4_remember_80 ik_1 ?_
    refine vv_iadd 81 dX4_remember_81 ?_
    refine vv_bipush 82 dX4_remember_82 bk_20 ?_
    refine vv_irem 84 dX4_remember_84 (by decide) ?_
    refine vn_putI 85 dX4_remember_85 fl_4_43 (Or.inl rfl) rfl (g_l_63 hG12) (fun μ14 eμ14 => ?_)
    rw [sh_let_eq eμ14] at h
    have hG14 : sh_G μ14 := by rw [eμ14]; exact hG12
    have e2 := Option.some.inj h
    refine vv_vret 88 dX4_remember_88 rfl (Nat.le_refl _) (Nat.le_refl _) ⟨rfl, e2⟩
  · rw [if_neg c13] at h
    refine vv_aload_n 62 0 dX4_remember_62 rfl rfl ?_
    refine vv_dup_ref 63 dX4_remember_63 ?_
    refine vv_getI 64 dX4_remember_64 fl_4_34 rfl (g_l_63 hG12) ?_
    refine vv_iconst 67 dX4_remember_67 ik_1 ?_
    refine vv_iadd 68 dX4_remember_68 ?_
    refine vn_putI 69 dX4_remember_69 fl_4_34 (Or.inl rfl) rfl (g_l_63 hG12) (fun μ15 eμ15 => ?_)
    rw [sh_let_eq eμ15] at h
    have hG15 : sh_G μ15 := by rw [eμ15]; exact hG12
    refine vv_goto 72 88 dX4_remember_72 (by decide) ?_
    have e2 := Option.some.inj h
    refine vv_vret 88 dX4_remember_88 rfl (Nat.le_refl _) (Nat.le_refl _) ⟨rfl, e2⟩
noncomputable def f_X4_goBack (q1 : Nat) (μ : sh_Mem) : Option (Int32 × sh_Mem) := (if (sh_i μ 63 2) = 0 then some (0, μ) else sh_let (sh_setI μ 63 2 ((sh_i μ 63 2) - 1)) (fun μ2 => sh_let ((((sh_i μ2 63 3) + (sh_i μ2 63 2)) - ((sh_i μ2 63 3) + (sh_i μ2 63 2)) / 20 * 20) : Int32) (fun x3 => (if sh_in x3 20 then sh_bindv (f_X3_copyFrom q1 (88 + 6 * x3.toNatClampNeg) μ2) (fun μ5 => (if sh_in x3 20 then (if ¬ (Int32.ofNat 160) < 0 then (if (Int32.toNatClampNeg 0) + ((Int32.ofNat 160)).toNatClampNeg ≤ 160 then (if (Int32.toNatClampNeg 0) + ((Int32.ofNat 160)).toNatClampNeg ≤ 160 then sh_let (sh_rowI μ5 64 (va_cpy (sh_i μ5 (67 + x3.toNatClampNeg)) (sh_i μ5 64) (Int32.toNatClampNeg 0) (Int32.toNatClampNeg 0) ((Int32.ofNat 160)).toNatClampNeg)) (fun μ12 => (if sh_in x3 20 then sh_let (sh_setI μ12 63 1 (sh_i μ12 87 x3.toNatClampNeg)) (fun μ14 => some (1, μ14)) else none)) else none) else none) else none) else none)) else none))))
theorem gp_X4_goBack {q1 : Nat} {μ μ' : sh_Mem} {v : Int32} (hG : sh_G μ) (hq1 : sh_isL q1) (h : f_X4_goBack q1 μ = some (v, μ')) : sh_G μ' := by
  unfold f_X4_goBack at h
  by_cases c1 : (sh_i μ 63 2) = 0
  · rw [if_pos c1] at h
    obtain ⟨e1, e2⟩ := sh_some2 h
    exact e2 ▸ hG
  · rw [if_neg c1] at h
    obtain ⟨μ2, eμ2⟩ : ∃ y : sh_Mem, y = (sh_setI μ 63 2 ((sh_i μ 63 2) - 1)) := ⟨_, rfl⟩
    rw [sh_let_eq eμ2] at h
    have hG2 : sh_G μ2 := by rw [eμ2]; exact hG
    obtain ⟨x3, ex3⟩ : ∃ y : Int32, y = (((sh_i μ2 63 3) + (sh_i μ2 63 2)) - ((sh_i μ2 63 3) + (sh_i μ2 63 2)) / 20 * 20) := ⟨_, rfl⟩
    rw [sh_let_eq ex3] at h
    obtain ⟨k4, h⟩ := sh_chk h
    obtain ⟨μ5, hr6, h⟩ := sh_bindv_e h
    have hG5 := gp_X3_copyFrom hG2 hq1 (gRL_65 k4) hr6
    obtain ⟨k8, h⟩ := sh_chk h
    obtain ⟨k9, h⟩ := sh_chk h
    obtain ⟨k10, h⟩ := sh_chk h
    obtain ⟨k11, h⟩ := sh_chk h
    obtain ⟨μ12, eμ12⟩ : ∃ y : sh_Mem, y = (sh_rowI μ5 64 (va_cpy (sh_i μ5 (67 + x3.toNatClampNeg)) (sh_i μ5 64) (Int32.toNatClampNeg 0) (Int32.toNatClampNeg 0) ((Int32.ofNat 160)).toNatClampNeg)) := ⟨_, rfl⟩
    rw [sh_let_eq eμ12] at h
    have hG12 : sh_G μ12 := by rw [eμ12]; exact hG5
    obtain ⟨k13, h⟩ := sh_chk h
    obtain ⟨μ14, eμ14⟩ : ∃ y : sh_Mem, y = (sh_setI μ12 63 1 (sh_i μ12 87 x3.toNatClampNeg)) := ⟨_, rfl⟩
    rw [sh_let_eq eμ14] at h
    have hG14 : sh_G μ14 := by rw [eμ14]; exact hG12
    obtain ⟨e1, e2⟩ := sh_some2 h
    exact e2 ▸ hG14
theorem t_X4_goBack {q1 : Nat} {μ μ' : sh_Mem} {v : Int32} (hG : sh_G μ) (hq1 : sh_isL q1) (h : f_X4_goBack q1 μ = some (v, μ')) : sh_C0 l B D ca 2 M_X4_goBack [.ref 63, .ref q1] μ (fun v0 μ0 => v0 = some (.int v) ∧ μ0 = μ') := by
  unfold f_X4_goBack at h
  refine vv_aload_n 0 0 dX4_goBack_0 rfl rfl ?_
  refine vv_getI 1 dX4_goBack_1 fl_4_34 rfl (g_l_63 hG) ?_
  refine vv_if_ne 4 9 dX4_goBack_4 (by decide) (fun c1 => ?_) (fun c1 => ?_)
  · rw [if_neg c1] at h
    refine vv_aload_n 9 0 dX4_goBack_9 rfl rfl ?_
    refine vv_dup_ref 10 dX4_goBack_10 ?_
    refine vv_getI 11 dX4_goBack_11 fl_4_34 rfl (g_l_63 hG) ?_
    refine vv_iconst 14 dX4_goBack_14 ik_1 ?_
    refine vv_isub 15 dX4_goBack_15 ?_
    refine vn_putI 16 dX4_goBack_16 fl_4_34 (Or.inl rfl) rfl (g_l_63 hG) (fun μ2 eμ2 => ?_)
    rw [sh_let_eq eμ2] at h
    have hG2 : sh_G μ2 := by rw [eμ2]; exact hG
    refine vv_aload_n 19 0 dX4_goBack_19 rfl rfl ?_
    refine vv_getI 20 dX4_goBack_20 fl_4_43 rfl (g_l_63 hG2) ?_
    refine vv_aload_n 23 0 dX4_goBack_23 rfl rfl ?_
    refine vv_getI 24 dX4_goBack_24 fl_4_34 rfl (g_l_63 hG2) ?_
    refine vv_iadd 27 dX4_goBack_27 ?_
    refine vv_bipush 28 dX4_goBack_28 bk_20 ?_
    refine vv_irem 30 dX4_goBack_30 (by decide) ?_
    refine vv_topi (fun x3 ex3 => ?_)
    rw [sh_let_eq ex3] at h
    refine vv_istore_n (lv' := [(2, _), (0, _), (1, _)]) 31 2 dX4_goBack_31 rfl (by decide) rfl ?_
    refine vv_aload_n 32 1 dX4_goBack_32 rfl rfl ?_
    refine vv_aload_n 33 0 dX4_goBack_33 rfl rfl ?_
    refine vv_getR 34 dX4_goBack_34 fl_4_17 rfl (g_l_63 hG2) (g_r_63_4 hG2) ?_
    refine vv_iload_n 37 2 dX4_goBack_37 rfl rfl ?_
    obtain ⟨k4, h⟩ := sh_chk h
    refine vv_aald 38 dX4_goBack_38 (g_l_65 hG2) k4 (gR_65 hG2 k4) ?_
    obtain ⟨μ5, hr6, h⟩ := sh_bindv_e h
    refine v1_callV [_] 39 dX4_goBack_39 ck_X4_46 (gL_l hG2 hq1) ⟨by decide, rfl⟩ (t_X3_copyFrom hG2 hq1 (gRL_65 k4) hr6) (Nat.le_of_ble_eq_true rfl) ⟨Nat.le_of_ble_eq_true rfl, Nat.le_of_ble_eq_true rfl⟩ rfl (Nat.le_of_ble_eq_true rfl) ?_
    have hG5 := gp_X3_copyFrom hG2 hq1 (gRL_65 k4) hr6
    refine vv_aload_n 42 0 dX4_goBack_42 rfl rfl ?_
    refine vv_getR 43 dX4_goBack_43 fl_4_23 rfl (g_l_63 hG5) (g_r_63_5 hG5) ?_
    refine vv_iload_n 46 2 dX4_goBack_46 rfl rfl ?_
    obtain ⟨k8, h⟩ := sh_chk h
    refine vv_aaldq 47 dX4_goBack_47 (g_l_66 hG5) k8 (gR_66 hG5 k8) ?_
    refine vv_iconst 48 dX4_goBack_48 ik_0 ?_
    refine vv_aload_n 49 0 dX4_goBack_49 rfl rfl ?_
    refine vv_getR 50 dX4_goBack_50 fl_4_9 rfl (g_l_63 hG5) (g_r_63_0 hG5) ?_
    refine vv_iconst 53 dX4_goBack_53 ik_0 ?_
    refine vv_aload_n 54 0 dX4_goBack_54 rfl rfl ?_
    refine vv_getR 55 dX4_goBack_55 fl_4_9 rfl (g_l_63 hG5) (g_r_63_0 hG5) ?_
    refine vv_alen 58 dX4_goBack_58 (g_l_64 hG5) (by decide) ?_
    obtain ⟨k9, h⟩ := sh_chk h
    obtain ⟨k10, h⟩ := sh_chk h
    obtain ⟨k11, h⟩ := sh_chk h
    refine vn_copy 59 dX4_goBack_59 ck_X4_37 (gA_l hG5 (gRL_66 k8)) (g_l_64 hG5) (by decide) (by decide) k9 k10 k11 (Nat.le_of_ble_eq_true rfl) (Nat.le_of_ble_eq_true rfl) (fun μ12 eμ12 => ?_)
    rw [sh_let_eq eμ12] at h
    have hG12 : sh_G μ12 := by rw [eμ12]; exact hG5
    refine vv_aload_n 62 0 dX4_goBack_62 rfl rfl ?_
    refine vv_aload_n 63 0 dX4_goBack_63 rfl rfl ?_
    refine vv_getR 64 dX4_goBack_64 fl_4_26 rfl (g_l_63 hG12) (g_r_63_6 hG12) ?_
    refine vv_iload_n 67 2 dX4_goBack_67 rfl rfl ?_
    obtain ⟨k13, h⟩ := sh_chk h
    refine vv_iald 68 dX4_goBack_68 (g_l_87 hG12) k13 ?_
    refine vn_putI 69 dX4_goBack_69 fl_4_30 (Or.inl rfl) rfl (g_l_63 hG12) (fun μ14 eμ14 => ?_)
    rw [sh_let_eq eμ14] at h
    have hG14 : sh_G μ14 := by rw [eμ14]; exact hG12
    refine vv_iconst 72 dX4_goBack_72 ik_1 ?_
    obtain ⟨e1, e2⟩ := sh_some2 h
    refine vv_zret 73 dX4_goBack_73 rfl rfl (Nat.le_refl _) (Nat.le_refl _) ⟨by rw [e1], e2⟩
  · rw [if_pos c1] at h
    refine vv_iconst 7 dX4_goBack_7 ik_0 ?_
    obtain ⟨e1, e2⟩ := sh_some2 h
    refine vv_zret 8 dX4_goBack_8 rfl rfl (Nat.le_refl _) (Nat.le_refl _) ⟨by rw [e1], e2⟩
def f_X5_cells (μ : sh_Mem) (p : Nat) : Int32 := ((sh_i μ p 0) * (sh_i μ p 1))
theorem c_X5_cells (hG : sh_G μ) {p : Nat} (hp : sh_isP p) : sh_C0 l B D ca 1 M_X5_cells [.ref p] μ (fun v μ' => v = some (.int (f_X5_cells μ p)) ∧ μ' = μ) := by
  refine vv_aload_n 0 0 dX5_cells_0 rfl rfl ?_
  refine vv_getI 1 dX5_cells_1 fl_5_44 rfl (gP_l hG hp) ?_
  refine vv_aload_n 4 0 dX5_cells_4 rfl rfl ?_
  refine vv_getI 5 dX5_cells_5 fl_5_48 rfl (gP_l hG hp) ?_
  refine vv_imul 8 dX5_cells_8 ?_
  refine vv_iret 9 dX5_cells_9 rfl (Nat.le_refl _) (Nat.le_refl _) ?_
  exact ⟨rfl, rfl⟩
def f_X5_cellAt (μ : sh_Mem) (p : Nat) (a1 : Int32) (a2 : Int32) : Int32 := (if a1 < 0 then (-1) else (if (sh_i μ p 0) ≤ a1 then (-1) else (if a2 < 0 then (-1) else (if a2 < (sh_i μ p 1) then ((a2 * (sh_i μ p 0)) + a1) else (-1)))))
theorem c_X5_cellAt (hG : sh_G μ) {p : Nat} (hp : sh_isP p) {a1 : Int32} {a2 : Int32} : sh_C0 l B D ca 1 M_X5_cellAt [.ref p, .int a1, .int a2] μ (fun v μ' => v = some (.int (f_X5_cellAt μ p a1 a2)) ∧ μ' = μ) := by
  refine vv_iload_n 0 1 dX5_cellAt_0 rfl rfl ?_
  refine vv_if_lt 1 24 dX5_cellAt_1 (by decide) (fun h1 => ?_) (fun h1 => ?_)
  · refine vv_iconst 24 dX5_cellAt_24 ik_m1 ?_
    refine vv_goto 25 36 dX5_cellAt_25 (by decide) ?_
    refine vv_iret 36 dX5_cellAt_36 rfl (Nat.le_refl _) (Nat.le_refl _) ?_
    exact ⟨by show some _ = some (Value.int (f_X5_cellAt μ p a1 a2)); unfold f_X5_cellAt; rw [if_pos h1], rfl⟩
  · refine vv_iload_n 4 1 dX5_cellAt_4 rfl rfl ?_
    refine vv_aload_n 5 0 dX5_cellAt_5 rfl rfl ?_
    refine vv_getI 6 dX5_cellAt_6 fl_5_44 rfl (gP_l hG hp) ?_
    refine vv_icmp_ge 9 24 dX5_cellAt_9 (by decide) (fun h2 => ?_) (fun h2 => ?_)
    · refine vv_iconst 24 dX5_cellAt_24 ik_m1 ?_
      refine vv_goto 25 36 dX5_cellAt_25 (by decide) ?_
      refine vv_iret 36 dX5_cellAt_36 rfl (Nat.le_refl _) (Nat.le_refl _) ?_
      exact ⟨by show some _ = some (Value.int (f_X5_cellAt μ p a1 a2)); unfold f_X5_cellAt; rw [if_neg h1, if_pos h2], rfl⟩
    · refine vv_iload_n 12 2 dX5_cellAt_12 rfl rfl ?_
      refine vv_if_lt 13 24 dX5_cellAt_13 (by decide) (fun h3 => ?_) (fun h3 => ?_)
      · refine vv_iconst 24 dX5_cellAt_24 ik_m1 ?_
        refine vv_goto 25 36 dX5_cellAt_25 (by decide) ?_
        refine vv_iret 36 dX5_cellAt_36 rfl (Nat.le_refl _) (Nat.le_refl _) ?_
        exact ⟨by show some _ = some (Value.int (f_X5_cellAt μ p a1 a2)); unfold f_X5_cellAt; rw [if_neg h1, if_neg h2, if_pos h3], rfl⟩
      · refine vv_iload_n 16 2 dX5_cellAt_16 rfl rfl ?_
        refine vv_aload_n 17 0 dX5_cellAt_17 rfl rfl ?_
        refine vv_getI 18 dX5_cellAt_18 fl_5_48 rfl (gP_l hG hp) ?_
        refine vv_icmp_lt 21 28 dX5_cellAt_21 (by decide) (fun h4 => ?_) (fun h4 => ?_)
        · refine vv_iload_n 28 2 dX5_cellAt_28 rfl rfl ?_
          refine vv_aload_n 29 0 dX5_cellAt_29 rfl rfl ?_
          refine vv_getI 30 dX5_cellAt_30 fl_5_44 rfl (gP_l hG hp) ?_
          refine vv_imul 33 dX5_cellAt_33 ?_
          refine vv_iload_n 34 1 dX5_cellAt_34 rfl rfl ?_
          refine vv_iadd 35 dX5_cellAt_35 ?_
          refine vv_iret 36 dX5_cellAt_36 rfl (Nat.le_refl _) (Nat.le_refl _) ?_
          exact ⟨by show some _ = some (Value.int (f_X5_cellAt μ p a1 a2)); unfold f_X5_cellAt; rw [if_neg h1, if_neg h2, if_neg h3, if_pos h4], rfl⟩
        · refine vv_iconst 24 dX5_cellAt_24 ik_m1 ?_
          refine vv_goto 25 36 dX5_cellAt_25 (by decide) ?_
          refine vv_iret 36 dX5_cellAt_36 rfl (Nat.le_refl _) (Nat.le_refl _) ?_
          exact ⟨by show some _ = some (Value.int (f_X5_cellAt μ p a1 a2)); unfold f_X5_cellAt; rw [if_neg h1, if_neg h2, if_neg h3, if_neg h4], rfl⟩
noncomputable def f_X5_cellOf (p : Nat) (a1 : Int32) (μ : sh_Mem) : Option (Int32 × sh_Mem) := (if 0 ≤ a1 then some ((f_X5_cellAt μ p (a1 - a1 / 8 * 8) (a1 / 8)), μ) else some ((-1), μ))
theorem gp_X5_cellOf {p : Nat} {a1 : Int32} {μ μ' : sh_Mem} {v : Int32} (hG : sh_G μ) (hp : sh_isP p) (h : f_X5_cellOf p a1 μ = some (v, μ')) : sh_G μ' := by
  unfold f_X5_cellOf at h
  by_cases c1 : 0 ≤ a1
  · rw [if_pos c1] at h
    obtain ⟨e1, e2⟩ := sh_some2 h
    exact e2 ▸ hG
  · rw [if_neg c1] at h
    obtain ⟨e1, e2⟩ := sh_some2 h
    exact e2 ▸ hG
theorem t_X5_cellOf {p : Nat} {a1 : Int32} {μ μ' : sh_Mem} {v : Int32} (hG : sh_G μ) (hp : sh_isP p) (h : f_X5_cellOf p a1 μ = some (v, μ')) : sh_C0 l B D ca 2 M_X5_cellOf [.ref p, .int a1] μ (fun v0 μ0 => v0 = some (.int v) ∧ μ0 = μ') := by
  unfold f_X5_cellOf at h
  refine vv_iload_n 0 1 dX5_cellOf_0 rfl rfl ?_
  refine vv_if_ge 1 8 dX5_cellOf_1 (by decide) (fun c1 => ?_) (fun c1 => ?_)
  · rw [if_pos c1] at h
    refine vv_aload_n 8 0 dX5_cellOf_8 rfl rfl ?_
    refine vv_iload_n 9 1 dX5_cellOf_9 rfl rfl ?_
    refine vv_bipush 10 dX5_cellOf_10 bk_8 ?_
    refine vv_irem 12 dX5_cellOf_12 (by decide) ?_
    refine vv_iload_n 13 1 dX5_cellOf_13 rfl rfl ?_
    refine vv_bipush 14 dX5_cellOf_14 bk_8 ?_
    refine vv_idiv 16 dX5_cellOf_16 (by decide) ?_
    refine v1_callV [_, _] 17 dX5_cellOf_17 ck_X5_95 (gP_l hG hp) ⟨by decide, rfl⟩ (c_X5_cellAt (μ := μ) hG hp) (Nat.le_of_ble_eq_true rfl) ⟨Nat.le_of_ble_eq_true rfl, Nat.le_of_ble_eq_true rfl⟩ rfl (Nat.le_of_ble_eq_true rfl) ?_
    obtain ⟨e1, e2⟩ := sh_some2 h
    refine vv_iret 20 dX5_cellOf_20 rfl (Nat.le_refl _) (Nat.le_refl _) ⟨by rw [e1], e2⟩
  · rw [if_neg c1] at h
    refine vv_iconst 4 dX5_cellOf_4 ik_m1 ?_
    refine vv_goto 5 20 dX5_cellOf_5 (by decide) ?_
    obtain ⟨e1, e2⟩ := sh_some2 h
    refine vv_iret 20 dX5_cellOf_20 rfl (Nat.le_refl _) (Nat.le_refl _) ⟨by rw [e1], e2⟩
noncomputable def f_X5_numberOf (p : Nat) (a1 : Int32) (μ : sh_Mem) : Option (Int32 × sh_Mem) := (if a1 < 0 then some ((-1), μ) else (if 1 ≤ (sh_i μ p 0) then (if ¬ (sh_i μ p 0) = 0 then (if ¬ (sh_i μ p 0) = 0 then some ((((a1 / (sh_i μ p 0)) * 8) + (a1 - a1 / (sh_i μ p 0) * (sh_i μ p 0))), μ) else none) else none) else some ((-1), μ)))
theorem gp_X5_numberOf {p : Nat} {a1 : Int32} {μ μ' : sh_Mem} {v : Int32} (hG : sh_G μ) (hp : sh_isP p) (h : f_X5_numberOf p a1 μ = some (v, μ')) : sh_G μ' := by
  unfold f_X5_numberOf at h
  by_cases c1 : a1 < 0
  · rw [if_pos c1] at h
    obtain ⟨e1, e2⟩ := sh_some2 h
    exact e2 ▸ hG
  · rw [if_neg c1] at h
    by_cases c2 : 1 ≤ (sh_i μ p 0)
    · rw [if_pos c2] at h
      obtain ⟨k3, h⟩ := sh_chk h
      obtain ⟨k4, h⟩ := sh_chk h
      obtain ⟨e1, e2⟩ := sh_some2 h
      exact e2 ▸ hG
    · rw [if_neg c2] at h
      obtain ⟨e1, e2⟩ := sh_some2 h
      exact e2 ▸ hG
theorem t_X5_numberOf {p : Nat} {a1 : Int32} {μ μ' : sh_Mem} {v : Int32} (hG : sh_G μ) (hp : sh_isP p) (h : f_X5_numberOf p a1 μ = some (v, μ')) : sh_C0 l B D ca 1 M_X5_numberOf [.ref p, .int a1] μ (fun v0 μ0 => v0 = some (.int v) ∧ μ0 = μ') := by
  unfold f_X5_numberOf at h
  refine vv_iload_n 0 1 dX5_numberOf_0 rfl rfl ?_
  refine vv_if_lt 1 12 dX5_numberOf_1 (by decide) (fun c1 => ?_) (fun c1 => ?_)
  · rw [if_pos c1] at h
    refine vv_iconst 12 dX5_numberOf_12 ik_m1 ?_
    refine vv_goto 13 32 dX5_numberOf_13 (by decide) ?_
    obtain ⟨e1, e2⟩ := sh_some2 h
    refine vv_iret 32 dX5_numberOf_32 rfl (Nat.le_refl _) (Nat.le_refl _) ⟨by rw [e1], e2⟩
  · rw [if_neg c1] at h
    refine vv_aload_n 4 0 dX5_numberOf_4 rfl rfl ?_
    refine vv_getI 5 dX5_numberOf_5 fl_5_44 rfl (gP_l hG hp) ?_
    refine vv_iconst 8 dX5_numberOf_8 ik_1 ?_
    refine vv_icmp_ge 9 16 dX5_numberOf_9 (by decide) (fun c2 => ?_) (fun c2 => ?_)
    · rw [if_pos c2] at h
      refine vv_iload_n 16 1 dX5_numberOf_16 rfl rfl ?_
      refine vv_aload_n 17 0 dX5_numberOf_17 rfl rfl ?_
      refine vv_getI 18 dX5_numberOf_18 fl_5_44 rfl (gP_l hG hp) ?_
      obtain ⟨k3, h⟩ := sh_chk h
      refine vv_idiv 21 dX5_numberOf_21 k3 ?_
      refine vv_bipush 22 dX5_numberOf_22 bk_8 ?_
      refine vv_imul 24 dX5_numberOf_24 ?_
      refine vv_iload_n 25 1 dX5_numberOf_25 rfl rfl ?_
      refine vv_aload_n 26 0 dX5_numberOf_26 rfl rfl ?_
      refine vv_getI 27 dX5_numberOf_27 fl_5_44 rfl (gP_l hG hp) ?_
      obtain ⟨k4, h⟩ := sh_chk h
      refine vv_irem 30 dX5_numberOf_30 k4 ?_
      refine vv_iadd 31 dX5_numberOf_31 ?_
      obtain ⟨e1, e2⟩ := sh_some2 h
      refine vv_iret 32 dX5_numberOf_32 rfl (Nat.le_refl _) (Nat.le_refl _) ⟨by rw [e1], e2⟩
    · rw [if_neg c2] at h
      refine vv_iconst 12 dX5_numberOf_12 ik_m1 ?_
      refine vv_goto 13 32 dX5_numberOf_13 (by decide) ?_
      obtain ⟨e1, e2⟩ := sh_some2 h
      refine vv_iret 32 dX5_numberOf_32 rfl (Nat.le_refl _) (Nat.le_refl _) ⟨by rw [e1], e2⟩
noncomputable def f_X5_nextTo (p : Nat) (a1 : Int32) (a2 : Int32) (μ : sh_Mem) : Option (Int32 × sh_Mem) := (if 1 ≤ (sh_i μ p 0) then (if ¬ (sh_i μ p 0) = 0 then sh_let ((a1 - a1 / (sh_i μ p 0) * (sh_i μ p 0)) : Int32) (fun x3 => (if a2 = 0 then (if a1 < (sh_i μ p 0) then some ((-1), μ) else some ((a1 - (sh_i μ p 0)), μ)) else (if a2 = 1 then (if x3 ≤ 0 then some ((-1), μ) else some ((a1 - 1), μ)) else (if a2 = 2 then (if (sh_i μ p 0) ≤ (x3 + 1) then some ((-1), μ) else some ((a1 + 1), μ)) else (if (f_X5_cells μ p) ≤ (a1 + (sh_i μ p 0)) then some ((-1), μ) else some ((a1 + (sh_i μ p 0)), μ)))))) else none) else (if a2 = 0 then (if a1 < (sh_i μ p 0) then some ((-1), μ) else some ((a1 - (sh_i μ p 0)), μ)) else (if a2 = 1 then some ((-1), μ) else (if a2 = 2 then (if (sh_i μ p 0) ≤ ((0 : Int32) + 1) then some ((-1), μ) else some ((a1 + 1), μ)) else (if (f_X5_cells μ p) ≤ (a1 + (sh_i μ p 0)) then some ((-1), μ) else some ((a1 + (sh_i μ p 0)), μ))))))
theorem gp_X5_nextTo {p : Nat} {a1 : Int32} {a2 : Int32} {μ μ' : sh_Mem} {v : Int32} (hG : sh_G μ) (hp : sh_isP p) (h : f_X5_nextTo p a1 a2 μ = some (v, μ')) : sh_G μ' := by
  unfold f_X5_nextTo at h
  by_cases c1 : 1 ≤ (sh_i μ p 0)
  · rw [if_pos c1] at h
    obtain ⟨k2, h⟩ := sh_chk h
    obtain ⟨x3, ex3⟩ : ∃ y : Int32, y = (a1 - a1 / (sh_i μ p 0) * (sh_i μ p 0)) := ⟨_, rfl⟩
    rw [sh_let_eq ex3] at h
    by_cases c4 : a2 = 0
    · rw [if_pos c4] at h
      by_cases c5 : a1 < (sh_i μ p 0)
      · rw [if_pos c5] at h
        obtain ⟨e1, e2⟩ := sh_some2 h
        exact e2 ▸ hG
      · rw [if_neg c5] at h
        obtain ⟨e1, e2⟩ := sh_some2 h
        exact e2 ▸ hG
    rw [if_neg c4] at h
    by_cases c6 : a2 = 1
    · rw [if_pos c6] at h
      by_cases c7 : x3 ≤ 0
      · rw [if_pos c7] at h
        obtain ⟨e1, e2⟩ := sh_some2 h
        exact e2 ▸ hG
      · rw [if_neg c7] at h
        obtain ⟨e1, e2⟩ := sh_some2 h
        exact e2 ▸ hG
    rw [if_neg c6] at h
    by_cases c8 : a2 = 2
    · rw [if_pos c8] at h
      by_cases c9 : (sh_i μ p 0) ≤ (x3 + 1)
      · rw [if_pos c9] at h
        obtain ⟨e1, e2⟩ := sh_some2 h
        exact e2 ▸ hG
      · rw [if_neg c9] at h
        obtain ⟨e1, e2⟩ := sh_some2 h
        exact e2 ▸ hG
    rw [if_neg c8] at h
    by_cases c10 : (f_X5_cells μ p) ≤ (a1 + (sh_i μ p 0))
    · rw [if_pos c10] at h
      obtain ⟨e1, e2⟩ := sh_some2 h
      exact e2 ▸ hG
    · rw [if_neg c10] at h
      obtain ⟨e1, e2⟩ := sh_some2 h
      exact e2 ▸ hG
  · rw [if_neg c1] at h
    by_cases c11 : a2 = 0
    · rw [if_pos c11] at h
      by_cases c12 : a1 < (sh_i μ p 0)
      · rw [if_pos c12] at h
        obtain ⟨e1, e2⟩ := sh_some2 h
        exact e2 ▸ hG
      · rw [if_neg c12] at h
        obtain ⟨e1, e2⟩ := sh_some2 h
        exact e2 ▸ hG
    rw [if_neg c11] at h
    by_cases c13 : a2 = 1
    · rw [if_pos c13] at h
      obtain ⟨e1, e2⟩ := sh_some2 h
      exact e2 ▸ hG
    rw [if_neg c13] at h
    by_cases c14 : a2 = 2
    · rw [if_pos c14] at h
      by_cases c15 : (sh_i μ p 0) ≤ ((0 : Int32) + 1)
      · rw [if_pos c15] at h
        obtain ⟨e1, e2⟩ := sh_some2 h
        exact e2 ▸ hG
      · rw [if_neg c15] at h
        obtain ⟨e1, e2⟩ := sh_some2 h
        exact e2 ▸ hG
    rw [if_neg c14] at h
    by_cases c16 : (f_X5_cells μ p) ≤ (a1 + (sh_i μ p 0))
    · rw [if_pos c16] at h
      obtain ⟨e1, e2⟩ := sh_some2 h
      exact e2 ▸ hG
    · rw [if_neg c16] at h
      obtain ⟨e1, e2⟩ := sh_some2 h
      exact e2 ▸ hG
theorem t_X5_nextTo {p : Nat} {a1 : Int32} {a2 : Int32} {μ μ' : sh_Mem} {v : Int32} (hG : sh_G μ) (hp : sh_isP p) (h : f_X5_nextTo p a1 a2 μ = some (v, μ')) : sh_C0 l B D ca 2 M_X5_nextTo [.ref p, .int a1, .int a2] μ (fun v0 μ0 => v0 = some (.int v) ∧ μ0 = μ') := by
  unfold f_X5_nextTo at h
  refine vv_aload_n 0 0 dX5_nextTo_0 rfl rfl ?_
  refine vv_getI 1 dX5_nextTo_1 fl_5_44 rfl (gP_l hG hp) ?_
  refine vv_iconst 4 dX5_nextTo_4 ik_1 ?_
  refine vv_icmp_ge 5 12 dX5_nextTo_5 (by decide) (fun c1 => ?_) (fun c1 => ?_)
  · rw [if_pos c1] at h
    refine vv_iload_n 12 1 dX5_nextTo_12 rfl rfl ?_
    refine vv_aload_n 13 0 dX5_nextTo_13 rfl rfl ?_
    refine vv_getI 14 dX5_nextTo_14 fl_5_44 rfl (gP_l hG hp) ?_
    obtain ⟨k2, h⟩ := sh_chk h
    refine vv_irem 17 dX5_nextTo_17 k2 ?_
    refine vv_topi (fun x3 ex3 => ?_)
    rw [sh_let_eq ex3] at h
    refine vv_istore_n (lv' := [(3, _), (0, _), (1, _), (2, _)]) 18 3 dX5_nextTo_18 rfl (by decide) rfl ?_
    refine vv_iload_n 19 2 dX5_nextTo_19 rfl rfl ?_
    by_cases c4 : a2 = 0
    · rw [if_pos c4] at h
      refine vv_tabIn 20 48 dX5_nextTo_20 (by rw [c4]; decide) (by rw [c4]; decide) (off := 28) (by rw [c4]; decide) (by decide) ?_
      refine vv_iload_n 48 1 dX5_nextTo_48 rfl rfl ?_
      refine vv_aload_n 49 0 dX5_nextTo_49 rfl rfl ?_
      refine vv_getI 50 dX5_nextTo_50 fl_5_44 rfl (gP_l hG hp) ?_
      refine vv_icmp_lt 53 65 dX5_nextTo_53 (by decide) (fun c5 => ?_) (fun c5 => ?_)
      · rw [if_pos c5] at h
        refine vv_iconst 65 dX5_nextTo_65 ik_m1 ?_
        obtain ⟨e1, e2⟩ := sh_some2 h
        refine vv_iret 66 dX5_nextTo_66 rfl (Nat.le_refl _) (Nat.le_refl _) ⟨by rw [e1], e2⟩
      · rw [if_neg c5] at h
        refine vv_iload_n 56 1 dX5_nextTo_56 rfl rfl ?_
        refine vv_aload_n 57 0 dX5_nextTo_57 rfl rfl ?_
        refine vv_getI 58 dX5_nextTo_58 fl_5_44 rfl (gP_l hG hp) ?_
        refine vv_isub 61 dX5_nextTo_61 ?_
        refine vv_goto 62 66 dX5_nextTo_62 (by decide) ?_
        obtain ⟨e1, e2⟩ := sh_some2 h
        refine vv_iret 66 dX5_nextTo_66 rfl (Nat.le_refl _) (Nat.le_refl _) ⟨by rw [e1], e2⟩
    rw [if_neg c4] at h
    by_cases c6 : a2 = 1
    · rw [if_pos c6] at h
      refine vv_tabIn 20 67 dX5_nextTo_20 (by rw [c6]; decide) (by rw [c6]; decide) (off := 47) (by rw [c6]; decide) (by decide) ?_
      refine vv_iload_n 67 3 dX5_nextTo_67 rfl rfl ?_
      refine vv_if_le 68 77 dX5_nextTo_68 (by decide) (fun c7 => ?_) (fun c7 => ?_)
      · rw [if_pos c7] at h
        refine vv_iconst 77 dX5_nextTo_77 ik_m1 ?_
        obtain ⟨e1, e2⟩ := sh_some2 h
        refine vv_iret 78 dX5_nextTo_78 rfl (Nat.le_refl _) (Nat.le_refl _) ⟨by rw [e1], e2⟩
      · rw [if_neg c7] at h
        refine vv_iload_n 71 1 dX5_nextTo_71 rfl rfl ?_
        refine vv_iconst 72 dX5_nextTo_72 ik_1 ?_
        refine vv_isub 73 dX5_nextTo_73 ?_
        refine vv_goto 74 78 dX5_nextTo_74 (by decide) ?_
        obtain ⟨e1, e2⟩ := sh_some2 h
        refine vv_iret 78 dX5_nextTo_78 rfl (Nat.le_refl _) (Nat.le_refl _) ⟨by rw [e1], e2⟩
    rw [if_neg c6] at h
    by_cases c8 : a2 = 2
    · rw [if_pos c8] at h
      refine vv_tabIn 20 79 dX5_nextTo_20 (by rw [c8]; decide) (by rw [c8]; decide) (off := 59) (by rw [c8]; decide) (by decide) ?_
      refine vv_iload_n 79 3 dX5_nextTo_79 rfl rfl ?_
      refine vv_iconst 80 dX5_nextTo_80 ik_1 ?_
      refine vv_iadd 81 dX5_nextTo_81 ?_
      refine vv_aload_n 82 0 dX5_nextTo_82 rfl rfl ?_
      refine vv_getI 83 dX5_nextTo_83 fl_5_44 rfl (gP_l hG hp) ?_
      refine vv_icmp_ge 86 95 dX5_nextTo_86 (by decide) (fun c9 => ?_) (fun c9 => ?_)
      · rw [if_pos c9] at h
        refine vv_iconst 95 dX5_nextTo_95 ik_m1 ?_
        obtain ⟨e1, e2⟩ := sh_some2 h
        refine vv_iret 96 dX5_nextTo_96 rfl (Nat.le_refl _) (Nat.le_refl _) ⟨by rw [e1], e2⟩
      · rw [if_neg c9] at h
        refine vv_iload_n 89 1 dX5_nextTo_89 rfl rfl ?_
        refine vv_iconst 90 dX5_nextTo_90 ik_1 ?_
        refine vv_iadd 91 dX5_nextTo_91 ?_
        refine vv_goto 92 96 dX5_nextTo_92 (by decide) ?_
        obtain ⟨e1, e2⟩ := sh_some2 h
        refine vv_iret 96 dX5_nextTo_96 rfl (Nat.le_refl _) (Nat.le_refl _) ⟨by rw [e1], e2⟩
    rw [if_neg c8] at h
    refine vv_tabOut 20 97 dX5_nextTo_20 (sh_tout 0 2 (by intro j h1 h2; rcases (show j = 0 ∨ j = 1 ∨ j = 2 by omega) with rfl | rfl | rfl <;> first | exact sh_lne c4 (by decide) | exact sh_lne c6 (by decide) | exact sh_lne c8 (by decide))) (by decide) ?_
    refine vv_iload_n 97 1 dX5_nextTo_97 rfl rfl ?_
    refine vv_aload_n 98 0 dX5_nextTo_98 rfl rfl ?_
    refine vv_getI 99 dX5_nextTo_99 fl_5_44 rfl (gP_l hG hp) ?_
    refine vv_iadd 102 dX5_nextTo_102 ?_
    refine vv_aload_n 103 0 dX5_nextTo_103 rfl rfl ?_
    refine v1_callV [] 104 dX5_nextTo_104 ck_X5_99 (gP_l hG hp) ⟨by decide, rfl⟩ (c_X5_cells (μ := μ) hG hp) (Nat.le_of_ble_eq_true rfl) ⟨Nat.le_of_ble_eq_true rfl, Nat.le_of_ble_eq_true rfl⟩ rfl (Nat.le_of_ble_eq_true rfl) ?_
    refine vv_icmp_ge 107 119 dX5_nextTo_107 (by decide) (fun c10 => ?_) (fun c10 => ?_)
    · rw [if_pos c10] at h
      refine vv_iconst 119 dX5_nextTo_119 ik_m1 ?_
      obtain ⟨e1, e2⟩ := sh_some2 h
      refine vv_iret 120 dX5_nextTo_120 rfl (Nat.le_refl _) (Nat.le_refl _) ⟨by rw [e1], e2⟩
    · rw [if_neg c10] at h
      refine vv_iload_n 110 1 dX5_nextTo_110 rfl rfl ?_
      refine vv_aload_n 111 0 dX5_nextTo_111 rfl rfl ?_
      refine vv_getI 112 dX5_nextTo_112 fl_5_44 rfl (gP_l hG hp) ?_
      refine vv_iadd 115 dX5_nextTo_115 ?_
      refine vv_goto 116 120 dX5_nextTo_116 (by decide) ?_
      obtain ⟨e1, e2⟩ := sh_some2 h
      refine vv_iret 120 dX5_nextTo_120 rfl (Nat.le_refl _) (Nat.le_refl _) ⟨by rw [e1], e2⟩
  · rw [if_neg c1] at h
    refine vv_iconst 8 dX5_nextTo_8 ik_0 ?_
    refine vv_goto 9 18 dX5_nextTo_9 (by decide) ?_
    refine vv_istore_n (lv' := [(3, _), (0, _), (1, _), (2, _)]) 18 3 dX5_nextTo_18 rfl (by decide) rfl ?_
    refine vv_iload_n 19 2 dX5_nextTo_19 rfl rfl ?_
    by_cases c11 : a2 = 0
    · rw [if_pos c11] at h
      refine vv_tabIn 20 48 dX5_nextTo_20 (by rw [c11]; decide) (by rw [c11]; decide) (off := 28) (by rw [c11]; decide) (by decide) ?_
      refine vv_iload_n 48 1 dX5_nextTo_48 rfl rfl ?_
      refine vv_aload_n 49 0 dX5_nextTo_49 rfl rfl ?_
      refine vv_getI 50 dX5_nextTo_50 fl_5_44 rfl (gP_l hG hp) ?_
      refine vv_icmp_lt 53 65 dX5_nextTo_53 (by decide) (fun c12 => ?_) (fun c12 => ?_)
      · rw [if_pos c12] at h
        refine vv_iconst 65 dX5_nextTo_65 ik_m1 ?_
        obtain ⟨e1, e2⟩ := sh_some2 h
        refine vv_iret 66 dX5_nextTo_66 rfl (Nat.le_refl _) (Nat.le_refl _) ⟨by rw [e1], e2⟩
      · rw [if_neg c12] at h
        refine vv_iload_n 56 1 dX5_nextTo_56 rfl rfl ?_
        refine vv_aload_n 57 0 dX5_nextTo_57 rfl rfl ?_
        refine vv_getI 58 dX5_nextTo_58 fl_5_44 rfl (gP_l hG hp) ?_
        refine vv_isub 61 dX5_nextTo_61 ?_
        refine vv_goto 62 66 dX5_nextTo_62 (by decide) ?_
        obtain ⟨e1, e2⟩ := sh_some2 h
        refine vv_iret 66 dX5_nextTo_66 rfl (Nat.le_refl _) (Nat.le_refl _) ⟨by rw [e1], e2⟩
    rw [if_neg c11] at h
    by_cases c13 : a2 = 1
    · rw [if_pos c13] at h
      refine vv_tabIn 20 67 dX5_nextTo_20 (by rw [c13]; decide) (by rw [c13]; decide) (off := 47) (by rw [c13]; decide) (by decide) ?_
      refine vv_iload_n 67 3 dX5_nextTo_67 rfl rfl ?_
      refine vv_if_le 68 77 dX5_nextTo_68 (by decide) (fun _ => ?_) (fun hc => absurd (by decide) hc)
      refine vv_iconst 77 dX5_nextTo_77 ik_m1 ?_
      obtain ⟨e1, e2⟩ := sh_some2 h
      refine vv_iret 78 dX5_nextTo_78 rfl (Nat.le_refl _) (Nat.le_refl _) ⟨by rw [e1], e2⟩
    rw [if_neg c13] at h
    by_cases c14 : a2 = 2
    · rw [if_pos c14] at h
      refine vv_tabIn 20 79 dX5_nextTo_20 (by rw [c14]; decide) (by rw [c14]; decide) (off := 59) (by rw [c14]; decide) (by decide) ?_
      refine vv_iload_n 79 3 dX5_nextTo_79 rfl rfl ?_
      refine vv_iconst 80 dX5_nextTo_80 ik_1 ?_
      refine vv_iadd 81 dX5_nextTo_81 ?_
      refine vv_aload_n 82 0 dX5_nextTo_82 rfl rfl ?_
      refine vv_getI 83 dX5_nextTo_83 fl_5_44 rfl (gP_l hG hp) ?_
      refine vv_icmp_ge 86 95 dX5_nextTo_86 (by decide) (fun c15 => ?_) (fun c15 => ?_)
      · rw [if_pos c15] at h
        refine vv_iconst 95 dX5_nextTo_95 ik_m1 ?_
        obtain ⟨e1, e2⟩ := sh_some2 h
        refine vv_iret 96 dX5_nextTo_96 rfl (Nat.le_refl _) (Nat.le_refl _) ⟨by rw [e1], e2⟩
      · rw [if_neg c15] at h
        refine vv_iload_n 89 1 dX5_nextTo_89 rfl rfl ?_
        refine vv_iconst 90 dX5_nextTo_90 ik_1 ?_
        refine vv_iadd 91 dX5_nextTo_91 ?_
        refine vv_goto 92 96 dX5_nextTo_92 (by decide) ?_
        obtain ⟨e1, e2⟩ := sh_some2 h
        refine vv_iret 96 dX5_nextTo_96 rfl (Nat.le_refl _) (Nat.le_refl _) ⟨by rw [e1], e2⟩
    rw [if_neg c14] at h
    refine vv_tabOut 20 97 dX5_nextTo_20 (sh_tout 0 2 (by intro j h1 h2; rcases (show j = 0 ∨ j = 1 ∨ j = 2 by omega) with rfl | rfl | rfl <;> first | exact sh_lne c11 (by decide) | exact sh_lne c13 (by decide) | exact sh_lne c14 (by decide))) (by decide) ?_
    refine vv_iload_n 97 1 dX5_nextTo_97 rfl rfl ?_
    refine vv_aload_n 98 0 dX5_nextTo_98 rfl rfl ?_
    refine vv_getI 99 dX5_nextTo_99 fl_5_44 rfl (gP_l hG hp) ?_
    refine vv_iadd 102 dX5_nextTo_102 ?_
    refine vv_aload_n 103 0 dX5_nextTo_103 rfl rfl ?_
    refine v1_callV [] 104 dX5_nextTo_104 ck_X5_99 (gP_l hG hp) ⟨by decide, rfl⟩ (c_X5_cells (μ := μ) hG hp) (Nat.le_of_ble_eq_true rfl) ⟨Nat.le_of_ble_eq_true rfl, Nat.le_of_ble_eq_true rfl⟩ rfl (Nat.le_of_ble_eq_true rfl) ?_
    refine vv_icmp_ge 107 119 dX5_nextTo_107 (by decide) (fun c16 => ?_) (fun c16 => ?_)
    · rw [if_pos c16] at h
      refine vv_iconst 119 dX5_nextTo_119 ik_m1 ?_
      obtain ⟨e1, e2⟩ := sh_some2 h
      refine vv_iret 120 dX5_nextTo_120 rfl (Nat.le_refl _) (Nat.le_refl _) ⟨by rw [e1], e2⟩
    · rw [if_neg c16] at h
      refine vv_iload_n 110 1 dX5_nextTo_110 rfl rfl ?_
      refine vv_aload_n 111 0 dX5_nextTo_111 rfl rfl ?_
      refine vv_getI 112 dX5_nextTo_112 fl_5_44 rfl (gP_l hG hp) ?_
      refine vv_iadd 115 dX5_nextTo_115 ?_
      refine vv_goto 116 120 dX5_nextTo_116 (by decide) ?_
      obtain ⟨e1, e2⟩ := sh_some2 h
      refine vv_iret 120 dX5_nextTo_120 rfl (Nat.le_refl _) (Nat.le_refl _) ⟨by rw [e1], e2⟩
noncomputable def f_X5_rowOf (p : Nat) (a1 : Int32) (μ : sh_Mem) : Option (Int32 × sh_Mem) := (if 1 ≤ (sh_i μ p 4) then (if ¬ (sh_i μ p 4) = 0 then some ((a1 - a1 / (sh_i μ p 4) * (sh_i μ p 4)), μ) else none) else some ((-1), μ))
theorem gp_X5_rowOf {p : Nat} {a1 : Int32} {μ μ' : sh_Mem} {v : Int32} (hG : sh_G μ) (hp : sh_isP p) (h : f_X5_rowOf p a1 μ = some (v, μ')) : sh_G μ' := by
  unfold f_X5_rowOf at h
  by_cases c1 : 1 ≤ (sh_i μ p 4)
  · rw [if_pos c1] at h
    obtain ⟨k2, h⟩ := sh_chk h
    obtain ⟨e1, e2⟩ := sh_some2 h
    exact e2 ▸ hG
  · rw [if_neg c1] at h
    obtain ⟨e1, e2⟩ := sh_some2 h
    exact e2 ▸ hG
theorem t_X5_rowOf {p : Nat} {a1 : Int32} {μ μ' : sh_Mem} {v : Int32} (hG : sh_G μ) (hp : sh_isP p) (h : f_X5_rowOf p a1 μ = some (v, μ')) : sh_C0 l B D ca 1 M_X5_rowOf [.ref p, .int a1] μ (fun v0 μ0 => v0 = some (.int v) ∧ μ0 = μ') := by
  unfold f_X5_rowOf at h
  refine vv_aload_n 0 0 dX5_rowOf_0 rfl rfl ?_
  refine vv_getI 1 dX5_rowOf_1 fl_5_57 rfl (gP_l hG hp) ?_
  refine vv_iconst 4 dX5_rowOf_4 ik_1 ?_
  refine vv_icmp_ge 5 12 dX5_rowOf_5 (by decide) (fun c1 => ?_) (fun c1 => ?_)
  · rw [if_pos c1] at h
    refine vv_iload_n 12 1 dX5_rowOf_12 rfl rfl ?_
    refine vv_aload_n 13 0 dX5_rowOf_13 rfl rfl ?_
    refine vv_getI 14 dX5_rowOf_14 fl_5_57 rfl (gP_l hG hp) ?_
    obtain ⟨k2, h⟩ := sh_chk h
    refine vv_irem 17 dX5_rowOf_17 k2 ?_
    obtain ⟨e1, e2⟩ := sh_some2 h
    refine vv_iret 18 dX5_rowOf_18 rfl (Nat.le_refl _) (Nat.le_refl _) ⟨by rw [e1], e2⟩
  · rw [if_neg c1] at h
    refine vv_iconst 8 dX5_rowOf_8 ik_m1 ?_
    refine vv_goto 9 18 dX5_rowOf_9 (by decide) ?_
    obtain ⟨e1, e2⟩ := sh_some2 h
    refine vv_iret 18 dX5_rowOf_18 rfl (Nat.le_refl _) (Nat.le_refl _) ⟨by rw [e1], e2⟩
noncomputable def F_X5_placeOf : Nat → Nat → Nat → Int32 → Nat → Int32 → Int32 → sh_Mem → Option (Int32 × sh_Mem)
  | 0, _, _, _, _, _, _, _ => none
  | fuel + 1, lbl, n, i0, r1, i2, i3, μ => match lbl with
    | 1 => (if i2 ≤ i3 then some ((-1), μ) else (if (Int32.ofNat n) ≤ i3 then some ((-1), μ) else (if sh_in i3 n then (if (sh_i μ r1 i3.toNatClampNeg) = i0 then some (i3, μ) else F_X5_placeOf fuel 1 n i0 r1 i2 (i3 + 1) μ) else none)))
    | _ => none
noncomputable def f_X5_placeOf (a1 : Int32) (g : Nat) (n : Nat) (a3 : Int32) (μ : sh_Mem) : Option (Int32 × sh_Mem) := F_X5_placeOf sh_fuel 1 n a1 g a3 0 μ
theorem gpl_X5_placeOf (fuel : Nat) : (∀ ⦃n : Nat⦄ ⦃i0 : Int32⦄ ⦃r1 : Nat⦄ ⦃i2 : Int32⦄ ⦃i3 : Int32⦄ ⦃μ μ' : sh_Mem⦄ ⦃v : Int32⦄, sh_G μ → sh_LAY[r1]? = some (13, n) → F_X5_placeOf fuel 1 n i0 r1 i2 i3 μ = some (v, μ') → sh_G μ') := by
  induction fuel with
  | zero => intro n i0 r1 i2 i3 μ μ' v hG hr1 h; cases h
  | succ fuel ih =>
    have ih_2 := ih
    intro n i0 r1 i2 i3 μ μ' v hG hr1 h
    replace h : ((if i2 ≤ i3 then some ((-1), μ) else (if (Int32.ofNat n) ≤ i3 then some ((-1), μ) else (if sh_in i3 n then (if (sh_i μ r1 i3.toNatClampNeg) = i0 then some (i3, μ) else F_X5_placeOf fuel 1 n i0 r1 i2 (i3 + 1) μ) else none))) : Option (Int32 × sh_Mem)) = some (v, μ') := h
    by_cases c5 : i2 ≤ i3
    · rw [if_pos c5] at h
      obtain ⟨e1, e2⟩ := sh_some2 h
      exact e2 ▸ hG
    · rw [if_neg c5] at h
      by_cases c6 : (Int32.ofNat n) ≤ i3
      · rw [if_pos c6] at h
        obtain ⟨e1, e2⟩ := sh_some2 h
        exact e2 ▸ hG
      · rw [if_neg c6] at h
        obtain ⟨k7, h⟩ := sh_chk h
        by_cases c8 : (sh_i μ r1 i3.toNatClampNeg) = i0
        · rw [if_pos c8] at h
          obtain ⟨e1, e2⟩ := sh_some2 h
          exact e2 ▸ hG
        · rw [if_neg c8] at h
          exact ih_2 hG hr1 h
theorem tl_X5_placeOf (fuel : Nat) : (∀ ⦃n : Nat⦄ ⦃i0 : Int32⦄ ⦃r1 : Nat⦄ ⦃i2 : Int32⦄ ⦃i3 : Int32⦄ ⦃μ μ' : sh_Mem⦄ ⦃v : Int32⦄, sh_G μ → sh_LAY[r1]? = some (13, n) → F_X5_placeOf fuel 1 n i0 r1 i2 i3 μ = some (v, μ') → sh_V0 l B D ca 1 M_X5_placeOf 2 [(0, .int i0), (1, .ref r1), (2, .int i2), (3, .int i3)] [] μ (fun v0 μ0 => v0 = some (.int v) ∧ μ0 = μ')) := by
  induction fuel with
  | zero => intro n i0 r1 i2 i3 μ μ' v hG hr1 h; cases h
  | succ fuel ih =>
    have ih_2 := ih
    intro n i0 r1 i2 i3 μ μ' v hG hr1 h
    replace h : ((if i2 ≤ i3 then some ((-1), μ) else (if (Int32.ofNat n) ≤ i3 then some ((-1), μ) else (if sh_in i3 n then (if (sh_i μ r1 i3.toNatClampNeg) = i0 then some (i3, μ) else F_X5_placeOf fuel 1 n i0 r1 i2 (i3 + 1) μ) else none))) : Option (Int32 × sh_Mem)) = some (v, μ') := h
    refine vv_iload_n 2 3 dX5_placeOf_2 rfl rfl ?_
    refine vv_iload_n 3 2 dX5_placeOf_3 rfl rfl ?_
    refine vv_icmp_ge 4 28 dX5_placeOf_4 (by decide) (fun c5 => ?_) (fun c5 => ?_)
    · rw [if_pos c5] at h
      refine vv_iconst 28 dX5_placeOf_28 ik_m1 ?_
      obtain ⟨e1, e2⟩ := sh_some2 h
      refine vv_iret 29 dX5_placeOf_29 rfl (Nat.le_refl _) (Nat.le_refl _) ⟨by rw [e1], e2⟩
    · rw [if_neg c5] at h
      refine vv_iload_n 7 3 dX5_placeOf_7 rfl rfl ?_
      refine vv_aload_n 8 1 dX5_placeOf_8 rfl rfl ?_
      refine vv_alen 9 dX5_placeOf_9 (gA_l hG hr1) (by decide) ?_
      refine vv_icmp_ge 10 28 dX5_placeOf_10 (by decide) (fun c6 => ?_) (fun c6 => ?_)
      · rw [if_pos c6] at h
        refine vv_iconst 28 dX5_placeOf_28 ik_m1 ?_
        obtain ⟨e1, e2⟩ := sh_some2 h
        refine vv_iret 29 dX5_placeOf_29 rfl (Nat.le_refl _) (Nat.le_refl _) ⟨by rw [e1], e2⟩
      · rw [if_neg c6] at h
        refine vv_aload_n 13 1 dX5_placeOf_13 rfl rfl ?_
        refine vv_iload_n 14 3 dX5_placeOf_14 rfl rfl ?_
        obtain ⟨k7, h⟩ := sh_chk h
        refine vv_iald 15 dX5_placeOf_15 (gA_l hG hr1) k7 ?_
        refine vv_iload_n 16 0 dX5_placeOf_16 rfl rfl ?_
        refine vv_icmp_ne 17 22 dX5_placeOf_17 (by decide) (fun c8 => ?_) (fun c8 => ?_)
        · rw [if_neg c8] at h
          refine vv_iincc (lv' := [(3, _), (0, _), (1, _), (2, _)]) 22 3 dX5_placeOf_22 rfl ik_1 (by decide) rfl ?_
          refine vv_goto 25 2 dX5_placeOf_25 (by decide) ?_
          refine vv_sub [(0, _), (1, _), (2, _), (3, _)] (sh_subm [1, 2, 3, 0] rfl) ?_
          exact ih_2 hG hr1 h
        · rw [if_pos c8] at h
          refine vv_iload_n 20 3 dX5_placeOf_20 rfl rfl ?_
          obtain ⟨e1, e2⟩ := sh_some2 h
          refine vv_iret 21 dX5_placeOf_21 rfl (Nat.le_refl _) (Nat.le_refl _) ⟨by rw [e1], e2⟩
theorem gp_X5_placeOf {a1 : Int32} {g : Nat} {n : Nat} {a3 : Int32} {μ μ' : sh_Mem} {v : Int32} (hG : sh_G μ) (hg : sh_LAY[g]? = some (13, n)) (h : f_X5_placeOf a1 g n a3 μ = some (v, μ')) : sh_G μ' := by
  have ih_2 := (gpl_X5_placeOf sh_fuel)
  unfold f_X5_placeOf at h
  exact ih_2 hG hg h
theorem t_X5_placeOf {a1 : Int32} {g : Nat} {n : Nat} {a3 : Int32} {μ μ' : sh_Mem} {v : Int32} (hG : sh_G μ) (hg : sh_LAY[g]? = some (13, n)) (h : f_X5_placeOf a1 g n a3 μ = some (v, μ')) : sh_C0 l B D ca 1 M_X5_placeOf [.int a1, .ref g, .int a3] μ (fun v0 μ0 => v0 = some (.int v) ∧ μ0 = μ') := by
  have ih_2 := (tl_X5_placeOf (l := l) (B := B) (D := D) (ca := ca) sh_fuel)
  unfold f_X5_placeOf at h
  refine vv_iconst 0 dX5_placeOf_0 ik_0 ?_
  refine vv_istore_n (lv' := [(3, _), (0, _), (1, _), (2, _)]) 1 3 dX5_placeOf_1 rfl (by decide) rfl ?_
  refine vv_sub [(0, _), (1, _), (2, _), (3, _)] (sh_subm [1, 2, 3, 0] rfl) ?_
  exact ih_2 hG hg h
noncomputable def f_X5_topicCounts (p : Nat) (μ : sh_Mem) : Option (Int32 × sh_Mem) := sh_bind (f_X1_names (p + 5) 3 μ) (fun y3 μ1 => (if y3 = 0 then sh_bind (f_X1_names (p + 8) 3 μ1) (fun y7 μ5 => (if y7 = 0 then sh_bind (f_X1_names (p + 11) 3 μ5) (fun y11 μ9 => (if y11 = 0 then some (0, μ9) else some (1, μ9))) else some (1, μ5))) else some (1, μ1)))
theorem gp_X5_topicCounts {p : Nat} {μ μ' : sh_Mem} {v : Int32} (hG : sh_G μ) (hp : sh_isP p) (h : f_X5_topicCounts p μ = some (v, μ')) : sh_G μ' := by
  unfold f_X5_topicCounts at h
  obtain ⟨y3, μ1, hr2, h⟩ := sh_bind_e h
  have hG1 := gp_X1_names hG (gP_f10 hp) hr2
  by_cases c4 : y3 = 0
  · rw [if_pos c4] at h
    obtain ⟨y7, μ5, hr6, h⟩ := sh_bind_e h
    have hG5 := gp_X1_names hG1 (gP_f11 hp) hr6
    by_cases c8 : y7 = 0
    · rw [if_pos c8] at h
      obtain ⟨y11, μ9, hr10, h⟩ := sh_bind_e h
      have hG9 := gp_X1_names hG5 (gP_f12 hp) hr10
      by_cases c12 : y11 = 0
      · rw [if_pos c12] at h
        obtain ⟨e1, e2⟩ := sh_some2 h
        exact e2 ▸ hG9
      · rw [if_neg c12] at h
        obtain ⟨e1, e2⟩ := sh_some2 h
        exact e2 ▸ hG9
    · rw [if_neg c8] at h
      obtain ⟨e1, e2⟩ := sh_some2 h
      exact e2 ▸ hG5
  · rw [if_neg c4] at h
    obtain ⟨e1, e2⟩ := sh_some2 h
    exact e2 ▸ hG1
theorem t_X5_topicCounts {p : Nat} {μ μ' : sh_Mem} {v : Int32} (hG : sh_G μ) (hp : sh_isP p) (h : f_X5_topicCounts p μ = some (v, μ')) : sh_C0 l B D ca 2 M_X5_topicCounts [.ref p] μ (fun v0 μ0 => v0 = some (.int v) ∧ μ0 = μ') := by
  unfold f_X5_topicCounts at h
  refine vv_aload_n 0 0 dX5_topicCounts_0 rfl rfl ?_
  refine vv_getR 1 dX5_topicCounts_1 fl_5_27 rfl (gP_l hG hp) (gP_r10 hG hp) ?_
  refine vv_iconst 4 dX5_topicCounts_4 ik_3 ?_
  obtain ⟨y3, μ1, hr2, h⟩ := sh_bind_e h
  refine v1_callV [_] 5 dX5_topicCounts_5 ck_X5_107 (gF_l hG (gP_f10 hp)) ⟨by decide, rfl⟩ (t_X1_names hG (gP_f10 hp) hr2) (Nat.le_of_ble_eq_true rfl) ⟨Nat.le_of_ble_eq_true rfl, Nat.le_of_ble_eq_true rfl⟩ rfl (Nat.le_of_ble_eq_true rfl) ?_
  have hG1 := gp_X1_names hG (gP_f10 hp) hr2
  refine vv_if_ne 8 33 dX5_topicCounts_8 (by decide) (fun c4 => ?_) (fun c4 => ?_)
  · rw [if_neg c4] at h
    refine vv_iconst 33 dX5_topicCounts_33 ik_1 ?_
    refine vv_goto 34 38 dX5_topicCounts_34 (by decide) ?_
    obtain ⟨e1, e2⟩ := sh_some2 h
    refine vv_zret 38 dX5_topicCounts_38 rfl rfl (Nat.le_refl _) (Nat.le_refl _) ⟨by rw [e1], e2⟩
  · rw [if_pos c4] at h
    refine vv_aload_n 11 0 dX5_topicCounts_11 rfl rfl ?_
    refine vv_getR 12 dX5_topicCounts_12 fl_5_31 rfl (gP_l hG1 hp) (gP_r11 hG1 hp) ?_
    refine vv_iconst 15 dX5_topicCounts_15 ik_3 ?_
    obtain ⟨y7, μ5, hr6, h⟩ := sh_bind_e h
    refine v1_callV [_] 16 dX5_topicCounts_16 ck_X5_107 (gF_l hG1 (gP_f11 hp)) ⟨by decide, rfl⟩ (t_X1_names hG1 (gP_f11 hp) hr6) (Nat.le_of_ble_eq_true rfl) ⟨Nat.le_of_ble_eq_true rfl, Nat.le_of_ble_eq_true rfl⟩ rfl (Nat.le_of_ble_eq_true rfl) ?_
    have hG5 := gp_X1_names hG1 (gP_f11 hp) hr6
    refine vv_if_ne 19 33 dX5_topicCounts_19 (by decide) (fun c8 => ?_) (fun c8 => ?_)
    · rw [if_neg c8] at h
      refine vv_iconst 33 dX5_topicCounts_33 ik_1 ?_
      refine vv_goto 34 38 dX5_topicCounts_34 (by decide) ?_
      obtain ⟨e1, e2⟩ := sh_some2 h
      refine vv_zret 38 dX5_topicCounts_38 rfl rfl (Nat.le_refl _) (Nat.le_refl _) ⟨by rw [e1], e2⟩
    · rw [if_pos c8] at h
      refine vv_aload_n 22 0 dX5_topicCounts_22 rfl rfl ?_
      refine vv_getR 23 dX5_topicCounts_23 fl_5_34 rfl (gP_l hG5 hp) (gP_r12 hG5 hp) ?_
      refine vv_iconst 26 dX5_topicCounts_26 ik_3 ?_
      obtain ⟨y11, μ9, hr10, h⟩ := sh_bind_e h
      refine v1_callV [_] 27 dX5_topicCounts_27 ck_X5_107 (gF_l hG5 (gP_f12 hp)) ⟨by decide, rfl⟩ (t_X1_names hG5 (gP_f12 hp) hr10) (Nat.le_of_ble_eq_true rfl) ⟨Nat.le_of_ble_eq_true rfl, Nat.le_of_ble_eq_true rfl⟩ rfl (Nat.le_of_ble_eq_true rfl) ?_
      have hG9 := gp_X1_names hG5 (gP_f12 hp) hr10
      refine vv_if_eq 30 37 dX5_topicCounts_30 (by decide) (fun c12 => ?_) (fun c12 => ?_)
      · rw [if_pos c12] at h
        refine vv_iconst 37 dX5_topicCounts_37 ik_0 ?_
        obtain ⟨e1, e2⟩ := sh_some2 h
        refine vv_zret 38 dX5_topicCounts_38 rfl rfl (Nat.le_refl _) (Nat.le_refl _) ⟨by rw [e1], e2⟩
      · rw [if_neg c12] at h
        refine vv_iconst 33 dX5_topicCounts_33 ik_1 ?_
        refine vv_goto 34 38 dX5_topicCounts_34 (by decide) ?_
        obtain ⟨e1, e2⟩ := sh_some2 h
        refine vv_zret 38 dX5_topicCounts_38 rfl rfl (Nat.le_refl _) (Nat.le_refl _) ⟨by rw [e1], e2⟩
noncomputable def f_X6_isOneTooMany (a1 : Int32) (μ : sh_Mem) : Option (Int32 × sh_Mem) := (if a1 = 3 then (if (sh_r μ 7 2 = some (sh_ref μ 7 2) ∧ ((sh_ref μ 7 2) = 8 ∨ (sh_ref μ 7 2) = 29)) then sh_let (sh_ref μ 7 2) (fun r3 => (if (sh_i μ r3 2) < 5 then some (0, μ) else some (1, μ))) else none) else (if a1 = 4 then (if (sh_r μ 7 2 = some (sh_ref μ 7 2) ∧ ((sh_ref μ 7 2) = 8 ∨ (sh_ref μ 7 2) = 29)) then sh_let (sh_ref μ 7 2) (fun r7 => (if (sh_i μ r7 3) < 7 then some (0, μ) else some (1, μ))) else none) else (if a1 = 5 then some (0, μ) else (if a1 = 6 then some (0, μ) else (if a1 = 7 then some (0, μ) else (if a1 = 8 then some (0, μ) else (if a1 = 9 then (if (sh_r μ 7 2 = some (sh_ref μ 7 2) ∧ ((sh_ref μ 7 2) = 8 ∨ (sh_ref μ 7 2) = 29)) then sh_let (sh_ref μ 7 2) (fun r15 => (if (sh_i μ r15 4) < 12 then some (0, μ) else some (1, μ))) else none) else (if a1 = 10 then (if (sh_r μ 7 2 = some (sh_ref μ 7 2) ∧ ((sh_ref μ 7 2) = 8 ∨ (sh_ref μ 7 2) = 29)) then sh_let (sh_ref μ 7 2) (fun r19 => (if (sh_i μ r19 13) = 0 ∨ (sh_i μ r19 13) = 1 then some ((sh_i μ r19 13), μ) else none)) else none) else (if a1 = 11 then (if (sh_r μ 7 2 = some (sh_ref μ 7 2) ∧ ((sh_ref μ 7 2) = 8 ∨ (sh_ref μ 7 2) = 29)) then sh_let (sh_ref μ 7 2) (fun r23 => (if (sh_i μ r23 14) = 0 ∨ (sh_i μ r23 14) = 1 then some ((sh_i μ r23 14), μ) else none)) else none) else (if a1 = 12 then (if (sh_r μ 7 2 = some (sh_ref μ 7 2) ∧ ((sh_ref μ 7 2) = 8 ∨ (sh_ref μ 7 2) = 29)) then sh_let (sh_ref μ 7 2) (fun r27 => (if (sh_i μ r27 15) = 0 ∨ (sh_i μ r27 15) = 1 then some ((sh_i μ r27 15), μ) else none)) else none) else some (0, μ)))))))))))
theorem gp_X6_isOneTooMany {a1 : Int32} {μ μ' : sh_Mem} {v : Int32} (hG : sh_G μ) (h : f_X6_isOneTooMany a1 μ = some (v, μ')) : sh_G μ' := by
  unfold f_X6_isOneTooMany at h
  by_cases c1 : a1 = 3
  · rw [if_pos c1] at h
    obtain ⟨k2, h⟩ := sh_chk h
    obtain ⟨r3, er3⟩ : ∃ y : Nat, y = (sh_ref μ 7 2) := ⟨_, rfl⟩
    rw [sh_let_eq er3] at h
    have k2r : sh_r μ 7 2 = some r3 ∧ (r3 = 8 ∨ r3 = 29) := by rw [er3]; exact k2
    by_cases c4 : (sh_i μ r3 2) < 5
    · rw [if_pos c4] at h
      obtain ⟨e1, e2⟩ := sh_some2 h
      exact e2 ▸ hG
    · rw [if_neg c4] at h
      obtain ⟨e1, e2⟩ := sh_some2 h
      exact e2 ▸ hG
  rw [if_neg c1] at h
  by_cases c5 : a1 = 4
  · rw [if_pos c5] at h
    obtain ⟨k6, h⟩ := sh_chk h
    obtain ⟨r7, er7⟩ : ∃ y : Nat, y = (sh_ref μ 7 2) := ⟨_, rfl⟩
    rw [sh_let_eq er7] at h
    have k6r : sh_r μ 7 2 = some r7 ∧ (r7 = 8 ∨ r7 = 29) := by rw [er7]; exact k6
    by_cases c8 : (sh_i μ r7 3) < 7
    · rw [if_pos c8] at h
      obtain ⟨e1, e2⟩ := sh_some2 h
      exact e2 ▸ hG
    · rw [if_neg c8] at h
      obtain ⟨e1, e2⟩ := sh_some2 h
      exact e2 ▸ hG
  rw [if_neg c5] at h
  by_cases c9 : a1 = 5
  · rw [if_pos c9] at h
    obtain ⟨e1, e2⟩ := sh_some2 h
    exact e2 ▸ hG
  rw [if_neg c9] at h
  by_cases c10 : a1 = 6
  · rw [if_pos c10] at h
    obtain ⟨e1, e2⟩ := sh_some2 h
    exact e2 ▸ hG
  rw [if_neg c10] at h
  by_cases c11 : a1 = 7
  · rw [if_pos c11] at h
    obtain ⟨e1, e2⟩ := sh_some2 h
    exact e2 ▸ hG
  rw [if_neg c11] at h
  by_cases c12 : a1 = 8
  · rw [if_pos c12] at h
    obtain ⟨e1, e2⟩ := sh_some2 h
    exact e2 ▸ hG
  rw [if_neg c12] at h
  by_cases c13 : a1 = 9
  · rw [if_pos c13] at h
    obtain ⟨k14, h⟩ := sh_chk h
    obtain ⟨r15, er15⟩ : ∃ y : Nat, y = (sh_ref μ 7 2) := ⟨_, rfl⟩
    rw [sh_let_eq er15] at h
    have k14r : sh_r μ 7 2 = some r15 ∧ (r15 = 8 ∨ r15 = 29) := by rw [er15]; exact k14
    by_cases c16 : (sh_i μ r15 4) < 12
    · rw [if_pos c16] at h
      obtain ⟨e1, e2⟩ := sh_some2 h
      exact e2 ▸ hG
    · rw [if_neg c16] at h
      obtain ⟨e1, e2⟩ := sh_some2 h
      exact e2 ▸ hG
  rw [if_neg c13] at h
  by_cases c17 : a1 = 10
  · rw [if_pos c17] at h
    obtain ⟨k18, h⟩ := sh_chk h
    obtain ⟨r19, er19⟩ : ∃ y : Nat, y = (sh_ref μ 7 2) := ⟨_, rfl⟩
    rw [sh_let_eq er19] at h
    have k18r : sh_r μ 7 2 = some r19 ∧ (r19 = 8 ∨ r19 = 29) := by rw [er19]; exact k18
    obtain ⟨k20, h⟩ := sh_chk h
    obtain ⟨e1, e2⟩ := sh_some2 h
    exact e2 ▸ hG
  rw [if_neg c17] at h
  by_cases c21 : a1 = 11
  · rw [if_pos c21] at h
    obtain ⟨k22, h⟩ := sh_chk h
    obtain ⟨r23, er23⟩ : ∃ y : Nat, y = (sh_ref μ 7 2) := ⟨_, rfl⟩
    rw [sh_let_eq er23] at h
    have k22r : sh_r μ 7 2 = some r23 ∧ (r23 = 8 ∨ r23 = 29) := by rw [er23]; exact k22
    obtain ⟨k24, h⟩ := sh_chk h
    obtain ⟨e1, e2⟩ := sh_some2 h
    exact e2 ▸ hG
  rw [if_neg c21] at h
  by_cases c25 : a1 = 12
  · rw [if_pos c25] at h
    obtain ⟨k26, h⟩ := sh_chk h
    obtain ⟨r27, er27⟩ : ∃ y : Nat, y = (sh_ref μ 7 2) := ⟨_, rfl⟩
    rw [sh_let_eq er27] at h
    have k26r : sh_r μ 7 2 = some r27 ∧ (r27 = 8 ∨ r27 = 29) := by rw [er27]; exact k26
    obtain ⟨k28, h⟩ := sh_chk h
    obtain ⟨e1, e2⟩ := sh_some2 h
    exact e2 ▸ hG
  rw [if_neg c25] at h
  obtain ⟨e1, e2⟩ := sh_some2 h
  exact e2 ▸ hG
theorem t_X6_isOneTooMany {a1 : Int32} {μ μ' : sh_Mem} {v : Int32} (hG : sh_G μ) (h : f_X6_isOneTooMany a1 μ = some (v, μ')) : sh_C0 l B D ca 1 M_X6_isOneTooMany [.ref 7, .int a1] μ (fun v0 μ0 => v0 = some (.int v) ∧ μ0 = μ') := by
  unfold f_X6_isOneTooMany at h
  refine vv_iload_n 0 1 dX6_isOneTooMany_0 rfl rfl ?_
  by_cases c1 : a1 = 3
  · rw [if_pos c1] at h
    refine vv_tabIn 1 56 dX6_isOneTooMany_1 (by rw [c1]; decide) (by rw [c1]; decide) (off := 55) (by rw [c1]; decide) (by decide) ?_
    refine vv_aload_n 56 0 dX6_isOneTooMany_56 rfl rfl ?_
    obtain ⟨k2, h⟩ := sh_chk h
    refine vv_getR 57 dX6_isOneTooMany_57 fl_6_12 rfl (g_l_7 hG) k2.1 ?_
    refine vv_topr (fun r3 er3 => ?_)
    rw [sh_let_eq er3] at h
    have k2r : sh_r μ 7 2 = some r3 ∧ (r3 = 8 ∨ r3 = 29) := by rw [er3]; exact k2
    refine vv_getI 60 dX6_isOneTooMany_60 fl_6_122 rfl (gP_l hG k2r.2) ?_
    refine vv_iconst 63 dX6_isOneTooMany_63 ik_5 ?_
    refine vv_icmp_lt 64 71 dX6_isOneTooMany_64 (by decide) (fun c4 => ?_) (fun c4 => ?_)
    · rw [if_pos c4] at h
      refine vv_iconst 71 dX6_isOneTooMany_71 ik_0 ?_
      obtain ⟨e1, e2⟩ := sh_some2 h
      refine vv_zret 72 dX6_isOneTooMany_72 rfl rfl (Nat.le_refl _) (Nat.le_refl _) ⟨by rw [e1], e2⟩
    · rw [if_neg c4] at h
      refine vv_iconst 67 dX6_isOneTooMany_67 ik_1 ?_
      refine vv_goto 68 72 dX6_isOneTooMany_68 (by decide) ?_
      obtain ⟨e1, e2⟩ := sh_some2 h
      refine vv_zret 72 dX6_isOneTooMany_72 rfl rfl (Nat.le_refl _) (Nat.le_refl _) ⟨by rw [e1], e2⟩
  rw [if_neg c1] at h
  by_cases c5 : a1 = 4
  · rw [if_pos c5] at h
    refine vv_tabIn 1 73 dX6_isOneTooMany_1 (by rw [c5]; decide) (by rw [c5]; decide) (off := 72) (by rw [c5]; decide) (by decide) ?_
    refine vv_aload_n 73 0 dX6_isOneTooMany_73 rfl rfl ?_
    obtain ⟨k6, h⟩ := sh_chk h
    refine vv_getR 74 dX6_isOneTooMany_74 fl_6_12 rfl (g_l_7 hG) k6.1 ?_
    refine vv_topr (fun r7 er7 => ?_)
    rw [sh_let_eq er7] at h
    have k6r : sh_r μ 7 2 = some r7 ∧ (r7 = 8 ∨ r7 = 29) := by rw [er7]; exact k6
    refine vv_getI 77 dX6_isOneTooMany_77 fl_6_125 rfl (gP_l hG k6r.2) ?_
    refine vv_bipush 80 dX6_isOneTooMany_80 bk_7 ?_
    refine vv_icmp_lt 82 89 dX6_isOneTooMany_82 (by decide) (fun c8 => ?_) (fun c8 => ?_)
    · rw [if_pos c8] at h
      refine vv_iconst 89 dX6_isOneTooMany_89 ik_0 ?_
      obtain ⟨e1, e2⟩ := sh_some2 h
      refine vv_zret 90 dX6_isOneTooMany_90 rfl rfl (Nat.le_refl _) (Nat.le_refl _) ⟨by rw [e1], e2⟩
    · rw [if_neg c8] at h
      refine vv_iconst 85 dX6_isOneTooMany_85 ik_1 ?_
      refine vv_goto 86 90 dX6_isOneTooMany_86 (by decide) ?_
      obtain ⟨e1, e2⟩ := sh_some2 h
      refine vv_zret 90 dX6_isOneTooMany_90 rfl rfl (Nat.le_refl _) (Nat.le_refl _) ⟨by rw [e1], e2⟩
  rw [if_neg c5] at h
  by_cases c9 : a1 = 5
  · rw [if_pos c9] at h
    refine vv_tabIn 1 133 dX6_isOneTooMany_1 (by rw [c9]; decide) (by rw [c9]; decide) (off := 132) (by rw [c9]; decide) (by decide) ?_
    refine vv_iconst 133 dX6_isOneTooMany_133 ik_0 ?_
    obtain ⟨e1, e2⟩ := sh_some2 h
    refine vv_zret 134 dX6_isOneTooMany_134 rfl rfl (Nat.le_refl _) (Nat.le_refl _) ⟨by rw [e1], e2⟩
  rw [if_neg c9] at h
  by_cases c10 : a1 = 6
  · rw [if_pos c10] at h
    refine vv_tabIn 1 133 dX6_isOneTooMany_1 (by rw [c10]; decide) (by rw [c10]; decide) (off := 132) (by rw [c10]; decide) (by decide) ?_
    refine vv_iconst 133 dX6_isOneTooMany_133 ik_0 ?_
    obtain ⟨e1, e2⟩ := sh_some2 h
    refine vv_zret 134 dX6_isOneTooMany_134 rfl rfl (Nat.le_refl _) (Nat.le_refl _) ⟨by rw [e1], e2⟩
  rw [if_neg c10] at h
  by_cases c11 : a1 = 7
  · rw [if_pos c11] at h
    refine vv_tabIn 1 133 dX6_isOneTooMany_1 (by rw [c11]; decide) (by rw [c11]; decide) (off := 132) (by rw [c11]; decide) (by decide) ?_
    refine vv_iconst 133 dX6_isOneTooMany_133 ik_0 ?_
    obtain ⟨e1, e2⟩ := sh_some2 h
    refine vv_zret 134 dX6_isOneTooMany_134 rfl rfl (Nat.le_refl _) (Nat.le_refl _) ⟨by rw [e1], e2⟩
  rw [if_neg c11] at h
  by_cases c12 : a1 = 8
  · rw [if_pos c12] at h
    refine vv_tabIn 1 133 dX6_isOneTooMany_1 (by rw [c12]; decide) (by rw [c12]; decide) (off := 132) (by rw [c12]; decide) (by decide) ?_
    refine vv_iconst 133 dX6_isOneTooMany_133 ik_0 ?_
    obtain ⟨e1, e2⟩ := sh_some2 h
    refine vv_zret 134 dX6_isOneTooMany_134 rfl rfl (Nat.le_refl _) (Nat.le_refl _) ⟨by rw [e1], e2⟩
  rw [if_neg c12] at h
  by_cases c13 : a1 = 9
  · rw [if_pos c13] at h
    refine vv_tabIn 1 91 dX6_isOneTooMany_1 (by rw [c13]; decide) (by rw [c13]; decide) (off := 90) (by rw [c13]; decide) (by decide) ?_
    refine vv_aload_n 91 0 dX6_isOneTooMany_91 rfl rfl ?_
    obtain ⟨k14, h⟩ := sh_chk h
    refine vv_getR 92 dX6_isOneTooMany_92 fl_6_12 rfl (g_l_7 hG) k14.1 ?_
    refine vv_topr (fun r15 er15 => ?_)
    rw [sh_let_eq er15] at h
    have k14r : sh_r μ 7 2 = some r15 ∧ (r15 = 8 ∨ r15 = 29) := by rw [er15]; exact k14
    refine vv_getI 95 dX6_isOneTooMany_95 fl_6_128 rfl (gP_l hG k14r.2) ?_
    refine vv_bipush 98 dX6_isOneTooMany_98 bk_12 ?_
    refine vv_icmp_lt 100 107 dX6_isOneTooMany_100 (by decide) (fun c16 => ?_) (fun c16 => ?_)
    · rw [if_pos c16] at h
      refine vv_iconst 107 dX6_isOneTooMany_107 ik_0 ?_
      obtain ⟨e1, e2⟩ := sh_some2 h
      refine vv_zret 108 dX6_isOneTooMany_108 rfl rfl (Nat.le_refl _) (Nat.le_refl _) ⟨by rw [e1], e2⟩
    · rw [if_neg c16] at h
      refine vv_iconst 103 dX6_isOneTooMany_103 ik_1 ?_
      refine vv_goto 104 108 dX6_isOneTooMany_104 (by decide) ?_
      obtain ⟨e1, e2⟩ := sh_some2 h
      refine vv_zret 108 dX6_isOneTooMany_108 rfl rfl (Nat.le_refl _) (Nat.le_refl _) ⟨by rw [e1], e2⟩
  rw [if_neg c13] at h
  by_cases c17 : a1 = 10
  · rw [if_pos c17] at h
    refine vv_tabIn 1 109 dX6_isOneTooMany_1 (by rw [c17]; decide) (by rw [c17]; decide) (off := 108) (by rw [c17]; decide) (by decide) ?_
    refine vv_aload_n 109 0 dX6_isOneTooMany_109 rfl rfl ?_
    obtain ⟨k18, h⟩ := sh_chk h
    refine vv_getR 110 dX6_isOneTooMany_110 fl_6_12 rfl (g_l_7 hG) k18.1 ?_
    refine vv_topr (fun r19 er19 => ?_)
    rw [sh_let_eq er19] at h
    have k18r : sh_r μ 7 2 = some r19 ∧ (r19 = 8 ∨ r19 = 29) := by rw [er19]; exact k18
    refine vv_getI 113 dX6_isOneTooMany_113 fl_6_87 rfl (gP_l hG k18r.2) ?_
    obtain ⟨k20, h⟩ := sh_chk h
    obtain ⟨e1, e2⟩ := sh_some2 h
    refine vv_zret 116 dX6_isOneTooMany_116 rfl (sh_nb k20) (Nat.le_refl _) (Nat.le_refl _) ⟨by rw [e1], e2⟩
  rw [if_neg c17] at h
  by_cases c21 : a1 = 11
  · rw [if_pos c21] at h
    refine vv_tabIn 1 117 dX6_isOneTooMany_1 (by rw [c21]; decide) (by rw [c21]; decide) (off := 116) (by rw [c21]; decide) (by decide) ?_
    refine vv_aload_n 117 0 dX6_isOneTooMany_117 rfl rfl ?_
    obtain ⟨k22, h⟩ := sh_chk h
    refine vv_getR 118 dX6_isOneTooMany_118 fl_6_12 rfl (g_l_7 hG) k22.1 ?_
    refine vv_topr (fun r23 er23 => ?_)
    rw [sh_let_eq er23] at h
    have k22r : sh_r μ 7 2 = some r23 ∧ (r23 = 8 ∨ r23 = 29) := by rw [er23]; exact k22
    refine vv_getI 121 dX6_isOneTooMany_121 fl_6_104 rfl (gP_l hG k22r.2) ?_
    obtain ⟨k24, h⟩ := sh_chk h
    obtain ⟨e1, e2⟩ := sh_some2 h
    refine vv_zret 124 dX6_isOneTooMany_124 rfl (sh_nb k24) (Nat.le_refl _) (Nat.le_refl _) ⟨by rw [e1], e2⟩
  rw [if_neg c21] at h
  by_cases c25 : a1 = 12
  · rw [if_pos c25] at h
    refine vv_tabIn 1 125 dX6_isOneTooMany_1 (by rw [c25]; decide) (by rw [c25]; decide) (off := 124) (by rw [c25]; decide) (by decide) ?_
    refine vv_aload_n 125 0 dX6_isOneTooMany_125 rfl rfl ?_
    obtain ⟨k26, h⟩ := sh_chk h
    refine vv_getR 126 dX6_isOneTooMany_126 fl_6_12 rfl (g_l_7 hG) k26.1 ?_
    refine vv_topr (fun r27 er27 => ?_)
    rw [sh_let_eq er27] at h
    have k26r : sh_r μ 7 2 = some r27 ∧ (r27 = 8 ∨ r27 = 29) := by rw [er27]; exact k26
    refine vv_getI 129 dX6_isOneTooMany_129 fl_6_110 rfl (gP_l hG k26r.2) ?_
    obtain ⟨k28, h⟩ := sh_chk h
    obtain ⟨e1, e2⟩ := sh_some2 h
    refine vv_zret 132 dX6_isOneTooMany_132 rfl (sh_nb k28) (Nat.le_refl _) (Nat.le_refl _) ⟨by rw [e1], e2⟩
  rw [if_neg c25] at h
  refine vv_tabOut 1 133 dX6_isOneTooMany_1 (sh_tout 3 12 (by intro j h1 h2; rcases (show j = 3 ∨ j = 4 ∨ j = 5 ∨ j = 6 ∨ j = 7 ∨ j = 8 ∨ j = 9 ∨ j = 10 ∨ j = 11 ∨ j = 12 by omega) with rfl | rfl | rfl | rfl | rfl | rfl | rfl | rfl | rfl | rfl <;> first | exact sh_lne c1 (by decide) | exact sh_lne c5 (by decide) | exact sh_lne c9 (by decide) | exact sh_lne c10 (by decide) | exact sh_lne c11 (by decide) | exact sh_lne c12 (by decide) | exact sh_lne c13 (by decide) | exact sh_lne c17 (by decide) | exact sh_lne c21 (by decide) | exact sh_lne c25 (by decide))) (by decide) ?_
  refine vv_iconst 133 dX6_isOneTooMany_133 ik_0 ?_
  obtain ⟨e1, e2⟩ := sh_some2 h
  refine vv_zret 134 dX6_isOneTooMany_134 rfl rfl (Nat.le_refl _) (Nat.le_refl _) ⟨by rw [e1], e2⟩
noncomputable def f_X7_mayRise (q1 : Nat) (a2 : Int32) (a3 : Int32) (a4 : Int32) (a5 : Int32) (μ : sh_Mem) : Option (Int32 × sh_Mem) := (if sh_in a4 7 then sh_let ((sh_i μ (q1 + 2) a4.toNatClampNeg) : Int32) (fun x2 => (if sh_in a4 7 then sh_let ((sh_i μ (q1 + 3) a4.toNatClampNeg) : Int32) (fun x4 => (if (sh_r μ 55 0 = some (sh_ref μ 55 0) ∧ ((sh_ref μ 55 0) = 8 ∨ (sh_ref μ 55 0) = 29)) then sh_let (sh_ref μ 55 0) (fun r6 => (if (f_X5_cellAt μ r6 (x2 - 1) x4) = a2 then (if sh_in a2 49 then (if ((sh_i μ (q1 + 1) a2.toNatClampNeg) + (9 * (a5 + 1))) < a3 then some (0, μ) else some (1, μ)) else none) else (if (sh_r μ 55 0 = some (sh_ref μ 55 0) ∧ ((sh_ref μ 55 0) = 8 ∨ (sh_ref μ 55 0) = 29)) then sh_let (sh_ref μ 55 0) (fun r11 => (if (f_X5_cellAt μ r11 (x2 + 1) x4) = a2 then (if sh_in a2 49 then (if ((sh_i μ (q1 + 1) a2.toNatClampNeg) + (9 * (a5 + 1))) < a3 then some (0, μ) else some (1, μ)) else none) else (if sh_in a2 49 then (if ((sh_i μ (q1 + 1) a2.toNatClampNeg) + (9 * a5)) < a3 then some (0, μ) else some (1, μ)) else none))) else none))) else none)) else none)) else none)
theorem gp_X7_mayRise {q1 : Nat} {a2 : Int32} {a3 : Int32} {a4 : Int32} {a5 : Int32} {μ μ' : sh_Mem} {v : Int32} (hG : sh_G μ) (hq1 : sh_isL q1) (h : f_X7_mayRise q1 a2 a3 a4 a5 μ = some (v, μ')) : sh_G μ' := by
  unfold f_X7_mayRise at h
  obtain ⟨k1, h⟩ := sh_chk h
  obtain ⟨x2, ex2⟩ : ∃ y : Int32, y = (sh_i μ (q1 + 2) a4.toNatClampNeg) := ⟨_, rfl⟩
  rw [sh_let_eq ex2] at h
  obtain ⟨k3, h⟩ := sh_chk h
  obtain ⟨x4, ex4⟩ : ∃ y : Int32, y = (sh_i μ (q1 + 3) a4.toNatClampNeg) := ⟨_, rfl⟩
  rw [sh_let_eq ex4] at h
  obtain ⟨k5, h⟩ := sh_chk h
  obtain ⟨r6, er6⟩ : ∃ y : Nat, y = (sh_ref μ 55 0) := ⟨_, rfl⟩
  rw [sh_let_eq er6] at h
  have k5r : sh_r μ 55 0 = some r6 ∧ (r6 = 8 ∨ r6 = 29) := by rw [er6]; exact k5
  by_cases c7 : (f_X5_cellAt μ r6 (x2 - 1) x4) = a2
  · rw [if_pos c7] at h
    obtain ⟨k8, h⟩ := sh_chk h
    by_cases c9 : ((sh_i μ (q1 + 1) a2.toNatClampNeg) + (9 * (a5 + 1))) < a3
    · rw [if_pos c9] at h
      obtain ⟨e1, e2⟩ := sh_some2 h
      exact e2 ▸ hG
    · rw [if_neg c9] at h
      obtain ⟨e1, e2⟩ := sh_some2 h
      exact e2 ▸ hG
  · rw [if_neg c7] at h
    obtain ⟨k10, h⟩ := sh_chk h
    obtain ⟨r11, er11⟩ : ∃ y : Nat, y = (sh_ref μ 55 0) := ⟨_, rfl⟩
    rw [sh_let_eq er11] at h
    have k10r : sh_r μ 55 0 = some r11 ∧ (r11 = 8 ∨ r11 = 29) := by rw [er11]; exact k10
    by_cases c12 : (f_X5_cellAt μ r11 (x2 + 1) x4) = a2
    · rw [if_pos c12] at h
      obtain ⟨k15, h⟩ := sh_chk h
      by_cases c16 : ((sh_i μ (q1 + 1) a2.toNatClampNeg) + (9 * (a5 + 1))) < a3
      · rw [if_pos c16] at h
        obtain ⟨e1, e2⟩ := sh_some2 h
        exact e2 ▸ hG
      · rw [if_neg c16] at h
        obtain ⟨e1, e2⟩ := sh_some2 h
        exact e2 ▸ hG
    · rw [if_neg c12] at h
      obtain ⟨k13, h⟩ := sh_chk h
      by_cases c14 : ((sh_i μ (q1 + 1) a2.toNatClampNeg) + (9 * a5)) < a3
      · rw [if_pos c14] at h
        obtain ⟨e1, e2⟩ := sh_some2 h
        exact e2 ▸ hG
      · rw [if_neg c14] at h
        obtain ⟨e1, e2⟩ := sh_some2 h
        exact e2 ▸ hG
theorem t_X7_mayRise {q1 : Nat} {a2 : Int32} {a3 : Int32} {a4 : Int32} {a5 : Int32} {μ μ' : sh_Mem} {v : Int32} (hG : sh_G μ) (hq1 : sh_isL q1) (h : f_X7_mayRise q1 a2 a3 a4 a5 μ = some (v, μ')) : sh_C0 l B D ca 2 M_X7_mayRise [.ref 260, .ref q1, .int a2, .int a3, .int a4, .int a5] μ (fun v0 μ0 => v0 = some (.int v) ∧ μ0 = μ') := by
  unfold f_X7_mayRise at h
  refine vv_aload_n 0 1 dX7_mayRise_0 rfl rfl ?_
  refine vv_getR 1 dX7_mayRise_1 fl_7_73 rfl (gL_l hG hq1) (gL_r2 hG hq1) ?_
  refine vv_iload 4 4 dX7_mayRise_4 rfl ?_
  obtain ⟨k1, h⟩ := sh_chk h
  refine vv_iald 6 dX7_mayRise_6 (gA_l hG (gLA2 hq1)) k1 ?_
  refine vv_topi (fun x2 ex2 => ?_)
  rw [sh_let_eq ex2] at h
  refine vv_istore (lv' := [(6, _), (0, _), (1, _), (2, _), (3, _), (4, _), (5, _)]) 7 6 dX7_mayRise_7 (by decide) rfl ?_
  refine vv_aload_n 9 1 dX7_mayRise_9 rfl rfl ?_
  refine vv_getR 10 dX7_mayRise_10 fl_7_76 rfl (gL_l hG hq1) (gL_r3 hG hq1) ?_
  refine vv_iload 13 4 dX7_mayRise_13 rfl ?_
  obtain ⟨k3, h⟩ := sh_chk h
  refine vv_iald 15 dX7_mayRise_15 (gA_l hG (gLA3 hq1)) k3 ?_
  refine vv_topi (fun x4 ex4 => ?_)
  rw [sh_let_eq ex4] at h
  refine vv_istore (lv' := [(7, _), (6, _), (0, _), (1, _), (2, _), (3, _), (4, _), (5, _)]) 16 7 dX7_mayRise_16 (by decide) rfl ?_
  refine vv_aload_n 18 0 dX7_mayRise_18 rfl rfl ?_
  refine vv_getR 19 dX7_mayRise_19 fl_7_21 rfl (g_l_260 hG) (g_r_260_0 hG) ?_
  obtain ⟨k5, h⟩ := sh_chk h
  refine vv_getR 22 dX7_mayRise_22 fl_7_40 rfl (g_l_55 hG) k5.1 ?_
  refine vv_topr (fun r6 er6 => ?_)
  rw [sh_let_eq er6] at h
  have k5r : sh_r μ 55 0 = some r6 ∧ (r6 = 8 ∨ r6 = 29) := by rw [er6]; exact k5
  refine vv_iload 25 6 dX7_mayRise_25 rfl ?_
  refine vv_iconst 27 dX7_mayRise_27 ik_1 ?_
  refine vv_isub 28 dX7_mayRise_28 ?_
  refine vv_iload 29 7 dX7_mayRise_29 rfl ?_
  refine v1_callV [_, _] 31 dX7_mayRise_31 ck_X7_79 (gP_l hG k5r.2) ⟨by decide, rfl⟩ (c_X5_cellAt (μ := μ) hG k5r.2) (Nat.le_of_ble_eq_true rfl) ⟨Nat.le_of_ble_eq_true rfl, Nat.le_of_ble_eq_true rfl⟩ rfl (Nat.le_of_ble_eq_true rfl) ?_
  refine vv_iload_n 34 2 dX7_mayRise_34 rfl rfl ?_
  refine vv_icmp_eq 35 58 dX7_mayRise_35 (by decide) (fun c7 => ?_) (fun c7 => ?_)
  · rw [if_pos c7] at h
    refine vv_iconst 58 dX7_mayRise_58 ik_1 ?_
    refine vv_goto 59 63 dX7_mayRise_59 (by decide) ?_
    refine vv_istore (lv' := [(8, _), (7, _), (6, _), (0, _), (1, _), (2, _), (3, _), (4, _), (5, _)]) 63 8 dX7_mayRise_63 (by decide) rfl ?_
    refine vv_aload_n 65 1 dX7_mayRise_65 rfl rfl ?_
    refine vv_getR 66 dX7_mayRise_66 fl_7_59 rfl (gL_l hG hq1) (gL_r1 hG hq1) ?_
    refine vv_iload_n 69 2 dX7_mayRise_69 rfl rfl ?_
    obtain ⟨k8, h⟩ := sh_chk h
    refine vv_iald 70 dX7_mayRise_70 (gA_l hG (gLA1 hq1)) k8 ?_
    refine vv_bipush 71 dX7_mayRise_71 bk_9 ?_
    refine vv_iload 73 8 dX7_mayRise_73 rfl ?_
    refine vv_if_eq 75 85 dX7_mayRise_75 (by decide) (fun hc => absurd hc (by decide)) (fun _ => ?_)
    refine vv_iload 78 5 dX7_mayRise_78 rfl ?_
    refine vv_iconst 80 dX7_mayRise_80 ik_1 ?_
    refine vv_iadd 81 dX7_mayRise_81 ?_
    refine vv_goto 82 87 dX7_mayRise_82 (by decide) ?_
    refine vv_imul 87 dX7_mayRise_87 ?_
    refine vv_iadd 88 dX7_mayRise_88 ?_
    refine vv_iload_n 89 3 dX7_mayRise_89 rfl rfl ?_
    refine vv_icmp_lt 90 97 dX7_mayRise_90 (by decide) (fun c9 => ?_) (fun c9 => ?_)
    · rw [if_pos c9] at h
      refine vv_iconst 97 dX7_mayRise_97 ik_0 ?_
      obtain ⟨e1, e2⟩ := sh_some2 h
      refine vv_zret 98 dX7_mayRise_98 rfl rfl (Nat.le_refl _) (Nat.le_refl _) ⟨by rw [e1], e2⟩
    · rw [if_neg c9] at h
      refine vv_iconst 93 dX7_mayRise_93 ik_1 ?_
      refine vv_goto 94 98 dX7_mayRise_94 (by decide) ?_
      obtain ⟨e1, e2⟩ := sh_some2 h
      refine vv_zret 98 dX7_mayRise_98 rfl rfl (Nat.le_refl _) (Nat.le_refl _) ⟨by rw [e1], e2⟩
  · rw [if_neg c7] at h
    refine vv_aload_n 38 0 dX7_mayRise_38 rfl rfl ?_
    refine vv_getR 39 dX7_mayRise_39 fl_7_21 rfl (g_l_260 hG) (g_r_260_0 hG) ?_
    obtain ⟨k10, h⟩ := sh_chk h
    refine vv_getR 42 dX7_mayRise_42 fl_7_40 rfl (g_l_55 hG) k10.1 ?_
    refine vv_topr (fun r11 er11 => ?_)
    rw [sh_let_eq er11] at h
    have k10r : sh_r μ 55 0 = some r11 ∧ (r11 = 8 ∨ r11 = 29) := by rw [er11]; exact k10
    refine vv_iload 45 6 dX7_mayRise_45 rfl ?_
    refine vv_iconst 47 dX7_mayRise_47 ik_1 ?_
    refine vv_iadd 48 dX7_mayRise_48 ?_
    refine vv_iload 49 7 dX7_mayRise_49 rfl ?_
    refine v1_callV [_, _] 51 dX7_mayRise_51 ck_X7_79 (gP_l hG k10r.2) ⟨by decide, rfl⟩ (c_X5_cellAt (μ := μ) hG k10r.2) (Nat.le_of_ble_eq_true rfl) ⟨Nat.le_of_ble_eq_true rfl, Nat.le_of_ble_eq_true rfl⟩ rfl (Nat.le_of_ble_eq_true rfl) ?_
    refine vv_iload_n 54 2 dX7_mayRise_54 rfl rfl ?_
    refine vv_icmp_ne 55 62 dX7_mayRise_55 (by decide) (fun c12 => ?_) (fun c12 => ?_)
    · rw [if_neg c12] at h
      refine vv_iconst 62 dX7_mayRise_62 ik_0 ?_
      refine vv_istore (lv' := [(8, _), (7, _), (6, _), (0, _), (1, _), (2, _), (3, _), (4, _), (5, _)]) 63 8 dX7_mayRise_63 (by decide) rfl ?_
      refine vv_aload_n 65 1 dX7_mayRise_65 rfl rfl ?_
      refine vv_getR 66 dX7_mayRise_66 fl_7_59 rfl (gL_l hG hq1) (gL_r1 hG hq1) ?_
      refine vv_iload_n 69 2 dX7_mayRise_69 rfl rfl ?_
      obtain ⟨k13, h⟩ := sh_chk h
      refine vv_iald 70 dX7_mayRise_70 (gA_l hG (gLA1 hq1)) k13 ?_
      refine vv_bipush 71 dX7_mayRise_71 bk_9 ?_
      refine vv_iload 73 8 dX7_mayRise_73 rfl ?_
      refine vv_if_eq 75 85 dX7_mayRise_75 (by decide) (fun _ => ?_) (fun hc => absurd (by decide) hc)
      refine vv_iload 85 5 dX7_mayRise_85 rfl ?_
      refine vv_imul 87 dX7_mayRise_87 ?_
      refine vv_iadd 88 dX7_mayRise_88 ?_
      refine vv_iload_n 89 3 dX7_mayRise_89 rfl rfl ?_
      refine vv_icmp_lt 90 97 dX7_mayRise_90 (by decide) (fun c14 => ?_) (fun c14 => ?_)
      · rw [if_pos c14] at h
        refine vv_iconst 97 dX7_mayRise_97 ik_0 ?_
        obtain ⟨e1, e2⟩ := sh_some2 h
        refine vv_zret 98 dX7_mayRise_98 rfl rfl (Nat.le_refl _) (Nat.le_refl _) ⟨by rw [e1], e2⟩
      · rw [if_neg c14] at h
        refine vv_iconst 93 dX7_mayRise_93 ik_1 ?_
        refine vv_goto 94 98 dX7_mayRise_94 (by decide) ?_
        obtain ⟨e1, e2⟩ := sh_some2 h
        refine vv_zret 98 dX7_mayRise_98 rfl rfl (Nat.le_refl _) (Nat.le_refl _) ⟨by rw [e1], e2⟩
    · rw [if_pos c12] at h
      refine vv_iconst 58 dX7_mayRise_58 ik_1 ?_
      refine vv_goto 59 63 dX7_mayRise_59 (by decide) ?_
      refine vv_istore (lv' := [(8, _), (7, _), (6, _), (0, _), (1, _), (2, _), (3, _), (4, _), (5, _)]) 63 8 dX7_mayRise_63 (by decide) rfl ?_
      refine vv_aload_n 65 1 dX7_mayRise_65 rfl rfl ?_
      refine vv_getR 66 dX7_mayRise_66 fl_7_59 rfl (gL_l hG hq1) (gL_r1 hG hq1) ?_
      refine vv_iload_n 69 2 dX7_mayRise_69 rfl rfl ?_
      obtain ⟨k15, h⟩ := sh_chk h
      refine vv_iald 70 dX7_mayRise_70 (gA_l hG (gLA1 hq1)) k15 ?_
      refine vv_bipush 71 dX7_mayRise_71 bk_9 ?_
      refine vv_iload 73 8 dX7_mayRise_73 rfl ?_
      refine vv_if_eq 75 85 dX7_mayRise_75 (by decide) (fun hc => absurd hc (by decide)) (fun _ => ?_)
      refine vv_iload 78 5 dX7_mayRise_78 rfl ?_
      refine vv_iconst 80 dX7_mayRise_80 ik_1 ?_
      refine vv_iadd 81 dX7_mayRise_81 ?_
      refine vv_goto 82 87 dX7_mayRise_82 (by decide) ?_
      refine vv_imul 87 dX7_mayRise_87 ?_
      refine vv_iadd 88 dX7_mayRise_88 ?_
      refine vv_iload_n 89 3 dX7_mayRise_89 rfl rfl ?_
      refine vv_icmp_lt 90 97 dX7_mayRise_90 (by decide) (fun c16 => ?_) (fun c16 => ?_)
      · rw [if_pos c16] at h
        refine vv_iconst 97 dX7_mayRise_97 ik_0 ?_
        obtain ⟨e1, e2⟩ := sh_some2 h
        refine vv_zret 98 dX7_mayRise_98 rfl rfl (Nat.le_refl _) (Nat.le_refl _) ⟨by rw [e1], e2⟩
      · rw [if_neg c16] at h
        refine vv_iconst 93 dX7_mayRise_93 ik_1 ?_
        refine vv_goto 94 98 dX7_mayRise_94 (by decide) ?_
        obtain ⟨e1, e2⟩ := sh_some2 h
        refine vv_zret 98 dX7_mayRise_98 rfl rfl (Nat.le_refl _) (Nat.le_refl _) ⟨by rw [e1], e2⟩
noncomputable def F_X8_takeLetters : Nat → Nat → sh_Mem → Option sh_Mem
  | 0, _, _ => none
  | fuel + 1, lbl, μ => match lbl with
    | 1 => (if (sh_i μ 2 1) ≤ (sh_i μ 2 2) then sh_let (sh_setI μ 2 5 ((sh_i μ 2 2) - (sh_i μ 2 4))) (fun μ19 => sh_let (sh_setI μ19 2 3 (-2)) (fun μ20 => some μ20)) else (if sh_in (sh_i μ 2 2) 1600 then (if (sh_i μ 1 ((sh_i μ 2 2)).toNatClampNeg) < 97 then sh_let (sh_setI μ 2 5 ((sh_i μ 2 2) - (sh_i μ 2 4))) (fun μ23 => sh_let (sh_setI μ23 2 3 (-2)) (fun μ24 => some μ24)) else (if sh_in (sh_i μ 2 2) 1600 then (if 122 < (sh_i μ 1 ((sh_i μ 2 2)).toNatClampNeg) then sh_let (sh_setI μ 2 5 ((sh_i μ 2 2) - (sh_i μ 2 4))) (fun μ27 => sh_let (sh_setI μ27 2 3 (-2)) (fun μ28 => some μ28)) else (if 6 ≤ ((sh_i μ 2 2) - (sh_i μ 2 4)) then sh_let (sh_setI μ 2 2 ((sh_i μ 2 2) + 1)) (fun μ30 => F_X8_takeLetters fuel 1  μ30) else (if sh_in (sh_i μ 2 2) 1600 then sh_let (sh_setI μ 2 7 ((sh_i μ 2 7) ||| ((((sh_i μ 1 ((sh_i μ 2 2)).toNatClampNeg) - 97) + 1) <<< ((5 * ((sh_i μ 2 2) - (sh_i μ 2 4))) &&& 31)))) (fun μ32 => sh_let (sh_setI μ32 2 2 ((sh_i μ32 2 2) + 1)) (fun μ33 => F_X8_takeLetters fuel 1  μ33)) else none))) else none)) else none))
    | _ => none
noncomputable def f_X8_takeLetters (μ : sh_Mem) : Option sh_Mem := sh_let (sh_setI μ 2 7 0) (fun μ34 => F_X8_takeLetters sh_fuel 1  μ34)
theorem gpl_X8_takeLetters (fuel : Nat) : (∀ ⦃μ μ' : sh_Mem⦄, sh_G μ → F_X8_takeLetters fuel 1 μ = some μ' → sh_G μ') := by
  induction fuel with
  | zero => intro μ μ' hG h; cases h
  | succ fuel ih =>
    have ih_5 := ih
    intro μ μ' hG h
    replace h : ((if (sh_i μ 2 1) ≤ (sh_i μ 2 2) then sh_let (sh_setI μ 2 5 ((sh_i μ 2 2) - (sh_i μ 2 4))) (fun μ19 => sh_let (sh_setI μ19 2 3 (-2)) (fun μ20 => some μ20)) else (if sh_in (sh_i μ 2 2) 1600 then (if (sh_i μ 1 ((sh_i μ 2 2)).toNatClampNeg) < 97 then sh_let (sh_setI μ 2 5 ((sh_i μ 2 2) - (sh_i μ 2 4))) (fun μ23 => sh_let (sh_setI μ23 2 3 (-2)) (fun μ24 => some μ24)) else (if sh_in (sh_i μ 2 2) 1600 then (if 122 < (sh_i μ 1 ((sh_i μ 2 2)).toNatClampNeg) then sh_let (sh_setI μ 2 5 ((sh_i μ 2 2) - (sh_i μ 2 4))) (fun μ27 => sh_let (sh_setI μ27 2 3 (-2)) (fun μ28 => some μ28)) else (if 6 ≤ ((sh_i μ 2 2) - (sh_i μ 2 4)) then sh_let (sh_setI μ 2 2 ((sh_i μ 2 2) + 1)) (fun μ30 => F_X8_takeLetters fuel 1  μ30) else (if sh_in (sh_i μ 2 2) 1600 then sh_let (sh_setI μ 2 7 ((sh_i μ 2 7) ||| ((((sh_i μ 1 ((sh_i μ 2 2)).toNatClampNeg) - 97) + 1) <<< ((5 * ((sh_i μ 2 2) - (sh_i μ 2 4))) &&& 31)))) (fun μ32 => sh_let (sh_setI μ32 2 2 ((sh_i μ32 2 2) + 1)) (fun μ33 => F_X8_takeLetters fuel 1  μ33)) else none))) else none)) else none)) : Option sh_Mem) = some μ' := h
    by_cases c18 : (sh_i μ 2 1) ≤ (sh_i μ 2 2)
    · rw [if_pos c18] at h
      obtain ⟨μ19, eμ19⟩ : ∃ y : sh_Mem, y = (sh_setI μ 2 5 ((sh_i μ 2 2) - (sh_i μ 2 4))) := ⟨_, rfl⟩
      rw [sh_let_eq eμ19] at h
      have hG19 : sh_G μ19 := by rw [eμ19]; exact hG
      obtain ⟨μ20, eμ20⟩ : ∃ y : sh_Mem, y = (sh_setI μ19 2 3 (-2)) := ⟨_, rfl⟩
      rw [sh_let_eq eμ20] at h
      have hG20 : sh_G μ20 := by rw [eμ20]; exact hG19
      have e2 := Option.some.inj h
      exact e2 ▸ hG20
    · rw [if_neg c18] at h
      obtain ⟨k21, h⟩ := sh_chk h
      by_cases c22 : (sh_i μ 1 ((sh_i μ 2 2)).toNatClampNeg) < 97
      · rw [if_pos c22] at h
        obtain ⟨μ23, eμ23⟩ : ∃ y : sh_Mem, y = (sh_setI μ 2 5 ((sh_i μ 2 2) - (sh_i μ 2 4))) := ⟨_, rfl⟩
        rw [sh_let_eq eμ23] at h
        have hG23 : sh_G μ23 := by rw [eμ23]; exact hG
        obtain ⟨μ24, eμ24⟩ : ∃ y : sh_Mem, y = (sh_setI μ23 2 3 (-2)) := ⟨_, rfl⟩
        rw [sh_let_eq eμ24] at h
        have hG24 : sh_G μ24 := by rw [eμ24]; exact hG23
        have e2 := Option.some.inj h
        exact e2 ▸ hG24
      · rw [if_neg c22] at h
        obtain ⟨k25, h⟩ := sh_chk h
        by_cases c26 : 122 < (sh_i μ 1 ((sh_i μ 2 2)).toNatClampNeg)
        · rw [if_pos c26] at h
          obtain ⟨μ27, eμ27⟩ : ∃ y : sh_Mem, y = (sh_setI μ 2 5 ((sh_i μ 2 2) - (sh_i μ 2 4))) := ⟨_, rfl⟩
          rw [sh_let_eq eμ27] at h
          have hG27 : sh_G μ27 := by rw [eμ27]; exact hG
          obtain ⟨μ28, eμ28⟩ : ∃ y : sh_Mem, y = (sh_setI μ27 2 3 (-2)) := ⟨_, rfl⟩
          rw [sh_let_eq eμ28] at h
          have hG28 : sh_G μ28 := by rw [eμ28]; exact hG27
          have e2 := Option.some.inj h
          exact e2 ▸ hG28
        · rw [if_neg c26] at h
          by_cases c29 : 6 ≤ ((sh_i μ 2 2) - (sh_i μ 2 4))
          · rw [if_pos c29] at h
            obtain ⟨μ30, eμ30⟩ : ∃ y : sh_Mem, y = (sh_setI μ 2 2 ((sh_i μ 2 2) + 1)) := ⟨_, rfl⟩
            rw [sh_let_eq eμ30] at h
            have hG30 : sh_G μ30 := by rw [eμ30]; exact hG
            exact ih_5 hG30 h
          · rw [if_neg c29] at h
            obtain ⟨k31, h⟩ := sh_chk h
            obtain ⟨μ32, eμ32⟩ : ∃ y : sh_Mem, y = (sh_setI μ 2 7 ((sh_i μ 2 7) ||| ((((sh_i μ 1 ((sh_i μ 2 2)).toNatClampNeg) - 97) + 1) <<< ((5 * ((sh_i μ 2 2) - (sh_i μ 2 4))) &&& 31)))) := ⟨_, rfl⟩
            rw [sh_let_eq eμ32] at h
            have hG32 : sh_G μ32 := by rw [eμ32]; exact hG
            obtain ⟨μ33, eμ33⟩ : ∃ y : sh_Mem, y = (sh_setI μ32 2 2 ((sh_i μ32 2 2) + 1)) := ⟨_, rfl⟩
            rw [sh_let_eq eμ33] at h
            have hG33 : sh_G μ33 := by rw [eμ33]; exact hG32
            exact ih_5 hG33 h
theorem tl_X8_takeLetters (fuel : Nat) : (∀ ⦃μ μ' : sh_Mem⦄, sh_G μ → F_X8_takeLetters fuel 1 μ = some μ' → sh_V0 l B D ca 1 M_X8_takeLetters 5 [(0, .ref 2)] [] μ (fun v0 μ0 => v0 = none ∧ μ0 = μ')) := by
  induction fuel with
  | zero => intro μ μ' hG h; cases h
  | succ fuel ih =>
    have ih_5 := ih
    intro μ μ' hG h
    replace h : ((if (sh_i μ 2 1) ≤ (sh_i μ 2 2) then sh_let (sh_setI μ 2 5 ((sh_i μ 2 2) - (sh_i μ 2 4))) (fun μ19 => sh_let (sh_setI μ19 2 3 (-2)) (fun μ20 => some μ20)) else (if sh_in (sh_i μ 2 2) 1600 then (if (sh_i μ 1 ((sh_i μ 2 2)).toNatClampNeg) < 97 then sh_let (sh_setI μ 2 5 ((sh_i μ 2 2) - (sh_i μ 2 4))) (fun μ23 => sh_let (sh_setI μ23 2 3 (-2)) (fun μ24 => some μ24)) else (if sh_in (sh_i μ 2 2) 1600 then (if 122 < (sh_i μ 1 ((sh_i μ 2 2)).toNatClampNeg) then sh_let (sh_setI μ 2 5 ((sh_i μ 2 2) - (sh_i μ 2 4))) (fun μ27 => sh_let (sh_setI μ27 2 3 (-2)) (fun μ28 => some μ28)) else (if 6 ≤ ((sh_i μ 2 2) - (sh_i μ 2 4)) then sh_let (sh_setI μ 2 2 ((sh_i μ 2 2) + 1)) (fun μ30 => F_X8_takeLetters fuel 1  μ30) else (if sh_in (sh_i μ 2 2) 1600 then sh_let (sh_setI μ 2 7 ((sh_i μ 2 7) ||| ((((sh_i μ 1 ((sh_i μ 2 2)).toNatClampNeg) - 97) + 1) <<< ((5 * ((sh_i μ 2 2) - (sh_i μ 2 4))) &&& 31)))) (fun μ32 => sh_let (sh_setI μ32 2 2 ((sh_i μ32 2 2) + 1)) (fun μ33 => F_X8_takeLetters fuel 1  μ33)) else none))) else none)) else none)) : Option sh_Mem) = some μ' := h
    refine vv_aload_n 5 0 dX8_takeLetters_5 rfl rfl ?_
    refine vv_getI 6 dX8_takeLetters_6 fl_8_25 rfl (g_l_2 hG) ?_
    refine vv_aload_n 9 0 dX8_takeLetters_9 rfl rfl ?_
    refine vv_getI 10 dX8_takeLetters_10 fl_8_21 rfl (g_l_2 hG) ?_
    refine vv_icmp_ge 13 106 dX8_takeLetters_13 (by decide) (fun c18 => ?_) (fun c18 => ?_)
    · rw [if_pos c18] at h
      refine vv_aload_n 106 0 dX8_takeLetters_106 rfl rfl ?_
      refine vv_aload_n 107 0 dX8_takeLetters_107 rfl rfl ?_
      refine vv_getI 108 dX8_takeLetters_108 fl_8_25 rfl (g_l_2 hG) ?_
      refine vv_aload_n 111 0 dX8_takeLetters_111 rfl rfl ?_
      refine vv_getI 112 dX8_takeLetters_112 fl_8_31 rfl (g_l_2 hG) ?_
      refine vv_isub 115 dX8_takeLetters_115 ?_
      refine vn_putI 116 dX8_takeLetters_116 fl_8_49 (Or.inl rfl) rfl (g_l_2 hG) (fun μ19 eμ19 => ?_)
      rw [sh_let_eq eμ19] at h
      have hG19 : sh_G μ19 := by rw [eμ19]; exact hG
      refine vv_aload_n 119 0 dX8_takeLetters_119 rfl rfl ?_
      refine vv_bipush 120 dX8_takeLetters_120 bk_m2 ?_
      refine vn_putI 122 dX8_takeLetters_122 fl_8_28 (Or.inl rfl) rfl (g_l_2 hG19) (fun μ20 eμ20 => ?_)
      rw [sh_let_eq eμ20] at h
      have hG20 : sh_G μ20 := by rw [eμ20]; exact hG19
      have e2 := Option.some.inj h
      refine vv_vret 125 dX8_takeLetters_125 rfl (Nat.le_refl _) (Nat.le_refl _) ⟨rfl, e2⟩
    · rw [if_neg c18] at h
      refine vv_aload_n 16 0 dX8_takeLetters_16 rfl rfl ?_
      refine vv_getR 17 dX8_takeLetters_17 fl_8_9 rfl (g_l_2 hG) (g_r_2_0 hG) ?_
      refine vv_aload_n 20 0 dX8_takeLetters_20 rfl rfl ?_
      refine vv_getI 21 dX8_takeLetters_21 fl_8_25 rfl (g_l_2 hG) ?_
      obtain ⟨k21, h⟩ := sh_chk h
      refine vv_iald 24 dX8_takeLetters_24 (g_l_1 hG) k21 ?_
      refine vv_bipush 25 dX8_takeLetters_25 bk_97 ?_
      refine vv_icmp_lt 27 106 dX8_takeLetters_27 (by decide) (fun c22 => ?_) (fun c22 => ?_)
      · rw [if_pos c22] at h
        refine vv_aload_n 106 0 dX8_takeLetters_106 rfl rfl ?_
        refine vv_aload_n 107 0 dX8_takeLetters_107 rfl rfl ?_
        refine vv_getI 108 dX8_takeLetters_108 fl_8_25 rfl (g_l_2 hG) ?_
        refine vv_aload_n 111 0 dX8_takeLetters_111 rfl rfl ?_
        refine vv_getI 112 dX8_takeLetters_112 fl_8_31 rfl (g_l_2 hG) ?_
        refine vv_isub 115 dX8_takeLetters_115 ?_
        refine vn_putI 116 dX8_takeLetters_116 fl_8_49 (Or.inl rfl) rfl (g_l_2 hG) (fun μ23 eμ23 => ?_)
        rw [sh_let_eq eμ23] at h
        have hG23 : sh_G μ23 := by rw [eμ23]; exact hG
        refine vv_aload_n 119 0 dX8_takeLetters_119 rfl rfl ?_
        refine vv_bipush 120 dX8_takeLetters_120 bk_m2 ?_
        refine vn_putI 122 dX8_takeLetters_122 fl_8_28 (Or.inl rfl) rfl (g_l_2 hG23) (fun μ24 eμ24 => ?_)
        rw [sh_let_eq eμ24] at h
        have hG24 : sh_G μ24 := by rw [eμ24]; exact hG23
        have e2 := Option.some.inj h
        refine vv_vret 125 dX8_takeLetters_125 rfl (Nat.le_refl _) (Nat.le_refl _) ⟨rfl, e2⟩
      · rw [if_neg c22] at h
        refine vv_aload_n 30 0 dX8_takeLetters_30 rfl rfl ?_
        refine vv_getR 31 dX8_takeLetters_31 fl_8_9 rfl (g_l_2 hG) (g_r_2_0 hG) ?_
        refine vv_aload_n 34 0 dX8_takeLetters_34 rfl rfl ?_
        refine vv_getI 35 dX8_takeLetters_35 fl_8_25 rfl (g_l_2 hG) ?_
        obtain ⟨k25, h⟩ := sh_chk h
        refine vv_iald 38 dX8_takeLetters_38 (g_l_1 hG) k25 ?_
        refine vv_bipush 39 dX8_takeLetters_39 bk_122 ?_
        refine vv_icmp_gt 41 106 dX8_takeLetters_41 (by decide) (fun c26 => ?_) (fun c26 => ?_)
        · rw [if_pos c26] at h
          refine vv_aload_n 106 0 dX8_takeLetters_106 rfl rfl ?_
          refine vv_aload_n 107 0 dX8_takeLetters_107 rfl rfl ?_
          refine vv_getI 108 dX8_takeLetters_108 fl_8_25 rfl (g_l_2 hG) ?_
          refine vv_aload_n 111 0 dX8_takeLetters_111 rfl rfl ?_
          refine vv_getI 112 dX8_takeLetters_112 fl_8_31 rfl (g_l_2 hG) ?_
          refine vv_isub 115 dX8_takeLetters_115 ?_
          refine vn_putI 116 dX8_takeLetters_116 fl_8_49 (Or.inl rfl) rfl (g_l_2 hG) (fun μ27 eμ27 => ?_)
          rw [sh_let_eq eμ27] at h
          have hG27 : sh_G μ27 := by rw [eμ27]; exact hG
          refine vv_aload_n 119 0 dX8_takeLetters_119 rfl rfl ?_
          refine vv_bipush 120 dX8_takeLetters_120 bk_m2 ?_
          refine vn_putI 122 dX8_takeLetters_122 fl_8_28 (Or.inl rfl) rfl (g_l_2 hG27) (fun μ28 eμ28 => ?_)
          rw [sh_let_eq eμ28] at h
          have hG28 : sh_G μ28 := by rw [eμ28]; exact hG27
          have e2 := Option.some.inj h
          refine vv_vret 125 dX8_takeLetters_125 rfl (Nat.le_refl _) (Nat.le_refl _) ⟨rfl, e2⟩
        · rw [if_neg c26] at h
          refine vv_aload_n 44 0 dX8_takeLetters_44 rfl rfl ?_
          refine vv_getI 45 dX8_takeLetters_45 fl_8_25 rfl (g_l_2 hG) ?_
          refine vv_aload_n 48 0 dX8_takeLetters_48 rfl rfl ?_
          refine vv_getI 49 dX8_takeLetters_49 fl_8_31 rfl (g_l_2 hG) ?_
          refine vv_isub 52 dX8_takeLetters_52 ?_
          refine vv_bipush 53 dX8_takeLetters_53 bk_6 ?_
          refine vv_icmp_ge 55 93 dX8_takeLetters_55 (by decide) (fun c29 => ?_) (fun c29 => ?_)
          · rw [if_pos c29] at h
            refine vv_aload_n 93 0 dX8_takeLetters_93 rfl rfl ?_
            refine vv_dup_ref 94 dX8_takeLetters_94 ?_
            refine vv_getI 95 dX8_takeLetters_95 fl_8_25 rfl (g_l_2 hG) ?_
            refine vv_iconst 98 dX8_takeLetters_98 ik_1 ?_
            refine vv_iadd 99 dX8_takeLetters_99 ?_
            refine vn_putI 100 dX8_takeLetters_100 fl_8_25 (Or.inl rfl) rfl (g_l_2 hG) (fun μ30 eμ30 => ?_)
            rw [sh_let_eq eμ30] at h
            have hG30 : sh_G μ30 := by rw [eμ30]; exact hG
            refine vv_goto 103 5 dX8_takeLetters_103 (by decide) ?_
            refine vv_sub [(0, _)] (sh_subm [0] rfl) ?_
            exact ih_5 hG30 h
          · rw [if_neg c29] at h
            refine vv_aload_n 58 0 dX8_takeLetters_58 rfl rfl ?_
            refine vv_dup_ref 59 dX8_takeLetters_59 ?_
            refine vv_getI 60 dX8_takeLetters_60 fl_8_52 rfl (g_l_2 hG) ?_
            refine vv_aload_n 63 0 dX8_takeLetters_63 rfl rfl ?_
            refine vv_getR 64 dX8_takeLetters_64 fl_8_9 rfl (g_l_2 hG) (g_r_2_0 hG) ?_
            refine vv_aload_n 67 0 dX8_takeLetters_67 rfl rfl ?_
            refine vv_getI 68 dX8_takeLetters_68 fl_8_25 rfl (g_l_2 hG) ?_
            obtain ⟨k31, h⟩ := sh_chk h
            refine vv_iald 71 dX8_takeLetters_71 (g_l_1 hG) k31 ?_
            refine vv_bipush 72 dX8_takeLetters_72 bk_97 ?_
            refine vv_isub 74 dX8_takeLetters_74 ?_
            refine vv_iconst 75 dX8_takeLetters_75 ik_1 ?_
            refine vv_iadd 76 dX8_takeLetters_76 ?_
            refine vv_iconst 77 dX8_takeLetters_77 ik_5 ?_
            refine vv_aload_n 78 0 dX8_takeLetters_78 rfl rfl ?_
            refine vv_getI 79 dX8_takeLetters_79 fl_8_25 rfl (g_l_2 hG) ?_
            refine vv_aload_n 82 0 dX8_takeLetters_82 rfl rfl ?_
            refine vv_getI 83 dX8_takeLetters_83 fl_8_31 rfl (g_l_2 hG) ?_
            refine vv_isub 86 dX8_takeLetters_86 ?_
            refine vv_imul 87 dX8_takeLetters_87 ?_
            refine vv_ishl 88 dX8_takeLetters_88 ?_
            refine vv_ior 89 dX8_takeLetters_89 ?_
            refine vn_putI 90 dX8_takeLetters_90 fl_8_52 (Or.inl rfl) rfl (g_l_2 hG) (fun μ32 eμ32 => ?_)
            rw [sh_let_eq eμ32] at h
            have hG32 : sh_G μ32 := by rw [eμ32]; exact hG
            refine vv_aload_n 93 0 dX8_takeLetters_93 rfl rfl ?_
            refine vv_dup_ref 94 dX8_takeLetters_94 ?_
            refine vv_getI 95 dX8_takeLetters_95 fl_8_25 rfl (g_l_2 hG32) ?_
            refine vv_iconst 98 dX8_takeLetters_98 ik_1 ?_
            refine vv_iadd 99 dX8_takeLetters_99 ?_
            refine vn_putI 100 dX8_takeLetters_100 fl_8_25 (Or.inl rfl) rfl (g_l_2 hG32) (fun μ33 eμ33 => ?_)
            rw [sh_let_eq eμ33] at h
            have hG33 : sh_G μ33 := by rw [eμ33]; exact hG32
            refine vv_goto 103 5 dX8_takeLetters_103 (by decide) ?_
            refine vv_sub [(0, _)] (sh_subm [0] rfl) ?_
            exact ih_5 hG33 h
theorem gp_X8_takeLetters {μ μ' : sh_Mem} (hG : sh_G μ) (h : f_X8_takeLetters μ = some μ') : sh_G μ' := by
  have ih_5 := (gpl_X8_takeLetters sh_fuel)
  unfold f_X8_takeLetters at h
  obtain ⟨μ34, eμ34⟩ : ∃ y : sh_Mem, y = (sh_setI μ 2 7 0) := ⟨_, rfl⟩
  rw [sh_let_eq eμ34] at h
  have hG34 : sh_G μ34 := by rw [eμ34]; exact hG
  exact ih_5 hG34 h
theorem t_X8_takeLetters {μ μ' : sh_Mem} (hG : sh_G μ) (h : f_X8_takeLetters μ = some μ') : sh_C0 l B D ca 1 M_X8_takeLetters [.ref 2] μ (fun v0 μ0 => v0 = none ∧ μ0 = μ') := by
  have ih_5 := (tl_X8_takeLetters (l := l) (B := B) (D := D) (ca := ca) sh_fuel)
  unfold f_X8_takeLetters at h
  refine vv_aload_n 0 0 dX8_takeLetters_0 rfl rfl ?_
  refine vv_iconst 1 dX8_takeLetters_1 ik_0 ?_
  refine vn_putI 2 dX8_takeLetters_2 fl_8_52 (Or.inl rfl) rfl (g_l_2 hG) (fun μ34 eμ34 => ?_)
  rw [sh_let_eq eμ34] at h
  have hG34 : sh_G μ34 := by rw [eμ34]; exact hG
  refine vv_sub [(0, _)] (sh_subm [0] rfl) ?_
  exact ih_5 hG34 h
noncomputable def F_X8_takeDigits : Nat → Nat → sh_Mem → Option sh_Mem
  | 0, _, _ => none
  | fuel + 1, lbl, μ => match lbl with
    | 1 => (if (sh_i μ 2 1) ≤ (sh_i μ 2 2) then sh_let (sh_setI μ 2 5 ((sh_i μ 2 2) - (sh_i μ 2 4))) (fun μ19 => sh_let (sh_setI μ19 2 3 (-3)) (fun μ20 => some μ20)) else (if sh_in (sh_i μ 2 2) 1600 then (if (sh_i μ 1 ((sh_i μ 2 2)).toNatClampNeg) < 48 then sh_let (sh_setI μ 2 5 ((sh_i μ 2 2) - (sh_i μ 2 4))) (fun μ23 => sh_let (sh_setI μ23 2 3 (-3)) (fun μ24 => some μ24)) else (if sh_in (sh_i μ 2 2) 1600 then (if 57 < (sh_i μ 1 ((sh_i μ 2 2)).toNatClampNeg) then sh_let (sh_setI μ 2 5 ((sh_i μ 2 2) - (sh_i μ 2 4))) (fun μ27 => sh_let (sh_setI μ27 2 3 (-3)) (fun μ28 => some μ28)) else (if 4 ≤ ((sh_i μ 2 2) - (sh_i μ 2 4)) then sh_let (sh_setI μ 2 2 ((sh_i μ 2 2) + 1)) (fun μ30 => F_X8_takeDigits fuel 1  μ30) else (if sh_in (sh_i μ 2 2) 1600 then sh_let (sh_setI μ 2 8 ((((sh_i μ 2 8) * 10) + (sh_i μ 1 ((sh_i μ 2 2)).toNatClampNeg)) - 48)) (fun μ32 => sh_let (sh_setI μ32 2 2 ((sh_i μ32 2 2) + 1)) (fun μ33 => F_X8_takeDigits fuel 1  μ33)) else none))) else none)) else none))
    | _ => none
noncomputable def f_X8_takeDigits (μ : sh_Mem) : Option sh_Mem := sh_let (sh_setI μ 2 8 0) (fun μ34 => F_X8_takeDigits sh_fuel 1  μ34)
theorem gpl_X8_takeDigits (fuel : Nat) : (∀ ⦃μ μ' : sh_Mem⦄, sh_G μ → F_X8_takeDigits fuel 1 μ = some μ' → sh_G μ') := by
  induction fuel with
  | zero => intro μ μ' hG h; cases h
  | succ fuel ih =>
    have ih_5 := ih
    intro μ μ' hG h
    replace h : ((if (sh_i μ 2 1) ≤ (sh_i μ 2 2) then sh_let (sh_setI μ 2 5 ((sh_i μ 2 2) - (sh_i μ 2 4))) (fun μ19 => sh_let (sh_setI μ19 2 3 (-3)) (fun μ20 => some μ20)) else (if sh_in (sh_i μ 2 2) 1600 then (if (sh_i μ 1 ((sh_i μ 2 2)).toNatClampNeg) < 48 then sh_let (sh_setI μ 2 5 ((sh_i μ 2 2) - (sh_i μ 2 4))) (fun μ23 => sh_let (sh_setI μ23 2 3 (-3)) (fun μ24 => some μ24)) else (if sh_in (sh_i μ 2 2) 1600 then (if 57 < (sh_i μ 1 ((sh_i μ 2 2)).toNatClampNeg) then sh_let (sh_setI μ 2 5 ((sh_i μ 2 2) - (sh_i μ 2 4))) (fun μ27 => sh_let (sh_setI μ27 2 3 (-3)) (fun μ28 => some μ28)) else (if 4 ≤ ((sh_i μ 2 2) - (sh_i μ 2 4)) then sh_let (sh_setI μ 2 2 ((sh_i μ 2 2) + 1)) (fun μ30 => F_X8_takeDigits fuel 1  μ30) else (if sh_in (sh_i μ 2 2) 1600 then sh_let (sh_setI μ 2 8 ((((sh_i μ 2 8) * 10) + (sh_i μ 1 ((sh_i μ 2 2)).toNatClampNeg)) - 48)) (fun μ32 => sh_let (sh_setI μ32 2 2 ((sh_i μ32 2 2) + 1)) (fun μ33 => F_X8_takeDigits fuel 1  μ33)) else none))) else none)) else none)) : Option sh_Mem) = some μ' := h
    by_cases c18 : (sh_i μ 2 1) ≤ (sh_i μ 2 2)
    · rw [if_pos c18] at h
      obtain ⟨μ19, eμ19⟩ : ∃ y : sh_Mem, y = (sh_setI μ 2 5 ((sh_i μ 2 2) - (sh_i μ 2 4))) := ⟨_, rfl⟩
      rw [sh_let_eq eμ19] at h
      have hG19 : sh_G μ19 := by rw [eμ19]; exact hG
      obtain ⟨μ20, eμ20⟩ : ∃ y : sh_Mem, y = (sh_setI μ19 2 3 (-3)) := ⟨_, rfl⟩
      rw [sh_let_eq eμ20] at h
      have hG20 : sh_G μ20 := by rw [eμ20]; exact hG19
      have e2 := Option.some.inj h
      exact e2 ▸ hG20
    · rw [if_neg c18] at h
      obtain ⟨k21, h⟩ := sh_chk h
      by_cases c22 : (sh_i μ 1 ((sh_i μ 2 2)).toNatClampNeg) < 48
      · rw [if_pos c22] at h
        obtain ⟨μ23, eμ23⟩ : ∃ y : sh_Mem, y = (sh_setI μ 2 5 ((sh_i μ 2 2) - (sh_i μ 2 4))) := ⟨_, rfl⟩
        rw [sh_let_eq eμ23] at h
        have hG23 : sh_G μ23 := by rw [eμ23]; exact hG
        obtain ⟨μ24, eμ24⟩ : ∃ y : sh_Mem, y = (sh_setI μ23 2 3 (-3)) := ⟨_, rfl⟩
        rw [sh_let_eq eμ24] at h
        have hG24 : sh_G μ24 := by rw [eμ24]; exact hG23
        have e2 := Option.some.inj h
        exact e2 ▸ hG24
      · rw [if_neg c22] at h
        obtain ⟨k25, h⟩ := sh_chk h
        by_cases c26 : 57 < (sh_i μ 1 ((sh_i μ 2 2)).toNatClampNeg)
        · rw [if_pos c26] at h
          obtain ⟨μ27, eμ27⟩ : ∃ y : sh_Mem, y = (sh_setI μ 2 5 ((sh_i μ 2 2) - (sh_i μ 2 4))) := ⟨_, rfl⟩
          rw [sh_let_eq eμ27] at h
          have hG27 : sh_G μ27 := by rw [eμ27]; exact hG
          obtain ⟨μ28, eμ28⟩ : ∃ y : sh_Mem, y = (sh_setI μ27 2 3 (-3)) := ⟨_, rfl⟩
          rw [sh_let_eq eμ28] at h
          have hG28 : sh_G μ28 := by rw [eμ28]; exact hG27
          have e2 := Option.some.inj h
          exact e2 ▸ hG28
        · rw [if_neg c26] at h
          by_cases c29 : 4 ≤ ((sh_i μ 2 2) - (sh_i μ 2 4))
          · rw [if_pos c29] at h
            obtain ⟨μ30, eμ30⟩ : ∃ y : sh_Mem, y = (sh_setI μ 2 2 ((sh_i μ 2 2) + 1)) := ⟨_, rfl⟩
            rw [sh_let_eq eμ30] at h
            have hG30 : sh_G μ30 := by rw [eμ30]; exact hG
            exact ih_5 hG30 h
          · rw [if_neg c29] at h
            obtain ⟨k31, h⟩ := sh_chk h
            obtain ⟨μ32, eμ32⟩ : ∃ y : sh_Mem, y = (sh_setI μ 2 8 ((((sh_i μ 2 8) * 10) + (sh_i μ 1 ((sh_i μ 2 2)).toNatClampNeg)) - 48)) := ⟨_, rfl⟩
            rw [sh_let_eq eμ32] at h
            have hG32 : sh_G μ32 := by rw [eμ32]; exact hG
            obtain ⟨μ33, eμ33⟩ : ∃ y : sh_Mem, y = (sh_setI μ32 2 2 ((sh_i μ32 2 2) + 1)) := ⟨_, rfl⟩
            rw [sh_let_eq eμ33] at h
            have hG33 : sh_G μ33 := by rw [eμ33]; exact hG32
            exact ih_5 hG33 h
theorem tl_X8_takeDigits (fuel : Nat) : (∀ ⦃μ μ' : sh_Mem⦄, sh_G μ → F_X8_takeDigits fuel 1 μ = some μ' → sh_V0 l B D ca 1 M_X8_takeDigits 5 [(0, .ref 2)] [] μ (fun v0 μ0 => v0 = none ∧ μ0 = μ')) := by
  induction fuel with
  | zero => intro μ μ' hG h; cases h
  | succ fuel ih =>
    have ih_5 := ih
    intro μ μ' hG h
    replace h : ((if (sh_i μ 2 1) ≤ (sh_i μ 2 2) then sh_let (sh_setI μ 2 5 ((sh_i μ 2 2) - (sh_i μ 2 4))) (fun μ19 => sh_let (sh_setI μ19 2 3 (-3)) (fun μ20 => some μ20)) else (if sh_in (sh_i μ 2 2) 1600 then (if (sh_i μ 1 ((sh_i μ 2 2)).toNatClampNeg) < 48 then sh_let (sh_setI μ 2 5 ((sh_i μ 2 2) - (sh_i μ 2 4))) (fun μ23 => sh_let (sh_setI μ23 2 3 (-3)) (fun μ24 => some μ24)) else (if sh_in (sh_i μ 2 2) 1600 then (if 57 < (sh_i μ 1 ((sh_i μ 2 2)).toNatClampNeg) then sh_let (sh_setI μ 2 5 ((sh_i μ 2 2) - (sh_i μ 2 4))) (fun μ27 => sh_let (sh_setI μ27 2 3 (-3)) (fun μ28 => some μ28)) else (if 4 ≤ ((sh_i μ 2 2) - (sh_i μ 2 4)) then sh_let (sh_setI μ 2 2 ((sh_i μ 2 2) + 1)) (fun μ30 => F_X8_takeDigits fuel 1  μ30) else (if sh_in (sh_i μ 2 2) 1600 then sh_let (sh_setI μ 2 8 ((((sh_i μ 2 8) * 10) + (sh_i μ 1 ((sh_i μ 2 2)).toNatClampNeg)) - 48)) (fun μ32 => sh_let (sh_setI μ32 2 2 ((sh_i μ32 2 2) + 1)) (fun μ33 => F_X8_takeDigits fuel 1  μ33)) else none))) else none)) else none)) : Option sh_Mem) = some μ' := h
    refine vv_aload_n 5 0 dX8_takeDigits_5 rfl rfl ?_
    refine vv_getI 6 dX8_takeDigits_6 fl_8_25 rfl (g_l_2 hG) ?_
    refine vv_aload_n 9 0 dX8_takeDigits_9 rfl rfl ?_
    refine vv_getI 10 dX8_takeDigits_10 fl_8_21 rfl (g_l_2 hG) ?_
    refine vv_icmp_ge 13 94 dX8_takeDigits_13 (by decide) (fun c18 => ?_) (fun c18 => ?_)
    · rw [if_pos c18] at h
      refine vv_aload_n 94 0 dX8_takeDigits_94 rfl rfl ?_
      refine vv_aload_n 95 0 dX8_takeDigits_95 rfl rfl ?_
      refine vv_getI 96 dX8_takeDigits_96 fl_8_25 rfl (g_l_2 hG) ?_
      refine vv_aload_n 99 0 dX8_takeDigits_99 rfl rfl ?_
      refine vv_getI 100 dX8_takeDigits_100 fl_8_31 rfl (g_l_2 hG) ?_
      refine vv_isub 103 dX8_takeDigits_103 ?_
      refine vn_putI 104 dX8_takeDigits_104 fl_8_49 (Or.inl rfl) rfl (g_l_2 hG) (fun μ19 eμ19 => ?_)
      rw [sh_let_eq eμ19] at h
      have hG19 : sh_G μ19 := by rw [eμ19]; exact hG
      refine vv_aload_n 107 0 dX8_takeDigits_107 rfl rfl ?_
      refine vv_bipush 108 dX8_takeDigits_108 bk_m3 ?_
      refine vn_putI 110 dX8_takeDigits_110 fl_8_28 (Or.inl rfl) rfl (g_l_2 hG19) (fun μ20 eμ20 => ?_)
      rw [sh_let_eq eμ20] at h
      have hG20 : sh_G μ20 := by rw [eμ20]; exact hG19
      have e2 := Option.some.inj h
      refine vv_vret 113 dX8_takeDigits_113 rfl (Nat.le_refl _) (Nat.le_refl _) ⟨rfl, e2⟩
    · rw [if_neg c18] at h
      refine vv_aload_n 16 0 dX8_takeDigits_16 rfl rfl ?_
      refine vv_getR 17 dX8_takeDigits_17 fl_8_9 rfl (g_l_2 hG) (g_r_2_0 hG) ?_
      refine vv_aload_n 20 0 dX8_takeDigits_20 rfl rfl ?_
      refine vv_getI 21 dX8_takeDigits_21 fl_8_25 rfl (g_l_2 hG) ?_
      obtain ⟨k21, h⟩ := sh_chk h
      refine vv_iald 24 dX8_takeDigits_24 (g_l_1 hG) k21 ?_
      refine vv_bipush 25 dX8_takeDigits_25 bk_48 ?_
      refine vv_icmp_lt 27 94 dX8_takeDigits_27 (by decide) (fun c22 => ?_) (fun c22 => ?_)
      · rw [if_pos c22] at h
        refine vv_aload_n 94 0 dX8_takeDigits_94 rfl rfl ?_
        refine vv_aload_n 95 0 dX8_takeDigits_95 rfl rfl ?_
        refine vv_getI 96 dX8_takeDigits_96 fl_8_25 rfl (g_l_2 hG) ?_
        refine vv_aload_n 99 0 dX8_takeDigits_99 rfl rfl ?_
        refine vv_getI 100 dX8_takeDigits_100 fl_8_31 rfl (g_l_2 hG) ?_
        refine vv_isub 103 dX8_takeDigits_103 ?_
        refine vn_putI 104 dX8_takeDigits_104 fl_8_49 (Or.inl rfl) rfl (g_l_2 hG) (fun μ23 eμ23 => ?_)
        rw [sh_let_eq eμ23] at h
        have hG23 : sh_G μ23 := by rw [eμ23]; exact hG
        refine vv_aload_n 107 0 dX8_takeDigits_107 rfl rfl ?_
        refine vv_bipush 108 dX8_takeDigits_108 bk_m3 ?_
        refine vn_putI 110 dX8_takeDigits_110 fl_8_28 (Or.inl rfl) rfl (g_l_2 hG23) (fun μ24 eμ24 => ?_)
        rw [sh_let_eq eμ24] at h
        have hG24 : sh_G μ24 := by rw [eμ24]; exact hG23
        have e2 := Option.some.inj h
        refine vv_vret 113 dX8_takeDigits_113 rfl (Nat.le_refl _) (Nat.le_refl _) ⟨rfl, e2⟩
      · rw [if_neg c22] at h
        refine vv_aload_n 30 0 dX8_takeDigits_30 rfl rfl ?_
        refine vv_getR 31 dX8_takeDigits_31 fl_8_9 rfl (g_l_2 hG) (g_r_2_0 hG) ?_
        refine vv_aload_n 34 0 dX8_takeDigits_34 rfl rfl ?_
        refine vv_getI 35 dX8_takeDigits_35 fl_8_25 rfl (g_l_2 hG) ?_
        obtain ⟨k25, h⟩ := sh_chk h
        refine vv_iald 38 dX8_takeDigits_38 (g_l_1 hG) k25 ?_
        refine vv_bipush 39 dX8_takeDigits_39 bk_57 ?_
        refine vv_icmp_gt 41 94 dX8_takeDigits_41 (by decide) (fun c26 => ?_) (fun c26 => ?_)
        · rw [if_pos c26] at h
          refine vv_aload_n 94 0 dX8_takeDigits_94 rfl rfl ?_
          refine vv_aload_n 95 0 dX8_takeDigits_95 rfl rfl ?_
          refine vv_getI 96 dX8_takeDigits_96 fl_8_25 rfl (g_l_2 hG) ?_
          refine vv_aload_n 99 0 dX8_takeDigits_99 rfl rfl ?_
          refine vv_getI 100 dX8_takeDigits_100 fl_8_31 rfl (g_l_2 hG) ?_
          refine vv_isub 103 dX8_takeDigits_103 ?_
          refine vn_putI 104 dX8_takeDigits_104 fl_8_49 (Or.inl rfl) rfl (g_l_2 hG) (fun μ27 eμ27 => ?_)
          rw [sh_let_eq eμ27] at h
          have hG27 : sh_G μ27 := by rw [eμ27]; exact hG
          refine vv_aload_n 107 0 dX8_takeDigits_107 rfl rfl ?_
          refine vv_bipush 108 dX8_takeDigits_108 bk_m3 ?_
          refine vn_putI 110 dX8_takeDigits_110 fl_8_28 (Or.inl rfl) rfl (g_l_2 hG27) (fun μ28 eμ28 => ?_)
          rw [sh_let_eq eμ28] at h
          have hG28 : sh_G μ28 := by rw [eμ28]; exact hG27
          have e2 := Option.some.inj h
          refine vv_vret 113 dX8_takeDigits_113 rfl (Nat.le_refl _) (Nat.le_refl _) ⟨rfl, e2⟩
        · rw [if_neg c26] at h
          refine vv_aload_n 44 0 dX8_takeDigits_44 rfl rfl ?_
          refine vv_getI 45 dX8_takeDigits_45 fl_8_25 rfl (g_l_2 hG) ?_
          refine vv_aload_n 48 0 dX8_takeDigits_48 rfl rfl ?_
          refine vv_getI 49 dX8_takeDigits_49 fl_8_31 rfl (g_l_2 hG) ?_
          refine vv_isub 52 dX8_takeDigits_52 ?_
          refine vv_iconst 53 dX8_takeDigits_53 ik_4 ?_
          refine vv_icmp_ge 54 81 dX8_takeDigits_54 (by decide) (fun c29 => ?_) (fun c29 => ?_)
          · rw [if_pos c29] at h
            refine vv_aload_n 81 0 dX8_takeDigits_81 rfl rfl ?_
            refine vv_dup_ref 82 dX8_takeDigits_82 ?_
            refine vv_getI 83 dX8_takeDigits_83 fl_8_25 rfl (g_l_2 hG) ?_
            refine vv_iconst 86 dX8_takeDigits_86 ik_1 ?_
            refine vv_iadd 87 dX8_takeDigits_87 ?_
            refine vn_putI 88 dX8_takeDigits_88 fl_8_25 (Or.inl rfl) rfl (g_l_2 hG) (fun μ30 eμ30 => ?_)
            rw [sh_let_eq eμ30] at h
            have hG30 : sh_G μ30 := by rw [eμ30]; exact hG
            refine vv_goto 91 5 dX8_takeDigits_91 (by decide) ?_
            refine vv_sub [(0, _)] (sh_subm [0] rfl) ?_
            exact ih_5 hG30 h
          · rw [if_neg c29] at h
            refine vv_aload_n 57 0 dX8_takeDigits_57 rfl rfl ?_
            refine vv_aload_n 58 0 dX8_takeDigits_58 rfl rfl ?_
            refine vv_getI 59 dX8_takeDigits_59 fl_8_65 rfl (g_l_2 hG) ?_
            refine vv_bipush 62 dX8_takeDigits_62 bk_10 ?_
            refine vv_imul 64 dX8_takeDigits_64 ?_
            refine vv_aload_n 65 0 dX8_takeDigits_65 rfl rfl ?_
            refine vv_getR 66 dX8_takeDigits_66 fl_8_9 rfl (g_l_2 hG) (g_r_2_0 hG) ?_
            refine vv_aload_n 69 0 dX8_takeDigits_69 rfl rfl ?_
            refine vv_getI 70 dX8_takeDigits_70 fl_8_25 rfl (g_l_2 hG) ?_
            obtain ⟨k31, h⟩ := sh_chk h
            refine vv_iald 73 dX8_takeDigits_73 (g_l_1 hG) k31 ?_
            refine vv_iadd 74 dX8_takeDigits_74 ?_
            refine vv_bipush 75 dX8_takeDigits_75 bk_48 ?_
            refine vv_isub 77 dX8_takeDigits_77 ?_
            refine vn_putI 78 dX8_takeDigits_78 fl_8_65 (Or.inl rfl) rfl (g_l_2 hG) (fun μ32 eμ32 => ?_)
            rw [sh_let_eq eμ32] at h
            have hG32 : sh_G μ32 := by rw [eμ32]; exact hG
            refine vv_aload_n 81 0 dX8_takeDigits_81 rfl rfl ?_
            refine vv_dup_ref 82 dX8_takeDigits_82 ?_
            refine vv_getI 83 dX8_takeDigits_83 fl_8_25 rfl (g_l_2 hG32) ?_
            refine vv_iconst 86 dX8_takeDigits_86 ik_1 ?_
            refine vv_iadd 87 dX8_takeDigits_87 ?_
            refine vn_putI 88 dX8_takeDigits_88 fl_8_25 (Or.inl rfl) rfl (g_l_2 hG32) (fun μ33 eμ33 => ?_)
            rw [sh_let_eq eμ33] at h
            have hG33 : sh_G μ33 := by rw [eμ33]; exact hG32
            refine vv_goto 91 5 dX8_takeDigits_91 (by decide) ?_
            refine vv_sub [(0, _)] (sh_subm [0] rfl) ?_
            exact ih_5 hG33 h
theorem gp_X8_takeDigits {μ μ' : sh_Mem} (hG : sh_G μ) (h : f_X8_takeDigits μ = some μ') : sh_G μ' := by
  have ih_5 := (gpl_X8_takeDigits sh_fuel)
  unfold f_X8_takeDigits at h
  obtain ⟨μ34, eμ34⟩ : ∃ y : sh_Mem, y = (sh_setI μ 2 8 0) := ⟨_, rfl⟩
  rw [sh_let_eq eμ34] at h
  have hG34 : sh_G μ34 := by rw [eμ34]; exact hG
  exact ih_5 hG34 h
theorem t_X8_takeDigits {μ μ' : sh_Mem} (hG : sh_G μ) (h : f_X8_takeDigits μ = some μ') : sh_C0 l B D ca 1 M_X8_takeDigits [.ref 2] μ (fun v0 μ0 => v0 = none ∧ μ0 = μ') := by
  have ih_5 := (tl_X8_takeDigits (l := l) (B := B) (D := D) (ca := ca) sh_fuel)
  unfold f_X8_takeDigits at h
  refine vv_aload_n 0 0 dX8_takeDigits_0 rfl rfl ?_
  refine vv_iconst 1 dX8_takeDigits_1 ik_0 ?_
  refine vn_putI 2 dX8_takeDigits_2 fl_8_65 (Or.inl rfl) rfl (g_l_2 hG) (fun μ34 eμ34 => ?_)
  rw [sh_let_eq eμ34] at h
  have hG34 : sh_G μ34 := by rw [eμ34]; exact hG
  refine vv_sub [(0, _)] (sh_subm [0] rfl) ?_
  exact ih_5 hG34 h
noncomputable def F_X8_wordOf : Nat → Nat → Int32 → Int32 → Int32 → Int32 → Int32 → sh_Mem → Option (Int32 × sh_Mem)
  | 0, _, _, _, _, _, _, _ => none
  | fuel + 1, lbl, i0, i1, i2, i3, i4, μ => match lbl with
    | 1 => (if 171 ≤ i4 then some ((-1), μ) else (if sh_in i4 171 then sh_let ((sh_ch i4) : Int32) (fun x9 => (if x9 = 32 then (if i3 = i0 then some (i1, μ) else F_X8_wordOf fuel 1 i0 (i1 + 1) 0 0 (i4 + 1) μ) else sh_let ((i3 ||| (((x9 - 97) + 1) <<< ((5 * i2) &&& 31))) : Int32) (fun x12 => F_X8_wordOf fuel 1 i0 i1 (i2 + 1) x12 (i4 + 1) μ))) else none))
    | _ => none
noncomputable def f_X8_wordOf (a1 : Int32) (μ : sh_Mem) : Option (Int32 × sh_Mem) := F_X8_wordOf sh_fuel 1 a1 0 0 0 0 μ
theorem gpl_X8_wordOf (fuel : Nat) : (∀ ⦃i0 : Int32⦄ ⦃i1 : Int32⦄ ⦃i2 : Int32⦄ ⦃i3 : Int32⦄ ⦃i4 : Int32⦄ ⦃μ μ' : sh_Mem⦄ ⦃v : Int32⦄, sh_G μ → F_X8_wordOf fuel 1 i0 i1 i2 i3 i4 μ = some (v, μ') → sh_G μ') := by
  induction fuel with
  | zero => intro i0 i1 i2 i3 i4 μ μ' v hG h; cases h
  | succ fuel ih =>
    have ih_9 := ih
    intro i0 i1 i2 i3 i4 μ μ' v hG h
    replace h : ((if 171 ≤ i4 then some ((-1), μ) else (if sh_in i4 171 then sh_let ((sh_ch i4) : Int32) (fun x9 => (if x9 = 32 then (if i3 = i0 then some (i1, μ) else F_X8_wordOf fuel 1 i0 (i1 + 1) 0 0 (i4 + 1) μ) else sh_let ((i3 ||| (((x9 - 97) + 1) <<< ((5 * i2) &&& 31))) : Int32) (fun x12 => F_X8_wordOf fuel 1 i0 i1 (i2 + 1) x12 (i4 + 1) μ))) else none)) : Option (Int32 × sh_Mem)) = some (v, μ') := h
    by_cases c7 : 171 ≤ i4
    · rw [if_pos c7] at h
      obtain ⟨e1, e2⟩ := sh_some2 h
      exact e2 ▸ hG
    · rw [if_neg c7] at h
      obtain ⟨k8, h⟩ := sh_chk h
      obtain ⟨x9, ex9⟩ : ∃ y : Int32, y = (sh_ch i4) := ⟨_, rfl⟩
      rw [sh_let_eq ex9] at h
      by_cases c10 : x9 = 32
      · rw [if_pos c10] at h
        by_cases c11 : i3 = i0
        · rw [if_pos c11] at h
          obtain ⟨e1, e2⟩ := sh_some2 h
          exact e2 ▸ hG
        · rw [if_neg c11] at h
          exact ih_9 hG h
      · rw [if_neg c10] at h
        obtain ⟨x12, ex12⟩ : ∃ y : Int32, y = (i3 ||| (((x9 - 97) + 1) <<< ((5 * i2) &&& 31))) := ⟨_, rfl⟩
        rw [sh_let_eq ex12] at h
        exact ih_9 hG h
theorem tl_X8_wordOf (fuel : Nat) : (∀ ⦃i0 : Int32⦄ ⦃i1 : Int32⦄ ⦃i2 : Int32⦄ ⦃i3 : Int32⦄ ⦃i4 : Int32⦄ ⦃μ μ' : sh_Mem⦄ ⦃v : Int32⦄, sh_G μ → F_X8_wordOf fuel 1 i0 i1 i2 i3 i4 μ = some (v, μ') → sh_V0 l B D ca 6 M_X8_wordOf 9 [(0, .int i0), (1, .int i1), (2, .int i2), (3, .int i3), (4, .int i4)] [] μ (fun v0 μ0 => v0 = some (.int v) ∧ μ0 = μ')) := by
  induction fuel with
  | zero => intro i0 i1 i2 i3 i4 μ μ' v hG h; cases h
  | succ fuel ih =>
    have ih_9 := ih
    intro i0 i1 i2 i3 i4 μ μ' v hG h
    replace h : ((if 171 ≤ i4 then some ((-1), μ) else (if sh_in i4 171 then sh_let ((sh_ch i4) : Int32) (fun x9 => (if x9 = 32 then (if i3 = i0 then some (i1, μ) else F_X8_wordOf fuel 1 i0 (i1 + 1) 0 0 (i4 + 1) μ) else sh_let ((i3 ||| (((x9 - 97) + 1) <<< ((5 * i2) &&& 31))) : Int32) (fun x12 => F_X8_wordOf fuel 1 i0 i1 (i2 + 1) x12 (i4 + 1) μ))) else none)) : Option (Int32 × sh_Mem)) = some (v, μ') := h
    refine vv_iload 9 4 dX8_wordOf_9 rfl ?_
    refine vv_strlen 11 dX8_wordOf_11 dX8_wordOf_13 (Nat.le_of_ble_eq_true rfl) (Nat.le_of_ble_eq_true rfl) (Nat.le_refl _) (Nat.le_refl _) ?_
    refine vv_icmp_ge 16 75 dX8_wordOf_16 (by decide) (fun c7 => ?_) (fun c7 => ?_)
    · rw [if_pos c7] at h
      refine vv_iconst 75 dX8_wordOf_75 ik_m1 ?_
      obtain ⟨e1, e2⟩ := sh_some2 h
      refine vv_iret 76 dX8_wordOf_76 rfl (Nat.le_refl _) (Nat.le_refl _) ⟨by rw [e1], e2⟩
    · rw [if_neg c7] at h
      obtain ⟨k8, h⟩ := sh_chk h
      refine vv_strchr 19 4 dX8_wordOf_19 dX8_wordOf_21 dX8_wordOf_23 rfl k8 (Nat.le_of_ble_eq_true rfl) (Nat.le_of_ble_eq_true rfl) (Nat.le_refl _) (Nat.le_refl _) ?_
      refine vv_topi (fun x9 ex9 => ?_)
      rw [sh_let_eq ex9] at h
      refine vv_istore (lv' := [(5, _), (0, _), (1, _), (2, _), (3, _), (4, _)]) 26 5 dX8_wordOf_26 (by decide) rfl ?_
      refine vv_iload 28 5 dX8_wordOf_28 rfl ?_
      refine vv_bipush 30 dX8_wordOf_30 bk_32 ?_
      refine vv_icmp_eq 32 55 dX8_wordOf_32 (by decide) (fun c10 => ?_) (fun c10 => ?_)
      · rw [if_pos c10] at h
        refine vv_iload_n 55 3 dX8_wordOf_55 rfl rfl ?_
        refine vv_iload_n 56 0 dX8_wordOf_56 rfl rfl ?_
        refine vv_icmp_ne 57 62 dX8_wordOf_57 (by decide) (fun c11 => ?_) (fun c11 => ?_)
        · rw [if_neg c11] at h
          refine vv_iincc (lv' := [(1, _), (5, _), (0, _), (2, _), (3, _), (4, _)]) 62 1 dX8_wordOf_62 rfl ik_1 (by decide) rfl ?_
          refine vv_iconst 65 dX8_wordOf_65 ik_0 ?_
          refine vv_istore_n (lv' := [(2, _), (1, _), (5, _), (0, _), (3, _), (4, _)]) 66 2 dX8_wordOf_66 rfl (by decide) rfl ?_
          refine vv_iconst 67 dX8_wordOf_67 ik_0 ?_
          refine vv_istore_n (lv' := [(3, _), (2, _), (1, _), (5, _), (0, _), (4, _)]) 68 3 dX8_wordOf_68 rfl (by decide) rfl ?_
          refine vv_iincc (lv' := [(4, _), (3, _), (2, _), (1, _), (5, _), (0, _)]) 69 4 dX8_wordOf_69 rfl ik_1 (by decide) rfl ?_
          refine vv_goto 72 9 dX8_wordOf_72 (by decide) ?_
          refine vv_sub [(0, _), (1, _), (2, _), (3, _), (4, _)] (sh_subm [5, 3, 2, 1, 0] rfl) ?_
          exact ih_9 hG h
        · rw [if_pos c11] at h
          refine vv_iload_n 60 1 dX8_wordOf_60 rfl rfl ?_
          obtain ⟨e1, e2⟩ := sh_some2 h
          refine vv_iret 61 dX8_wordOf_61 rfl (Nat.le_refl _) (Nat.le_refl _) ⟨by rw [e1], e2⟩
      · rw [if_neg c10] at h
        refine vv_iload_n 35 3 dX8_wordOf_35 rfl rfl ?_
        refine vv_iload 36 5 dX8_wordOf_36 rfl ?_
        refine vv_bipush 38 dX8_wordOf_38 bk_97 ?_
        refine vv_isub 40 dX8_wordOf_40 ?_
        refine vv_iconst 41 dX8_wordOf_41 ik_1 ?_
        refine vv_iadd 42 dX8_wordOf_42 ?_
        refine vv_iconst 43 dX8_wordOf_43 ik_5 ?_
        refine vv_iload_n 44 2 dX8_wordOf_44 rfl rfl ?_
        refine vv_imul 45 dX8_wordOf_45 ?_
        refine vv_ishl 46 dX8_wordOf_46 ?_
        refine vv_ior 47 dX8_wordOf_47 ?_
        refine vv_topi (fun x12 ex12 => ?_)
        rw [sh_let_eq ex12] at h
        refine vv_istore_n (lv' := [(3, _), (5, _), (0, _), (1, _), (2, _), (4, _)]) 48 3 dX8_wordOf_48 rfl (by decide) rfl ?_
        refine vv_iincc (lv' := [(2, _), (3, _), (5, _), (0, _), (1, _), (4, _)]) 49 2 dX8_wordOf_49 rfl ik_1 (by decide) rfl ?_
        refine vv_goto 52 69 dX8_wordOf_52 (by decide) ?_
        refine vv_iincc (lv' := [(4, _), (2, _), (3, _), (5, _), (0, _), (1, _)]) 69 4 dX8_wordOf_69 rfl ik_1 (by decide) rfl ?_
        refine vv_goto 72 9 dX8_wordOf_72 (by decide) ?_
        refine vv_sub [(0, _), (1, _), (2, _), (3, _), (4, _)] (sh_subm [4, 5, 1, 2, 0] rfl) ?_
        exact ih_9 hG h
theorem gp_X8_wordOf {a1 : Int32} {μ μ' : sh_Mem} {v : Int32} (hG : sh_G μ) (h : f_X8_wordOf a1 μ = some (v, μ')) : sh_G μ' := by
  have ih_9 := (gpl_X8_wordOf sh_fuel)
  unfold f_X8_wordOf at h
  exact ih_9 hG h
theorem t_X8_wordOf {a1 : Int32} {μ μ' : sh_Mem} {v : Int32} (hG : sh_G μ) (h : f_X8_wordOf a1 μ = some (v, μ')) : sh_C0 l B D ca 6 M_X8_wordOf [.int a1] μ (fun v0 μ0 => v0 = some (.int v) ∧ μ0 = μ') := by
  have ih_9 := (tl_X8_wordOf (l := l) (B := B) (D := D) (ca := ca) sh_fuel)
  unfold f_X8_wordOf at h
  refine vv_iconst 0 dX8_wordOf_0 ik_0 ?_
  refine vv_istore_n (lv' := [(1, _), (0, _)]) 1 1 dX8_wordOf_1 rfl (by decide) rfl ?_
  refine vv_iconst 2 dX8_wordOf_2 ik_0 ?_
  refine vv_istore_n (lv' := [(2, _), (1, _), (0, _)]) 3 2 dX8_wordOf_3 rfl (by decide) rfl ?_
  refine vv_iconst 4 dX8_wordOf_4 ik_0 ?_
  refine vv_istore_n (lv' := [(3, _), (2, _), (1, _), (0, _)]) 5 3 dX8_wordOf_5 rfl (by decide) rfl ?_
  refine vv_iconst 6 dX8_wordOf_6 ik_0 ?_
  refine vv_istore (lv' := [(4, _), (3, _), (2, _), (1, _), (0, _)]) 7 4 dX8_wordOf_7 (by decide) rfl ?_
  refine vv_sub [(0, _), (1, _), (2, _), (3, _), (4, _)] (sh_subm [4, 3, 2, 1, 0] rfl) ?_
  exact ih_9 hG h
noncomputable def f_X8_fails (a1 : Int32) (a2 : Int32) (μ : sh_Mem) : Option (Int32 × sh_Mem) := (if (sh_i μ 2 10) = 0 then sh_let (sh_setI μ 2 10 a1) (fun μ2 => sh_let (sh_setI μ2 2 11 a2) (fun μ3 => some (0, μ3))) else some (0, μ))
theorem gp_X8_fails {a1 : Int32} {a2 : Int32} {μ μ' : sh_Mem} {v : Int32} (hG : sh_G μ) (h : f_X8_fails a1 a2 μ = some (v, μ')) : sh_G μ' := by
  unfold f_X8_fails at h
  by_cases c1 : (sh_i μ 2 10) = 0
  · rw [if_pos c1] at h
    obtain ⟨μ2, eμ2⟩ : ∃ y : sh_Mem, y = (sh_setI μ 2 10 a1) := ⟨_, rfl⟩
    rw [sh_let_eq eμ2] at h
    have hG2 : sh_G μ2 := by rw [eμ2]; exact hG
    obtain ⟨μ3, eμ3⟩ : ∃ y : sh_Mem, y = (sh_setI μ2 2 11 a2) := ⟨_, rfl⟩
    rw [sh_let_eq eμ3] at h
    have hG3 : sh_G μ3 := by rw [eμ3]; exact hG2
    obtain ⟨e1, e2⟩ := sh_some2 h
    exact e2 ▸ hG3
  · rw [if_neg c1] at h
    obtain ⟨e1, e2⟩ := sh_some2 h
    exact e2 ▸ hG
theorem t_X8_fails {a1 : Int32} {a2 : Int32} {μ μ' : sh_Mem} {v : Int32} (hG : sh_G μ) (h : f_X8_fails a1 a2 μ = some (v, μ')) : sh_C0 l B D ca 1 M_X8_fails [.ref 2, .int a1, .int a2] μ (fun v0 μ0 => v0 = some (.int v) ∧ μ0 = μ') := by
  unfold f_X8_fails at h
  refine vv_aload_n 0 0 dX8_fails_0 rfl rfl ?_
  refine vv_getI 1 dX8_fails_1 fl_8_34 rfl (g_l_2 hG) ?_
  refine vv_if_ne 4 17 dX8_fails_4 (by decide) (fun c1 => ?_) (fun c1 => ?_)
  · rw [if_neg c1] at h
    refine vv_iconst 17 dX8_fails_17 ik_0 ?_
    obtain ⟨e1, e2⟩ := sh_some2 h
    refine vv_zret 18 dX8_fails_18 rfl rfl (Nat.le_refl _) (Nat.le_refl _) ⟨by rw [e1], e2⟩
  · rw [if_pos c1] at h
    refine vv_aload_n 7 0 dX8_fails_7 rfl rfl ?_
    refine vv_iload_n 8 1 dX8_fails_8 rfl rfl ?_
    refine vn_putI 9 dX8_fails_9 fl_8_34 (Or.inl rfl) rfl (g_l_2 hG) (fun μ2 eμ2 => ?_)
    rw [sh_let_eq eμ2] at h
    have hG2 : sh_G μ2 := by rw [eμ2]; exact hG
    refine vv_aload_n 12 0 dX8_fails_12 rfl rfl ?_
    refine vv_iload_n 13 2 dX8_fails_13 rfl rfl ?_
    refine vn_putI 14 dX8_fails_14 fl_8_37 (Or.inl rfl) rfl (g_l_2 hG2) (fun μ3 eμ3 => ?_)
    rw [sh_let_eq eμ3] at h
    have hG3 : sh_G μ3 := by rw [eμ3]; exact hG2
    refine vv_iconst 17 dX8_fails_17 ik_0 ?_
    obtain ⟨e1, e2⟩ := sh_some2 h
    refine vv_zret 18 dX8_fails_18 rfl rfl (Nat.le_refl _) (Nat.le_refl _) ⟨by rw [e1], e2⟩
def f_X8_isWord (μ : sh_Mem) (a1 : Int32) : Int32 := (if (sh_i μ 2 3) = (-2) then (if (sh_i μ 2 6) = a1 then 1 else 0) else 0)
theorem c_X8_isWord (hG : sh_G μ)  {a1 : Int32} : sh_C0 l B D ca 1 M_X8_isWord [.ref 2, .int a1] μ (fun v μ' => v = some (.int (f_X8_isWord μ a1)) ∧ μ' = μ) := by
  refine vv_aload_n 0 0 dX8_isWord_0 rfl rfl ?_
  refine vv_getI 1 dX8_isWord_1 fl_8_28 rfl (g_l_2 hG) ?_
  refine vv_bipush 4 dX8_isWord_4 bk_m2 ?_
  refine vv_icmp_ne 6 21 dX8_isWord_6 (by decide) (fun h1 => ?_) (fun h1 => ?_)
  · refine vv_iconst 21 dX8_isWord_21 ik_0 ?_
    refine vv_zret 22 dX8_isWord_22 rfl rfl (Nat.le_refl _) (Nat.le_refl _) ?_
    exact ⟨by show some _ = some (Value.int (f_X8_isWord μ a1)); unfold f_X8_isWord; rw [if_neg h1], rfl⟩
  · refine vv_aload_n 9 0 dX8_isWord_9 rfl rfl ?_
    refine vv_getI 10 dX8_isWord_10 fl_8_59 rfl (g_l_2 hG) ?_
    refine vv_iload_n 13 1 dX8_isWord_13 rfl rfl ?_
    refine vv_icmp_ne 14 21 dX8_isWord_14 (by decide) (fun h2 => ?_) (fun h2 => ?_)
    · refine vv_iconst 21 dX8_isWord_21 ik_0 ?_
      refine vv_zret 22 dX8_isWord_22 rfl rfl (Nat.le_refl _) (Nat.le_refl _) ?_
      exact ⟨by show some _ = some (Value.int (f_X8_isWord μ a1)); unfold f_X8_isWord; rw [if_pos h1, if_neg h2], rfl⟩
    · refine vv_iconst 17 dX8_isWord_17 ik_1 ?_
      refine vv_goto 18 22 dX8_isWord_18 (by decide) ?_
      refine vv_zret 22 dX8_isWord_22 rfl rfl (Nat.le_refl _) (Nat.le_refl _) ?_
      exact ⟨by show some _ = some (Value.int (f_X8_isWord μ a1)); unfold f_X8_isWord; rw [if_pos h1, if_pos h2], rfl⟩
noncomputable def F_X9_lowestFrom : Nat → Nat → Nat → Nat → Int32 → Int32 → Int32 → Int32 → Int32 → sh_Mem → Option (Int32 × sh_Mem)
  | 0, _, _, _, _, _, _, _, _, _ => none
  | fuel + 1, lbl, r1, r2, i3, i4, i5, i6, i7, μ => match lbl with
    | 1 => (if 49 ≤ i5 then some (i4, μ) else F_X9_lowestFrom fuel 2 r1 r2 i3 i4 i5 i4 0 μ)
    | 2 => (if 4 ≤ i7 then (if i6 = i4 then some (i4, μ) else F_X9_lowestFrom fuel 1 r1 r2 i3 i6 (i5 + 1) 0 0 μ) else sh_bind (f_X5_nextTo r1 i4 i7 μ) (fun y26 μ24 => (if y26 = (-1) then F_X9_lowestFrom fuel 2 r1 r2 i3 i4 i5 i6 (i7 + 1) μ24 else (if sh_in y26 49 then (if sh_in i6 49 then (if (sh_i μ24 (r2 + 1) i6.toNatClampNeg) ≤ (sh_i μ24 (r2 + 1) y26.toNatClampNeg) then F_X9_lowestFrom fuel 2 r1 r2 i3 i4 i5 i6 (i7 + 1) μ24 else F_X9_lowestFrom fuel 2 r1 r2 i3 i4 i5 y26 (i7 + 1) μ24) else none) else none))))
    | _ => none
noncomputable def f_X9_lowestFrom (p1 : Nat) (q2 : Nat) (a3 : Int32) (μ : sh_Mem) : Option (Int32 × sh_Mem) := F_X9_lowestFrom sh_fuel 1 p1 q2 a3 a3 0 0 0 μ
theorem gpl_X9_lowestFrom (fuel : Nat) : (∀ ⦃r1 : Nat⦄ ⦃r2 : Nat⦄ ⦃i3 : Int32⦄ ⦃i4 : Int32⦄ ⦃i5 : Int32⦄ ⦃i6 : Int32⦄ ⦃i7 : Int32⦄ ⦃μ μ' : sh_Mem⦄ ⦃v : Int32⦄, sh_G μ → sh_isP r1 → sh_isL r2 → F_X9_lowestFrom fuel 1 r1 r2 i3 i4 i5 i6 i7 μ = some (v, μ') → sh_G μ') ∧ (∀ ⦃r1 : Nat⦄ ⦃r2 : Nat⦄ ⦃i3 : Int32⦄ ⦃i4 : Int32⦄ ⦃i5 : Int32⦄ ⦃i6 : Int32⦄ ⦃i7 : Int32⦄ ⦃μ μ' : sh_Mem⦄ ⦃v : Int32⦄, sh_G μ → sh_isP r1 → sh_isL r2 → F_X9_lowestFrom fuel 2 r1 r2 i3 i4 i5 i6 i7 μ = some (v, μ') → sh_G μ') := by
  induction fuel with
  | zero => exact ⟨(by intro r1 r2 i3 i4 i5 i6 i7 μ μ' v hG hr1 hr2 h; cases h), (by intro r1 r2 i3 i4 i5 i6 i7 μ μ' v hG hr1 hr2 h; cases h)⟩
  | succ fuel ih =>
    obtain ⟨ih_6, ih_20⟩ := ih
    refine ⟨?_, ?_⟩
    · intro r1 r2 i3 i4 i5 i6 i7 μ μ' v hG hr1 hr2 h
      replace h : ((if 49 ≤ i5 then some (i4, μ) else F_X9_lowestFrom fuel 2 r1 r2 i3 i4 i5 i4 0 μ) : Option (Int32 × sh_Mem)) = some (v, μ') := h
      by_cases c21 : 49 ≤ i5
      · rw [if_pos c21] at h
        obtain ⟨e1, e2⟩ := sh_some2 h
        exact e2 ▸ hG
      · rw [if_neg c21] at h
        exact ih_20 hG hr1 hr2 h
    · intro r1 r2 i3 i4 i5 i6 i7 μ μ' v hG hr1 hr2 h
      replace h : ((if 4 ≤ i7 then (if i6 = i4 then some (i4, μ) else F_X9_lowestFrom fuel 1 r1 r2 i3 i6 (i5 + 1) 0 0 μ) else sh_bind (f_X5_nextTo r1 i4 i7 μ) (fun y26 μ24 => (if y26 = (-1) then F_X9_lowestFrom fuel 2 r1 r2 i3 i4 i5 i6 (i7 + 1) μ24 else (if sh_in y26 49 then (if sh_in i6 49 then (if (sh_i μ24 (r2 + 1) i6.toNatClampNeg) ≤ (sh_i μ24 (r2 + 1) y26.toNatClampNeg) then F_X9_lowestFrom fuel 2 r1 r2 i3 i4 i5 i6 (i7 + 1) μ24 else F_X9_lowestFrom fuel 2 r1 r2 i3 i4 i5 y26 (i7 + 1) μ24) else none) else none)))) : Option (Int32 × sh_Mem)) = some (v, μ') := h
      by_cases c22 : 4 ≤ i7
      · rw [if_pos c22] at h
        by_cases c23 : i6 = i4
        · rw [if_pos c23] at h
          obtain ⟨e1, e2⟩ := sh_some2 h
          exact e2 ▸ hG
        · rw [if_neg c23] at h
          exact ih_6 hG hr1 hr2 h
      · rw [if_neg c22] at h
        obtain ⟨y26, μ24, hr25, h⟩ := sh_bind_e h
        have hG24 := gp_X5_nextTo hG hr1 hr25
        by_cases c27 : y26 = (-1)
        · rw [if_pos c27] at h
          exact ih_20 hG24 hr1 hr2 h
        · rw [if_neg c27] at h
          obtain ⟨k28, h⟩ := sh_chk h
          obtain ⟨k29, h⟩ := sh_chk h
          by_cases c30 : (sh_i μ24 (r2 + 1) i6.toNatClampNeg) ≤ (sh_i μ24 (r2 + 1) y26.toNatClampNeg)
          · rw [if_pos c30] at h
            exact ih_20 hG24 hr1 hr2 h
          · rw [if_neg c30] at h
            exact ih_20 hG24 hr1 hr2 h
theorem tl_X9_lowestFrom (fuel : Nat) : (∀ ⦃r1 : Nat⦄ ⦃r2 : Nat⦄ ⦃i3 : Int32⦄ ⦃i4 : Int32⦄ ⦃i5 : Int32⦄ ⦃i6 : Int32⦄ ⦃i7 : Int32⦄ ⦃μ μ' : sh_Mem⦄ ⦃v : Int32⦄, sh_G μ → sh_isP r1 → sh_isL r2 → F_X9_lowestFrom fuel 1 r1 r2 i3 i4 i5 i6 i7 μ = some (v, μ') → sh_V0 l B D ca 3 M_X9_lowestFrom 6 [(0, .ref 287), (1, .ref r1), (2, .ref r2), (3, .int i3), (4, .int i4), (5, .int i5)] [] μ (fun v0 μ0 => v0 = some (.int v) ∧ μ0 = μ')) ∧ (∀ ⦃r1 : Nat⦄ ⦃r2 : Nat⦄ ⦃i3 : Int32⦄ ⦃i4 : Int32⦄ ⦃i5 : Int32⦄ ⦃i6 : Int32⦄ ⦃i7 : Int32⦄ ⦃μ μ' : sh_Mem⦄ ⦃v : Int32⦄, sh_G μ → sh_isP r1 → sh_isL r2 → F_X9_lowestFrom fuel 2 r1 r2 i3 i4 i5 i6 i7 μ = some (v, μ') → sh_V0 l B D ca 3 M_X9_lowestFrom 20 [(0, .ref 287), (1, .ref r1), (2, .ref r2), (3, .int i3), (4, .int i4), (5, .int i5), (6, .int i6), (7, .int i7)] [] μ (fun v0 μ0 => v0 = some (.int v) ∧ μ0 = μ')) := by
  induction fuel with
  | zero => exact ⟨(by intro r1 r2 i3 i4 i5 i6 i7 μ μ' v hG hr1 hr2 h; cases h), (by intro r1 r2 i3 i4 i5 i6 i7 μ μ' v hG hr1 hr2 h; cases h)⟩
  | succ fuel ih =>
    obtain ⟨ih_6, ih_20⟩ := ih
    refine ⟨?_, ?_⟩
    · intro r1 r2 i3 i4 i5 i6 i7 μ μ' v hG hr1 hr2 h
      replace h : ((if 49 ≤ i5 then some (i4, μ) else F_X9_lowestFrom fuel 2 r1 r2 i3 i4 i5 i4 0 μ) : Option (Int32 × sh_Mem)) = some (v, μ') := h
      refine vv_iload 6 5 dX9_lowestFrom_6 rfl ?_
      refine vv_bipush 8 dX9_lowestFrom_8 bk_49 ?_
      refine vv_icmp_ge 10 89 dX9_lowestFrom_10 (by decide) (fun c21 => ?_) (fun c21 => ?_)
      · rw [if_pos c21] at h
        refine vv_iload 89 4 dX9_lowestFrom_89 rfl ?_
        obtain ⟨e1, e2⟩ := sh_some2 h
        refine vv_iret 91 dX9_lowestFrom_91 rfl (Nat.le_refl _) (Nat.le_refl _) ⟨by rw [e1], e2⟩
      · rw [if_neg c21] at h
        refine vv_iload 13 4 dX9_lowestFrom_13 rfl ?_
        refine vv_istore (lv' := [(6, _), (0, _), (1, _), (2, _), (3, _), (4, _), (5, _)]) 15 6 dX9_lowestFrom_15 (by decide) rfl ?_
        refine vv_iconst 17 dX9_lowestFrom_17 ik_0 ?_
        refine vv_istore (lv' := [(7, _), (6, _), (0, _), (1, _), (2, _), (3, _), (4, _), (5, _)]) 18 7 dX9_lowestFrom_18 (by decide) rfl ?_
        refine vv_sub [(0, _), (1, _), (2, _), (3, _), (4, _), (5, _), (6, _), (7, _)] (sh_subm [2, 3, 4, 5, 6, 7, 1, 0] rfl) ?_
        exact ih_20 hG hr1 hr2 h
    · intro r1 r2 i3 i4 i5 i6 i7 μ μ' v hG hr1 hr2 h
      replace h : ((if 4 ≤ i7 then (if i6 = i4 then some (i4, μ) else F_X9_lowestFrom fuel 1 r1 r2 i3 i6 (i5 + 1) 0 0 μ) else sh_bind (f_X5_nextTo r1 i4 i7 μ) (fun y26 μ24 => (if y26 = (-1) then F_X9_lowestFrom fuel 2 r1 r2 i3 i4 i5 i6 (i7 + 1) μ24 else (if sh_in y26 49 then (if sh_in i6 49 then (if (sh_i μ24 (r2 + 1) i6.toNatClampNeg) ≤ (sh_i μ24 (r2 + 1) y26.toNatClampNeg) then F_X9_lowestFrom fuel 2 r1 r2 i3 i4 i5 i6 (i7 + 1) μ24 else F_X9_lowestFrom fuel 2 r1 r2 i3 i4 i5 y26 (i7 + 1) μ24) else none) else none)))) : Option (Int32 × sh_Mem)) = some (v, μ') := h
      refine vv_iload 20 7 dX9_lowestFrom_20 rfl ?_
      refine vv_iconst 22 dX9_lowestFrom_22 ik_4 ?_
      refine vv_icmp_ge 23 69 dX9_lowestFrom_23 (by decide) (fun c22 => ?_) (fun c22 => ?_)
      · rw [if_pos c22] at h
        refine vv_iload 69 6 dX9_lowestFrom_69 rfl ?_
        refine vv_iload 71 4 dX9_lowestFrom_71 rfl ?_
        refine vv_icmp_ne 73 79 dX9_lowestFrom_73 (by decide) (fun c23 => ?_) (fun c23 => ?_)
        · rw [if_neg c23] at h
          refine vv_iload 79 6 dX9_lowestFrom_79 rfl ?_
          refine vv_istore (lv' := [(4, _), (0, _), (1, _), (2, _), (3, _), (5, _), (6, _), (7, _)]) 81 4 dX9_lowestFrom_81 (by decide) rfl ?_
          refine vv_iincc (lv' := [(5, _), (4, _), (0, _), (1, _), (2, _), (3, _), (6, _), (7, _)]) 83 5 dX9_lowestFrom_83 rfl ik_1 (by decide) rfl ?_
          refine vv_goto 86 6 dX9_lowestFrom_86 (by decide) ?_
          refine vv_sub [(0, _), (1, _), (2, _), (3, _), (4, _), (5, _)] (sh_subm [2, 3, 4, 5, 1, 0] rfl) ?_
          exact ih_6 hG hr1 hr2 h
        · rw [if_pos c23] at h
          refine vv_iload 76 4 dX9_lowestFrom_76 rfl ?_
          obtain ⟨e1, e2⟩ := sh_some2 h
          refine vv_iret 78 dX9_lowestFrom_78 rfl (Nat.le_refl _) (Nat.le_refl _) ⟨by rw [e1], e2⟩
      · rw [if_neg c22] at h
        refine vv_aload_n 26 1 dX9_lowestFrom_26 rfl rfl ?_
        refine vv_iload 27 4 dX9_lowestFrom_27 rfl ?_
        refine vv_iload 29 7 dX9_lowestFrom_29 rfl ?_
        obtain ⟨y26, μ24, hr25, h⟩ := sh_bind_e h
        refine v1_callV [_, _] 31 dX9_lowestFrom_31 ck_X9_32 (gP_l hG hr1) ⟨by decide, rfl⟩ (t_X5_nextTo hG hr1 hr25) (Nat.le_of_ble_eq_true rfl) ⟨Nat.le_of_ble_eq_true rfl, Nat.le_of_ble_eq_true rfl⟩ rfl (Nat.le_of_ble_eq_true rfl) ?_
        have hG24 := gp_X5_nextTo hG hr1 hr25
        refine vv_istore (lv' := [(8, _), (0, _), (1, _), (2, _), (3, _), (4, _), (5, _), (6, _), (7, _)]) 34 8 dX9_lowestFrom_34 (by decide) rfl ?_
        refine vv_iload 36 8 dX9_lowestFrom_36 rfl ?_
        refine vv_iconst 38 dX9_lowestFrom_38 ik_m1 ?_
        refine vv_icmp_eq 39 63 dX9_lowestFrom_39 (by decide) (fun c27 => ?_) (fun c27 => ?_)
        · rw [if_pos c27] at h
          refine vv_iincc (lv' := [(7, _), (8, _), (0, _), (1, _), (2, _), (3, _), (4, _), (5, _), (6, _)]) 63 7 dX9_lowestFrom_63 rfl ik_1 (by decide) rfl ?_
          refine vv_goto 66 20 dX9_lowestFrom_66 (by decide) ?_
          refine vv_sub [(0, _), (1, _), (2, _), (3, _), (4, _), (5, _), (6, _), (7, _)] (sh_subm [2, 3, 4, 5, 6, 7, 8, 0] rfl) ?_
          exact ih_20 hG24 hr1 hr2 h
        · rw [if_neg c27] at h
          refine vv_aload_n 42 2 dX9_lowestFrom_42 rfl rfl ?_
          refine vv_getR 43 dX9_lowestFrom_43 fl_9_36 rfl (gL_l hG24 hr2) (gL_r1 hG24 hr2) ?_
          refine vv_iload 46 8 dX9_lowestFrom_46 rfl ?_
          obtain ⟨k28, h⟩ := sh_chk h
          refine vv_iald 48 dX9_lowestFrom_48 (gA_l hG24 (gLA1 hr2)) k28 ?_
          refine vv_aload_n 49 2 dX9_lowestFrom_49 rfl rfl ?_
          refine vv_getR 50 dX9_lowestFrom_50 fl_9_36 rfl (gL_l hG24 hr2) (gL_r1 hG24 hr2) ?_
          refine vv_iload 53 6 dX9_lowestFrom_53 rfl ?_
          obtain ⟨k29, h⟩ := sh_chk h
          refine vv_iald 55 dX9_lowestFrom_55 (gA_l hG24 (gLA1 hr2)) k29 ?_
          refine vv_icmp_ge 56 63 dX9_lowestFrom_56 (by decide) (fun c30 => ?_) (fun c30 => ?_)
          · rw [if_pos c30] at h
            refine vv_iincc (lv' := [(7, _), (8, _), (0, _), (1, _), (2, _), (3, _), (4, _), (5, _), (6, _)]) 63 7 dX9_lowestFrom_63 rfl ik_1 (by decide) rfl ?_
            refine vv_goto 66 20 dX9_lowestFrom_66 (by decide) ?_
            refine vv_sub [(0, _), (1, _), (2, _), (3, _), (4, _), (5, _), (6, _), (7, _)] (sh_subm [2, 3, 4, 5, 6, 7, 8, 0] rfl) ?_
            exact ih_20 hG24 hr1 hr2 h
          · rw [if_neg c30] at h
            refine vv_iload 59 8 dX9_lowestFrom_59 rfl ?_
            refine vv_istore (lv' := [(6, _), (8, _), (0, _), (1, _), (2, _), (3, _), (4, _), (5, _), (7, _)]) 61 6 dX9_lowestFrom_61 (by decide) rfl ?_
            refine vv_iincc (lv' := [(7, _), (6, _), (8, _), (0, _), (1, _), (2, _), (3, _), (4, _), (5, _)]) 63 7 dX9_lowestFrom_63 rfl ik_1 (by decide) rfl ?_
            refine vv_goto 66 20 dX9_lowestFrom_66 (by decide) ?_
            refine vv_sub [(0, _), (1, _), (2, _), (3, _), (4, _), (5, _), (6, _), (7, _)] (sh_subm [3, 4, 5, 6, 7, 8, 1, 0] rfl) ?_
            exact ih_20 hG24 hr1 hr2 h
theorem gp_X9_lowestFrom {p1 : Nat} {q2 : Nat} {a3 : Int32} {μ μ' : sh_Mem} {v : Int32} (hG : sh_G μ) (hp1 : sh_isP p1) (hq2 : sh_isL q2) (h : f_X9_lowestFrom p1 q2 a3 μ = some (v, μ')) : sh_G μ' := by
  have ih_6 := (gpl_X9_lowestFrom sh_fuel).1
  have ih_20 := (gpl_X9_lowestFrom sh_fuel).2
  unfold f_X9_lowestFrom at h
  exact ih_6 hG hp1 hq2 h
theorem t_X9_lowestFrom {p1 : Nat} {q2 : Nat} {a3 : Int32} {μ μ' : sh_Mem} {v : Int32} (hG : sh_G μ) (hp1 : sh_isP p1) (hq2 : sh_isL q2) (h : f_X9_lowestFrom p1 q2 a3 μ = some (v, μ')) : sh_C0 l B D ca 3 M_X9_lowestFrom [.ref 287, .ref p1, .ref q2, .int a3] μ (fun v0 μ0 => v0 = some (.int v) ∧ μ0 = μ') := by
  have ih_6 := (tl_X9_lowestFrom (l := l) (B := B) (D := D) (ca := ca) sh_fuel).1
  have ih_20 := (tl_X9_lowestFrom (l := l) (B := B) (D := D) (ca := ca) sh_fuel).2
  unfold f_X9_lowestFrom at h
  refine vv_iload_n 0 3 dX9_lowestFrom_0 rfl rfl ?_
  refine vv_istore (lv' := [(4, _), (0, _), (1, _), (2, _), (3, _)]) 1 4 dX9_lowestFrom_1 (by decide) rfl ?_
  refine vv_iconst 3 dX9_lowestFrom_3 ik_0 ?_
  refine vv_istore (lv' := [(5, _), (4, _), (0, _), (1, _), (2, _), (3, _)]) 4 5 dX9_lowestFrom_4 (by decide) rfl ?_
  refine vv_sub [(0, _), (1, _), (2, _), (3, _), (4, _), (5, _)] (sh_subm [2, 3, 4, 5, 1, 0] rfl) ?_
  exact ih_6 hG hp1 hq2 h
def f_X10_within (μ : sh_Mem) (a1 : Int64) (a2 : Int32) : Int32 := (if 0 ≤ (lg_cmp a1 0) then (if (lg_cmp a1 (a2).toInt64) ≤ 0 then (a1).toInt32 else a2) else 0)
theorem c_X10_within (hG : sh_G μ)  {a1 : Int64} {a2 : Int32} : sh_C0 l B D ca 1 M_X10_within [.long a1, .int a2] μ (fun v μ' => v = some (.int (f_X10_within μ a1 a2)) ∧ μ' = μ) := by
  refine vv_lload_n 0 0 dX10_within_0 rfl rfl ?_
  refine vv_lconst 1 dX10_within_1 lk_0 ?_
  refine vv_lcmp 2 dX10_within_2 ?_
  refine vv_if_ge 3 8 dX10_within_3 (by decide) (fun h1 => ?_) (fun h1 => ?_)
  · refine vv_lload_n 8 0 dX10_within_8 rfl rfl ?_
    refine vv_iload_n 9 2 dX10_within_9 rfl rfl ?_
    refine vv_i2l 10 dX10_within_10 ?_
    refine vv_lcmp 11 dX10_within_11 ?_
    refine vv_if_le 12 19 dX10_within_12 (by decide) (fun h2 => ?_) (fun h2 => ?_)
    · refine vv_lload_n 19 0 dX10_within_19 rfl rfl ?_
      refine vv_l2i 20 dX10_within_20 ?_
      refine vv_iret 21 dX10_within_21 rfl (Nat.le_refl _) (Nat.le_refl _) ?_
      exact ⟨by show some _ = some (Value.int (f_X10_within μ a1 a2)); unfold f_X10_within; rw [if_pos h1, if_pos h2], rfl⟩
    · refine vv_iload_n 15 2 dX10_within_15 rfl rfl ?_
      refine vv_goto 16 21 dX10_within_16 (by decide) ?_
      refine vv_iret 21 dX10_within_21 rfl (Nat.le_refl _) (Nat.le_refl _) ?_
      exact ⟨by show some _ = some (Value.int (f_X10_within μ a1 a2)); unfold f_X10_within; rw [if_pos h1, if_neg h2], rfl⟩
  · refine vv_iconst 6 dX10_within_6 ik_0 ?_
    refine vv_iret 7 dX10_within_7 rfl (Nat.le_refl _) (Nat.le_refl _) ?_
    exact ⟨by show some _ = some (Value.int (f_X10_within μ a1 a2)); unfold f_X10_within; rw [if_neg h1], rfl⟩
def f_X10_isElsewhere (μ : sh_Mem) (a1 : Int32) : Int32 := (if a1 = (sh_i μ 55 4) then 0 else (if a1 = (sh_i μ 55 5) then 0 else (if a1 = (sh_i μ 55 6) then 0 else 1)))
theorem c_X10_isElsewhere (hG : sh_G μ)  {a1 : Int32} : sh_C0 l B D ca 1 M_X10_isElsewhere [.ref 55, .int a1] μ (fun v μ' => v = some (.int (f_X10_isElsewhere μ a1)) ∧ μ' = μ) := by
  refine vv_iload_n 0 1 dX10_isElsewhere_0 rfl rfl ?_
  refine vv_aload_n 1 0 dX10_isElsewhere_1 rfl rfl ?_
  refine vv_getI 2 dX10_isElsewhere_2 fl_10_108 rfl (g_l_55 hG) ?_
  refine vv_icmp_eq 5 28 dX10_isElsewhere_5 (by decide) (fun h1 => ?_) (fun h1 => ?_)
  · refine vv_iconst 28 dX10_isElsewhere_28 ik_0 ?_
    refine vv_zret 29 dX10_isElsewhere_29 rfl rfl (Nat.le_refl _) (Nat.le_refl _) ?_
    exact ⟨by show some _ = some (Value.int (f_X10_isElsewhere μ a1)); unfold f_X10_isElsewhere; rw [if_pos h1], rfl⟩
  · refine vv_iload_n 8 1 dX10_isElsewhere_8 rfl rfl ?_
    refine vv_aload_n 9 0 dX10_isElsewhere_9 rfl rfl ?_
    refine vv_getI 10 dX10_isElsewhere_10 fl_10_92 rfl (g_l_55 hG) ?_
    refine vv_icmp_eq 13 28 dX10_isElsewhere_13 (by decide) (fun h2 => ?_) (fun h2 => ?_)
    · refine vv_iconst 28 dX10_isElsewhere_28 ik_0 ?_
      refine vv_zret 29 dX10_isElsewhere_29 rfl rfl (Nat.le_refl _) (Nat.le_refl _) ?_
      exact ⟨by show some _ = some (Value.int (f_X10_isElsewhere μ a1)); unfold f_X10_isElsewhere; rw [if_neg h1, if_pos h2], rfl⟩
    · refine vv_iload_n 16 1 dX10_isElsewhere_16 rfl rfl ?_
      refine vv_aload_n 17 0 dX10_isElsewhere_17 rfl rfl ?_
      refine vv_getI 18 dX10_isElsewhere_18 fl_10_98 rfl (g_l_55 hG) ?_
      refine vv_icmp_eq 21 28 dX10_isElsewhere_21 (by decide) (fun h3 => ?_) (fun h3 => ?_)
      · refine vv_iconst 28 dX10_isElsewhere_28 ik_0 ?_
        refine vv_zret 29 dX10_isElsewhere_29 rfl rfl (Nat.le_refl _) (Nat.le_refl _) ?_
        exact ⟨by show some _ = some (Value.int (f_X10_isElsewhere μ a1)); unfold f_X10_isElsewhere; rw [if_neg h1, if_neg h2, if_pos h3], rfl⟩
      · refine vv_iconst 24 dX10_isElsewhere_24 ik_1 ?_
        refine vv_goto 25 29 dX10_isElsewhere_25 (by decide) ?_
        refine vv_zret 29 dX10_isElsewhere_29 rfl rfl (Nat.le_refl _) (Nat.le_refl _) ?_
        exact ⟨by show some _ = some (Value.int (f_X10_isElsewhere μ a1)); unfold f_X10_isElsewhere; rw [if_neg h1, if_neg h2, if_neg h3], rfl⟩
noncomputable def F_X10_findHighest : Nat → Nat → Nat → sh_Mem → Option (Int32 × sh_Mem)
  | 0, _, _, _ => none
  | fuel + 1, lbl, r1, μ => match lbl with
    | 1 => (if (sh_i μ 55 7) ≤ 0 then some (0, μ) else F_X10_findHighest fuel 2 r1 μ)
    | 2 => (if (sh_r μ 55 0 = some (sh_ref μ 55 0) ∧ ((sh_ref μ 55 0) = 8 ∨ (sh_ref μ 55 0) = 29)) then sh_let (sh_ref μ 55 0) (fun r25 => (if (f_X5_cells μ r25) ≤ (sh_i μ 55 8) then sh_let (sh_setI μ 55 8 0) (fun μ27 => sh_let (sh_setI μ27 55 7 ((sh_i μ27 55 7) - 1)) (fun μ28 => F_X10_findHighest fuel 1 r1 μ28)) else (if sh_in (sh_i μ 55 8) 49 then (if (sh_i μ (r1 + 1) ((sh_i μ 55 8)).toNatClampNeg) = (sh_i μ 55 7) then (if (f_X10_isElsewhere μ (sh_i μ 55 8)) = 0 then sh_let (sh_setI μ 55 8 ((sh_i μ 55 8) + 1)) (fun μ33 => F_X10_findHighest fuel 2 r1 μ33) else some (1, μ)) else sh_let (sh_setI μ 55 8 ((sh_i μ 55 8) + 1)) (fun μ31 => F_X10_findHighest fuel 2 r1 μ31)) else none))) else none)
    | _ => none
noncomputable def f_X10_findHighest (q1 : Nat) (μ : sh_Mem) : Option (Int32 × sh_Mem) := F_X10_findHighest sh_fuel 1 q1 μ
theorem gpl_X10_findHighest (fuel : Nat) : (∀ ⦃r1 : Nat⦄ ⦃μ μ' : sh_Mem⦄ ⦃v : Int32⦄, sh_G μ → sh_isL r1 → F_X10_findHighest fuel 1 r1 μ = some (v, μ') → sh_G μ') ∧ (∀ ⦃r1 : Nat⦄ ⦃μ μ' : sh_Mem⦄ ⦃v : Int32⦄, sh_G μ → sh_isL r1 → F_X10_findHighest fuel 2 r1 μ = some (v, μ') → sh_G μ') := by
  induction fuel with
  | zero => exact ⟨(by intro r1 μ μ' v hG hr1 h; cases h), (by intro r1 μ μ' v hG hr1 h; cases h)⟩
  | succ fuel ih =>
    obtain ⟨ih_0, ih_7⟩ := ih
    refine ⟨?_, ?_⟩
    · intro r1 μ μ' v hG hr1 h
      replace h : ((if (sh_i μ 55 7) ≤ 0 then some (0, μ) else F_X10_findHighest fuel 2 r1 μ) : Option (Int32 × sh_Mem)) = some (v, μ') := h
      by_cases c23 : (sh_i μ 55 7) ≤ 0
      · rw [if_pos c23] at h
        obtain ⟨e1, e2⟩ := sh_some2 h
        exact e2 ▸ hG
      · rw [if_neg c23] at h
        exact ih_7 hG hr1 h
    · intro r1 μ μ' v hG hr1 h
      replace h : ((if (sh_r μ 55 0 = some (sh_ref μ 55 0) ∧ ((sh_ref μ 55 0) = 8 ∨ (sh_ref μ 55 0) = 29)) then sh_let (sh_ref μ 55 0) (fun r25 => (if (f_X5_cells μ r25) ≤ (sh_i μ 55 8) then sh_let (sh_setI μ 55 8 0) (fun μ27 => sh_let (sh_setI μ27 55 7 ((sh_i μ27 55 7) - 1)) (fun μ28 => F_X10_findHighest fuel 1 r1 μ28)) else (if sh_in (sh_i μ 55 8) 49 then (if (sh_i μ (r1 + 1) ((sh_i μ 55 8)).toNatClampNeg) = (sh_i μ 55 7) then (if (f_X10_isElsewhere μ (sh_i μ 55 8)) = 0 then sh_let (sh_setI μ 55 8 ((sh_i μ 55 8) + 1)) (fun μ33 => F_X10_findHighest fuel 2 r1 μ33) else some (1, μ)) else sh_let (sh_setI μ 55 8 ((sh_i μ 55 8) + 1)) (fun μ31 => F_X10_findHighest fuel 2 r1 μ31)) else none))) else none) : Option (Int32 × sh_Mem)) = some (v, μ') := h
      obtain ⟨k24, h⟩ := sh_chk h
      obtain ⟨r25, er25⟩ : ∃ y : Nat, y = (sh_ref μ 55 0) := ⟨_, rfl⟩
      rw [sh_let_eq er25] at h
      have k24r : sh_r μ 55 0 = some r25 ∧ (r25 = 8 ∨ r25 = 29) := by rw [er25]; exact k24
      by_cases c26 : (f_X5_cells μ r25) ≤ (sh_i μ 55 8)
      · rw [if_pos c26] at h
        obtain ⟨μ27, eμ27⟩ : ∃ y : sh_Mem, y = (sh_setI μ 55 8 0) := ⟨_, rfl⟩
        rw [sh_let_eq eμ27] at h
        have hG27 : sh_G μ27 := by rw [eμ27]; exact hG
        obtain ⟨μ28, eμ28⟩ : ∃ y : sh_Mem, y = (sh_setI μ27 55 7 ((sh_i μ27 55 7) - 1)) := ⟨_, rfl⟩
        rw [sh_let_eq eμ28] at h
        have hG28 : sh_G μ28 := by rw [eμ28]; exact hG27
        exact ih_0 hG28 hr1 h
      · rw [if_neg c26] at h
        obtain ⟨k29, h⟩ := sh_chk h
        by_cases c30 : (sh_i μ (r1 + 1) ((sh_i μ 55 8)).toNatClampNeg) = (sh_i μ 55 7)
        · rw [if_pos c30] at h
          by_cases c32 : (f_X10_isElsewhere μ (sh_i μ 55 8)) = 0
          · rw [if_pos c32] at h
            obtain ⟨μ33, eμ33⟩ : ∃ y : sh_Mem, y = (sh_setI μ 55 8 ((sh_i μ 55 8) + 1)) := ⟨_, rfl⟩
            rw [sh_let_eq eμ33] at h
            have hG33 : sh_G μ33 := by rw [eμ33]; exact hG
            exact ih_7 hG33 hr1 h
          · rw [if_neg c32] at h
            obtain ⟨e1, e2⟩ := sh_some2 h
            exact e2 ▸ hG
        · rw [if_neg c30] at h
          obtain ⟨μ31, eμ31⟩ : ∃ y : sh_Mem, y = (sh_setI μ 55 8 ((sh_i μ 55 8) + 1)) := ⟨_, rfl⟩
          rw [sh_let_eq eμ31] at h
          have hG31 : sh_G μ31 := by rw [eμ31]; exact hG
          exact ih_7 hG31 hr1 h
theorem tl_X10_findHighest (fuel : Nat) : (∀ ⦃r1 : Nat⦄ ⦃μ μ' : sh_Mem⦄ ⦃v : Int32⦄, sh_G μ → sh_isL r1 → F_X10_findHighest fuel 1 r1 μ = some (v, μ') → sh_V0 l B D ca 2 M_X10_findHighest 0 [(0, .ref 55), (1, .ref r1)] [] μ (fun v0 μ0 => v0 = some (.int v) ∧ μ0 = μ')) ∧ (∀ ⦃r1 : Nat⦄ ⦃μ μ' : sh_Mem⦄ ⦃v : Int32⦄, sh_G μ → sh_isL r1 → F_X10_findHighest fuel 2 r1 μ = some (v, μ') → sh_V0 l B D ca 2 M_X10_findHighest 7 [(0, .ref 55), (1, .ref r1)] [] μ (fun v0 μ0 => v0 = some (.int v) ∧ μ0 = μ')) := by
  induction fuel with
  | zero => exact ⟨(by intro r1 μ μ' v hG hr1 h; cases h), (by intro r1 μ μ' v hG hr1 h; cases h)⟩
  | succ fuel ih =>
    obtain ⟨ih_0, ih_7⟩ := ih
    refine ⟨?_, ?_⟩
    · intro r1 μ μ' v hG hr1 h
      replace h : ((if (sh_i μ 55 7) ≤ 0 then some (0, μ) else F_X10_findHighest fuel 2 r1 μ) : Option (Int32 × sh_Mem)) = some (v, μ') := h
      refine vv_aload_n 0 0 dX10_findHighest_0 rfl rfl ?_
      refine vv_getI 1 dX10_findHighest_1 fl_10_111 rfl (g_l_55 hG) ?_
      refine vv_if_le 4 81 dX10_findHighest_4 (by decide) (fun c23 => ?_) (fun c23 => ?_)
      · rw [if_pos c23] at h
        refine vv_iconst 81 dX10_findHighest_81 ik_0 ?_
        obtain ⟨e1, e2⟩ := sh_some2 h
        refine vv_zret 82 dX10_findHighest_82 rfl rfl (Nat.le_refl _) (Nat.le_refl _) ⟨by rw [e1], e2⟩
      · rw [if_neg c23] at h
        refine vv_sub [(0, _), (1, _)] (sh_subm [0, 1] rfl) ?_
        exact ih_7 hG hr1 h
    · intro r1 μ μ' v hG hr1 h
      replace h : ((if (sh_r μ 55 0 = some (sh_ref μ 55 0) ∧ ((sh_ref μ 55 0) = 8 ∨ (sh_ref μ 55 0) = 29)) then sh_let (sh_ref μ 55 0) (fun r25 => (if (f_X5_cells μ r25) ≤ (sh_i μ 55 8) then sh_let (sh_setI μ 55 8 0) (fun μ27 => sh_let (sh_setI μ27 55 7 ((sh_i μ27 55 7) - 1)) (fun μ28 => F_X10_findHighest fuel 1 r1 μ28)) else (if sh_in (sh_i μ 55 8) 49 then (if (sh_i μ (r1 + 1) ((sh_i μ 55 8)).toNatClampNeg) = (sh_i μ 55 7) then (if (f_X10_isElsewhere μ (sh_i μ 55 8)) = 0 then sh_let (sh_setI μ 55 8 ((sh_i μ 55 8) + 1)) (fun μ33 => F_X10_findHighest fuel 2 r1 μ33) else some (1, μ)) else sh_let (sh_setI μ 55 8 ((sh_i μ 55 8) + 1)) (fun μ31 => F_X10_findHighest fuel 2 r1 μ31)) else none))) else none) : Option (Int32 × sh_Mem)) = some (v, μ') := h
      refine vv_aload_n 7 0 dX10_findHighest_7 rfl rfl ?_
      refine vv_getI 8 dX10_findHighest_8 fl_10_114 rfl (g_l_55 hG) ?_
      refine vv_aload_n 11 0 dX10_findHighest_11 rfl rfl ?_
      obtain ⟨k24, h⟩ := sh_chk h
      refine vv_getR 12 dX10_findHighest_12 fl_10_22 rfl (g_l_55 hG) k24.1 ?_
      refine vv_topr (fun r25 er25 => ?_)
      rw [sh_let_eq er25] at h
      have k24r : sh_r μ 55 0 = some r25 ∧ (r25 = 8 ∨ r25 = 29) := by rw [er25]; exact k24
      refine v1_callV [] 15 dX10_findHighest_15 ck_X10_117 (gP_l hG k24r.2) ⟨by decide, rfl⟩ (c_X5_cells (μ := μ) hG k24r.2) (Nat.le_of_ble_eq_true rfl) ⟨Nat.le_of_ble_eq_true rfl, Nat.le_of_ble_eq_true rfl⟩ rfl (Nat.le_of_ble_eq_true rfl) ?_
      refine vv_icmp_ge 18 63 dX10_findHighest_18 (by decide) (fun c26 => ?_) (fun c26 => ?_)
      · rw [if_pos c26] at h
        refine vv_aload_n 63 0 dX10_findHighest_63 rfl rfl ?_
        refine vv_iconst 64 dX10_findHighest_64 ik_0 ?_
        refine vn_putI 65 dX10_findHighest_65 fl_10_114 (Or.inl rfl) rfl (g_l_55 hG) (fun μ27 eμ27 => ?_)
        rw [sh_let_eq eμ27] at h
        have hG27 : sh_G μ27 := by rw [eμ27]; exact hG
        refine vv_aload_n 68 0 dX10_findHighest_68 rfl rfl ?_
        refine vv_dup_ref 69 dX10_findHighest_69 ?_
        refine vv_getI 70 dX10_findHighest_70 fl_10_111 rfl (g_l_55 hG27) ?_
        refine vv_iconst 73 dX10_findHighest_73 ik_1 ?_
        refine vv_isub 74 dX10_findHighest_74 ?_
        refine vn_putI 75 dX10_findHighest_75 fl_10_111 (Or.inl rfl) rfl (g_l_55 hG27) (fun μ28 eμ28 => ?_)
        rw [sh_let_eq eμ28] at h
        have hG28 : sh_G μ28 := by rw [eμ28]; exact hG27
        refine vv_goto 78 0 dX10_findHighest_78 (by decide) ?_
        refine vv_sub [(0, _), (1, _)] (sh_subm [0, 1] rfl) ?_
        exact ih_0 hG28 hr1 h
      · rw [if_neg c26] at h
        refine vv_aload_n 21 1 dX10_findHighest_21 rfl rfl ?_
        refine vv_getR 22 dX10_findHighest_22 fl_10_41 rfl (gL_l hG hr1) (gL_r1 hG hr1) ?_
        refine vv_aload_n 25 0 dX10_findHighest_25 rfl rfl ?_
        refine vv_getI 26 dX10_findHighest_26 fl_10_114 rfl (g_l_55 hG) ?_
        obtain ⟨k29, h⟩ := sh_chk h
        refine vv_iald 29 dX10_findHighest_29 (gA_l hG (gLA1 hr1)) k29 ?_
        refine vv_aload_n 30 0 dX10_findHighest_30 rfl rfl ?_
        refine vv_getI 31 dX10_findHighest_31 fl_10_111 rfl (g_l_55 hG) ?_
        refine vv_icmp_ne 34 50 dX10_findHighest_34 (by decide) (fun c30 => ?_) (fun c30 => ?_)
        · rw [if_neg c30] at h
          refine vv_aload_n 50 0 dX10_findHighest_50 rfl rfl ?_
          refine vv_dup_ref 51 dX10_findHighest_51 ?_
          refine vv_getI 52 dX10_findHighest_52 fl_10_114 rfl (g_l_55 hG) ?_
          refine vv_iconst 55 dX10_findHighest_55 ik_1 ?_
          refine vv_iadd 56 dX10_findHighest_56 ?_
          refine vn_putI 57 dX10_findHighest_57 fl_10_114 (Or.inl rfl) rfl (g_l_55 hG) (fun μ31 eμ31 => ?_)
          rw [sh_let_eq eμ31] at h
          have hG31 : sh_G μ31 := by rw [eμ31]; exact hG
          refine vv_goto 60 7 dX10_findHighest_60 (by decide) ?_
          refine vv_sub [(0, _), (1, _)] (sh_subm [0, 1] rfl) ?_
          exact ih_7 hG31 hr1 h
        · rw [if_pos c30] at h
          refine vv_aload_n 37 0 dX10_findHighest_37 rfl rfl ?_
          refine vv_aload_n 38 0 dX10_findHighest_38 rfl rfl ?_
          refine vv_getI 39 dX10_findHighest_39 fl_10_114 rfl (g_l_55 hG) ?_
          refine v1_callV [_] 42 dX10_findHighest_42 ck_X10_121 (g_l_55 hG) ⟨by decide, rfl⟩ (c_X10_isElsewhere (μ := μ) hG) (Nat.le_of_ble_eq_true rfl) ⟨Nat.le_of_ble_eq_true rfl, Nat.le_of_ble_eq_true rfl⟩ rfl (Nat.le_of_ble_eq_true rfl) ?_
          refine vv_if_eq 45 50 dX10_findHighest_45 (by decide) (fun c32 => ?_) (fun c32 => ?_)
          · rw [if_pos c32] at h
            refine vv_aload_n 50 0 dX10_findHighest_50 rfl rfl ?_
            refine vv_dup_ref 51 dX10_findHighest_51 ?_
            refine vv_getI 52 dX10_findHighest_52 fl_10_114 rfl (g_l_55 hG) ?_
            refine vv_iconst 55 dX10_findHighest_55 ik_1 ?_
            refine vv_iadd 56 dX10_findHighest_56 ?_
            refine vn_putI 57 dX10_findHighest_57 fl_10_114 (Or.inl rfl) rfl (g_l_55 hG) (fun μ33 eμ33 => ?_)
            rw [sh_let_eq eμ33] at h
            have hG33 : sh_G μ33 := by rw [eμ33]; exact hG
            refine vv_goto 60 7 dX10_findHighest_60 (by decide) ?_
            refine vv_sub [(0, _), (1, _)] (sh_subm [0, 1] rfl) ?_
            exact ih_7 hG33 hr1 h
          · rw [if_neg c32] at h
            refine vv_iconst 48 dX10_findHighest_48 ik_1 ?_
            obtain ⟨e1, e2⟩ := sh_some2 h
            refine vv_zret 49 dX10_findHighest_49 rfl rfl (Nat.le_refl _) (Nat.le_refl _) ⟨by rw [e1], e2⟩
theorem gp_X10_findHighest {q1 : Nat} {μ μ' : sh_Mem} {v : Int32} (hG : sh_G μ) (hq1 : sh_isL q1) (h : f_X10_findHighest q1 μ = some (v, μ')) : sh_G μ' := by
  have ih_0 := (gpl_X10_findHighest sh_fuel).1
  have ih_7 := (gpl_X10_findHighest sh_fuel).2
  unfold f_X10_findHighest at h
  exact ih_0 hG hq1 h
theorem t_X10_findHighest {q1 : Nat} {μ μ' : sh_Mem} {v : Int32} (hG : sh_G μ) (hq1 : sh_isL q1) (h : f_X10_findHighest q1 μ = some (v, μ')) : sh_C0 l B D ca 2 M_X10_findHighest [.ref 55, .ref q1] μ (fun v0 μ0 => v0 = some (.int v) ∧ μ0 = μ') := by
  have ih_0 := (tl_X10_findHighest (l := l) (B := B) (D := D) (ca := ca) sh_fuel).1
  have ih_7 := (tl_X10_findHighest (l := l) (B := B) (D := D) (ca := ca) sh_fuel).2
  unfold f_X10_findHighest at h
  refine vv_sub [(0, _), (1, _)] (sh_subm [0, 1] rfl) ?_
  exact ih_0 hG hq1 h
noncomputable def F_X11_append : Nat → Nat → Int32 → Int32 → sh_Mem → Option sh_Mem
  | 0, _, _, _, _ => none
  | fuel + 1, lbl, i1, i2, μ => match lbl with
    | 1 => (if i2 < 0 then some μ else (if 1600 ≤ (sh_i μ 0 1) then some μ else (if sh_in (sh_i μ 0 1) 1600 then sh_let (sh_setI μ 1 ((sh_i μ 0 1)).toNatClampNeg ((i1 >>> (i2 &&& 31)) &&& 255)) (fun μ9 => sh_let (sh_setI μ9 0 1 ((sh_i μ9 0 1) + 1)) (fun μ10 => F_X11_append fuel 1 i1 (i2 + (-8)) μ10)) else none)))
    | _ => none
noncomputable def f_X11_append (a1 : Int32) (μ : sh_Mem) : Option sh_Mem := F_X11_append sh_fuel 1 a1 24 μ
theorem gpl_X11_append (fuel : Nat) : (∀ ⦃i1 : Int32⦄ ⦃i2 : Int32⦄ ⦃μ μ' : sh_Mem⦄, sh_G μ → F_X11_append fuel 1 i1 i2 μ = some μ' → sh_G μ') := by
  induction fuel with
  | zero => intro i1 i2 μ μ' hG h; cases h
  | succ fuel ih =>
    have ih_3 := ih
    intro i1 i2 μ μ' hG h
    replace h : ((if i2 < 0 then some μ else (if 1600 ≤ (sh_i μ 0 1) then some μ else (if sh_in (sh_i μ 0 1) 1600 then sh_let (sh_setI μ 1 ((sh_i μ 0 1)).toNatClampNeg ((i1 >>> (i2 &&& 31)) &&& 255)) (fun μ9 => sh_let (sh_setI μ9 0 1 ((sh_i μ9 0 1) + 1)) (fun μ10 => F_X11_append fuel 1 i1 (i2 + (-8)) μ10)) else none))) : Option sh_Mem) = some μ' := h
    by_cases c6 : i2 < 0
    · rw [if_pos c6] at h
      have e2 := Option.some.inj h
      exact e2 ▸ hG
    · rw [if_neg c6] at h
      by_cases c7 : 1600 ≤ (sh_i μ 0 1)
      · rw [if_pos c7] at h
        have e2 := Option.some.inj h
        exact e2 ▸ hG
      · rw [if_neg c7] at h
        obtain ⟨k8, h⟩ := sh_chk h
        obtain ⟨μ9, eμ9⟩ : ∃ y : sh_Mem, y = (sh_setI μ 1 ((sh_i μ 0 1)).toNatClampNeg ((i1 >>> (i2 &&& 31)) &&& 255)) := ⟨_, rfl⟩
        rw [sh_let_eq eμ9] at h
        have hG9 : sh_G μ9 := by rw [eμ9]; exact hG
        obtain ⟨μ10, eμ10⟩ : ∃ y : sh_Mem, y = (sh_setI μ9 0 1 ((sh_i μ9 0 1) + 1)) := ⟨_, rfl⟩
        rw [sh_let_eq eμ10] at h
        have hG10 : sh_G μ10 := by rw [eμ10]; exact hG9
        exact ih_3 hG10 h
theorem tl_X11_append (fuel : Nat) : (∀ ⦃i1 : Int32⦄ ⦃i2 : Int32⦄ ⦃μ μ' : sh_Mem⦄, sh_G μ → F_X11_append fuel 1 i1 i2 μ = some μ' → sh_V0 l B D ca 1 M_X11_append 3 [(0, .ref 0), (1, .int i1), (2, .int i2)] [] μ (fun v0 μ0 => v0 = none ∧ μ0 = μ')) := by
  induction fuel with
  | zero => intro i1 i2 μ μ' hG h; cases h
  | succ fuel ih =>
    have ih_3 := ih
    intro i1 i2 μ μ' hG h
    replace h : ((if i2 < 0 then some μ else (if 1600 ≤ (sh_i μ 0 1) then some μ else (if sh_in (sh_i μ 0 1) 1600 then sh_let (sh_setI μ 1 ((sh_i μ 0 1)).toNatClampNeg ((i1 >>> (i2 &&& 31)) &&& 255)) (fun μ9 => sh_let (sh_setI μ9 0 1 ((sh_i μ9 0 1) + 1)) (fun μ10 => F_X11_append fuel 1 i1 (i2 + (-8)) μ10)) else none))) : Option sh_Mem) = some μ' := h
    refine vv_iload_n 3 2 dX11_append_3 rfl rfl ?_
    refine vv_if_lt 4 49 dX11_append_4 (by decide) (fun c6 => ?_) (fun c6 => ?_)
    · rw [if_pos c6] at h
      have e2 := Option.some.inj h
      refine vv_vret 49 dX11_append_49 rfl (Nat.le_refl _) (Nat.le_refl _) ⟨rfl, e2⟩
    · rw [if_neg c6] at h
      refine vv_aload_n 7 0 dX11_append_7 rfl rfl ?_
      refine vv_getI 8 dX11_append_8 fl_11_117 rfl (g_l_0 hG) ?_
      refine vv_sipush 11 dX11_append_11 sk_1600 ?_
      refine vv_icmp_ge 14 49 dX11_append_14 (by decide) (fun c7 => ?_) (fun c7 => ?_)
      · rw [if_pos c7] at h
        have e2 := Option.some.inj h
        refine vv_vret 49 dX11_append_49 rfl (Nat.le_refl _) (Nat.le_refl _) ⟨rfl, e2⟩
      · rw [if_neg c7] at h
        refine vv_aload_n 17 0 dX11_append_17 rfl rfl ?_
        refine vv_getR 18 dX11_append_18 fl_11_9 rfl (g_l_0 hG) (g_r_0_0 hG) ?_
        refine vv_aload_n 21 0 dX11_append_21 rfl rfl ?_
        refine vv_getI 22 dX11_append_22 fl_11_117 rfl (g_l_0 hG) ?_
        refine vv_iload_n 25 1 dX11_append_25 rfl rfl ?_
        refine vv_iload_n 26 2 dX11_append_26 rfl rfl ?_
        refine vv_ishr 27 dX11_append_27 ?_
        refine vv_sipush 28 dX11_append_28 sk_255 ?_
        refine vv_iand 31 dX11_append_31 ?_
        obtain ⟨k8, h⟩ := sh_chk h
        refine vn_iast 32 dX11_append_32 (g_l_1 hG) k8 (fun μ9 eμ9 => ?_)
        rw [sh_let_eq eμ9] at h
        have hG9 : sh_G μ9 := by rw [eμ9]; exact hG
        refine vv_aload_n 33 0 dX11_append_33 rfl rfl ?_
        refine vv_dup_ref 34 dX11_append_34 ?_
        refine vv_getI 35 dX11_append_35 fl_11_117 rfl (g_l_0 hG9) ?_
        refine vv_iconst 38 dX11_append_38 ik_1 ?_
        refine vv_iadd 39 dX11_append_39 ?_
        refine vn_putI 40 dX11_append_40 fl_11_117 (Or.inl rfl) rfl (g_l_0 hG9) (fun μ10 eμ10 => ?_)
        rw [sh_let_eq eμ10] at h
        have hG10 : sh_G μ10 := by rw [eμ10]; exact hG9
        refine vv_iincc (lv' := [(2, _), (0, _), (1, _)]) 43 2 dX11_append_43 rfl ik_m8 (by decide) rfl ?_
        refine vv_goto 46 3 dX11_append_46 (by decide) ?_
        refine vv_sub [(0, _), (1, _), (2, _)] (sh_subm [1, 2, 0] rfl) ?_
        exact ih_3 hG10 h
theorem gp_X11_append {a1 : Int32} {μ μ' : sh_Mem} (hG : sh_G μ) (h : f_X11_append a1 μ = some μ') : sh_G μ' := by
  have ih_3 := (gpl_X11_append sh_fuel)
  unfold f_X11_append at h
  exact ih_3 hG h
theorem t_X11_append {a1 : Int32} {μ μ' : sh_Mem} (hG : sh_G μ) (h : f_X11_append a1 μ = some μ') : sh_C0 l B D ca 1 M_X11_append [.ref 0, .int a1] μ (fun v0 μ0 => v0 = none ∧ μ0 = μ') := by
  have ih_3 := (tl_X11_append (l := l) (B := B) (D := D) (ca := ca) sh_fuel)
  unfold f_X11_append at h
  refine vv_bipush 0 dX11_append_0 bk_24 ?_
  refine vv_istore_n (lv' := [(2, _), (0, _), (1, _)]) 2 2 dX11_append_2 rfl (by decide) rfl ?_
  refine vv_sub [(0, _), (1, _), (2, _)] (sh_subm [1, 2, 0] rfl) ?_
  exact ih_3 hG h
end
