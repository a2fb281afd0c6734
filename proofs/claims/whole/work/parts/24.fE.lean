section
variable {l : Launch} {B : Nat} {D : va_G} {ca : Nat → ClassId} {μ : sh_Mem}
noncomputable def f_X11_crowdNow (μ : sh_Mem) : Option (Int32 × sh_Mem) := sh_bind (f_X11_draw 100 μ) (fun y3 μ1 => (if (sh_r μ1 0 7 = some (sh_ref μ1 0 7) ∧ ((sh_ref μ1 0 7) = 8 ∨ (sh_ref μ1 0 7) = 29)) then sh_let (sh_ref μ1 0 7) (fun r5 => (if (sh_i μ1 r5 5) ≤ y3 then some (0, μ1) else (if (sh_r μ1 0 7 = some (sh_ref μ1 0 7) ∧ ((sh_ref μ1 0 7) = 8 ∨ (sh_ref μ1 0 7) = 29)) then sh_let (sh_ref μ1 0 7) (fun r8 => (if (sh_i μ1 r8 3) = 0 then some (0, μ1) else (if (sh_r μ1 0 7 = some (sh_ref μ1 0 7) ∧ ((sh_ref μ1 0 7) = 8 ∨ (sh_ref μ1 0 7) = 29)) then sh_let (sh_ref μ1 0 7) (fun r11 => (if (sh_i μ1 r11 2) = 0 then some (0, μ1) else (if (sh_r μ1 0 7 = some (sh_ref μ1 0 7) ∧ ((sh_ref μ1 0 7) = 8 ∨ (sh_ref μ1 0 7) = 29)) then sh_let (sh_ref μ1 0 7) (fun r14 => sh_bind (f_X11_draw (sh_i μ1 r14 3) μ1) (fun y17 μ15 => (if (sh_r μ15 0 7 = some (sh_ref μ15 0 7) ∧ ((sh_ref μ15 0 7) = 8 ∨ (sh_ref μ15 0 7) = 29)) then sh_let (sh_ref μ15 0 7) (fun r19 => sh_bind (f_X11_draw (sh_i μ15 r19 2) μ15) (fun y22 μ20 => sh_bind (f_X11_askNow y17 y22 μ20) (fun y25 μ23 => (if y25 = 2 then some (1, μ23) else some (0, μ23))))) else none))) else none))) else none))) else none))) else none))
theorem gp_X11_crowdNow {μ μ' : sh_Mem} {v : Int32} (hG : sh_G μ) (h : f_X11_crowdNow μ = some (v, μ')) : sh_G μ' := by
  unfold f_X11_crowdNow at h
  obtain ⟨y3, μ1, hr2, h⟩ := sh_bind_e h
  have hG1 := gp_X11_draw hG hr2
  obtain ⟨k4, h⟩ := sh_chk h
  obtain ⟨r5, er5⟩ : ∃ y : Nat, y = (sh_ref μ1 0 7) := ⟨_, rfl⟩
  rw [sh_let_eq er5] at h
  have k4r : sh_r μ1 0 7 = some r5 ∧ (r5 = 8 ∨ r5 = 29) := by rw [er5]; exact k4
  by_cases c6 : (sh_i μ1 r5 5) ≤ y3
  · rw [if_pos c6] at h
    obtain ⟨e1, e2⟩ := sh_some2 h
    exact e2 ▸ hG1
  · rw [if_neg c6] at h
    obtain ⟨k7, h⟩ := sh_chk h
    obtain ⟨r8, er8⟩ : ∃ y : Nat, y = (sh_ref μ1 0 7) := ⟨_, rfl⟩
    rw [sh_let_eq er8] at h
    have k7r : sh_r μ1 0 7 = some r8 ∧ (r8 = 8 ∨ r8 = 29) := by rw [er8]; exact k7
    by_cases c9 : (sh_i μ1 r8 3) = 0
    · rw [if_pos c9] at h
      obtain ⟨e1, e2⟩ := sh_some2 h
      exact e2 ▸ hG1
    · rw [if_neg c9] at h
      obtain ⟨k10, h⟩ := sh_chk h
      obtain ⟨r11, er11⟩ : ∃ y : Nat, y = (sh_ref μ1 0 7) := ⟨_, rfl⟩
      rw [sh_let_eq er11] at h
      have k10r : sh_r μ1 0 7 = some r11 ∧ (r11 = 8 ∨ r11 = 29) := by rw [er11]; exact k10
      by_cases c12 : (sh_i μ1 r11 2) = 0
      · rw [if_pos c12] at h
        obtain ⟨e1, e2⟩ := sh_some2 h
        exact e2 ▸ hG1
      · rw [if_neg c12] at h
        obtain ⟨k13, h⟩ := sh_chk h
        obtain ⟨r14, er14⟩ : ∃ y : Nat, y = (sh_ref μ1 0 7) := ⟨_, rfl⟩
        rw [sh_let_eq er14] at h
        have k13r : sh_r μ1 0 7 = some r14 ∧ (r14 = 8 ∨ r14 = 29) := by rw [er14]; exact k13
        obtain ⟨y17, μ15, hr16, h⟩ := sh_bind_e h
        have hG15 := gp_X11_draw hG1 hr16
        obtain ⟨k18, h⟩ := sh_chk h
        obtain ⟨r19, er19⟩ : ∃ y : Nat, y = (sh_ref μ15 0 7) := ⟨_, rfl⟩
        rw [sh_let_eq er19] at h
        have k18r : sh_r μ15 0 7 = some r19 ∧ (r19 = 8 ∨ r19 = 29) := by rw [er19]; exact k18
        obtain ⟨y22, μ20, hr21, h⟩ := sh_bind_e h
        have hG20 := gp_X11_draw hG15 hr21
        obtain ⟨y25, μ23, hr24, h⟩ := sh_bind_e h
        have hG23 := gp_X11_askNow hG20 hr24
        by_cases c26 : y25 = 2
        · rw [if_pos c26] at h
          obtain ⟨e1, e2⟩ := sh_some2 h
          exact e2 ▸ hG23
        · rw [if_neg c26] at h
          obtain ⟨e1, e2⟩ := sh_some2 h
          exact e2 ▸ hG23
theorem t_X11_crowdNow {μ μ' : sh_Mem} {v : Int32} (hG : sh_G μ) (h : f_X11_crowdNow μ = some (v, μ')) : sh_C0 l B D ca 7 M_X11_crowdNow [.ref 0] μ (fun v0 μ0 => v0 = some (.int v) ∧ μ0 = μ') := by
  unfold f_X11_crowdNow at h
  refine vv_aload_n 0 0 dX11_crowdNow_0 rfl rfl ?_
  refine vv_bipush 1 dX11_crowdNow_1 bk_100 ?_
  obtain ⟨y3, μ1, hr2, h⟩ := sh_bind_e h
  refine v1_callV [_] 3 dX11_crowdNow_3 ck_X11_353 (g_l_0 hG) ⟨by decide, rfl⟩ (t_X11_draw hG hr2) (Nat.le_of_ble_eq_true rfl) ⟨Nat.le_of_ble_eq_true rfl, Nat.le_of_ble_eq_true rfl⟩ rfl (Nat.le_of_ble_eq_true rfl) ?_
  have hG1 := gp_X11_draw hG hr2
  refine vv_aload_n 6 0 dX11_crowdNow_6 rfl rfl ?_
  obtain ⟨k4, h⟩ := sh_chk h
  refine vv_getR 7 dX11_crowdNow_7 fl_11_53 rfl (g_l_0 hG1) k4.1 ?_
  refine vv_topr (fun r5 er5 => ?_)
  rw [sh_let_eq er5] at h
  have k4r : sh_r μ1 0 7 = some r5 ∧ (r5 = 8 ∨ r5 = 29) := by rw [er5]; exact k4
  refine vv_getI 10 dX11_crowdNow_10 fl_11_356 rfl (gP_l hG1 k4r.2) ?_
  refine vv_icmp_ge 13 36 dX11_crowdNow_13 (by decide) (fun c6 => ?_) (fun c6 => ?_)
  · rw [if_pos c6] at h
    refine vv_iconst 36 dX11_crowdNow_36 ik_0 ?_
    obtain ⟨e1, e2⟩ := sh_some2 h
    refine vv_iret 37 dX11_crowdNow_37 rfl (Nat.le_refl _) (Nat.le_refl _) ⟨by rw [e1], e2⟩
  · rw [if_neg c6] at h
    refine vv_aload_n 16 0 dX11_crowdNow_16 rfl rfl ?_
    obtain ⟨k7, h⟩ := sh_chk h
    refine vv_getR 17 dX11_crowdNow_17 fl_11_53 rfl (g_l_0 hG1) k7.1 ?_
    refine vv_topr (fun r8 er8 => ?_)
    rw [sh_let_eq er8] at h
    have k7r : sh_r μ1 0 7 = some r8 ∧ (r8 = 8 ∨ r8 = 29) := by rw [er8]; exact k7
    refine vv_getI 20 dX11_crowdNow_20 fl_11_180 rfl (gP_l hG1 k7r.2) ?_
    refine vv_if_eq 23 36 dX11_crowdNow_23 (by decide) (fun c9 => ?_) (fun c9 => ?_)
    · rw [if_pos c9] at h
      refine vv_iconst 36 dX11_crowdNow_36 ik_0 ?_
      obtain ⟨e1, e2⟩ := sh_some2 h
      refine vv_iret 37 dX11_crowdNow_37 rfl (Nat.le_refl _) (Nat.le_refl _) ⟨by rw [e1], e2⟩
    · rw [if_neg c9] at h
      refine vv_aload_n 26 0 dX11_crowdNow_26 rfl rfl ?_
      obtain ⟨k10, h⟩ := sh_chk h
      refine vv_getR 27 dX11_crowdNow_27 fl_11_53 rfl (g_l_0 hG1) k10.1 ?_
      refine vv_topr (fun r11 er11 => ?_)
      rw [sh_let_eq er11] at h
      have k10r : sh_r μ1 0 7 = some r11 ∧ (r11 = 8 ∨ r11 = 29) := by rw [er11]; exact k10
      refine vv_getI 30 dX11_crowdNow_30 fl_11_177 rfl (gP_l hG1 k10r.2) ?_
      refine vv_if_ne 33 38 dX11_crowdNow_33 (by decide) (fun c12 => ?_) (fun c12 => ?_)
      · rw [if_neg c12] at h
        refine vv_aload_n 38 0 dX11_crowdNow_38 rfl rfl ?_
        refine vv_aload_n 39 0 dX11_crowdNow_39 rfl rfl ?_
        obtain ⟨k13, h⟩ := sh_chk h
        refine vv_getR 40 dX11_crowdNow_40 fl_11_53 rfl (g_l_0 hG1) k13.1 ?_
        refine vv_topr (fun r14 er14 => ?_)
        rw [sh_let_eq er14] at h
        have k13r : sh_r μ1 0 7 = some r14 ∧ (r14 = 8 ∨ r14 = 29) := by rw [er14]; exact k13
        refine vv_getI 43 dX11_crowdNow_43 fl_11_180 rfl (gP_l hG1 k13r.2) ?_
        obtain ⟨y17, μ15, hr16, h⟩ := sh_bind_e h
        refine v1_callV [_] 46 dX11_crowdNow_46 ck_X11_353 (g_l_0 hG1) ⟨by decide, rfl⟩ (t_X11_draw hG1 hr16) (Nat.le_of_ble_eq_true rfl) ⟨Nat.le_of_ble_eq_true rfl, Nat.le_of_ble_eq_true rfl⟩ rfl (Nat.le_of_ble_eq_true rfl) ?_
        have hG15 := gp_X11_draw hG1 hr16
        refine vv_istore_n (lv' := [(1, _), (0, _)]) 49 1 dX11_crowdNow_49 rfl (by decide) rfl ?_
        refine vv_aload_n 50 0 dX11_crowdNow_50 rfl rfl ?_
        refine vv_aload_n 51 0 dX11_crowdNow_51 rfl rfl ?_
        obtain ⟨k18, h⟩ := sh_chk h
        refine vv_getR 52 dX11_crowdNow_52 fl_11_53 rfl (g_l_0 hG15) k18.1 ?_
        refine vv_topr (fun r19 er19 => ?_)
        rw [sh_let_eq er19] at h
        have k18r : sh_r μ15 0 7 = some r19 ∧ (r19 = 8 ∨ r19 = 29) := by rw [er19]; exact k18
        refine vv_getI 55 dX11_crowdNow_55 fl_11_177 rfl (gP_l hG15 k18r.2) ?_
        obtain ⟨y22, μ20, hr21, h⟩ := sh_bind_e h
        refine v1_callV [_] 58 dX11_crowdNow_58 ck_X11_353 (g_l_0 hG15) ⟨by decide, rfl⟩ (t_X11_draw hG15 hr21) (Nat.le_of_ble_eq_true rfl) ⟨Nat.le_of_ble_eq_true rfl, Nat.le_of_ble_eq_true rfl⟩ rfl (Nat.le_of_ble_eq_true rfl) ?_
        have hG20 := gp_X11_draw hG15 hr21
        refine vv_istore_n (lv' := [(2, _), (1, _), (0, _)]) 61 2 dX11_crowdNow_61 rfl (by decide) rfl ?_
        refine vv_aload_n 62 0 dX11_crowdNow_62 rfl rfl ?_
        refine vv_iload_n 63 1 dX11_crowdNow_63 rfl rfl ?_
        refine vv_iload_n 64 2 dX11_crowdNow_64 rfl rfl ?_
        obtain ⟨y25, μ23, hr24, h⟩ := sh_bind_e h
        refine v1_callV [_, _] 65 dX11_crowdNow_65 ck_X11_328 (g_l_0 hG20) ⟨by decide, rfl⟩ (t_X11_askNow hG20 hr24) (Nat.le_of_ble_eq_true rfl) ⟨Nat.le_of_ble_eq_true rfl, Nat.le_of_ble_eq_true rfl⟩ rfl (Nat.le_of_ble_eq_true rfl) ?_
        have hG23 := gp_X11_askNow hG20 hr24
        refine vv_iconst 68 dX11_crowdNow_68 ik_2 ?_
        refine vv_icmp_ne 69 76 dX11_crowdNow_69 (by decide) (fun c26 => ?_) (fun c26 => ?_)
        · rw [if_neg c26] at h
          refine vv_iconst 76 dX11_crowdNow_76 ik_0 ?_
          obtain ⟨e1, e2⟩ := sh_some2 h
          refine vv_iret 77 dX11_crowdNow_77 rfl (Nat.le_refl _) (Nat.le_refl _) ⟨by rw [e1], e2⟩
        · rw [if_pos c26] at h
          refine vv_iconst 72 dX11_crowdNow_72 ik_1 ?_
          refine vv_goto 73 77 dX11_crowdNow_73 (by decide) ?_
          obtain ⟨e1, e2⟩ := sh_some2 h
          refine vv_iret 77 dX11_crowdNow_77 rfl (Nat.le_refl _) (Nat.le_refl _) ⟨by rw [e1], e2⟩
      · rw [if_pos c12] at h
        refine vv_iconst 36 dX11_crowdNow_36 ik_0 ?_
        obtain ⟨e1, e2⟩ := sh_some2 h
        refine vv_iret 37 dX11_crowdNow_37 rfl (Nat.le_refl _) (Nat.le_refl _) ⟨by rw [e1], e2⟩
noncomputable def F_X7_goesOn (rec : Nat → Int32 → Int32 → Int32 → sh_Mem → Option (Int32 × sh_Mem)) : Nat → Nat → Int32 → Int32 → Nat → Int32 → sh_Mem → Option (Int32 × sh_Mem)
  | 0, _, _, _, _, _, _ => none
  | fuel + 1, lbl, i1, i2, r3, i4, μ => match lbl with
    | 1 => (if (sh_r μ 55 0 = some (sh_ref μ 55 0) ∧ ((sh_ref μ 55 0) = 8 ∨ (sh_ref μ 55 0) = 29)) then sh_let (sh_ref μ 55 0) (fun r28 => (if (sh_i μ r28 3) ≤ i4 then some (0, μ) else sh_let (((i2 - i1) - 1) : Int32) (fun x30 => sh_bind (f_X7_mayRise r3 (sh_i μ 260 3) (sh_i μ 260 4) i4 x30 μ) (fun y33 μ31 => (if y33 = 0 then F_X7_goesOn rec fuel 1 i1 i2 r3 (i4 + 1) μ31 else (if sh_in 0 4 then (if sh_in (sh_i μ31 260 5) 49 then sh_bind (f_X7_mayRise r3 (sh_i μ31 260 5) (sh_i μ31 ((263 + 6 * (Int32.toNatClampNeg 0)) + 1) ((sh_i μ31 260 5)).toNatClampNeg) i4 x30 μ31) (fun y39 μ37 => (if y39 = 0 then F_X7_goesOn rec fuel 1 i1 i2 r3 (i4 + 1) μ37 else sh_bind (rec 1 i4 i1 i2 μ37) (fun y43 μ41 => (if y43 = 0 then F_X7_goesOn rec fuel 1 i1 i2 r3 (i4 + 1) μ41 else some (1, μ41))))) else none) else none)))))) else none)
    | _ => none
noncomputable def f_X7_goesOn (rec : Nat → Int32 → Int32 → Int32 → sh_Mem → Option (Int32 × sh_Mem)) (a1 : Int32) (a2 : Int32) (μ : sh_Mem) : Option (Int32 × sh_Mem) := (if sh_in a1 4 then (if a1 < a2 then F_X7_goesOn rec sh_fuel 1 a1 a2 (263 + 6 * a1.toNatClampNeg) 0 μ else (if sh_in (sh_i μ 260 3) 49 then (if (sh_i μ ((263 + 6 * a1.toNatClampNeg) + 1) ((sh_i μ 260 3)).toNatClampNeg) < (sh_i μ 260 4) then some (0, μ) else (if sh_in (sh_i μ 260 5) 49 then (if sh_in 0 4 then (if sh_in (sh_i μ 260 5) 49 then (if (sh_i μ ((263 + 6 * a1.toNatClampNeg) + 1) ((sh_i μ 260 5)).toNatClampNeg) = (sh_i μ ((263 + 6 * (Int32.toNatClampNeg 0)) + 1) ((sh_i μ 260 5)).toNatClampNeg) then some (1, μ) else some (0, μ)) else none) else none) else none)) else none)) else none)
theorem gpl_X7_goesOn {rec : Nat → Int32 → Int32 → Int32 → sh_Mem → Option (Int32 × sh_Mem)} (grec : ∀ ⦃k : Nat⦄ ⦃b1 b2 b3 : Int32⦄ ⦃μ μ' : sh_Mem⦄ ⦃v : Int32⦄, sh_G μ → rec k b1 b2 b3 μ = some (v, μ') → sh_G μ') (fuel : Nat) : (∀ ⦃i1 : Int32⦄ ⦃i2 : Int32⦄ ⦃r3 : Nat⦄ ⦃i4 : Int32⦄ ⦃μ μ' : sh_Mem⦄ ⦃v : Int32⦄, sh_G μ → sh_isL r3 → F_X7_goesOn rec fuel 1 i1 i2 r3 i4 μ = some (v, μ') → sh_G μ') := by
  induction fuel with
  | zero => intro i1 i2 r3 i4 μ μ' v hG hr3 h; cases h
  | succ fuel ih =>
    have ih_63 := ih
    intro i1 i2 r3 i4 μ μ' v hG hr3 h
    replace h : ((if (sh_r μ 55 0 = some (sh_ref μ 55 0) ∧ ((sh_ref μ 55 0) = 8 ∨ (sh_ref μ 55 0) = 29)) then sh_let (sh_ref μ 55 0) (fun r28 => (if (sh_i μ r28 3) ≤ i4 then some (0, μ) else sh_let (((i2 - i1) - 1) : Int32) (fun x30 => sh_bind (f_X7_mayRise r3 (sh_i μ 260 3) (sh_i μ 260 4) i4 x30 μ) (fun y33 μ31 => (if y33 = 0 then F_X7_goesOn rec fuel 1 i1 i2 r3 (i4 + 1) μ31 else (if sh_in 0 4 then (if sh_in (sh_i μ31 260 5) 49 then sh_bind (f_X7_mayRise r3 (sh_i μ31 260 5) (sh_i μ31 ((263 + 6 * (Int32.toNatClampNeg 0)) + 1) ((sh_i μ31 260 5)).toNatClampNeg) i4 x30 μ31) (fun y39 μ37 => (if y39 = 0 then F_X7_goesOn rec fuel 1 i1 i2 r3 (i4 + 1) μ37 else sh_bind (rec 1 i4 i1 i2 μ37) (fun y43 μ41 => (if y43 = 0 then F_X7_goesOn rec fuel 1 i1 i2 r3 (i4 + 1) μ41 else some (1, μ41))))) else none) else none)))))) else none) : Option (Int32 × sh_Mem)) = some (v, μ') := h
    obtain ⟨k27, h⟩ := sh_chk h
    obtain ⟨r28, er28⟩ : ∃ y : Nat, y = (sh_ref μ 55 0) := ⟨_, rfl⟩
    rw [sh_let_eq er28] at h
    have k27r : sh_r μ 55 0 = some r28 ∧ (r28 = 8 ∨ r28 = 29) := by rw [er28]; exact k27
    by_cases c29 : (sh_i μ r28 3) ≤ i4
    · rw [if_pos c29] at h
      obtain ⟨e1, e2⟩ := sh_some2 h
      exact e2 ▸ hG
    · rw [if_neg c29] at h
      obtain ⟨x30, ex30⟩ : ∃ y : Int32, y = ((i2 - i1) - 1) := ⟨_, rfl⟩
      rw [sh_let_eq ex30] at h
      obtain ⟨y33, μ31, hr32, h⟩ := sh_bind_e h
      have hG31 := gp_X7_mayRise hG hr3 hr32
      by_cases c34 : y33 = 0
      · rw [if_pos c34] at h
        exact ih_63 hG31 hr3 h
      · rw [if_neg c34] at h
        obtain ⟨k35, h⟩ := sh_chk h
        obtain ⟨k36, h⟩ := sh_chk h
        obtain ⟨y39, μ37, hr38, h⟩ := sh_bind_e h
        have hG37 := gp_X7_mayRise hG31 hr3 hr38
        by_cases c40 : y39 = 0
        · rw [if_pos c40] at h
          exact ih_63 hG37 hr3 h
        · rw [if_neg c40] at h
          obtain ⟨y43, μ41, hr42, h⟩ := sh_bind_e h
          have hG41 := grec hG37 hr42
          by_cases c44 : y43 = 0
          · rw [if_pos c44] at h
            exact ih_63 hG41 hr3 h
          · rw [if_neg c44] at h
            obtain ⟨e1, e2⟩ := sh_some2 h
            exact e2 ▸ hG41
theorem tl_X7_goesOn {rec : Nat → Int32 → Int32 → Int32 → sh_Mem → Option (Int32 × sh_Mem)} (grec : ∀ ⦃k : Nat⦄ ⦃b1 b2 b3 : Int32⦄ ⦃μ μ' : sh_Mem⦄ ⦃v : Int32⦄, sh_G μ → rec k b1 b2 b3 μ = some (v, μ') → sh_G μ') {d : Nat} (hd : 5 ≤ d) (h_X7_goesOn : (∀ ⦃b1 b2 : Int32⦄ ⦃μ μ' : sh_Mem⦄ ⦃v : Int32⦄, sh_G μ → rec 0 b1 b2 0 μ = some (v, μ') → sh_C0 l B D ca d M_X7_goesOn [.ref 260, .int b1, .int b2] μ (fun v0 μ0 => v0 = some (.int v) ∧ μ0 = μ'))) (h_X7_goesOnBy : (∀ ⦃b1 b2 b3 : Int32⦄ ⦃μ μ' : sh_Mem⦄ ⦃v : Int32⦄, sh_G μ → rec 1 b1 b2 b3 μ = some (v, μ') → sh_C0 l B D ca d M_X7_goesOnBy [.ref 260, .int b1, .int b2, .int b3] μ (fun v0 μ0 => v0 = some (.int v) ∧ μ0 = μ'))) (fuel : Nat) : (∀ ⦃i1 : Int32⦄ ⦃i2 : Int32⦄ ⦃r3 : Nat⦄ ⦃i4 : Int32⦄ ⦃μ μ' : sh_Mem⦄ ⦃v : Int32⦄, sh_G μ → sh_isL r3 → F_X7_goesOn rec fuel 1 i1 i2 r3 i4 μ = some (v, μ') → sh_V0 l B D ca (d + 1) M_X7_goesOn 63 [(0, .ref 260), (1, .int i1), (2, .int i2), (3, .ref r3), (4, .int i4)] [] μ (fun v0 μ0 => v0 = some (.int v) ∧ μ0 = μ')) := by
  induction fuel with
  | zero => intro i1 i2 r3 i4 μ μ' v hG hr3 h; cases h
  | succ fuel ih =>
    have ih_63 := ih
    intro i1 i2 r3 i4 μ μ' v hG hr3 h
    replace h : ((if (sh_r μ 55 0 = some (sh_ref μ 55 0) ∧ ((sh_ref μ 55 0) = 8 ∨ (sh_ref μ 55 0) = 29)) then sh_let (sh_ref μ 55 0) (fun r28 => (if (sh_i μ r28 3) ≤ i4 then some (0, μ) else sh_let (((i2 - i1) - 1) : Int32) (fun x30 => sh_bind (f_X7_mayRise r3 (sh_i μ 260 3) (sh_i μ 260 4) i4 x30 μ) (fun y33 μ31 => (if y33 = 0 then F_X7_goesOn rec fuel 1 i1 i2 r3 (i4 + 1) μ31 else (if sh_in 0 4 then (if sh_in (sh_i μ31 260 5) 49 then sh_bind (f_X7_mayRise r3 (sh_i μ31 260 5) (sh_i μ31 ((263 + 6 * (Int32.toNatClampNeg 0)) + 1) ((sh_i μ31 260 5)).toNatClampNeg) i4 x30 μ31) (fun y39 μ37 => (if y39 = 0 then F_X7_goesOn rec fuel 1 i1 i2 r3 (i4 + 1) μ37 else sh_bind (rec 1 i4 i1 i2 μ37) (fun y43 μ41 => (if y43 = 0 then F_X7_goesOn rec fuel 1 i1 i2 r3 (i4 + 1) μ41 else some (1, μ41))))) else none) else none)))))) else none) : Option (Int32 × sh_Mem)) = some (v, μ') := h
    refine vv_iload 63 4 dX7_goesOn_63 rfl ?_
    refine vv_aload_n 65 0 dX7_goesOn_65 rfl rfl ?_
    refine vv_getR 66 dX7_goesOn_66 fl_7_21 rfl (g_l_260 hG) (g_r_260_0 hG) ?_
    obtain ⟨k27, h⟩ := sh_chk h
    refine vv_getR 69 dX7_goesOn_69 fl_7_40 rfl (g_l_55 hG) k27.1 ?_
    refine vv_topr (fun r28 er28 => ?_)
    rw [sh_let_eq er28] at h
    have k27r : sh_r μ 55 0 = some r28 ∧ (r28 = 8 ∨ r28 = 29) := by rw [er28]; exact k27
    refine vv_getI 72 dX7_goesOn_72 fl_7_62 rfl (gP_l hG k27r.2) ?_
    refine vv_icmp_ge 75 154 dX7_goesOn_75 (by decide) (fun c29 => ?_) (fun c29 => ?_)
    · rw [if_pos c29] at h
      refine vv_iconst 154 dX7_goesOn_154 ik_0 ?_
      obtain ⟨e1, e2⟩ := sh_some2 h
      refine vv_zret 155 dX7_goesOn_155 rfl rfl (Nat.le_refl _) (Nat.le_refl _) ⟨by rw [e1], e2⟩
    · rw [if_neg c29] at h
      refine vv_iload_n 78 2 dX7_goesOn_78 rfl rfl ?_
      refine vv_iload_n 79 1 dX7_goesOn_79 rfl rfl ?_
      refine vv_isub 80 dX7_goesOn_80 ?_
      refine vv_iconst 81 dX7_goesOn_81 ik_1 ?_
      refine vv_isub 82 dX7_goesOn_82 ?_
      refine vv_topi (fun x30 ex30 => ?_)
      rw [sh_let_eq ex30] at h
      refine vv_istore (lv' := [(5, _), (0, _), (1, _), (2, _), (3, _), (4, _)]) 83 5 dX7_goesOn_83 (by decide) rfl ?_
      refine vv_aload_n 85 0 dX7_goesOn_85 rfl rfl ?_
      refine vv_aload_n 86 3 dX7_goesOn_86 rfl rfl ?_
      refine vv_aload_n 87 0 dX7_goesOn_87 rfl rfl ?_
      refine vv_getI 88 dX7_goesOn_88 fl_7_30 rfl (g_l_260 hG) ?_
      refine vv_aload_n 91 0 dX7_goesOn_91 rfl rfl ?_
      refine vv_getI 92 dX7_goesOn_92 fl_7_34 rfl (g_l_260 hG) ?_
      refine vv_iload 95 4 dX7_goesOn_95 rfl ?_
      refine vv_iload 97 5 dX7_goesOn_97 rfl ?_
      obtain ⟨y33, μ31, hr32, h⟩ := sh_bind_e h
      refine v1_callV [_, _, _, _, _] 99 dX7_goesOn_99 ck_X7_65 (g_l_260 hG) ⟨by decide, rfl⟩ (t_X7_mayRise hG hr3 hr32) (by omega) ⟨Nat.le_of_ble_eq_true rfl, Nat.le_of_ble_eq_true rfl⟩ rfl (Nat.le_of_ble_eq_true rfl) ?_
      have hG31 := gp_X7_mayRise hG hr3 hr32
      refine vv_if_eq 102 148 dX7_goesOn_102 (by decide) (fun c34 => ?_) (fun c34 => ?_)
      · rw [if_pos c34] at h
        refine vv_iincc (lv' := [(4, _), (5, _), (0, _), (1, _), (2, _), (3, _)]) 148 4 dX7_goesOn_148 rfl ik_1 (by decide) rfl ?_
        refine vv_goto 151 63 dX7_goesOn_151 (by decide) ?_
        refine vv_sub [(0, _), (1, _), (2, _), (3, _), (4, _)] (sh_subm [2, 3, 4, 5, 0] rfl) ?_
        exact ih_63 hG31 hr3 h
      · rw [if_neg c34] at h
        refine vv_aload_n 105 0 dX7_goesOn_105 rfl rfl ?_
        refine vv_aload_n 106 3 dX7_goesOn_106 rfl rfl ?_
        refine vv_aload_n 107 0 dX7_goesOn_107 rfl rfl ?_
        refine vv_getI 108 dX7_goesOn_108 fl_7_37 rfl (g_l_260 hG31) ?_
        refine vv_aload_n 111 0 dX7_goesOn_111 rfl rfl ?_
        refine vv_getR 112 dX7_goesOn_112 fl_7_11 rfl (g_l_260 hG31) (g_r_260_1 hG31) ?_
        refine vv_iconst 115 dX7_goesOn_115 ik_0 ?_
        obtain ⟨k35, h⟩ := sh_chk h
        refine vv_aald 116 dX7_goesOn_116 (g_l_261 hG31) k35 (gR_261 hG31 k35) ?_
        refine vv_getR 117 dX7_goesOn_117 fl_7_59 rfl (gL_l hG31 (gRL_261 k35)) (gL_r1 hG31 (gRL_261 k35)) ?_
        refine vv_aload_n 120 0 dX7_goesOn_120 rfl rfl ?_
        refine vv_getI 121 dX7_goesOn_121 fl_7_37 rfl (g_l_260 hG31) ?_
        obtain ⟨k36, h⟩ := sh_chk h
        refine vv_iald 124 dX7_goesOn_124 (gA_l hG31 (gLA1 (gRL_261 k35))) k36 ?_
        refine vv_iload 125 4 dX7_goesOn_125 rfl ?_
        refine vv_iload 127 5 dX7_goesOn_127 rfl ?_
        obtain ⟨y39, μ37, hr38, h⟩ := sh_bind_e h
        refine v1_callV [_, _, _, _, _] 129 dX7_goesOn_129 ck_X7_65 (g_l_260 hG31) ⟨by decide, rfl⟩ (t_X7_mayRise hG31 hr3 hr38) (by omega) ⟨Nat.le_of_ble_eq_true rfl, Nat.le_of_ble_eq_true rfl⟩ rfl (Nat.le_of_ble_eq_true rfl) ?_
        have hG37 := gp_X7_mayRise hG31 hr3 hr38
        refine vv_if_eq 132 148 dX7_goesOn_132 (by decide) (fun c40 => ?_) (fun c40 => ?_)
        · rw [if_pos c40] at h
          refine vv_iincc (lv' := [(4, _), (5, _), (0, _), (1, _), (2, _), (3, _)]) 148 4 dX7_goesOn_148 rfl ik_1 (by decide) rfl ?_
          refine vv_goto 151 63 dX7_goesOn_151 (by decide) ?_
          refine vv_sub [(0, _), (1, _), (2, _), (3, _), (4, _)] (sh_subm [2, 3, 4, 5, 0] rfl) ?_
          exact ih_63 hG37 hr3 h
        · rw [if_neg c40] at h
          refine vv_aload_n 135 0 dX7_goesOn_135 rfl rfl ?_
          refine vv_iload 136 4 dX7_goesOn_136 rfl ?_
          refine vv_iload_n 138 1 dX7_goesOn_138 rfl rfl ?_
          refine vv_iload_n 139 2 dX7_goesOn_139 rfl rfl ?_
          obtain ⟨y43, μ41, hr42, h⟩ := sh_bind_e h
          refine v1_callV [_, _, _] 140 dX7_goesOn_140 ck_X7_69 (g_l_260 hG37) ⟨by decide, rfl⟩ (h_X7_goesOnBy hG37 hr42) (Nat.le_refl _) ⟨Nat.le_of_ble_eq_true rfl, Nat.le_of_ble_eq_true rfl⟩ rfl (Nat.le_of_ble_eq_true rfl) ?_
          have hG41 := grec hG37 hr42
          refine vv_if_eq 143 148 dX7_goesOn_143 (by decide) (fun c44 => ?_) (fun c44 => ?_)
          · rw [if_pos c44] at h
            refine vv_iincc (lv' := [(4, _), (5, _), (0, _), (1, _), (2, _), (3, _)]) 148 4 dX7_goesOn_148 rfl ik_1 (by decide) rfl ?_
            refine vv_goto 151 63 dX7_goesOn_151 (by decide) ?_
            refine vv_sub [(0, _), (1, _), (2, _), (3, _), (4, _)] (sh_subm [2, 3, 4, 5, 0] rfl) ?_
            exact ih_63 hG41 hr3 h
          · rw [if_neg c44] at h
            refine vv_iconst 146 dX7_goesOn_146 ik_1 ?_
            obtain ⟨e1, e2⟩ := sh_some2 h
            refine vv_zret 147 dX7_goesOn_147 rfl rfl (Nat.le_refl _) (Nat.le_refl _) ⟨by rw [e1], e2⟩
theorem gp_X7_goesOn {rec : Nat → Int32 → Int32 → Int32 → sh_Mem → Option (Int32 × sh_Mem)} {a1 : Int32} {a2 : Int32} {μ μ' : sh_Mem} {v : Int32}  (grec : ∀ ⦃k : Nat⦄ ⦃b1 b2 b3 : Int32⦄ ⦃μ μ' : sh_Mem⦄ ⦃v : Int32⦄, sh_G μ → rec k b1 b2 b3 μ = some (v, μ') → sh_G μ')(hG : sh_G μ) (h : f_X7_goesOn rec a1 a2 μ = some (v, μ')) : sh_G μ' := by
  have ih_63 := (gpl_X7_goesOn grec sh_fuel)
  unfold f_X7_goesOn at h
  obtain ⟨k45, h⟩ := sh_chk h
  by_cases c46 : a1 < a2
  · rw [if_pos c46] at h
    exact ih_63 hG (gRL_261 k45) h
  · rw [if_neg c46] at h
    obtain ⟨k47, h⟩ := sh_chk h
    by_cases c48 : (sh_i μ ((263 + 6 * a1.toNatClampNeg) + 1) ((sh_i μ 260 3)).toNatClampNeg) < (sh_i μ 260 4)
    · rw [if_pos c48] at h
      obtain ⟨e1, e2⟩ := sh_some2 h
      exact e2 ▸ hG
    · rw [if_neg c48] at h
      obtain ⟨k49, h⟩ := sh_chk h
      obtain ⟨k50, h⟩ := sh_chk h
      obtain ⟨k51, h⟩ := sh_chk h
      by_cases c52 : (sh_i μ ((263 + 6 * a1.toNatClampNeg) + 1) ((sh_i μ 260 5)).toNatClampNeg) = (sh_i μ ((263 + 6 * (Int32.toNatClampNeg 0)) + 1) ((sh_i μ 260 5)).toNatClampNeg)
      · rw [if_pos c52] at h
        obtain ⟨e1, e2⟩ := sh_some2 h
        exact e2 ▸ hG
      · rw [if_neg c52] at h
        obtain ⟨e1, e2⟩ := sh_some2 h
        exact e2 ▸ hG
theorem t_X7_goesOn {rec : Nat → Int32 → Int32 → Int32 → sh_Mem → Option (Int32 × sh_Mem)} {a1 : Int32} {a2 : Int32} {μ μ' : sh_Mem} {v : Int32}  (grec : ∀ ⦃k : Nat⦄ ⦃b1 b2 b3 : Int32⦄ ⦃μ μ' : sh_Mem⦄ ⦃v : Int32⦄, sh_G μ → rec k b1 b2 b3 μ = some (v, μ') → sh_G μ') {d : Nat} (hd : 5 ≤ d) (h_X7_goesOn : (∀ ⦃b1 b2 : Int32⦄ ⦃μ μ' : sh_Mem⦄ ⦃v : Int32⦄, sh_G μ → rec 0 b1 b2 0 μ = some (v, μ') → sh_C0 l B D ca d M_X7_goesOn [.ref 260, .int b1, .int b2] μ (fun v0 μ0 => v0 = some (.int v) ∧ μ0 = μ'))) (h_X7_goesOnBy : (∀ ⦃b1 b2 b3 : Int32⦄ ⦃μ μ' : sh_Mem⦄ ⦃v : Int32⦄, sh_G μ → rec 1 b1 b2 b3 μ = some (v, μ') → sh_C0 l B D ca d M_X7_goesOnBy [.ref 260, .int b1, .int b2, .int b3] μ (fun v0 μ0 => v0 = some (.int v) ∧ μ0 = μ')))(hG : sh_G μ) (h : f_X7_goesOn rec a1 a2 μ = some (v, μ')) : sh_C0 l B D ca (d + 1) M_X7_goesOn [.ref 260, .int a1, .int a2] μ (fun v0 μ0 => v0 = some (.int v) ∧ μ0 = μ') := by
  have ih_63 := (tl_X7_goesOn (l := l) (B := B) (D := D) (ca := ca) grec hd h_X7_goesOn h_X7_goesOnBy sh_fuel)
  unfold f_X7_goesOn at h
  refine vv_aload_n 0 0 dX7_goesOn_0 rfl rfl ?_
  refine vv_getR 1 dX7_goesOn_1 fl_7_11 rfl (g_l_260 hG) (g_r_260_1 hG) ?_
  refine vv_iload_n 4 1 dX7_goesOn_4 rfl rfl ?_
  obtain ⟨k45, h⟩ := sh_chk h
  refine vv_aald 5 dX7_goesOn_5 (g_l_261 hG) k45 (gR_261 hG k45) ?_
  refine vv_astore_n (lv' := [(3, _), (0, _), (1, _), (2, _)]) 6 3 dX7_goesOn_6 rfl (by decide) rfl ?_
  refine vv_iload_n 7 1 dX7_goesOn_7 rfl rfl ?_
  refine vv_iload_n 8 2 dX7_goesOn_8 rfl rfl ?_
  refine vv_icmp_lt 9 60 dX7_goesOn_9 (by decide) (fun c46 => ?_) (fun c46 => ?_)
  · rw [if_pos c46] at h
    refine vv_iconst 60 dX7_goesOn_60 ik_0 ?_
    refine vv_istore (lv' := [(4, _), (3, _), (0, _), (1, _), (2, _)]) 61 4 dX7_goesOn_61 (by decide) rfl ?_
    refine vv_sub [(0, _), (1, _), (2, _), (3, _), (4, _)] (sh_subm [2, 3, 4, 1, 0] rfl) ?_
    exact ih_63 hG (gRL_261 k45) h
  · rw [if_neg c46] at h
    refine vv_aload_n 12 3 dX7_goesOn_12 rfl rfl ?_
    refine vv_getR 13 dX7_goesOn_13 fl_7_59 rfl (gL_l hG (gRL_261 k45)) (gL_r1 hG (gRL_261 k45)) ?_
    refine vv_aload_n 16 0 dX7_goesOn_16 rfl rfl ?_
    refine vv_getI 17 dX7_goesOn_17 fl_7_30 rfl (g_l_260 hG) ?_
    obtain ⟨k47, h⟩ := sh_chk h
    refine vv_iald 20 dX7_goesOn_20 (gA_l hG (gLA1 (gRL_261 k45))) k47 ?_
    refine vv_aload_n 21 0 dX7_goesOn_21 rfl rfl ?_
    refine vv_getI 22 dX7_goesOn_22 fl_7_34 rfl (g_l_260 hG) ?_
    refine vv_icmp_lt 25 58 dX7_goesOn_25 (by decide) (fun c48 => ?_) (fun c48 => ?_)
    · rw [if_pos c48] at h
      refine vv_iconst 58 dX7_goesOn_58 ik_0 ?_
      obtain ⟨e1, e2⟩ := sh_some2 h
      refine vv_zret 59 dX7_goesOn_59 rfl rfl (Nat.le_refl _) (Nat.le_refl _) ⟨by rw [e1], e2⟩
    · rw [if_neg c48] at h
      refine vv_aload_n 28 3 dX7_goesOn_28 rfl rfl ?_
      refine vv_getR 29 dX7_goesOn_29 fl_7_59 rfl (gL_l hG (gRL_261 k45)) (gL_r1 hG (gRL_261 k45)) ?_
      refine vv_aload_n 32 0 dX7_goesOn_32 rfl rfl ?_
      refine vv_getI 33 dX7_goesOn_33 fl_7_37 rfl (g_l_260 hG) ?_
      obtain ⟨k49, h⟩ := sh_chk h
      refine vv_iald 36 dX7_goesOn_36 (gA_l hG (gLA1 (gRL_261 k45))) k49 ?_
      refine vv_aload_n 37 0 dX7_goesOn_37 rfl rfl ?_
      refine vv_getR 38 dX7_goesOn_38 fl_7_11 rfl (g_l_260 hG) (g_r_260_1 hG) ?_
      refine vv_iconst 41 dX7_goesOn_41 ik_0 ?_
      obtain ⟨k50, h⟩ := sh_chk h
      refine vv_aald 42 dX7_goesOn_42 (g_l_261 hG) k50 (gR_261 hG k50) ?_
      refine vv_getR 43 dX7_goesOn_43 fl_7_59 rfl (gL_l hG (gRL_261 k50)) (gL_r1 hG (gRL_261 k50)) ?_
      refine vv_aload_n 46 0 dX7_goesOn_46 rfl rfl ?_
      refine vv_getI 47 dX7_goesOn_47 fl_7_37 rfl (g_l_260 hG) ?_
      obtain ⟨k51, h⟩ := sh_chk h
      refine vv_iald 50 dX7_goesOn_50 (gA_l hG (gLA1 (gRL_261 k50))) k51 ?_
      refine vv_icmp_ne 51 58 dX7_goesOn_51 (by decide) (fun c52 => ?_) (fun c52 => ?_)
      · rw [if_neg c52] at h
        refine vv_iconst 58 dX7_goesOn_58 ik_0 ?_
        obtain ⟨e1, e2⟩ := sh_some2 h
        refine vv_zret 59 dX7_goesOn_59 rfl rfl (Nat.le_refl _) (Nat.le_refl _) ⟨by rw [e1], e2⟩
      · rw [if_pos c52] at h
        refine vv_iconst 54 dX7_goesOn_54 ik_1 ?_
        refine vv_goto 55 59 dX7_goesOn_55 (by decide) ?_
        obtain ⟨e1, e2⟩ := sh_some2 h
        refine vv_zret 59 dX7_goesOn_59 rfl rfl (Nat.le_refl _) (Nat.le_refl _) ⟨by rw [e1], e2⟩
noncomputable def F_X7_goesOnBy (rec : Nat → Int32 → Int32 → Int32 → sh_Mem → Option (Int32 × sh_Mem)) : Nat → Nat → Int32 → Int32 → Int32 → Int32 → Int32 → sh_Mem → Option (Int32 × sh_Mem)
  | 0, _, _, _, _, _, _, _ => none
  | fuel + 1, lbl, i1, i2, i3, i4, i5, μ => match lbl with
    | 1 => (if (sh_r μ 55 0 = some (sh_ref μ 55 0) ∧ ((sh_ref μ 55 0) = 8 ∨ (sh_ref μ 55 0) = 29)) then sh_let (sh_ref μ 55 0) (fun r39 => (if (sh_i μ r39 2) ≤ i5 then some (0, μ) else (if i4 = 0 then (if sh_in (i2 + 1) 4 then (if sh_in i2 4 then sh_bindv (f_X3_copyFrom (263 + 6 * ((i2 + 1)).toNatClampNeg) (263 + 6 * i2.toNatClampNeg) μ) (fun μ44 => (if sh_in (i2 + 1) 4 then sh_bind (f_X10_asked (263 + 6 * ((i2 + 1)).toNatClampNeg) i1 i5 μ44) (fun y50 μ48 => (if y50 = 2 then (if sh_in i2 3 then sh_let (sh_setI μ48 262 i2.toNatClampNeg ((8 * i1) + i5)) (fun μ53 => sh_bind (rec 0 (i2 + 1) i3 0 μ53) (fun y56 μ54 => (if y56 = 0 then F_X7_goesOnBy rec fuel 1 i1 i2 i3 1 (i5 + 1) μ54 else some (1, μ54)))) else none) else F_X7_goesOnBy rec fuel 1 i1 i2 i3 i4 (i5 + 1) μ48)) else none)) else none) else none) else (if (sh_i μ 260 6) = 0 then some (0, μ) else (if sh_in (i2 + 1) 4 then (if sh_in i2 4 then sh_bindv (f_X3_copyFrom (263 + 6 * ((i2 + 1)).toNatClampNeg) (263 + 6 * i2.toNatClampNeg) μ) (fun μ61 => (if sh_in (i2 + 1) 4 then sh_bind (f_X10_asked (263 + 6 * ((i2 + 1)).toNatClampNeg) i1 i5 μ61) (fun y67 μ65 => (if y67 = 2 then (if sh_in i2 3 then sh_let (sh_setI μ65 262 i2.toNatClampNeg ((8 * i1) + i5)) (fun μ70 => sh_bind (rec 0 (i2 + 1) i3 0 μ70) (fun y73 μ71 => (if y73 = 0 then F_X7_goesOnBy rec fuel 1 i1 i2 i3 1 (i5 + 1) μ71 else some (1, μ71)))) else none) else F_X7_goesOnBy rec fuel 1 i1 i2 i3 i4 (i5 + 1) μ65)) else none)) else none) else none))))) else none)
    | _ => none
noncomputable def f_X7_goesOnBy (rec : Nat → Int32 → Int32 → Int32 → sh_Mem → Option (Int32 × sh_Mem)) (a1 : Int32) (a2 : Int32) (a3 : Int32) (μ : sh_Mem) : Option (Int32 × sh_Mem) := F_X7_goesOnBy rec sh_fuel 1 a1 a2 a3 0 0 μ
theorem gpl_X7_goesOnBy {rec : Nat → Int32 → Int32 → Int32 → sh_Mem → Option (Int32 × sh_Mem)} (grec : ∀ ⦃k : Nat⦄ ⦃b1 b2 b3 : Int32⦄ ⦃μ μ' : sh_Mem⦄ ⦃v : Int32⦄, sh_G μ → rec k b1 b2 b3 μ = some (v, μ') → sh_G μ') (fuel : Nat) : (∀ ⦃i1 : Int32⦄ ⦃i2 : Int32⦄ ⦃i3 : Int32⦄ ⦃i4 : Int32⦄ ⦃i5 : Int32⦄ ⦃μ μ' : sh_Mem⦄ ⦃v : Int32⦄, sh_G μ → F_X7_goesOnBy rec fuel 1 i1 i2 i3 i4 i5 μ = some (v, μ') → sh_G μ') := by
  induction fuel with
  | zero => intro i1 i2 i3 i4 i5 μ μ' v hG h; cases h
  | succ fuel ih =>
    have ih_6 := ih
    intro i1 i2 i3 i4 i5 μ μ' v hG h
    replace h : ((if (sh_r μ 55 0 = some (sh_ref μ 55 0) ∧ ((sh_ref μ 55 0) = 8 ∨ (sh_ref μ 55 0) = 29)) then sh_let (sh_ref μ 55 0) (fun r39 => (if (sh_i μ r39 2) ≤ i5 then some (0, μ) else (if i4 = 0 then (if sh_in (i2 + 1) 4 then (if sh_in i2 4 then sh_bindv (f_X3_copyFrom (263 + 6 * ((i2 + 1)).toNatClampNeg) (263 + 6 * i2.toNatClampNeg) μ) (fun μ44 => (if sh_in (i2 + 1) 4 then sh_bind (f_X10_asked (263 + 6 * ((i2 + 1)).toNatClampNeg) i1 i5 μ44) (fun y50 μ48 => (if y50 = 2 then (if sh_in i2 3 then sh_let (sh_setI μ48 262 i2.toNatClampNeg ((8 * i1) + i5)) (fun μ53 => sh_bind (rec 0 (i2 + 1) i3 0 μ53) (fun y56 μ54 => (if y56 = 0 then F_X7_goesOnBy rec fuel 1 i1 i2 i3 1 (i5 + 1) μ54 else some (1, μ54)))) else none) else F_X7_goesOnBy rec fuel 1 i1 i2 i3 i4 (i5 + 1) μ48)) else none)) else none) else none) else (if (sh_i μ 260 6) = 0 then some (0, μ) else (if sh_in (i2 + 1) 4 then (if sh_in i2 4 then sh_bindv (f_X3_copyFrom (263 + 6 * ((i2 + 1)).toNatClampNeg) (263 + 6 * i2.toNatClampNeg) μ) (fun μ61 => (if sh_in (i2 + 1) 4 then sh_bind (f_X10_asked (263 + 6 * ((i2 + 1)).toNatClampNeg) i1 i5 μ61) (fun y67 μ65 => (if y67 = 2 then (if sh_in i2 3 then sh_let (sh_setI μ65 262 i2.toNatClampNeg ((8 * i1) + i5)) (fun μ70 => sh_bind (rec 0 (i2 + 1) i3 0 μ70) (fun y73 μ71 => (if y73 = 0 then F_X7_goesOnBy rec fuel 1 i1 i2 i3 1 (i5 + 1) μ71 else some (1, μ71)))) else none) else F_X7_goesOnBy rec fuel 1 i1 i2 i3 i4 (i5 + 1) μ65)) else none)) else none) else none))))) else none) : Option (Int32 × sh_Mem)) = some (v, μ') := h
    obtain ⟨k38, h⟩ := sh_chk h
    obtain ⟨r39, er39⟩ : ∃ y : Nat, y = (sh_ref μ 55 0) := ⟨_, rfl⟩
    rw [sh_let_eq er39] at h
    have k38r : sh_r μ 55 0 = some r39 ∧ (r39 = 8 ∨ r39 = 29) := by rw [er39]; exact k38
    by_cases c40 : (sh_i μ r39 2) ≤ i5
    · rw [if_pos c40] at h
      obtain ⟨e1, e2⟩ := sh_some2 h
      exact e2 ▸ hG
    · rw [if_neg c40] at h
      by_cases c41 : i4 = 0
      · rw [if_pos c41] at h
        obtain ⟨k42, h⟩ := sh_chk h
        obtain ⟨k43, h⟩ := sh_chk h
        obtain ⟨μ44, hr45, h⟩ := sh_bindv_e h
        have hG44 := gp_X3_copyFrom hG (gRL_261 k42) (gRL_261 k43) hr45
        obtain ⟨k47, h⟩ := sh_chk h
        obtain ⟨y50, μ48, hr49, h⟩ := sh_bind_e h
        have hG48 := gp_X10_asked hG44 (gRL_261 k47) hr49
        by_cases c51 : y50 = 2
        · rw [if_pos c51] at h
          obtain ⟨k52, h⟩ := sh_chk h
          obtain ⟨μ53, eμ53⟩ : ∃ y : sh_Mem, y = (sh_setI μ48 262 i2.toNatClampNeg ((8 * i1) + i5)) := ⟨_, rfl⟩
          rw [sh_let_eq eμ53] at h
          have hG53 : sh_G μ53 := by rw [eμ53]; exact hG48
          obtain ⟨y56, μ54, hr55, h⟩ := sh_bind_e h
          have hG54 := grec hG53 hr55
          by_cases c57 : y56 = 0
          · rw [if_pos c57] at h
            exact ih_6 hG54 h
          · rw [if_neg c57] at h
            obtain ⟨e1, e2⟩ := sh_some2 h
            exact e2 ▸ hG54
        · rw [if_neg c51] at h
          exact ih_6 hG48 h
      · rw [if_neg c41] at h
        by_cases c58 : (sh_i μ 260 6) = 0
        · rw [if_pos c58] at h
          obtain ⟨e1, e2⟩ := sh_some2 h
          exact e2 ▸ hG
        · rw [if_neg c58] at h
          obtain ⟨k59, h⟩ := sh_chk h
          obtain ⟨k60, h⟩ := sh_chk h
          obtain ⟨μ61, hr62, h⟩ := sh_bindv_e h
          have hG61 := gp_X3_copyFrom hG (gRL_261 k59) (gRL_261 k60) hr62
          obtain ⟨k64, h⟩ := sh_chk h
          obtain ⟨y67, μ65, hr66, h⟩ := sh_bind_e h
          have hG65 := gp_X10_asked hG61 (gRL_261 k64) hr66
          by_cases c68 : y67 = 2
          · rw [if_pos c68] at h
            obtain ⟨k69, h⟩ := sh_chk h
            obtain ⟨μ70, eμ70⟩ : ∃ y : sh_Mem, y = (sh_setI μ65 262 i2.toNatClampNeg ((8 * i1) + i5)) := ⟨_, rfl⟩
            rw [sh_let_eq eμ70] at h
            have hG70 : sh_G μ70 := by rw [eμ70]; exact hG65
            obtain ⟨y73, μ71, hr72, h⟩ := sh_bind_e h
            have hG71 := grec hG70 hr72
            by_cases c74 : y73 = 0
            · rw [if_pos c74] at h
              exact ih_6 hG71 h
            · rw [if_neg c74] at h
              obtain ⟨e1, e2⟩ := sh_some2 h
              exact e2 ▸ hG71
          · rw [if_neg c68] at h
            exact ih_6 hG65 h
theorem tl_X7_goesOnBy {rec : Nat → Int32 → Int32 → Int32 → sh_Mem → Option (Int32 × sh_Mem)} (grec : ∀ ⦃k : Nat⦄ ⦃b1 b2 b3 : Int32⦄ ⦃μ μ' : sh_Mem⦄ ⦃v : Int32⦄, sh_G μ → rec k b1 b2 b3 μ = some (v, μ') → sh_G μ') {d : Nat} (hd : 5 ≤ d) (h_X7_goesOn : (∀ ⦃b1 b2 : Int32⦄ ⦃μ μ' : sh_Mem⦄ ⦃v : Int32⦄, sh_G μ → rec 0 b1 b2 0 μ = some (v, μ') → sh_C0 l B D ca d M_X7_goesOn [.ref 260, .int b1, .int b2] μ (fun v0 μ0 => v0 = some (.int v) ∧ μ0 = μ'))) (h_X7_goesOnBy : (∀ ⦃b1 b2 b3 : Int32⦄ ⦃μ μ' : sh_Mem⦄ ⦃v : Int32⦄, sh_G μ → rec 1 b1 b2 b3 μ = some (v, μ') → sh_C0 l B D ca d M_X7_goesOnBy [.ref 260, .int b1, .int b2, .int b3] μ (fun v0 μ0 => v0 = some (.int v) ∧ μ0 = μ'))) (fuel : Nat) : (∀ ⦃i1 : Int32⦄ ⦃i2 : Int32⦄ ⦃i3 : Int32⦄ ⦃i4 : Int32⦄ ⦃i5 : Int32⦄ ⦃μ μ' : sh_Mem⦄ ⦃v : Int32⦄, sh_G μ → F_X7_goesOnBy rec fuel 1 i1 i2 i3 i4 i5 μ = some (v, μ') → sh_V0 l B D ca (d + 1) M_X7_goesOnBy 6 [(0, .ref 260), (1, .int i1), (2, .int i2), (3, .int i3), (4, .int i4), (5, .int i5)] [] μ (fun v0 μ0 => v0 = some (.int v) ∧ μ0 = μ')) := by
  induction fuel with
  | zero => intro i1 i2 i3 i4 i5 μ μ' v hG h; cases h
  | succ fuel ih =>
    have ih_6 := ih
    intro i1 i2 i3 i4 i5 μ μ' v hG h
    replace h : ((if (sh_r μ 55 0 = some (sh_ref μ 55 0) ∧ ((sh_ref μ 55 0) = 8 ∨ (sh_ref μ 55 0) = 29)) then sh_let (sh_ref μ 55 0) (fun r39 => (if (sh_i μ r39 2) ≤ i5 then some (0, μ) else (if i4 = 0 then (if sh_in (i2 + 1) 4 then (if sh_in i2 4 then sh_bindv (f_X3_copyFrom (263 + 6 * ((i2 + 1)).toNatClampNeg) (263 + 6 * i2.toNatClampNeg) μ) (fun μ44 => (if sh_in (i2 + 1) 4 then sh_bind (f_X10_asked (263 + 6 * ((i2 + 1)).toNatClampNeg) i1 i5 μ44) (fun y50 μ48 => (if y50 = 2 then (if sh_in i2 3 then sh_let (sh_setI μ48 262 i2.toNatClampNeg ((8 * i1) + i5)) (fun μ53 => sh_bind (rec 0 (i2 + 1) i3 0 μ53) (fun y56 μ54 => (if y56 = 0 then F_X7_goesOnBy rec fuel 1 i1 i2 i3 1 (i5 + 1) μ54 else some (1, μ54)))) else none) else F_X7_goesOnBy rec fuel 1 i1 i2 i3 i4 (i5 + 1) μ48)) else none)) else none) else none) else (if (sh_i μ 260 6) = 0 then some (0, μ) else (if sh_in (i2 + 1) 4 then (if sh_in i2 4 then sh_bindv (f_X3_copyFrom (263 + 6 * ((i2 + 1)).toNatClampNeg) (263 + 6 * i2.toNatClampNeg) μ) (fun μ61 => (if sh_in (i2 + 1) 4 then sh_bind (f_X10_asked (263 + 6 * ((i2 + 1)).toNatClampNeg) i1 i5 μ61) (fun y67 μ65 => (if y67 = 2 then (if sh_in i2 3 then sh_let (sh_setI μ65 262 i2.toNatClampNeg ((8 * i1) + i5)) (fun μ70 => sh_bind (rec 0 (i2 + 1) i3 0 μ70) (fun y73 μ71 => (if y73 = 0 then F_X7_goesOnBy rec fuel 1 i1 i2 i3 1 (i5 + 1) μ71 else some (1, μ71)))) else none) else F_X7_goesOnBy rec fuel 1 i1 i2 i3 i4 (i5 + 1) μ65)) else none)) else none) else none))))) else none) : Option (Int32 × sh_Mem)) = some (v, μ') := h
    refine vv_iload 6 5 dX7_goesOnBy_6 rfl ?_
    refine vv_aload_n 8 0 dX7_goesOnBy_8 rfl rfl ?_
    refine vv_getR 9 dX7_goesOnBy_9 fl_7_21 rfl (g_l_260 hG) (g_r_260_0 hG) ?_
    obtain ⟨k38, h⟩ := sh_chk h
    refine vv_getR 12 dX7_goesOnBy_12 fl_7_40 rfl (g_l_55 hG) k38.1 ?_
    refine vv_topr (fun r39 er39 => ?_)
    rw [sh_let_eq er39] at h
    have k38r : sh_r μ 55 0 = some r39 ∧ (r39 = 8 ∨ r39 = 29) := by rw [er39]; exact k38
    refine vv_getI 15 dX7_goesOnBy_15 fl_7_83 rfl (gP_l hG k38r.2) ?_
    refine vv_icmp_ge 18 107 dX7_goesOnBy_18 (by decide) (fun c40 => ?_) (fun c40 => ?_)
    · rw [if_pos c40] at h
      refine vv_iconst 107 dX7_goesOnBy_107 ik_0 ?_
      obtain ⟨e1, e2⟩ := sh_some2 h
      refine vv_zret 108 dX7_goesOnBy_108 rfl rfl (Nat.le_refl _) (Nat.le_refl _) ⟨by rw [e1], e2⟩
    · rw [if_neg c40] at h
      refine vv_iload 21 4 dX7_goesOnBy_21 rfl ?_
      refine vv_if_eq 23 33 dX7_goesOnBy_23 (by decide) (fun c41 => ?_) (fun c41 => ?_)
      · rw [if_pos c41] at h
        refine vv_aload_n 33 0 dX7_goesOnBy_33 rfl rfl ?_
        refine vv_getR 34 dX7_goesOnBy_34 fl_7_11 rfl (g_l_260 hG) (g_r_260_1 hG) ?_
        refine vv_iload_n 37 2 dX7_goesOnBy_37 rfl rfl ?_
        refine vv_iconst 38 dX7_goesOnBy_38 ik_1 ?_
        refine vv_iadd 39 dX7_goesOnBy_39 ?_
        obtain ⟨k42, h⟩ := sh_chk h
        refine vv_aald 40 dX7_goesOnBy_40 (g_l_261 hG) k42 (gR_261 hG k42) ?_
        refine vv_aload_n 41 0 dX7_goesOnBy_41 rfl rfl ?_
        refine vv_getR 42 dX7_goesOnBy_42 fl_7_11 rfl (g_l_260 hG) (g_r_260_1 hG) ?_
        refine vv_iload_n 45 2 dX7_goesOnBy_45 rfl rfl ?_
        obtain ⟨k43, h⟩ := sh_chk h
        refine vv_aald 46 dX7_goesOnBy_46 (g_l_261 hG) k43 (gR_261 hG k43) ?_
        obtain ⟨μ44, hr45, h⟩ := sh_bindv_e h
        refine v1_callV [_] 47 dX7_goesOnBy_47 ck_X7_26 (gL_l hG (gRL_261 k42)) ⟨by decide, rfl⟩ (t_X3_copyFrom hG (gRL_261 k42) (gRL_261 k43) hr45) (by omega) ⟨Nat.le_of_ble_eq_true rfl, Nat.le_of_ble_eq_true rfl⟩ rfl (Nat.le_of_ble_eq_true rfl) ?_
        have hG44 := gp_X3_copyFrom hG (gRL_261 k42) (gRL_261 k43) hr45
        refine vv_aload_n 50 0 dX7_goesOnBy_50 rfl rfl ?_
        refine vv_getR 51 dX7_goesOnBy_51 fl_7_21 rfl (g_l_260 hG44) (g_r_260_0 hG44) ?_
        refine vv_aload_n 54 0 dX7_goesOnBy_54 rfl rfl ?_
        refine vv_getR 55 dX7_goesOnBy_55 fl_7_11 rfl (g_l_260 hG44) (g_r_260_1 hG44) ?_
        refine vv_iload_n 58 2 dX7_goesOnBy_58 rfl rfl ?_
        refine vv_iconst 59 dX7_goesOnBy_59 ik_1 ?_
        refine vv_iadd 60 dX7_goesOnBy_60 ?_
        obtain ⟨k47, h⟩ := sh_chk h
        refine vv_aald 61 dX7_goesOnBy_61 (g_l_261 hG44) k47 (gR_261 hG44 k47) ?_
        refine vv_iload_n 62 1 dX7_goesOnBy_62 rfl rfl ?_
        refine vv_iload 63 5 dX7_goesOnBy_63 rfl ?_
        obtain ⟨y50, μ48, hr49, h⟩ := sh_bind_e h
        refine v1_callV [_, _, _] 65 dX7_goesOnBy_65 ck_X7_86 (g_l_55 hG44) ⟨by decide, rfl⟩ (t_X10_asked hG44 (gRL_261 k47) hr49) (by omega) ⟨Nat.le_of_ble_eq_true rfl, Nat.le_of_ble_eq_true rfl⟩ rfl (Nat.le_of_ble_eq_true rfl) ?_
        have hG48 := gp_X10_asked hG44 (gRL_261 k47) hr49
        refine vv_iconst 68 dX7_goesOnBy_68 ik_2 ?_
        refine vv_icmp_ne 69 101 dX7_goesOnBy_69 (by decide) (fun c51 => ?_) (fun c51 => ?_)
        · rw [if_neg c51] at h
          refine vv_iincc (lv' := [(5, _), (0, _), (1, _), (2, _), (3, _), (4, _)]) 101 5 dX7_goesOnBy_101 rfl ik_1 (by decide) rfl ?_
          refine vv_goto 104 6 dX7_goesOnBy_104 (by decide) ?_
          refine vv_sub [(0, _), (1, _), (2, _), (3, _), (4, _), (5, _)] (sh_subm [1, 2, 3, 4, 5, 0] rfl) ?_
          exact ih_6 hG48 h
        · rw [if_pos c51] at h
          refine vv_iconst 72 dX7_goesOnBy_72 ik_1 ?_
          refine vv_istore (lv' := [(4, _), (0, _), (1, _), (2, _), (3, _), (5, _)]) 73 4 dX7_goesOnBy_73 (by decide) rfl ?_
          refine vv_aload_n 75 0 dX7_goesOnBy_75 rfl rfl ?_
          refine vv_getR 76 dX7_goesOnBy_76 fl_7_17 rfl (g_l_260 hG48) (g_r_260_2 hG48) ?_
          refine vv_iload_n 79 2 dX7_goesOnBy_79 rfl rfl ?_
          refine vv_bipush 80 dX7_goesOnBy_80 bk_8 ?_
          refine vv_iload_n 82 1 dX7_goesOnBy_82 rfl rfl ?_
          refine vv_imul 83 dX7_goesOnBy_83 ?_
          refine vv_iload 84 5 dX7_goesOnBy_84 rfl ?_
          refine vv_iadd 86 dX7_goesOnBy_86 ?_
          obtain ⟨k52, h⟩ := sh_chk h
          refine vn_iast 87 dX7_goesOnBy_87 (g_l_262 hG48) k52 (fun μ53 eμ53 => ?_)
          rw [sh_let_eq eμ53] at h
          have hG53 : sh_G μ53 := by rw [eμ53]; exact hG48
          refine vv_aload_n 88 0 dX7_goesOnBy_88 rfl rfl ?_
          refine vv_iload_n 89 2 dX7_goesOnBy_89 rfl rfl ?_
          refine vv_iconst 90 dX7_goesOnBy_90 ik_1 ?_
          refine vv_iadd 91 dX7_goesOnBy_91 ?_
          refine vv_iload_n 92 3 dX7_goesOnBy_92 rfl rfl ?_
          obtain ⟨y56, μ54, hr55, h⟩ := sh_bind_e h
          refine v1_callV [_, _] 93 dX7_goesOnBy_93 ck_X7_55 (g_l_260 hG53) ⟨by decide, rfl⟩ (h_X7_goesOn hG53 hr55) (Nat.le_refl _) ⟨Nat.le_of_ble_eq_true rfl, Nat.le_of_ble_eq_true rfl⟩ rfl (Nat.le_of_ble_eq_true rfl) ?_
          have hG54 := grec hG53 hr55
          refine vv_if_eq 96 101 dX7_goesOnBy_96 (by decide) (fun c57 => ?_) (fun c57 => ?_)
          · rw [if_pos c57] at h
            refine vv_iincc (lv' := [(5, _), (4, _), (0, _), (1, _), (2, _), (3, _)]) 101 5 dX7_goesOnBy_101 rfl ik_1 (by decide) rfl ?_
            refine vv_goto 104 6 dX7_goesOnBy_104 (by decide) ?_
            refine vv_sub [(0, _), (1, _), (2, _), (3, _), (4, _), (5, _)] (sh_subm [2, 3, 4, 5, 1, 0] rfl) ?_
            exact ih_6 hG54 h
          · rw [if_neg c57] at h
            refine vv_iconst 99 dX7_goesOnBy_99 ik_1 ?_
            obtain ⟨e1, e2⟩ := sh_some2 h
            refine vv_zret 100 dX7_goesOnBy_100 rfl rfl (Nat.le_refl _) (Nat.le_refl _) ⟨by rw [e1], e2⟩
      · rw [if_neg c41] at h
        refine vv_aload_n 26 0 dX7_goesOnBy_26 rfl rfl ?_
        refine vv_getI 27 dX7_goesOnBy_27 fl_7_52 rfl (g_l_260 hG) ?_
        refine vv_if_eq 30 107 dX7_goesOnBy_30 (by decide) (fun c58 => ?_) (fun c58 => ?_)
        · rw [if_pos c58] at h
          refine vv_iconst 107 dX7_goesOnBy_107 ik_0 ?_
          obtain ⟨e1, e2⟩ := sh_some2 h
          refine vv_zret 108 dX7_goesOnBy_108 rfl rfl (Nat.le_refl _) (Nat.le_refl _) ⟨by rw [e1], e2⟩
        · rw [if_neg c58] at h
          refine vv_aload_n 33 0 dX7_goesOnBy_33 rfl rfl ?_
          refine vv_getR 34 dX7_goesOnBy_34 fl_7_11 rfl (g_l_260 hG) (g_r_260_1 hG) ?_
          refine vv_iload_n 37 2 dX7_goesOnBy_37 rfl rfl ?_
          refine vv_iconst 38 dX7_goesOnBy_38 ik_1 ?_
          refine vv_iadd 39 dX7_goesOnBy_39 ?_
          obtain ⟨k59, h⟩ := sh_chk h
          refine vv_aald 40 dX7_goesOnBy_40 (g_l_261 hG) k59 (gR_261 hG k59) ?_
          refine vv_aload_n 41 0 dX7_goesOnBy_41 rfl rfl ?_
          refine vv_getR 42 dX7_goesOnBy_42 fl_7_11 rfl (g_l_260 hG) (g_r_260_1 hG) ?_
          refine vv_iload_n 45 2 dX7_goesOnBy_45 rfl rfl ?_
          obtain ⟨k60, h⟩ := sh_chk h
          refine vv_aald 46 dX7_goesOnBy_46 (g_l_261 hG) k60 (gR_261 hG k60) ?_
          obtain ⟨μ61, hr62, h⟩ := sh_bindv_e h
          refine v1_callV [_] 47 dX7_goesOnBy_47 ck_X7_26 (gL_l hG (gRL_261 k59)) ⟨by decide, rfl⟩ (t_X3_copyFrom hG (gRL_261 k59) (gRL_261 k60) hr62) (by omega) ⟨Nat.le_of_ble_eq_true rfl, Nat.le_of_ble_eq_true rfl⟩ rfl (Nat.le_of_ble_eq_true rfl) ?_
          have hG61 := gp_X3_copyFrom hG (gRL_261 k59) (gRL_261 k60) hr62
          refine vv_aload_n 50 0 dX7_goesOnBy_50 rfl rfl ?_
          refine vv_getR 51 dX7_goesOnBy_51 fl_7_21 rfl (g_l_260 hG61) (g_r_260_0 hG61) ?_
          refine vv_aload_n 54 0 dX7_goesOnBy_54 rfl rfl ?_
          refine vv_getR 55 dX7_goesOnBy_55 fl_7_11 rfl (g_l_260 hG61) (g_r_260_1 hG61) ?_
          refine vv_iload_n 58 2 dX7_goesOnBy_58 rfl rfl ?_
          refine vv_iconst 59 dX7_goesOnBy_59 ik_1 ?_
          refine vv_iadd 60 dX7_goesOnBy_60 ?_
          obtain ⟨k64, h⟩ := sh_chk h
          refine vv_aald 61 dX7_goesOnBy_61 (g_l_261 hG61) k64 (gR_261 hG61 k64) ?_
          refine vv_iload_n 62 1 dX7_goesOnBy_62 rfl rfl ?_
          refine vv_iload 63 5 dX7_goesOnBy_63 rfl ?_
          obtain ⟨y67, μ65, hr66, h⟩ := sh_bind_e h
          refine v1_callV [_, _, _] 65 dX7_goesOnBy_65 ck_X7_86 (g_l_55 hG61) ⟨by decide, rfl⟩ (t_X10_asked hG61 (gRL_261 k64) hr66) (by omega) ⟨Nat.le_of_ble_eq_true rfl, Nat.le_of_ble_eq_true rfl⟩ rfl (Nat.le_of_ble_eq_true rfl) ?_
          have hG65 := gp_X10_asked hG61 (gRL_261 k64) hr66
          refine vv_iconst 68 dX7_goesOnBy_68 ik_2 ?_
          refine vv_icmp_ne 69 101 dX7_goesOnBy_69 (by decide) (fun c68 => ?_) (fun c68 => ?_)
          · rw [if_neg c68] at h
            refine vv_iincc (lv' := [(5, _), (0, _), (1, _), (2, _), (3, _), (4, _)]) 101 5 dX7_goesOnBy_101 rfl ik_1 (by decide) rfl ?_
            refine vv_goto 104 6 dX7_goesOnBy_104 (by decide) ?_
            refine vv_sub [(0, _), (1, _), (2, _), (3, _), (4, _), (5, _)] (sh_subm [1, 2, 3, 4, 5, 0] rfl) ?_
            exact ih_6 hG65 h
          · rw [if_pos c68] at h
            refine vv_iconst 72 dX7_goesOnBy_72 ik_1 ?_
            refine vv_istore (lv' := [(4, _), (0, _), (1, _), (2, _), (3, _), (5, _)]) 73 4 dX7_goesOnBy_73 (by decide) rfl ?_
            refine vv_aload_n 75 0 dX7_goesOnBy_75 rfl rfl ?_
            refine vv_getR 76 dX7_goesOnBy_76 fl_7_17 rfl (g_l_260 hG65) (g_r_260_2 hG65) ?_
            refine vv_iload_n 79 2 dX7_goesOnBy_79 rfl rfl ?_
            refine vv_bipush 80 dX7_goesOnBy_80 bk_8 ?_
            refine vv_iload_n 82 1 dX7_goesOnBy_82 rfl rfl ?_
            refine vv_imul 83 dX7_goesOnBy_83 ?_
            refine vv_iload 84 5 dX7_goesOnBy_84 rfl ?_
            refine vv_iadd 86 dX7_goesOnBy_86 ?_
            obtain ⟨k69, h⟩ := sh_chk h
            refine vn_iast 87 dX7_goesOnBy_87 (g_l_262 hG65) k69 (fun μ70 eμ70 => ?_)
            rw [sh_let_eq eμ70] at h
            have hG70 : sh_G μ70 := by rw [eμ70]; exact hG65
            refine vv_aload_n 88 0 dX7_goesOnBy_88 rfl rfl ?_
            refine vv_iload_n 89 2 dX7_goesOnBy_89 rfl rfl ?_
            refine vv_iconst 90 dX7_goesOnBy_90 ik_1 ?_
            refine vv_iadd 91 dX7_goesOnBy_91 ?_
            refine vv_iload_n 92 3 dX7_goesOnBy_92 rfl rfl ?_
            obtain ⟨y73, μ71, hr72, h⟩ := sh_bind_e h
            refine v1_callV [_, _] 93 dX7_goesOnBy_93 ck_X7_55 (g_l_260 hG70) ⟨by decide, rfl⟩ (h_X7_goesOn hG70 hr72) (Nat.le_refl _) ⟨Nat.le_of_ble_eq_true rfl, Nat.le_of_ble_eq_true rfl⟩ rfl (Nat.le_of_ble_eq_true rfl) ?_
            have hG71 := grec hG70 hr72
            refine vv_if_eq 96 101 dX7_goesOnBy_96 (by decide) (fun c74 => ?_) (fun c74 => ?_)
            · rw [if_pos c74] at h
              refine vv_iincc (lv' := [(5, _), (4, _), (0, _), (1, _), (2, _), (3, _)]) 101 5 dX7_goesOnBy_101 rfl ik_1 (by decide) rfl ?_
              refine vv_goto 104 6 dX7_goesOnBy_104 (by decide) ?_
              refine vv_sub [(0, _), (1, _), (2, _), (3, _), (4, _), (5, _)] (sh_subm [2, 3, 4, 5, 1, 0] rfl) ?_
              exact ih_6 hG71 h
            · rw [if_neg c74] at h
              refine vv_iconst 99 dX7_goesOnBy_99 ik_1 ?_
              obtain ⟨e1, e2⟩ := sh_some2 h
              refine vv_zret 100 dX7_goesOnBy_100 rfl rfl (Nat.le_refl _) (Nat.le_refl _) ⟨by rw [e1], e2⟩
theorem gp_X7_goesOnBy {rec : Nat → Int32 → Int32 → Int32 → sh_Mem → Option (Int32 × sh_Mem)} {a1 : Int32} {a2 : Int32} {a3 : Int32} {μ μ' : sh_Mem} {v : Int32}  (grec : ∀ ⦃k : Nat⦄ ⦃b1 b2 b3 : Int32⦄ ⦃μ μ' : sh_Mem⦄ ⦃v : Int32⦄, sh_G μ → rec k b1 b2 b3 μ = some (v, μ') → sh_G μ')(hG : sh_G μ) (h : f_X7_goesOnBy rec a1 a2 a3 μ = some (v, μ')) : sh_G μ' := by
  have ih_6 := (gpl_X7_goesOnBy grec sh_fuel)
  unfold f_X7_goesOnBy at h
  exact ih_6 hG h
theorem t_X7_goesOnBy {rec : Nat → Int32 → Int32 → Int32 → sh_Mem → Option (Int32 × sh_Mem)} {a1 : Int32} {a2 : Int32} {a3 : Int32} {μ μ' : sh_Mem} {v : Int32}  (grec : ∀ ⦃k : Nat⦄ ⦃b1 b2 b3 : Int32⦄ ⦃μ μ' : sh_Mem⦄ ⦃v : Int32⦄, sh_G μ → rec k b1 b2 b3 μ = some (v, μ') → sh_G μ') {d : Nat} (hd : 5 ≤ d) (h_X7_goesOn : (∀ ⦃b1 b2 : Int32⦄ ⦃μ μ' : sh_Mem⦄ ⦃v : Int32⦄, sh_G μ → rec 0 b1 b2 0 μ = some (v, μ') → sh_C0 l B D ca d M_X7_goesOn [.ref 260, .int b1, .int b2] μ (fun v0 μ0 => v0 = some (.int v) ∧ μ0 = μ'))) (h_X7_goesOnBy : (∀ ⦃b1 b2 b3 : Int32⦄ ⦃μ μ' : sh_Mem⦄ ⦃v : Int32⦄, sh_G μ → rec 1 b1 b2 b3 μ = some (v, μ') → sh_C0 l B D ca d M_X7_goesOnBy [.ref 260, .int b1, .int b2, .int b3] μ (fun v0 μ0 => v0 = some (.int v) ∧ μ0 = μ')))(hG : sh_G μ) (h : f_X7_goesOnBy rec a1 a2 a3 μ = some (v, μ')) : sh_C0 l B D ca (d + 1) M_X7_goesOnBy [.ref 260, .int a1, .int a2, .int a3] μ (fun v0 μ0 => v0 = some (.int v) ∧ μ0 = μ') := by
  have ih_6 := (tl_X7_goesOnBy (l := l) (B := B) (D := D) (ca := ca) grec hd h_X7_goesOn h_X7_goesOnBy sh_fuel)
  unfold f_X7_goesOnBy at h
  refine vv_iconst 0 dX7_goesOnBy_0 ik_0 ?_
  refine vv_istore (lv' := [(4, _), (0, _), (1, _), (2, _), (3, _)]) 1 4 dX7_goesOnBy_1 (by decide) rfl ?_
  refine vv_iconst 3 dX7_goesOnBy_3 ik_0 ?_
  refine vv_istore (lv' := [(5, _), (4, _), (0, _), (1, _), (2, _), (3, _)]) 4 5 dX7_goesOnBy_4 (by decide) rfl ?_
  refine vv_sub [(0, _), (1, _), (2, _), (3, _), (4, _), (5, _)] (sh_subm [2, 3, 4, 5, 1, 0] rfl) ?_
  exact ih_6 hG h
noncomputable def G_X7 : Nat → Nat → Int32 → Int32 → Int32 → sh_Mem → Option (Int32 × sh_Mem)
  | 0, _, _, _, _, _ => none
  | dd + 1, k, b1, b2, b3, μ => match k with
    | 0 => f_X7_goesOn (G_X7 dd) b1 b2 μ
    | 1 => f_X7_goesOnBy (G_X7 dd) b1 b2 b3 μ
    | _ => none
theorem Gg_X7 (dd : Nat) : ∀ ⦃k : Nat⦄ ⦃b1 b2 b3 : Int32⦄ ⦃μ μ' : sh_Mem⦄ ⦃v : Int32⦄, sh_G μ → G_X7 dd k b1 b2 b3 μ = some (v, μ') → sh_G μ' := by
  induction dd with
  | zero => intro k b1 b2 b3 μ μ' v hG h; cases h
  | succ dd ih =>
    intro k b1 b2 b3 μ μ' v hG h
    match k, h with
    | 0, h => exact gp_X7_goesOn ih hG h
    | 1, h => exact gp_X7_goesOnBy ih hG h
    | n + 2, h => cases h
theorem Gt_X7 (dd : Nat) : (∀ ⦃b1 b2 : Int32⦄ ⦃μ μ' : sh_Mem⦄ ⦃v : Int32⦄, sh_G μ → G_X7 dd 0 b1 b2 0 μ = some (v, μ') → sh_C0 l B D ca (5 + dd) M_X7_goesOn [.ref 260, .int b1, .int b2] μ (fun v0 μ0 => v0 = some (.int v) ∧ μ0 = μ')) ∧ (∀ ⦃b1 b2 b3 : Int32⦄ ⦃μ μ' : sh_Mem⦄ ⦃v : Int32⦄, sh_G μ → G_X7 dd 1 b1 b2 b3 μ = some (v, μ') → sh_C0 l B D ca (5 + dd) M_X7_goesOnBy [.ref 260, .int b1, .int b2, .int b3] μ (fun v0 μ0 => v0 = some (.int v) ∧ μ0 = μ')) := by
  induction dd with
  | zero => exact ⟨(by intro b1 b2 μ μ' v hG h; cases h), (by intro b1 b2 b3 μ μ' v hG h; cases h)⟩
  | succ dd ih =>
    obtain ⟨h_X7_goesOn, h_X7_goesOnBy⟩ := ih
    have hd : 5 ≤ 5 + dd := Nat.le_add_right _ _
    exact ⟨(by intro b1 b2 μ μ' v hG h; exact t_X7_goesOn (Gg_X7 dd) hd h_X7_goesOn h_X7_goesOnBy hG h), (by intro b1 b2 b3 μ μ' v hG h; exact t_X7_goesOnBy (Gg_X7 dd) hd h_X7_goesOn h_X7_goesOnBy hG h)⟩
noncomputable def f_X7_goesOn_top (b1 : Int32) (b2 : Int32) (μ : sh_Mem) : Option (Int32 × sh_Mem) := G_X7 16 0 b1 b2 0 μ
theorem gp_X7_goesOn_top {b1 : Int32} {b2 : Int32} {μ μ' : sh_Mem} {v : Int32} (hG : sh_G μ) (h : f_X7_goesOn_top b1 b2 μ = some (v, μ')) : sh_G μ' := Gg_X7 16 hG h
theorem t_X7_goesOn_top {b1 : Int32} {b2 : Int32} {μ μ' : sh_Mem} {v : Int32} (hG : sh_G μ) (h : f_X7_goesOn_top b1 b2 μ = some (v, μ')) : sh_C0 l B D ca 21 M_X7_goesOn [.ref 260, .int b1, .int b2] μ (fun v0 μ0 => v0 = some (.int v) ∧ μ0 = μ') := (Gt_X7 16).1 hG h
noncomputable def f_X7_goesOnBy_top (b1 : Int32) (b2 : Int32) (b3 : Int32) (μ : sh_Mem) : Option (Int32 × sh_Mem) := G_X7 16 1 b1 b2 b3 μ
theorem gp_X7_goesOnBy_top {b1 : Int32} {b2 : Int32} {b3 : Int32} {μ μ' : sh_Mem} {v : Int32} (hG : sh_G μ) (h : f_X7_goesOnBy_top b1 b2 b3 μ = some (v, μ')) : sh_G μ' := Gg_X7 16 hG h
theorem t_X7_goesOnBy_top {b1 : Int32} {b2 : Int32} {b3 : Int32} {μ μ' : sh_Mem} {v : Int32} (hG : sh_G μ) (h : f_X7_goesOnBy_top b1 b2 b3 μ = some (v, μ')) : sh_C0 l B D ca 21 M_X7_goesOnBy [.ref 260, .int b1, .int b2, .int b3] μ (fun v0 μ0 => v0 = some (.int v) ∧ μ0 = μ') := (Gt_X7 16).2 hG h
noncomputable def F_X0_behind : Nat → Nat → Nat → Int32 → Int32 → Int32 → sh_Mem → Option sh_Mem
  | 0, _, _, _, _, _, _ => none
  | fuel + 1, lbl, r1, i2, i3, i4, μ => match lbl with
    | 1 => (if i2 ≤ i4 then some μ else sh_bindv (f_X10_passDay 209 i3 μ) (fun μ9 => F_X0_behind fuel 1 r1 i2 i3 (i4 + 1) μ9))
    | _ => none
noncomputable def f_X0_behind (q1 : Nat) (a2 : Int32) (a3 : Int32) (μ : sh_Mem) : Option sh_Mem := sh_bindv (f_X3_copyFrom 209 q1 μ) (fun μ12 => F_X0_behind sh_fuel 1 q1 a2 a3 0 μ12)
theorem gpl_X0_behind (fuel : Nat) : (∀ ⦃r1 : Nat⦄ ⦃i2 : Int32⦄ ⦃i3 : Int32⦄ ⦃i4 : Int32⦄ ⦃μ μ' : sh_Mem⦄, sh_G μ → sh_isL r1 → F_X0_behind fuel 1 r1 i2 i3 i4 μ = some μ' → sh_G μ') := by
  induction fuel with
  | zero => intro r1 i2 i3 i4 μ μ' hG hr1 h; cases h
  | succ fuel ih =>
    have ih_11 := ih
    intro r1 i2 i3 i4 μ μ' hG hr1 h
    replace h : ((if i2 ≤ i4 then some μ else sh_bindv (f_X10_passDay 209 i3 μ) (fun μ9 => F_X0_behind fuel 1 r1 i2 i3 (i4 + 1) μ9)) : Option sh_Mem) = some μ' := h
    by_cases c8 : i2 ≤ i4
    · rw [if_pos c8] at h
      have e2 := Option.some.inj h
      exact e2 ▸ hG
    · rw [if_neg c8] at h
      obtain ⟨μ9, hr10, h⟩ := sh_bindv_e h
      have hG9 := gp_X10_passDay hG sh_isL_209 hr10
      exact ih_11 hG9 hr1 h
theorem tl_X0_behind (fuel : Nat) : (∀ ⦃r1 : Nat⦄ ⦃i2 : Int32⦄ ⦃i3 : Int32⦄ ⦃i4 : Int32⦄ ⦃μ μ' : sh_Mem⦄, sh_G μ → sh_isL r1 → F_X0_behind fuel 1 r1 i2 i3 i4 μ = some μ' → sh_V0 l B D ca 7 M_X0_behind 11 [(0, .ref 208), (1, .ref r1), (2, .int i2), (3, .int i3), (4, .int i4)] [] μ (fun v0 μ0 => v0 = some (.ref 209) ∧ μ0 = μ')) := by
  induction fuel with
  | zero => intro r1 i2 i3 i4 μ μ' hG hr1 h; cases h
  | succ fuel ih =>
    have ih_11 := ih
    intro r1 i2 i3 i4 μ μ' hG hr1 h
    replace h : ((if i2 ≤ i4 then some μ else sh_bindv (f_X10_passDay 209 i3 μ) (fun μ9 => F_X0_behind fuel 1 r1 i2 i3 (i4 + 1) μ9)) : Option sh_Mem) = some μ' := h
    refine vv_iload 11 4 dX0_behind_11 rfl ?_
    refine vv_iload_n 13 2 dX0_behind_13 rfl rfl ?_
    refine vv_icmp_ge 14 35 dX0_behind_14 (by decide) (fun c8 => ?_) (fun c8 => ?_)
    · rw [if_pos c8] at h
      refine vv_aload_n 35 0 dX0_behind_35 rfl rfl ?_
      refine vv_getR 36 dX0_behind_36 fl_0_12 rfl (g_l_208 hG) (g_r_208_1 hG) ?_
      have e2 := Option.some.inj h
      refine vv_aret 39 dX0_behind_39 rfl (Nat.le_refl _) (Nat.le_refl _) ⟨rfl, e2⟩
    · rw [if_neg c8] at h
      refine vv_aload_n 17 0 dX0_behind_17 rfl rfl ?_
      refine vv_getR 18 dX0_behind_18 fl_0_29 rfl (g_l_208 hG) (g_r_208_0 hG) ?_
      refine vv_aload_n 21 0 dX0_behind_21 rfl rfl ?_
      refine vv_getR 22 dX0_behind_22 fl_0_12 rfl (g_l_208 hG) (g_r_208_1 hG) ?_
      refine vv_iload_n 25 3 dX0_behind_25 rfl rfl ?_
      obtain ⟨μ9, hr10, h⟩ := sh_bindv_e h
      refine v1_callV [_, _] 26 dX0_behind_26 ck_X0_37 (g_l_55 hG) ⟨by decide, rfl⟩ (t_X10_passDay hG sh_isL_209 hr10) (Nat.le_of_ble_eq_true rfl) ⟨Nat.le_of_ble_eq_true rfl, Nat.le_of_ble_eq_true rfl⟩ rfl (Nat.le_of_ble_eq_true rfl) ?_
      have hG9 := gp_X10_passDay hG sh_isL_209 hr10
      refine vv_iincc (lv' := [(4, _), (0, _), (1, _), (2, _), (3, _)]) 29 4 dX0_behind_29 rfl ik_1 (by decide) rfl ?_
      refine vv_goto 32 11 dX0_behind_32 (by decide) ?_
      refine vv_sub [(0, _), (1, _), (2, _), (3, _), (4, _)] (sh_subm [1, 2, 3, 4, 0] rfl) ?_
      exact ih_11 hG9 hr1 h
theorem gp_X0_behind {q1 : Nat} {a2 : Int32} {a3 : Int32} {μ μ' : sh_Mem} (hG : sh_G μ) (hq1 : sh_isL q1) (h : f_X0_behind q1 a2 a3 μ = some μ') : sh_G μ' := by
  have ih_11 := (gpl_X0_behind sh_fuel)
  unfold f_X0_behind at h
  obtain ⟨μ12, hr13, h⟩ := sh_bindv_e h
  have hG12 := gp_X3_copyFrom hG sh_isL_209 hq1 hr13
  exact ih_11 hG12 hq1 h
theorem t_X0_behind {q1 : Nat} {a2 : Int32} {a3 : Int32} {μ μ' : sh_Mem} (hG : sh_G μ) (hq1 : sh_isL q1) (h : f_X0_behind q1 a2 a3 μ = some μ') : sh_C0 l B D ca 7 M_X0_behind [.ref 208, .ref q1, .int a2, .int a3] μ (fun v0 μ0 => v0 = some (.ref 209) ∧ μ0 = μ') := by
  have ih_11 := (tl_X0_behind (l := l) (B := B) (D := D) (ca := ca) sh_fuel)
  unfold f_X0_behind at h
  refine vv_aload_n 0 0 dX0_behind_0 rfl rfl ?_
  refine vv_getR 1 dX0_behind_1 fl_0_12 rfl (g_l_208 hG) (g_r_208_1 hG) ?_
  refine vv_aload_n 4 1 dX0_behind_4 rfl rfl ?_
  obtain ⟨μ12, hr13, h⟩ := sh_bindv_e h
  refine v1_callV [_] 5 dX0_behind_5 ck_X0_33 (g_l_209 hG) ⟨by decide, rfl⟩ (t_X3_copyFrom hG sh_isL_209 hq1 hr13) (Nat.le_of_ble_eq_true rfl) ⟨Nat.le_of_ble_eq_true rfl, Nat.le_of_ble_eq_true rfl⟩ rfl (Nat.le_of_ble_eq_true rfl) ?_
  have hG12 := gp_X3_copyFrom hG sh_isL_209 hq1 hr13
  refine vv_iconst 8 dX0_behind_8 ik_0 ?_
  refine vv_istore (lv' := [(4, _), (0, _), (1, _), (2, _), (3, _)]) 9 4 dX0_behind_9 (by decide) rfl ?_
  refine vv_sub [(0, _), (1, _), (2, _), (3, _), (4, _)] (sh_subm [1, 2, 3, 4, 0] rfl) ?_
  exact ih_11 hG12 hq1 h
noncomputable def F_X0_daysToRise : Nat → Nat → Nat → Int32 → Int32 → Int32 → sh_Mem → Option (Int32 × sh_Mem)
  | 0, _, _, _, _, _, _ => none
  | fuel + 1, lbl, r1, i2, i3, i4, μ => match lbl with
    | 1 => (if 60 < i4 then some ((-1), μ) else (if 999 < (sh_i μ 209 0) then some ((-1), μ) else (if sh_in i2 49 then (if (sh_i μ 210 i2.toNatClampNeg) < i3 then sh_bindv (f_X10_passDay 209 0 μ) (fun μ15 => F_X0_daysToRise fuel 1 r1 i2 i3 (i4 + 1) μ15) else some (i4, μ)) else none)))
    | _ => none
noncomputable def f_X0_daysToRise (q1 : Nat) (a2 : Int32) (a3 : Int32) (μ : sh_Mem) : Option (Int32 × sh_Mem) := sh_bindv (f_X3_copyFrom 209 q1 μ) (fun μ18 => F_X0_daysToRise sh_fuel 1 q1 a2 a3 0 μ18)
theorem gpl_X0_daysToRise (fuel : Nat) : (∀ ⦃r1 : Nat⦄ ⦃i2 : Int32⦄ ⦃i3 : Int32⦄ ⦃i4 : Int32⦄ ⦃μ μ' : sh_Mem⦄ ⦃v : Int32⦄, sh_G μ → sh_isL r1 → F_X0_daysToRise fuel 1 r1 i2 i3 i4 μ = some (v, μ') → sh_G μ') := by
  induction fuel with
  | zero => intro r1 i2 i3 i4 μ μ' v hG hr1 h; cases h
  | succ fuel ih =>
    have ih_11 := ih
    intro r1 i2 i3 i4 μ μ' v hG hr1 h
    replace h : ((if 60 < i4 then some ((-1), μ) else (if 999 < (sh_i μ 209 0) then some ((-1), μ) else (if sh_in i2 49 then (if (sh_i μ 210 i2.toNatClampNeg) < i3 then sh_bindv (f_X10_passDay 209 0 μ) (fun μ15 => F_X0_daysToRise fuel 1 r1 i2 i3 (i4 + 1) μ15) else some (i4, μ)) else none))) : Option (Int32 × sh_Mem)) = some (v, μ') := h
    by_cases c11 : 60 < i4
    · rw [if_pos c11] at h
      obtain ⟨e1, e2⟩ := sh_some2 h
      exact e2 ▸ hG
    · rw [if_neg c11] at h
      by_cases c12 : 999 < (sh_i μ 209 0)
      · rw [if_pos c12] at h
        obtain ⟨e1, e2⟩ := sh_some2 h
        exact e2 ▸ hG
      · rw [if_neg c12] at h
        obtain ⟨k13, h⟩ := sh_chk h
        by_cases c14 : (sh_i μ 210 i2.toNatClampNeg) < i3
        · rw [if_pos c14] at h
          obtain ⟨μ15, hr16, h⟩ := sh_bindv_e h
          have hG15 := gp_X10_passDay hG sh_isL_209 hr16
          exact ih_11 hG15 hr1 h
        · rw [if_neg c14] at h
          obtain ⟨e1, e2⟩ := sh_some2 h
          exact e2 ▸ hG
theorem tl_X0_daysToRise (fuel : Nat) : (∀ ⦃r1 : Nat⦄ ⦃i2 : Int32⦄ ⦃i3 : Int32⦄ ⦃i4 : Int32⦄ ⦃μ μ' : sh_Mem⦄ ⦃v : Int32⦄, sh_G μ → sh_isL r1 → F_X0_daysToRise fuel 1 r1 i2 i3 i4 μ = some (v, μ') → sh_V0 l B D ca 7 M_X0_daysToRise 11 [(0, .ref 208), (1, .ref r1), (2, .int i2), (3, .int i3), (4, .int i4)] [] μ (fun v0 μ0 => v0 = some (.int v) ∧ μ0 = μ')) := by
  induction fuel with
  | zero => intro r1 i2 i3 i4 μ μ' v hG hr1 h; cases h
  | succ fuel ih =>
    have ih_11 := ih
    intro r1 i2 i3 i4 μ μ' v hG hr1 h
    replace h : ((if 60 < i4 then some ((-1), μ) else (if 999 < (sh_i μ 209 0) then some ((-1), μ) else (if sh_in i2 49 then (if (sh_i μ 210 i2.toNatClampNeg) < i3 then sh_bindv (f_X10_passDay 209 0 μ) (fun μ15 => F_X0_daysToRise fuel 1 r1 i2 i3 (i4 + 1) μ15) else some (i4, μ)) else none))) : Option (Int32 × sh_Mem)) = some (v, μ') := h
    refine vv_iload 11 4 dX0_daysToRise_11 rfl ?_
    refine vv_bipush 13 dX0_daysToRise_13 bk_60 ?_
    refine vv_icmp_gt 15 65 dX0_daysToRise_15 (by decide) (fun c11 => ?_) (fun c11 => ?_)
    · rw [if_pos c11] at h
      refine vv_iconst 65 dX0_daysToRise_65 ik_m1 ?_
      obtain ⟨e1, e2⟩ := sh_some2 h
      refine vv_iret 66 dX0_daysToRise_66 rfl (Nat.le_refl _) (Nat.le_refl _) ⟨by rw [e1], e2⟩
    · rw [if_neg c11] at h
      refine vv_aload_n 18 0 dX0_daysToRise_18 rfl rfl ?_
      refine vv_getR 19 dX0_daysToRise_19 fl_0_12 rfl (g_l_208 hG) (g_r_208_1 hG) ?_
      refine vv_getI 22 dX0_daysToRise_22 fl_0_43 rfl (g_l_209 hG) ?_
      refine vv_sipush 25 dX0_daysToRise_25 sk_999 ?_
      refine vv_icmp_gt 28 65 dX0_daysToRise_28 (by decide) (fun c12 => ?_) (fun c12 => ?_)
      · rw [if_pos c12] at h
        refine vv_iconst 65 dX0_daysToRise_65 ik_m1 ?_
        obtain ⟨e1, e2⟩ := sh_some2 h
        refine vv_iret 66 dX0_daysToRise_66 rfl (Nat.le_refl _) (Nat.le_refl _) ⟨by rw [e1], e2⟩
      · rw [if_neg c12] at h
        refine vv_aload_n 31 0 dX0_daysToRise_31 rfl rfl ?_
        refine vv_getR 32 dX0_daysToRise_32 fl_0_12 rfl (g_l_208 hG) (g_r_208_1 hG) ?_
        refine vv_getR 35 dX0_daysToRise_35 fl_0_47 rfl (g_l_209 hG) (g_r_209_1 hG) ?_
        refine vv_iload_n 38 2 dX0_daysToRise_38 rfl rfl ?_
        obtain ⟨k13, h⟩ := sh_chk h
        refine vv_iald 39 dX0_daysToRise_39 (g_l_210 hG) k13 ?_
        refine vv_iload_n 40 3 dX0_daysToRise_40 rfl rfl ?_
        refine vv_icmp_lt 41 47 dX0_daysToRise_41 (by decide) (fun c14 => ?_) (fun c14 => ?_)
        · rw [if_pos c14] at h
          refine vv_aload_n 47 0 dX0_daysToRise_47 rfl rfl ?_
          refine vv_getR 48 dX0_daysToRise_48 fl_0_29 rfl (g_l_208 hG) (g_r_208_0 hG) ?_
          refine vv_aload_n 51 0 dX0_daysToRise_51 rfl rfl ?_
          refine vv_getR 52 dX0_daysToRise_52 fl_0_12 rfl (g_l_208 hG) (g_r_208_1 hG) ?_
          refine vv_iconst 55 dX0_daysToRise_55 ik_0 ?_
          obtain ⟨μ15, hr16, h⟩ := sh_bindv_e h
          refine v1_callV [_, _] 56 dX0_daysToRise_56 ck_X0_37 (g_l_55 hG) ⟨by decide, rfl⟩ (t_X10_passDay hG sh_isL_209 hr16) (Nat.le_of_ble_eq_true rfl) ⟨Nat.le_of_ble_eq_true rfl, Nat.le_of_ble_eq_true rfl⟩ rfl (Nat.le_of_ble_eq_true rfl) ?_
          have hG15 := gp_X10_passDay hG sh_isL_209 hr16
          refine vv_iincc (lv' := [(4, _), (0, _), (1, _), (2, _), (3, _)]) 59 4 dX0_daysToRise_59 rfl ik_1 (by decide) rfl ?_
          refine vv_goto 62 11 dX0_daysToRise_62 (by decide) ?_
          refine vv_sub [(0, _), (1, _), (2, _), (3, _), (4, _)] (sh_subm [1, 2, 3, 4, 0] rfl) ?_
          exact ih_11 hG15 hr1 h
        · rw [if_neg c14] at h
          refine vv_iload 44 4 dX0_daysToRise_44 rfl ?_
          obtain ⟨e1, e2⟩ := sh_some2 h
          refine vv_iret 46 dX0_daysToRise_46 rfl (Nat.le_refl _) (Nat.le_refl _) ⟨by rw [e1], e2⟩
theorem gp_X0_daysToRise {q1 : Nat} {a2 : Int32} {a3 : Int32} {μ μ' : sh_Mem} {v : Int32} (hG : sh_G μ) (hq1 : sh_isL q1) (h : f_X0_daysToRise q1 a2 a3 μ = some (v, μ')) : sh_G μ' := by
  have ih_11 := (gpl_X0_daysToRise sh_fuel)
  unfold f_X0_daysToRise at h
  obtain ⟨μ18, hr19, h⟩ := sh_bindv_e h
  have hG18 := gp_X3_copyFrom hG sh_isL_209 hq1 hr19
  exact ih_11 hG18 hq1 h
theorem t_X0_daysToRise {q1 : Nat} {a2 : Int32} {a3 : Int32} {μ μ' : sh_Mem} {v : Int32} (hG : sh_G μ) (hq1 : sh_isL q1) (h : f_X0_daysToRise q1 a2 a3 μ = some (v, μ')) : sh_C0 l B D ca 7 M_X0_daysToRise [.ref 208, .ref q1, .int a2, .int a3] μ (fun v0 μ0 => v0 = some (.int v) ∧ μ0 = μ') := by
  have ih_11 := (tl_X0_daysToRise (l := l) (B := B) (D := D) (ca := ca) sh_fuel)
  unfold f_X0_daysToRise at h
  refine vv_aload_n 0 0 dX0_daysToRise_0 rfl rfl ?_
  refine vv_getR 1 dX0_daysToRise_1 fl_0_12 rfl (g_l_208 hG) (g_r_208_1 hG) ?_
  refine vv_aload_n 4 1 dX0_daysToRise_4 rfl rfl ?_
  obtain ⟨μ18, hr19, h⟩ := sh_bindv_e h
  refine v1_callV [_] 5 dX0_daysToRise_5 ck_X0_33 (g_l_209 hG) ⟨by decide, rfl⟩ (t_X3_copyFrom hG sh_isL_209 hq1 hr19) (Nat.le_of_ble_eq_true rfl) ⟨Nat.le_of_ble_eq_true rfl, Nat.le_of_ble_eq_true rfl⟩ rfl (Nat.le_of_ble_eq_true rfl) ?_
  have hG18 := gp_X3_copyFrom hG sh_isL_209 hq1 hr19
  refine vv_iconst 8 dX0_daysToRise_8 ik_0 ?_
  refine vv_istore (lv' := [(4, _), (0, _), (1, _), (2, _), (3, _)]) 9 4 dX0_daysToRise_9 (by decide) rfl ?_
  refine vv_sub [(0, _), (1, _), (2, _), (3, _), (4, _)] (sh_subm [1, 2, 3, 4, 0] rfl) ?_
  exact ih_11 hG18 hq1 h
noncomputable def F_X0_askEach : Nat → Nat → Nat → Int32 → Int32 → sh_Mem → Option sh_Mem
  | 0, _, _, _, _, _ => none
  | fuel + 1, lbl, r1, i2, i3, μ => match lbl with
    | 1 => (if (sh_r μ 55 0 = some (sh_ref μ 55 0) ∧ ((sh_ref μ 55 0) = 8 ∨ (sh_ref μ 55 0) = 29)) then sh_let (sh_ref μ 55 0) (fun r13 => (if (sh_i μ r13 3) ≤ i3 then some μ else (if sh_in i3 7 then sh_bindv (f_X3_copyFrom (218 + 6 * i3.toNatClampNeg) r1 μ) (fun μ16 => (if sh_in i3 7 then sh_bind (f_X10_asked (218 + 6 * i3.toNatClampNeg) i3 i2 μ16) (fun y22 μ20 => F_X0_askEach fuel 1 r1 i2 (i3 + 1) μ20) else none)) else none))) else none)
    | _ => none
noncomputable def f_X0_askEach (q1 : Nat) (a2 : Int32) (μ : sh_Mem) : Option sh_Mem := F_X0_askEach sh_fuel 1 q1 a2 0 μ
theorem gpl_X0_askEach (fuel : Nat) : (∀ ⦃r1 : Nat⦄ ⦃i2 : Int32⦄ ⦃i3 : Int32⦄ ⦃μ μ' : sh_Mem⦄, sh_G μ → sh_isL r1 → F_X0_askEach fuel 1 r1 i2 i3 μ = some μ' → sh_G μ') := by
  induction fuel with
  | zero => intro r1 i2 i3 μ μ' hG hr1 h; cases h
  | succ fuel ih =>
    have ih_2 := ih
    intro r1 i2 i3 μ μ' hG hr1 h
    replace h : ((if (sh_r μ 55 0 = some (sh_ref μ 55 0) ∧ ((sh_ref μ 55 0) = 8 ∨ (sh_ref μ 55 0) = 29)) then sh_let (sh_ref μ 55 0) (fun r13 => (if (sh_i μ r13 3) ≤ i3 then some μ else (if sh_in i3 7 then sh_bindv (f_X3_copyFrom (218 + 6 * i3.toNatClampNeg) r1 μ) (fun μ16 => (if sh_in i3 7 then sh_bind (f_X10_asked (218 + 6 * i3.toNatClampNeg) i3 i2 μ16) (fun y22 μ20 => F_X0_askEach fuel 1 r1 i2 (i3 + 1) μ20) else none)) else none))) else none) : Option sh_Mem) = some μ' := h
    obtain ⟨k12, h⟩ := sh_chk h
    obtain ⟨r13, er13⟩ : ∃ y : Nat, y = (sh_ref μ 55 0) := ⟨_, rfl⟩
    rw [sh_let_eq er13] at h
    have k12r : sh_r μ 55 0 = some r13 ∧ (r13 = 8 ∨ r13 = 29) := by rw [er13]; exact k12
    by_cases c14 : (sh_i μ r13 3) ≤ i3
    · rw [if_pos c14] at h
      have e2 := Option.some.inj h
      exact e2 ▸ hG
    · rw [if_neg c14] at h
      obtain ⟨k15, h⟩ := sh_chk h
      obtain ⟨μ16, hr17, h⟩ := sh_bindv_e h
      have hG16 := gp_X3_copyFrom hG (gRL_215 k15) hr1 hr17
      obtain ⟨k19, h⟩ := sh_chk h
      obtain ⟨y22, μ20, hr21, h⟩ := sh_bind_e h
      have hG20 := gp_X10_asked hG16 (gRL_215 k19) hr21
      exact ih_2 hG20 hr1 h
theorem tl_X0_askEach (fuel : Nat) : (∀ ⦃r1 : Nat⦄ ⦃i2 : Int32⦄ ⦃i3 : Int32⦄ ⦃μ μ' : sh_Mem⦄, sh_G μ → sh_isL r1 → F_X0_askEach fuel 1 r1 i2 i3 μ = some μ' → sh_V0 l B D ca 6 M_X0_askEach 2 [(0, .ref 208), (1, .ref r1), (2, .int i2), (3, .int i3)] [] μ (fun v0 μ0 => v0 = none ∧ μ0 = μ')) := by
  induction fuel with
  | zero => intro r1 i2 i3 μ μ' hG hr1 h; cases h
  | succ fuel ih =>
    have ih_2 := ih
    intro r1 i2 i3 μ μ' hG hr1 h
    replace h : ((if (sh_r μ 55 0 = some (sh_ref μ 55 0) ∧ ((sh_ref μ 55 0) = 8 ∨ (sh_ref μ 55 0) = 29)) then sh_let (sh_ref μ 55 0) (fun r13 => (if (sh_i μ r13 3) ≤ i3 then some μ else (if sh_in i3 7 then sh_bindv (f_X3_copyFrom (218 + 6 * i3.toNatClampNeg) r1 μ) (fun μ16 => (if sh_in i3 7 then sh_bind (f_X10_asked (218 + 6 * i3.toNatClampNeg) i3 i2 μ16) (fun y22 μ20 => F_X0_askEach fuel 1 r1 i2 (i3 + 1) μ20) else none)) else none))) else none) : Option sh_Mem) = some μ' := h
    refine vv_iload_n 2 3 dX0_askEach_2 rfl rfl ?_
    refine vv_aload_n 3 0 dX0_askEach_3 rfl rfl ?_
    refine vv_getR 4 dX0_askEach_4 fl_0_29 rfl (g_l_208 hG) (g_r_208_0 hG) ?_
    obtain ⟨k12, h⟩ := sh_chk h
    refine vv_getR 7 dX0_askEach_7 fl_0_50 rfl (g_l_55 hG) k12.1 ?_
    refine vv_topr (fun r13 er13 => ?_)
    rw [sh_let_eq er13] at h
    have k12r : sh_r μ 55 0 = some r13 ∧ (r13 = 8 ∨ r13 = 29) := by rw [er13]; exact k12
    refine vv_getI 10 dX0_askEach_10 fl_0_54 rfl (gP_l hG k12r.2) ?_
    refine vv_icmp_ge 13 48 dX0_askEach_13 (by decide) (fun c14 => ?_) (fun c14 => ?_)
    · rw [if_pos c14] at h
      have e2 := Option.some.inj h
      refine vv_vret 48 dX0_askEach_48 rfl (Nat.le_refl _) (Nat.le_refl _) ⟨rfl, e2⟩
    · rw [if_neg c14] at h
      refine vv_aload_n 16 0 dX0_askEach_16 rfl rfl ?_
      refine vv_getR 17 dX0_askEach_17 fl_0_18 rfl (g_l_208 hG) (g_r_208_2 hG) ?_
      refine vv_iload_n 20 3 dX0_askEach_20 rfl rfl ?_
      obtain ⟨k15, h⟩ := sh_chk h
      refine vv_aald 21 dX0_askEach_21 (g_l_215 hG) k15 (gR_215 hG k15) ?_
      refine vv_aload_n 22 1 dX0_askEach_22 rfl rfl ?_
      obtain ⟨μ16, hr17, h⟩ := sh_bindv_e h
      refine v1_callV [_] 23 dX0_askEach_23 ck_X0_33 (gL_l hG (gRL_215 k15)) ⟨by decide, rfl⟩ (t_X3_copyFrom hG (gRL_215 k15) hr1 hr17) (Nat.le_of_ble_eq_true rfl) ⟨Nat.le_of_ble_eq_true rfl, Nat.le_of_ble_eq_true rfl⟩ rfl (Nat.le_of_ble_eq_true rfl) ?_
      have hG16 := gp_X3_copyFrom hG (gRL_215 k15) hr1 hr17
      refine vv_aload_n 26 0 dX0_askEach_26 rfl rfl ?_
      refine vv_getR 27 dX0_askEach_27 fl_0_29 rfl (g_l_208 hG16) (g_r_208_0 hG16) ?_
      refine vv_aload_n 30 0 dX0_askEach_30 rfl rfl ?_
      refine vv_getR 31 dX0_askEach_31 fl_0_18 rfl (g_l_208 hG16) (g_r_208_2 hG16) ?_
      refine vv_iload_n 34 3 dX0_askEach_34 rfl rfl ?_
      obtain ⟨k19, h⟩ := sh_chk h
      refine vv_aald 35 dX0_askEach_35 (g_l_215 hG16) k19 (gR_215 hG16 k19) ?_
      refine vv_iload_n 36 3 dX0_askEach_36 rfl rfl ?_
      refine vv_iload_n 37 2 dX0_askEach_37 rfl rfl ?_
      obtain ⟨y22, μ20, hr21, h⟩ := sh_bind_e h
      refine v1_callV [_, _, _] 38 dX0_askEach_38 ck_X0_69 (g_l_55 hG16) ⟨by decide, rfl⟩ (t_X10_asked hG16 (gRL_215 k19) hr21) (Nat.le_of_ble_eq_true rfl) ⟨Nat.le_of_ble_eq_true rfl, Nat.le_of_ble_eq_true rfl⟩ rfl (Nat.le_of_ble_eq_true rfl) ?_
      have hG20 := gp_X10_asked hG16 (gRL_215 k19) hr21
      refine vv_pop 41 dX0_askEach_41 ?_
      refine vv_iincc (lv' := [(3, _), (0, _), (1, _), (2, _)]) 42 3 dX0_askEach_42 rfl ik_1 (by decide) rfl ?_
      refine vv_goto 45 2 dX0_askEach_45 (by decide) ?_
      refine vv_sub [(0, _), (1, _), (2, _), (3, _)] (sh_subm [1, 2, 3, 0] rfl) ?_
      exact ih_2 hG20 hr1 h
theorem gp_X0_askEach {q1 : Nat} {a2 : Int32} {μ μ' : sh_Mem} (hG : sh_G μ) (hq1 : sh_isL q1) (h : f_X0_askEach q1 a2 μ = some μ') : sh_G μ' := by
  have ih_2 := (gpl_X0_askEach sh_fuel)
  unfold f_X0_askEach at h
  exact ih_2 hG hq1 h
theorem t_X0_askEach {q1 : Nat} {a2 : Int32} {μ μ' : sh_Mem} (hG : sh_G μ) (hq1 : sh_isL q1) (h : f_X0_askEach q1 a2 μ = some μ') : sh_C0 l B D ca 6 M_X0_askEach [.ref 208, .ref q1, .int a2] μ (fun v0 μ0 => v0 = none ∧ μ0 = μ') := by
  have ih_2 := (tl_X0_askEach (l := l) (B := B) (D := D) (ca := ca) sh_fuel)
  unfold f_X0_askEach at h
  refine vv_iconst 0 dX0_askEach_0 ik_0 ?_
  refine vv_istore_n (lv' := [(3, _), (0, _), (1, _), (2, _)]) 1 3 dX0_askEach_1 rfl (by decide) rfl ?_
  refine vv_sub [(0, _), (1, _), (2, _), (3, _)] (sh_subm [1, 2, 3, 0] rfl) ?_
  exact ih_2 hG hq1 h
noncomputable def F_X0_whoFits : Nat → Nat → Nat → Int32 → Int32 → Int32 → Int32 → sh_Mem → Option (Int32 × sh_Mem)
  | 0, _, _, _, _, _, _, _ => none
  | fuel + 1, lbl, r1, i2, i3, i4, i5, μ => match lbl with
    | 1 => (if 30 < i4 then some (i3, μ) else F_X0_whoFits fuel 2 r1 i2 i3 i4 0 μ)
    | 2 => (if (sh_r μ 55 0 = some (sh_ref μ 55 0) ∧ ((sh_ref μ 55 0) = 8 ∨ (sh_ref μ 55 0) = 29)) then sh_let (sh_ref μ 55 0) (fun r46 => (if (sh_i μ r46 3) ≤ i5 then F_X0_whoFits fuel 1 r1 i2 i3 (i4 + 1) 0 μ else (if sh_in i5 7 then sh_bind (f_X0_isAsSeen (218 + 6 * i5.toNatClampNeg) i4 μ) (fun y51 μ49 => (if y51 = 0 then sh_let ((i3 &&& (((1 : Int32) <<< (i5 &&& 31)) ^^^ (-1))) : Int32) (fun x57 => (if sh_in i5 7 then sh_bindv (f_X10_passDay (218 + 6 * i5.toNatClampNeg) 0 μ49) (fun μ59 => F_X0_whoFits fuel 2 r1 i2 x57 i4 (i5 + 1) μ59) else none)) else (if sh_in i5 7 then sh_bindv (f_X10_passDay (218 + 6 * i5.toNatClampNeg) 0 μ49) (fun μ54 => F_X0_whoFits fuel 2 r1 i2 i3 i4 (i5 + 1) μ54) else none))) else none))) else none)
    | _ => none
noncomputable def f_X0_whoFits (q1 : Nat) (a2 : Int32) (μ : sh_Mem) : Option (Int32 × sh_Mem) := (if (sh_r μ 55 0 = some (sh_ref μ 55 0) ∧ ((sh_ref μ 55 0) = 8 ∨ (sh_ref μ 55 0) = 29)) then sh_let (sh_ref μ 55 0) (fun r63 => sh_let ((((1 : Int32) <<< ((sh_i μ r63 3) &&& 31)) - 1) : Int32) (fun x64 => (if (sh_i μ 208 4) = 0 then some (x64, μ) else sh_bindv (f_X0_askEach q1 a2 μ) (fun μ66 => F_X0_whoFits sh_fuel 1 q1 a2 x64 0 0 μ66)))) else none)
theorem gpl_X0_whoFits (fuel : Nat) : (∀ ⦃r1 : Nat⦄ ⦃i2 : Int32⦄ ⦃i3 : Int32⦄ ⦃i4 : Int32⦄ ⦃i5 : Int32⦄ ⦃μ μ' : sh_Mem⦄ ⦃v : Int32⦄, sh_G μ → sh_isL r1 → F_X0_whoFits fuel 1 r1 i2 i3 i4 i5 μ = some (v, μ') → sh_G μ') ∧ (∀ ⦃r1 : Nat⦄ ⦃i2 : Int32⦄ ⦃i3 : Int32⦄ ⦃i4 : Int32⦄ ⦃i5 : Int32⦄ ⦃μ μ' : sh_Mem⦄ ⦃v : Int32⦄, sh_G μ → sh_isL r1 → F_X0_whoFits fuel 2 r1 i2 i3 i4 i5 μ = some (v, μ') → sh_G μ') := by
  induction fuel with
  | zero => exact ⟨(by intro r1 i2 i3 i4 i5 μ μ' v hG hr1 h; cases h), (by intro r1 i2 i3 i4 i5 μ μ' v hG hr1 h; cases h)⟩
  | succ fuel ih =>
    obtain ⟨ih_33, ih_43⟩ := ih
    refine ⟨?_, ?_⟩
    · intro r1 i2 i3 i4 i5 μ μ' v hG hr1 h
      replace h : ((if 30 < i4 then some (i3, μ) else F_X0_whoFits fuel 2 r1 i2 i3 i4 0 μ) : Option (Int32 × sh_Mem)) = some (v, μ') := h
      by_cases c44 : 30 < i4
      · rw [if_pos c44] at h
        obtain ⟨e1, e2⟩ := sh_some2 h
        exact e2 ▸ hG
      · rw [if_neg c44] at h
        exact ih_43 hG hr1 h
    · intro r1 i2 i3 i4 i5 μ μ' v hG hr1 h
      replace h : ((if (sh_r μ 55 0 = some (sh_ref μ 55 0) ∧ ((sh_ref μ 55 0) = 8 ∨ (sh_ref μ 55 0) = 29)) then sh_let (sh_ref μ 55 0) (fun r46 => (if (sh_i μ r46 3) ≤ i5 then F_X0_whoFits fuel 1 r1 i2 i3 (i4 + 1) 0 μ else (if sh_in i5 7 then sh_bind (f_X0_isAsSeen (218 + 6 * i5.toNatClampNeg) i4 μ) (fun y51 μ49 => (if y51 = 0 then sh_let ((i3 &&& (((1 : Int32) <<< (i5 &&& 31)) ^^^ (-1))) : Int32) (fun x57 => (if sh_in i5 7 then sh_bindv (f_X10_passDay (218 + 6 * i5.toNatClampNeg) 0 μ49) (fun μ59 => F_X0_whoFits fuel 2 r1 i2 x57 i4 (i5 + 1) μ59) else none)) else (if sh_in i5 7 then sh_bindv (f_X10_passDay (218 + 6 * i5.toNatClampNeg) 0 μ49) (fun μ54 => F_X0_whoFits fuel 2 r1 i2 i3 i4 (i5 + 1) μ54) else none))) else none))) else none) : Option (Int32 × sh_Mem)) = some (v, μ') := h
      obtain ⟨k45, h⟩ := sh_chk h
      obtain ⟨r46, er46⟩ : ∃ y : Nat, y = (sh_ref μ 55 0) := ⟨_, rfl⟩
      rw [sh_let_eq er46] at h
      have k45r : sh_r μ 55 0 = some r46 ∧ (r46 = 8 ∨ r46 = 29) := by rw [er46]; exact k45
      by_cases c47 : (sh_i μ r46 3) ≤ i5
      · rw [if_pos c47] at h
        exact ih_33 hG hr1 h
      · rw [if_neg c47] at h
        obtain ⟨k48, h⟩ := sh_chk h
        obtain ⟨y51, μ49, hr50, h⟩ := sh_bind_e h
        have hG49 := gp_X0_isAsSeen hG (gRL_215 k48) hr50
        by_cases c52 : y51 = 0
        · rw [if_pos c52] at h
          obtain ⟨x57, ex57⟩ : ∃ y : Int32, y = (i3 &&& (((1 : Int32) <<< (i5 &&& 31)) ^^^ (-1))) := ⟨_, rfl⟩
          rw [sh_let_eq ex57] at h
          obtain ⟨k58, h⟩ := sh_chk h
          obtain ⟨μ59, hr60, h⟩ := sh_bindv_e h
          have hG59 := gp_X10_passDay hG49 (gRL_215 k58) hr60
          exact ih_43 hG59 hr1 h
        · rw [if_neg c52] at h
          obtain ⟨k53, h⟩ := sh_chk h
          obtain ⟨μ54, hr55, h⟩ := sh_bindv_e h
          have hG54 := gp_X10_passDay hG49 (gRL_215 k53) hr55
          exact ih_43 hG54 hr1 h
theorem tl_X0_whoFits (fuel : Nat) : (∀ ⦃r1 : Nat⦄ ⦃i2 : Int32⦄ ⦃i3 : Int32⦄ ⦃i4 : Int32⦄ ⦃i5 : Int32⦄ ⦃μ μ' : sh_Mem⦄ ⦃v : Int32⦄, sh_G μ → sh_isL r1 → F_X0_whoFits fuel 1 r1 i2 i3 i4 i5 μ = some (v, μ') → sh_V0 l B D ca 7 M_X0_whoFits 33 [(0, .ref 208), (1, .ref r1), (2, .int i2), (3, .int i3), (4, .int i4)] [] μ (fun v0 μ0 => v0 = some (.int v) ∧ μ0 = μ')) ∧ (∀ ⦃r1 : Nat⦄ ⦃i2 : Int32⦄ ⦃i3 : Int32⦄ ⦃i4 : Int32⦄ ⦃i5 : Int32⦄ ⦃μ μ' : sh_Mem⦄ ⦃v : Int32⦄, sh_G μ → sh_isL r1 → F_X0_whoFits fuel 2 r1 i2 i3 i4 i5 μ = some (v, μ') → sh_V0 l B D ca 7 M_X0_whoFits 43 [(0, .ref 208), (1, .ref r1), (2, .int i2), (3, .int i3), (4, .int i4), (5, .int i5)] [] μ (fun v0 μ0 => v0 = some (.int v) ∧ μ0 = μ')) := by
  induction fuel with
  | zero => exact ⟨(by intro r1 i2 i3 i4 i5 μ μ' v hG hr1 h; cases h), (by intro r1 i2 i3 i4 i5 μ μ' v hG hr1 h; cases h)⟩
  | succ fuel ih =>
    obtain ⟨ih_33, ih_43⟩ := ih
    refine ⟨?_, ?_⟩
    · intro r1 i2 i3 i4 i5 μ μ' v hG hr1 h
      replace h : ((if 30 < i4 then some (i3, μ) else F_X0_whoFits fuel 2 r1 i2 i3 i4 0 μ) : Option (Int32 × sh_Mem)) = some (v, μ') := h
      refine vv_iload 33 4 dX0_whoFits_33 rfl ?_
      refine vv_bipush 35 dX0_whoFits_35 bk_30 ?_
      refine vv_icmp_gt 37 110 dX0_whoFits_37 (by decide) (fun c44 => ?_) (fun c44 => ?_)
      · rw [if_pos c44] at h
        refine vv_iload_n 110 3 dX0_whoFits_110 rfl rfl ?_
        obtain ⟨e1, e2⟩ := sh_some2 h
        refine vv_iret 111 dX0_whoFits_111 rfl (Nat.le_refl _) (Nat.le_refl _) ⟨by rw [e1], e2⟩
      · rw [if_neg c44] at h
        refine vv_iconst 40 dX0_whoFits_40 ik_0 ?_
        refine vv_istore (lv' := [(5, _), (0, _), (1, _), (2, _), (3, _), (4, _)]) 41 5 dX0_whoFits_41 (by decide) rfl ?_
        refine vv_sub [(0, _), (1, _), (2, _), (3, _), (4, _), (5, _)] (sh_subm [1, 2, 3, 4, 5, 0] rfl) ?_
        exact ih_43 hG hr1 h
    · intro r1 i2 i3 i4 i5 μ μ' v hG hr1 h
      replace h : ((if (sh_r μ 55 0 = some (sh_ref μ 55 0) ∧ ((sh_ref μ 55 0) = 8 ∨ (sh_ref μ 55 0) = 29)) then sh_let (sh_ref μ 55 0) (fun r46 => (if (sh_i μ r46 3) ≤ i5 then F_X0_whoFits fuel 1 r1 i2 i3 (i4 + 1) 0 μ else (if sh_in i5 7 then sh_bind (f_X0_isAsSeen (218 + 6 * i5.toNatClampNeg) i4 μ) (fun y51 μ49 => (if y51 = 0 then sh_let ((i3 &&& (((1 : Int32) <<< (i5 &&& 31)) ^^^ (-1))) : Int32) (fun x57 => (if sh_in i5 7 then sh_bindv (f_X10_passDay (218 + 6 * i5.toNatClampNeg) 0 μ49) (fun μ59 => F_X0_whoFits fuel 2 r1 i2 x57 i4 (i5 + 1) μ59) else none)) else (if sh_in i5 7 then sh_bindv (f_X10_passDay (218 + 6 * i5.toNatClampNeg) 0 μ49) (fun μ54 => F_X0_whoFits fuel 2 r1 i2 i3 i4 (i5 + 1) μ54) else none))) else none))) else none) : Option (Int32 × sh_Mem)) = some (v, μ') := h
      refine vv_iload 43 5 dX0_whoFits_43 rfl ?_
      refine vv_aload_n 45 0 dX0_whoFits_45 rfl rfl ?_
      refine vv_getR 46 dX0_whoFits_46 fl_0_29 rfl (g_l_208 hG) (g_r_208_0 hG) ?_
      obtain ⟨k45, h⟩ := sh_chk h
      refine vv_getR 49 dX0_whoFits_49 fl_0_50 rfl (g_l_55 hG) k45.1 ?_
      refine vv_topr (fun r46 er46 => ?_)
      rw [sh_let_eq er46] at h
      have k45r : sh_r μ 55 0 = some r46 ∧ (r46 = 8 ∨ r46 = 29) := by rw [er46]; exact k45
      refine vv_getI 52 dX0_whoFits_52 fl_0_54 rfl (gP_l hG k45r.2) ?_
      refine vv_icmp_ge 55 104 dX0_whoFits_55 (by decide) (fun c47 => ?_) (fun c47 => ?_)
      · rw [if_pos c47] at h
        refine vv_iincc (lv' := [(4, _), (0, _), (1, _), (2, _), (3, _), (5, _)]) 104 4 dX0_whoFits_104 rfl ik_1 (by decide) rfl ?_
        refine vv_goto 107 33 dX0_whoFits_107 (by decide) ?_
        refine vv_sub [(0, _), (1, _), (2, _), (3, _), (4, _)] (sh_subm [1, 2, 3, 4, 0] rfl) ?_
        exact ih_33 hG hr1 h
      · rw [if_neg c47] at h
        refine vv_aload_n 58 0 dX0_whoFits_58 rfl rfl ?_
        refine vv_aload_n 59 0 dX0_whoFits_59 rfl rfl ?_
        refine vv_getR 60 dX0_whoFits_60 fl_0_18 rfl (g_l_208 hG) (g_r_208_2 hG) ?_
        refine vv_iload 63 5 dX0_whoFits_63 rfl ?_
        obtain ⟨k48, h⟩ := sh_chk h
        refine vv_aald 65 dX0_whoFits_65 (g_l_215 hG) k48 (gR_215 hG k48) ?_
        refine vv_iload 66 4 dX0_whoFits_66 rfl ?_
        obtain ⟨y51, μ49, hr50, h⟩ := sh_bind_e h
        refine v1_callV [_, _] 68 dX0_whoFits_68 ck_X0_79 (g_l_208 hG) ⟨by decide, rfl⟩ (t_X0_isAsSeen hG (gRL_215 k48) hr50) (Nat.le_of_ble_eq_true rfl) ⟨Nat.le_of_ble_eq_true rfl, Nat.le_of_ble_eq_true rfl⟩ rfl (Nat.le_of_ble_eq_true rfl) ?_
        have hG49 := gp_X0_isAsSeen hG (gRL_215 k48) hr50
        refine vv_if_ne 71 83 dX0_whoFits_71 (by decide) (fun c52 => ?_) (fun c52 => ?_)
        · rw [if_neg c52] at h
          refine vv_aload_n 83 0 dX0_whoFits_83 rfl rfl ?_
          refine vv_getR 84 dX0_whoFits_84 fl_0_29 rfl (g_l_208 hG49) (g_r_208_0 hG49) ?_
          refine vv_aload_n 87 0 dX0_whoFits_87 rfl rfl ?_
          refine vv_getR 88 dX0_whoFits_88 fl_0_18 rfl (g_l_208 hG49) (g_r_208_2 hG49) ?_
          refine vv_iload 91 5 dX0_whoFits_91 rfl ?_
          obtain ⟨k53, h⟩ := sh_chk h
          refine vv_aald 93 dX0_whoFits_93 (g_l_215 hG49) k53 (gR_215 hG49 k53) ?_
          refine vv_iconst 94 dX0_whoFits_94 ik_0 ?_
          obtain ⟨μ54, hr55, h⟩ := sh_bindv_e h
          refine v1_callV [_, _] 95 dX0_whoFits_95 ck_X0_37 (g_l_55 hG49) ⟨by decide, rfl⟩ (t_X10_passDay hG49 (gRL_215 k53) hr55) (Nat.le_of_ble_eq_true rfl) ⟨Nat.le_of_ble_eq_true rfl, Nat.le_of_ble_eq_true rfl⟩ rfl (Nat.le_of_ble_eq_true rfl) ?_
          have hG54 := gp_X10_passDay hG49 (gRL_215 k53) hr55
          refine vv_iincc (lv' := [(5, _), (0, _), (1, _), (2, _), (3, _), (4, _)]) 98 5 dX0_whoFits_98 rfl ik_1 (by decide) rfl ?_
          refine vv_goto 101 43 dX0_whoFits_101 (by decide) ?_
          refine vv_sub [(0, _), (1, _), (2, _), (3, _), (4, _), (5, _)] (sh_subm [1, 2, 3, 4, 5, 0] rfl) ?_
          exact ih_43 hG54 hr1 h
        · rw [if_pos c52] at h
          refine vv_iload_n 74 3 dX0_whoFits_74 rfl rfl ?_
          refine vv_iconst 75 dX0_whoFits_75 ik_1 ?_
          refine vv_iload 76 5 dX0_whoFits_76 rfl ?_
          refine vv_ishl 78 dX0_whoFits_78 ?_
          refine vv_iconst 79 dX0_whoFits_79 ik_m1 ?_
          refine vv_ixor 80 dX0_whoFits_80 ?_
          refine vv_iand 81 dX0_whoFits_81 ?_
          refine vv_topi (fun x57 ex57 => ?_)
          rw [sh_let_eq ex57] at h
          refine vv_istore_n (lv' := [(3, _), (0, _), (1, _), (2, _), (4, _), (5, _)]) 82 3 dX0_whoFits_82 rfl (by decide) rfl ?_
          refine vv_aload_n 83 0 dX0_whoFits_83 rfl rfl ?_
          refine vv_getR 84 dX0_whoFits_84 fl_0_29 rfl (g_l_208 hG49) (g_r_208_0 hG49) ?_
          refine vv_aload_n 87 0 dX0_whoFits_87 rfl rfl ?_
          refine vv_getR 88 dX0_whoFits_88 fl_0_18 rfl (g_l_208 hG49) (g_r_208_2 hG49) ?_
          refine vv_iload 91 5 dX0_whoFits_91 rfl ?_
          obtain ⟨k58, h⟩ := sh_chk h
          refine vv_aald 93 dX0_whoFits_93 (g_l_215 hG49) k58 (gR_215 hG49 k58) ?_
          refine vv_iconst 94 dX0_whoFits_94 ik_0 ?_
          obtain ⟨μ59, hr60, h⟩ := sh_bindv_e h
          refine v1_callV [_, _] 95 dX0_whoFits_95 ck_X0_37 (g_l_55 hG49) ⟨by decide, rfl⟩ (t_X10_passDay hG49 (gRL_215 k58) hr60) (Nat.le_of_ble_eq_true rfl) ⟨Nat.le_of_ble_eq_true rfl, Nat.le_of_ble_eq_true rfl⟩ rfl (Nat.le_of_ble_eq_true rfl) ?_
          have hG59 := gp_X10_passDay hG49 (gRL_215 k58) hr60
          refine vv_iincc (lv' := [(5, _), (3, _), (0, _), (1, _), (2, _), (4, _)]) 98 5 dX0_whoFits_98 rfl ik_1 (by decide) rfl ?_
          refine vv_goto 101 43 dX0_whoFits_101 (by decide) ?_
          refine vv_sub [(0, _), (1, _), (2, _), (3, _), (4, _), (5, _)] (sh_subm [2, 3, 4, 1, 5, 0] rfl) ?_
          exact ih_43 hG59 hr1 h
theorem gp_X0_whoFits {q1 : Nat} {a2 : Int32} {μ μ' : sh_Mem} {v : Int32} (hG : sh_G μ) (hq1 : sh_isL q1) (h : f_X0_whoFits q1 a2 μ = some (v, μ')) : sh_G μ' := by
  have ih_33 := (gpl_X0_whoFits sh_fuel).1
  have ih_43 := (gpl_X0_whoFits sh_fuel).2
  unfold f_X0_whoFits at h
  obtain ⟨k62, h⟩ := sh_chk h
  obtain ⟨r63, er63⟩ : ∃ y : Nat, y = (sh_ref μ 55 0) := ⟨_, rfl⟩
  rw [sh_let_eq er63] at h
  have k62r : sh_r μ 55 0 = some r63 ∧ (r63 = 8 ∨ r63 = 29) := by rw [er63]; exact k62
  obtain ⟨x64, ex64⟩ : ∃ y : Int32, y = (((1 : Int32) <<< ((sh_i μ r63 3) &&& 31)) - 1) := ⟨_, rfl⟩
  rw [sh_let_eq ex64] at h
  by_cases c65 : (sh_i μ 208 4) = 0
  · rw [if_pos c65] at h
    obtain ⟨e1, e2⟩ := sh_some2 h
    exact e2 ▸ hG
  · rw [if_neg c65] at h
    obtain ⟨μ66, hr67, h⟩ := sh_bindv_e h
    have hG66 := gp_X0_askEach hG hq1 hr67
    exact ih_33 hG66 hq1 h
theorem t_X0_whoFits {q1 : Nat} {a2 : Int32} {μ μ' : sh_Mem} {v : Int32} (hG : sh_G μ) (hq1 : sh_isL q1) (h : f_X0_whoFits q1 a2 μ = some (v, μ')) : sh_C0 l B D ca 7 M_X0_whoFits [.ref 208, .ref q1, .int a2] μ (fun v0 μ0 => v0 = some (.int v) ∧ μ0 = μ') := by
  have ih_33 := (tl_X0_whoFits (l := l) (B := B) (D := D) (ca := ca) sh_fuel).1
  have ih_43 := (tl_X0_whoFits (l := l) (B := B) (D := D) (ca := ca) sh_fuel).2
  unfold f_X0_whoFits at h
  refine vv_iconst 0 dX0_whoFits_0 ik_1 ?_
  refine vv_aload_n 1 0 dX0_whoFits_1 rfl rfl ?_
  refine vv_getR 2 dX0_whoFits_2 fl_0_29 rfl (g_l_208 hG) (g_r_208_0 hG) ?_
  obtain ⟨k62, h⟩ := sh_chk h
  refine vv_getR 5 dX0_whoFits_5 fl_0_50 rfl (g_l_55 hG) k62.1 ?_
  refine vv_topr (fun r63 er63 => ?_)
  rw [sh_let_eq er63] at h
  have k62r : sh_r μ 55 0 = some r63 ∧ (r63 = 8 ∨ r63 = 29) := by rw [er63]; exact k62
  refine vv_getI 8 dX0_whoFits_8 fl_0_54 rfl (gP_l hG k62r.2) ?_
  refine vv_ishl 11 dX0_whoFits_11 ?_
  refine vv_iconst 12 dX0_whoFits_12 ik_1 ?_
  refine vv_isub 13 dX0_whoFits_13 ?_
  refine vv_topi (fun x64 ex64 => ?_)
  rw [sh_let_eq ex64] at h
  refine vv_istore_n (lv' := [(3, _), (0, _), (1, _), (2, _)]) 14 3 dX0_whoFits_14 rfl (by decide) rfl ?_
  refine vv_aload_n 15 0 dX0_whoFits_15 rfl rfl ?_
  refine vv_getI 16 dX0_whoFits_16 fl_0_73 rfl (g_l_208 hG) ?_
  refine vv_if_ne 19 24 dX0_whoFits_19 (by decide) (fun c65 => ?_) (fun c65 => ?_)
  · rw [if_neg c65] at h
    refine vv_aload_n 24 0 dX0_whoFits_24 rfl rfl ?_
    refine vv_aload_n 25 1 dX0_whoFits_25 rfl rfl ?_
    refine vv_iload_n 26 2 dX0_whoFits_26 rfl rfl ?_
    obtain ⟨μ66, hr67, h⟩ := sh_bindv_e h
    refine v1_callV [_, _] 27 dX0_whoFits_27 ck_X0_76 (g_l_208 hG) ⟨by decide, rfl⟩ (t_X0_askEach hG hq1 hr67) (Nat.le_of_ble_eq_true rfl) ⟨Nat.le_of_ble_eq_true rfl, Nat.le_of_ble_eq_true rfl⟩ rfl (Nat.le_of_ble_eq_true rfl) ?_
    have hG66 := gp_X0_askEach hG hq1 hr67
    refine vv_iconst 30 dX0_whoFits_30 ik_0 ?_
    refine vv_istore (lv' := [(4, _), (3, _), (0, _), (1, _), (2, _)]) 31 4 dX0_whoFits_31 (by decide) rfl ?_
    refine vv_sub [(0, _), (1, _), (2, _), (3, _), (4, _)] (sh_subm [2, 3, 4, 1, 0] rfl) ?_
    exact ih_33 hG66 hq1 h
  · rw [if_pos c65] at h
    refine vv_iload_n 22 3 dX0_whoFits_22 rfl rfl ?_
    obtain ⟨e1, e2⟩ := sh_some2 h
    refine vv_iret 23 dX0_whoFits_23 rfl (Nat.le_refl _) (Nat.le_refl _) ⟨by rw [e1], e2⟩
noncomputable def F_X0_findTelling : Nat → Nat → Nat → Int32 → Int32 → Int32 → Int32 → sh_Mem → Option sh_Mem
  | 0, _, _, _, _, _, _, _ => none
  | fuel + 1, lbl, r1, i2, i3, i4, i5, μ => match lbl with
    | 1 => (if 30 < i4 then some μ else (if 999 < ((sh_i μ r1 0) + i4) then some μ else (if (sh_i μ 208 8) ≤ 1 then some μ else F_X0_findTelling fuel 2 r1 i2 i3 i4 0 μ)))
    | 2 => (if (sh_r μ 55 0 = some (sh_ref μ 55 0) ∧ ((sh_ref μ 55 0) = 8 ∨ (sh_ref μ 55 0) = 29)) then sh_let (sh_ref μ 55 0) (fun r51 => (if (f_X5_cells μ r51) ≤ i5 then F_X0_findTelling fuel 3 r1 i2 i3 i4 0 μ else sh_bind (f_X0_mostLeft i3 i5 μ) (fun y55 μ53 => (if (sh_i μ53 208 8) ≤ y55 then F_X0_findTelling fuel 2 r1 i2 i3 i4 (i5 + 1) μ53 else sh_let (sh_setI μ53 208 6 i4) (fun μ57 => sh_let (sh_setI μ57 208 7 i5) (fun μ58 => sh_let (sh_setI μ58 208 8 y55) (fun μ59 => F_X0_findTelling fuel 2 r1 i2 i3 i4 (i5 + 1) μ59))))))) else none)
    | 3 => (if (sh_r μ 55 0 = some (sh_ref μ 55 0) ∧ ((sh_ref μ 55 0) = 8 ∨ (sh_ref μ 55 0) = 29)) then sh_let (sh_ref μ 55 0) (fun r61 => (if (sh_i μ r61 3) ≤ i5 then F_X0_findTelling fuel 1 r1 i2 i3 (i4 + 1) 0 μ else (if sh_in i5 7 then sh_bindv (f_X10_passDay (218 + 6 * i5.toNatClampNeg) 0 μ) (fun μ64 => F_X0_findTelling fuel 3 r1 i2 i3 i4 (i5 + 1) μ64) else none))) else none)
    | _ => none
noncomputable def f_X0_findTelling (q1 : Nat) (a2 : Int32) (a3 : Int32) (μ : sh_Mem) : Option sh_Mem := sh_let (sh_setI μ 208 6 0) (fun μ67 => sh_let (sh_setI μ67 208 7 0) (fun μ68 => sh_let (sh_setI μ68 208 8 8) (fun μ69 => sh_bindv (f_X0_askEach q1 a2 μ69) (fun μ70 => F_X0_findTelling sh_fuel 1 q1 a2 a3 0 0 μ70))))
theorem gpl_X0_findTelling (fuel : Nat) : (∀ ⦃r1 : Nat⦄ ⦃i2 : Int32⦄ ⦃i3 : Int32⦄ ⦃i4 : Int32⦄ ⦃i5 : Int32⦄ ⦃μ μ' : sh_Mem⦄, sh_G μ → sh_isL r1 → F_X0_findTelling fuel 1 r1 i2 i3 i4 i5 μ = some μ' → sh_G μ') ∧ (∀ ⦃r1 : Nat⦄ ⦃i2 : Int32⦄ ⦃i3 : Int32⦄ ⦃i4 : Int32⦄ ⦃i5 : Int32⦄ ⦃μ μ' : sh_Mem⦄, sh_G μ → sh_isL r1 → F_X0_findTelling fuel 2 r1 i2 i3 i4 i5 μ = some μ' → sh_G μ') ∧ (∀ ⦃r1 : Nat⦄ ⦃i2 : Int32⦄ ⦃i3 : Int32⦄ ⦃i4 : Int32⦄ ⦃i5 : Int32⦄ ⦃μ μ' : sh_Mem⦄, sh_G μ → sh_isL r1 → F_X0_findTelling fuel 3 r1 i2 i3 i4 i5 μ = some μ' → sh_G μ') := by
  induction fuel with
  | zero => exact ⟨(by intro r1 i2 i3 i4 i5 μ μ' hG hr1 h; cases h), (by intro r1 i2 i3 i4 i5 μ μ' hG hr1 h; cases h), (by intro r1 i2 i3 i4 i5 μ μ' hG hr1 h; cases h)⟩
  | succ fuel ih =>
    obtain ⟨ih_25, ih_56, ih_116⟩ := ih
    refine ⟨?_, ?_, ?_⟩
    · intro r1 i2 i3 i4 i5 μ μ' hG hr1 h
      replace h : ((if 30 < i4 then some μ else (if 999 < ((sh_i μ r1 0) + i4) then some μ else (if (sh_i μ 208 8) ≤ 1 then some μ else F_X0_findTelling fuel 2 r1 i2 i3 i4 0 μ))) : Option sh_Mem) = some μ' := h
      by_cases c47 : 30 < i4
      · rw [if_pos c47] at h
        have e2 := Option.some.inj h
        exact e2 ▸ hG
      · rw [if_neg c47] at h
        by_cases c48 : 999 < ((sh_i μ r1 0) + i4)
        · rw [if_pos c48] at h
          have e2 := Option.some.inj h
          exact e2 ▸ hG
        · rw [if_neg c48] at h
          by_cases c49 : (sh_i μ 208 8) ≤ 1
          · rw [if_pos c49] at h
            have e2 := Option.some.inj h
            exact e2 ▸ hG
          · rw [if_neg c49] at h
            exact ih_56 hG hr1 h
    · intro r1 i2 i3 i4 i5 μ μ' hG hr1 h
      replace h : ((if (sh_r μ 55 0 = some (sh_ref μ 55 0) ∧ ((sh_ref μ 55 0) = 8 ∨ (sh_ref μ 55 0) = 29)) then sh_let (sh_ref μ 55 0) (fun r51 => (if (f_X5_cells μ r51) ≤ i5 then F_X0_findTelling fuel 3 r1 i2 i3 i4 0 μ else sh_bind (f_X0_mostLeft i3 i5 μ) (fun y55 μ53 => (if (sh_i μ53 208 8) ≤ y55 then F_X0_findTelling fuel 2 r1 i2 i3 i4 (i5 + 1) μ53 else sh_let (sh_setI μ53 208 6 i4) (fun μ57 => sh_let (sh_setI μ57 208 7 i5) (fun μ58 => sh_let (sh_setI μ58 208 8 y55) (fun μ59 => F_X0_findTelling fuel 2 r1 i2 i3 i4 (i5 + 1) μ59))))))) else none) : Option sh_Mem) = some μ' := h
      obtain ⟨k50, h⟩ := sh_chk h
      obtain ⟨r51, er51⟩ : ∃ y : Nat, y = (sh_ref μ 55 0) := ⟨_, rfl⟩
      rw [sh_let_eq er51] at h
      have k50r : sh_r μ 55 0 = some r51 ∧ (r51 = 8 ∨ r51 = 29) := by rw [er51]; exact k50
      by_cases c52 : (f_X5_cells μ r51) ≤ i5
      · rw [if_pos c52] at h
        exact ih_116 hG hr1 h
      · rw [if_neg c52] at h
        obtain ⟨y55, μ53, hr54, h⟩ := sh_bind_e h
        have hG53 := gp_X0_mostLeft hG hr54
        by_cases c56 : (sh_i μ53 208 8) ≤ y55
        · rw [if_pos c56] at h
          exact ih_56 hG53 hr1 h
        · rw [if_neg c56] at h
          obtain ⟨μ57, eμ57⟩ : ∃ y : sh_Mem, y = (sh_setI μ53 208 6 i4) := ⟨_, rfl⟩
          rw [sh_let_eq eμ57] at h
          have hG57 : sh_G μ57 := by rw [eμ57]; exact hG53
          obtain ⟨μ58, eμ58⟩ : ∃ y : sh_Mem, y = (sh_setI μ57 208 7 i5) := ⟨_, rfl⟩
          rw [sh_let_eq eμ58] at h
          have hG58 : sh_G μ58 := by rw [eμ58]; exact hG57
          obtain ⟨μ59, eμ59⟩ : ∃ y : sh_Mem, y = (sh_setI μ58 208 8 y55) := ⟨_, rfl⟩
          rw [sh_let_eq eμ59] at h
          have hG59 : sh_G μ59 := by rw [eμ59]; exact hG58
          exact ih_56 hG59 hr1 h
    · intro r1 i2 i3 i4 i5 μ μ' hG hr1 h
      replace h : ((if (sh_r μ 55 0 = some (sh_ref μ 55 0) ∧ ((sh_ref μ 55 0) = 8 ∨ (sh_ref μ 55 0) = 29)) then sh_let (sh_ref μ 55 0) (fun r61 => (if (sh_i μ r61 3) ≤ i5 then F_X0_findTelling fuel 1 r1 i2 i3 (i4 + 1) 0 μ else (if sh_in i5 7 then sh_bindv (f_X10_passDay (218 + 6 * i5.toNatClampNeg) 0 μ) (fun μ64 => F_X0_findTelling fuel 3 r1 i2 i3 i4 (i5 + 1) μ64) else none))) else none) : Option sh_Mem) = some μ' := h
      obtain ⟨k60, h⟩ := sh_chk h
      obtain ⟨r61, er61⟩ : ∃ y : Nat, y = (sh_ref μ 55 0) := ⟨_, rfl⟩
      rw [sh_let_eq er61] at h
      have k60r : sh_r μ 55 0 = some r61 ∧ (r61 = 8 ∨ r61 = 29) := by rw [er61]; exact k60
      by_cases c62 : (sh_i μ r61 3) ≤ i5
      · rw [if_pos c62] at h
        exact ih_25 hG hr1 h
      · rw [if_neg c62] at h
        obtain ⟨k63, h⟩ := sh_chk h
        obtain ⟨μ64, hr65, h⟩ := sh_bindv_e h
        have hG64 := gp_X10_passDay hG (gRL_215 k63) hr65
        exact ih_116 hG64 hr1 h
theorem tl_X0_findTelling (fuel : Nat) : (∀ ⦃r1 : Nat⦄ ⦃i2 : Int32⦄ ⦃i3 : Int32⦄ ⦃i4 : Int32⦄ ⦃i5 : Int32⦄ ⦃μ μ' : sh_Mem⦄, sh_G μ → sh_isL r1 → F_X0_findTelling fuel 1 r1 i2 i3 i4 i5 μ = some μ' → sh_V0 l B D ca 7 M_X0_findTelling 25 [(0, .ref 208), (1, .ref r1), (2, .int i2), (3, .int i3), (4, .int i4)] [] μ (fun v0 μ0 => v0 = none ∧ μ0 = μ')) ∧ (∀ ⦃r1 : Nat⦄ ⦃i2 : Int32⦄ ⦃i3 : Int32⦄ ⦃i4 : Int32⦄ ⦃i5 : Int32⦄ ⦃μ μ' : sh_Mem⦄, sh_G μ → sh_isL r1 → F_X0_findTelling fuel 2 r1 i2 i3 i4 i5 μ = some μ' → sh_V0 l B D ca 7 M_X0_findTelling 56 [(0, .ref 208), (1, .ref r1), (2, .int i2), (3, .int i3), (4, .int i4), (5, .int i5)] [] μ (fun v0 μ0 => v0 = none ∧ μ0 = μ')) ∧ (∀ ⦃r1 : Nat⦄ ⦃i2 : Int32⦄ ⦃i3 : Int32⦄ ⦃i4 : Int32⦄ ⦃i5 : Int32⦄ ⦃μ μ' : sh_Mem⦄, sh_G μ → sh_isL r1 → F_X0_findTelling fuel 3 r1 i2 i3 i4 i5 μ = some μ' → sh_V0 l B D ca 7 M_X0_findTelling 116 [(0, .ref 208), (1, .ref r1), (2, .int i2), (3, .int i3), (4, .int i4), (5, .int i5)] [] μ (fun v0 μ0 => v0 = none ∧ μ0 = μ')) := by
  induction fuel with
  | zero => exact ⟨(by intro r1 i2 i3 i4 i5 μ μ' hG hr1 h; cases h), (by intro r1 i2 i3 i4 i5 μ μ' hG hr1 h; cases h), (by intro r1 i2 i3 i4 i5 μ μ' hG hr1 h; cases h)⟩
  | succ fuel ih =>
    obtain ⟨ih_25, ih_56, ih_116⟩ := ih
    refine ⟨?_, ?_, ?_⟩
    · intro r1 i2 i3 i4 i5 μ μ' hG hr1 h
      replace h : ((if 30 < i4 then some μ else (if 999 < ((sh_i μ r1 0) + i4) then some μ else (if (sh_i μ 208 8) ≤ 1 then some μ else F_X0_findTelling fuel 2 r1 i2 i3 i4 0 μ))) : Option sh_Mem) = some μ' := h
      refine vv_iload 25 4 dX0_findTelling_25 rfl ?_
      refine vv_bipush 27 dX0_findTelling_27 bk_30 ?_
      refine vv_icmp_gt 29 158 dX0_findTelling_29 (by decide) (fun c47 => ?_) (fun c47 => ?_)
      · rw [if_pos c47] at h
        have e2 := Option.some.inj h
        refine vv_vret 158 dX0_findTelling_158 rfl (Nat.le_refl _) (Nat.le_refl _) ⟨rfl, e2⟩
      · rw [if_neg c47] at h
        refine vv_aload_n 32 1 dX0_findTelling_32 rfl rfl ?_
        refine vv_getI 33 dX0_findTelling_33 fl_0_43 rfl (gL_l hG hr1) ?_
        refine vv_iload 36 4 dX0_findTelling_36 rfl ?_
        refine vv_iadd 38 dX0_findTelling_38 ?_
        refine vv_sipush 39 dX0_findTelling_39 sk_999 ?_
        refine vv_icmp_gt 42 158 dX0_findTelling_42 (by decide) (fun c48 => ?_) (fun c48 => ?_)
        · rw [if_pos c48] at h
          have e2 := Option.some.inj h
          refine vv_vret 158 dX0_findTelling_158 rfl (Nat.le_refl _) (Nat.le_refl _) ⟨rfl, e2⟩
        · rw [if_neg c48] at h
          refine vv_aload_n 45 0 dX0_findTelling_45 rfl rfl ?_
          refine vv_getI 46 dX0_findTelling_46 fl_0_89 rfl (g_l_208 hG) ?_
          refine vv_iconst 49 dX0_findTelling_49 ik_1 ?_
          refine vv_icmp_le 50 158 dX0_findTelling_50 (by decide) (fun c49 => ?_) (fun c49 => ?_)
          · rw [if_pos c49] at h
            have e2 := Option.some.inj h
            refine vv_vret 158 dX0_findTelling_158 rfl (Nat.le_refl _) (Nat.le_refl _) ⟨rfl, e2⟩
          · rw [if_neg c49] at h
            refine vv_iconst 53 dX0_findTelling_53 ik_0 ?_
            refine vv_istore (lv' := [(5, _), (0, _), (1, _), (2, _), (3, _), (4, _)]) 54 5 dX0_findTelling_54 (by decide) rfl ?_
            refine vv_sub [(0, _), (1, _), (2, _), (3, _), (4, _), (5, _)] (sh_subm [1, 2, 3, 4, 5, 0] rfl) ?_
            exact ih_56 hG hr1 h
    · intro r1 i2 i3 i4 i5 μ μ' hG hr1 h
      replace h : ((if (sh_r μ 55 0 = some (sh_ref μ 55 0) ∧ ((sh_ref μ 55 0) = 8 ∨ (sh_ref μ 55 0) = 29)) then sh_let (sh_ref μ 55 0) (fun r51 => (if (f_X5_cells μ r51) ≤ i5 then F_X0_findTelling fuel 3 r1 i2 i3 i4 0 μ else sh_bind (f_X0_mostLeft i3 i5 μ) (fun y55 μ53 => (if (sh_i μ53 208 8) ≤ y55 then F_X0_findTelling fuel 2 r1 i2 i3 i4 (i5 + 1) μ53 else sh_let (sh_setI μ53 208 6 i4) (fun μ57 => sh_let (sh_setI μ57 208 7 i5) (fun μ58 => sh_let (sh_setI μ58 208 8 y55) (fun μ59 => F_X0_findTelling fuel 2 r1 i2 i3 i4 (i5 + 1) μ59))))))) else none) : Option sh_Mem) = some μ' := h
      refine vv_iload 56 5 dX0_findTelling_56 rfl ?_
      refine vv_aload_n 58 0 dX0_findTelling_58 rfl rfl ?_
      refine vv_getR 59 dX0_findTelling_59 fl_0_29 rfl (g_l_208 hG) (g_r_208_0 hG) ?_
      obtain ⟨k50, h⟩ := sh_chk h
      refine vv_getR 62 dX0_findTelling_62 fl_0_50 rfl (g_l_55 hG) k50.1 ?_
      refine vv_topr (fun r51 er51 => ?_)
      rw [sh_let_eq er51] at h
      have k50r : sh_r μ 55 0 = some r51 ∧ (r51 = 8 ∨ r51 = 29) := by rw [er51]; exact k50
      refine v1_callV [] 65 dX0_findTelling_65 ck_X0_92 (gP_l hG k50r.2) ⟨by decide, rfl⟩ (c_X5_cells (μ := μ) hG k50r.2) (Nat.le_of_ble_eq_true rfl) ⟨Nat.le_of_ble_eq_true rfl, Nat.le_of_ble_eq_true rfl⟩ rfl (Nat.le_of_ble_eq_true rfl) ?_
      refine vv_icmp_ge 68 113 dX0_findTelling_68 (by decide) (fun c52 => ?_) (fun c52 => ?_)
      · rw [if_pos c52] at h
        refine vv_iconst 113 dX0_findTelling_113 ik_0 ?_
        refine vv_istore (lv' := [(5, _), (0, _), (1, _), (2, _), (3, _), (4, _)]) 114 5 dX0_findTelling_114 (by decide) rfl ?_
        refine vv_sub [(0, _), (1, _), (2, _), (3, _), (4, _), (5, _)] (sh_subm [1, 2, 3, 4, 5, 0] rfl) ?_
        exact ih_116 hG hr1 h
      · rw [if_neg c52] at h
        refine vv_aload_n 71 0 dX0_findTelling_71 rfl rfl ?_
        refine vv_iload_n 72 3 dX0_findTelling_72 rfl rfl ?_
        refine vv_iload 73 5 dX0_findTelling_73 rfl ?_
        obtain ⟨y55, μ53, hr54, h⟩ := sh_bind_e h
        refine v1_callV [_, _] 75 dX0_findTelling_75 ck_X0_96 (g_l_208 hG) ⟨by decide, rfl⟩ (t_X0_mostLeft hG hr54) (Nat.le_of_ble_eq_true rfl) ⟨Nat.le_of_ble_eq_true rfl, Nat.le_of_ble_eq_true rfl⟩ rfl (Nat.le_of_ble_eq_true rfl) ?_
        have hG53 := gp_X0_mostLeft hG hr54
        refine vv_istore (lv' := [(6, _), (0, _), (1, _), (2, _), (3, _), (4, _), (5, _)]) 78 6 dX0_findTelling_78 (by decide) rfl ?_
        refine vv_iload 80 6 dX0_findTelling_80 rfl ?_
        refine vv_aload_n 82 0 dX0_findTelling_82 rfl rfl ?_
        refine vv_getI 83 dX0_findTelling_83 fl_0_89 rfl (g_l_208 hG53) ?_
        refine vv_icmp_ge 86 107 dX0_findTelling_86 (by decide) (fun c56 => ?_) (fun c56 => ?_)
        · rw [if_pos c56] at h
          refine vv_iincc (lv' := [(5, _), (6, _), (0, _), (1, _), (2, _), (3, _), (4, _)]) 107 5 dX0_findTelling_107 rfl ik_1 (by decide) rfl ?_
          refine vv_goto 110 56 dX0_findTelling_110 (by decide) ?_
          refine vv_sub [(0, _), (1, _), (2, _), (3, _), (4, _), (5, _)] (sh_subm [2, 3, 4, 5, 6, 0] rfl) ?_
          exact ih_56 hG53 hr1 h
        · rw [if_neg c56] at h
          refine vv_aload_n 89 0 dX0_findTelling_89 rfl rfl ?_
          refine vv_iload 90 4 dX0_findTelling_90 rfl ?_
          refine vn_putI 92 dX0_findTelling_92 fl_0_83 (Or.inl rfl) rfl (g_l_208 hG53) (fun μ57 eμ57 => ?_)
          rw [sh_let_eq eμ57] at h
          have hG57 : sh_G μ57 := by rw [eμ57]; exact hG53
          refine vv_aload_n 95 0 dX0_findTelling_95 rfl rfl ?_
          refine vv_iload 96 5 dX0_findTelling_96 rfl ?_
          refine vn_putI 98 dX0_findTelling_98 fl_0_86 (Or.inl rfl) rfl (g_l_208 hG57) (fun μ58 eμ58 => ?_)
          rw [sh_let_eq eμ58] at h
          have hG58 : sh_G μ58 := by rw [eμ58]; exact hG57
          refine vv_aload_n 101 0 dX0_findTelling_101 rfl rfl ?_
          refine vv_iload 102 6 dX0_findTelling_102 rfl ?_
          refine vn_putI 104 dX0_findTelling_104 fl_0_89 (Or.inl rfl) rfl (g_l_208 hG58) (fun μ59 eμ59 => ?_)
          rw [sh_let_eq eμ59] at h
          have hG59 : sh_G μ59 := by rw [eμ59]; exact hG58
          refine vv_iincc (lv' := [(5, _), (6, _), (0, _), (1, _), (2, _), (3, _), (4, _)]) 107 5 dX0_findTelling_107 rfl ik_1 (by decide) rfl ?_
          refine vv_goto 110 56 dX0_findTelling_110 (by decide) ?_
          refine vv_sub [(0, _), (1, _), (2, _), (3, _), (4, _), (5, _)] (sh_subm [2, 3, 4, 5, 6, 0] rfl) ?_
          exact ih_56 hG59 hr1 h
    · intro r1 i2 i3 i4 i5 μ μ' hG hr1 h
      replace h : ((if (sh_r μ 55 0 = some (sh_ref μ 55 0) ∧ ((sh_ref μ 55 0) = 8 ∨ (sh_ref μ 55 0) = 29)) then sh_let (sh_ref μ 55 0) (fun r61 => (if (sh_i μ r61 3) ≤ i5 then F_X0_findTelling fuel 1 r1 i2 i3 (i4 + 1) 0 μ else (if sh_in i5 7 then sh_bindv (f_X10_passDay (218 + 6 * i5.toNatClampNeg) 0 μ) (fun μ64 => F_X0_findTelling fuel 3 r1 i2 i3 i4 (i5 + 1) μ64) else none))) else none) : Option sh_Mem) = some μ' := h
      refine vv_iload 116 5 dX0_findTelling_116 rfl ?_
      refine vv_aload_n 118 0 dX0_findTelling_118 rfl rfl ?_
      refine vv_getR 119 dX0_findTelling_119 fl_0_29 rfl (g_l_208 hG) (g_r_208_0 hG) ?_
      obtain ⟨k60, h⟩ := sh_chk h
      refine vv_getR 122 dX0_findTelling_122 fl_0_50 rfl (g_l_55 hG) k60.1 ?_
      refine vv_topr (fun r61 er61 => ?_)
      rw [sh_let_eq er61] at h
      have k60r : sh_r μ 55 0 = some r61 ∧ (r61 = 8 ∨ r61 = 29) := by rw [er61]; exact k60
      refine vv_getI 125 dX0_findTelling_125 fl_0_54 rfl (gP_l hG k60r.2) ?_
      refine vv_icmp_ge 128 152 dX0_findTelling_128 (by decide) (fun c62 => ?_) (fun c62 => ?_)
      · rw [if_pos c62] at h
        refine vv_iincc (lv' := [(4, _), (0, _), (1, _), (2, _), (3, _), (5, _)]) 152 4 dX0_findTelling_152 rfl ik_1 (by decide) rfl ?_
        refine vv_goto 155 25 dX0_findTelling_155 (by decide) ?_
        refine vv_sub [(0, _), (1, _), (2, _), (3, _), (4, _)] (sh_subm [1, 2, 3, 4, 0] rfl) ?_
        exact ih_25 hG hr1 h
      · rw [if_neg c62] at h
        refine vv_aload_n 131 0 dX0_findTelling_131 rfl rfl ?_
        refine vv_getR 132 dX0_findTelling_132 fl_0_29 rfl (g_l_208 hG) (g_r_208_0 hG) ?_
        refine vv_aload_n 135 0 dX0_findTelling_135 rfl rfl ?_
        refine vv_getR 136 dX0_findTelling_136 fl_0_18 rfl (g_l_208 hG) (g_r_208_2 hG) ?_
        refine vv_iload 139 5 dX0_findTelling_139 rfl ?_
        obtain ⟨k63, h⟩ := sh_chk h
        refine vv_aald 141 dX0_findTelling_141 (g_l_215 hG) k63 (gR_215 hG k63) ?_
        refine vv_iconst 142 dX0_findTelling_142 ik_0 ?_
        obtain ⟨μ64, hr65, h⟩ := sh_bindv_e h
        refine v1_callV [_, _] 143 dX0_findTelling_143 ck_X0_37 (g_l_55 hG) ⟨by decide, rfl⟩ (t_X10_passDay hG (gRL_215 k63) hr65) (Nat.le_of_ble_eq_true rfl) ⟨Nat.le_of_ble_eq_true rfl, Nat.le_of_ble_eq_true rfl⟩ rfl (Nat.le_of_ble_eq_true rfl) ?_
        have hG64 := gp_X10_passDay hG (gRL_215 k63) hr65
        refine vv_iincc (lv' := [(5, _), (0, _), (1, _), (2, _), (3, _), (4, _)]) 146 5 dX0_findTelling_146 rfl ik_1 (by decide) rfl ?_
        refine vv_goto 149 116 dX0_findTelling_149 (by decide) ?_
        refine vv_sub [(0, _), (1, _), (2, _), (3, _), (4, _), (5, _)] (sh_subm [1, 2, 3, 4, 5, 0] rfl) ?_
        exact ih_116 hG64 hr1 h
theorem gp_X0_findTelling {q1 : Nat} {a2 : Int32} {a3 : Int32} {μ μ' : sh_Mem} (hG : sh_G μ) (hq1 : sh_isL q1) (h : f_X0_findTelling q1 a2 a3 μ = some μ') : sh_G μ' := by
  have ih_25 := (gpl_X0_findTelling sh_fuel).1
  have ih_56 := (gpl_X0_findTelling sh_fuel).2.1
  have ih_116 := (gpl_X0_findTelling sh_fuel).2.2
  unfold f_X0_findTelling at h
  obtain ⟨μ67, eμ67⟩ : ∃ y : sh_Mem, y = (sh_setI μ 208 6 0) := ⟨_, rfl⟩
  rw [sh_let_eq eμ67] at h
  have hG67 : sh_G μ67 := by rw [eμ67]; exact hG
  obtain ⟨μ68, eμ68⟩ : ∃ y : sh_Mem, y = (sh_setI μ67 208 7 0) := ⟨_, rfl⟩
  rw [sh_let_eq eμ68] at h
  have hG68 : sh_G μ68 := by rw [eμ68]; exact hG67
  obtain ⟨μ69, eμ69⟩ : ∃ y : sh_Mem, y = (sh_setI μ68 208 8 8) := ⟨_, rfl⟩
  rw [sh_let_eq eμ69] at h
  have hG69 : sh_G μ69 := by rw [eμ69]; exact hG68
  obtain ⟨μ70, hr71, h⟩ := sh_bindv_e h
  have hG70 := gp_X0_askEach hG69 hq1 hr71
  exact ih_25 hG70 hq1 h
theorem t_X0_findTelling {q1 : Nat} {a2 : Int32} {a3 : Int32} {μ μ' : sh_Mem} (hG : sh_G μ) (hq1 : sh_isL q1) (h : f_X0_findTelling q1 a2 a3 μ = some μ') : sh_C0 l B D ca 7 M_X0_findTelling [.ref 208, .ref q1, .int a2, .int a3] μ (fun v0 μ0 => v0 = none ∧ μ0 = μ') := by
  have ih_25 := (tl_X0_findTelling (l := l) (B := B) (D := D) (ca := ca) sh_fuel).1
  have ih_56 := (tl_X0_findTelling (l := l) (B := B) (D := D) (ca := ca) sh_fuel).2.1
  have ih_116 := (tl_X0_findTelling (l := l) (B := B) (D := D) (ca := ca) sh_fuel).2.2
  unfold f_X0_findTelling at h
  refine vv_aload_n 0 0 dX0_findTelling_0 rfl rfl ?_
  refine vv_iconst 1 dX0_findTelling_1 ik_0 ?_
  refine vn_putI 2 dX0_findTelling_2 fl_0_83 (Or.inl rfl) rfl (g_l_208 hG) (fun μ67 eμ67 => ?_)
  rw [sh_let_eq eμ67] at h
  have hG67 : sh_G μ67 := by rw [eμ67]; exact hG
  refine vv_aload_n 5 0 dX0_findTelling_5 rfl rfl ?_
  refine vv_iconst 6 dX0_findTelling_6 ik_0 ?_
  refine vn_putI 7 dX0_findTelling_7 fl_0_86 (Or.inl rfl) rfl (g_l_208 hG67) (fun μ68 eμ68 => ?_)
  rw [sh_let_eq eμ68] at h
  have hG68 : sh_G μ68 := by rw [eμ68]; exact hG67
  refine vv_aload_n 10 0 dX0_findTelling_10 rfl rfl ?_
  refine vv_bipush 11 dX0_findTelling_11 bk_8 ?_
  refine vn_putI 13 dX0_findTelling_13 fl_0_89 (Or.inl rfl) rfl (g_l_208 hG68) (fun μ69 eμ69 => ?_)
  rw [sh_let_eq eμ69] at h
  have hG69 : sh_G μ69 := by rw [eμ69]; exact hG68
  refine vv_aload_n 16 0 dX0_findTelling_16 rfl rfl ?_
  refine vv_aload_n 17 1 dX0_findTelling_17 rfl rfl ?_
  refine vv_iload_n 18 2 dX0_findTelling_18 rfl rfl ?_
  obtain ⟨μ70, hr71, h⟩ := sh_bindv_e h
  refine v1_callV [_, _] 19 dX0_findTelling_19 ck_X0_76 (g_l_208 hG69) ⟨by decide, rfl⟩ (t_X0_askEach hG69 hq1 hr71) (Nat.le_of_ble_eq_true rfl) ⟨Nat.le_of_ble_eq_true rfl, Nat.le_of_ble_eq_true rfl⟩ rfl (Nat.le_of_ble_eq_true rfl) ?_
  have hG70 := gp_X0_askEach hG69 hq1 hr71
  refine vv_iconst 22 dX0_findTelling_22 ik_0 ?_
  refine vv_istore (lv' := [(4, _), (0, _), (1, _), (2, _), (3, _)]) 23 4 dX0_findTelling_23 (by decide) rfl ?_
  refine vv_sub [(0, _), (1, _), (2, _), (3, _), (4, _)] (sh_subm [1, 2, 3, 4, 0] rfl) ?_
  exact ih_25 hG70 hq1 h
noncomputable def F_X6_read : Nat → Nat → Int32 → sh_Mem → Option (Int32 × sh_Mem)
  | 0, _, _, _ => none
  | fuel + 1, lbl, i1, μ => match lbl with
    | 1 => (if 80 ≤ i1 then (if (sh_i μ 2 3) = (-1) then some (i1, μ) else sh_bind (f_X8_fails 5 (sh_i μ 2 4) μ) (fun y32 μ30 => some (i1, μ30))) else (if (sh_i μ 2 3) = (-1) then (if (sh_i μ 2 3) = (-1) then some (i1, μ) else sh_bind (f_X8_fails 5 (sh_i μ 2 4) μ) (fun y37 μ35 => some (i1, μ35))) else sh_bind (f_X6_readStatement μ) (fun y40 μ38 => (if y40 = 0 then some ((-1), μ38) else sh_bind (f_X8_takesMark 59 μ38) (fun y44 μ42 => (if y44 = 0 then some ((-1), μ42) else F_X6_read fuel 1 (i1 + 1) μ42))))))
    | _ => none
noncomputable def f_X6_read (μ : sh_Mem) : Option (Int32 × sh_Mem) := (if (sh_r μ 7 2 = some (sh_ref μ 7 2) ∧ ((sh_ref μ 7 2) = 8 ∨ (sh_ref μ 7 2) = 29)) then sh_let (sh_ref μ 7 2) (fun r47 => sh_bindv (f_X5_clear r47 μ) (fun μ48 => sh_bind (f_X6_readPlain μ48) (fun y53 μ51 => (if y53 = 0 then some ((-1), μ51) else F_X6_read sh_fuel 1 1 μ51)))) else none)
theorem gpl_X6_read (fuel : Nat) : (∀ ⦃i1 : Int32⦄ ⦃μ μ' : sh_Mem⦄ ⦃v : Int32⦄, sh_G μ → F_X6_read fuel 1 i1 μ = some (v, μ') → sh_G μ') := by
  induction fuel with
  | zero => intro i1 μ μ' v hG h; cases h
  | succ fuel ih =>
    have ih_18 := ih
    intro i1 μ μ' v hG h
    replace h : ((if 80 ≤ i1 then (if (sh_i μ 2 3) = (-1) then some (i1, μ) else sh_bind (f_X8_fails 5 (sh_i μ 2 4) μ) (fun y32 μ30 => some (i1, μ30))) else (if (sh_i μ 2 3) = (-1) then (if (sh_i μ 2 3) = (-1) then some (i1, μ) else sh_bind (f_X8_fails 5 (sh_i μ 2 4) μ) (fun y37 μ35 => some (i1, μ35))) else sh_bind (f_X6_readStatement μ) (fun y40 μ38 => (if y40 = 0 then some ((-1), μ38) else sh_bind (f_X8_takesMark 59 μ38) (fun y44 μ42 => (if y44 = 0 then some ((-1), μ42) else F_X6_read fuel 1 (i1 + 1) μ42)))))) : Option (Int32 × sh_Mem)) = some (v, μ') := h
    by_cases c28 : 80 ≤ i1
    · rw [if_pos c28] at h
      by_cases c29 : (sh_i μ 2 3) = (-1)
      · rw [if_pos c29] at h
        obtain ⟨e1, e2⟩ := sh_some2 h
        exact e2 ▸ hG
      · rw [if_neg c29] at h
        obtain ⟨y32, μ30, hr31, h⟩ := sh_bind_e h
        have hG30 := gp_X8_fails hG hr31
        obtain ⟨e1, e2⟩ := sh_some2 h
        exact e2 ▸ hG30
    · rw [if_neg c28] at h
      by_cases c33 : (sh_i μ 2 3) = (-1)
      · rw [if_pos c33] at h
        by_cases c34 : (sh_i μ 2 3) = (-1)
        · rw [if_pos c34] at h
          obtain ⟨e1, e2⟩ := sh_some2 h
          exact e2 ▸ hG
        · rw [if_neg c34] at h
          obtain ⟨y37, μ35, hr36, h⟩ := sh_bind_e h
          have hG35 := gp_X8_fails hG hr36
          obtain ⟨e1, e2⟩ := sh_some2 h
          exact e2 ▸ hG35
      · rw [if_neg c33] at h
        obtain ⟨y40, μ38, hr39, h⟩ := sh_bind_e h
        have hG38 := gp_X6_readStatement hG hr39
        by_cases c41 : y40 = 0
        · rw [if_pos c41] at h
          obtain ⟨e1, e2⟩ := sh_some2 h
          exact e2 ▸ hG38
        · rw [if_neg c41] at h
          obtain ⟨y44, μ42, hr43, h⟩ := sh_bind_e h
          have hG42 := gp_X8_takesMark hG38 hr43
          by_cases c45 : y44 = 0
          · rw [if_pos c45] at h
            obtain ⟨e1, e2⟩ := sh_some2 h
            exact e2 ▸ hG42
          · rw [if_neg c45] at h
            exact ih_18 hG42 h
theorem tl_X6_read (fuel : Nat) : (∀ ⦃i1 : Int32⦄ ⦃μ μ' : sh_Mem⦄ ⦃v : Int32⦄, sh_G μ → F_X6_read fuel 1 i1 μ = some (v, μ') → sh_V0 l B D ca 74 M_X6_read 18 [(0, .ref 7), (1, .int i1)] [] μ (fun v0 μ0 => v0 = some (.int v) ∧ μ0 = μ')) := by
  induction fuel with
  | zero => intro i1 μ μ' v hG h; cases h
  | succ fuel ih =>
    have ih_18 := ih
    intro i1 μ μ' v hG h
    replace h : ((if 80 ≤ i1 then (if (sh_i μ 2 3) = (-1) then some (i1, μ) else sh_bind (f_X8_fails 5 (sh_i μ 2 4) μ) (fun y32 μ30 => some (i1, μ30))) else (if (sh_i μ 2 3) = (-1) then (if (sh_i μ 2 3) = (-1) then some (i1, μ) else sh_bind (f_X8_fails 5 (sh_i μ 2 4) μ) (fun y37 μ35 => some (i1, μ35))) else sh_bind (f_X6_readStatement μ) (fun y40 μ38 => (if y40 = 0 then some ((-1), μ38) else sh_bind (f_X8_takesMark 59 μ38) (fun y44 μ42 => (if y44 = 0 then some ((-1), μ42) else F_X6_read fuel 1 (i1 + 1) μ42)))))) : Option (Int32 × sh_Mem)) = some (v, μ') := h
    refine vv_iload_n 18 1 dX6_read_18 rfl rfl ?_
    refine vv_bipush 19 dX6_read_19 bk_80 ?_
    refine vv_icmp_ge 21 62 dX6_read_21 (by decide) (fun c28 => ?_) (fun c28 => ?_)
    · rw [if_pos c28] at h
      refine vv_aload_n 62 0 dX6_read_62 rfl rfl ?_
      refine vv_getR 63 dX6_read_63 fl_6_18 rfl (g_l_7 hG) (g_r_7_0 hG) ?_
      refine vv_getI 66 dX6_read_66 fl_6_33 rfl (g_l_2 hG) ?_
      refine vv_iconst 69 dX6_read_69 ik_m1 ?_
      refine vv_icmp_eq 70 89 dX6_read_70 (by decide) (fun c29 => ?_) (fun c29 => ?_)
      · rw [if_pos c29] at h
        refine vv_iload_n 89 1 dX6_read_89 rfl rfl ?_
        obtain ⟨e1, e2⟩ := sh_some2 h
        refine vv_iret 90 dX6_read_90 rfl (Nat.le_refl _) (Nat.le_refl _) ⟨by rw [e1], e2⟩
      · rw [if_neg c29] at h
        refine vv_aload_n 73 0 dX6_read_73 rfl rfl ?_
        refine vv_getR 74 dX6_read_74 fl_6_18 rfl (g_l_7 hG) (g_r_7_0 hG) ?_
        refine vv_iconst 77 dX6_read_77 ik_5 ?_
        refine vv_aload_n 78 0 dX6_read_78 rfl rfl ?_
        refine vv_getR 79 dX6_read_79 fl_6_18 rfl (g_l_7 hG) (g_r_7_0 hG) ?_
        refine vv_getI 82 dX6_read_82 fl_6_46 rfl (g_l_2 hG) ?_
        obtain ⟨y32, μ30, hr31, h⟩ := sh_bind_e h
        refine v1_callV [_, _] 85 dX6_read_85 ck_X6_49 (g_l_2 hG) ⟨by decide, rfl⟩ (t_X8_fails hG hr31) (Nat.le_of_ble_eq_true rfl) ⟨Nat.le_of_ble_eq_true rfl, Nat.le_of_ble_eq_true rfl⟩ rfl (Nat.le_of_ble_eq_true rfl) ?_
        have hG30 := gp_X8_fails hG hr31
        refine vv_pop 88 dX6_read_88 ?_
        refine vv_iload_n 89 1 dX6_read_89 rfl rfl ?_
        obtain ⟨e1, e2⟩ := sh_some2 h
        refine vv_iret 90 dX6_read_90 rfl (Nat.le_refl _) (Nat.le_refl _) ⟨by rw [e1], e2⟩
    · rw [if_neg c28] at h
      refine vv_aload_n 24 0 dX6_read_24 rfl rfl ?_
      refine vv_getR 25 dX6_read_25 fl_6_18 rfl (g_l_7 hG) (g_r_7_0 hG) ?_
      refine vv_getI 28 dX6_read_28 fl_6_33 rfl (g_l_2 hG) ?_
      refine vv_iconst 31 dX6_read_31 ik_m1 ?_
      refine vv_icmp_eq 32 62 dX6_read_32 (by decide) (fun c33 => ?_) (fun c33 => ?_)
      · rw [if_pos c33] at h
        refine vv_aload_n 62 0 dX6_read_62 rfl rfl ?_
        refine vv_getR 63 dX6_read_63 fl_6_18 rfl (g_l_7 hG) (g_r_7_0 hG) ?_
        refine vv_getI 66 dX6_read_66 fl_6_33 rfl (g_l_2 hG) ?_
        refine vv_iconst 69 dX6_read_69 ik_m1 ?_
        refine vv_icmp_eq 70 89 dX6_read_70 (by decide) (fun c34 => ?_) (fun c34 => ?_)
        · rw [if_pos c34] at h
          refine vv_iload_n 89 1 dX6_read_89 rfl rfl ?_
          obtain ⟨e1, e2⟩ := sh_some2 h
          refine vv_iret 90 dX6_read_90 rfl (Nat.le_refl _) (Nat.le_refl _) ⟨by rw [e1], e2⟩
        · rw [if_neg c34] at h
          refine vv_aload_n 73 0 dX6_read_73 rfl rfl ?_
          refine vv_getR 74 dX6_read_74 fl_6_18 rfl (g_l_7 hG) (g_r_7_0 hG) ?_
          refine vv_iconst 77 dX6_read_77 ik_5 ?_
          refine vv_aload_n 78 0 dX6_read_78 rfl rfl ?_
          refine vv_getR 79 dX6_read_79 fl_6_18 rfl (g_l_7 hG) (g_r_7_0 hG) ?_
          refine vv_getI 82 dX6_read_82 fl_6_46 rfl (g_l_2 hG) ?_
          obtain ⟨y37, μ35, hr36, h⟩ := sh_bind_e h
          refine v1_callV [_, _] 85 dX6_read_85 ck_X6_49 (g_l_2 hG) ⟨by decide, rfl⟩ (t_X8_fails hG hr36) (Nat.le_of_ble_eq_true rfl) ⟨Nat.le_of_ble_eq_true rfl, Nat.le_of_ble_eq_true rfl⟩ rfl (Nat.le_of_ble_eq_true rfl) ?_
          have hG35 := gp_X8_fails hG hr36
          refine vv_pop 88 dX6_read_88 ?_
          refine vv_iload_n 89 1 dX6_read_89 rfl rfl ?_
          obtain ⟨e1, e2⟩ := sh_some2 h
          refine vv_iret 90 dX6_read_90 rfl (Nat.le_refl _) (Nat.le_refl _) ⟨by rw [e1], e2⟩
      · rw [if_neg c33] at h
        refine vv_aload_n 35 0 dX6_read_35 rfl rfl ?_
        obtain ⟨y40, μ38, hr39, h⟩ := sh_bind_e h
        refine v1_callV [] 36 dX6_read_36 ck_X6_39 (g_l_7 hG) ⟨by decide, rfl⟩ (t_X6_readStatement hG hr39) (Nat.le_of_ble_eq_true rfl) ⟨Nat.le_of_ble_eq_true rfl, Nat.le_of_ble_eq_true rfl⟩ rfl (Nat.le_of_ble_eq_true rfl) ?_
        have hG38 := gp_X6_readStatement hG hr39
        refine vv_if_eq 39 54 dX6_read_39 (by decide) (fun c41 => ?_) (fun c41 => ?_)
        · rw [if_pos c41] at h
          refine vv_iconst 54 dX6_read_54 ik_m1 ?_
          obtain ⟨e1, e2⟩ := sh_some2 h
          refine vv_iret 55 dX6_read_55 rfl (Nat.le_refl _) (Nat.le_refl _) ⟨by rw [e1], e2⟩
        · rw [if_neg c41] at h
          refine vv_aload_n 42 0 dX6_read_42 rfl rfl ?_
          refine vv_getR 43 dX6_read_43 fl_6_18 rfl (g_l_7 hG38) (g_r_7_0 hG38) ?_
          refine vv_bipush 46 dX6_read_46 bk_59 ?_
          obtain ⟨y44, μ42, hr43, h⟩ := sh_bind_e h
          refine v1_callV [_] 48 dX6_read_48 ck_X6_42 (g_l_2 hG38) ⟨by decide, rfl⟩ (t_X8_takesMark hG38 hr43) (Nat.le_of_ble_eq_true rfl) ⟨Nat.le_of_ble_eq_true rfl, Nat.le_of_ble_eq_true rfl⟩ rfl (Nat.le_of_ble_eq_true rfl) ?_
          have hG42 := gp_X8_takesMark hG38 hr43
          refine vv_if_ne 51 56 dX6_read_51 (by decide) (fun c45 => ?_) (fun c45 => ?_)
          · rw [if_neg c45] at h
            refine vv_iincc (lv' := [(1, _), (0, _)]) 56 1 dX6_read_56 rfl ik_1 (by decide) rfl ?_
            refine vv_goto 59 18 dX6_read_59 (by decide) ?_
            refine vv_sub [(0, _), (1, _)] (sh_subm [1, 0] rfl) ?_
            exact ih_18 hG42 h
          · rw [if_pos c45] at h
            refine vv_iconst 54 dX6_read_54 ik_m1 ?_
            obtain ⟨e1, e2⟩ := sh_some2 h
            refine vv_iret 55 dX6_read_55 rfl (Nat.le_refl _) (Nat.le_refl _) ⟨by rw [e1], e2⟩
theorem gp_X6_read {μ μ' : sh_Mem} {v : Int32} (hG : sh_G μ) (h : f_X6_read μ = some (v, μ')) : sh_G μ' := by
  have ih_18 := (gpl_X6_read sh_fuel)
  unfold f_X6_read at h
  obtain ⟨k46, h⟩ := sh_chk h
  obtain ⟨r47, er47⟩ : ∃ y : Nat, y = (sh_ref μ 7 2) := ⟨_, rfl⟩
  rw [sh_let_eq er47] at h
  have k46r : sh_r μ 7 2 = some r47 ∧ (r47 = 8 ∨ r47 = 29) := by rw [er47]; exact k46
  obtain ⟨μ48, hr49, h⟩ := sh_bindv_e h
  have hG48 := gp_X5_clear hG k46r.2 hr49
  obtain ⟨y53, μ51, hr52, h⟩ := sh_bind_e h
  have hG51 := gp_X6_readPlain hG48 hr52
  by_cases c54 : y53 = 0
  · rw [if_pos c54] at h
    obtain ⟨e1, e2⟩ := sh_some2 h
    exact e2 ▸ hG51
  · rw [if_neg c54] at h
    exact ih_18 hG51 h
theorem t_X6_read {μ μ' : sh_Mem} {v : Int32} (hG : sh_G μ) (h : f_X6_read μ = some (v, μ')) : sh_C0 l B D ca 74 M_X6_read [.ref 7] μ (fun v0 μ0 => v0 = some (.int v) ∧ μ0 = μ') := by
  have ih_18 := (tl_X6_read (l := l) (B := B) (D := D) (ca := ca) sh_fuel)
  unfold f_X6_read at h
  refine vv_aload_n 0 0 dX6_read_0 rfl rfl ?_
  obtain ⟨k46, h⟩ := sh_chk h
  refine vv_getR 1 dX6_read_1 fl_6_12 rfl (g_l_7 hG) k46.1 ?_
  refine vv_topr (fun r47 er47 => ?_)
  rw [sh_let_eq er47] at h
  have k46r : sh_r μ 7 2 = some r47 ∧ (r47 = 8 ∨ r47 = 29) := by rw [er47]; exact k46
  obtain ⟨μ48, hr49, h⟩ := sh_bindv_e h
  refine v1_callV [] 4 dX6_read_4 ck_X6_26 (gP_l hG k46r.2) ⟨by decide, rfl⟩ (t_X5_clear hG k46r.2 hr49) (Nat.le_of_ble_eq_true rfl) ⟨Nat.le_of_ble_eq_true rfl, Nat.le_of_ble_eq_true rfl⟩ rfl (Nat.le_of_ble_eq_true rfl) ?_
  have hG48 := gp_X5_clear hG k46r.2 hr49
  refine vv_aload_n 7 0 dX6_read_7 rfl rfl ?_
  obtain ⟨y53, μ51, hr52, h⟩ := sh_bind_e h
  refine v1_callV [] 8 dX6_read_8 ck_X6_29 (g_l_7 hG48) ⟨by decide, rfl⟩ (t_X6_readPlain hG48 hr52) (Nat.le_of_ble_eq_true rfl) ⟨Nat.le_of_ble_eq_true rfl, Nat.le_of_ble_eq_true rfl⟩ rfl (Nat.le_of_ble_eq_true rfl) ?_
  have hG51 := gp_X6_readPlain hG48 hr52
  refine vv_if_ne 11 16 dX6_read_11 (by decide) (fun c54 => ?_) (fun c54 => ?_)
  · rw [if_neg c54] at h
    refine vv_iconst 16 dX6_read_16 ik_1 ?_
    refine vv_istore_n (lv' := [(1, _), (0, _)]) 17 1 dX6_read_17 rfl (by decide) rfl ?_
    refine vv_sub [(0, _), (1, _)] (sh_subm [1, 0] rfl) ?_
    exact ih_18 hG51 h
  · rw [if_pos c54] at h
    refine vv_iconst 14 dX6_read_14 ik_m1 ?_
    obtain ⟨e1, e2⟩ := sh_some2 h
    refine vv_iret 15 dX6_read_15 rfl (Nat.le_refl _) (Nat.le_refl _) ⟨by rw [e1], e2⟩
noncomputable def F_X7_find : Nat → Nat → Nat → Int32 → Int32 → Int32 → Int32 → sh_Mem → Option (Int32 × sh_Mem)
  | 0, _, _, _, _, _, _, _ => none
  | fuel + 1, lbl, r1, i2, i3, i4, i5, μ => match lbl with
    | 1 => (if 3 < i5 then some ((-1), μ) else sh_bind (f_X7_goesOn_top 0 i5 μ) (fun y23 μ21 => (if y23 = 0 then F_X7_find fuel 1 r1 i2 i3 i4 (i5 + 1) μ21 else some (i5, μ21))))
    | _ => none
noncomputable def f_X7_find (q1 : Nat) (a2 : Int32) (a3 : Int32) (a4 : Int32) (μ : sh_Mem) : Option (Int32 × sh_Mem) := (if sh_in 0 4 then sh_bindv (f_X3_copyFrom (263 + 6 * (Int32.toNatClampNeg 0)) q1 μ) (fun μ26 => sh_let (sh_setI μ26 260 3 a2) (fun μ29 => sh_let (sh_setI μ29 260 4 a3) (fun μ30 => sh_let (sh_setI μ30 260 5 a4) (fun μ31 => (if (sh_r μ31 55 0 = some (sh_ref μ31 55 0) ∧ ((sh_ref μ31 55 0) = 8 ∨ (sh_ref μ31 55 0) = 29)) then sh_let (sh_ref μ31 55 0) (fun r33 => sh_bind (f_X5_topicCounts r33 μ31) (fun y36 μ34 => (if y36 = 0 ∨ y36 = 1 then sh_let (sh_setI μ34 260 6 y36) (fun μ38 => F_X7_find sh_fuel 1 q1 a2 a3 a4 0 μ38) else none))) else none))))) else none)
theorem gpl_X7_find (fuel : Nat) : (∀ ⦃r1 : Nat⦄ ⦃i2 : Int32⦄ ⦃i3 : Int32⦄ ⦃i4 : Int32⦄ ⦃i5 : Int32⦄ ⦃μ μ' : sh_Mem⦄ ⦃v : Int32⦄, sh_G μ → sh_isL r1 → F_X7_find fuel 1 r1 i2 i3 i4 i5 μ = some (v, μ') → sh_G μ') := by
  induction fuel with
  | zero => intro r1 i2 i3 i4 i5 μ μ' v hG hr1 h; cases h
  | succ fuel ih =>
    have ih_43 := ih
    intro r1 i2 i3 i4 i5 μ μ' v hG hr1 h
    replace h : ((if 3 < i5 then some ((-1), μ) else sh_bind (f_X7_goesOn_top 0 i5 μ) (fun y23 μ21 => (if y23 = 0 then F_X7_find fuel 1 r1 i2 i3 i4 (i5 + 1) μ21 else some (i5, μ21)))) : Option (Int32 × sh_Mem)) = some (v, μ') := h
    by_cases c20 : 3 < i5
    · rw [if_pos c20] at h
      obtain ⟨e1, e2⟩ := sh_some2 h
      exact e2 ▸ hG
    · rw [if_neg c20] at h
      obtain ⟨y23, μ21, hr22, h⟩ := sh_bind_e h
      have hG21 := gp_X7_goesOn_top hG hr22
      by_cases c24 : y23 = 0
      · rw [if_pos c24] at h
        exact ih_43 hG21 hr1 h
      · rw [if_neg c24] at h
        obtain ⟨e1, e2⟩ := sh_some2 h
        exact e2 ▸ hG21
theorem tl_X7_find (fuel : Nat) : (∀ ⦃r1 : Nat⦄ ⦃i2 : Int32⦄ ⦃i3 : Int32⦄ ⦃i4 : Int32⦄ ⦃i5 : Int32⦄ ⦃μ μ' : sh_Mem⦄ ⦃v : Int32⦄, sh_G μ → sh_isL r1 → F_X7_find fuel 1 r1 i2 i3 i4 i5 μ = some (v, μ') → sh_V0 l B D ca 22 M_X7_find 43 [(0, .ref 260), (1, .ref r1), (2, .int i2), (3, .int i3), (4, .int i4), (5, .int i5)] [] μ (fun v0 μ0 => v0 = some (.int v) ∧ μ0 = μ')) := by
  induction fuel with
  | zero => intro r1 i2 i3 i4 i5 μ μ' v hG hr1 h; cases h
  | succ fuel ih =>
    have ih_43 := ih
    intro r1 i2 i3 i4 i5 μ μ' v hG hr1 h
    replace h : ((if 3 < i5 then some ((-1), μ) else sh_bind (f_X7_goesOn_top 0 i5 μ) (fun y23 μ21 => (if y23 = 0 then F_X7_find fuel 1 r1 i2 i3 i4 (i5 + 1) μ21 else some (i5, μ21)))) : Option (Int32 × sh_Mem)) = some (v, μ') := h
    refine vv_iload 43 5 dX7_find_43 rfl ?_
    refine vv_iconst 45 dX7_find_45 ik_3 ?_
    refine vv_icmp_gt 46 68 dX7_find_46 (by decide) (fun c20 => ?_) (fun c20 => ?_)
    · rw [if_pos c20] at h
      refine vv_iconst 68 dX7_find_68 ik_m1 ?_
      obtain ⟨e1, e2⟩ := sh_some2 h
      refine vv_iret 69 dX7_find_69 rfl (Nat.le_refl _) (Nat.le_refl _) ⟨by rw [e1], e2⟩
    · rw [if_neg c20] at h
      refine vv_aload_n 49 0 dX7_find_49 rfl rfl ?_
      refine vv_iconst 50 dX7_find_50 ik_0 ?_
      refine vv_iload 51 5 dX7_find_51 rfl ?_
      obtain ⟨y23, μ21, hr22, h⟩ := sh_bind_e h
      refine v1_callV [_, _] 53 dX7_find_53 ck_X7_55 (g_l_260 hG) ⟨by decide, rfl⟩ (t_X7_goesOn_top hG hr22) (Nat.le_of_ble_eq_true rfl) ⟨Nat.le_of_ble_eq_true rfl, Nat.le_of_ble_eq_true rfl⟩ rfl (Nat.le_of_ble_eq_true rfl) ?_
      have hG21 := gp_X7_goesOn_top hG hr22
      refine vv_if_eq 56 62 dX7_find_56 (by decide) (fun c24 => ?_) (fun c24 => ?_)
      · rw [if_pos c24] at h
        refine vv_iincc (lv' := [(5, _), (0, _), (1, _), (2, _), (3, _), (4, _)]) 62 5 dX7_find_62 rfl ik_1 (by decide) rfl ?_
        refine vv_goto 65 43 dX7_find_65 (by decide) ?_
        refine vv_sub [(0, _), (1, _), (2, _), (3, _), (4, _), (5, _)] (sh_subm [1, 2, 3, 4, 5, 0] rfl) ?_
        exact ih_43 hG21 hr1 h
      · rw [if_neg c24] at h
        refine vv_iload 59 5 dX7_find_59 rfl ?_
        obtain ⟨e1, e2⟩ := sh_some2 h
        refine vv_iret 61 dX7_find_61 rfl (Nat.le_refl _) (Nat.le_refl _) ⟨by rw [e1], e2⟩
theorem gp_X7_find {q1 : Nat} {a2 : Int32} {a3 : Int32} {a4 : Int32} {μ μ' : sh_Mem} {v : Int32} (hG : sh_G μ) (hq1 : sh_isL q1) (h : f_X7_find q1 a2 a3 a4 μ = some (v, μ')) : sh_G μ' := by
  have ih_43 := (gpl_X7_find sh_fuel)
  unfold f_X7_find at h
  obtain ⟨k25, h⟩ := sh_chk h
  obtain ⟨μ26, hr27, h⟩ := sh_bindv_e h
  have hG26 := gp_X3_copyFrom hG (gRL_261 k25) hq1 hr27
  obtain ⟨μ29, eμ29⟩ : ∃ y : sh_Mem, y = (sh_setI μ26 260 3 a2) := ⟨_, rfl⟩
  rw [sh_let_eq eμ29] at h
  have hG29 : sh_G μ29 := by rw [eμ29]; exact hG26
  obtain ⟨μ30, eμ30⟩ : ∃ y : sh_Mem, y = (sh_setI μ29 260 4 a3) := ⟨_, rfl⟩
  rw [sh_let_eq eμ30] at h
  have hG30 : sh_G μ30 := by rw [eμ30]; exact hG29
  obtain ⟨μ31, eμ31⟩ : ∃ y : sh_Mem, y = (sh_setI μ30 260 5 a4) := ⟨_, rfl⟩
  rw [sh_let_eq eμ31] at h
  have hG31 : sh_G μ31 := by rw [eμ31]; exact hG30
  obtain ⟨k32, h⟩ := sh_chk h
  obtain ⟨r33, er33⟩ : ∃ y : Nat, y = (sh_ref μ31 55 0) := ⟨_, rfl⟩
  rw [sh_let_eq er33] at h
  have k32r : sh_r μ31 55 0 = some r33 ∧ (r33 = 8 ∨ r33 = 29) := by rw [er33]; exact k32
  obtain ⟨y36, μ34, hr35, h⟩ := sh_bind_e h
  have hG34 := gp_X5_topicCounts hG31 k32r.2 hr35
  obtain ⟨k37, h⟩ := sh_chk h
  obtain ⟨μ38, eμ38⟩ : ∃ y : sh_Mem, y = (sh_setI μ34 260 6 y36) := ⟨_, rfl⟩
  rw [sh_let_eq eμ38] at h
  have hG38 : sh_G μ38 := by rw [eμ38]; exact hG34
  exact ih_43 hG38 hq1 h
theorem t_X7_find {q1 : Nat} {a2 : Int32} {a3 : Int32} {a4 : Int32} {μ μ' : sh_Mem} {v : Int32} (hG : sh_G μ) (hq1 : sh_isL q1) (h : f_X7_find q1 a2 a3 a4 μ = some (v, μ')) : sh_C0 l B D ca 22 M_X7_find [.ref 260, .ref q1, .int a2, .int a3, .int a4] μ (fun v0 μ0 => v0 = some (.int v) ∧ μ0 = μ') := by
  have ih_43 := (tl_X7_find (l := l) (B := B) (D := D) (ca := ca) sh_fuel)
  unfold f_X7_find at h
  refine vv_aload_n 0 0 dX7_find_0 rfl rfl ?_
  refine vv_getR 1 dX7_find_1 fl_7_11 rfl (g_l_260 hG) (g_r_260_1 hG) ?_
  refine vv_iconst 4 dX7_find_4 ik_0 ?_
  obtain ⟨k25, h⟩ := sh_chk h
  refine vv_aald 5 dX7_find_5 (g_l_261 hG) k25 (gR_261 hG k25) ?_
  refine vv_aload_n 6 1 dX7_find_6 rfl rfl ?_
  obtain ⟨μ26, hr27, h⟩ := sh_bindv_e h
  refine v1_callV [_] 7 dX7_find_7 ck_X7_26 (gL_l hG (gRL_261 k25)) ⟨by decide, rfl⟩ (t_X3_copyFrom hG (gRL_261 k25) hq1 hr27) (Nat.le_of_ble_eq_true rfl) ⟨Nat.le_of_ble_eq_true rfl, Nat.le_of_ble_eq_true rfl⟩ rfl (Nat.le_of_ble_eq_true rfl) ?_
  have hG26 := gp_X3_copyFrom hG (gRL_261 k25) hq1 hr27
  refine vv_aload_n 10 0 dX7_find_10 rfl rfl ?_
  refine vv_iload_n 11 2 dX7_find_11 rfl rfl ?_
  refine vn_putI 12 dX7_find_12 fl_7_30 (Or.inl rfl) rfl (g_l_260 hG26) (fun μ29 eμ29 => ?_)
  rw [sh_let_eq eμ29] at h
  have hG29 : sh_G μ29 := by rw [eμ29]; exact hG26
  refine vv_aload_n 15 0 dX7_find_15 rfl rfl ?_
  refine vv_iload_n 16 3 dX7_find_16 rfl rfl ?_
  refine vn_putI 17 dX7_find_17 fl_7_34 (Or.inl rfl) rfl (g_l_260 hG29) (fun μ30 eμ30 => ?_)
  rw [sh_let_eq eμ30] at h
  have hG30 : sh_G μ30 := by rw [eμ30]; exact hG29
  refine vv_aload_n 20 0 dX7_find_20 rfl rfl ?_
  refine vv_iload 21 4 dX7_find_21 rfl ?_
  refine vn_putI 23 dX7_find_23 fl_7_37 (Or.inl rfl) rfl (g_l_260 hG30) (fun μ31 eμ31 => ?_)
  rw [sh_let_eq eμ31] at h
  have hG31 : sh_G μ31 := by rw [eμ31]; exact hG30
  refine vv_aload_n 26 0 dX7_find_26 rfl rfl ?_
  refine vv_aload_n 27 0 dX7_find_27 rfl rfl ?_
  refine vv_getR 28 dX7_find_28 fl_7_21 rfl (g_l_260 hG31) (g_r_260_0 hG31) ?_
  obtain ⟨k32, h⟩ := sh_chk h
  refine vv_getR 31 dX7_find_31 fl_7_40 rfl (g_l_55 hG31) k32.1 ?_
  refine vv_topr (fun r33 er33 => ?_)
  rw [sh_let_eq er33] at h
  have k32r : sh_r μ31 55 0 = some r33 ∧ (r33 = 8 ∨ r33 = 29) := by rw [er33]; exact k32
  obtain ⟨y36, μ34, hr35, h⟩ := sh_bind_e h
  refine v1_callV [] 34 dX7_find_34 ck_X7_46 (gP_l hG31 k32r.2) ⟨by decide, rfl⟩ (t_X5_topicCounts hG31 k32r.2 hr35) (Nat.le_of_ble_eq_true rfl) ⟨Nat.le_of_ble_eq_true rfl, Nat.le_of_ble_eq_true rfl⟩ rfl (Nat.le_of_ble_eq_true rfl) ?_
  have hG34 := gp_X5_topicCounts hG31 k32r.2 hr35
  obtain ⟨k37, h⟩ := sh_chk h
  refine vn_putZ 37 dX7_find_37 fl_7_52 (Or.inl rfl) rfl k37 (g_l_260 hG34) (fun μ38 eμ38 => ?_)
  rw [sh_let_eq eμ38] at h
  have hG38 : sh_G μ38 := by rw [eμ38]; exact hG34
  refine vv_iconst 40 dX7_find_40 ik_0 ?_
  refine vv_istore (lv' := [(5, _), (0, _), (1, _), (2, _), (3, _), (4, _)]) 41 5 dX7_find_41 (by decide) rfl ?_
  refine vv_sub [(0, _), (1, _), (2, _), (3, _), (4, _), (5, _)] (sh_subm [1, 2, 3, 4, 5, 0] rfl) ?_
  exact ih_43 hG38 hq1 h
noncomputable def F_X10_describe : Nat → Nat → Nat → Int32 → Nat → Int32 → Int32 → sh_Mem → Option sh_Mem
  | 0, _, _, _, _, _, _, _ => none
  | fuel + 1, lbl, r1, i2, r3, i4, i5, μ => match lbl with
    | 1 => (if 5 ≤ i5 then some μ else (if sh_in (33 + i5) 38 then sh_let (sh_setI μ r3 ((33 + i5)).toNatClampNeg 0) (fun μ28 => (if i4 = 0 then F_X10_describe fuel 1 r1 i2 r3 i4 (i5 + 1) μ28 else (if (sh_r μ28 55 0 = some (sh_ref μ28 55 0) ∧ ((sh_ref μ28 55 0) = 8 ∨ (sh_ref μ28 55 0) = 29)) then sh_let (sh_ref μ28 55 0) (fun r31 => (if (sh_i μ28 r31 2) ≤ i5 then F_X10_describe fuel 1 r1 i2 r3 i4 (i5 + 1) μ28 else sh_bindv (f_X3_copyFrom 57 r1 μ28) (fun μ33 => sh_bind (f_X10_asked 57 i2 i5 μ33) (fun y38 μ36 => (if sh_in (33 + i5) 38 then sh_let (sh_setI μ36 r3 ((33 + i5)).toNatClampNeg (sh_i μ36 55 1)) (fun μ40 => F_X10_describe fuel 1 r1 i2 r3 i4 (i5 + 1) μ40) else none))))) else none))) else none))
    | _ => none
noncomputable def f_X10_describe (q1 : Nat) (a2 : Int32) (g : Nat) (a4 : Int32) (μ : sh_Mem) : Option sh_Mem := sh_bindv (f_X10_gather q1 a2 g μ) (fun μ41 => sh_let (sh_setI μ41 g (Int32.toNatClampNeg 18) a2) (fun μ44 => (if sh_in a2 7 then sh_let (sh_setI μ44 g (Int32.toNatClampNeg 19) (sh_i μ44 (q1 + 2) a2.toNatClampNeg)) (fun μ46 => (if sh_in a2 7 then sh_let (sh_setI μ46 g (Int32.toNatClampNeg 20) (sh_i μ46 (q1 + 3) a2.toNatClampNeg)) (fun μ48 => (if sh_in a2 7 then sh_let (sh_setI μ48 g (Int32.toNatClampNeg 7) (sh_i μ48 (q1 + 5) a2.toNatClampNeg)) (fun μ50 => F_X10_describe sh_fuel 1 q1 a2 g a4 0 μ50) else none)) else none)) else none)))
theorem gpl_X10_describe (fuel : Nat) : (∀ ⦃r1 : Nat⦄ ⦃i2 : Int32⦄ ⦃r3 : Nat⦄ ⦃i4 : Int32⦄ ⦃i5 : Int32⦄ ⦃μ μ' : sh_Mem⦄, sh_G μ → sh_isL r1 → sh_LAY[r3]? = some (13, 38) → F_X10_describe fuel 1 r1 i2 r3 i4 i5 μ = some μ' → sh_G μ') := by
  induction fuel with
  | zero => intro r1 i2 r3 i4 i5 μ μ' hG hr1 hr3 h; cases h
  | succ fuel ih =>
    have ih_45 := ih
    intro r1 i2 r3 i4 i5 μ μ' hG hr1 hr3 h
    replace h : ((if 5 ≤ i5 then some μ else (if sh_in (33 + i5) 38 then sh_let (sh_setI μ r3 ((33 + i5)).toNatClampNeg 0) (fun μ28 => (if i4 = 0 then F_X10_describe fuel 1 r1 i2 r3 i4 (i5 + 1) μ28 else (if (sh_r μ28 55 0 = some (sh_ref μ28 55 0) ∧ ((sh_ref μ28 55 0) = 8 ∨ (sh_ref μ28 55 0) = 29)) then sh_let (sh_ref μ28 55 0) (fun r31 => (if (sh_i μ28 r31 2) ≤ i5 then F_X10_describe fuel 1 r1 i2 r3 i4 (i5 + 1) μ28 else sh_bindv (f_X3_copyFrom 57 r1 μ28) (fun μ33 => sh_bind (f_X10_asked 57 i2 i5 μ33) (fun y38 μ36 => (if sh_in (33 + i5) 38 then sh_let (sh_setI μ36 r3 ((33 + i5)).toNatClampNeg (sh_i μ36 55 1)) (fun μ40 => F_X10_describe fuel 1 r1 i2 r3 i4 (i5 + 1) μ40) else none))))) else none))) else none)) : Option sh_Mem) = some μ' := h
    by_cases c26 : 5 ≤ i5
    · rw [if_pos c26] at h
      have e2 := Option.some.inj h
      exact e2 ▸ hG
    · rw [if_neg c26] at h
      obtain ⟨k27, h⟩ := sh_chk h
      obtain ⟨μ28, eμ28⟩ : ∃ y : sh_Mem, y = (sh_setI μ r3 ((33 + i5)).toNatClampNeg 0) := ⟨_, rfl⟩
      rw [sh_let_eq eμ28] at h
      have hG28 : sh_G μ28 := by rw [eμ28]; exact hG
      by_cases c29 : i4 = 0
      · rw [if_pos c29] at h
        exact ih_45 hG28 hr1 hr3 h
      · rw [if_neg c29] at h
        obtain ⟨k30, h⟩ := sh_chk h
        obtain ⟨r31, er31⟩ : ∃ y : Nat, y = (sh_ref μ28 55 0) := ⟨_, rfl⟩
        rw [sh_let_eq er31] at h
        have k30r : sh_r μ28 55 0 = some r31 ∧ (r31 = 8 ∨ r31 = 29) := by rw [er31]; exact k30
        by_cases c32 : (sh_i μ28 r31 2) ≤ i5
        · rw [if_pos c32] at h
          exact ih_45 hG28 hr1 hr3 h
        · rw [if_neg c32] at h
          obtain ⟨μ33, hr34, h⟩ := sh_bindv_e h
          have hG33 := gp_X3_copyFrom hG28 sh_isL_57 hr1 hr34
          obtain ⟨y38, μ36, hr37, h⟩ := sh_bind_e h
          have hG36 := gp_X10_asked hG33 sh_isL_57 hr37
          obtain ⟨k39, h⟩ := sh_chk h
          obtain ⟨μ40, eμ40⟩ : ∃ y : sh_Mem, y = (sh_setI μ36 r3 ((33 + i5)).toNatClampNeg (sh_i μ36 55 1)) := ⟨_, rfl⟩
          rw [sh_let_eq eμ40] at h
          have hG40 : sh_G μ40 := by rw [eμ40]; exact hG36
          exact ih_45 hG40 hr1 hr3 h
theorem tl_X10_describe (fuel : Nat) : (∀ ⦃r1 : Nat⦄ ⦃i2 : Int32⦄ ⦃r3 : Nat⦄ ⦃i4 : Int32⦄ ⦃i5 : Int32⦄ ⦃μ μ' : sh_Mem⦄, sh_G μ → sh_isL r1 → sh_LAY[r3]? = some (13, 38) → F_X10_describe fuel 1 r1 i2 r3 i4 i5 μ = some μ' → sh_V0 l B D ca 6 M_X10_describe 45 [(0, .ref 55), (1, .ref r1), (2, .int i2), (3, .ref r3), (4, .int i4), (5, .int i5)] [] μ (fun v0 μ0 => v0 = none ∧ μ0 = μ')) := by
  induction fuel with
  | zero => intro r1 i2 r3 i4 i5 μ μ' hG hr1 hr3 h; cases h
  | succ fuel ih =>
    have ih_45 := ih
    intro r1 i2 r3 i4 i5 μ μ' hG hr1 hr3 h
    replace h : ((if 5 ≤ i5 then some μ else (if sh_in (33 + i5) 38 then sh_let (sh_setI μ r3 ((33 + i5)).toNatClampNeg 0) (fun μ28 => (if i4 = 0 then F_X10_describe fuel 1 r1 i2 r3 i4 (i5 + 1) μ28 else (if (sh_r μ28 55 0 = some (sh_ref μ28 55 0) ∧ ((sh_ref μ28 55 0) = 8 ∨ (sh_ref μ28 55 0) = 29)) then sh_let (sh_ref μ28 55 0) (fun r31 => (if (sh_i μ28 r31 2) ≤ i5 then F_X10_describe fuel 1 r1 i2 r3 i4 (i5 + 1) μ28 else sh_bindv (f_X3_copyFrom 57 r1 μ28) (fun μ33 => sh_bind (f_X10_asked 57 i2 i5 μ33) (fun y38 μ36 => (if sh_in (33 + i5) 38 then sh_let (sh_setI μ36 r3 ((33 + i5)).toNatClampNeg (sh_i μ36 55 1)) (fun μ40 => F_X10_describe fuel 1 r1 i2 r3 i4 (i5 + 1) μ40) else none))))) else none))) else none)) : Option sh_Mem) = some μ' := h
    refine vv_iload 45 5 dX10_describe_45 rfl ?_
    refine vv_iconst 47 dX10_describe_47 ik_5 ?_
    refine vv_icmp_ge 48 113 dX10_describe_48 (by decide) (fun c26 => ?_) (fun c26 => ?_)
    · rw [if_pos c26] at h
      have e2 := Option.some.inj h
      refine vv_vret 113 dX10_describe_113 rfl (Nat.le_refl _) (Nat.le_refl _) ⟨rfl, e2⟩
    · rw [if_neg c26] at h
      refine vv_aload_n 51 3 dX10_describe_51 rfl rfl ?_
      refine vv_bipush 52 dX10_describe_52 bk_33 ?_
      refine vv_iload 54 5 dX10_describe_54 rfl ?_
      refine vv_iadd 56 dX10_describe_56 ?_
      refine vv_iconst 57 dX10_describe_57 ik_0 ?_
      obtain ⟨k27, h⟩ := sh_chk h
      refine vn_iast 58 dX10_describe_58 (gA_l hG hr3) k27 (fun μ28 eμ28 => ?_)
      rw [sh_let_eq eμ28] at h
      have hG28 : sh_G μ28 := by rw [eμ28]; exact hG
      refine vv_iload 59 4 dX10_describe_59 rfl ?_
      refine vv_if_eq 61 107 dX10_describe_61 (by decide) (fun c29 => ?_) (fun c29 => ?_)
      · rw [if_pos c29] at h
        refine vv_iincc (lv' := [(5, _), (0, _), (1, _), (2, _), (3, _), (4, _)]) 107 5 dX10_describe_107 rfl ik_1 (by decide) rfl ?_
        refine vv_goto 110 45 dX10_describe_110 (by decide) ?_
        refine vv_sub [(0, _), (1, _), (2, _), (3, _), (4, _), (5, _)] (sh_subm [1, 2, 3, 4, 5, 0] rfl) ?_
        exact ih_45 hG28 hr1 hr3 h
      · rw [if_neg c29] at h
        refine vv_iload 64 5 dX10_describe_64 rfl ?_
        refine vv_aload_n 66 0 dX10_describe_66 rfl rfl ?_
        obtain ⟨k30, h⟩ := sh_chk h
        refine vv_getR 67 dX10_describe_67 fl_10_22 rfl (g_l_55 hG28) k30.1 ?_
        refine vv_topr (fun r31 er31 => ?_)
        rw [sh_let_eq er31] at h
        have k30r : sh_r μ28 55 0 = some r31 ∧ (r31 = 8 ∨ r31 = 29) := by rw [er31]; exact k30
        refine vv_getI 70 dX10_describe_70 fl_10_61 rfl (gP_l hG28 k30r.2) ?_
        refine vv_icmp_ge 73 107 dX10_describe_73 (by decide) (fun c32 => ?_) (fun c32 => ?_)
        · rw [if_pos c32] at h
          refine vv_iincc (lv' := [(5, _), (0, _), (1, _), (2, _), (3, _), (4, _)]) 107 5 dX10_describe_107 rfl ik_1 (by decide) rfl ?_
          refine vv_goto 110 45 dX10_describe_110 (by decide) ?_
          refine vv_sub [(0, _), (1, _), (2, _), (3, _), (4, _), (5, _)] (sh_subm [1, 2, 3, 4, 5, 0] rfl) ?_
          exact ih_45 hG28 hr1 hr3 h
        · rw [if_neg c32] at h
          refine vv_aload_n 76 0 dX10_describe_76 rfl rfl ?_
          refine vv_getR 77 dX10_describe_77 fl_10_18 rfl (g_l_55 hG28) (g_r_55_3 hG28) ?_
          refine vv_aload_n 80 1 dX10_describe_80 rfl rfl ?_
          obtain ⟨μ33, hr34, h⟩ := sh_bindv_e h
          refine v1_callV [_] 81 dX10_describe_81 ck_X10_64 (g_l_57 hG28) ⟨by decide, rfl⟩ (t_X3_copyFrom hG28 sh_isL_57 hr1 hr34) (Nat.le_of_ble_eq_true rfl) ⟨Nat.le_of_ble_eq_true rfl, Nat.le_of_ble_eq_true rfl⟩ rfl (Nat.le_of_ble_eq_true rfl) ?_
          have hG33 := gp_X3_copyFrom hG28 sh_isL_57 hr1 hr34
          refine vv_aload_n 84 0 dX10_describe_84 rfl rfl ?_
          refine vv_aload_n 85 0 dX10_describe_85 rfl rfl ?_
          refine vv_getR 86 dX10_describe_86 fl_10_18 rfl (g_l_55 hG33) (g_r_55_3 hG33) ?_
          refine vv_iload_n 89 2 dX10_describe_89 rfl rfl ?_
          refine vv_iload 90 5 dX10_describe_90 rfl ?_
          obtain ⟨y38, μ36, hr37, h⟩ := sh_bind_e h
          refine v1_callV [_, _, _] 92 dX10_describe_92 ck_X10_68 (g_l_55 hG33) ⟨by decide, rfl⟩ (t_X10_asked hG33 sh_isL_57 hr37) (Nat.le_of_ble_eq_true rfl) ⟨Nat.le_of_ble_eq_true rfl, Nat.le_of_ble_eq_true rfl⟩ rfl (Nat.le_of_ble_eq_true rfl) ?_
          have hG36 := gp_X10_asked hG33 sh_isL_57 hr37
          refine vv_pop 95 dX10_describe_95 ?_
          refine vv_aload_n 96 3 dX10_describe_96 rfl rfl ?_
          refine vv_bipush 97 dX10_describe_97 bk_33 ?_
          refine vv_iload 99 5 dX10_describe_99 rfl ?_
          refine vv_iadd 101 dX10_describe_101 ?_
          refine vv_aload_n 102 0 dX10_describe_102 rfl rfl ?_
          refine vv_getI 103 dX10_describe_103 fl_10_72 rfl (g_l_55 hG36) ?_
          obtain ⟨k39, h⟩ := sh_chk h
          refine vn_iast 106 dX10_describe_106 (gA_l hG36 hr3) k39 (fun μ40 eμ40 => ?_)
          rw [sh_let_eq eμ40] at h
          have hG40 : sh_G μ40 := by rw [eμ40]; exact hG36
          refine vv_iincc (lv' := [(5, _), (0, _), (1, _), (2, _), (3, _), (4, _)]) 107 5 dX10_describe_107 rfl ik_1 (by decide) rfl ?_
          refine vv_goto 110 45 dX10_describe_110 (by decide) ?_
          refine vv_sub [(0, _), (1, _), (2, _), (3, _), (4, _), (5, _)] (sh_subm [1, 2, 3, 4, 5, 0] rfl) ?_
          exact ih_45 hG40 hr1 hr3 h
theorem gp_X10_describe {q1 : Nat} {a2 : Int32} {g : Nat} {a4 : Int32} {μ μ' : sh_Mem} (hG : sh_G μ) (hq1 : sh_isL q1) (hg : sh_LAY[g]? = some (13, 38)) (h : f_X10_describe q1 a2 g a4 μ = some μ') : sh_G μ' := by
  have ih_45 := (gpl_X10_describe sh_fuel)
  unfold f_X10_describe at h
  obtain ⟨μ41, hr42, h⟩ := sh_bindv_e h
  have hG41 := gp_X10_gather hG hq1 hg hr42
  obtain ⟨μ44, eμ44⟩ : ∃ y : sh_Mem, y = (sh_setI μ41 g (Int32.toNatClampNeg 18) a2) := ⟨_, rfl⟩
  rw [sh_let_eq eμ44] at h
  have hG44 : sh_G μ44 := by rw [eμ44]; exact hG41
  obtain ⟨k45, h⟩ := sh_chk h
  obtain ⟨μ46, eμ46⟩ : ∃ y : sh_Mem, y = (sh_setI μ44 g (Int32.toNatClampNeg 19) (sh_i μ44 (q1 + 2) a2.toNatClampNeg)) := ⟨_, rfl⟩
  rw [sh_let_eq eμ46] at h
  have hG46 : sh_G μ46 := by rw [eμ46]; exact hG44
  obtain ⟨k47, h⟩ := sh_chk h
  obtain ⟨μ48, eμ48⟩ : ∃ y : sh_Mem, y = (sh_setI μ46 g (Int32.toNatClampNeg 20) (sh_i μ46 (q1 + 3) a2.toNatClampNeg)) := ⟨_, rfl⟩
  rw [sh_let_eq eμ48] at h
  have hG48 : sh_G μ48 := by rw [eμ48]; exact hG46
  obtain ⟨k49, h⟩ := sh_chk h
  obtain ⟨μ50, eμ50⟩ : ∃ y : sh_Mem, y = (sh_setI μ48 g (Int32.toNatClampNeg 7) (sh_i μ48 (q1 + 5) a2.toNatClampNeg)) := ⟨_, rfl⟩
  rw [sh_let_eq eμ50] at h
  have hG50 : sh_G μ50 := by rw [eμ50]; exact hG48
  exact ih_45 hG50 hq1 hg h
theorem t_X10_describe {q1 : Nat} {a2 : Int32} {g : Nat} {a4 : Int32} {μ μ' : sh_Mem} (hG : sh_G μ) (hq1 : sh_isL q1) (hg : sh_LAY[g]? = some (13, 38)) (h : f_X10_describe q1 a2 g a4 μ = some μ') : sh_C0 l B D ca 6 M_X10_describe [.ref 55, .ref q1, .int a2, .ref g, .int a4] μ (fun v0 μ0 => v0 = none ∧ μ0 = μ') := by
  have ih_45 := (tl_X10_describe (l := l) (B := B) (D := D) (ca := ca) sh_fuel)
  unfold f_X10_describe at h
  refine vv_aload_n 0 0 dX10_describe_0 rfl rfl ?_
  refine vv_aload_n 1 1 dX10_describe_1 rfl rfl ?_
  refine vv_iload_n 2 2 dX10_describe_2 rfl rfl ?_
  refine vv_aload_n 3 3 dX10_describe_3 rfl rfl ?_
  obtain ⟨μ41, hr42, h⟩ := sh_bindv_e h
  refine v1_callV [_, _, _] 4 dX10_describe_4 ck_X10_57 (g_l_55 hG) ⟨by decide, rfl⟩ (t_X10_gather hG hq1 hg hr42) (Nat.le_of_ble_eq_true rfl) ⟨Nat.le_of_ble_eq_true rfl, Nat.le_of_ble_eq_true rfl⟩ rfl (Nat.le_of_ble_eq_true rfl) ?_
  have hG41 := gp_X10_gather hG hq1 hg hr42
  refine vv_aload_n 7 3 dX10_describe_7 rfl rfl ?_
  refine vv_bipush 8 dX10_describe_8 bk_18 ?_
  refine vv_iload_n 10 2 dX10_describe_10 rfl rfl ?_
  refine vn_iast 11 dX10_describe_11 (gA_l hG41 hg) (by unfold vp_in; decide) (fun μ44 eμ44 => ?_)
  rw [sh_let_eq eμ44] at h
  have hG44 : sh_G μ44 := by rw [eμ44]; exact hG41
  refine vv_aload_n 12 3 dX10_describe_12 rfl rfl ?_
  refine vv_bipush 13 dX10_describe_13 bk_19 ?_
  refine vv_aload_n 15 1 dX10_describe_15 rfl rfl ?_
  refine vv_getR 16 dX10_describe_16 fl_10_26 rfl (gL_l hG44 hq1) (gL_r2 hG44 hq1) ?_
  refine vv_iload_n 19 2 dX10_describe_19 rfl rfl ?_
  obtain ⟨k45, h⟩ := sh_chk h
  refine vv_iald 20 dX10_describe_20 (gA_l hG44 (gLA2 hq1)) k45 ?_
  refine vn_iast 21 dX10_describe_21 (gA_l hG44 hg) (by unfold vp_in; decide) (fun μ46 eμ46 => ?_)
  rw [sh_let_eq eμ46] at h
  have hG46 : sh_G μ46 := by rw [eμ46]; exact hG44
  refine vv_aload_n 22 3 dX10_describe_22 rfl rfl ?_
  refine vv_bipush 23 dX10_describe_23 bk_20 ?_
  refine vv_aload_n 25 1 dX10_describe_25 rfl rfl ?_
  refine vv_getR 26 dX10_describe_26 fl_10_29 rfl (gL_l hG46 hq1) (gL_r3 hG46 hq1) ?_
  refine vv_iload_n 29 2 dX10_describe_29 rfl rfl ?_
  obtain ⟨k47, h⟩ := sh_chk h
  refine vv_iald 30 dX10_describe_30 (gA_l hG46 (gLA3 hq1)) k47 ?_
  refine vn_iast 31 dX10_describe_31 (gA_l hG46 hg) (by unfold vp_in; decide) (fun μ48 eμ48 => ?_)
  rw [sh_let_eq eμ48] at h
  have hG48 : sh_G μ48 := by rw [eμ48]; exact hG46
  refine vv_aload_n 32 3 dX10_describe_32 rfl rfl ?_
  refine vv_bipush 33 dX10_describe_33 bk_7 ?_
  refine vv_aload_n 35 1 dX10_describe_35 rfl rfl ?_
  refine vv_getR 36 dX10_describe_36 fl_10_44 rfl (gL_l hG48 hq1) (gL_r5 hG48 hq1) ?_
  refine vv_iload_n 39 2 dX10_describe_39 rfl rfl ?_
  obtain ⟨k49, h⟩ := sh_chk h
  refine vv_iald 40 dX10_describe_40 (gA_l hG48 (gLA5 hq1)) k49 ?_
  refine vn_iast 41 dX10_describe_41 (gA_l hG48 hg) (by unfold vp_in; decide) (fun μ50 eμ50 => ?_)
  rw [sh_let_eq eμ50] at h
  have hG50 : sh_G μ50 := by rw [eμ50]; exact hG48
  refine vv_iconst 42 dX10_describe_42 ik_0 ?_
  refine vv_istore (lv' := [(5, _), (0, _), (1, _), (2, _), (3, _), (4, _)]) 43 5 dX10_describe_43 (by decide) rfl ?_
  refine vv_sub [(0, _), (1, _), (2, _), (3, _), (4, _), (5, _)] (sh_subm [1, 2, 3, 4, 5, 0] rfl) ?_
  exact ih_45 hG50 hq1 hg h
noncomputable def f_X11_plain (μ : sh_Mem) : Option (Int32 × sh_Mem) := sh_bind (f_X11_takeTape μ) (fun y3 μ1 => sh_bindv (f_X8_begin y3 μ1) (fun μ4 => sh_bind (f_X6_read μ4) (fun y9 μ7 => sh_bindv (f_X11_noteFault μ7) (fun μ10 => (if (sh_i μ10 2 10) = 0 then (if (sh_r μ10 0 7 = some (sh_ref μ10 0 7) ∧ ((sh_ref μ10 0 7) = 8 ∨ (sh_ref μ10 0 7) = 29)) then sh_let (sh_ref μ10 0 7) (fun r15 => (if (sh_r μ10 7 2 = some (sh_ref μ10 7 2) ∧ ((sh_ref μ10 7 2) = 8 ∨ (sh_ref μ10 7 2) = 29)) then sh_let (sh_ref μ10 7 2) (fun r17 => sh_let (sh_setR μ10 0 7 (some r17)) (fun μ18 => sh_let (sh_setR μ18 7 2 (some r15)) (fun μ19 => (if (sh_r μ19 0 7 = some (sh_ref μ19 0 7) ∧ ((sh_ref μ19 0 7) = 8 ∨ (sh_ref μ19 0 7) = 29)) then sh_let (sh_ref μ19 0 7) (fun r21 => sh_let (sh_setR μ19 55 0 (some r21)) (fun μ22 => (if (sh_r μ22 0 7 = some (sh_ref μ22 0 7) ∧ ((sh_ref μ22 0 7) = 8 ∨ (sh_ref μ22 0 7) = 29)) then sh_let (sh_ref μ22 0 7) (fun r24 => sh_bindv (f_X3_copyFrom 49 (r24 + 14) μ22) (fun μ25 => sh_bindv (f_X4_forget μ25) (fun μ28 => sh_let (sh_setI μ28 208 4 0) (fun μ31 => some (y9, μ31))))) else none))) else none)))) else none)) else none) else sh_bind (f_X11_refuseNumber 1 μ10) (fun y34 μ32 => some (y34, μ32)))))))
theorem gp_X11_plain {μ μ' : sh_Mem} {v : Int32} (hG : sh_G μ) (h : f_X11_plain μ = some (v, μ')) : sh_G μ' := by
  unfold f_X11_plain at h
  obtain ⟨y3, μ1, hr2, h⟩ := sh_bind_e h
  have hG1 := gp_X11_takeTape hG hr2
  obtain ⟨μ4, hr5, h⟩ := sh_bindv_e h
  have hG4 := gp_X8_begin hG1 hr5
  obtain ⟨y9, μ7, hr8, h⟩ := sh_bind_e h
  have hG7 := gp_X6_read hG4 hr8
  obtain ⟨μ10, hr11, h⟩ := sh_bindv_e h
  have hG10 := gp_X11_noteFault hG7 hr11
  by_cases c13 : (sh_i μ10 2 10) = 0
  · rw [if_pos c13] at h
    obtain ⟨k14, h⟩ := sh_chk h
    obtain ⟨r15, er15⟩ : ∃ y : Nat, y = (sh_ref μ10 0 7) := ⟨_, rfl⟩
    rw [sh_let_eq er15] at h
    have k14r : sh_r μ10 0 7 = some r15 ∧ (r15 = 8 ∨ r15 = 29) := by rw [er15]; exact k14
    obtain ⟨k16, h⟩ := sh_chk h
    obtain ⟨r17, er17⟩ : ∃ y : Nat, y = (sh_ref μ10 7 2) := ⟨_, rfl⟩
    rw [sh_let_eq er17] at h
    have k16r : sh_r μ10 7 2 = some r17 ∧ (r17 = 8 ∨ r17 = 29) := by rw [er17]; exact k16
    obtain ⟨μ18, eμ18⟩ : ∃ y : sh_Mem, y = (sh_setR μ10 0 7 (some r17)) := ⟨_, rfl⟩
    rw [sh_let_eq eμ18] at h
    have hG18 : sh_G μ18 := by rw [eμ18]; exact hG10.setR (by decide +kernel)
    obtain ⟨μ19, eμ19⟩ : ∃ y : sh_Mem, y = (sh_setR μ18 7 2 (some r15)) := ⟨_, rfl⟩
    rw [sh_let_eq eμ19] at h
    have hG19 : sh_G μ19 := by rw [eμ19]; exact hG18.setR (by decide +kernel)
    obtain ⟨k20, h⟩ := sh_chk h
    obtain ⟨r21, er21⟩ : ∃ y : Nat, y = (sh_ref μ19 0 7) := ⟨_, rfl⟩
    rw [sh_let_eq er21] at h
    have k20r : sh_r μ19 0 7 = some r21 ∧ (r21 = 8 ∨ r21 = 29) := by rw [er21]; exact k20
    obtain ⟨μ22, eμ22⟩ : ∃ y : sh_Mem, y = (sh_setR μ19 55 0 (some r21)) := ⟨_, rfl⟩
    rw [sh_let_eq eμ22] at h
    have hG22 : sh_G μ22 := by rw [eμ22]; exact hG19.setR (by decide +kernel)
    obtain ⟨k23, h⟩ := sh_chk h
    obtain ⟨r24, er24⟩ : ∃ y : Nat, y = (sh_ref μ22 0 7) := ⟨_, rfl⟩
    rw [sh_let_eq er24] at h
    have k23r : sh_r μ22 0 7 = some r24 ∧ (r24 = 8 ∨ r24 = 29) := by rw [er24]; exact k23
    obtain ⟨μ25, hr26, h⟩ := sh_bindv_e h
    have hG25 := gp_X3_copyFrom hG22 sh_isL_49 (gP_land k23r.2) hr26
    obtain ⟨μ28, hr29, h⟩ := sh_bindv_e h
    have hG28 := gp_X4_forget hG25 hr29
    obtain ⟨μ31, eμ31⟩ : ∃ y : sh_Mem, y = (sh_setI μ28 208 4 0) := ⟨_, rfl⟩
    rw [sh_let_eq eμ31] at h
    have hG31 : sh_G μ31 := by rw [eμ31]; exact hG28
    obtain ⟨e1, e2⟩ := sh_some2 h
    exact e2 ▸ hG31
  · rw [if_neg c13] at h
    obtain ⟨y34, μ32, hr33, h⟩ := sh_bind_e h
    have hG32 := gp_X11_refuseNumber hG10 hr33
    obtain ⟨e1, e2⟩ := sh_some2 h
    exact e2 ▸ hG32
theorem t_X11_plain {μ μ' : sh_Mem} {v : Int32} (hG : sh_G μ) (h : f_X11_plain μ = some (v, μ')) : sh_C0 l B D ca 75 M_X11_plain [.ref 0] μ (fun v0 μ0 => v0 = some (.int v) ∧ μ0 = μ') := by
  unfold f_X11_plain at h
  refine vv_aload_n 0 0 dX11_plain_0 rfl rfl ?_
  refine vv_getR 1 dX11_plain_1 fl_11_18 rfl (g_l_0 hG) (g_r_0_2 hG) ?_
  refine vv_aload_n 4 0 dX11_plain_4 rfl rfl ?_
  obtain ⟨y3, μ1, hr2, h⟩ := sh_bind_e h
  refine v1_callV [] 5 dX11_plain_5 ck_X11_132 (g_l_0 hG) ⟨by decide, rfl⟩ (t_X11_takeTape hG hr2) (Nat.le_of_ble_eq_true rfl) ⟨Nat.le_of_ble_eq_true rfl, Nat.le_of_ble_eq_true rfl⟩ rfl (Nat.le_of_ble_eq_true rfl) ?_
  have hG1 := gp_X11_takeTape hG hr2
  obtain ⟨μ4, hr5, h⟩ := sh_bindv_e h
  refine v1_callV [_] 8 dX11_plain_8 ck_X11_136 (g_l_2 hG1) ⟨by decide, rfl⟩ (t_X8_begin hG1 hr5) (Nat.le_of_ble_eq_true rfl) ⟨Nat.le_of_ble_eq_true rfl, Nat.le_of_ble_eq_true rfl⟩ rfl (Nat.le_of_ble_eq_true rfl) ?_
  have hG4 := gp_X8_begin hG1 hr5
  refine vv_aload_n 11 0 dX11_plain_11 rfl rfl ?_
  refine vv_getR 12 dX11_plain_12 fl_11_43 rfl (g_l_0 hG4) (g_r_0_5 hG4) ?_
  obtain ⟨y9, μ7, hr8, h⟩ := sh_bind_e h
  refine v1_callV [] 15 dX11_plain_15 ck_X11_139 (g_l_7 hG4) ⟨by decide, rfl⟩ (t_X6_read hG4 hr8) (Nat.le_of_ble_eq_true rfl) ⟨Nat.le_of_ble_eq_true rfl, Nat.le_of_ble_eq_true rfl⟩ rfl (Nat.le_of_ble_eq_true rfl) ?_
  have hG7 := gp_X6_read hG4 hr8
  refine vv_istore_n (lv' := [(1, _), (0, _)]) 18 1 dX11_plain_18 rfl (by decide) rfl ?_
  refine vv_aload_n 19 0 dX11_plain_19 rfl rfl ?_
  obtain ⟨μ10, hr11, h⟩ := sh_bindv_e h
  refine v1_callV [] 20 dX11_plain_20 ck_X11_142 (g_l_0 hG7) ⟨by decide, rfl⟩ (t_X11_noteFault hG7 hr11) (Nat.le_of_ble_eq_true rfl) ⟨Nat.le_of_ble_eq_true rfl, Nat.le_of_ble_eq_true rfl⟩ rfl (Nat.le_of_ble_eq_true rfl) ?_
  have hG10 := gp_X11_noteFault hG7 hr11
  refine vv_aload_n 23 0 dX11_plain_23 rfl rfl ?_
  refine vv_getR 24 dX11_plain_24 fl_11_18 rfl (g_l_0 hG10) (g_r_0_2 hG10) ?_
  refine vv_getI 27 dX11_plain_27 fl_11_145 rfl (g_l_2 hG10) ?_
  refine vv_if_eq 30 39 dX11_plain_30 (by decide) (fun c13 => ?_) (fun c13 => ?_)
  · rw [if_pos c13] at h
    refine vv_aload_n 39 0 dX11_plain_39 rfl rfl ?_
    obtain ⟨k14, h⟩ := sh_chk h
    refine vv_getR 40 dX11_plain_40 fl_11_53 rfl (g_l_0 hG10) k14.1 ?_
    refine vv_topr (fun r15 er15 => ?_)
    rw [sh_let_eq er15] at h
    have k14r : sh_r μ10 0 7 = some r15 ∧ (r15 = 8 ∨ r15 = 29) := by rw [er15]; exact k14
    refine vv_astore_n (lv' := [(2, _), (1, _), (0, _)]) 43 2 dX11_plain_43 rfl (by decide) rfl ?_
    refine vv_aload_n 44 0 dX11_plain_44 rfl rfl ?_
    refine vv_aload_n 45 0 dX11_plain_45 rfl rfl ?_
    refine vv_getR 46 dX11_plain_46 fl_11_43 rfl (g_l_0 hG10) (g_r_0_5 hG10) ?_
    obtain ⟨k16, h⟩ := sh_chk h
    refine vv_getR 49 dX11_plain_49 fl_11_148 rfl (g_l_7 hG10) k16.1 ?_
    refine vv_topr (fun r17 er17 => ?_)
    rw [sh_let_eq er17] at h
    have k16r : sh_r μ10 7 2 = some r17 ∧ (r17 = 8 ∨ r17 = 29) := by rw [er17]; exact k16
    refine vn_putR 52 dX11_plain_52 fl_11_53 (Or.inl rfl) rfl (g_l_0 hG10) (fun μ18 eμ18 => ?_)
    rw [sh_let_eq eμ18] at h
    have hG18 : sh_G μ18 := by rw [eμ18]; exact hG10.setR (by decide +kernel)
    refine vv_aload_n 55 0 dX11_plain_55 rfl rfl ?_
    refine vv_getR 56 dX11_plain_56 fl_11_43 rfl (g_l_0 hG18) (g_r_0_5 hG18) ?_
    refine vv_aload_n 59 2 dX11_plain_59 rfl rfl ?_
    refine vn_putR 60 dX11_plain_60 fl_11_148 (Or.inl rfl) rfl (g_l_7 hG18) (fun μ19 eμ19 => ?_)
    rw [sh_let_eq eμ19] at h
    have hG19 : sh_G μ19 := by rw [eμ19]; exact hG18.setR (by decide +kernel)
    refine vv_aload_n 63 0 dX11_plain_63 rfl rfl ?_
    refine vv_getR 64 dX11_plain_64 fl_11_69 rfl (g_l_0 hG19) (g_r_0_9 hG19) ?_
    refine vv_aload_n 67 0 dX11_plain_67 rfl rfl ?_
    obtain ⟨k20, h⟩ := sh_chk h
    refine vv_getR 68 dX11_plain_68 fl_11_53 rfl (g_l_0 hG19) k20.1 ?_
    refine vv_topr (fun r21 er21 => ?_)
    rw [sh_let_eq er21] at h
    have k20r : sh_r μ19 0 7 = some r21 ∧ (r21 = 8 ∨ r21 = 29) := by rw [er21]; exact k20
    refine vn_putR 71 dX11_plain_71 fl_11_151 (Or.inl rfl) rfl (g_l_55 hG19) (fun μ22 eμ22 => ?_)
    rw [sh_let_eq eμ22] at h
    have hG22 : sh_G μ22 := by rw [eμ22]; exact hG19.setR (by decide +kernel)
    refine vv_aload_n 74 0 dX11_plain_74 rfl rfl ?_
    refine vv_getR 75 dX11_plain_75 fl_11_60 rfl (g_l_0 hG22) (g_r_0_8 hG22) ?_
    refine vv_aload_n 78 0 dX11_plain_78 rfl rfl ?_
    obtain ⟨k23, h⟩ := sh_chk h
    refine vv_getR 79 dX11_plain_79 fl_11_53 rfl (g_l_0 hG22) k23.1 ?_
    refine vv_topr (fun r24 er24 => ?_)
    rw [sh_let_eq er24] at h
    have k23r : sh_r μ22 0 7 = some r24 ∧ (r24 = 8 ∨ r24 = 29) := by rw [er24]; exact k23
    refine vv_getR 82 dX11_plain_82 fl_11_152 rfl (gP_l hG22 k23r.2) (gP_r16 hG22 k23r.2) ?_
    obtain ⟨μ25, hr26, h⟩ := sh_bindv_e h
    refine v1_callV [_] 85 dX11_plain_85 ck_X11_155 (g_l_49 hG22) ⟨by decide, rfl⟩ (t_X3_copyFrom hG22 sh_isL_49 (gP_land k23r.2) hr26) (Nat.le_of_ble_eq_true rfl) ⟨Nat.le_of_ble_eq_true rfl, Nat.le_of_ble_eq_true rfl⟩ rfl (Nat.le_of_ble_eq_true rfl) ?_
    have hG25 := gp_X3_copyFrom hG22 sh_isL_49 (gP_land k23r.2) hr26
    refine vv_aload_n 88 0 dX11_plain_88 rfl rfl ?_
    refine vv_getR 89 dX11_plain_89 fl_11_76 rfl (g_l_0 hG25) (g_r_0_10 hG25) ?_
    obtain ⟨μ28, hr29, h⟩ := sh_bindv_e h
    refine v1_callV [] 92 dX11_plain_92 ck_X11_159 (g_l_63 hG25) ⟨by decide, rfl⟩ (t_X4_forget hG25 hr29) (Nat.le_of_ble_eq_true rfl) ⟨Nat.le_of_ble_eq_true rfl, Nat.le_of_ble_eq_true rfl⟩ rfl (Nat.le_of_ble_eq_true rfl) ?_
    have hG28 := gp_X4_forget hG25 hr29
    refine vv_aload_n 95 0 dX11_plain_95 rfl rfl ?_
    refine vv_getR 96 dX11_plain_96 fl_11_85 rfl (g_l_0 hG28) (g_r_0_11 hG28) ?_
    refine vv_iconst 99 dX11_plain_99 ik_0 ?_
    refine vn_putI 100 dX11_plain_100 fl_11_162 (Or.inl rfl) rfl (g_l_208 hG28) (fun μ31 eμ31 => ?_)
    rw [sh_let_eq eμ31] at h
    have hG31 : sh_G μ31 := by rw [eμ31]; exact hG28
    refine vv_iload_n 103 1 dX11_plain_103 rfl rfl ?_
    obtain ⟨e1, e2⟩ := sh_some2 h
    refine vv_iret 104 dX11_plain_104 rfl (Nat.le_refl _) (Nat.le_refl _) ⟨by rw [e1], e2⟩
  · rw [if_neg c13] at h
    refine vv_aload_n 33 0 dX11_plain_33 rfl rfl ?_
    refine vv_iconst 34 dX11_plain_34 ik_1 ?_
    obtain ⟨y34, μ32, hr33, h⟩ := sh_bind_e h
    refine v1_callV [_] 35 dX11_plain_35 ck_X11_120 (g_l_0 hG10) ⟨by decide, rfl⟩ (t_X11_refuseNumber hG10 hr33) (Nat.le_of_ble_eq_true rfl) ⟨Nat.le_of_ble_eq_true rfl, Nat.le_of_ble_eq_true rfl⟩ rfl (Nat.le_of_ble_eq_true rfl) ?_
    have hG32 := gp_X11_refuseNumber hG10 hr33
    obtain ⟨e1, e2⟩ := sh_some2 h
    refine vv_iret 38 dX11_plain_38 rfl (Nat.le_refl _) (Nat.le_refl _) ⟨by rw [e1], e2⟩
noncomputable def f_X11_later (a1 : Int32) (a2 : Int32) (a3 : Int32) (μ : sh_Mem) : Option (Int32 × sh_Mem) := (if (sh_r μ 0 7 = some (sh_ref μ 0 7) ∧ ((sh_ref μ 0 7) = 8 ∨ (sh_ref μ 0 7) = 29)) then sh_let (sh_ref μ 0 7) (fun r2 => sh_let ((f_X5_cellAt μ r2 a1 a2) : Int32) (fun x3 => (if x3 = (-1) then some ((-1), μ) else sh_bind (f_X11_isAhead a3 0 60 μ) (fun y7 μ5 => (if y7 = 0 then some ((-1), μ5) else sh_bindv (f_X0_behind 49 a3 0 μ5) (fun μ9 => (if sh_in x3 49 then some ((sh_i μ9 210 x3.toNatClampNeg), μ9) else none))))))) else none)
theorem gp_X11_later {a1 : Int32} {a2 : Int32} {a3 : Int32} {μ μ' : sh_Mem} {v : Int32} (hG : sh_G μ) (h : f_X11_later a1 a2 a3 μ = some (v, μ')) : sh_G μ' := by
  unfold f_X11_later at h
  obtain ⟨k1, h⟩ := sh_chk h
  obtain ⟨r2, er2⟩ : ∃ y : Nat, y = (sh_ref μ 0 7) := ⟨_, rfl⟩
  rw [sh_let_eq er2] at h
  have k1r : sh_r μ 0 7 = some r2 ∧ (r2 = 8 ∨ r2 = 29) := by rw [er2]; exact k1
  obtain ⟨x3, ex3⟩ : ∃ y : Int32, y = (f_X5_cellAt μ r2 a1 a2) := ⟨_, rfl⟩
  rw [sh_let_eq ex3] at h
  by_cases c4 : x3 = (-1)
  · rw [if_pos c4] at h
    obtain ⟨e1, e2⟩ := sh_some2 h
    exact e2 ▸ hG
  · rw [if_neg c4] at h
    obtain ⟨y7, μ5, hr6, h⟩ := sh_bind_e h
    have hG5 := gp_X11_isAhead hG hr6
    by_cases c8 : y7 = 0
    · rw [if_pos c8] at h
      obtain ⟨e1, e2⟩ := sh_some2 h
      exact e2 ▸ hG5
    · rw [if_neg c8] at h
      obtain ⟨μ9, hr10, h⟩ := sh_bindv_e h
      have hG9 := gp_X0_behind hG5 sh_isL_49 hr10
      obtain ⟨k12, h⟩ := sh_chk h
      obtain ⟨e1, e2⟩ := sh_some2 h
      exact e2 ▸ hG9
theorem t_X11_later {a1 : Int32} {a2 : Int32} {a3 : Int32} {μ μ' : sh_Mem} {v : Int32} (hG : sh_G μ) (h : f_X11_later a1 a2 a3 μ = some (v, μ')) : sh_C0 l B D ca 8 M_X11_later [.ref 0, .int a1, .int a2, .int a3] μ (fun v0 μ0 => v0 = some (.int v) ∧ μ0 = μ') := by
  unfold f_X11_later at h
  refine vv_aload_n 0 0 dX11_later_0 rfl rfl ?_
  obtain ⟨k1, h⟩ := sh_chk h
  refine vv_getR 1 dX11_later_1 fl_11_53 rfl (g_l_0 hG) k1.1 ?_
  refine vv_topr (fun r2 er2 => ?_)
  rw [sh_let_eq er2] at h
  have k1r : sh_r μ 0 7 = some r2 ∧ (r2 = 8 ∨ r2 = 29) := by rw [er2]; exact k1
  refine vv_iload_n 4 1 dX11_later_4 rfl rfl ?_
  refine vv_iload_n 5 2 dX11_later_5 rfl rfl ?_
  refine v1_callV [_, _] 6 dX11_later_6 ck_X11_217 (gP_l hG k1r.2) ⟨by decide, rfl⟩ (c_X5_cellAt (μ := μ) hG k1r.2) (Nat.le_of_ble_eq_true rfl) ⟨Nat.le_of_ble_eq_true rfl, Nat.le_of_ble_eq_true rfl⟩ rfl (Nat.le_of_ble_eq_true rfl) ?_
  refine vv_topi (fun x3 ex3 => ?_)
  rw [sh_let_eq ex3] at h
  refine vv_istore (lv' := [(4, _), (0, _), (1, _), (2, _), (3, _)]) 9 4 dX11_later_9 (by decide) rfl ?_
  refine vv_iload 11 4 dX11_later_11 rfl ?_
  refine vv_iconst 13 dX11_later_13 ik_m1 ?_
  refine vv_icmp_eq 14 28 dX11_later_14 (by decide) (fun c4 => ?_) (fun c4 => ?_)
  · rw [if_pos c4] at h
    refine vv_iconst 28 dX11_later_28 ik_m1 ?_
    obtain ⟨e1, e2⟩ := sh_some2 h
    refine vv_iret 29 dX11_later_29 rfl (Nat.le_refl _) (Nat.le_refl _) ⟨by rw [e1], e2⟩
  · rw [if_neg c4] at h
    refine vv_aload_n 17 0 dX11_later_17 rfl rfl ?_
    refine vv_iload_n 18 3 dX11_later_18 rfl rfl ?_
    refine vv_iconst 19 dX11_later_19 ik_0 ?_
    refine vv_bipush 20 dX11_later_20 bk_60 ?_
    obtain ⟨y7, μ5, hr6, h⟩ := sh_bind_e h
    refine v1_callV [_, _, _] 22 dX11_later_22 ck_X11_252 (g_l_0 hG) ⟨by decide, rfl⟩ (t_X11_isAhead hG hr6) (Nat.le_of_ble_eq_true rfl) ⟨Nat.le_of_ble_eq_true rfl, Nat.le_of_ble_eq_true rfl⟩ rfl (Nat.le_of_ble_eq_true rfl) ?_
    have hG5 := gp_X11_isAhead hG hr6
    refine vv_if_ne 25 30 dX11_later_25 (by decide) (fun c8 => ?_) (fun c8 => ?_)
    · rw [if_neg c8] at h
      refine vv_aload_n 30 0 dX11_later_30 rfl rfl ?_
      refine vv_getR 31 dX11_later_31 fl_11_85 rfl (g_l_0 hG5) (g_r_0_11 hG5) ?_
      refine vv_aload_n 34 0 dX11_later_34 rfl rfl ?_
      refine vv_getR 35 dX11_later_35 fl_11_60 rfl (g_l_0 hG5) (g_r_0_8 hG5) ?_
      refine vv_iload_n 38 3 dX11_later_38 rfl rfl ?_
      refine vv_iconst 39 dX11_later_39 ik_0 ?_
      obtain ⟨μ9, hr10, h⟩ := sh_bindv_e h
      refine v1_callV [_, _, _] 40 dX11_later_40 ck_X11_256 (g_l_208 hG5) ⟨by decide, rfl⟩ (t_X0_behind hG5 sh_isL_49 hr10) (Nat.le_of_ble_eq_true rfl) ⟨Nat.le_of_ble_eq_true rfl, Nat.le_of_ble_eq_true rfl⟩ rfl (Nat.le_of_ble_eq_true rfl) ?_
      have hG9 := gp_X0_behind hG5 sh_isL_49 hr10
      refine vv_getR 43 dX11_later_43 fl_11_220 rfl (g_l_209 hG9) (g_r_209_1 hG9) ?_
      refine vv_iload 46 4 dX11_later_46 rfl ?_
      obtain ⟨k12, h⟩ := sh_chk h
      refine vv_iald 48 dX11_later_48 (g_l_210 hG9) k12 ?_
      obtain ⟨e1, e2⟩ := sh_some2 h
      refine vv_iret 49 dX11_later_49 rfl (Nat.le_refl _) (Nat.le_refl _) ⟨by rw [e1], e2⟩
    · rw [if_pos c8] at h
      refine vv_iconst 28 dX11_later_28 ik_m1 ?_
      obtain ⟨e1, e2⟩ := sh_some2 h
      refine vv_iret 29 dX11_later_29 rfl (Nat.le_refl _) (Nat.le_refl _) ⟨by rw [e1], e2⟩
noncomputable def f_X11_tired (a1 : Int32) (a2 : Int32) (μ : sh_Mem) : Option (Int32 × sh_Mem) := sh_bind (f_X11_isPerson a1 μ) (fun y3 μ1 => (if y3 = 0 then some ((-1), μ1) else sh_bind (f_X11_isAhead a2 0 60 μ1) (fun y7 μ5 => (if y7 = 0 then some ((-1), μ5) else sh_bindv (f_X0_behind 49 a2 0 μ5) (fun μ9 => (if sh_in a1 7 then some ((sh_i μ9 213 a1.toNatClampNeg), μ9) else none))))))
theorem gp_X11_tired {a1 : Int32} {a2 : Int32} {μ μ' : sh_Mem} {v : Int32} (hG : sh_G μ) (h : f_X11_tired a1 a2 μ = some (v, μ')) : sh_G μ' := by
  unfold f_X11_tired at h
  obtain ⟨y3, μ1, hr2, h⟩ := sh_bind_e h
  have hG1 := gp_X11_isPerson hG hr2
  by_cases c4 : y3 = 0
  · rw [if_pos c4] at h
    obtain ⟨e1, e2⟩ := sh_some2 h
    exact e2 ▸ hG1
  · rw [if_neg c4] at h
    obtain ⟨y7, μ5, hr6, h⟩ := sh_bind_e h
    have hG5 := gp_X11_isAhead hG1 hr6
    by_cases c8 : y7 = 0
    · rw [if_pos c8] at h
      obtain ⟨e1, e2⟩ := sh_some2 h
      exact e2 ▸ hG5
    · rw [if_neg c8] at h
      obtain ⟨μ9, hr10, h⟩ := sh_bindv_e h
      have hG9 := gp_X0_behind hG5 sh_isL_49 hr10
      obtain ⟨k12, h⟩ := sh_chk h
      obtain ⟨e1, e2⟩ := sh_some2 h
      exact e2 ▸ hG9
theorem t_X11_tired {a1 : Int32} {a2 : Int32} {μ μ' : sh_Mem} {v : Int32} (hG : sh_G μ) (h : f_X11_tired a1 a2 μ = some (v, μ')) : sh_C0 l B D ca 8 M_X11_tired [.ref 0, .int a1, .int a2] μ (fun v0 μ0 => v0 = some (.int v) ∧ μ0 = μ') := by
  unfold f_X11_tired at h
  refine vv_aload_n 0 0 dX11_tired_0 rfl rfl ?_
  refine vv_iload_n 1 1 dX11_tired_1 rfl rfl ?_
  obtain ⟨y3, μ1, hr2, h⟩ := sh_bind_e h
  refine v1_callV [_] 2 dX11_tired_2 ck_X11_211 (g_l_0 hG) ⟨by decide, rfl⟩ (t_X11_isPerson hG hr2) (Nat.le_of_ble_eq_true rfl) ⟨Nat.le_of_ble_eq_true rfl, Nat.le_of_ble_eq_true rfl⟩ rfl (Nat.le_of_ble_eq_true rfl) ?_
  have hG1 := gp_X11_isPerson hG hr2
  refine vv_if_eq 5 19 dX11_tired_5 (by decide) (fun c4 => ?_) (fun c4 => ?_)
  · rw [if_pos c4] at h
    refine vv_iconst 19 dX11_tired_19 ik_m1 ?_
    obtain ⟨e1, e2⟩ := sh_some2 h
    refine vv_iret 20 dX11_tired_20 rfl (Nat.le_refl _) (Nat.le_refl _) ⟨by rw [e1], e2⟩
  · rw [if_neg c4] at h
    refine vv_aload_n 8 0 dX11_tired_8 rfl rfl ?_
    refine vv_iload_n 9 2 dX11_tired_9 rfl rfl ?_
    refine vv_iconst 10 dX11_tired_10 ik_0 ?_
    refine vv_bipush 11 dX11_tired_11 bk_60 ?_
    obtain ⟨y7, μ5, hr6, h⟩ := sh_bind_e h
    refine v1_callV [_, _, _] 13 dX11_tired_13 ck_X11_252 (g_l_0 hG1) ⟨by decide, rfl⟩ (t_X11_isAhead hG1 hr6) (Nat.le_of_ble_eq_true rfl) ⟨Nat.le_of_ble_eq_true rfl, Nat.le_of_ble_eq_true rfl⟩ rfl (Nat.le_of_ble_eq_true rfl) ?_
    have hG5 := gp_X11_isAhead hG1 hr6
    refine vv_if_ne 16 21 dX11_tired_16 (by decide) (fun c8 => ?_) (fun c8 => ?_)
    · rw [if_neg c8] at h
      refine vv_aload_n 21 0 dX11_tired_21 rfl rfl ?_
      refine vv_getR 22 dX11_tired_22 fl_11_85 rfl (g_l_0 hG5) (g_r_0_11 hG5) ?_
      refine vv_aload_n 25 0 dX11_tired_25 rfl rfl ?_
      refine vv_getR 26 dX11_tired_26 fl_11_60 rfl (g_l_0 hG5) (g_r_0_8 hG5) ?_
      refine vv_iload_n 29 2 dX11_tired_29 rfl rfl ?_
      refine vv_iconst 30 dX11_tired_30 ik_0 ?_
      obtain ⟨μ9, hr10, h⟩ := sh_bindv_e h
      refine v1_callV [_, _, _] 31 dX11_tired_31 ck_X11_256 (g_l_208 hG5) ⟨by decide, rfl⟩ (t_X0_behind hG5 sh_isL_49 hr10) (Nat.le_of_ble_eq_true rfl) ⟨Nat.le_of_ble_eq_true rfl, Nat.le_of_ble_eq_true rfl⟩ rfl (Nat.le_of_ble_eq_true rfl) ?_
      have hG9 := gp_X0_behind hG5 sh_isL_49 hr10
      refine vv_getR 34 dX11_tired_34 fl_11_229 rfl (g_l_209 hG9) (g_r_209_4 hG9) ?_
      refine vv_iload_n 37 1 dX11_tired_37 rfl rfl ?_
      obtain ⟨k12, h⟩ := sh_chk h
      refine vv_iald 38 dX11_tired_38 (g_l_213 hG9) k12 ?_
      obtain ⟨e1, e2⟩ := sh_some2 h
      refine vv_iret 39 dX11_tired_39 rfl (Nat.le_refl _) (Nat.le_refl _) ⟨by rw [e1], e2⟩
    · rw [if_pos c8] at h
      refine vv_iconst 19 dX11_tired_19 ik_m1 ?_
      obtain ⟨e1, e2⟩ := sh_some2 h
      refine vv_iret 20 dX11_tired_20 rfl (Nat.le_refl _) (Nat.le_refl _) ⟨by rw [e1], e2⟩
noncomputable def f_X11_rises (a1 : Int32) (a2 : Int32) (a3 : Int32) (μ : sh_Mem) : Option (Int32 × sh_Mem) := (if (sh_r μ 0 7 = some (sh_ref μ 0 7) ∧ ((sh_ref μ 0 7) = 8 ∨ (sh_ref μ 0 7) = 29)) then sh_let (sh_ref μ 0 7) (fun r2 => sh_let ((f_X5_cellAt μ r2 a1 a2) : Int32) (fun x3 => (if x3 = (-1) then some ((-1), μ) else sh_bind (f_X0_daysToRise 49 x3 a3 μ) (fun y7 μ5 => some (y7, μ5))))) else none)
theorem gp_X11_rises {a1 : Int32} {a2 : Int32} {a3 : Int32} {μ μ' : sh_Mem} {v : Int32} (hG : sh_G μ) (h : f_X11_rises a1 a2 a3 μ = some (v, μ')) : sh_G μ' := by
  unfold f_X11_rises at h
  obtain ⟨k1, h⟩ := sh_chk h
  obtain ⟨r2, er2⟩ : ∃ y : Nat, y = (sh_ref μ 0 7) := ⟨_, rfl⟩
  rw [sh_let_eq er2] at h
  have k1r : sh_r μ 0 7 = some r2 ∧ (r2 = 8 ∨ r2 = 29) := by rw [er2]; exact k1
  obtain ⟨x3, ex3⟩ : ∃ y : Int32, y = (f_X5_cellAt μ r2 a1 a2) := ⟨_, rfl⟩
  rw [sh_let_eq ex3] at h
  by_cases c4 : x3 = (-1)
  · rw [if_pos c4] at h
    obtain ⟨e1, e2⟩ := sh_some2 h
    exact e2 ▸ hG
  · rw [if_neg c4] at h
    obtain ⟨y7, μ5, hr6, h⟩ := sh_bind_e h
    have hG5 := gp_X0_daysToRise hG sh_isL_49 hr6
    obtain ⟨e1, e2⟩ := sh_some2 h
    exact e2 ▸ hG5
theorem t_X11_rises {a1 : Int32} {a2 : Int32} {a3 : Int32} {μ μ' : sh_Mem} {v : Int32} (hG : sh_G μ) (h : f_X11_rises a1 a2 a3 μ = some (v, μ')) : sh_C0 l B D ca 8 M_X11_rises [.ref 0, .int a1, .int a2, .int a3] μ (fun v0 μ0 => v0 = some (.int v) ∧ μ0 = μ') := by
  unfold f_X11_rises at h
  refine vv_aload_n 0 0 dX11_rises_0 rfl rfl ?_
  obtain ⟨k1, h⟩ := sh_chk h
  refine vv_getR 1 dX11_rises_1 fl_11_53 rfl (g_l_0 hG) k1.1 ?_
  refine vv_topr (fun r2 er2 => ?_)
  rw [sh_let_eq er2] at h
  have k1r : sh_r μ 0 7 = some r2 ∧ (r2 = 8 ∨ r2 = 29) := by rw [er2]; exact k1
  refine vv_iload_n 4 1 dX11_rises_4 rfl rfl ?_
  refine vv_iload_n 5 2 dX11_rises_5 rfl rfl ?_
  refine v1_callV [_, _] 6 dX11_rises_6 ck_X11_217 (gP_l hG k1r.2) ⟨by decide, rfl⟩ (c_X5_cellAt (μ := μ) hG k1r.2) (Nat.le_of_ble_eq_true rfl) ⟨Nat.le_of_ble_eq_true rfl, Nat.le_of_ble_eq_true rfl⟩ rfl (Nat.le_of_ble_eq_true rfl) ?_
  refine vv_topi (fun x3 ex3 => ?_)
  rw [sh_let_eq ex3] at h
  refine vv_istore (lv' := [(4, _), (0, _), (1, _), (2, _), (3, _)]) 9 4 dX11_rises_9 (by decide) rfl ?_
  refine vv_iload 11 4 dX11_rises_11 rfl ?_
  refine vv_iconst 13 dX11_rises_13 ik_m1 ?_
  refine vv_icmp_ne 14 21 dX11_rises_14 (by decide) (fun c4 => ?_) (fun c4 => ?_)
  · rw [if_neg c4] at h
    refine vv_aload_n 21 0 dX11_rises_21 rfl rfl ?_
    refine vv_getR 22 dX11_rises_22 fl_11_85 rfl (g_l_0 hG) (g_r_0_11 hG) ?_
    refine vv_aload_n 25 0 dX11_rises_25 rfl rfl ?_
    refine vv_getR 26 dX11_rises_26 fl_11_60 rfl (g_l_0 hG) (g_r_0_8 hG) ?_
    refine vv_iload 29 4 dX11_rises_29 rfl ?_
    refine vv_iload_n 31 3 dX11_rises_31 rfl rfl ?_
    obtain ⟨y7, μ5, hr6, h⟩ := sh_bind_e h
    refine v1_callV [_, _, _] 32 dX11_rises_32 ck_X11_260 (g_l_208 hG) ⟨by decide, rfl⟩ (t_X0_daysToRise hG sh_isL_49 hr6) (Nat.le_of_ble_eq_true rfl) ⟨Nat.le_of_ble_eq_true rfl, Nat.le_of_ble_eq_true rfl⟩ rfl (Nat.le_of_ble_eq_true rfl) ?_
    have hG5 := gp_X0_daysToRise hG sh_isL_49 hr6
    obtain ⟨e1, e2⟩ := sh_some2 h
    refine vv_iret 35 dX11_rises_35 rfl (Nat.le_refl _) (Nat.le_refl _) ⟨by rw [e1], e2⟩
  · rw [if_pos c4] at h
    refine vv_iconst 17 dX11_rises_17 ik_m1 ?_
    refine vv_goto 18 35 dX11_rises_18 (by decide) ?_
    obtain ⟨e1, e2⟩ := sh_some2 h
    refine vv_iret 35 dX11_rises_35 rfl (Nat.le_refl _) (Nat.le_refl _) ⟨by rw [e1], e2⟩
noncomputable def f_X11_plan (a1 : Int32) (a2 : Int32) (a3 : Int32) (a4 : Int32) (μ : sh_Mem) : Option (Int32 × sh_Mem) := (if (sh_r μ 0 7 = some (sh_ref μ 0 7) ∧ ((sh_ref μ 0 7) = 8 ∨ (sh_ref μ 0 7) = 29)) then sh_let (sh_ref μ 0 7) (fun r2 => sh_bind (f_X5_cellOf r2 a1 μ) (fun y5 μ3 => (if (sh_r μ3 0 7 = some (sh_ref μ3 0 7) ∧ ((sh_ref μ3 0 7) = 8 ∨ (sh_ref μ3 0 7) = 29)) then sh_let (sh_ref μ3 0 7) (fun r7 => sh_bind (f_X5_cellOf r7 a3 μ3) (fun y10 μ8 => (if y5 = (-1) then some ((-1), μ8) else (if y10 = (-1) then some ((-1), μ8) else (if a2 < 0 then some ((-1), μ8) else (if 99 < a2 then some ((-1), μ8) else (if (-1) ≤ a4 then sh_bind (f_X7_find 49 y5 a2 y10 μ8) (fun y18 μ16 => (if a4 = (-1) then some (y18, μ16) else (if y18 ≤ a4 then some ((-1), μ16) else (if sh_in a4 3 then some ((sh_i μ16 262 a4.toNatClampNeg), μ16) else none)))) else some ((-1), μ8)))))))) else none))) else none)
theorem gp_X11_plan {a1 : Int32} {a2 : Int32} {a3 : Int32} {a4 : Int32} {μ μ' : sh_Mem} {v : Int32} (hG : sh_G μ) (h : f_X11_plan a1 a2 a3 a4 μ = some (v, μ')) : sh_G μ' := by
  unfold f_X11_plan at h
  obtain ⟨k1, h⟩ := sh_chk h
  obtain ⟨r2, er2⟩ : ∃ y : Nat, y = (sh_ref μ 0 7) := ⟨_, rfl⟩
  rw [sh_let_eq er2] at h
  have k1r : sh_r μ 0 7 = some r2 ∧ (r2 = 8 ∨ r2 = 29) := by rw [er2]; exact k1
  obtain ⟨y5, μ3, hr4, h⟩ := sh_bind_e h
  have hG3 := gp_X5_cellOf hG k1r.2 hr4
  obtain ⟨k6, h⟩ := sh_chk h
  obtain ⟨r7, er7⟩ : ∃ y : Nat, y = (sh_ref μ3 0 7) := ⟨_, rfl⟩
  rw [sh_let_eq er7] at h
  have k6r : sh_r μ3 0 7 = some r7 ∧ (r7 = 8 ∨ r7 = 29) := by rw [er7]; exact k6
  obtain ⟨y10, μ8, hr9, h⟩ := sh_bind_e h
  have hG8 := gp_X5_cellOf hG3 k6r.2 hr9
  by_cases c11 : y5 = (-1)
  · rw [if_pos c11] at h
    obtain ⟨e1, e2⟩ := sh_some2 h
    exact e2 ▸ hG8
  · rw [if_neg c11] at h
    by_cases c12 : y10 = (-1)
    · rw [if_pos c12] at h
      obtain ⟨e1, e2⟩ := sh_some2 h
      exact e2 ▸ hG8
    · rw [if_neg c12] at h
      by_cases c13 : a2 < 0
      · rw [if_pos c13] at h
        obtain ⟨e1, e2⟩ := sh_some2 h
        exact e2 ▸ hG8
      · rw [if_neg c13] at h
        by_cases c14 : 99 < a2
        · rw [if_pos c14] at h
          obtain ⟨e1, e2⟩ := sh_some2 h
          exact e2 ▸ hG8
        · rw [if_neg c14] at h
          by_cases c15 : (-1) ≤ a4
          · rw [if_pos c15] at h
            obtain ⟨y18, μ16, hr17, h⟩ := sh_bind_e h
            have hG16 := gp_X7_find hG8 sh_isL_49 hr17
            by_cases c19 : a4 = (-1)
            · rw [if_pos c19] at h
              obtain ⟨e1, e2⟩ := sh_some2 h
              exact e2 ▸ hG16
            · rw [if_neg c19] at h
              by_cases c20 : y18 ≤ a4
              · rw [if_pos c20] at h
                obtain ⟨e1, e2⟩ := sh_some2 h
                exact e2 ▸ hG16
              · rw [if_neg c20] at h
                obtain ⟨k21, h⟩ := sh_chk h
                obtain ⟨e1, e2⟩ := sh_some2 h
                exact e2 ▸ hG16
          · rw [if_neg c15] at h
            obtain ⟨e1, e2⟩ := sh_some2 h
            exact e2 ▸ hG8
theorem t_X11_plan {a1 : Int32} {a2 : Int32} {a3 : Int32} {a4 : Int32} {μ μ' : sh_Mem} {v : Int32} (hG : sh_G μ) (h : f_X11_plan a1 a2 a3 a4 μ = some (v, μ')) : sh_C0 l B D ca 23 M_X11_plan [.ref 0, .int a1, .int a2, .int a3, .int a4] μ (fun v0 μ0 => v0 = some (.int v) ∧ μ0 = μ') := by
  unfold f_X11_plan at h
  refine vv_aload_n 0 0 dX11_plan_0 rfl rfl ?_
  obtain ⟨k1, h⟩ := sh_chk h
  refine vv_getR 1 dX11_plan_1 fl_11_53 rfl (g_l_0 hG) k1.1 ?_
  refine vv_topr (fun r2 er2 => ?_)
  rw [sh_let_eq er2] at h
  have k1r : sh_r μ 0 7 = some r2 ∧ (r2 = 8 ∨ r2 = 29) := by rw [er2]; exact k1
  refine vv_iload_n 4 1 dX11_plan_4 rfl rfl ?_
  obtain ⟨y5, μ3, hr4, h⟩ := sh_bind_e h
  refine v1_callV [_] 5 dX11_plan_5 ck_X11_263 (gP_l hG k1r.2) ⟨by decide, rfl⟩ (t_X5_cellOf hG k1r.2 hr4) (Nat.le_of_ble_eq_true rfl) ⟨Nat.le_of_ble_eq_true rfl, Nat.le_of_ble_eq_true rfl⟩ rfl (Nat.le_of_ble_eq_true rfl) ?_
  have hG3 := gp_X5_cellOf hG k1r.2 hr4
  refine vv_istore (lv' := [(5, _), (0, _), (1, _), (2, _), (3, _), (4, _)]) 8 5 dX11_plan_8 (by decide) rfl ?_
  refine vv_aload_n 10 0 dX11_plan_10 rfl rfl ?_
  obtain ⟨k6, h⟩ := sh_chk h
  refine vv_getR 11 dX11_plan_11 fl_11_53 rfl (g_l_0 hG3) k6.1 ?_
  refine vv_topr (fun r7 er7 => ?_)
  rw [sh_let_eq er7] at h
  have k6r : sh_r μ3 0 7 = some r7 ∧ (r7 = 8 ∨ r7 = 29) := by rw [er7]; exact k6
  refine vv_iload_n 14 3 dX11_plan_14 rfl rfl ?_
  obtain ⟨y10, μ8, hr9, h⟩ := sh_bind_e h
  refine v1_callV [_] 15 dX11_plan_15 ck_X11_263 (gP_l hG3 k6r.2) ⟨by decide, rfl⟩ (t_X5_cellOf hG3 k6r.2 hr9) (Nat.le_of_ble_eq_true rfl) ⟨Nat.le_of_ble_eq_true rfl, Nat.le_of_ble_eq_true rfl⟩ rfl (Nat.le_of_ble_eq_true rfl) ?_
  have hG8 := gp_X5_cellOf hG3 k6r.2 hr9
  refine vv_istore (lv' := [(6, _), (5, _), (0, _), (1, _), (2, _), (3, _), (4, _)]) 18 6 dX11_plan_18 (by decide) rfl ?_
  refine vv_iload 20 5 dX11_plan_20 rfl ?_
  refine vv_iconst 22 dX11_plan_22 ik_m1 ?_
  refine vv_icmp_eq 23 48 dX11_plan_23 (by decide) (fun c11 => ?_) (fun c11 => ?_)
  · rw [if_pos c11] at h
    refine vv_iconst 48 dX11_plan_48 ik_m1 ?_
    obtain ⟨e1, e2⟩ := sh_some2 h
    refine vv_iret 49 dX11_plan_49 rfl (Nat.le_refl _) (Nat.le_refl _) ⟨by rw [e1], e2⟩
  · rw [if_neg c11] at h
    refine vv_iload 26 6 dX11_plan_26 rfl ?_
    refine vv_iconst 28 dX11_plan_28 ik_m1 ?_
    refine vv_icmp_eq 29 48 dX11_plan_29 (by decide) (fun c12 => ?_) (fun c12 => ?_)
    · rw [if_pos c12] at h
      refine vv_iconst 48 dX11_plan_48 ik_m1 ?_
      obtain ⟨e1, e2⟩ := sh_some2 h
      refine vv_iret 49 dX11_plan_49 rfl (Nat.le_refl _) (Nat.le_refl _) ⟨by rw [e1], e2⟩
    · rw [if_neg c12] at h
      refine vv_iload_n 32 2 dX11_plan_32 rfl rfl ?_
      refine vv_if_lt 33 48 dX11_plan_33 (by decide) (fun c13 => ?_) (fun c13 => ?_)
      · rw [if_pos c13] at h
        refine vv_iconst 48 dX11_plan_48 ik_m1 ?_
        obtain ⟨e1, e2⟩ := sh_some2 h
        refine vv_iret 49 dX11_plan_49 rfl (Nat.le_refl _) (Nat.le_refl _) ⟨by rw [e1], e2⟩
      · rw [if_neg c13] at h
        refine vv_iload_n 36 2 dX11_plan_36 rfl rfl ?_
        refine vv_bipush 37 dX11_plan_37 bk_99 ?_
        refine vv_icmp_gt 39 48 dX11_plan_39 (by decide) (fun c14 => ?_) (fun c14 => ?_)
        · rw [if_pos c14] at h
          refine vv_iconst 48 dX11_plan_48 ik_m1 ?_
          obtain ⟨e1, e2⟩ := sh_some2 h
          refine vv_iret 49 dX11_plan_49 rfl (Nat.le_refl _) (Nat.le_refl _) ⟨by rw [e1], e2⟩
        · rw [if_neg c14] at h
          refine vv_iload 42 4 dX11_plan_42 rfl ?_
          refine vv_iconst 44 dX11_plan_44 ik_m1 ?_
          refine vv_icmp_ge 45 50 dX11_plan_45 (by decide) (fun c15 => ?_) (fun c15 => ?_)
          · rw [if_pos c15] at h
            refine vv_aload_n 50 0 dX11_plan_50 rfl rfl ?_
            refine vv_getR 51 dX11_plan_51 fl_11_92 rfl (g_l_0 hG8) (g_r_0_12 hG8) ?_
            refine vv_aload_n 54 0 dX11_plan_54 rfl rfl ?_
            refine vv_getR 55 dX11_plan_55 fl_11_60 rfl (g_l_0 hG8) (g_r_0_8 hG8) ?_
            refine vv_iload 58 5 dX11_plan_58 rfl ?_
            refine vv_iload_n 60 2 dX11_plan_60 rfl rfl ?_
            refine vv_iload 61 6 dX11_plan_61 rfl ?_
            obtain ⟨y18, μ16, hr17, h⟩ := sh_bind_e h
            refine v1_callV [_, _, _, _] 63 dX11_plan_63 ck_X11_266 (g_l_260 hG8) ⟨by decide, rfl⟩ (t_X7_find hG8 sh_isL_49 hr17) (Nat.le_of_ble_eq_true rfl) ⟨Nat.le_of_ble_eq_true rfl, Nat.le_of_ble_eq_true rfl⟩ rfl (Nat.le_of_ble_eq_true rfl) ?_
            have hG16 := gp_X7_find hG8 sh_isL_49 hr17
            refine vv_istore (lv' := [(7, _), (6, _), (5, _), (0, _), (1, _), (2, _), (3, _), (4, _)]) 66 7 dX11_plan_66 (by decide) rfl ?_
            refine vv_iload 68 4 dX11_plan_68 rfl ?_
            refine vv_iconst 70 dX11_plan_70 ik_m1 ?_
            refine vv_icmp_ne 71 77 dX11_plan_71 (by decide) (fun c19 => ?_) (fun c19 => ?_)
            · rw [if_neg c19] at h
              refine vv_iload 77 4 dX11_plan_77 rfl ?_
              refine vv_iload 79 7 dX11_plan_79 rfl ?_
              refine vv_icmp_ge 81 97 dX11_plan_81 (by decide) (fun c20 => ?_) (fun c20 => ?_)
              · rw [if_pos c20] at h
                refine vv_iconst 97 dX11_plan_97 ik_m1 ?_
                obtain ⟨e1, e2⟩ := sh_some2 h
                refine vv_iret 98 dX11_plan_98 rfl (Nat.le_refl _) (Nat.le_refl _) ⟨by rw [e1], e2⟩
              · rw [if_neg c20] at h
                refine vv_aload_n 84 0 dX11_plan_84 rfl rfl ?_
                refine vv_getR 85 dX11_plan_85 fl_11_92 rfl (g_l_0 hG16) (g_r_0_12 hG16) ?_
                refine vv_getR 88 dX11_plan_88 fl_11_270 rfl (g_l_260 hG16) (g_r_260_2 hG16) ?_
                refine vv_iload 91 4 dX11_plan_91 rfl ?_
                obtain ⟨k21, h⟩ := sh_chk h
                refine vv_iald 93 dX11_plan_93 (g_l_262 hG16) k21 ?_
                refine vv_goto 94 98 dX11_plan_94 (by decide) ?_
                obtain ⟨e1, e2⟩ := sh_some2 h
                refine vv_iret 98 dX11_plan_98 rfl (Nat.le_refl _) (Nat.le_refl _) ⟨by rw [e1], e2⟩
            · rw [if_pos c19] at h
              refine vv_iload 74 7 dX11_plan_74 rfl ?_
              obtain ⟨e1, e2⟩ := sh_some2 h
              refine vv_iret 76 dX11_plan_76 rfl (Nat.le_refl _) (Nat.le_refl _) ⟨by rw [e1], e2⟩
          · rw [if_neg c15] at h
            refine vv_iconst 48 dX11_plan_48 ik_m1 ?_
            obtain ⟨e1, e2⟩ := sh_some2 h
            refine vv_iret 49 dX11_plan_49 rfl (Nat.le_refl _) (Nat.le_refl _) ⟨by rw [e1], e2⟩
noncomputable def F_X11_keeps : Nat → Nat → Int32 → Int32 → Int32 → Int32 → Int32 → Int32 → Int32 → Int32 → sh_Mem → Option (Int32 × sh_Mem)
  | 0, _, _, _, _, _, _, _, _, _, _ => none
  | fuel + 1, lbl, i1, i2, i3, i4, i5, i6, i7, i8, μ => match lbl with
    | 1 => (if (sh_r μ 0 7 = some (sh_ref μ 0 7) ∧ ((sh_ref μ 0 7) = 8 ∨ (sh_ref μ 0 7) = 29)) then sh_let (sh_ref μ 0 7) (fun r61 => (if (sh_i μ r61 3) < i7 then some ((-1), μ) else F_X11_keeps fuel 2 i1 i2 i3 i4 i5 i6 i7 0 μ)) else none)
    | 2 => (if (sh_r μ 0 7 = some (sh_ref μ 0 7) ∧ ((sh_ref μ 0 7) = 8 ∨ (sh_ref μ 0 7) = 29)) then sh_let (sh_ref μ 0 7) (fun r64 => (if ((1 : Int32) <<< ((sh_i μ r64 3) &&& 31)) ≤ i8 then F_X11_keeps fuel 1 i1 i2 i3 i4 i5 i6 (i7 + 1) 0 μ else sh_bind (f_J6_bitCount_0f7a4 i8 μ) (fun y68 μ66 => (if y68 = i7 then (if (sh_r μ66 0 7 = some (sh_ref μ66 0 7) ∧ ((sh_ref μ66 0 7) = 8 ∨ (sh_ref μ66 0 7) = 29)) then sh_let (sh_ref μ66 0 7) (fun r71 => sh_bindv (f_X0_behind 49 i3 i8 μ66) (fun μ72 => sh_bind (f_X9_cost r71 209 i4 i5 μ72) (fun y77 μ75 => (if i6 < y77 then F_X11_keeps fuel 2 i1 i2 i3 i4 i5 i6 i7 (i8 + 1) μ75 else some (i8, μ75))))) else none) else F_X11_keeps fuel 2 i1 i2 i3 i4 i5 i6 i7 (i8 + 1) μ66)))) else none)
    | _ => none
noncomputable def f_X11_keeps (a1 : Int32) (a2 : Int32) (a3 : Int32) (μ : sh_Mem) : Option (Int32 × sh_Mem) := (if (sh_r μ 0 7 = some (sh_ref μ 0 7) ∧ ((sh_ref μ 0 7) = 8 ∨ (sh_ref μ 0 7) = 29)) then sh_let (sh_ref μ 0 7) (fun r80 => sh_bind (f_X5_cellOf r80 a1 μ) (fun y83 μ81 => (if (sh_r μ81 0 7 = some (sh_ref μ81 0 7) ∧ ((sh_ref μ81 0 7) = 8 ∨ (sh_ref μ81 0 7) = 29)) then sh_let (sh_ref μ81 0 7) (fun r85 => sh_bind (f_X5_cellOf r85 a2 μ81) (fun y88 μ86 => (if y83 = (-1) then some ((-1), μ86) else (if y88 = (-1) then some ((-1), μ86) else sh_bind (f_X11_isAhead a3 1 20 μ86) (fun y93 μ91 => (if y93 = 0 then some ((-1), μ91) else (if (sh_r μ91 0 7 = some (sh_ref μ91 0 7) ∧ ((sh_ref μ91 0 7) = 8 ∨ (sh_ref μ91 0 7) = 29)) then sh_let (sh_ref μ91 0 7) (fun r96 => sh_bind (f_X9_cost r96 49 y83 y88 μ91) (fun y99 μ97 => F_X11_keeps sh_fuel 1 a1 a2 a3 y83 y88 y99 0 0 μ97)) else none))))))) else none))) else none)
theorem gpl_X11_keeps (fuel : Nat) : (∀ ⦃i1 : Int32⦄ ⦃i2 : Int32⦄ ⦃i3 : Int32⦄ ⦃i4 : Int32⦄ ⦃i5 : Int32⦄ ⦃i6 : Int32⦄ ⦃i7 : Int32⦄ ⦃i8 : Int32⦄ ⦃μ μ' : sh_Mem⦄ ⦃v : Int32⦄, sh_G μ → F_X11_keeps fuel 1 i1 i2 i3 i4 i5 i6 i7 i8 μ = some (v, μ') → sh_G μ') ∧ (∀ ⦃i1 : Int32⦄ ⦃i2 : Int32⦄ ⦃i3 : Int32⦄ ⦃i4 : Int32⦄ ⦃i5 : Int32⦄ ⦃i6 : Int32⦄ ⦃i7 : Int32⦄ ⦃i8 : Int32⦄ ⦃μ μ' : sh_Mem⦄ ⦃v : Int32⦄, sh_G μ → F_X11_keeps fuel 2 i1 i2 i3 i4 i5 i6 i7 i8 μ = some (v, μ') → sh_G μ') := by
  induction fuel with
  | zero => exact ⟨(by intro i1 i2 i3 i4 i5 i6 i7 i8 μ μ' v hG h; cases h), (by intro i1 i2 i3 i4 i5 i6 i7 i8 μ μ' v hG h; cases h)⟩
  | succ fuel ih =>
    obtain ⟨ih_69, ih_84⟩ := ih
    refine ⟨?_, ?_⟩
    · intro i1 i2 i3 i4 i5 i6 i7 i8 μ μ' v hG h
      replace h : ((if (sh_r μ 0 7 = some (sh_ref μ 0 7) ∧ ((sh_ref μ 0 7) = 8 ∨ (sh_ref μ 0 7) = 29)) then sh_let (sh_ref μ 0 7) (fun r61 => (if (sh_i μ r61 3) < i7 then some ((-1), μ) else F_X11_keeps fuel 2 i1 i2 i3 i4 i5 i6 i7 0 μ)) else none) : Option (Int32 × sh_Mem)) = some (v, μ') := h
      obtain ⟨k60, h⟩ := sh_chk h
      obtain ⟨r61, er61⟩ : ∃ y : Nat, y = (sh_ref μ 0 7) := ⟨_, rfl⟩
      rw [sh_let_eq er61] at h
      have k60r : sh_r μ 0 7 = some r61 ∧ (r61 = 8 ∨ r61 = 29) := by rw [er61]; exact k60
      by_cases c62 : (sh_i μ r61 3) < i7
      · rw [if_pos c62] at h
        obtain ⟨e1, e2⟩ := sh_some2 h
        exact e2 ▸ hG
      · rw [if_neg c62] at h
        exact ih_84 hG h
    · intro i1 i2 i3 i4 i5 i6 i7 i8 μ μ' v hG h
      replace h : ((if (sh_r μ 0 7 = some (sh_ref μ 0 7) ∧ ((sh_ref μ 0 7) = 8 ∨ (sh_ref μ 0 7) = 29)) then sh_let (sh_ref μ 0 7) (fun r64 => (if ((1 : Int32) <<< ((sh_i μ r64 3) &&& 31)) ≤ i8 then F_X11_keeps fuel 1 i1 i2 i3 i4 i5 i6 (i7 + 1) 0 μ else sh_bind (f_J6_bitCount_0f7a4 i8 μ) (fun y68 μ66 => (if y68 = i7 then (if (sh_r μ66 0 7 = some (sh_ref μ66 0 7) ∧ ((sh_ref μ66 0 7) = 8 ∨ (sh_ref μ66 0 7) = 29)) then sh_let (sh_ref μ66 0 7) (fun r71 => sh_bindv (f_X0_behind 49 i3 i8 μ66) (fun μ72 => sh_bind (f_X9_cost r71 209 i4 i5 μ72) (fun y77 μ75 => (if i6 < y77 then F_X11_keeps fuel 2 i1 i2 i3 i4 i5 i6 i7 (i8 + 1) μ75 else some (i8, μ75))))) else none) else F_X11_keeps fuel 2 i1 i2 i3 i4 i5 i6 i7 (i8 + 1) μ66)))) else none) : Option (Int32 × sh_Mem)) = some (v, μ') := h
      obtain ⟨k63, h⟩ := sh_chk h
      obtain ⟨r64, er64⟩ : ∃ y : Nat, y = (sh_ref μ 0 7) := ⟨_, rfl⟩
      rw [sh_let_eq er64] at h
      have k63r : sh_r μ 0 7 = some r64 ∧ (r64 = 8 ∨ r64 = 29) := by rw [er64]; exact k63
      by_cases c65 : ((1 : Int32) <<< ((sh_i μ r64 3) &&& 31)) ≤ i8
      · rw [if_pos c65] at h
        exact ih_69 hG h
      · rw [if_neg c65] at h
        obtain ⟨y68, μ66, hr67, h⟩ := sh_bind_e h
        have hG66 := gp_J6_bitCount_0f7a4 hG hr67
        by_cases c69 : y68 = i7
        · rw [if_pos c69] at h
          obtain ⟨k70, h⟩ := sh_chk h
          obtain ⟨r71, er71⟩ : ∃ y : Nat, y = (sh_ref μ66 0 7) := ⟨_, rfl⟩
          rw [sh_let_eq er71] at h
          have k70r : sh_r μ66 0 7 = some r71 ∧ (r71 = 8 ∨ r71 = 29) := by rw [er71]; exact k70
          obtain ⟨μ72, hr73, h⟩ := sh_bindv_e h
          have hG72 := gp_X0_behind hG66 sh_isL_49 hr73
          obtain ⟨y77, μ75, hr76, h⟩ := sh_bind_e h
          have hG75 := gp_X9_cost hG72 k70r.2 sh_isL_209 hr76
          by_cases c78 : i6 < y77
          · rw [if_pos c78] at h
            exact ih_84 hG75 h
          · rw [if_neg c78] at h
            obtain ⟨e1, e2⟩ := sh_some2 h
            exact e2 ▸ hG75
        · rw [if_neg c69] at h
          exact ih_84 hG66 h
theorem tl_X11_keeps (fuel : Nat) : (∀ ⦃i1 : Int32⦄ ⦃i2 : Int32⦄ ⦃i3 : Int32⦄ ⦃i4 : Int32⦄ ⦃i5 : Int32⦄ ⦃i6 : Int32⦄ ⦃i7 : Int32⦄ ⦃i8 : Int32⦄ ⦃μ μ' : sh_Mem⦄ ⦃v : Int32⦄, sh_G μ → F_X11_keeps fuel 1 i1 i2 i3 i4 i5 i6 i7 i8 μ = some (v, μ') → sh_V0 l B D ca 8 M_X11_keeps 69 [(0, .ref 0), (1, .int i1), (2, .int i2), (3, .int i3), (4, .int i4), (5, .int i5), (6, .int i6), (7, .int i7)] [] μ (fun v0 μ0 => v0 = some (.int v) ∧ μ0 = μ')) ∧ (∀ ⦃i1 : Int32⦄ ⦃i2 : Int32⦄ ⦃i3 : Int32⦄ ⦃i4 : Int32⦄ ⦃i5 : Int32⦄ ⦃i6 : Int32⦄ ⦃i7 : Int32⦄ ⦃i8 : Int32⦄ ⦃μ μ' : sh_Mem⦄ ⦃v : Int32⦄, sh_G μ → F_X11_keeps fuel 2 i1 i2 i3 i4 i5 i6 i7 i8 μ = some (v, μ') → sh_V0 l B D ca 8 M_X11_keeps 84 [(0, .ref 0), (1, .int i1), (2, .int i2), (3, .int i3), (4, .int i4), (5, .int i5), (6, .int i6), (7, .int i7), (8, .int i8)] [] μ (fun v0 μ0 => v0 = some (.int v) ∧ μ0 = μ')) := by
  induction fuel with
  | zero => exact ⟨(by intro i1 i2 i3 i4 i5 i6 i7 i8 μ μ' v hG h; cases h), (by intro i1 i2 i3 i4 i5 i6 i7 i8 μ μ' v hG h; cases h)⟩
  | succ fuel ih =>
    obtain ⟨ih_69, ih_84⟩ := ih
    refine ⟨?_, ?_⟩
    · intro i1 i2 i3 i4 i5 i6 i7 i8 μ μ' v hG h
      replace h : ((if (sh_r μ 0 7 = some (sh_ref μ 0 7) ∧ ((sh_ref μ 0 7) = 8 ∨ (sh_ref μ 0 7) = 29)) then sh_let (sh_ref μ 0 7) (fun r61 => (if (sh_i μ r61 3) < i7 then some ((-1), μ) else F_X11_keeps fuel 2 i1 i2 i3 i4 i5 i6 i7 0 μ)) else none) : Option (Int32 × sh_Mem)) = some (v, μ') := h
      refine vv_iload 69 7 dX11_keeps_69 rfl ?_
      refine vv_aload_n 71 0 dX11_keeps_71 rfl rfl ?_
      obtain ⟨k60, h⟩ := sh_chk h
      refine vv_getR 72 dX11_keeps_72 fl_11_53 rfl (g_l_0 hG) k60.1 ?_
      refine vv_topr (fun r61 er61 => ?_)
      rw [sh_let_eq er61] at h
      have k60r : sh_r μ 0 7 = some r61 ∧ (r61 = 8 ∨ r61 = 29) := by rw [er61]; exact k60
      refine vv_getI 75 dX11_keeps_75 fl_11_180 rfl (gP_l hG k60r.2) ?_
      refine vv_icmp_gt 78 157 dX11_keeps_78 (by decide) (fun c62 => ?_) (fun c62 => ?_)
      · rw [if_pos c62] at h
        refine vv_iconst 157 dX11_keeps_157 ik_m1 ?_
        obtain ⟨e1, e2⟩ := sh_some2 h
        refine vv_iret 158 dX11_keeps_158 rfl (Nat.le_refl _) (Nat.le_refl _) ⟨by rw [e1], e2⟩
      · rw [if_neg c62] at h
        refine vv_iconst 81 dX11_keeps_81 ik_0 ?_
        refine vv_istore (lv' := [(8, _), (0, _), (1, _), (2, _), (3, _), (4, _), (5, _), (6, _), (7, _)]) 82 8 dX11_keeps_82 (by decide) rfl ?_
        refine vv_sub [(0, _), (1, _), (2, _), (3, _), (4, _), (5, _), (6, _), (7, _), (8, _)] (sh_subm [1, 2, 3, 4, 5, 6, 7, 8, 0] rfl) ?_
        exact ih_84 hG h
    · intro i1 i2 i3 i4 i5 i6 i7 i8 μ μ' v hG h
      replace h : ((if (sh_r μ 0 7 = some (sh_ref μ 0 7) ∧ ((sh_ref μ 0 7) = 8 ∨ (sh_ref μ 0 7) = 29)) then sh_let (sh_ref μ 0 7) (fun r64 => (if ((1 : Int32) <<< ((sh_i μ r64 3) &&& 31)) ≤ i8 then F_X11_keeps fuel 1 i1 i2 i3 i4 i5 i6 (i7 + 1) 0 μ else sh_bind (f_J6_bitCount_0f7a4 i8 μ) (fun y68 μ66 => (if y68 = i7 then (if (sh_r μ66 0 7 = some (sh_ref μ66 0 7) ∧ ((sh_ref μ66 0 7) = 8 ∨ (sh_ref μ66 0 7) = 29)) then sh_let (sh_ref μ66 0 7) (fun r71 => sh_bindv (f_X0_behind 49 i3 i8 μ66) (fun μ72 => sh_bind (f_X9_cost r71 209 i4 i5 μ72) (fun y77 μ75 => (if i6 < y77 then F_X11_keeps fuel 2 i1 i2 i3 i4 i5 i6 i7 (i8 + 1) μ75 else some (i8, μ75))))) else none) else F_X11_keeps fuel 2 i1 i2 i3 i4 i5 i6 i7 (i8 + 1) μ66)))) else none) : Option (Int32 × sh_Mem)) = some (v, μ') := h
      refine vv_iload 84 8 dX11_keeps_84 rfl ?_
      refine vv_iconst 86 dX11_keeps_86 ik_1 ?_
      refine vv_aload_n 87 0 dX11_keeps_87 rfl rfl ?_
      obtain ⟨k63, h⟩ := sh_chk h
      refine vv_getR 88 dX11_keeps_88 fl_11_53 rfl (g_l_0 hG) k63.1 ?_
      refine vv_topr (fun r64 er64 => ?_)
      rw [sh_let_eq er64] at h
      have k63r : sh_r μ 0 7 = some r64 ∧ (r64 = 8 ∨ r64 = 29) := by rw [er64]; exact k63
      refine vv_getI 91 dX11_keeps_91 fl_11_180 rfl (gP_l hG k63r.2) ?_
      refine vv_ishl 94 dX11_keeps_94 ?_
      refine vv_icmp_ge 95 151 dX11_keeps_95 (by decide) (fun c65 => ?_) (fun c65 => ?_)
      · rw [if_pos c65] at h
        refine vv_iincc (lv' := [(7, _), (0, _), (1, _), (2, _), (3, _), (4, _), (5, _), (6, _), (8, _)]) 151 7 dX11_keeps_151 rfl ik_1 (by decide) rfl ?_
        refine vv_goto 154 69 dX11_keeps_154 (by decide) ?_
        refine vv_sub [(0, _), (1, _), (2, _), (3, _), (4, _), (5, _), (6, _), (7, _)] (sh_subm [1, 2, 3, 4, 5, 6, 7, 0] rfl) ?_
        exact ih_69 hG h
      · rw [if_neg c65] at h
        refine vv_iload 98 8 dX11_keeps_98 rfl ?_
        obtain ⟨y68, μ66, hr67, h⟩ := sh_bind_e h
        refine v1_callS [_] 100 dX11_keeps_100 ck_X11_284 (t_J6_bitCount_0f7a4 hG hr67) (Nat.le_of_ble_eq_true rfl) ⟨Nat.le_of_ble_eq_true rfl, Nat.le_of_ble_eq_true rfl⟩ rfl (Nat.le_of_ble_eq_true rfl) ?_
        have hG66 := gp_J6_bitCount_0f7a4 hG hr67
        refine vv_iload 103 7 dX11_keeps_103 rfl ?_
        refine vv_icmp_ne 105 145 dX11_keeps_105 (by decide) (fun c69 => ?_) (fun c69 => ?_)
        · rw [if_neg c69] at h
          refine vv_iincc (lv' := [(8, _), (0, _), (1, _), (2, _), (3, _), (4, _), (5, _), (6, _), (7, _)]) 145 8 dX11_keeps_145 rfl ik_1 (by decide) rfl ?_
          refine vv_goto 148 84 dX11_keeps_148 (by decide) ?_
          refine vv_sub [(0, _), (1, _), (2, _), (3, _), (4, _), (5, _), (6, _), (7, _), (8, _)] (sh_subm [1, 2, 3, 4, 5, 6, 7, 8, 0] rfl) ?_
          exact ih_84 hG66 h
        · rw [if_pos c69] at h
          refine vv_aload_n 108 0 dX11_keeps_108 rfl rfl ?_
          refine vv_getR 109 dX11_keeps_109 fl_11_99 rfl (g_l_0 hG66) (g_r_0_13 hG66) ?_
          refine vv_aload_n 112 0 dX11_keeps_112 rfl rfl ?_
          obtain ⟨k70, h⟩ := sh_chk h
          refine vv_getR 113 dX11_keeps_113 fl_11_53 rfl (g_l_0 hG66) k70.1 ?_
          refine vv_topr (fun r71 er71 => ?_)
          rw [sh_let_eq er71] at h
          have k70r : sh_r μ66 0 7 = some r71 ∧ (r71 = 8 ∨ r71 = 29) := by rw [er71]; exact k70
          refine vv_aload_n 116 0 dX11_keeps_116 rfl rfl ?_
          refine vv_getR 117 dX11_keeps_117 fl_11_85 rfl (g_l_0 hG66) (g_r_0_11 hG66) ?_
          refine vv_aload_n 120 0 dX11_keeps_120 rfl rfl ?_
          refine vv_getR 121 dX11_keeps_121 fl_11_60 rfl (g_l_0 hG66) (g_r_0_8 hG66) ?_
          refine vv_iload_n 124 3 dX11_keeps_124 rfl rfl ?_
          refine vv_iload 125 8 dX11_keeps_125 rfl ?_
          obtain ⟨μ72, hr73, h⟩ := sh_bindv_e h
          refine v1_callV [_, _, _] 127 dX11_keeps_127 ck_X11_256 (g_l_208 hG66) ⟨by decide, rfl⟩ (t_X0_behind hG66 sh_isL_49 hr73) (Nat.le_of_ble_eq_true rfl) ⟨Nat.le_of_ble_eq_true rfl, Nat.le_of_ble_eq_true rfl⟩ rfl (Nat.le_of_ble_eq_true rfl) ?_
          have hG72 := gp_X0_behind hG66 sh_isL_49 hr73
          refine vv_iload 130 4 dX11_keeps_130 rfl ?_
          refine vv_iload 132 5 dX11_keeps_132 rfl ?_
          obtain ⟨y77, μ75, hr76, h⟩ := sh_bind_e h
          refine v1_callV [_, _, _, _] 134 dX11_keeps_134 ck_X11_273 (g_l_287 hG72) ⟨by decide, rfl⟩ (t_X9_cost hG72 k70r.2 sh_isL_209 hr76) (Nat.le_of_ble_eq_true rfl) ⟨Nat.le_of_ble_eq_true rfl, Nat.le_of_ble_eq_true rfl⟩ rfl (Nat.le_of_ble_eq_true rfl) ?_
          have hG75 := gp_X9_cost hG72 k70r.2 sh_isL_209 hr76
          refine vv_iload 137 6 dX11_keeps_137 rfl ?_
          refine vv_icmp_gt 139 145 dX11_keeps_139 (by decide) (fun c78 => ?_) (fun c78 => ?_)
          · rw [if_pos c78] at h
            refine vv_iincc (lv' := [(8, _), (0, _), (1, _), (2, _), (3, _), (4, _), (5, _), (6, _), (7, _)]) 145 8 dX11_keeps_145 rfl ik_1 (by decide) rfl ?_
            refine vv_goto 148 84 dX11_keeps_148 (by decide) ?_
            refine vv_sub [(0, _), (1, _), (2, _), (3, _), (4, _), (5, _), (6, _), (7, _), (8, _)] (sh_subm [1, 2, 3, 4, 5, 6, 7, 8, 0] rfl) ?_
            exact ih_84 hG75 h
          · rw [if_neg c78] at h
            refine vv_iload 142 8 dX11_keeps_142 rfl ?_
            obtain ⟨e1, e2⟩ := sh_some2 h
            refine vv_iret 144 dX11_keeps_144 rfl (Nat.le_refl _) (Nat.le_refl _) ⟨by rw [e1], e2⟩
theorem gp_X11_keeps {a1 : Int32} {a2 : Int32} {a3 : Int32} {μ μ' : sh_Mem} {v : Int32} (hG : sh_G μ) (h : f_X11_keeps a1 a2 a3 μ = some (v, μ')) : sh_G μ' := by
  have ih_69 := (gpl_X11_keeps sh_fuel).1
  have ih_84 := (gpl_X11_keeps sh_fuel).2
  unfold f_X11_keeps at h
  obtain ⟨k79, h⟩ := sh_chk h
  obtain ⟨r80, er80⟩ : ∃ y : Nat, y = (sh_ref μ 0 7) := ⟨_, rfl⟩
  rw [sh_let_eq er80] at h
  have k79r : sh_r μ 0 7 = some r80 ∧ (r80 = 8 ∨ r80 = 29) := by rw [er80]; exact k79
  obtain ⟨y83, μ81, hr82, h⟩ := sh_bind_e h
  have hG81 := gp_X5_cellOf hG k79r.2 hr82
  obtain ⟨k84, h⟩ := sh_chk h
  obtain ⟨r85, er85⟩ : ∃ y : Nat, y = (sh_ref μ81 0 7) := ⟨_, rfl⟩
  rw [sh_let_eq er85] at h
  have k84r : sh_r μ81 0 7 = some r85 ∧ (r85 = 8 ∨ r85 = 29) := by rw [er85]; exact k84
  obtain ⟨y88, μ86, hr87, h⟩ := sh_bind_e h
  have hG86 := gp_X5_cellOf hG81 k84r.2 hr87
  by_cases c89 : y83 = (-1)
  · rw [if_pos c89] at h
    obtain ⟨e1, e2⟩ := sh_some2 h
    exact e2 ▸ hG86
  · rw [if_neg c89] at h
    by_cases c90 : y88 = (-1)
    · rw [if_pos c90] at h
      obtain ⟨e1, e2⟩ := sh_some2 h
      exact e2 ▸ hG86
    · rw [if_neg c90] at h
      obtain ⟨y93, μ91, hr92, h⟩ := sh_bind_e h
      have hG91 := gp_X11_isAhead hG86 hr92
      by_cases c94 : y93 = 0
      · rw [if_pos c94] at h
        obtain ⟨e1, e2⟩ := sh_some2 h
        exact e2 ▸ hG91
      · rw [if_neg c94] at h
        obtain ⟨k95, h⟩ := sh_chk h
        obtain ⟨r96, er96⟩ : ∃ y : Nat, y = (sh_ref μ91 0 7) := ⟨_, rfl⟩
        rw [sh_let_eq er96] at h
        have k95r : sh_r μ91 0 7 = some r96 ∧ (r96 = 8 ∨ r96 = 29) := by rw [er96]; exact k95
        obtain ⟨y99, μ97, hr98, h⟩ := sh_bind_e h
        have hG97 := gp_X9_cost hG91 k95r.2 sh_isL_49 hr98
        exact ih_69 hG97 h
theorem t_X11_keeps {a1 : Int32} {a2 : Int32} {a3 : Int32} {μ μ' : sh_Mem} {v : Int32} (hG : sh_G μ) (h : f_X11_keeps a1 a2 a3 μ = some (v, μ')) : sh_C0 l B D ca 8 M_X11_keeps [.ref 0, .int a1, .int a2, .int a3] μ (fun v0 μ0 => v0 = some (.int v) ∧ μ0 = μ') := by
  have ih_69 := (tl_X11_keeps (l := l) (B := B) (D := D) (ca := ca) sh_fuel).1
  have ih_84 := (tl_X11_keeps (l := l) (B := B) (D := D) (ca := ca) sh_fuel).2
  unfold f_X11_keeps at h
  refine vv_aload_n 0 0 dX11_keeps_0 rfl rfl ?_
  obtain ⟨k79, h⟩ := sh_chk h
  refine vv_getR 1 dX11_keeps_1 fl_11_53 rfl (g_l_0 hG) k79.1 ?_
  refine vv_topr (fun r80 er80 => ?_)
  rw [sh_let_eq er80] at h
  have k79r : sh_r μ 0 7 = some r80 ∧ (r80 = 8 ∨ r80 = 29) := by rw [er80]; exact k79
  refine vv_iload_n 4 1 dX11_keeps_4 rfl rfl ?_
  obtain ⟨y83, μ81, hr82, h⟩ := sh_bind_e h
  refine v1_callV [_] 5 dX11_keeps_5 ck_X11_263 (gP_l hG k79r.2) ⟨by decide, rfl⟩ (t_X5_cellOf hG k79r.2 hr82) (Nat.le_of_ble_eq_true rfl) ⟨Nat.le_of_ble_eq_true rfl, Nat.le_of_ble_eq_true rfl⟩ rfl (Nat.le_of_ble_eq_true rfl) ?_
  have hG81 := gp_X5_cellOf hG k79r.2 hr82
  refine vv_istore (lv' := [(4, _), (0, _), (1, _), (2, _), (3, _)]) 8 4 dX11_keeps_8 (by decide) rfl ?_
  refine vv_aload_n 10 0 dX11_keeps_10 rfl rfl ?_
  obtain ⟨k84, h⟩ := sh_chk h
  refine vv_getR 11 dX11_keeps_11 fl_11_53 rfl (g_l_0 hG81) k84.1 ?_
  refine vv_topr (fun r85 er85 => ?_)
  rw [sh_let_eq er85] at h
  have k84r : sh_r μ81 0 7 = some r85 ∧ (r85 = 8 ∨ r85 = 29) := by rw [er85]; exact k84
  refine vv_iload_n 14 2 dX11_keeps_14 rfl rfl ?_
  obtain ⟨y88, μ86, hr87, h⟩ := sh_bind_e h
  refine v1_callV [_] 15 dX11_keeps_15 ck_X11_263 (gP_l hG81 k84r.2) ⟨by decide, rfl⟩ (t_X5_cellOf hG81 k84r.2 hr87) (Nat.le_of_ble_eq_true rfl) ⟨Nat.le_of_ble_eq_true rfl, Nat.le_of_ble_eq_true rfl⟩ rfl (Nat.le_of_ble_eq_true rfl) ?_
  have hG86 := gp_X5_cellOf hG81 k84r.2 hr87
  refine vv_istore (lv' := [(5, _), (4, _), (0, _), (1, _), (2, _), (3, _)]) 18 5 dX11_keeps_18 (by decide) rfl ?_
  refine vv_iload 20 4 dX11_keeps_20 rfl ?_
  refine vv_iconst 22 dX11_keeps_22 ik_m1 ?_
  refine vv_icmp_eq 23 43 dX11_keeps_23 (by decide) (fun c89 => ?_) (fun c89 => ?_)
  · rw [if_pos c89] at h
    refine vv_iconst 43 dX11_keeps_43 ik_m1 ?_
    obtain ⟨e1, e2⟩ := sh_some2 h
    refine vv_iret 44 dX11_keeps_44 rfl (Nat.le_refl _) (Nat.le_refl _) ⟨by rw [e1], e2⟩
  · rw [if_neg c89] at h
    refine vv_iload 26 5 dX11_keeps_26 rfl ?_
    refine vv_iconst 28 dX11_keeps_28 ik_m1 ?_
    refine vv_icmp_eq 29 43 dX11_keeps_29 (by decide) (fun c90 => ?_) (fun c90 => ?_)
    · rw [if_pos c90] at h
      refine vv_iconst 43 dX11_keeps_43 ik_m1 ?_
      obtain ⟨e1, e2⟩ := sh_some2 h
      refine vv_iret 44 dX11_keeps_44 rfl (Nat.le_refl _) (Nat.le_refl _) ⟨by rw [e1], e2⟩
    · rw [if_neg c90] at h
      refine vv_aload_n 32 0 dX11_keeps_32 rfl rfl ?_
      refine vv_iload_n 33 3 dX11_keeps_33 rfl rfl ?_
      refine vv_iconst 34 dX11_keeps_34 ik_1 ?_
      refine vv_bipush 35 dX11_keeps_35 bk_20 ?_
      obtain ⟨y93, μ91, hr92, h⟩ := sh_bind_e h
      refine v1_callV [_, _, _] 37 dX11_keeps_37 ck_X11_252 (g_l_0 hG86) ⟨by decide, rfl⟩ (t_X11_isAhead hG86 hr92) (Nat.le_of_ble_eq_true rfl) ⟨Nat.le_of_ble_eq_true rfl, Nat.le_of_ble_eq_true rfl⟩ rfl (Nat.le_of_ble_eq_true rfl) ?_
      have hG91 := gp_X11_isAhead hG86 hr92
      refine vv_if_ne 40 45 dX11_keeps_40 (by decide) (fun c94 => ?_) (fun c94 => ?_)
      · rw [if_neg c94] at h
        refine vv_aload_n 45 0 dX11_keeps_45 rfl rfl ?_
        refine vv_getR 46 dX11_keeps_46 fl_11_99 rfl (g_l_0 hG91) (g_r_0_13 hG91) ?_
        refine vv_aload_n 49 0 dX11_keeps_49 rfl rfl ?_
        obtain ⟨k95, h⟩ := sh_chk h
        refine vv_getR 50 dX11_keeps_50 fl_11_53 rfl (g_l_0 hG91) k95.1 ?_
        refine vv_topr (fun r96 er96 => ?_)
        rw [sh_let_eq er96] at h
        have k95r : sh_r μ91 0 7 = some r96 ∧ (r96 = 8 ∨ r96 = 29) := by rw [er96]; exact k95
        refine vv_aload_n 53 0 dX11_keeps_53 rfl rfl ?_
        refine vv_getR 54 dX11_keeps_54 fl_11_60 rfl (g_l_0 hG91) (g_r_0_8 hG91) ?_
        refine vv_iload 57 4 dX11_keeps_57 rfl ?_
        refine vv_iload 59 5 dX11_keeps_59 rfl ?_
        obtain ⟨y99, μ97, hr98, h⟩ := sh_bind_e h
        refine v1_callV [_, _, _, _] 61 dX11_keeps_61 ck_X11_273 (g_l_287 hG91) ⟨by decide, rfl⟩ (t_X9_cost hG91 k95r.2 sh_isL_49 hr98) (Nat.le_of_ble_eq_true rfl) ⟨Nat.le_of_ble_eq_true rfl, Nat.le_of_ble_eq_true rfl⟩ rfl (Nat.le_of_ble_eq_true rfl) ?_
        have hG97 := gp_X9_cost hG91 k95r.2 sh_isL_49 hr98
        refine vv_istore (lv' := [(6, _), (5, _), (4, _), (0, _), (1, _), (2, _), (3, _)]) 64 6 dX11_keeps_64 (by decide) rfl ?_
        refine vv_iconst 66 dX11_keeps_66 ik_0 ?_
        refine vv_istore (lv' := [(7, _), (6, _), (5, _), (4, _), (0, _), (1, _), (2, _), (3, _)]) 67 7 dX11_keeps_67 (by decide) rfl ?_
        refine vv_sub [(0, _), (1, _), (2, _), (3, _), (4, _), (5, _), (6, _), (7, _)] (sh_subm [4, 5, 6, 7, 3, 2, 1, 0] rfl) ?_
        exact ih_69 hG97 h
      · rw [if_pos c94] at h
        refine vv_iconst 43 dX11_keeps_43 ik_m1 ?_
        obtain ⟨e1, e2⟩ := sh_some2 h
        refine vv_iret 44 dX11_keeps_44 rfl (Nat.le_refl _) (Nat.le_refl _) ⟨by rw [e1], e2⟩
noncomputable def F_X11_rest : Nat → Nat → Int32 → Int32 → Int32 → sh_Mem → Option (Int32 × sh_Mem)
  | 0, _, _, _, _, _ => none
  | fuel + 1, lbl, i1, i2, i3, μ => match lbl with
    | 1 => (if (sh_r μ 0 7 = some (sh_ref μ 0 7) ∧ ((sh_ref μ 0 7) = 8 ∨ (sh_ref μ 0 7) = 29)) then sh_let (sh_ref μ 0 7) (fun r52 => (if ((1 : Int32) <<< ((sh_i μ r52 3) &&& 31)) ≤ i2 then F_X11_rest fuel 2 i1 0 0 μ else sh_bindv (f_X0_behind 49 i1 i2 μ) (fun μ54 => sh_bindv (f_X0_learnOwnHeights 209 i2 μ54) (fun μ57 => F_X11_rest fuel 1 i1 (i2 + 1) 0 μ57)))) else none)
    | 2 => (if (sh_r μ 0 7 = some (sh_ref μ 0 7) ∧ ((sh_ref μ 0 7) = 8 ∨ (sh_ref μ 0 7) = 29)) then sh_let (sh_ref μ 0 7) (fun r61 => (if (sh_i μ r61 3) < i2 then some ((-1), μ) else F_X11_rest fuel 3 i1 i2 0 μ)) else none)
    | 3 => (if (sh_r μ 0 7 = some (sh_ref μ 0 7) ∧ ((sh_ref μ 0 7) = 8 ∨ (sh_ref μ 0 7) = 29)) then sh_let (sh_ref μ 0 7) (fun r64 => (if ((1 : Int32) <<< ((sh_i μ r64 3) &&& 31)) ≤ i3 then F_X11_rest fuel 2 i1 (i2 + 1) 0 μ else sh_bind (f_J6_bitCount_0f7a4 i3 μ) (fun y68 μ66 => (if y68 = i2 then sh_bind (f_X0_isAtRest i3 μ66) (fun y72 μ70 => (if y72 = 0 then F_X11_rest fuel 3 i1 i2 (i3 + 1) μ70 else some (i3, μ70))) else F_X11_rest fuel 3 i1 i2 (i3 + 1) μ66)))) else none)
    | _ => none
noncomputable def f_X11_rest (a1 : Int32) (μ : sh_Mem) : Option (Int32 × sh_Mem) := sh_bind (f_X11_isAhead a1 1 20 μ) (fun y76 μ74 => (if y76 = 0 then some ((-1), μ74) else F_X11_rest sh_fuel 1 a1 0 0 μ74))
theorem gpl_X11_rest (fuel : Nat) : (∀ ⦃i1 : Int32⦄ ⦃i2 : Int32⦄ ⦃i3 : Int32⦄ ⦃μ μ' : sh_Mem⦄ ⦃v : Int32⦄, sh_G μ → F_X11_rest fuel 1 i1 i2 i3 μ = some (v, μ') → sh_G μ') ∧ (∀ ⦃i1 : Int32⦄ ⦃i2 : Int32⦄ ⦃i3 : Int32⦄ ⦃μ μ' : sh_Mem⦄ ⦃v : Int32⦄, sh_G μ → F_X11_rest fuel 2 i1 i2 i3 μ = some (v, μ') → sh_G μ') ∧ (∀ ⦃i1 : Int32⦄ ⦃i2 : Int32⦄ ⦃i3 : Int32⦄ ⦃μ μ' : sh_Mem⦄ ⦃v : Int32⦄, sh_G μ → F_X11_rest fuel 3 i1 i2 i3 μ = some (v, μ') → sh_G μ') := by
  induction fuel with
  | zero => exact ⟨(by intro i1 i2 i3 μ μ' v hG h; cases h), (by intro i1 i2 i3 μ μ' v hG h; cases h), (by intro i1 i2 i3 μ μ' v hG h; cases h)⟩
  | succ fuel ih =>
    obtain ⟨ih_15, ih_57, ih_70⟩ := ih
    refine ⟨?_, ?_, ?_⟩
    · intro i1 i2 i3 μ μ' v hG h
      replace h : ((if (sh_r μ 0 7 = some (sh_ref μ 0 7) ∧ ((sh_ref μ 0 7) = 8 ∨ (sh_ref μ 0 7) = 29)) then sh_let (sh_ref μ 0 7) (fun r52 => (if ((1 : Int32) <<< ((sh_i μ r52 3) &&& 31)) ≤ i2 then F_X11_rest fuel 2 i1 0 0 μ else sh_bindv (f_X0_behind 49 i1 i2 μ) (fun μ54 => sh_bindv (f_X0_learnOwnHeights 209 i2 μ54) (fun μ57 => F_X11_rest fuel 1 i1 (i2 + 1) 0 μ57)))) else none) : Option (Int32 × sh_Mem)) = some (v, μ') := h
      obtain ⟨k51, h⟩ := sh_chk h
      obtain ⟨r52, er52⟩ : ∃ y : Nat, y = (sh_ref μ 0 7) := ⟨_, rfl⟩
      rw [sh_let_eq er52] at h
      have k51r : sh_r μ 0 7 = some r52 ∧ (r52 = 8 ∨ r52 = 29) := by rw [er52]; exact k51
      by_cases c53 : ((1 : Int32) <<< ((sh_i μ r52 3) &&& 31)) ≤ i2
      · rw [if_pos c53] at h
        exact ih_57 hG h
      · rw [if_neg c53] at h
        obtain ⟨μ54, hr55, h⟩ := sh_bindv_e h
        have hG54 := gp_X0_behind hG sh_isL_49 hr55
        obtain ⟨μ57, hr58, h⟩ := sh_bindv_e h
        have hG57 := gp_X0_learnOwnHeights hG54 sh_isL_209 hr58
        exact ih_15 hG57 h
    · intro i1 i2 i3 μ μ' v hG h
      replace h : ((if (sh_r μ 0 7 = some (sh_ref μ 0 7) ∧ ((sh_ref μ 0 7) = 8 ∨ (sh_ref μ 0 7) = 29)) then sh_let (sh_ref μ 0 7) (fun r61 => (if (sh_i μ r61 3) < i2 then some ((-1), μ) else F_X11_rest fuel 3 i1 i2 0 μ)) else none) : Option (Int32 × sh_Mem)) = some (v, μ') := h
      obtain ⟨k60, h⟩ := sh_chk h
      obtain ⟨r61, er61⟩ : ∃ y : Nat, y = (sh_ref μ 0 7) := ⟨_, rfl⟩
      rw [sh_let_eq er61] at h
      have k60r : sh_r μ 0 7 = some r61 ∧ (r61 = 8 ∨ r61 = 29) := by rw [er61]; exact k60
      by_cases c62 : (sh_i μ r61 3) < i2
      · rw [if_pos c62] at h
        obtain ⟨e1, e2⟩ := sh_some2 h
        exact e2 ▸ hG
      · rw [if_neg c62] at h
        exact ih_70 hG h
    · intro i1 i2 i3 μ μ' v hG h
      replace h : ((if (sh_r μ 0 7 = some (sh_ref μ 0 7) ∧ ((sh_ref μ 0 7) = 8 ∨ (sh_ref μ 0 7) = 29)) then sh_let (sh_ref μ 0 7) (fun r64 => (if ((1 : Int32) <<< ((sh_i μ r64 3) &&& 31)) ≤ i3 then F_X11_rest fuel 2 i1 (i2 + 1) 0 μ else sh_bind (f_J6_bitCount_0f7a4 i3 μ) (fun y68 μ66 => (if y68 = i2 then sh_bind (f_X0_isAtRest i3 μ66) (fun y72 μ70 => (if y72 = 0 then F_X11_rest fuel 3 i1 i2 (i3 + 1) μ70 else some (i3, μ70))) else F_X11_rest fuel 3 i1 i2 (i3 + 1) μ66)))) else none) : Option (Int32 × sh_Mem)) = some (v, μ') := h
      obtain ⟨k63, h⟩ := sh_chk h
      obtain ⟨r64, er64⟩ : ∃ y : Nat, y = (sh_ref μ 0 7) := ⟨_, rfl⟩
      rw [sh_let_eq er64] at h
      have k63r : sh_r μ 0 7 = some r64 ∧ (r64 = 8 ∨ r64 = 29) := by rw [er64]; exact k63
      by_cases c65 : ((1 : Int32) <<< ((sh_i μ r64 3) &&& 31)) ≤ i3
      · rw [if_pos c65] at h
        exact ih_57 hG h
      · rw [if_neg c65] at h
        obtain ⟨y68, μ66, hr67, h⟩ := sh_bind_e h
        have hG66 := gp_J6_bitCount_0f7a4 hG hr67
        by_cases c69 : y68 = i2
        · rw [if_pos c69] at h
          obtain ⟨y72, μ70, hr71, h⟩ := sh_bind_e h
          have hG70 := gp_X0_isAtRest hG66 hr71
          by_cases c73 : y72 = 0
          · rw [if_pos c73] at h
            exact ih_70 hG70 h
          · rw [if_neg c73] at h
            obtain ⟨e1, e2⟩ := sh_some2 h
            exact e2 ▸ hG70
        · rw [if_neg c69] at h
          exact ih_70 hG66 h
theorem tl_X11_rest (fuel : Nat) : (∀ ⦃i1 : Int32⦄ ⦃i2 : Int32⦄ ⦃i3 : Int32⦄ ⦃μ μ' : sh_Mem⦄ ⦃v : Int32⦄, sh_G μ → F_X11_rest fuel 1 i1 i2 i3 μ = some (v, μ') → sh_V0 l B D ca 8 M_X11_rest 15 [(0, .ref 0), (1, .int i1), (2, .int i2)] [] μ (fun v0 μ0 => v0 = some (.int v) ∧ μ0 = μ')) ∧ (∀ ⦃i1 : Int32⦄ ⦃i2 : Int32⦄ ⦃i3 : Int32⦄ ⦃μ μ' : sh_Mem⦄ ⦃v : Int32⦄, sh_G μ → F_X11_rest fuel 2 i1 i2 i3 μ = some (v, μ') → sh_V0 l B D ca 8 M_X11_rest 57 [(0, .ref 0), (1, .int i1), (2, .int i2)] [] μ (fun v0 μ0 => v0 = some (.int v) ∧ μ0 = μ')) ∧ (∀ ⦃i1 : Int32⦄ ⦃i2 : Int32⦄ ⦃i3 : Int32⦄ ⦃μ μ' : sh_Mem⦄ ⦃v : Int32⦄, sh_G μ → F_X11_rest fuel 3 i1 i2 i3 μ = some (v, μ') → sh_V0 l B D ca 8 M_X11_rest 70 [(0, .ref 0), (1, .int i1), (2, .int i2), (3, .int i3)] [] μ (fun v0 μ0 => v0 = some (.int v) ∧ μ0 = μ')) := by
  induction fuel with
  | zero => exact ⟨(by intro i1 i2 i3 μ μ' v hG h; cases h), (by intro i1 i2 i3 μ μ' v hG h; cases h), (by intro i1 i2 i3 μ μ' v hG h; cases h)⟩
  | succ fuel ih =>
    obtain ⟨ih_15, ih_57, ih_70⟩ := ih
    refine ⟨?_, ?_, ?_⟩
    · intro i1 i2 i3 μ μ' v hG h
      replace h : ((if (sh_r μ 0 7 = some (sh_ref μ 0 7) ∧ ((sh_ref μ 0 7) = 8 ∨ (sh_ref μ 0 7) = 29)) then sh_let (sh_ref μ 0 7) (fun r52 => (if ((1 : Int32) <<< ((sh_i μ r52 3) &&& 31)) ≤ i2 then F_X11_rest fuel 2 i1 0 0 μ else sh_bindv (f_X0_behind 49 i1 i2 μ) (fun μ54 => sh_bindv (f_X0_learnOwnHeights 209 i2 μ54) (fun μ57 => F_X11_rest fuel 1 i1 (i2 + 1) 0 μ57)))) else none) : Option (Int32 × sh_Mem)) = some (v, μ') := h
      refine vv_iload_n 15 2 dX11_rest_15 rfl rfl ?_
      refine vv_iconst 16 dX11_rest_16 ik_1 ?_
      refine vv_aload_n 17 0 dX11_rest_17 rfl rfl ?_
      obtain ⟨k51, h⟩ := sh_chk h
      refine vv_getR 18 dX11_rest_18 fl_11_53 rfl (g_l_0 hG) k51.1 ?_
      refine vv_topr (fun r52 er52 => ?_)
      rw [sh_let_eq er52] at h
      have k51r : sh_r μ 0 7 = some r52 ∧ (r52 = 8 ∨ r52 = 29) := by rw [er52]; exact k51
      refine vv_getI 21 dX11_rest_21 fl_11_180 rfl (gP_l hG k51r.2) ?_
      refine vv_ishl 24 dX11_rest_24 ?_
      refine vv_icmp_ge 25 55 dX11_rest_25 (by decide) (fun c53 => ?_) (fun c53 => ?_)
      · rw [if_pos c53] at h
        refine vv_iconst 55 dX11_rest_55 ik_0 ?_
        refine vv_istore_n (lv' := [(2, _), (0, _), (1, _)]) 56 2 dX11_rest_56 rfl (by decide) rfl ?_
        refine vv_sub [(0, _), (1, _), (2, _)] (sh_subm [1, 2, 0] rfl) ?_
        exact ih_57 hG h
      · rw [if_neg c53] at h
        refine vv_aload_n 28 0 dX11_rest_28 rfl rfl ?_
        refine vv_getR 29 dX11_rest_29 fl_11_85 rfl (g_l_0 hG) (g_r_0_11 hG) ?_
        refine vv_aload_n 32 0 dX11_rest_32 rfl rfl ?_
        refine vv_getR 33 dX11_rest_33 fl_11_85 rfl (g_l_0 hG) (g_r_0_11 hG) ?_
        refine vv_aload_n 36 0 dX11_rest_36 rfl rfl ?_
        refine vv_getR 37 dX11_rest_37 fl_11_60 rfl (g_l_0 hG) (g_r_0_8 hG) ?_
        refine vv_iload_n 40 1 dX11_rest_40 rfl rfl ?_
        refine vv_iload_n 41 2 dX11_rest_41 rfl rfl ?_
        obtain ⟨μ54, hr55, h⟩ := sh_bindv_e h
        refine v1_callV [_, _, _] 42 dX11_rest_42 ck_X11_256 (g_l_208 hG) ⟨by decide, rfl⟩ (t_X0_behind hG sh_isL_49 hr55) (Nat.le_of_ble_eq_true rfl) ⟨Nat.le_of_ble_eq_true rfl, Nat.le_of_ble_eq_true rfl⟩ rfl (Nat.le_of_ble_eq_true rfl) ?_
        have hG54 := gp_X0_behind hG sh_isL_49 hr55
        refine vv_iload_n 45 2 dX11_rest_45 rfl rfl ?_
        obtain ⟨μ57, hr58, h⟩ := sh_bindv_e h
        refine v1_callV [_, _] 46 dX11_rest_46 ck_X11_289 (g_l_208 hG54) ⟨by decide, rfl⟩ (t_X0_learnOwnHeights hG54 sh_isL_209 hr58) (Nat.le_of_ble_eq_true rfl) ⟨Nat.le_of_ble_eq_true rfl, Nat.le_of_ble_eq_true rfl⟩ rfl (Nat.le_of_ble_eq_true rfl) ?_
        have hG57 := gp_X0_learnOwnHeights hG54 sh_isL_209 hr58
        refine vv_iincc (lv' := [(2, _), (0, _), (1, _)]) 49 2 dX11_rest_49 rfl ik_1 (by decide) rfl ?_
        refine vv_goto 52 15 dX11_rest_52 (by decide) ?_
        refine vv_sub [(0, _), (1, _), (2, _)] (sh_subm [1, 2, 0] rfl) ?_
        exact ih_15 hG57 h
    · intro i1 i2 i3 μ μ' v hG h
      replace h : ((if (sh_r μ 0 7 = some (sh_ref μ 0 7) ∧ ((sh_ref μ 0 7) = 8 ∨ (sh_ref μ 0 7) = 29)) then sh_let (sh_ref μ 0 7) (fun r61 => (if (sh_i μ r61 3) < i2 then some ((-1), μ) else F_X11_rest fuel 3 i1 i2 0 μ)) else none) : Option (Int32 × sh_Mem)) = some (v, μ') := h
      refine vv_iload_n 57 2 dX11_rest_57 rfl rfl ?_
      refine vv_aload_n 58 0 dX11_rest_58 rfl rfl ?_
      obtain ⟨k60, h⟩ := sh_chk h
      refine vv_getR 59 dX11_rest_59 fl_11_53 rfl (g_l_0 hG) k60.1 ?_
      refine vv_topr (fun r61 er61 => ?_)
      rw [sh_let_eq er61] at h
      have k60r : sh_r μ 0 7 = some r61 ∧ (r61 = 8 ∨ r61 = 29) := by rw [er61]; exact k60
      refine vv_getI 62 dX11_rest_62 fl_11_180 rfl (gP_l hG k60r.2) ?_
      refine vv_icmp_gt 65 116 dX11_rest_65 (by decide) (fun c62 => ?_) (fun c62 => ?_)
      · rw [if_pos c62] at h
        refine vv_iconst 116 dX11_rest_116 ik_m1 ?_
        obtain ⟨e1, e2⟩ := sh_some2 h
        refine vv_iret 117 dX11_rest_117 rfl (Nat.le_refl _) (Nat.le_refl _) ⟨by rw [e1], e2⟩
      · rw [if_neg c62] at h
        refine vv_iconst 68 dX11_rest_68 ik_0 ?_
        refine vv_istore_n (lv' := [(3, _), (0, _), (1, _), (2, _)]) 69 3 dX11_rest_69 rfl (by decide) rfl ?_
        refine vv_sub [(0, _), (1, _), (2, _), (3, _)] (sh_subm [1, 2, 3, 0] rfl) ?_
        exact ih_70 hG h
    · intro i1 i2 i3 μ μ' v hG h
      replace h : ((if (sh_r μ 0 7 = some (sh_ref μ 0 7) ∧ ((sh_ref μ 0 7) = 8 ∨ (sh_ref μ 0 7) = 29)) then sh_let (sh_ref μ 0 7) (fun r64 => (if ((1 : Int32) <<< ((sh_i μ r64 3) &&& 31)) ≤ i3 then F_X11_rest fuel 2 i1 (i2 + 1) 0 μ else sh_bind (f_J6_bitCount_0f7a4 i3 μ) (fun y68 μ66 => (if y68 = i2 then sh_bind (f_X0_isAtRest i3 μ66) (fun y72 μ70 => (if y72 = 0 then F_X11_rest fuel 3 i1 i2 (i3 + 1) μ70 else some (i3, μ70))) else F_X11_rest fuel 3 i1 i2 (i3 + 1) μ66)))) else none) : Option (Int32 × sh_Mem)) = some (v, μ') := h
      refine vv_iload_n 70 3 dX11_rest_70 rfl rfl ?_
      refine vv_iconst 71 dX11_rest_71 ik_1 ?_
      refine vv_aload_n 72 0 dX11_rest_72 rfl rfl ?_
      obtain ⟨k63, h⟩ := sh_chk h
      refine vv_getR 73 dX11_rest_73 fl_11_53 rfl (g_l_0 hG) k63.1 ?_
      refine vv_topr (fun r64 er64 => ?_)
      rw [sh_let_eq er64] at h
      have k63r : sh_r μ 0 7 = some r64 ∧ (r64 = 8 ∨ r64 = 29) := by rw [er64]; exact k63
      refine vv_getI 76 dX11_rest_76 fl_11_180 rfl (gP_l hG k63r.2) ?_
      refine vv_ishl 79 dX11_rest_79 ?_
      refine vv_icmp_ge 80 110 dX11_rest_80 (by decide) (fun c65 => ?_) (fun c65 => ?_)
      · rw [if_pos c65] at h
        refine vv_iincc (lv' := [(2, _), (0, _), (1, _), (3, _)]) 110 2 dX11_rest_110 rfl ik_1 (by decide) rfl ?_
        refine vv_goto 113 57 dX11_rest_113 (by decide) ?_
        refine vv_sub [(0, _), (1, _), (2, _)] (sh_subm [1, 2, 0] rfl) ?_
        exact ih_57 hG h
      · rw [if_neg c65] at h
        refine vv_iload_n 83 3 dX11_rest_83 rfl rfl ?_
        obtain ⟨y68, μ66, hr67, h⟩ := sh_bind_e h
        refine v1_callS [_] 84 dX11_rest_84 ck_X11_284 (t_J6_bitCount_0f7a4 hG hr67) (Nat.le_of_ble_eq_true rfl) ⟨Nat.le_of_ble_eq_true rfl, Nat.le_of_ble_eq_true rfl⟩ rfl (Nat.le_of_ble_eq_true rfl) ?_
        have hG66 := gp_J6_bitCount_0f7a4 hG hr67
        refine vv_iload_n 87 2 dX11_rest_87 rfl rfl ?_
        refine vv_icmp_ne 88 104 dX11_rest_88 (by decide) (fun c69 => ?_) (fun c69 => ?_)
        · rw [if_neg c69] at h
          refine vv_iincc (lv' := [(3, _), (0, _), (1, _), (2, _)]) 104 3 dX11_rest_104 rfl ik_1 (by decide) rfl ?_
          refine vv_goto 107 70 dX11_rest_107 (by decide) ?_
          refine vv_sub [(0, _), (1, _), (2, _), (3, _)] (sh_subm [1, 2, 3, 0] rfl) ?_
          exact ih_70 hG66 h
        · rw [if_pos c69] at h
          refine vv_aload_n 91 0 dX11_rest_91 rfl rfl ?_
          refine vv_getR 92 dX11_rest_92 fl_11_85 rfl (g_l_0 hG66) (g_r_0_11 hG66) ?_
          refine vv_iload_n 95 3 dX11_rest_95 rfl rfl ?_
          obtain ⟨y72, μ70, hr71, h⟩ := sh_bind_e h
          refine v1_callV [_] 96 dX11_rest_96 ck_X11_293 (g_l_208 hG66) ⟨by decide, rfl⟩ (t_X0_isAtRest hG66 hr71) (Nat.le_of_ble_eq_true rfl) ⟨Nat.le_of_ble_eq_true rfl, Nat.le_of_ble_eq_true rfl⟩ rfl (Nat.le_of_ble_eq_true rfl) ?_
          have hG70 := gp_X0_isAtRest hG66 hr71
          refine vv_if_eq 99 104 dX11_rest_99 (by decide) (fun c73 => ?_) (fun c73 => ?_)
          · rw [if_pos c73] at h
            refine vv_iincc (lv' := [(3, _), (0, _), (1, _), (2, _)]) 104 3 dX11_rest_104 rfl ik_1 (by decide) rfl ?_
            refine vv_goto 107 70 dX11_rest_107 (by decide) ?_
            refine vv_sub [(0, _), (1, _), (2, _), (3, _)] (sh_subm [1, 2, 3, 0] rfl) ?_
            exact ih_70 hG70 h
          · rw [if_neg c73] at h
            refine vv_iload_n 102 3 dX11_rest_102 rfl rfl ?_
            obtain ⟨e1, e2⟩ := sh_some2 h
            refine vv_iret 103 dX11_rest_103 rfl (Nat.le_refl _) (Nat.le_refl _) ⟨by rw [e1], e2⟩
theorem gp_X11_rest {a1 : Int32} {μ μ' : sh_Mem} {v : Int32} (hG : sh_G μ) (h : f_X11_rest a1 μ = some (v, μ')) : sh_G μ' := by
  have ih_15 := (gpl_X11_rest sh_fuel).1
  have ih_57 := (gpl_X11_rest sh_fuel).2.1
  have ih_70 := (gpl_X11_rest sh_fuel).2.2
  unfold f_X11_rest at h
  obtain ⟨y76, μ74, hr75, h⟩ := sh_bind_e h
  have hG74 := gp_X11_isAhead hG hr75
  by_cases c77 : y76 = 0
  · rw [if_pos c77] at h
    obtain ⟨e1, e2⟩ := sh_some2 h
    exact e2 ▸ hG74
  · rw [if_neg c77] at h
    exact ih_15 hG74 h
theorem t_X11_rest {a1 : Int32} {μ μ' : sh_Mem} {v : Int32} (hG : sh_G μ) (h : f_X11_rest a1 μ = some (v, μ')) : sh_C0 l B D ca 8 M_X11_rest [.ref 0, .int a1] μ (fun v0 μ0 => v0 = some (.int v) ∧ μ0 = μ') := by
  have ih_15 := (tl_X11_rest (l := l) (B := B) (D := D) (ca := ca) sh_fuel).1
  have ih_57 := (tl_X11_rest (l := l) (B := B) (D := D) (ca := ca) sh_fuel).2.1
  have ih_70 := (tl_X11_rest (l := l) (B := B) (D := D) (ca := ca) sh_fuel).2.2
  unfold f_X11_rest at h
  refine vv_aload_n 0 0 dX11_rest_0 rfl rfl ?_
  refine vv_iload_n 1 1 dX11_rest_1 rfl rfl ?_
  refine vv_iconst 2 dX11_rest_2 ik_1 ?_
  refine vv_bipush 3 dX11_rest_3 bk_20 ?_
  obtain ⟨y76, μ74, hr75, h⟩ := sh_bind_e h
  refine v1_callV [_, _, _] 5 dX11_rest_5 ck_X11_252 (g_l_0 hG) ⟨by decide, rfl⟩ (t_X11_isAhead hG hr75) (Nat.le_of_ble_eq_true rfl) ⟨Nat.le_of_ble_eq_true rfl, Nat.le_of_ble_eq_true rfl⟩ rfl (Nat.le_of_ble_eq_true rfl) ?_
  have hG74 := gp_X11_isAhead hG hr75
  refine vv_if_ne 8 13 dX11_rest_8 (by decide) (fun c77 => ?_) (fun c77 => ?_)
  · rw [if_neg c77] at h
    refine vv_iconst 13 dX11_rest_13 ik_0 ?_
    refine vv_istore_n (lv' := [(2, _), (0, _), (1, _)]) 14 2 dX11_rest_14 rfl (by decide) rfl ?_
    refine vv_sub [(0, _), (1, _), (2, _)] (sh_subm [1, 2, 0] rfl) ?_
    exact ih_15 hG74 h
  · rw [if_pos c77] at h
    refine vv_iconst 11 dX11_rest_11 ik_m1 ?_
    obtain ⟨e1, e2⟩ := sh_some2 h
    refine vv_iret 12 dX11_rest_12 rfl (Nat.le_refl _) (Nat.le_refl _) ⟨by rw [e1], e2⟩
noncomputable def f_X11_who (a1 : Int32) (μ : sh_Mem) : Option (Int32 × sh_Mem) := sh_bind (f_X11_isTopic a1 μ) (fun y3 μ1 => (if y3 = 0 then some ((-1), μ1) else sh_bind (f_X0_whoFits 49 a1 μ1) (fun y7 μ5 => some (y7, μ5))))
theorem gp_X11_who {a1 : Int32} {μ μ' : sh_Mem} {v : Int32} (hG : sh_G μ) (h : f_X11_who a1 μ = some (v, μ')) : sh_G μ' := by
  unfold f_X11_who at h
  obtain ⟨y3, μ1, hr2, h⟩ := sh_bind_e h
  have hG1 := gp_X11_isTopic hG hr2
  by_cases c4 : y3 = 0
  · rw [if_pos c4] at h
    obtain ⟨e1, e2⟩ := sh_some2 h
    exact e2 ▸ hG1
  · rw [if_neg c4] at h
    obtain ⟨y7, μ5, hr6, h⟩ := sh_bind_e h
    have hG5 := gp_X0_whoFits hG1 sh_isL_49 hr6
    obtain ⟨e1, e2⟩ := sh_some2 h
    exact e2 ▸ hG5
theorem t_X11_who {a1 : Int32} {μ μ' : sh_Mem} {v : Int32} (hG : sh_G μ) (h : f_X11_who a1 μ = some (v, μ')) : sh_C0 l B D ca 8 M_X11_who [.ref 0, .int a1] μ (fun v0 μ0 => v0 = some (.int v) ∧ μ0 = μ') := by
  unfold f_X11_who at h
  refine vv_aload_n 0 0 dX11_who_0 rfl rfl ?_
  refine vv_iload_n 1 1 dX11_who_1 rfl rfl ?_
  obtain ⟨y3, μ1, hr2, h⟩ := sh_bind_e h
  refine v1_callV [_] 2 dX11_who_2 ck_X11_201 (g_l_0 hG) ⟨by decide, rfl⟩ (t_X11_isTopic hG hr2) (Nat.le_of_ble_eq_true rfl) ⟨Nat.le_of_ble_eq_true rfl, Nat.le_of_ble_eq_true rfl⟩ rfl (Nat.le_of_ble_eq_true rfl) ?_
  have hG1 := gp_X11_isTopic hG hr2
  refine vv_if_eq 5 23 dX11_who_5 (by decide) (fun c4 => ?_) (fun c4 => ?_)
  · rw [if_pos c4] at h
    refine vv_iconst 23 dX11_who_23 ik_m1 ?_
    obtain ⟨e1, e2⟩ := sh_some2 h
    refine vv_iret 24 dX11_who_24 rfl (Nat.le_refl _) (Nat.le_refl _) ⟨by rw [e1], e2⟩
  · rw [if_neg c4] at h
    refine vv_aload_n 8 0 dX11_who_8 rfl rfl ?_
    refine vv_getR 9 dX11_who_9 fl_11_85 rfl (g_l_0 hG1) (g_r_0_11 hG1) ?_
    refine vv_aload_n 12 0 dX11_who_12 rfl rfl ?_
    refine vv_getR 13 dX11_who_13 fl_11_60 rfl (g_l_0 hG1) (g_r_0_8 hG1) ?_
    refine vv_iload_n 16 1 dX11_who_16 rfl rfl ?_
    obtain ⟨y7, μ5, hr6, h⟩ := sh_bind_e h
    refine v1_callV [_, _] 17 dX11_who_17 ck_X11_308 (g_l_208 hG1) ⟨by decide, rfl⟩ (t_X0_whoFits hG1 sh_isL_49 hr6) (Nat.le_of_ble_eq_true rfl) ⟨Nat.le_of_ble_eq_true rfl, Nat.le_of_ble_eq_true rfl⟩ rfl (Nat.le_of_ble_eq_true rfl) ?_
    have hG5 := gp_X0_whoFits hG1 sh_isL_49 hr6
    refine vv_goto 20 24 dX11_who_20 (by decide) ?_
    obtain ⟨e1, e2⟩ := sh_some2 h
    refine vv_iret 24 dX11_who_24 rfl (Nat.le_refl _) (Nat.le_refl _) ⟨by rw [e1], e2⟩
noncomputable def f_X11_tells (a1 : Int32) (a2 : Int32) (μ : sh_Mem) : Option (Int32 × sh_Mem) := sh_bind (f_X11_isTopic a1 μ) (fun y3 μ1 => (if y3 = 0 then some ((-1), μ1) else (if a2 < 0 then some ((-1), μ1) else (if a2 ≤ 2 then sh_bind (f_X0_whoFits 49 a1 μ1) (fun y9 μ7 => (if y9 = 0 then some ((-1), μ7) else sh_bindv (f_X0_findTelling 49 a1 y9 μ7) (fun μ11 => (if a2 = 0 then some ((sh_i μ11 208 6), μ11) else (if a2 = 1 then (if (sh_r μ11 0 7 = some (sh_ref μ11 0 7) ∧ ((sh_ref μ11 0 7) = 8 ∨ (sh_ref μ11 0 7) = 29)) then sh_let (sh_ref μ11 0 7) (fun r17 => sh_bind (f_X5_numberOf r17 (sh_i μ11 208 7) μ11) (fun y20 μ18 => some (y20, μ18))) else none) else some ((sh_i μ11 208 8), μ11)))))) else some ((-1), μ1)))))
theorem gp_X11_tells {a1 : Int32} {a2 : Int32} {μ μ' : sh_Mem} {v : Int32} (hG : sh_G μ) (h : f_X11_tells a1 a2 μ = some (v, μ')) : sh_G μ' := by
  unfold f_X11_tells at h
  obtain ⟨y3, μ1, hr2, h⟩ := sh_bind_e h
  have hG1 := gp_X11_isTopic hG hr2
  by_cases c4 : y3 = 0
  · rw [if_pos c4] at h
    obtain ⟨e1, e2⟩ := sh_some2 h
    exact e2 ▸ hG1
  · rw [if_neg c4] at h
    by_cases c5 : a2 < 0
    · rw [if_pos c5] at h
      obtain ⟨e1, e2⟩ := sh_some2 h
      exact e2 ▸ hG1
    · rw [if_neg c5] at h
      by_cases c6 : a2 ≤ 2
      · rw [if_pos c6] at h
        obtain ⟨y9, μ7, hr8, h⟩ := sh_bind_e h
        have hG7 := gp_X0_whoFits hG1 sh_isL_49 hr8
        by_cases c10 : y9 = 0
        · rw [if_pos c10] at h
          obtain ⟨e1, e2⟩ := sh_some2 h
          exact e2 ▸ hG7
        · rw [if_neg c10] at h
          obtain ⟨μ11, hr12, h⟩ := sh_bindv_e h
          have hG11 := gp_X0_findTelling hG7 sh_isL_49 hr12
          by_cases c14 : a2 = 0
          · rw [if_pos c14] at h
            obtain ⟨e1, e2⟩ := sh_some2 h
            exact e2 ▸ hG11
          · rw [if_neg c14] at h
            by_cases c15 : a2 = 1
            · rw [if_pos c15] at h
              obtain ⟨k16, h⟩ := sh_chk h
              obtain ⟨r17, er17⟩ : ∃ y : Nat, y = (sh_ref μ11 0 7) := ⟨_, rfl⟩
              rw [sh_let_eq er17] at h
              have k16r : sh_r μ11 0 7 = some r17 ∧ (r17 = 8 ∨ r17 = 29) := by rw [er17]; exact k16
              obtain ⟨y20, μ18, hr19, h⟩ := sh_bind_e h
              have hG18 := gp_X5_numberOf hG11 k16r.2 hr19
              obtain ⟨e1, e2⟩ := sh_some2 h
              exact e2 ▸ hG18
            · rw [if_neg c15] at h
              obtain ⟨e1, e2⟩ := sh_some2 h
              exact e2 ▸ hG11
      · rw [if_neg c6] at h
        obtain ⟨e1, e2⟩ := sh_some2 h
        exact e2 ▸ hG1
theorem t_X11_tells {a1 : Int32} {a2 : Int32} {μ μ' : sh_Mem} {v : Int32} (hG : sh_G μ) (h : f_X11_tells a1 a2 μ = some (v, μ')) : sh_C0 l B D ca 8 M_X11_tells [.ref 0, .int a1, .int a2] μ (fun v0 μ0 => v0 = some (.int v) ∧ μ0 = μ') := by
  unfold f_X11_tells at h
  refine vv_aload_n 0 0 dX11_tells_0 rfl rfl ?_
  refine vv_iload_n 1 1 dX11_tells_1 rfl rfl ?_
  obtain ⟨y3, μ1, hr2, h⟩ := sh_bind_e h
  refine v1_callV [_] 2 dX11_tells_2 ck_X11_201 (g_l_0 hG) ⟨by decide, rfl⟩ (t_X11_isTopic hG hr2) (Nat.le_of_ble_eq_true rfl) ⟨Nat.le_of_ble_eq_true rfl, Nat.le_of_ble_eq_true rfl⟩ rfl (Nat.le_of_ble_eq_true rfl) ?_
  have hG1 := gp_X11_isTopic hG hr2
  refine vv_if_eq 5 17 dX11_tells_5 (by decide) (fun c4 => ?_) (fun c4 => ?_)
  · rw [if_pos c4] at h
    refine vv_iconst 17 dX11_tells_17 ik_m1 ?_
    obtain ⟨e1, e2⟩ := sh_some2 h
    refine vv_iret 18 dX11_tells_18 rfl (Nat.le_refl _) (Nat.le_refl _) ⟨by rw [e1], e2⟩
  · rw [if_neg c4] at h
    refine vv_iload_n 8 2 dX11_tells_8 rfl rfl ?_
    refine vv_if_lt 9 17 dX11_tells_9 (by decide) (fun c5 => ?_) (fun c5 => ?_)
    · rw [if_pos c5] at h
      refine vv_iconst 17 dX11_tells_17 ik_m1 ?_
      obtain ⟨e1, e2⟩ := sh_some2 h
      refine vv_iret 18 dX11_tells_18 rfl (Nat.le_refl _) (Nat.le_refl _) ⟨by rw [e1], e2⟩
    · rw [if_neg c5] at h
      refine vv_iload_n 12 2 dX11_tells_12 rfl rfl ?_
      refine vv_iconst 13 dX11_tells_13 ik_2 ?_
      refine vv_icmp_le 14 19 dX11_tells_14 (by decide) (fun c6 => ?_) (fun c6 => ?_)
      · rw [if_pos c6] at h
        refine vv_aload_n 19 0 dX11_tells_19 rfl rfl ?_
        refine vv_getR 20 dX11_tells_20 fl_11_85 rfl (g_l_0 hG1) (g_r_0_11 hG1) ?_
        refine vv_aload_n 23 0 dX11_tells_23 rfl rfl ?_
        refine vv_getR 24 dX11_tells_24 fl_11_60 rfl (g_l_0 hG1) (g_r_0_8 hG1) ?_
        refine vv_iload_n 27 1 dX11_tells_27 rfl rfl ?_
        obtain ⟨y9, μ7, hr8, h⟩ := sh_bind_e h
        refine v1_callV [_, _] 28 dX11_tells_28 ck_X11_308 (g_l_208 hG1) ⟨by decide, rfl⟩ (t_X0_whoFits hG1 sh_isL_49 hr8) (Nat.le_of_ble_eq_true rfl) ⟨Nat.le_of_ble_eq_true rfl, Nat.le_of_ble_eq_true rfl⟩ rfl (Nat.le_of_ble_eq_true rfl) ?_
        have hG7 := gp_X0_whoFits hG1 sh_isL_49 hr8
        refine vv_istore_n (lv' := [(3, _), (0, _), (1, _), (2, _)]) 31 3 dX11_tells_31 rfl (by decide) rfl ?_
        refine vv_iload_n 32 3 dX11_tells_32 rfl rfl ?_
        refine vv_if_ne 33 38 dX11_tells_33 (by decide) (fun c10 => ?_) (fun c10 => ?_)
        · rw [if_neg c10] at h
          refine vv_aload_n 38 0 dX11_tells_38 rfl rfl ?_
          refine vv_getR 39 dX11_tells_39 fl_11_85 rfl (g_l_0 hG7) (g_r_0_11 hG7) ?_
          refine vv_aload_n 42 0 dX11_tells_42 rfl rfl ?_
          refine vv_getR 43 dX11_tells_43 fl_11_60 rfl (g_l_0 hG7) (g_r_0_8 hG7) ?_
          refine vv_iload_n 46 1 dX11_tells_46 rfl rfl ?_
          refine vv_iload_n 47 3 dX11_tells_47 rfl rfl ?_
          obtain ⟨μ11, hr12, h⟩ := sh_bindv_e h
          refine v1_callV [_, _, _] 48 dX11_tells_48 ck_X11_312 (g_l_208 hG7) ⟨by decide, rfl⟩ (t_X0_findTelling hG7 sh_isL_49 hr12) (Nat.le_of_ble_eq_true rfl) ⟨Nat.le_of_ble_eq_true rfl, Nat.le_of_ble_eq_true rfl⟩ rfl (Nat.le_of_ble_eq_true rfl) ?_
          have hG11 := gp_X0_findTelling hG7 sh_isL_49 hr12
          refine vv_iload_n 51 2 dX11_tells_51 rfl rfl ?_
          refine vv_if_ne 52 63 dX11_tells_52 (by decide) (fun c14 => ?_) (fun c14 => ?_)
          · rw [if_neg c14] at h
            refine vv_iload_n 63 2 dX11_tells_63 rfl rfl ?_
            refine vv_iconst 64 dX11_tells_64 ik_1 ?_
            refine vv_icmp_ne 65 85 dX11_tells_65 (by decide) (fun c15 => ?_) (fun c15 => ?_)
            · rw [if_neg c15] at h
              refine vv_aload_n 85 0 dX11_tells_85 rfl rfl ?_
              refine vv_getR 86 dX11_tells_86 fl_11_85 rfl (g_l_0 hG11) (g_r_0_11 hG11) ?_
              refine vv_getI 89 dX11_tells_89 fl_11_322 rfl (g_l_208 hG11) ?_
              obtain ⟨e1, e2⟩ := sh_some2 h
              refine vv_iret 92 dX11_tells_92 rfl (Nat.le_refl _) (Nat.le_refl _) ⟨by rw [e1], e2⟩
            · rw [if_pos c15] at h
              refine vv_aload_n 68 0 dX11_tells_68 rfl rfl ?_
              obtain ⟨k16, h⟩ := sh_chk h
              refine vv_getR 69 dX11_tells_69 fl_11_53 rfl (g_l_0 hG11) k16.1 ?_
              refine vv_topr (fun r17 er17 => ?_)
              rw [sh_let_eq er17] at h
              have k16r : sh_r μ11 0 7 = some r17 ∧ (r17 = 8 ∨ r17 = 29) := by rw [er17]; exact k16
              refine vv_aload_n 72 0 dX11_tells_72 rfl rfl ?_
              refine vv_getR 73 dX11_tells_73 fl_11_85 rfl (g_l_0 hG11) (g_r_0_11 hG11) ?_
              refine vv_getI 76 dX11_tells_76 fl_11_319 rfl (g_l_208 hG11) ?_
              obtain ⟨y20, μ18, hr19, h⟩ := sh_bind_e h
              refine v1_callV [_] 79 dX11_tells_79 ck_X11_281 (gP_l hG11 k16r.2) ⟨by decide, rfl⟩ (t_X5_numberOf hG11 k16r.2 hr19) (Nat.le_of_ble_eq_true rfl) ⟨Nat.le_of_ble_eq_true rfl, Nat.le_of_ble_eq_true rfl⟩ rfl (Nat.le_of_ble_eq_true rfl) ?_
              have hG18 := gp_X5_numberOf hG11 k16r.2 hr19
              refine vv_goto 82 92 dX11_tells_82 (by decide) ?_
              obtain ⟨e1, e2⟩ := sh_some2 h
              refine vv_iret 92 dX11_tells_92 rfl (Nat.le_refl _) (Nat.le_refl _) ⟨by rw [e1], e2⟩
          · rw [if_pos c14] at h
            refine vv_aload_n 55 0 dX11_tells_55 rfl rfl ?_
            refine vv_getR 56 dX11_tells_56 fl_11_85 rfl (g_l_0 hG11) (g_r_0_11 hG11) ?_
            refine vv_getI 59 dX11_tells_59 fl_11_316 rfl (g_l_208 hG11) ?_
            obtain ⟨e1, e2⟩ := sh_some2 h
            refine vv_iret 62 dX11_tells_62 rfl (Nat.le_refl _) (Nat.le_refl _) ⟨by rw [e1], e2⟩
        · rw [if_pos c10] at h
          refine vv_iconst 36 dX11_tells_36 ik_m1 ?_
          obtain ⟨e1, e2⟩ := sh_some2 h
          refine vv_iret 37 dX11_tells_37 rfl (Nat.le_refl _) (Nat.le_refl _) ⟨by rw [e1], e2⟩
      · rw [if_neg c6] at h
        refine vv_iconst 17 dX11_tells_17 ik_m1 ?_
        obtain ⟨e1, e2⟩ := sh_some2 h
        refine vv_iret 18 dX11_tells_18 rfl (Nat.le_refl _) (Nat.le_refl _) ⟨by rw [e1], e2⟩
noncomputable def f_X11_asks (a1 : Int32) (a2 : Int32) (μ : sh_Mem) : Option (Int32 × sh_Mem) := sh_bind (f_X11_isPerson a1 μ) (fun y3 μ1 => (if y3 = 0 then sh_bind (f_X11_refuseNumber 2 μ1) (fun y7 μ5 => some (y7, μ5)) else sh_bind (f_X11_isTopic a2 μ1) (fun y10 μ8 => (if y10 = 0 then sh_bind (f_X11_refuseNumber 2 μ8) (fun y20 μ18 => some (y20, μ18)) else sh_bindv (f_X4_remember 49 μ8) (fun μ12 => sh_bind (f_X11_askNow a1 a2 μ12) (fun y17 μ15 => some (y17, μ15)))))))
theorem gp_X11_asks {a1 : Int32} {a2 : Int32} {μ μ' : sh_Mem} {v : Int32} (hG : sh_G μ) (h : f_X11_asks a1 a2 μ = some (v, μ')) : sh_G μ' := by
  unfold f_X11_asks at h
  obtain ⟨y3, μ1, hr2, h⟩ := sh_bind_e h
  have hG1 := gp_X11_isPerson hG hr2
  by_cases c4 : y3 = 0
  · rw [if_pos c4] at h
    obtain ⟨y7, μ5, hr6, h⟩ := sh_bind_e h
    have hG5 := gp_X11_refuseNumber hG1 hr6
    obtain ⟨e1, e2⟩ := sh_some2 h
    exact e2 ▸ hG5
  · rw [if_neg c4] at h
    obtain ⟨y10, μ8, hr9, h⟩ := sh_bind_e h
    have hG8 := gp_X11_isTopic hG1 hr9
    by_cases c11 : y10 = 0
    · rw [if_pos c11] at h
      obtain ⟨y20, μ18, hr19, h⟩ := sh_bind_e h
      have hG18 := gp_X11_refuseNumber hG8 hr19
      obtain ⟨e1, e2⟩ := sh_some2 h
      exact e2 ▸ hG18
    · rw [if_neg c11] at h
      obtain ⟨μ12, hr13, h⟩ := sh_bindv_e h
      have hG12 := gp_X4_remember hG8 sh_isL_49 hr13
      obtain ⟨y17, μ15, hr16, h⟩ := sh_bind_e h
      have hG15 := gp_X11_askNow hG12 hr16
      obtain ⟨e1, e2⟩ := sh_some2 h
      exact e2 ▸ hG15
theorem t_X11_asks {a1 : Int32} {a2 : Int32} {μ μ' : sh_Mem} {v : Int32} (hG : sh_G μ) (h : f_X11_asks a1 a2 μ = some (v, μ')) : sh_C0 l B D ca 7 M_X11_asks [.ref 0, .int a1, .int a2] μ (fun v0 μ0 => v0 = some (.int v) ∧ μ0 = μ') := by
  unfold f_X11_asks at h
  refine vv_aload_n 0 0 dX11_asks_0 rfl rfl ?_
  refine vv_iload_n 1 1 dX11_asks_1 rfl rfl ?_
  obtain ⟨y3, μ1, hr2, h⟩ := sh_bind_e h
  refine v1_callV [_] 2 dX11_asks_2 ck_X11_211 (g_l_0 hG) ⟨by decide, rfl⟩ (t_X11_isPerson hG hr2) (Nat.le_of_ble_eq_true rfl) ⟨Nat.le_of_ble_eq_true rfl, Nat.le_of_ble_eq_true rfl⟩ rfl (Nat.le_of_ble_eq_true rfl) ?_
  have hG1 := gp_X11_isPerson hG hr2
  refine vv_if_eq 5 16 dX11_asks_5 (by decide) (fun c4 => ?_) (fun c4 => ?_)
  · rw [if_pos c4] at h
    refine vv_aload_n 16 0 dX11_asks_16 rfl rfl ?_
    refine vv_iconst 17 dX11_asks_17 ik_2 ?_
    obtain ⟨y7, μ5, hr6, h⟩ := sh_bind_e h
    refine v1_callV [_] 18 dX11_asks_18 ck_X11_120 (g_l_0 hG1) ⟨by decide, rfl⟩ (t_X11_refuseNumber hG1 hr6) (Nat.le_of_ble_eq_true rfl) ⟨Nat.le_of_ble_eq_true rfl, Nat.le_of_ble_eq_true rfl⟩ rfl (Nat.le_of_ble_eq_true rfl) ?_
    have hG5 := gp_X11_refuseNumber hG1 hr6
    obtain ⟨e1, e2⟩ := sh_some2 h
    refine vv_iret 21 dX11_asks_21 rfl (Nat.le_refl _) (Nat.le_refl _) ⟨by rw [e1], e2⟩
  · rw [if_neg c4] at h
    refine vv_aload_n 8 0 dX11_asks_8 rfl rfl ?_
    refine vv_iload_n 9 2 dX11_asks_9 rfl rfl ?_
    obtain ⟨y10, μ8, hr9, h⟩ := sh_bind_e h
    refine v1_callV [_] 10 dX11_asks_10 ck_X11_201 (g_l_0 hG1) ⟨by decide, rfl⟩ (t_X11_isTopic hG1 hr9) (Nat.le_of_ble_eq_true rfl) ⟨Nat.le_of_ble_eq_true rfl, Nat.le_of_ble_eq_true rfl⟩ rfl (Nat.le_of_ble_eq_true rfl) ?_
    have hG8 := gp_X11_isTopic hG1 hr9
    refine vv_if_ne 13 22 dX11_asks_13 (by decide) (fun c11 => ?_) (fun c11 => ?_)
    · rw [if_neg c11] at h
      refine vv_aload_n 22 0 dX11_asks_22 rfl rfl ?_
      refine vv_getR 23 dX11_asks_23 fl_11_76 rfl (g_l_0 hG8) (g_r_0_10 hG8) ?_
      refine vv_aload_n 26 0 dX11_asks_26 rfl rfl ?_
      refine vv_getR 27 dX11_asks_27 fl_11_60 rfl (g_l_0 hG8) (g_r_0_8 hG8) ?_
      obtain ⟨μ12, hr13, h⟩ := sh_bindv_e h
      refine v1_callV [_] 30 dX11_asks_30 ck_X11_325 (g_l_63 hG8) ⟨by decide, rfl⟩ (t_X4_remember hG8 sh_isL_49 hr13) (Nat.le_of_ble_eq_true rfl) ⟨Nat.le_of_ble_eq_true rfl, Nat.le_of_ble_eq_true rfl⟩ rfl (Nat.le_of_ble_eq_true rfl) ?_
      have hG12 := gp_X4_remember hG8 sh_isL_49 hr13
      refine vv_aload_n 33 0 dX11_asks_33 rfl rfl ?_
      refine vv_iload_n 34 1 dX11_asks_34 rfl rfl ?_
      refine vv_iload_n 35 2 dX11_asks_35 rfl rfl ?_
      obtain ⟨y17, μ15, hr16, h⟩ := sh_bind_e h
      refine v1_callV [_, _] 36 dX11_asks_36 ck_X11_328 (g_l_0 hG12) ⟨by decide, rfl⟩ (t_X11_askNow hG12 hr16) (Nat.le_of_ble_eq_true rfl) ⟨Nat.le_of_ble_eq_true rfl, Nat.le_of_ble_eq_true rfl⟩ rfl (Nat.le_of_ble_eq_true rfl) ?_
      have hG15 := gp_X11_askNow hG12 hr16
      obtain ⟨e1, e2⟩ := sh_some2 h
      refine vv_iret 39 dX11_asks_39 rfl (Nat.le_refl _) (Nat.le_refl _) ⟨by rw [e1], e2⟩
    · rw [if_pos c11] at h
      refine vv_aload_n 16 0 dX11_asks_16 rfl rfl ?_
      refine vv_iconst 17 dX11_asks_17 ik_2 ?_
      obtain ⟨y20, μ18, hr19, h⟩ := sh_bind_e h
      refine v1_callV [_] 18 dX11_asks_18 ck_X11_120 (g_l_0 hG8) ⟨by decide, rfl⟩ (t_X11_refuseNumber hG8 hr19) (Nat.le_of_ble_eq_true rfl) ⟨Nat.le_of_ble_eq_true rfl, Nat.le_of_ble_eq_true rfl⟩ rfl (Nat.le_of_ble_eq_true rfl) ?_
      have hG18 := gp_X11_refuseNumber hG8 hr19
      obtain ⟨e1, e2⟩ := sh_some2 h
      refine vv_iret 21 dX11_asks_21 rfl (Nat.le_refl _) (Nat.le_refl _) ⟨by rw [e1], e2⟩
noncomputable def F_X11_days : Nat → Nat → Int32 → Int32 → Int32 → sh_Mem → Option (Int32 × sh_Mem)
  | 0, _, _, _, _, _ => none
  | fuel + 1, lbl, i1, i2, i3, μ => match lbl with
    | 1 => (if i1 ≤ i3 then some (i2, μ) else sh_bind (f_X11_dayNow μ) (fun y19 μ17 => sh_let ((i2 + y19) : Int32) (fun x20 => F_X11_days fuel 1 i1 x20 (i3 + 1) μ17)))
    | _ => none
noncomputable def f_X11_days (a1 : Int32) (μ : sh_Mem) : Option (Int32 × sh_Mem) := sh_bind (f_X11_isAhead a1 1 100 μ) (fun y23 μ21 => (if y23 = 0 then sh_bind (f_X11_refuseNumber 3 μ21) (fun y30 μ28 => some (y30, μ28)) else sh_bindv (f_X4_remember 49 μ21) (fun μ25 => F_X11_days sh_fuel 1 a1 0 0 μ25)))
theorem gpl_X11_days (fuel : Nat) : (∀ ⦃i1 : Int32⦄ ⦃i2 : Int32⦄ ⦃i3 : Int32⦄ ⦃μ μ' : sh_Mem⦄ ⦃v : Int32⦄, sh_G μ → F_X11_days fuel 1 i1 i2 i3 μ = some (v, μ') → sh_G μ') := by
  induction fuel with
  | zero => intro i1 i2 i3 μ μ' v hG h; cases h
  | succ fuel ih =>
    have ih_32 := ih
    intro i1 i2 i3 μ μ' v hG h
    replace h : ((if i1 ≤ i3 then some (i2, μ) else sh_bind (f_X11_dayNow μ) (fun y19 μ17 => sh_let ((i2 + y19) : Int32) (fun x20 => F_X11_days fuel 1 i1 x20 (i3 + 1) μ17))) : Option (Int32 × sh_Mem)) = some (v, μ') := h
    by_cases c16 : i1 ≤ i3
    · rw [if_pos c16] at h
      obtain ⟨e1, e2⟩ := sh_some2 h
      exact e2 ▸ hG
    · rw [if_neg c16] at h
      obtain ⟨y19, μ17, hr18, h⟩ := sh_bind_e h
      have hG17 := gp_X11_dayNow hG hr18
      obtain ⟨x20, ex20⟩ : ∃ y : Int32, y = (i2 + y19) := ⟨_, rfl⟩
      rw [sh_let_eq ex20] at h
      exact ih_32 hG17 h
theorem tl_X11_days (fuel : Nat) : (∀ ⦃i1 : Int32⦄ ⦃i2 : Int32⦄ ⦃i3 : Int32⦄ ⦃μ μ' : sh_Mem⦄ ⦃v : Int32⦄, sh_G μ → F_X11_days fuel 1 i1 i2 i3 μ = some (v, μ') → sh_V0 l B D ca 8 M_X11_days 32 [(0, .ref 0), (1, .int i1), (2, .int i2), (3, .int i3)] [] μ (fun v0 μ0 => v0 = some (.int v) ∧ μ0 = μ')) := by
  induction fuel with
  | zero => intro i1 i2 i3 μ μ' v hG h; cases h
  | succ fuel ih =>
    have ih_32 := ih
    intro i1 i2 i3 μ μ' v hG h
    replace h : ((if i1 ≤ i3 then some (i2, μ) else sh_bind (f_X11_dayNow μ) (fun y19 μ17 => sh_let ((i2 + y19) : Int32) (fun x20 => F_X11_days fuel 1 i1 x20 (i3 + 1) μ17))) : Option (Int32 × sh_Mem)) = some (v, μ') := h
    refine vv_iload_n 32 3 dX11_days_32 rfl rfl ?_
    refine vv_iload_n 33 1 dX11_days_33 rfl rfl ?_
    refine vv_icmp_ge 34 50 dX11_days_34 (by decide) (fun c16 => ?_) (fun c16 => ?_)
    · rw [if_pos c16] at h
      refine vv_iload_n 50 2 dX11_days_50 rfl rfl ?_
      obtain ⟨e1, e2⟩ := sh_some2 h
      refine vv_iret 51 dX11_days_51 rfl (Nat.le_refl _) (Nat.le_refl _) ⟨by rw [e1], e2⟩
    · rw [if_neg c16] at h
      refine vv_iload_n 37 2 dX11_days_37 rfl rfl ?_
      refine vv_aload_n 38 0 dX11_days_38 rfl rfl ?_
      obtain ⟨y19, μ17, hr18, h⟩ := sh_bind_e h
      refine v1_callV [] 39 dX11_days_39 ck_X11_344 (g_l_0 hG) ⟨by decide, rfl⟩ (t_X11_dayNow hG hr18) (Nat.le_of_ble_eq_true rfl) ⟨Nat.le_of_ble_eq_true rfl, Nat.le_of_ble_eq_true rfl⟩ rfl (Nat.le_of_ble_eq_true rfl) ?_
      have hG17 := gp_X11_dayNow hG hr18
      refine vv_iadd 42 dX11_days_42 ?_
      refine vv_topi (fun x20 ex20 => ?_)
      rw [sh_let_eq ex20] at h
      refine vv_istore_n (lv' := [(2, _), (0, _), (1, _), (3, _)]) 43 2 dX11_days_43 rfl (by decide) rfl ?_
      refine vv_iincc (lv' := [(3, _), (2, _), (0, _), (1, _)]) 44 3 dX11_days_44 rfl ik_1 (by decide) rfl ?_
      refine vv_goto 47 32 dX11_days_47 (by decide) ?_
      refine vv_sub [(0, _), (1, _), (2, _), (3, _)] (sh_subm [2, 3, 1, 0] rfl) ?_
      exact ih_32 hG17 h
theorem gp_X11_days {a1 : Int32} {μ μ' : sh_Mem} {v : Int32} (hG : sh_G μ) (h : f_X11_days a1 μ = some (v, μ')) : sh_G μ' := by
  have ih_32 := (gpl_X11_days sh_fuel)
  unfold f_X11_days at h
  obtain ⟨y23, μ21, hr22, h⟩ := sh_bind_e h
  have hG21 := gp_X11_isAhead hG hr22
  by_cases c24 : y23 = 0
  · rw [if_pos c24] at h
    obtain ⟨y30, μ28, hr29, h⟩ := sh_bind_e h
    have hG28 := gp_X11_refuseNumber hG21 hr29
    obtain ⟨e1, e2⟩ := sh_some2 h
    exact e2 ▸ hG28
  · rw [if_neg c24] at h
    obtain ⟨μ25, hr26, h⟩ := sh_bindv_e h
    have hG25 := gp_X4_remember hG21 sh_isL_49 hr26
    exact ih_32 hG25 h
theorem t_X11_days {a1 : Int32} {μ μ' : sh_Mem} {v : Int32} (hG : sh_G μ) (h : f_X11_days a1 μ = some (v, μ')) : sh_C0 l B D ca 8 M_X11_days [.ref 0, .int a1] μ (fun v0 μ0 => v0 = some (.int v) ∧ μ0 = μ') := by
  have ih_32 := (tl_X11_days (l := l) (B := B) (D := D) (ca := ca) sh_fuel)
  unfold f_X11_days at h
  refine vv_aload_n 0 0 dX11_days_0 rfl rfl ?_
  refine vv_iload_n 1 1 dX11_days_1 rfl rfl ?_
  refine vv_iconst 2 dX11_days_2 ik_1 ?_
  refine vv_bipush 3 dX11_days_3 bk_100 ?_
  obtain ⟨y23, μ21, hr22, h⟩ := sh_bind_e h
  refine v1_callV [_, _, _] 5 dX11_days_5 ck_X11_252 (g_l_0 hG) ⟨by decide, rfl⟩ (t_X11_isAhead hG hr22) (Nat.le_of_ble_eq_true rfl) ⟨Nat.le_of_ble_eq_true rfl, Nat.le_of_ble_eq_true rfl⟩ rfl (Nat.le_of_ble_eq_true rfl) ?_
  have hG21 := gp_X11_isAhead hG hr22
  refine vv_if_ne 8 17 dX11_days_8 (by decide) (fun c24 => ?_) (fun c24 => ?_)
  · rw [if_neg c24] at h
    refine vv_aload_n 17 0 dX11_days_17 rfl rfl ?_
    refine vv_getR 18 dX11_days_18 fl_11_76 rfl (g_l_0 hG21) (g_r_0_10 hG21) ?_
    refine vv_aload_n 21 0 dX11_days_21 rfl rfl ?_
    refine vv_getR 22 dX11_days_22 fl_11_60 rfl (g_l_0 hG21) (g_r_0_8 hG21) ?_
    obtain ⟨μ25, hr26, h⟩ := sh_bindv_e h
    refine v1_callV [_] 25 dX11_days_25 ck_X11_325 (g_l_63 hG21) ⟨by decide, rfl⟩ (t_X4_remember hG21 sh_isL_49 hr26) (Nat.le_of_ble_eq_true rfl) ⟨Nat.le_of_ble_eq_true rfl, Nat.le_of_ble_eq_true rfl⟩ rfl (Nat.le_of_ble_eq_true rfl) ?_
    have hG25 := gp_X4_remember hG21 sh_isL_49 hr26
    refine vv_iconst 28 dX11_days_28 ik_0 ?_
    refine vv_istore_n (lv' := [(2, _), (0, _), (1, _)]) 29 2 dX11_days_29 rfl (by decide) rfl ?_
    refine vv_iconst 30 dX11_days_30 ik_0 ?_
    refine vv_istore_n (lv' := [(3, _), (2, _), (0, _), (1, _)]) 31 3 dX11_days_31 rfl (by decide) rfl ?_
    refine vv_sub [(0, _), (1, _), (2, _), (3, _)] (sh_subm [2, 3, 1, 0] rfl) ?_
    exact ih_32 hG25 h
  · rw [if_pos c24] at h
    refine vv_aload_n 11 0 dX11_days_11 rfl rfl ?_
    refine vv_iconst 12 dX11_days_12 ik_3 ?_
    obtain ⟨y30, μ28, hr29, h⟩ := sh_bind_e h
    refine v1_callV [_] 13 dX11_days_13 ck_X11_120 (g_l_0 hG21) ⟨by decide, rfl⟩ (t_X11_refuseNumber hG21 hr29) (Nat.le_of_ble_eq_true rfl) ⟨Nat.le_of_ble_eq_true rfl, Nat.le_of_ble_eq_true rfl⟩ rfl (Nat.le_of_ble_eq_true rfl) ?_
    have hG28 := gp_X11_refuseNumber hG21 hr29
    obtain ⟨e1, e2⟩ := sh_some2 h
    refine vv_iret 16 dX11_days_16 rfl (Nat.le_refl _) (Nat.le_refl _) ⟨by rw [e1], e2⟩
noncomputable def F_X11_chance : Nat → Nat → Int32 → Int32 → Int32 → sh_Mem → Option (Int32 × sh_Mem)
  | 0, _, _, _, _, _ => none
  | fuel + 1, lbl, i1, i2, i3, μ => match lbl with
    | 1 => (if i1 ≤ i3 then some (i2, μ) else sh_bind (f_X11_crowdNow μ) (fun y22 μ20 => sh_let ((i2 + y22) : Int32) (fun x23 => sh_bind (f_X11_dayNow μ20) (fun y26 μ24 => F_X11_chance fuel 1 i1 x23 (i3 + 1) μ24))))
    | _ => none
noncomputable def f_X11_chance (a1 : Int32) (μ : sh_Mem) : Option (Int32 × sh_Mem) := sh_bind (f_X11_isAhead a1 1 100 μ) (fun y29 μ27 => (if y29 = 0 then sh_bind (f_X11_refuseNumber 3 μ27) (fun y36 μ34 => some (y36, μ34)) else sh_bindv (f_X4_remember 49 μ27) (fun μ31 => F_X11_chance sh_fuel 1 a1 0 0 μ31)))
theorem gpl_X11_chance (fuel : Nat) : (∀ ⦃i1 : Int32⦄ ⦃i2 : Int32⦄ ⦃i3 : Int32⦄ ⦃μ μ' : sh_Mem⦄ ⦃v : Int32⦄, sh_G μ → F_X11_chance fuel 1 i1 i2 i3 μ = some (v, μ') → sh_G μ') := by
  induction fuel with
  | zero => intro i1 i2 i3 μ μ' v hG h; cases h
  | succ fuel ih =>
    have ih_32 := ih
    intro i1 i2 i3 μ μ' v hG h
    replace h : ((if i1 ≤ i3 then some (i2, μ) else sh_bind (f_X11_crowdNow μ) (fun y22 μ20 => sh_let ((i2 + y22) : Int32) (fun x23 => sh_bind (f_X11_dayNow μ20) (fun y26 μ24 => F_X11_chance fuel 1 i1 x23 (i3 + 1) μ24)))) : Option (Int32 × sh_Mem)) = some (v, μ') := h
    by_cases c19 : i1 ≤ i3
    · rw [if_pos c19] at h
      obtain ⟨e1, e2⟩ := sh_some2 h
      exact e2 ▸ hG
    · rw [if_neg c19] at h
      obtain ⟨y22, μ20, hr21, h⟩ := sh_bind_e h
      have hG20 := gp_X11_crowdNow hG hr21
      obtain ⟨x23, ex23⟩ : ∃ y : Int32, y = (i2 + y22) := ⟨_, rfl⟩
      rw [sh_let_eq ex23] at h
      obtain ⟨y26, μ24, hr25, h⟩ := sh_bind_e h
      have hG24 := gp_X11_dayNow hG20 hr25
      exact ih_32 hG24 h
theorem tl_X11_chance (fuel : Nat) : (∀ ⦃i1 : Int32⦄ ⦃i2 : Int32⦄ ⦃i3 : Int32⦄ ⦃μ μ' : sh_Mem⦄ ⦃v : Int32⦄, sh_G μ → F_X11_chance fuel 1 i1 i2 i3 μ = some (v, μ') → sh_V0 l B D ca 8 M_X11_chance 32 [(0, .ref 0), (1, .int i1), (2, .int i2), (3, .int i3)] [] μ (fun v0 μ0 => v0 = some (.int v) ∧ μ0 = μ')) := by
  induction fuel with
  | zero => intro i1 i2 i3 μ μ' v hG h; cases h
  | succ fuel ih =>
    have ih_32 := ih
    intro i1 i2 i3 μ μ' v hG h
    replace h : ((if i1 ≤ i3 then some (i2, μ) else sh_bind (f_X11_crowdNow μ) (fun y22 μ20 => sh_let ((i2 + y22) : Int32) (fun x23 => sh_bind (f_X11_dayNow μ20) (fun y26 μ24 => F_X11_chance fuel 1 i1 x23 (i3 + 1) μ24)))) : Option (Int32 × sh_Mem)) = some (v, μ') := h
    refine vv_iload_n 32 3 dX11_chance_32 rfl rfl ?_
    refine vv_iload_n 33 1 dX11_chance_33 rfl rfl ?_
    refine vv_icmp_ge 34 55 dX11_chance_34 (by decide) (fun c19 => ?_) (fun c19 => ?_)
    · rw [if_pos c19] at h
      refine vv_iload_n 55 2 dX11_chance_55 rfl rfl ?_
      obtain ⟨e1, e2⟩ := sh_some2 h
      refine vv_iret 56 dX11_chance_56 rfl (Nat.le_refl _) (Nat.le_refl _) ⟨by rw [e1], e2⟩
    · rw [if_neg c19] at h
      refine vv_iload_n 37 2 dX11_chance_37 rfl rfl ?_
      refine vv_aload_n 38 0 dX11_chance_38 rfl rfl ?_
      obtain ⟨y22, μ20, hr21, h⟩ := sh_bind_e h
      refine v1_callV [] 39 dX11_chance_39 ck_X11_350 (g_l_0 hG) ⟨by decide, rfl⟩ (t_X11_crowdNow hG hr21) (Nat.le_of_ble_eq_true rfl) ⟨Nat.le_of_ble_eq_true rfl, Nat.le_of_ble_eq_true rfl⟩ rfl (Nat.le_of_ble_eq_true rfl) ?_
      have hG20 := gp_X11_crowdNow hG hr21
      refine vv_iadd 42 dX11_chance_42 ?_
      refine vv_topi (fun x23 ex23 => ?_)
      rw [sh_let_eq ex23] at h
      refine vv_istore_n (lv' := [(2, _), (0, _), (1, _), (3, _)]) 43 2 dX11_chance_43 rfl (by decide) rfl ?_
      refine vv_aload_n 44 0 dX11_chance_44 rfl rfl ?_
      obtain ⟨y26, μ24, hr25, h⟩ := sh_bind_e h
      refine v1_callV [] 45 dX11_chance_45 ck_X11_344 (g_l_0 hG20) ⟨by decide, rfl⟩ (t_X11_dayNow hG20 hr25) (Nat.le_of_ble_eq_true rfl) ⟨Nat.le_of_ble_eq_true rfl, Nat.le_of_ble_eq_true rfl⟩ rfl (Nat.le_of_ble_eq_true rfl) ?_
      have hG24 := gp_X11_dayNow hG20 hr25
      refine vv_pop 48 dX11_chance_48 ?_
      refine vv_iincc (lv' := [(3, _), (2, _), (0, _), (1, _)]) 49 3 dX11_chance_49 rfl ik_1 (by decide) rfl ?_
      refine vv_goto 52 32 dX11_chance_52 (by decide) ?_
      refine vv_sub [(0, _), (1, _), (2, _), (3, _)] (sh_subm [2, 3, 1, 0] rfl) ?_
      exact ih_32 hG24 h
theorem gp_X11_chance {a1 : Int32} {μ μ' : sh_Mem} {v : Int32} (hG : sh_G μ) (h : f_X11_chance a1 μ = some (v, μ')) : sh_G μ' := by
  have ih_32 := (gpl_X11_chance sh_fuel)
  unfold f_X11_chance at h
  obtain ⟨y29, μ27, hr28, h⟩ := sh_bind_e h
  have hG27 := gp_X11_isAhead hG hr28
  by_cases c30 : y29 = 0
  · rw [if_pos c30] at h
    obtain ⟨y36, μ34, hr35, h⟩ := sh_bind_e h
    have hG34 := gp_X11_refuseNumber hG27 hr35
    obtain ⟨e1, e2⟩ := sh_some2 h
    exact e2 ▸ hG34
  · rw [if_neg c30] at h
    obtain ⟨μ31, hr32, h⟩ := sh_bindv_e h
    have hG31 := gp_X4_remember hG27 sh_isL_49 hr32
    exact ih_32 hG31 h
theorem t_X11_chance {a1 : Int32} {μ μ' : sh_Mem} {v : Int32} (hG : sh_G μ) (h : f_X11_chance a1 μ = some (v, μ')) : sh_C0 l B D ca 8 M_X11_chance [.ref 0, .int a1] μ (fun v0 μ0 => v0 = some (.int v) ∧ μ0 = μ') := by
  have ih_32 := (tl_X11_chance (l := l) (B := B) (D := D) (ca := ca) sh_fuel)
  unfold f_X11_chance at h
  refine vv_aload_n 0 0 dX11_chance_0 rfl rfl ?_
  refine vv_iload_n 1 1 dX11_chance_1 rfl rfl ?_
  refine vv_iconst 2 dX11_chance_2 ik_1 ?_
  refine vv_bipush 3 dX11_chance_3 bk_100 ?_
  obtain ⟨y29, μ27, hr28, h⟩ := sh_bind_e h
  refine v1_callV [_, _, _] 5 dX11_chance_5 ck_X11_252 (g_l_0 hG) ⟨by decide, rfl⟩ (t_X11_isAhead hG hr28) (Nat.le_of_ble_eq_true rfl) ⟨Nat.le_of_ble_eq_true rfl, Nat.le_of_ble_eq_true rfl⟩ rfl (Nat.le_of_ble_eq_true rfl) ?_
  have hG27 := gp_X11_isAhead hG hr28
  refine vv_if_ne 8 17 dX11_chance_8 (by decide) (fun c30 => ?_) (fun c30 => ?_)
  · rw [if_neg c30] at h
    refine vv_aload_n 17 0 dX11_chance_17 rfl rfl ?_
    refine vv_getR 18 dX11_chance_18 fl_11_76 rfl (g_l_0 hG27) (g_r_0_10 hG27) ?_
    refine vv_aload_n 21 0 dX11_chance_21 rfl rfl ?_
    refine vv_getR 22 dX11_chance_22 fl_11_60 rfl (g_l_0 hG27) (g_r_0_8 hG27) ?_
    obtain ⟨μ31, hr32, h⟩ := sh_bindv_e h
    refine v1_callV [_] 25 dX11_chance_25 ck_X11_325 (g_l_63 hG27) ⟨by decide, rfl⟩ (t_X4_remember hG27 sh_isL_49 hr32) (Nat.le_of_ble_eq_true rfl) ⟨Nat.le_of_ble_eq_true rfl, Nat.le_of_ble_eq_true rfl⟩ rfl (Nat.le_of_ble_eq_true rfl) ?_
    have hG31 := gp_X4_remember hG27 sh_isL_49 hr32
    refine vv_iconst 28 dX11_chance_28 ik_0 ?_
    refine vv_istore_n (lv' := [(2, _), (0, _), (1, _)]) 29 2 dX11_chance_29 rfl (by decide) rfl ?_
    refine vv_iconst 30 dX11_chance_30 ik_0 ?_
    refine vv_istore_n (lv' := [(3, _), (2, _), (0, _), (1, _)]) 31 3 dX11_chance_31 rfl (by decide) rfl ?_
    refine vv_sub [(0, _), (1, _), (2, _), (3, _)] (sh_subm [2, 3, 1, 0] rfl) ?_
    exact ih_32 hG31 h
  · rw [if_pos c30] at h
    refine vv_aload_n 11 0 dX11_chance_11 rfl rfl ?_
    refine vv_iconst 12 dX11_chance_12 ik_3 ?_
    obtain ⟨y36, μ34, hr35, h⟩ := sh_bind_e h
    refine v1_callV [_] 13 dX11_chance_13 ck_X11_120 (g_l_0 hG27) ⟨by decide, rfl⟩ (t_X11_refuseNumber hG27 hr35) (Nat.le_of_ble_eq_true rfl) ⟨Nat.le_of_ble_eq_true rfl, Nat.le_of_ble_eq_true rfl⟩ rfl (Nat.le_of_ble_eq_true rfl) ?_
    have hG34 := gp_X11_refuseNumber hG27 hr35
    obtain ⟨e1, e2⟩ := sh_some2 h
    refine vv_iret 16 dX11_chance_16 rfl (Nat.le_refl _) (Nat.le_refl _) ⟨by rw [e1], e2⟩
noncomputable def F_X11_answer : Nat → Nat → Int32 → Int32 → Int64 → Int32 → sh_Mem → Option (Int64 × sh_Mem)
  | 0, _, _, _, _, _, _ => none
  | fuel + 1, lbl, i1, i2, l3, i5, μ => match lbl with
    | 1 => (if (sh_r μ 0 7 = some (sh_ref μ 0 7) ∧ ((sh_ref μ 0 7) = 8 ∨ (sh_ref μ 0 7) = 29)) then sh_let (sh_ref μ 0 7) (fun r19 => (if (sh_i μ r19 3) ≤ i5 then some (l3, μ) else sh_bindv (f_X10_describe 49 i5 28 i2 μ) (fun μ21 => sh_bind (f_X1_value 3 28 μ21) (fun y26 μ24 => sh_bind (f_X11_joined i1 l3 i5 y26 μ24) (fun y29 μ27 => F_X11_answer fuel 1 i1 i2 y29 (i5 + 1) μ27))))) else none)
    | _ => none
noncomputable def f_X11_answer (a1 : Int32) (μ : sh_Mem) : Option (Int64 × sh_Mem) := sh_bind (f_X1_names 3 10 μ) (fun y32 μ30 => (if a1 = 27 then F_X11_answer sh_fuel 1 a1 y32 (-1) 0 μ30 else (if a1 = 28 then F_X11_answer sh_fuel 1 a1 y32 (-1) 0 μ30 else F_X11_answer sh_fuel 1 a1 y32 0 0 μ30)))
theorem gpl_X11_answer (fuel : Nat) : (∀ ⦃i1 : Int32⦄ ⦃i2 : Int32⦄ ⦃l3 : Int64⦄ ⦃i5 : Int32⦄ ⦃μ μ' : sh_Mem⦄ ⦃v : Int64⦄, sh_G μ → F_X11_answer fuel 1 i1 i2 l3 i5 μ = some (v, μ') → sh_G μ') := by
  induction fuel with
  | zero => intro i1 i2 l3 i5 μ μ' v hG h; cases h
  | succ fuel ih =>
    have ih_33 := ih
    intro i1 i2 l3 i5 μ μ' v hG h
    replace h : ((if (sh_r μ 0 7 = some (sh_ref μ 0 7) ∧ ((sh_ref μ 0 7) = 8 ∨ (sh_ref μ 0 7) = 29)) then sh_let (sh_ref μ 0 7) (fun r19 => (if (sh_i μ r19 3) ≤ i5 then some (l3, μ) else sh_bindv (f_X10_describe 49 i5 28 i2 μ) (fun μ21 => sh_bind (f_X1_value 3 28 μ21) (fun y26 μ24 => sh_bind (f_X11_joined i1 l3 i5 y26 μ24) (fun y29 μ27 => F_X11_answer fuel 1 i1 i2 y29 (i5 + 1) μ27))))) else none) : Option (Int64 × sh_Mem)) = some (v, μ') := h
    obtain ⟨k18, h⟩ := sh_chk h
    obtain ⟨r19, er19⟩ : ∃ y : Nat, y = (sh_ref μ 0 7) := ⟨_, rfl⟩
    rw [sh_let_eq er19] at h
    have k18r : sh_r μ 0 7 = some r19 ∧ (r19 = 8 ∨ r19 = 29) := by rw [er19]; exact k18
    by_cases c20 : (sh_i μ r19 3) ≤ i5
    · rw [if_pos c20] at h
      obtain ⟨e1, e2⟩ := sh_some2 h
      exact e2 ▸ hG
    · rw [if_neg c20] at h
      obtain ⟨μ21, hr22, h⟩ := sh_bindv_e h
      have hG21 := gp_X10_describe hG sh_isL_49 (sh_LAYat_28) hr22
      obtain ⟨y26, μ24, hr25, h⟩ := sh_bind_e h
      have hG24 := gp_X1_value hG21 sh_isF_3 (sh_LAYat_28) hr25
      obtain ⟨y29, μ27, hr28, h⟩ := sh_bind_e h
      have hG27 := gp_X11_joined hG24 hr28
      exact ih_33 hG27 h
theorem tl_X11_answer (fuel : Nat) : (∀ ⦃i1 : Int32⦄ ⦃i2 : Int32⦄ ⦃l3 : Int64⦄ ⦃i5 : Int32⦄ ⦃μ μ' : sh_Mem⦄ ⦃v : Int64⦄, sh_G μ → F_X11_answer fuel 1 i1 i2 l3 i5 μ = some (v, μ') → sh_V0 l B D ca 7 M_X11_answer 33 [(0, .ref 0), (1, .int i1), (2, .int i2), (3, .long l3), (5, .int i5)] [] μ (fun v0 μ0 => v0 = some (.long v) ∧ μ0 = μ')) := by
  induction fuel with
  | zero => intro i1 i2 l3 i5 μ μ' v hG h; cases h
  | succ fuel ih =>
    have ih_33 := ih
    intro i1 i2 l3 i5 μ μ' v hG h
    replace h : ((if (sh_r μ 0 7 = some (sh_ref μ 0 7) ∧ ((sh_ref μ 0 7) = 8 ∨ (sh_ref μ 0 7) = 29)) then sh_let (sh_ref μ 0 7) (fun r19 => (if (sh_i μ r19 3) ≤ i5 then some (l3, μ) else sh_bindv (f_X10_describe 49 i5 28 i2 μ) (fun μ21 => sh_bind (f_X1_value 3 28 μ21) (fun y26 μ24 => sh_bind (f_X11_joined i1 l3 i5 y26 μ24) (fun y29 μ27 => F_X11_answer fuel 1 i1 i2 y29 (i5 + 1) μ27))))) else none) : Option (Int64 × sh_Mem)) = some (v, μ') := h
    refine vv_iload 33 5 dX11_answer_33 rfl ?_
    refine vv_aload_n 35 0 dX11_answer_35 rfl rfl ?_
    obtain ⟨k18, h⟩ := sh_chk h
    refine vv_getR 36 dX11_answer_36 fl_11_53 rfl (g_l_0 hG) k18.1 ?_
    refine vv_topr (fun r19 er19 => ?_)
    rw [sh_let_eq er19] at h
    have k18r : sh_r μ 0 7 = some r19 ∧ (r19 = 8 ∨ r19 = 29) := by rw [er19]; exact k18
    refine vv_getI 39 dX11_answer_39 fl_11_180 rfl (gP_l hG k18r.2) ?_
    refine vv_icmp_ge 42 88 dX11_answer_42 (by decide) (fun c20 => ?_) (fun c20 => ?_)
    · rw [if_pos c20] at h
      refine vv_lload_n 88 3 dX11_answer_88 rfl rfl ?_
      obtain ⟨e1, e2⟩ := sh_some2 h
      refine vv_lret 89 dX11_answer_89 rfl (Nat.le_refl _) (Nat.le_refl _) ⟨by rw [e1], e2⟩
    · rw [if_neg c20] at h
      refine vv_aload_n 45 0 dX11_answer_45 rfl rfl ?_
      refine vv_getR 46 dX11_answer_46 fl_11_69 rfl (g_l_0 hG) (g_r_0_9 hG) ?_
      refine vv_aload_n 49 0 dX11_answer_49 rfl rfl ?_
      refine vv_getR 50 dX11_answer_50 fl_11_60 rfl (g_l_0 hG) (g_r_0_8 hG) ?_
      refine vv_iload 53 5 dX11_answer_53 rfl ?_
      refine vv_aload_n 55 0 dX11_answer_55 rfl rfl ?_
      refine vv_getR 56 dX11_answer_56 fl_11_47 rfl (g_l_0 hG) (g_r_0_6 hG) ?_
      refine vv_iload_n 59 2 dX11_answer_59 rfl rfl ?_
      obtain ⟨μ21, hr22, h⟩ := sh_bindv_e h
      refine v1_callV [_, _, _, _] 60 dX11_answer_60 ck_X11_386 (g_l_55 hG) ⟨by decide, rfl⟩ (t_X10_describe hG sh_isL_49 (sh_LAYat_28) hr22) (Nat.le_of_ble_eq_true rfl) ⟨Nat.le_of_ble_eq_true rfl, Nat.le_of_ble_eq_true rfl⟩ rfl (Nat.le_of_ble_eq_true rfl) ?_
      have hG21 := gp_X10_describe hG sh_isL_49 (sh_LAYat_28) hr22
      refine vv_iload_n 63 1 dX11_answer_63 rfl rfl ?_
      refine vv_lload_n 64 3 dX11_answer_64 rfl rfl ?_
      refine vv_iload 65 5 dX11_answer_65 rfl ?_
      refine vv_aload_n 67 0 dX11_answer_67 rfl rfl ?_
      refine vv_getR 68 dX11_answer_68 fl_11_25 rfl (g_l_0 hG21) (g_r_0_3 hG21) ?_
      refine vv_aload_n 71 0 dX11_answer_71 rfl rfl ?_
      refine vv_getR 72 dX11_answer_72 fl_11_47 rfl (g_l_0 hG21) (g_r_0_6 hG21) ?_
      obtain ⟨y26, μ24, hr25, h⟩ := sh_bind_e h
      refine v1_callV [_] 75 dX11_answer_75 ck_X11_390 (g_l_3 hG21) ⟨by decide, rfl⟩ (t_X1_value hG21 sh_isF_3 (sh_LAYat_28) hr25) (Nat.le_of_ble_eq_true rfl) ⟨Nat.le_of_ble_eq_true rfl, Nat.le_of_ble_eq_true rfl⟩ rfl (Nat.le_of_ble_eq_true rfl) ?_
      have hG24 := gp_X1_value hG21 sh_isF_3 (sh_LAYat_28) hr25
      obtain ⟨y29, μ27, hr28, h⟩ := sh_bind_e h
      refine v1_callS [_, _, _, _] 78 dX11_answer_78 ck_X11_394 (t_X11_joined hG24 hr28) (Nat.le_of_ble_eq_true rfl) ⟨Nat.le_of_ble_eq_true rfl, Nat.le_of_ble_eq_true rfl⟩ rfl (Nat.le_of_ble_eq_true rfl) ?_
      have hG27 := gp_X11_joined hG24 hr28
      refine vv_lstore_n (lv' := [(3, _), (0, _), (1, _), (2, _), (5, _)]) 81 3 dX11_answer_81 rfl (by decide) rfl ?_
      refine vv_iincc (lv' := [(5, _), (3, _), (0, _), (1, _), (2, _)]) 82 5 dX11_answer_82 rfl ik_1 (by decide) rfl ?_
      refine vv_goto 85 33 dX11_answer_85 (by decide) ?_
      refine vv_sub [(0, _), (1, _), (2, _), (3, _), (5, _)] (sh_subm [2, 3, 4, 1, 0] rfl) ?_
      exact ih_33 hG27 h
theorem gp_X11_answer {a1 : Int32} {μ μ' : sh_Mem} {v : Int64} (hG : sh_G μ) (h : f_X11_answer a1 μ = some (v, μ')) : sh_G μ' := by
  have ih_33 := (gpl_X11_answer sh_fuel)
  unfold f_X11_answer at h
  obtain ⟨y32, μ30, hr31, h⟩ := sh_bind_e h
  have hG30 := gp_X1_names hG sh_isF_3 hr31
  by_cases c33 : a1 = 27
  · rw [if_pos c33] at h
    exact ih_33 hG30 h
  · rw [if_neg c33] at h
    by_cases c34 : a1 = 28
    · rw [if_pos c34] at h
      exact ih_33 hG30 h
    · rw [if_neg c34] at h
      exact ih_33 hG30 h
theorem t_X11_answer {a1 : Int32} {μ μ' : sh_Mem} {v : Int64} (hG : sh_G μ) (h : f_X11_answer a1 μ = some (v, μ')) : sh_C0 l B D ca 7 M_X11_answer [.ref 0, .int a1] μ (fun v0 μ0 => v0 = some (.long v) ∧ μ0 = μ') := by
  have ih_33 := (tl_X11_answer (l := l) (B := B) (D := D) (ca := ca) sh_fuel)
  unfold f_X11_answer at h
  refine vv_aload_n 0 0 dX11_answer_0 rfl rfl ?_
  refine vv_getR 1 dX11_answer_1 fl_11_25 rfl (g_l_0 hG) (g_r_0_3 hG) ?_
  refine vv_bipush 4 dX11_answer_4 bk_10 ?_
  obtain ⟨y32, μ30, hr31, h⟩ := sh_bind_e h
  refine v1_callV [_] 6 dX11_answer_6 ck_X11_381 (g_l_3 hG) ⟨by decide, rfl⟩ (t_X1_names hG sh_isF_3 hr31) (Nat.le_of_ble_eq_true rfl) ⟨Nat.le_of_ble_eq_true rfl, Nat.le_of_ble_eq_true rfl⟩ rfl (Nat.le_of_ble_eq_true rfl) ?_
  have hG30 := gp_X1_names hG sh_isF_3 hr31
  refine vv_istore_n (lv' := [(2, _), (0, _), (1, _)]) 9 2 dX11_answer_9 rfl (by decide) rfl ?_
  refine vv_iload_n 10 1 dX11_answer_10 rfl rfl ?_
  refine vv_bipush 11 dX11_answer_11 bk_27 ?_
  refine vv_icmp_eq 13 22 dX11_answer_13 (by decide) (fun c33 => ?_) (fun c33 => ?_)
  · rw [if_pos c33] at h
    refine vv_ldc2 22 dX11_answer_22 kl_11_384 ?_
    refine vv_goto 25 29 dX11_answer_25 (by decide) ?_
    refine vv_lstore_n (lv' := [(3, _), (2, _), (0, _), (1, _)]) 29 3 dX11_answer_29 rfl (by decide) rfl ?_
    refine vv_iconst 30 dX11_answer_30 ik_0 ?_
    refine vv_istore (lv' := [(5, _), (3, _), (2, _), (0, _), (1, _)]) 31 5 dX11_answer_31 (by decide) rfl ?_
    refine vv_sub [(0, _), (1, _), (2, _), (3, _), (5, _)] (sh_subm [3, 4, 2, 1, 0] rfl) ?_
    exact ih_33 hG30 h
  · rw [if_neg c33] at h
    refine vv_iload_n 16 1 dX11_answer_16 rfl rfl ?_
    refine vv_bipush 17 dX11_answer_17 bk_28 ?_
    refine vv_icmp_ne 19 28 dX11_answer_19 (by decide) (fun c34 => ?_) (fun c34 => ?_)
    · rw [if_neg c34] at h
      refine vv_lconst 28 dX11_answer_28 lk_0 ?_
      refine vv_lstore_n (lv' := [(3, _), (2, _), (0, _), (1, _)]) 29 3 dX11_answer_29 rfl (by decide) rfl ?_
      refine vv_iconst 30 dX11_answer_30 ik_0 ?_
      refine vv_istore (lv' := [(5, _), (3, _), (2, _), (0, _), (1, _)]) 31 5 dX11_answer_31 (by decide) rfl ?_
      refine vv_sub [(0, _), (1, _), (2, _), (3, _), (5, _)] (sh_subm [3, 4, 2, 1, 0] rfl) ?_
      exact ih_33 hG30 h
    · rw [if_pos c34] at h
      refine vv_ldc2 22 dX11_answer_22 kl_11_384 ?_
      refine vv_goto 25 29 dX11_answer_25 (by decide) ?_
      refine vv_lstore_n (lv' := [(3, _), (2, _), (0, _), (1, _)]) 29 3 dX11_answer_29 rfl (by decide) rfl ?_
      refine vv_iconst 30 dX11_answer_30 ik_0 ?_
      refine vv_istore (lv' := [(5, _), (3, _), (2, _), (0, _), (1, _)]) 31 5 dX11_answer_31 (by decide) rfl ?_
      refine vv_sub [(0, _), (1, _), (2, _), (3, _), (5, _)] (sh_subm [3, 4, 2, 1, 0] rfl) ?_
      exact ih_33 hG30 h
noncomputable def f_X11_ask (μ : sh_Mem) : Option (Int64 × sh_Mem) := sh_bind (f_X11_takeTape μ) (fun y3 μ1 => sh_bind (f_X11_isPlain μ1) (fun y6 μ4 => (if y6 = 0 then some ((-1000000000000000), μ4) else sh_bindv (f_X8_begin y3 μ4) (fun μ8 => sh_bind (f_X2_readQuestion 3 μ8) (fun y13 μ11 => sh_bindv (f_X11_noteFault μ11) (fun μ14 => (if (sh_i μ14 2 10) = 0 then sh_bind (f_X11_answer y13 μ14) (fun y20 μ18 => some (y20, μ18)) else some ((-1000000000000000), μ14))))))))
theorem gp_X11_ask {μ μ' : sh_Mem} {v : Int64} (hG : sh_G μ) (h : f_X11_ask μ = some (v, μ')) : sh_G μ' := by
  unfold f_X11_ask at h
  obtain ⟨y3, μ1, hr2, h⟩ := sh_bind_e h
  have hG1 := gp_X11_takeTape hG hr2
  obtain ⟨y6, μ4, hr5, h⟩ := sh_bind_e h
  have hG4 := gp_X11_isPlain hG1 hr5
  by_cases c7 : y6 = 0
  · rw [if_pos c7] at h
    obtain ⟨e1, e2⟩ := sh_some2 h
    exact e2 ▸ hG4
  · rw [if_neg c7] at h
    obtain ⟨μ8, hr9, h⟩ := sh_bindv_e h
    have hG8 := gp_X8_begin hG4 hr9
    obtain ⟨y13, μ11, hr12, h⟩ := sh_bind_e h
    have hG11 := gp_X2_readQuestion hG8 sh_isF_3 hr12
    obtain ⟨μ14, hr15, h⟩ := sh_bindv_e h
    have hG14 := gp_X11_noteFault hG11 hr15
    by_cases c17 : (sh_i μ14 2 10) = 0
    · rw [if_pos c17] at h
      obtain ⟨y20, μ18, hr19, h⟩ := sh_bind_e h
      have hG18 := gp_X11_answer hG14 hr19
      obtain ⟨e1, e2⟩ := sh_some2 h
      exact e2 ▸ hG18
    · rw [if_neg c17] at h
      obtain ⟨e1, e2⟩ := sh_some2 h
      exact e2 ▸ hG14
theorem t_X11_ask {μ μ' : sh_Mem} {v : Int64} (hG : sh_G μ) (h : f_X11_ask μ = some (v, μ')) : sh_C0 l B D ca 74 M_X11_ask [.ref 0] μ (fun v0 μ0 => v0 = some (.long v) ∧ μ0 = μ') := by
  unfold f_X11_ask at h
  refine vv_aload_n 0 0 dX11_ask_0 rfl rfl ?_
  obtain ⟨y3, μ1, hr2, h⟩ := sh_bind_e h
  refine v1_callV [] 1 dX11_ask_1 ck_X11_132 (g_l_0 hG) ⟨by decide, rfl⟩ (t_X11_takeTape hG hr2) (Nat.le_of_ble_eq_true rfl) ⟨Nat.le_of_ble_eq_true rfl, Nat.le_of_ble_eq_true rfl⟩ rfl (Nat.le_of_ble_eq_true rfl) ?_
  have hG1 := gp_X11_takeTape hG hr2
  refine vv_istore_n (lv' := [(1, _), (0, _)]) 4 1 dX11_ask_4 rfl (by decide) rfl ?_
  refine vv_aload_n 5 0 dX11_ask_5 rfl rfl ?_
  obtain ⟨y6, μ4, hr5, h⟩ := sh_bind_e h
  refine v1_callV [] 6 dX11_ask_6 ck_X11_248 (g_l_0 hG1) ⟨by decide, rfl⟩ (t_X11_isPlain hG1 hr5) (Nat.le_of_ble_eq_true rfl) ⟨Nat.le_of_ble_eq_true rfl, Nat.le_of_ble_eq_true rfl⟩ rfl (Nat.le_of_ble_eq_true rfl) ?_
  have hG4 := gp_X11_isPlain hG1 hr5
  refine vv_if_ne 9 16 dX11_ask_9 (by decide) (fun c7 => ?_) (fun c7 => ?_)
  · rw [if_neg c7] at h
    refine vv_aload_n 16 0 dX11_ask_16 rfl rfl ?_
    refine vv_getR 17 dX11_ask_17 fl_11_18 rfl (g_l_0 hG4) (g_r_0_2 hG4) ?_
    refine vv_iload_n 20 1 dX11_ask_20 rfl rfl ?_
    obtain ⟨μ8, hr9, h⟩ := sh_bindv_e h
    refine v1_callV [_] 21 dX11_ask_21 ck_X11_136 (g_l_2 hG4) ⟨by decide, rfl⟩ (t_X8_begin hG4 hr9) (Nat.le_of_ble_eq_true rfl) ⟨Nat.le_of_ble_eq_true rfl, Nat.le_of_ble_eq_true rfl⟩ rfl (Nat.le_of_ble_eq_true rfl) ?_
    have hG8 := gp_X8_begin hG4 hr9
    refine vv_aload_n 24 0 dX11_ask_24 rfl rfl ?_
    refine vv_getR 25 dX11_ask_25 fl_11_34 rfl (g_l_0 hG8) (g_r_0_4 hG8) ?_
    refine vv_aload_n 28 0 dX11_ask_28 rfl rfl ?_
    refine vv_getR 29 dX11_ask_29 fl_11_25 rfl (g_l_0 hG8) (g_r_0_3 hG8) ?_
    obtain ⟨y13, μ11, hr12, h⟩ := sh_bind_e h
    refine v1_callV [_] 32 dX11_ask_32 ck_X11_373 (g_l_6 hG8) ⟨by decide, rfl⟩ (t_X2_readQuestion hG8 sh_isF_3 hr12) (Nat.le_of_ble_eq_true rfl) ⟨Nat.le_of_ble_eq_true rfl, Nat.le_of_ble_eq_true rfl⟩ rfl (Nat.le_of_ble_eq_true rfl) ?_
    have hG11 := gp_X2_readQuestion hG8 sh_isF_3 hr12
    refine vv_istore_n (lv' := [(2, _), (1, _), (0, _)]) 35 2 dX11_ask_35 rfl (by decide) rfl ?_
    refine vv_aload_n 36 0 dX11_ask_36 rfl rfl ?_
    obtain ⟨μ14, hr15, h⟩ := sh_bindv_e h
    refine v1_callV [] 37 dX11_ask_37 ck_X11_142 (g_l_0 hG11) ⟨by decide, rfl⟩ (t_X11_noteFault hG11 hr15) (Nat.le_of_ble_eq_true rfl) ⟨Nat.le_of_ble_eq_true rfl, Nat.le_of_ble_eq_true rfl⟩ rfl (Nat.le_of_ble_eq_true rfl) ?_
    have hG14 := gp_X11_noteFault hG11 hr15
    refine vv_aload_n 40 0 dX11_ask_40 rfl rfl ?_
    refine vv_getR 41 dX11_ask_41 fl_11_18 rfl (g_l_0 hG14) (g_r_0_2 hG14) ?_
    refine vv_getI 44 dX11_ask_44 fl_11_145 rfl (g_l_2 hG14) ?_
    refine vv_if_eq 47 56 dX11_ask_47 (by decide) (fun c17 => ?_) (fun c17 => ?_)
    · rw [if_pos c17] at h
      refine vv_aload_n 56 0 dX11_ask_56 rfl rfl ?_
      refine vv_iload_n 57 2 dX11_ask_57 rfl rfl ?_
      obtain ⟨y20, μ18, hr19, h⟩ := sh_bind_e h
      refine v1_callV [_] 58 dX11_ask_58 ck_X11_377 (g_l_0 hG14) ⟨by decide, rfl⟩ (t_X11_answer hG14 hr19) (Nat.le_of_ble_eq_true rfl) ⟨Nat.le_of_ble_eq_true rfl, Nat.le_of_ble_eq_true rfl⟩ rfl (Nat.le_of_ble_eq_true rfl) ?_
      have hG18 := gp_X11_answer hG14 hr19
      obtain ⟨e1, e2⟩ := sh_some2 h
      refine vv_lret 61 dX11_ask_61 rfl (Nat.le_refl _) (Nat.le_refl _) ⟨by rw [e1], e2⟩
    · rw [if_neg c17] at h
      refine vv_ldc2 50 dX11_ask_50 kl_11_371 ?_
      refine vv_goto 53 61 dX11_ask_53 (by decide) ?_
      obtain ⟨e1, e2⟩ := sh_some2 h
      refine vv_lret 61 dX11_ask_61 rfl (Nat.le_refl _) (Nat.le_refl _) ⟨by rw [e1], e2⟩
  · rw [if_pos c7] at h
    refine vv_ldc2 12 dX11_ask_12 kl_11_371 ?_
    obtain ⟨e1, e2⟩ := sh_some2 h
    refine vv_lret 15 dX11_ask_15 rfl (Nat.le_refl _) (Nat.le_refl _) ⟨by rw [e1], e2⟩
end
