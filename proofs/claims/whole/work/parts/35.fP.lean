section
variable {l : Launch} {B : Nat} {D : va_G} {ca : Nat → ClassId} {μ : sh_Mem}
noncomputable def F_X12_rest : Nat → Nat → Int32 → Int32 → Int32 → sh_Mem → Option (Int32 × sh_Mem)
  | 0, _, _, _, _, _ => none
  | fuel + 1, lbl, i1, i2, i3, μ => match lbl with
    | 1 => sh_bind (f_X12_personMany μ) (fun y30 μ28 => (if ((1 : Int32) <<< (y30 &&& 31)) ≤ i3 then some (i2, μ28) else (if i2 = (-1) then sh_bind (f_X12_isRest i3 μ28) (fun y35 μ33 => (if y35 = 0 then F_X12_rest fuel 1 i1 i2 (i3 + 1) μ33 else F_X12_rest fuel 1 i1 i3 (i3 + 1) μ33)) else sh_bind (f_X12_bits i3 μ28) (fun y39 μ37 => sh_bind (f_X12_bits i2 μ37) (fun y42 μ40 => (if y39 < y42 then sh_bind (f_X12_isRest i3 μ40) (fun y46 μ44 => (if y46 = 0 then F_X12_rest fuel 1 i1 i2 (i3 + 1) μ44 else F_X12_rest fuel 1 i1 i3 (i3 + 1) μ44)) else F_X12_rest fuel 1 i1 i2 (i3 + 1) μ40))))))
    | _ => none
noncomputable def f_X12_rest (a1 : Int32) (μ : sh_Mem) : Option (Int32 × sh_Mem) := sh_bind (f_X12_isAhead a1 1 20 μ) (fun y50 μ48 => (if y50 = 0 then some ((-1), μ48) else sh_bindv (f_X12_laysOwn a1 μ48) (fun μ52 => F_X12_rest sh_fuel 1 a1 (-1) 0 μ52)))
theorem gpl_X12_rest (fuel : Nat) : (∀ ⦃i1 : Int32⦄ ⦃i2 : Int32⦄ ⦃i3 : Int32⦄ ⦃μ μ' : sh_Mem⦄ ⦃v : Int32⦄, sh_G μ → F_X12_rest fuel 1 i1 i2 i3 μ = some (v, μ') → sh_G μ') := by
  induction fuel with
  | zero => intro i1 i2 i3 μ μ' v hG h; cases h
  | succ fuel ih =>
    have ih_22 := ih
    intro i1 i2 i3 μ μ' v hG h
    replace h : (sh_bind (f_X12_personMany μ) (fun y30 μ28 => (if ((1 : Int32) <<< (y30 &&& 31)) ≤ i3 then some (i2, μ28) else (if i2 = (-1) then sh_bind (f_X12_isRest i3 μ28) (fun y35 μ33 => (if y35 = 0 then F_X12_rest fuel 1 i1 i2 (i3 + 1) μ33 else F_X12_rest fuel 1 i1 i3 (i3 + 1) μ33)) else sh_bind (f_X12_bits i3 μ28) (fun y39 μ37 => sh_bind (f_X12_bits i2 μ37) (fun y42 μ40 => (if y39 < y42 then sh_bind (f_X12_isRest i3 μ40) (fun y46 μ44 => (if y46 = 0 then F_X12_rest fuel 1 i1 i2 (i3 + 1) μ44 else F_X12_rest fuel 1 i1 i3 (i3 + 1) μ44)) else F_X12_rest fuel 1 i1 i2 (i3 + 1) μ40)))))) : Option (Int32 × sh_Mem)) = some (v, μ') := h
    obtain ⟨y30, μ28, hr29, h⟩ := sh_bind_e h
    have hG28 := gp_X12_personMany hG hr29
    by_cases c31 : ((1 : Int32) <<< (y30 &&& 31)) ≤ i3
    · rw [if_pos c31] at h
      obtain ⟨e1, e2⟩ := sh_some2 h
      exact e2 ▸ hG28
    · rw [if_neg c31] at h
      by_cases c32 : i2 = (-1)
      · rw [if_pos c32] at h
        obtain ⟨y35, μ33, hr34, h⟩ := sh_bind_e h
        have hG33 := gp_X12_isRest hG28 hr34
        by_cases c36 : y35 = 0
        · rw [if_pos c36] at h
          exact ih_22 hG33 h
        · rw [if_neg c36] at h
          exact ih_22 hG33 h
      · rw [if_neg c32] at h
        obtain ⟨y39, μ37, hr38, h⟩ := sh_bind_e h
        have hG37 := gp_X12_bits hG28 hr38
        obtain ⟨y42, μ40, hr41, h⟩ := sh_bind_e h
        have hG40 := gp_X12_bits hG37 hr41
        by_cases c43 : y39 < y42
        · rw [if_pos c43] at h
          obtain ⟨y46, μ44, hr45, h⟩ := sh_bind_e h
          have hG44 := gp_X12_isRest hG40 hr45
          by_cases c47 : y46 = 0
          · rw [if_pos c47] at h
            exact ih_22 hG44 h
          · rw [if_neg c47] at h
            exact ih_22 hG44 h
        · rw [if_neg c43] at h
          exact ih_22 hG40 h
theorem tl_X12_rest (fuel : Nat) : (∀ ⦃i1 : Int32⦄ ⦃i2 : Int32⦄ ⦃i3 : Int32⦄ ⦃μ μ' : sh_Mem⦄ ⦃v : Int32⦄, sh_G μ → F_X12_rest fuel 1 i1 i2 i3 μ = some (v, μ') → sh_V0 l B D ca 10 M_X12_rest 22 [(0, .ref 291), (1, .int i1), (2, .int i2), (3, .int i3)] [] μ (fun v0 μ0 => v0 = some (.int v) ∧ μ0 = μ')) := by
  induction fuel with
  | zero => intro i1 i2 i3 μ μ' v hG h; cases h
  | succ fuel ih =>
    have ih_22 := ih
    intro i1 i2 i3 μ μ' v hG h
    replace h : (sh_bind (f_X12_personMany μ) (fun y30 μ28 => (if ((1 : Int32) <<< (y30 &&& 31)) ≤ i3 then some (i2, μ28) else (if i2 = (-1) then sh_bind (f_X12_isRest i3 μ28) (fun y35 μ33 => (if y35 = 0 then F_X12_rest fuel 1 i1 i2 (i3 + 1) μ33 else F_X12_rest fuel 1 i1 i3 (i3 + 1) μ33)) else sh_bind (f_X12_bits i3 μ28) (fun y39 μ37 => sh_bind (f_X12_bits i2 μ37) (fun y42 μ40 => (if y39 < y42 then sh_bind (f_X12_isRest i3 μ40) (fun y46 μ44 => (if y46 = 0 then F_X12_rest fuel 1 i1 i2 (i3 + 1) μ44 else F_X12_rest fuel 1 i1 i3 (i3 + 1) μ44)) else F_X12_rest fuel 1 i1 i2 (i3 + 1) μ40)))))) : Option (Int32 × sh_Mem)) = some (v, μ') := h
    refine vv_iload_n 22 3 dX12_rest_22 rfl rfl ?_
    refine vv_iconst 23 dX12_rest_23 ik_1 ?_
    refine vv_aload_n 24 0 dX12_rest_24 rfl rfl ?_
    obtain ⟨y30, μ28, hr29, h⟩ := sh_bind_e h
    refine v1_callV [] 25 dX12_rest_25 ck_X12_411 (g_l_291 hG) ⟨by decide, rfl⟩ (t_X12_personMany hG hr29) (Nat.le_of_ble_eq_true rfl) ⟨Nat.le_of_ble_eq_true rfl, Nat.le_of_ble_eq_true rfl⟩ rfl (Nat.le_of_ble_eq_true rfl) ?_
    have hG28 := gp_X12_personMany hG hr29
    refine vv_ishl 28 dX12_rest_28 ?_
    refine vv_icmp_ge 29 67 dX12_rest_29 (by decide) (fun c31 => ?_) (fun c31 => ?_)
    · rw [if_pos c31] at h
      refine vv_iload_n 67 2 dX12_rest_67 rfl rfl ?_
      obtain ⟨e1, e2⟩ := sh_some2 h
      refine vv_iret 68 dX12_rest_68 rfl (Nat.le_refl _) (Nat.le_refl _) ⟨by rw [e1], e2⟩
    · rw [if_neg c31] at h
      refine vv_iload_n 32 2 dX12_rest_32 rfl rfl ?_
      refine vv_iconst 33 dX12_rest_33 ik_m1 ?_
      refine vv_icmp_eq 34 51 dX12_rest_34 (by decide) (fun c32 => ?_) (fun c32 => ?_)
      · rw [if_pos c32] at h
        refine vv_aload_n 51 0 dX12_rest_51 rfl rfl ?_
        refine vv_iload_n 52 3 dX12_rest_52 rfl rfl ?_
        obtain ⟨y35, μ33, hr34, h⟩ := sh_bind_e h
        refine v1_callV [_] 53 dX12_rest_53 ck_X12_599 (g_l_291 hG28) ⟨by decide, rfl⟩ (t_X12_isRest hG28 hr34) (Nat.le_of_ble_eq_true rfl) ⟨Nat.le_of_ble_eq_true rfl, Nat.le_of_ble_eq_true rfl⟩ rfl (Nat.le_of_ble_eq_true rfl) ?_
        have hG33 := gp_X12_isRest hG28 hr34
        refine vv_if_eq 56 61 dX12_rest_56 (by decide) (fun c36 => ?_) (fun c36 => ?_)
        · rw [if_pos c36] at h
          refine vv_iincc (lv' := [(3, _), (0, _), (1, _), (2, _)]) 61 3 dX12_rest_61 rfl ik_1 (by decide) rfl ?_
          refine vv_goto 64 22 dX12_rest_64 (by decide) ?_
          refine vv_sub [(0, _), (1, _), (2, _), (3, _)] (sh_subm [1, 2, 3, 0] rfl) ?_
          exact ih_22 hG33 h
        · rw [if_neg c36] at h
          refine vv_iload_n 59 3 dX12_rest_59 rfl rfl ?_
          refine vv_istore_n (lv' := [(2, _), (0, _), (1, _), (3, _)]) 60 2 dX12_rest_60 rfl (by decide) rfl ?_
          refine vv_iincc (lv' := [(3, _), (2, _), (0, _), (1, _)]) 61 3 dX12_rest_61 rfl ik_1 (by decide) rfl ?_
          refine vv_goto 64 22 dX12_rest_64 (by decide) ?_
          refine vv_sub [(0, _), (1, _), (2, _), (3, _)] (sh_subm [2, 3, 1, 0] rfl) ?_
          exact ih_22 hG33 h
      · rw [if_neg c32] at h
        refine vv_iload_n 37 3 dX12_rest_37 rfl rfl ?_
        obtain ⟨y39, μ37, hr38, h⟩ := sh_bind_e h
        refine v1_callS [_] 38 dX12_rest_38 ck_X12_589 (t_X12_bits hG28 hr38) (Nat.le_of_ble_eq_true rfl) ⟨Nat.le_of_ble_eq_true rfl, Nat.le_of_ble_eq_true rfl⟩ rfl (Nat.le_of_ble_eq_true rfl) ?_
        have hG37 := gp_X12_bits hG28 hr38
        refine vv_iload_n 41 2 dX12_rest_41 rfl rfl ?_
        obtain ⟨y42, μ40, hr41, h⟩ := sh_bind_e h
        refine v1_callS [_] 42 dX12_rest_42 ck_X12_589 (t_X12_bits hG37 hr41) (Nat.le_of_ble_eq_true rfl) ⟨Nat.le_of_ble_eq_true rfl, Nat.le_of_ble_eq_true rfl⟩ rfl (Nat.le_of_ble_eq_true rfl) ?_
        have hG40 := gp_X12_bits hG37 hr41
        refine vv_icmp_lt 45 51 dX12_rest_45 (by decide) (fun c43 => ?_) (fun c43 => ?_)
        · rw [if_pos c43] at h
          refine vv_aload_n 51 0 dX12_rest_51 rfl rfl ?_
          refine vv_iload_n 52 3 dX12_rest_52 rfl rfl ?_
          obtain ⟨y46, μ44, hr45, h⟩ := sh_bind_e h
          refine v1_callV [_] 53 dX12_rest_53 ck_X12_599 (g_l_291 hG40) ⟨by decide, rfl⟩ (t_X12_isRest hG40 hr45) (Nat.le_of_ble_eq_true rfl) ⟨Nat.le_of_ble_eq_true rfl, Nat.le_of_ble_eq_true rfl⟩ rfl (Nat.le_of_ble_eq_true rfl) ?_
          have hG44 := gp_X12_isRest hG40 hr45
          refine vv_if_eq 56 61 dX12_rest_56 (by decide) (fun c47 => ?_) (fun c47 => ?_)
          · rw [if_pos c47] at h
            refine vv_iincc (lv' := [(3, _), (0, _), (1, _), (2, _)]) 61 3 dX12_rest_61 rfl ik_1 (by decide) rfl ?_
            refine vv_goto 64 22 dX12_rest_64 (by decide) ?_
            refine vv_sub [(0, _), (1, _), (2, _), (3, _)] (sh_subm [1, 2, 3, 0] rfl) ?_
            exact ih_22 hG44 h
          · rw [if_neg c47] at h
            refine vv_iload_n 59 3 dX12_rest_59 rfl rfl ?_
            refine vv_istore_n (lv' := [(2, _), (0, _), (1, _), (3, _)]) 60 2 dX12_rest_60 rfl (by decide) rfl ?_
            refine vv_iincc (lv' := [(3, _), (2, _), (0, _), (1, _)]) 61 3 dX12_rest_61 rfl ik_1 (by decide) rfl ?_
            refine vv_goto 64 22 dX12_rest_64 (by decide) ?_
            refine vv_sub [(0, _), (1, _), (2, _), (3, _)] (sh_subm [2, 3, 1, 0] rfl) ?_
            exact ih_22 hG44 h
        · rw [if_neg c43] at h
          refine vv_goto 48 61 dX12_rest_48 (by decide) ?_
          refine vv_iincc (lv' := [(3, _), (0, _), (1, _), (2, _)]) 61 3 dX12_rest_61 rfl ik_1 (by decide) rfl ?_
          refine vv_goto 64 22 dX12_rest_64 (by decide) ?_
          refine vv_sub [(0, _), (1, _), (2, _), (3, _)] (sh_subm [1, 2, 3, 0] rfl) ?_
          exact ih_22 hG40 h
theorem gp_X12_rest {a1 : Int32} {μ μ' : sh_Mem} {v : Int32} (hG : sh_G μ) (h : f_X12_rest a1 μ = some (v, μ')) : sh_G μ' := by
  have ih_22 := (gpl_X12_rest sh_fuel)
  unfold f_X12_rest at h
  obtain ⟨y50, μ48, hr49, h⟩ := sh_bind_e h
  have hG48 := gp_X12_isAhead hG hr49
  by_cases c51 : y50 = 0
  · rw [if_pos c51] at h
    obtain ⟨e1, e2⟩ := sh_some2 h
    exact e2 ▸ hG48
  · rw [if_neg c51] at h
    obtain ⟨μ52, hr53, h⟩ := sh_bindv_e h
    have hG52 := gp_X12_laysOwn hG48 hr53
    exact ih_22 hG52 h
theorem t_X12_rest {a1 : Int32} {μ μ' : sh_Mem} {v : Int32} (hG : sh_G μ) (h : f_X12_rest a1 μ = some (v, μ')) : sh_C0 l B D ca 10 M_X12_rest [.ref 291, .int a1] μ (fun v0 μ0 => v0 = some (.int v) ∧ μ0 = μ') := by
  have ih_22 := (tl_X12_rest (l := l) (B := B) (D := D) (ca := ca) sh_fuel)
  unfold f_X12_rest at h
  refine vv_aload_n 0 0 dX12_rest_0 rfl rfl ?_
  refine vv_iload_n 1 1 dX12_rest_1 rfl rfl ?_
  refine vv_iconst 2 dX12_rest_2 ik_1 ?_
  refine vv_bipush 3 dX12_rest_3 bk_20 ?_
  obtain ⟨y50, μ48, hr49, h⟩ := sh_bind_e h
  refine v1_callV [_, _, _] 5 dX12_rest_5 ck_X12_527 (g_l_291 hG) ⟨by decide, rfl⟩ (t_X12_isAhead hG hr49) (Nat.le_of_ble_eq_true rfl) ⟨Nat.le_of_ble_eq_true rfl, Nat.le_of_ble_eq_true rfl⟩ rfl (Nat.le_of_ble_eq_true rfl) ?_
  have hG48 := gp_X12_isAhead hG hr49
  refine vv_if_ne 8 13 dX12_rest_8 (by decide) (fun c51 => ?_) (fun c51 => ?_)
  · rw [if_neg c51] at h
    refine vv_aload_n 13 0 dX12_rest_13 rfl rfl ?_
    refine vv_iload_n 14 1 dX12_rest_14 rfl rfl ?_
    obtain ⟨μ52, hr53, h⟩ := sh_bindv_e h
    refine v1_callV [_] 15 dX12_rest_15 ck_X12_596 (g_l_291 hG48) ⟨by decide, rfl⟩ (t_X12_laysOwn hG48 hr53) (Nat.le_of_ble_eq_true rfl) ⟨Nat.le_of_ble_eq_true rfl, Nat.le_of_ble_eq_true rfl⟩ rfl (Nat.le_of_ble_eq_true rfl) ?_
    have hG52 := gp_X12_laysOwn hG48 hr53
    refine vv_iconst 18 dX12_rest_18 ik_m1 ?_
    refine vv_istore_n (lv' := [(2, _), (0, _), (1, _)]) 19 2 dX12_rest_19 rfl (by decide) rfl ?_
    refine vv_iconst 20 dX12_rest_20 ik_0 ?_
    refine vv_istore_n (lv' := [(3, _), (2, _), (0, _), (1, _)]) 21 3 dX12_rest_21 rfl (by decide) rfl ?_
    refine vv_sub [(0, _), (1, _), (2, _), (3, _)] (sh_subm [2, 3, 1, 0] rfl) ?_
    exact ih_22 hG52 h
  · rw [if_pos c51] at h
    refine vv_iconst 11 dX12_rest_11 ik_m1 ?_
    obtain ⟨e1, e2⟩ := sh_some2 h
    refine vv_iret 12 dX12_rest_12 rfl (Nat.le_refl _) (Nat.le_refl _) ⟨by rw [e1], e2⟩
noncomputable def F_X12_laysWho : Nat → Nat → Int32 → Int32 → Int32 → Int32 → Int32 → sh_Mem → Option sh_Mem
  | 0, _, _, _, _, _, _, _ => none
  | fuel + 1, lbl, i1, i2, i3, i4, i5, μ => match lbl with
    | 1 => sh_bind (f_X12_personMany μ) (fun y67 μ65 => (if y67 ≤ i2 then sh_bindv (f_X12_takesBack μ65) (fun μ69 => some μ69) else sh_bind (f_X12_isAsked i2 i1 μ65) (fun y74 μ72 => F_X12_laysWho fuel 2 i1 i2 1 0 0 μ72)))
    | 2 => (if 30 < i4 then sh_bindv (f_X12_triesAnew μ) (fun μ76 => (if i3 = 0 then F_X12_laysWho fuel 1 i1 (i2 + 1) 0 0 0 μ76 else sh_let (sh_setI μ76 291 74 ((sh_i μ76 291 74) ||| ((1 : Int32) <<< (i2 &&& 31)))) (fun μ80 => F_X12_laysWho fuel 1 i1 (i2 + 1) 0 0 0 μ80))) else (if i3 = 0 then F_X12_laysWho fuel 3 i1 i2 0 i4 0 μ else sh_bind (f_X12_isAsSeen i4 μ) (fun y84 μ82 => (if y84 = 0 then F_X12_laysWho fuel 3 i1 i2 0 i4 0 μ82 else F_X12_laysWho fuel 3 i1 i2 1 i4 0 μ82))))
    | 3 => (if 49 ≤ i5 then sh_bindv (f_X12_dayGoes μ) (fun μ87 => F_X12_laysWho fuel 2 i1 i2 i3 (i4 + 1) 0 μ87) else sh_bind (f_X12_heightOf i5 μ) (fun y92 μ90 => (if sh_in (((1519 * i2) + (49 * i4)) + i5) 10633 then sh_let (sh_setI μ90 339 ((((1519 * i2) + (49 * i4)) + i5)).toNatClampNeg y92) (fun μ94 => F_X12_laysWho fuel 3 i1 i2 i3 i4 (i5 + 1) μ94) else none)))
    | _ => none
noncomputable def f_X12_laysWho (a1 : Int32) (μ : sh_Mem) : Option sh_Mem := sh_let (sh_setI μ 291 74 0) (fun μ95 => sh_bindv (f_X12_putsAside μ95) (fun μ96 => F_X12_laysWho sh_fuel 1 a1 0 0 0 0 μ96))
theorem gpl_X12_laysWho (fuel : Nat) : (∀ ⦃i1 : Int32⦄ ⦃i2 : Int32⦄ ⦃i3 : Int32⦄ ⦃i4 : Int32⦄ ⦃i5 : Int32⦄ ⦃μ μ' : sh_Mem⦄, sh_G μ → F_X12_laysWho fuel 1 i1 i2 i3 i4 i5 μ = some μ' → sh_G μ') ∧ (∀ ⦃i1 : Int32⦄ ⦃i2 : Int32⦄ ⦃i3 : Int32⦄ ⦃i4 : Int32⦄ ⦃i5 : Int32⦄ ⦃μ μ' : sh_Mem⦄, sh_G μ → F_X12_laysWho fuel 2 i1 i2 i3 i4 i5 μ = some μ' → sh_G μ') ∧ (∀ ⦃i1 : Int32⦄ ⦃i2 : Int32⦄ ⦃i3 : Int32⦄ ⦃i4 : Int32⦄ ⦃i5 : Int32⦄ ⦃μ μ' : sh_Mem⦄, sh_G μ → F_X12_laysWho fuel 3 i1 i2 i3 i4 i5 μ = some μ' → sh_G μ') := by
  induction fuel with
  | zero => exact ⟨(by intro i1 i2 i3 i4 i5 μ μ' hG h; cases h), (by intro i1 i2 i3 i4 i5 μ μ' hG h; cases h), (by intro i1 i2 i3 i4 i5 μ μ' hG h; cases h)⟩
  | succ fuel ih =>
    obtain ⟨ih_11, ih_31, ih_60⟩ := ih
    refine ⟨?_, ?_, ?_⟩
    · intro i1 i2 i3 i4 i5 μ μ' hG h
      replace h : (sh_bind (f_X12_personMany μ) (fun y67 μ65 => (if y67 ≤ i2 then sh_bindv (f_X12_takesBack μ65) (fun μ69 => some μ69) else sh_bind (f_X12_isAsked i2 i1 μ65) (fun y74 μ72 => F_X12_laysWho fuel 2 i1 i2 1 0 0 μ72))) : Option sh_Mem) = some μ' := h
      obtain ⟨y67, μ65, hr66, h⟩ := sh_bind_e h
      have hG65 := gp_X12_personMany hG hr66
      by_cases c68 : y67 ≤ i2
      · rw [if_pos c68] at h
        obtain ⟨μ69, hr70, h⟩ := sh_bindv_e h
        have hG69 := gp_X12_takesBack hG65 hr70
        have e2 := Option.some.inj h
        exact e2 ▸ hG69
      · rw [if_neg c68] at h
        obtain ⟨y74, μ72, hr73, h⟩ := sh_bind_e h
        have hG72 := gp_X12_isAsked hG65 hr73
        exact ih_31 hG72 h
    · intro i1 i2 i3 i4 i5 μ μ' hG h
      replace h : ((if 30 < i4 then sh_bindv (f_X12_triesAnew μ) (fun μ76 => (if i3 = 0 then F_X12_laysWho fuel 1 i1 (i2 + 1) 0 0 0 μ76 else sh_let (sh_setI μ76 291 74 ((sh_i μ76 291 74) ||| ((1 : Int32) <<< (i2 &&& 31)))) (fun μ80 => F_X12_laysWho fuel 1 i1 (i2 + 1) 0 0 0 μ80))) else (if i3 = 0 then F_X12_laysWho fuel 3 i1 i2 0 i4 0 μ else sh_bind (f_X12_isAsSeen i4 μ) (fun y84 μ82 => (if y84 = 0 then F_X12_laysWho fuel 3 i1 i2 0 i4 0 μ82 else F_X12_laysWho fuel 3 i1 i2 1 i4 0 μ82)))) : Option sh_Mem) = some μ' := h
      by_cases c75 : 30 < i4
      · rw [if_pos c75] at h
        obtain ⟨μ76, hr77, h⟩ := sh_bindv_e h
        have hG76 := gp_X12_triesAnew hG hr77
        by_cases c79 : i3 = 0
        · rw [if_pos c79] at h
          exact ih_11 hG76 h
        · rw [if_neg c79] at h
          obtain ⟨μ80, eμ80⟩ : ∃ y : sh_Mem, y = (sh_setI μ76 291 74 ((sh_i μ76 291 74) ||| ((1 : Int32) <<< (i2 &&& 31)))) := ⟨_, rfl⟩
          rw [sh_let_eq eμ80] at h
          have hG80 : sh_G μ80 := by rw [eμ80]; exact hG76
          exact ih_11 hG80 h
      · rw [if_neg c75] at h
        by_cases c81 : i3 = 0
        · rw [if_pos c81] at h
          exact ih_60 hG h
        · rw [if_neg c81] at h
          obtain ⟨y84, μ82, hr83, h⟩ := sh_bind_e h
          have hG82 := gp_X12_isAsSeen hG hr83
          by_cases c85 : y84 = 0
          · rw [if_pos c85] at h
            exact ih_60 hG82 h
          · rw [if_neg c85] at h
            exact ih_60 hG82 h
    · intro i1 i2 i3 i4 i5 μ μ' hG h
      replace h : ((if 49 ≤ i5 then sh_bindv (f_X12_dayGoes μ) (fun μ87 => F_X12_laysWho fuel 2 i1 i2 i3 (i4 + 1) 0 μ87) else sh_bind (f_X12_heightOf i5 μ) (fun y92 μ90 => (if sh_in (((1519 * i2) + (49 * i4)) + i5) 10633 then sh_let (sh_setI μ90 339 ((((1519 * i2) + (49 * i4)) + i5)).toNatClampNeg y92) (fun μ94 => F_X12_laysWho fuel 3 i1 i2 i3 i4 (i5 + 1) μ94) else none))) : Option sh_Mem) = some μ' := h
      by_cases c86 : 49 ≤ i5
      · rw [if_pos c86] at h
        obtain ⟨μ87, hr88, h⟩ := sh_bindv_e h
        have hG87 := gp_X12_dayGoes hG hr88
        exact ih_31 hG87 h
      · rw [if_neg c86] at h
        obtain ⟨y92, μ90, hr91, h⟩ := sh_bind_e h
        have hG90 := gp_X12_heightOf hG hr91
        obtain ⟨k93, h⟩ := sh_chk h
        obtain ⟨μ94, eμ94⟩ : ∃ y : sh_Mem, y = (sh_setI μ90 339 ((((1519 * i2) + (49 * i4)) + i5)).toNatClampNeg y92) := ⟨_, rfl⟩
        rw [sh_let_eq eμ94] at h
        have hG94 : sh_G μ94 := by rw [eμ94]; exact hG90
        exact ih_60 hG94 h
theorem tl_X12_laysWho (fuel : Nat) : (∀ ⦃i1 : Int32⦄ ⦃i2 : Int32⦄ ⦃i3 : Int32⦄ ⦃i4 : Int32⦄ ⦃i5 : Int32⦄ ⦃μ μ' : sh_Mem⦄, sh_G μ → F_X12_laysWho fuel 1 i1 i2 i3 i4 i5 μ = some μ' → sh_V0 l B D ca 8 M_X12_laysWho 11 [(0, .ref 291), (1, .int i1), (2, .int i2)] [] μ (fun v0 μ0 => v0 = none ∧ μ0 = μ')) ∧ (∀ ⦃i1 : Int32⦄ ⦃i2 : Int32⦄ ⦃i3 : Int32⦄ ⦃i4 : Int32⦄ ⦃i5 : Int32⦄ ⦃μ μ' : sh_Mem⦄, sh_G μ → F_X12_laysWho fuel 2 i1 i2 i3 i4 i5 μ = some μ' → sh_V0 l B D ca 8 M_X12_laysWho 31 [(0, .ref 291), (1, .int i1), (2, .int i2), (3, .int i3), (4, .int i4)] [] μ (fun v0 μ0 => v0 = none ∧ μ0 = μ')) ∧ (∀ ⦃i1 : Int32⦄ ⦃i2 : Int32⦄ ⦃i3 : Int32⦄ ⦃i4 : Int32⦄ ⦃i5 : Int32⦄ ⦃μ μ' : sh_Mem⦄, sh_G μ → F_X12_laysWho fuel 3 i1 i2 i3 i4 i5 μ = some μ' → sh_V0 l B D ca 8 M_X12_laysWho 60 [(0, .ref 291), (1, .int i1), (2, .int i2), (3, .int i3), (4, .int i4), (5, .int i5)] [] μ (fun v0 μ0 => v0 = none ∧ μ0 = μ')) := by
  induction fuel with
  | zero => exact ⟨(by intro i1 i2 i3 i4 i5 μ μ' hG h; cases h), (by intro i1 i2 i3 i4 i5 μ μ' hG h; cases h), (by intro i1 i2 i3 i4 i5 μ μ' hG h; cases h)⟩
  | succ fuel ih =>
    obtain ⟨ih_11, ih_31, ih_60⟩ := ih
    refine ⟨?_, ?_, ?_⟩
    · intro i1 i2 i3 i4 i5 μ μ' hG h
      replace h : (sh_bind (f_X12_personMany μ) (fun y67 μ65 => (if y67 ≤ i2 then sh_bindv (f_X12_takesBack μ65) (fun μ69 => some μ69) else sh_bind (f_X12_isAsked i2 i1 μ65) (fun y74 μ72 => F_X12_laysWho fuel 2 i1 i2 1 0 0 μ72))) : Option sh_Mem) = some μ' := h
      refine vv_iload_n 11 2 dX12_laysWho_11 rfl rfl ?_
      refine vv_aload_n 12 0 dX12_laysWho_12 rfl rfl ?_
      obtain ⟨y67, μ65, hr66, h⟩ := sh_bind_e h
      refine v1_callV [] 13 dX12_laysWho_13 ck_X12_411 (g_l_291 hG) ⟨by decide, rfl⟩ (t_X12_personMany hG hr66) (Nat.le_of_ble_eq_true rfl) ⟨Nat.le_of_ble_eq_true rfl, Nat.le_of_ble_eq_true rfl⟩ rfl (Nat.le_of_ble_eq_true rfl) ?_
      have hG65 := gp_X12_personMany hG hr66
      refine vv_icmp_ge 16 134 dX12_laysWho_16 (by decide) (fun c68 => ?_) (fun c68 => ?_)
      · rw [if_pos c68] at h
        refine vv_aload_n 134 0 dX12_laysWho_134 rfl rfl ?_
        obtain ⟨μ69, hr70, h⟩ := sh_bindv_e h
        refine v1_callV [] 135 dX12_laysWho_135 ck_X12_510 (g_l_291 hG65) ⟨by decide, rfl⟩ (t_X12_takesBack hG65 hr70) (Nat.le_of_ble_eq_true rfl) ⟨Nat.le_of_ble_eq_true rfl, Nat.le_of_ble_eq_true rfl⟩ rfl (Nat.le_of_ble_eq_true rfl) ?_
        have hG69 := gp_X12_takesBack hG65 hr70
        have e2 := Option.some.inj h
        refine vv_vret 138 dX12_laysWho_138 rfl (Nat.le_refl _) (Nat.le_refl _) ⟨rfl, e2⟩
      · rw [if_neg c68] at h
        refine vv_aload_n 19 0 dX12_laysWho_19 rfl rfl ?_
        refine vv_iload_n 20 2 dX12_laysWho_20 rfl rfl ?_
        refine vv_iload_n 21 1 dX12_laysWho_21 rfl rfl ?_
        obtain ⟨y74, μ72, hr73, h⟩ := sh_bind_e h
        refine v1_callV [_, _] 22 dX12_laysWho_22 ck_X12_498 (g_l_291 hG65) ⟨by decide, rfl⟩ (t_X12_isAsked hG65 hr73) (Nat.le_of_ble_eq_true rfl) ⟨Nat.le_of_ble_eq_true rfl, Nat.le_of_ble_eq_true rfl⟩ rfl (Nat.le_of_ble_eq_true rfl) ?_
        have hG72 := gp_X12_isAsked hG65 hr73
        refine vv_pop 25 dX12_laysWho_25 ?_
        refine vv_iconst 26 dX12_laysWho_26 ik_1 ?_
        refine vv_istore_n (lv' := [(3, _), (0, _), (1, _), (2, _)]) 27 3 dX12_laysWho_27 rfl (by decide) rfl ?_
        refine vv_iconst 28 dX12_laysWho_28 ik_0 ?_
        refine vv_istore (lv' := [(4, _), (3, _), (0, _), (1, _), (2, _)]) 29 4 dX12_laysWho_29 (by decide) rfl ?_
        refine vv_sub [(0, _), (1, _), (2, _), (3, _), (4, _)] (sh_subm [2, 3, 4, 1, 0] rfl) ?_
        exact ih_31 hG72 h
    · intro i1 i2 i3 i4 i5 μ μ' hG h
      replace h : ((if 30 < i4 then sh_bindv (f_X12_triesAnew μ) (fun μ76 => (if i3 = 0 then F_X12_laysWho fuel 1 i1 (i2 + 1) 0 0 0 μ76 else sh_let (sh_setI μ76 291 74 ((sh_i μ76 291 74) ||| ((1 : Int32) <<< (i2 &&& 31)))) (fun μ80 => F_X12_laysWho fuel 1 i1 (i2 + 1) 0 0 0 μ80))) else (if i3 = 0 then F_X12_laysWho fuel 3 i1 i2 0 i4 0 μ else sh_bind (f_X12_isAsSeen i4 μ) (fun y84 μ82 => (if y84 = 0 then F_X12_laysWho fuel 3 i1 i2 0 i4 0 μ82 else F_X12_laysWho fuel 3 i1 i2 1 i4 0 μ82)))) : Option sh_Mem) = some μ' := h
      refine vv_iload 31 4 dX12_laysWho_31 rfl ?_
      refine vv_bipush 33 dX12_laysWho_33 bk_30 ?_
      refine vv_icmp_gt 35 108 dX12_laysWho_35 (by decide) (fun c75 => ?_) (fun c75 => ?_)
      · rw [if_pos c75] at h
        refine vv_aload_n 108 0 dX12_laysWho_108 rfl rfl ?_
        obtain ⟨μ76, hr77, h⟩ := sh_bindv_e h
        refine v1_callV [] 109 dX12_laysWho_109 ck_X12_504 (g_l_291 hG) ⟨by decide, rfl⟩ (t_X12_triesAnew hG hr77) (Nat.le_of_ble_eq_true rfl) ⟨Nat.le_of_ble_eq_true rfl, Nat.le_of_ble_eq_true rfl⟩ rfl (Nat.le_of_ble_eq_true rfl) ?_
        have hG76 := gp_X12_triesAnew hG hr77
        refine vv_iload_n 112 3 dX12_laysWho_112 rfl rfl ?_
        refine vv_if_eq 113 128 dX12_laysWho_113 (by decide) (fun c79 => ?_) (fun c79 => ?_)
        · rw [if_pos c79] at h
          refine vv_iincc (lv' := [(2, _), (0, _), (1, _), (3, _), (4, _)]) 128 2 dX12_laysWho_128 rfl ik_1 (by decide) rfl ?_
          refine vv_goto 131 11 dX12_laysWho_131 (by decide) ?_
          refine vv_sub [(0, _), (1, _), (2, _)] (sh_subm [1, 2, 0] rfl) ?_
          exact ih_11 hG76 h
        · rw [if_neg c79] at h
          refine vv_aload_n 116 0 dX12_laysWho_116 rfl rfl ?_
          refine vv_dup_ref 117 dX12_laysWho_117 ?_
          refine vv_getI 118 dX12_laysWho_118 fl_12_605 rfl (g_l_291 hG76) ?_
          refine vv_iconst 121 dX12_laysWho_121 ik_1 ?_
          refine vv_iload_n 122 2 dX12_laysWho_122 rfl rfl ?_
          refine vv_ishl 123 dX12_laysWho_123 ?_
          refine vv_ior 124 dX12_laysWho_124 ?_
          refine vn_putI 125 dX12_laysWho_125 fl_12_605 (Or.inl rfl) rfl (g_l_291 hG76) (fun μ80 eμ80 => ?_)
          rw [sh_let_eq eμ80] at h
          have hG80 : sh_G μ80 := by rw [eμ80]; exact hG76
          refine vv_iincc (lv' := [(2, _), (0, _), (1, _), (3, _), (4, _)]) 128 2 dX12_laysWho_128 rfl ik_1 (by decide) rfl ?_
          refine vv_goto 131 11 dX12_laysWho_131 (by decide) ?_
          refine vv_sub [(0, _), (1, _), (2, _)] (sh_subm [1, 2, 0] rfl) ?_
          exact ih_11 hG80 h
      · rw [if_neg c75] at h
        refine vv_iload_n 38 3 dX12_laysWho_38 rfl rfl ?_
        refine vv_if_eq 39 55 dX12_laysWho_39 (by decide) (fun c81 => ?_) (fun c81 => ?_)
        · rw [if_pos c81] at h
          refine vv_iconst 55 dX12_laysWho_55 ik_0 ?_
          refine vv_istore_n (lv' := [(3, _), (0, _), (1, _), (2, _), (4, _)]) 56 3 dX12_laysWho_56 rfl (by decide) rfl ?_
          refine vv_iconst 57 dX12_laysWho_57 ik_0 ?_
          refine vv_istore (lv' := [(5, _), (3, _), (0, _), (1, _), (2, _), (4, _)]) 58 5 dX12_laysWho_58 (by decide) rfl ?_
          refine vv_sub [(0, _), (1, _), (2, _), (3, _), (4, _), (5, _)] (sh_subm [2, 3, 4, 1, 5, 0] rfl) ?_
          exact ih_60 hG h
        · rw [if_neg c81] at h
          refine vv_aload_n 42 0 dX12_laysWho_42 rfl rfl ?_
          refine vv_iload 43 4 dX12_laysWho_43 rfl ?_
          obtain ⟨y84, μ82, hr83, h⟩ := sh_bind_e h
          refine v1_callV [_] 45 dX12_laysWho_45 ck_X12_608 (g_l_291 hG) ⟨by decide, rfl⟩ (t_X12_isAsSeen hG hr83) (Nat.le_of_ble_eq_true rfl) ⟨Nat.le_of_ble_eq_true rfl, Nat.le_of_ble_eq_true rfl⟩ rfl (Nat.le_of_ble_eq_true rfl) ?_
          have hG82 := gp_X12_isAsSeen hG hr83
          refine vv_if_eq 48 55 dX12_laysWho_48 (by decide) (fun c85 => ?_) (fun c85 => ?_)
          · rw [if_pos c85] at h
            refine vv_iconst 55 dX12_laysWho_55 ik_0 ?_
            refine vv_istore_n (lv' := [(3, _), (0, _), (1, _), (2, _), (4, _)]) 56 3 dX12_laysWho_56 rfl (by decide) rfl ?_
            refine vv_iconst 57 dX12_laysWho_57 ik_0 ?_
            refine vv_istore (lv' := [(5, _), (3, _), (0, _), (1, _), (2, _), (4, _)]) 58 5 dX12_laysWho_58 (by decide) rfl ?_
            refine vv_sub [(0, _), (1, _), (2, _), (3, _), (4, _), (5, _)] (sh_subm [2, 3, 4, 1, 5, 0] rfl) ?_
            exact ih_60 hG82 h
          · rw [if_neg c85] at h
            refine vv_iconst 51 dX12_laysWho_51 ik_1 ?_
            refine vv_goto 52 56 dX12_laysWho_52 (by decide) ?_
            refine vv_istore_n (lv' := [(3, _), (0, _), (1, _), (2, _), (4, _)]) 56 3 dX12_laysWho_56 rfl (by decide) rfl ?_
            refine vv_iconst 57 dX12_laysWho_57 ik_0 ?_
            refine vv_istore (lv' := [(5, _), (3, _), (0, _), (1, _), (2, _), (4, _)]) 58 5 dX12_laysWho_58 (by decide) rfl ?_
            refine vv_sub [(0, _), (1, _), (2, _), (3, _), (4, _), (5, _)] (sh_subm [2, 3, 4, 1, 5, 0] rfl) ?_
            exact ih_60 hG82 h
    · intro i1 i2 i3 i4 i5 μ μ' hG h
      replace h : ((if 49 ≤ i5 then sh_bindv (f_X12_dayGoes μ) (fun μ87 => F_X12_laysWho fuel 2 i1 i2 i3 (i4 + 1) 0 μ87) else sh_bind (f_X12_heightOf i5 μ) (fun y92 μ90 => (if sh_in (((1519 * i2) + (49 * i4)) + i5) 10633 then sh_let (sh_setI μ90 339 ((((1519 * i2) + (49 * i4)) + i5)).toNatClampNeg y92) (fun μ94 => F_X12_laysWho fuel 3 i1 i2 i3 i4 (i5 + 1) μ94) else none))) : Option sh_Mem) = some μ' := h
      refine vv_iload 60 5 dX12_laysWho_60 rfl ?_
      refine vv_bipush 62 dX12_laysWho_62 bk_49 ?_
      refine vv_icmp_ge 64 98 dX12_laysWho_64 (by decide) (fun c86 => ?_) (fun c86 => ?_)
      · rw [if_pos c86] at h
        refine vv_aload_n 98 0 dX12_laysWho_98 rfl rfl ?_
        obtain ⟨μ87, hr88, h⟩ := sh_bindv_e h
        refine v1_callV [] 99 dX12_laysWho_99 ck_X12_501 (g_l_291 hG) ⟨by decide, rfl⟩ (t_X12_dayGoes hG hr88) (Nat.le_of_ble_eq_true rfl) ⟨Nat.le_of_ble_eq_true rfl, Nat.le_of_ble_eq_true rfl⟩ rfl (Nat.le_of_ble_eq_true rfl) ?_
        have hG87 := gp_X12_dayGoes hG hr88
        refine vv_iincc (lv' := [(4, _), (0, _), (1, _), (2, _), (3, _), (5, _)]) 102 4 dX12_laysWho_102 rfl ik_1 (by decide) rfl ?_
        refine vv_goto 105 31 dX12_laysWho_105 (by decide) ?_
        refine vv_sub [(0, _), (1, _), (2, _), (3, _), (4, _)] (sh_subm [1, 2, 3, 4, 0] rfl) ?_
        exact ih_31 hG87 h
      · rw [if_neg c86] at h
        refine vv_aload_n 67 0 dX12_laysWho_67 rfl rfl ?_
        refine vv_getR 68 dX12_laysWho_68 fl_12_157 rfl (g_l_291 hG) (g_r_291_73 hG) ?_
        refine vv_sipush 71 dX12_laysWho_71 sk_1519 ?_
        refine vv_iload_n 74 2 dX12_laysWho_74 rfl rfl ?_
        refine vv_imul 75 dX12_laysWho_75 ?_
        refine vv_bipush 76 dX12_laysWho_76 bk_49 ?_
        refine vv_iload 78 4 dX12_laysWho_78 rfl ?_
        refine vv_imul 80 dX12_laysWho_80 ?_
        refine vv_iadd 81 dX12_laysWho_81 ?_
        refine vv_iload 82 5 dX12_laysWho_82 rfl ?_
        refine vv_iadd 84 dX12_laysWho_84 ?_
        refine vv_aload_n 85 0 dX12_laysWho_85 rfl rfl ?_
        refine vv_iload 86 5 dX12_laysWho_86 rfl ?_
        obtain ⟨y92, μ90, hr91, h⟩ := sh_bind_e h
        refine v1_callV [_] 88 dX12_laysWho_88 ck_X12_453 (g_l_291 hG) ⟨by decide, rfl⟩ (t_X12_heightOf hG hr91) (Nat.le_of_ble_eq_true rfl) ⟨Nat.le_of_ble_eq_true rfl, Nat.le_of_ble_eq_true rfl⟩ rfl (Nat.le_of_ble_eq_true rfl) ?_
        have hG90 := gp_X12_heightOf hG hr91
        obtain ⟨k93, h⟩ := sh_chk h
        refine vn_iast 91 dX12_laysWho_91 (g_l_339 hG90) k93 (fun μ94 eμ94 => ?_)
        rw [sh_let_eq eμ94] at h
        have hG94 : sh_G μ94 := by rw [eμ94]; exact hG90
        refine vv_iincc (lv' := [(5, _), (0, _), (1, _), (2, _), (3, _), (4, _)]) 92 5 dX12_laysWho_92 rfl ik_1 (by decide) rfl ?_
        refine vv_goto 95 60 dX12_laysWho_95 (by decide) ?_
        refine vv_sub [(0, _), (1, _), (2, _), (3, _), (4, _), (5, _)] (sh_subm [1, 2, 3, 4, 5, 0] rfl) ?_
        exact ih_60 hG94 h
theorem gp_X12_laysWho {a1 : Int32} {μ μ' : sh_Mem} (hG : sh_G μ) (h : f_X12_laysWho a1 μ = some μ') : sh_G μ' := by
  have ih_11 := (gpl_X12_laysWho sh_fuel).1
  have ih_31 := (gpl_X12_laysWho sh_fuel).2.1
  have ih_60 := (gpl_X12_laysWho sh_fuel).2.2
  unfold f_X12_laysWho at h
  obtain ⟨μ95, eμ95⟩ : ∃ y : sh_Mem, y = (sh_setI μ 291 74 0) := ⟨_, rfl⟩
  rw [sh_let_eq eμ95] at h
  have hG95 : sh_G μ95 := by rw [eμ95]; exact hG
  obtain ⟨μ96, hr97, h⟩ := sh_bindv_e h
  have hG96 := gp_X12_putsAside hG95 hr97
  exact ih_11 hG96 h
theorem t_X12_laysWho {a1 : Int32} {μ μ' : sh_Mem} (hG : sh_G μ) (h : f_X12_laysWho a1 μ = some μ') : sh_C0 l B D ca 8 M_X12_laysWho [.ref 291, .int a1] μ (fun v0 μ0 => v0 = none ∧ μ0 = μ') := by
  have ih_11 := (tl_X12_laysWho (l := l) (B := B) (D := D) (ca := ca) sh_fuel).1
  have ih_31 := (tl_X12_laysWho (l := l) (B := B) (D := D) (ca := ca) sh_fuel).2.1
  have ih_60 := (tl_X12_laysWho (l := l) (B := B) (D := D) (ca := ca) sh_fuel).2.2
  unfold f_X12_laysWho at h
  refine vv_aload_n 0 0 dX12_laysWho_0 rfl rfl ?_
  refine vv_iconst 1 dX12_laysWho_1 ik_0 ?_
  refine vn_putI 2 dX12_laysWho_2 fl_12_605 (Or.inl rfl) rfl (g_l_291 hG) (fun μ95 eμ95 => ?_)
  rw [sh_let_eq eμ95] at h
  have hG95 : sh_G μ95 := by rw [eμ95]; exact hG
  refine vv_aload_n 5 0 dX12_laysWho_5 rfl rfl ?_
  obtain ⟨μ96, hr97, h⟩ := sh_bindv_e h
  refine v1_callV [] 6 dX12_laysWho_6 ck_X12_507 (g_l_291 hG95) ⟨by decide, rfl⟩ (t_X12_putsAside hG95 hr97) (Nat.le_of_ble_eq_true rfl) ⟨Nat.le_of_ble_eq_true rfl, Nat.le_of_ble_eq_true rfl⟩ rfl (Nat.le_of_ble_eq_true rfl) ?_
  have hG96 := gp_X12_putsAside hG95 hr97
  refine vv_iconst 9 dX12_laysWho_9 ik_0 ?_
  refine vv_istore_n (lv' := [(2, _), (0, _), (1, _)]) 10 2 dX12_laysWho_10 rfl (by decide) rfl ?_
  refine vv_sub [(0, _), (1, _), (2, _)] (sh_subm [1, 2, 0] rfl) ?_
  exact ih_11 hG96 h
noncomputable def f_X12_who (a1 : Int32) (μ : sh_Mem) : Option (Int32 × sh_Mem) := sh_bind (f_X12_isTopic (a1).toInt64 μ) (fun y3 μ1 => (if y3 = 0 then some ((-1), μ1) else sh_bindv (f_X12_laysWho a1 μ1) (fun μ5 => some ((sh_i μ5 291 74), μ5))))
theorem gp_X12_who {a1 : Int32} {μ μ' : sh_Mem} {v : Int32} (hG : sh_G μ) (h : f_X12_who a1 μ = some (v, μ')) : sh_G μ' := by
  unfold f_X12_who at h
  obtain ⟨y3, μ1, hr2, h⟩ := sh_bind_e h
  have hG1 := gp_X12_isTopic hG hr2
  by_cases c4 : y3 = 0
  · rw [if_pos c4] at h
    obtain ⟨e1, e2⟩ := sh_some2 h
    exact e2 ▸ hG1
  · rw [if_neg c4] at h
    obtain ⟨μ5, hr6, h⟩ := sh_bindv_e h
    have hG5 := gp_X12_laysWho hG1 hr6
    obtain ⟨e1, e2⟩ := sh_some2 h
    exact e2 ▸ hG5
theorem t_X12_who {a1 : Int32} {μ μ' : sh_Mem} {v : Int32} (hG : sh_G μ) (h : f_X12_who a1 μ = some (v, μ')) : sh_C0 l B D ca 9 M_X12_who [.ref 291, .int a1] μ (fun v0 μ0 => v0 = some (.int v) ∧ μ0 = μ') := by
  unfold f_X12_who at h
  refine vv_aload_n 0 0 dX12_who_0 rfl rfl ?_
  refine vv_iload_n 1 1 dX12_who_1 rfl rfl ?_
  refine vv_i2l 2 dX12_who_2 ?_
  obtain ⟨y3, μ1, hr2, h⟩ := sh_bind_e h
  refine v1_callV [_] 3 dX12_who_3 ck_X12_521 (g_l_291 hG) ⟨by decide, rfl⟩ (t_X12_isTopic hG hr2) (Nat.le_of_ble_eq_true rfl) ⟨Nat.le_of_ble_eq_true rfl, Nat.le_of_ble_eq_true rfl⟩ rfl (Nat.le_of_ble_eq_true rfl) ?_
  have hG1 := gp_X12_isTopic hG hr2
  refine vv_if_ne 6 11 dX12_who_6 (by decide) (fun c4 => ?_) (fun c4 => ?_)
  · rw [if_neg c4] at h
    refine vv_aload_n 11 0 dX12_who_11 rfl rfl ?_
    refine vv_iload_n 12 1 dX12_who_12 rfl rfl ?_
    obtain ⟨μ5, hr6, h⟩ := sh_bindv_e h
    refine v1_callV [_] 13 dX12_who_13 ck_X12_611 (g_l_291 hG1) ⟨by decide, rfl⟩ (t_X12_laysWho hG1 hr6) (Nat.le_of_ble_eq_true rfl) ⟨Nat.le_of_ble_eq_true rfl, Nat.le_of_ble_eq_true rfl⟩ rfl (Nat.le_of_ble_eq_true rfl) ?_
    have hG5 := gp_X12_laysWho hG1 hr6
    refine vv_aload_n 16 0 dX12_who_16 rfl rfl ?_
    refine vv_getI 17 dX12_who_17 fl_12_605 rfl (g_l_291 hG5) ?_
    obtain ⟨e1, e2⟩ := sh_some2 h
    refine vv_iret 20 dX12_who_20 rfl (Nat.le_refl _) (Nat.le_refl _) ⟨by rw [e1], e2⟩
  · rw [if_pos c4] at h
    refine vv_iconst 9 dX12_who_9 ik_m1 ?_
    obtain ⟨e1, e2⟩ := sh_some2 h
    refine vv_iret 10 dX12_who_10 rfl (Nat.le_refl _) (Nat.le_refl _) ⟨by rw [e1], e2⟩
noncomputable def F_X12_tells : Nat → Nat → Int32 → Int32 → Int32 → Int32 → Int32 → Int32 → Int32 → sh_Mem → Option (Int32 × sh_Mem)
  | 0, _, _, _, _, _, _, _, _, _ => none
  | fuel + 1, lbl, i1, i2, i3, i4, i5, i6, i7, μ => match lbl with
    | 1 => (if (sh_i μ 291 74) = 0 then (if i3 = (-1) then some ((-1), μ) else (if i2 = 0 then some (i3, μ) else (if i2 = 1 then sh_bind (f_X12_numberOf i4 μ) (fun y85 μ83 => some (y85, μ83)) else some (i5, μ)))) else sh_bind (f_X12_isAhead i6 0 30 μ) (fun y88 μ86 => (if y88 = 0 then (if i3 = (-1) then some ((-1), μ86) else (if i2 = 0 then some (i3, μ86) else (if i2 = 1 then sh_bind (f_X12_numberOf i4 μ86) (fun y95 μ93 => some (y95, μ93)) else some (i5, μ86)))) else F_X12_tells fuel 2 i1 i2 i3 i4 i5 i6 0 μ86)))
    | 2 => sh_bind (f_X12_cellMany μ) (fun y98 μ96 => (if y98 ≤ i7 then F_X12_tells fuel 1 i1 i2 i3 i4 i5 (i6 + 1) 0 μ96 else sh_bind (f_X12_cellOrder i7 μ96) (fun y102 μ100 => sh_bind (f_X12_mostAlike ((49 * i6) + y102) μ100) (fun y105 μ103 => (if i3 = (-1) then sh_bind (f_X12_cellOrder i7 μ103) (fun y109 μ107 => F_X12_tells fuel 2 i1 i2 i6 y109 y105 i6 (i7 + 1) μ107) else (if y105 < i5 then sh_bind (f_X12_cellOrder i7 μ103) (fun y113 μ111 => F_X12_tells fuel 2 i1 i2 i6 y113 y105 i6 (i7 + 1) μ111) else F_X12_tells fuel 2 i1 i2 i3 i4 i5 i6 (i7 + 1) μ103))))))
    | _ => none
noncomputable def f_X12_tells (a1 : Int32) (a2 : Int32) (μ : sh_Mem) : Option (Int32 × sh_Mem) := sh_bind (f_X12_isTopic (a1).toInt64 μ) (fun y116 μ114 => (if y116 = 0 then some ((-1), μ114) else (if (f_X12_isIn μ114 (a2).toInt64 0 2) = 0 then some ((-1), μ114) else sh_bindv (f_X12_laysWho a1 μ114) (fun μ119 => F_X12_tells sh_fuel 1 a1 a2 (-1) (-1) 0 0 0 μ119))))
theorem gpl_X12_tells (fuel : Nat) : (∀ ⦃i1 : Int32⦄ ⦃i2 : Int32⦄ ⦃i3 : Int32⦄ ⦃i4 : Int32⦄ ⦃i5 : Int32⦄ ⦃i6 : Int32⦄ ⦃i7 : Int32⦄ ⦃μ μ' : sh_Mem⦄ ⦃v : Int32⦄, sh_G μ → F_X12_tells fuel 1 i1 i2 i3 i4 i5 i6 i7 μ = some (v, μ') → sh_G μ') ∧ (∀ ⦃i1 : Int32⦄ ⦃i2 : Int32⦄ ⦃i3 : Int32⦄ ⦃i4 : Int32⦄ ⦃i5 : Int32⦄ ⦃i6 : Int32⦄ ⦃i7 : Int32⦄ ⦃μ μ' : sh_Mem⦄ ⦃v : Int32⦄, sh_G μ → F_X12_tells fuel 2 i1 i2 i3 i4 i5 i6 i7 μ = some (v, μ') → sh_G μ') := by
  induction fuel with
  | zero => exact ⟨(by intro i1 i2 i3 i4 i5 i6 i7 μ μ' v hG h; cases h), (by intro i1 i2 i3 i4 i5 i6 i7 μ μ' v hG h; cases h)⟩
  | succ fuel ih =>
    obtain ⟨ih_39, ih_61⟩ := ih
    refine ⟨?_, ?_⟩
    · intro i1 i2 i3 i4 i5 i6 i7 μ μ' v hG h
      replace h : ((if (sh_i μ 291 74) = 0 then (if i3 = (-1) then some ((-1), μ) else (if i2 = 0 then some (i3, μ) else (if i2 = 1 then sh_bind (f_X12_numberOf i4 μ) (fun y85 μ83 => some (y85, μ83)) else some (i5, μ)))) else sh_bind (f_X12_isAhead i6 0 30 μ) (fun y88 μ86 => (if y88 = 0 then (if i3 = (-1) then some ((-1), μ86) else (if i2 = 0 then some (i3, μ86) else (if i2 = 1 then sh_bind (f_X12_numberOf i4 μ86) (fun y95 μ93 => some (y95, μ93)) else some (i5, μ86)))) else F_X12_tells fuel 2 i1 i2 i3 i4 i5 i6 0 μ86))) : Option (Int32 × sh_Mem)) = some (v, μ') := h
      by_cases c79 : (sh_i μ 291 74) = 0
      · rw [if_pos c79] at h
        by_cases c80 : i3 = (-1)
        · rw [if_pos c80] at h
          obtain ⟨e1, e2⟩ := sh_some2 h
          exact e2 ▸ hG
        · rw [if_neg c80] at h
          by_cases c81 : i2 = 0
          · rw [if_pos c81] at h
            obtain ⟨e1, e2⟩ := sh_some2 h
            exact e2 ▸ hG
          · rw [if_neg c81] at h
            by_cases c82 : i2 = 1
            · rw [if_pos c82] at h
              obtain ⟨y85, μ83, hr84, h⟩ := sh_bind_e h
              have hG83 := gp_X12_numberOf hG hr84
              obtain ⟨e1, e2⟩ := sh_some2 h
              exact e2 ▸ hG83
            · rw [if_neg c82] at h
              obtain ⟨e1, e2⟩ := sh_some2 h
              exact e2 ▸ hG
      · rw [if_neg c79] at h
        obtain ⟨y88, μ86, hr87, h⟩ := sh_bind_e h
        have hG86 := gp_X12_isAhead hG hr87
        by_cases c89 : y88 = 0
        · rw [if_pos c89] at h
          by_cases c90 : i3 = (-1)
          · rw [if_pos c90] at h
            obtain ⟨e1, e2⟩ := sh_some2 h
            exact e2 ▸ hG86
          · rw [if_neg c90] at h
            by_cases c91 : i2 = 0
            · rw [if_pos c91] at h
              obtain ⟨e1, e2⟩ := sh_some2 h
              exact e2 ▸ hG86
            · rw [if_neg c91] at h
              by_cases c92 : i2 = 1
              · rw [if_pos c92] at h
                obtain ⟨y95, μ93, hr94, h⟩ := sh_bind_e h
                have hG93 := gp_X12_numberOf hG86 hr94
                obtain ⟨e1, e2⟩ := sh_some2 h
                exact e2 ▸ hG93
              · rw [if_neg c92] at h
                obtain ⟨e1, e2⟩ := sh_some2 h
                exact e2 ▸ hG86
        · rw [if_neg c89] at h
          exact ih_61 hG86 h
    · intro i1 i2 i3 i4 i5 i6 i7 μ μ' v hG h
      replace h : (sh_bind (f_X12_cellMany μ) (fun y98 μ96 => (if y98 ≤ i7 then F_X12_tells fuel 1 i1 i2 i3 i4 i5 (i6 + 1) 0 μ96 else sh_bind (f_X12_cellOrder i7 μ96) (fun y102 μ100 => sh_bind (f_X12_mostAlike ((49 * i6) + y102) μ100) (fun y105 μ103 => (if i3 = (-1) then sh_bind (f_X12_cellOrder i7 μ103) (fun y109 μ107 => F_X12_tells fuel 2 i1 i2 i6 y109 y105 i6 (i7 + 1) μ107) else (if y105 < i5 then sh_bind (f_X12_cellOrder i7 μ103) (fun y113 μ111 => F_X12_tells fuel 2 i1 i2 i6 y113 y105 i6 (i7 + 1) μ111) else F_X12_tells fuel 2 i1 i2 i3 i4 i5 i6 (i7 + 1) μ103)))))) : Option (Int32 × sh_Mem)) = some (v, μ') := h
      obtain ⟨y98, μ96, hr97, h⟩ := sh_bind_e h
      have hG96 := gp_X12_cellMany hG hr97
      by_cases c99 : y98 ≤ i7
      · rw [if_pos c99] at h
        exact ih_39 hG96 h
      · rw [if_neg c99] at h
        obtain ⟨y102, μ100, hr101, h⟩ := sh_bind_e h
        have hG100 := gp_X12_cellOrder hG96 hr101
        obtain ⟨y105, μ103, hr104, h⟩ := sh_bind_e h
        have hG103 := gp_X12_mostAlike hG100 hr104
        by_cases c106 : i3 = (-1)
        · rw [if_pos c106] at h
          obtain ⟨y109, μ107, hr108, h⟩ := sh_bind_e h
          have hG107 := gp_X12_cellOrder hG103 hr108
          exact ih_61 hG107 h
        · rw [if_neg c106] at h
          by_cases c110 : y105 < i5
          · rw [if_pos c110] at h
            obtain ⟨y113, μ111, hr112, h⟩ := sh_bind_e h
            have hG111 := gp_X12_cellOrder hG103 hr112
            exact ih_61 hG111 h
          · rw [if_neg c110] at h
            exact ih_61 hG103 h
theorem tl_X12_tells (fuel : Nat) : (∀ ⦃i1 : Int32⦄ ⦃i2 : Int32⦄ ⦃i3 : Int32⦄ ⦃i4 : Int32⦄ ⦃i5 : Int32⦄ ⦃i6 : Int32⦄ ⦃i7 : Int32⦄ ⦃μ μ' : sh_Mem⦄ ⦃v : Int32⦄, sh_G μ → F_X12_tells fuel 1 i1 i2 i3 i4 i5 i6 i7 μ = some (v, μ') → sh_V0 l B D ca 9 M_X12_tells 39 [(0, .ref 291), (1, .int i1), (2, .int i2), (3, .int i3), (4, .int i4), (5, .int i5), (6, .int i6)] [] μ (fun v0 μ0 => v0 = some (.int v) ∧ μ0 = μ')) ∧ (∀ ⦃i1 : Int32⦄ ⦃i2 : Int32⦄ ⦃i3 : Int32⦄ ⦃i4 : Int32⦄ ⦃i5 : Int32⦄ ⦃i6 : Int32⦄ ⦃i7 : Int32⦄ ⦃μ μ' : sh_Mem⦄ ⦃v : Int32⦄, sh_G μ → F_X12_tells fuel 2 i1 i2 i3 i4 i5 i6 i7 μ = some (v, μ') → sh_V0 l B D ca 9 M_X12_tells 61 [(0, .ref 291), (1, .int i1), (2, .int i2), (3, .int i3), (4, .int i4), (5, .int i5), (6, .int i6), (7, .int i7)] [] μ (fun v0 μ0 => v0 = some (.int v) ∧ μ0 = μ')) := by
  induction fuel with
  | zero => exact ⟨(by intro i1 i2 i3 i4 i5 i6 i7 μ μ' v hG h; cases h), (by intro i1 i2 i3 i4 i5 i6 i7 μ μ' v hG h; cases h)⟩
  | succ fuel ih =>
    obtain ⟨ih_39, ih_61⟩ := ih
    refine ⟨?_, ?_⟩
    · intro i1 i2 i3 i4 i5 i6 i7 μ μ' v hG h
      replace h : ((if (sh_i μ 291 74) = 0 then (if i3 = (-1) then some ((-1), μ) else (if i2 = 0 then some (i3, μ) else (if i2 = 1 then sh_bind (f_X12_numberOf i4 μ) (fun y85 μ83 => some (y85, μ83)) else some (i5, μ)))) else sh_bind (f_X12_isAhead i6 0 30 μ) (fun y88 μ86 => (if y88 = 0 then (if i3 = (-1) then some ((-1), μ86) else (if i2 = 0 then some (i3, μ86) else (if i2 = 1 then sh_bind (f_X12_numberOf i4 μ86) (fun y95 μ93 => some (y95, μ93)) else some (i5, μ86)))) else F_X12_tells fuel 2 i1 i2 i3 i4 i5 i6 0 μ86))) : Option (Int32 × sh_Mem)) = some (v, μ') := h
      refine vv_aload_n 39 0 dX12_tells_39 rfl rfl ?_
      refine vv_getI 40 dX12_tells_40 fl_12_605 rfl (g_l_291 hG) ?_
      refine vv_if_eq 43 130 dX12_tells_43 (by decide) (fun c79 => ?_) (fun c79 => ?_)
      · rw [if_pos c79] at h
        refine vv_iload_n 130 3 dX12_tells_130 rfl rfl ?_
        refine vv_iconst 131 dX12_tells_131 ik_m1 ?_
        refine vv_icmp_ne 132 139 dX12_tells_132 (by decide) (fun c80 => ?_) (fun c80 => ?_)
        · rw [if_neg c80] at h
          refine vv_iload_n 139 2 dX12_tells_139 rfl rfl ?_
          refine vv_if_ne 140 147 dX12_tells_140 (by decide) (fun c81 => ?_) (fun c81 => ?_)
          · rw [if_neg c81] at h
            refine vv_iload_n 147 2 dX12_tells_147 rfl rfl ?_
            refine vv_iconst 148 dX12_tells_148 ik_1 ?_
            refine vv_icmp_ne 149 160 dX12_tells_149 (by decide) (fun c82 => ?_) (fun c82 => ?_)
            · rw [if_neg c82] at h
              refine vv_iload 160 5 dX12_tells_160 rfl ?_
              obtain ⟨e1, e2⟩ := sh_some2 h
              refine vv_iret 162 dX12_tells_162 rfl (Nat.le_refl _) (Nat.le_refl _) ⟨by rw [e1], e2⟩
            · rw [if_pos c82] at h
              refine vv_iload 152 4 dX12_tells_152 rfl ?_
              obtain ⟨y85, μ83, hr84, h⟩ := sh_bind_e h
              refine v1_callS [_] 154 dX12_tells_154 ck_X12_586 (t_X12_numberOf hG hr84) (Nat.le_of_ble_eq_true rfl) ⟨Nat.le_of_ble_eq_true rfl, Nat.le_of_ble_eq_true rfl⟩ rfl (Nat.le_of_ble_eq_true rfl) ?_
              have hG83 := gp_X12_numberOf hG hr84
              refine vv_goto 157 162 dX12_tells_157 (by decide) ?_
              obtain ⟨e1, e2⟩ := sh_some2 h
              refine vv_iret 162 dX12_tells_162 rfl (Nat.le_refl _) (Nat.le_refl _) ⟨by rw [e1], e2⟩
          · rw [if_pos c81] at h
            refine vv_iload_n 143 3 dX12_tells_143 rfl rfl ?_
            refine vv_goto 144 162 dX12_tells_144 (by decide) ?_
            obtain ⟨e1, e2⟩ := sh_some2 h
            refine vv_iret 162 dX12_tells_162 rfl (Nat.le_refl _) (Nat.le_refl _) ⟨by rw [e1], e2⟩
        · rw [if_pos c80] at h
          refine vv_iconst 135 dX12_tells_135 ik_m1 ?_
          refine vv_goto 136 162 dX12_tells_136 (by decide) ?_
          obtain ⟨e1, e2⟩ := sh_some2 h
          refine vv_iret 162 dX12_tells_162 rfl (Nat.le_refl _) (Nat.le_refl _) ⟨by rw [e1], e2⟩
      · rw [if_neg c79] at h
        refine vv_aload_n 46 0 dX12_tells_46 rfl rfl ?_
        refine vv_iload 47 6 dX12_tells_47 rfl ?_
        refine vv_iconst 49 dX12_tells_49 ik_0 ?_
        refine vv_bipush 50 dX12_tells_50 bk_30 ?_
        obtain ⟨y88, μ86, hr87, h⟩ := sh_bind_e h
        refine v1_callV [_, _, _] 52 dX12_tells_52 ck_X12_527 (g_l_291 hG) ⟨by decide, rfl⟩ (t_X12_isAhead hG hr87) (Nat.le_of_ble_eq_true rfl) ⟨Nat.le_of_ble_eq_true rfl, Nat.le_of_ble_eq_true rfl⟩ rfl (Nat.le_of_ble_eq_true rfl) ?_
        have hG86 := gp_X12_isAhead hG hr87
        refine vv_if_eq 55 130 dX12_tells_55 (by decide) (fun c89 => ?_) (fun c89 => ?_)
        · rw [if_pos c89] at h
          refine vv_iload_n 130 3 dX12_tells_130 rfl rfl ?_
          refine vv_iconst 131 dX12_tells_131 ik_m1 ?_
          refine vv_icmp_ne 132 139 dX12_tells_132 (by decide) (fun c90 => ?_) (fun c90 => ?_)
          · rw [if_neg c90] at h
            refine vv_iload_n 139 2 dX12_tells_139 rfl rfl ?_
            refine vv_if_ne 140 147 dX12_tells_140 (by decide) (fun c91 => ?_) (fun c91 => ?_)
            · rw [if_neg c91] at h
              refine vv_iload_n 147 2 dX12_tells_147 rfl rfl ?_
              refine vv_iconst 148 dX12_tells_148 ik_1 ?_
              refine vv_icmp_ne 149 160 dX12_tells_149 (by decide) (fun c92 => ?_) (fun c92 => ?_)
              · rw [if_neg c92] at h
                refine vv_iload 160 5 dX12_tells_160 rfl ?_
                obtain ⟨e1, e2⟩ := sh_some2 h
                refine vv_iret 162 dX12_tells_162 rfl (Nat.le_refl _) (Nat.le_refl _) ⟨by rw [e1], e2⟩
              · rw [if_pos c92] at h
                refine vv_iload 152 4 dX12_tells_152 rfl ?_
                obtain ⟨y95, μ93, hr94, h⟩ := sh_bind_e h
                refine v1_callS [_] 154 dX12_tells_154 ck_X12_586 (t_X12_numberOf hG86 hr94) (Nat.le_of_ble_eq_true rfl) ⟨Nat.le_of_ble_eq_true rfl, Nat.le_of_ble_eq_true rfl⟩ rfl (Nat.le_of_ble_eq_true rfl) ?_
                have hG93 := gp_X12_numberOf hG86 hr94
                refine vv_goto 157 162 dX12_tells_157 (by decide) ?_
                obtain ⟨e1, e2⟩ := sh_some2 h
                refine vv_iret 162 dX12_tells_162 rfl (Nat.le_refl _) (Nat.le_refl _) ⟨by rw [e1], e2⟩
            · rw [if_pos c91] at h
              refine vv_iload_n 143 3 dX12_tells_143 rfl rfl ?_
              refine vv_goto 144 162 dX12_tells_144 (by decide) ?_
              obtain ⟨e1, e2⟩ := sh_some2 h
              refine vv_iret 162 dX12_tells_162 rfl (Nat.le_refl _) (Nat.le_refl _) ⟨by rw [e1], e2⟩
          · rw [if_pos c90] at h
            refine vv_iconst 135 dX12_tells_135 ik_m1 ?_
            refine vv_goto 136 162 dX12_tells_136 (by decide) ?_
            obtain ⟨e1, e2⟩ := sh_some2 h
            refine vv_iret 162 dX12_tells_162 rfl (Nat.le_refl _) (Nat.le_refl _) ⟨by rw [e1], e2⟩
        · rw [if_neg c89] at h
          refine vv_iconst 58 dX12_tells_58 ik_0 ?_
          refine vv_istore (lv' := [(7, _), (0, _), (1, _), (2, _), (3, _), (4, _), (5, _), (6, _)]) 59 7 dX12_tells_59 (by decide) rfl ?_
          refine vv_sub [(0, _), (1, _), (2, _), (3, _), (4, _), (5, _), (6, _), (7, _)] (sh_subm [1, 2, 3, 4, 5, 6, 7, 0] rfl) ?_
          exact ih_61 hG86 h
    · intro i1 i2 i3 i4 i5 i6 i7 μ μ' v hG h
      replace h : (sh_bind (f_X12_cellMany μ) (fun y98 μ96 => (if y98 ≤ i7 then F_X12_tells fuel 1 i1 i2 i3 i4 i5 (i6 + 1) 0 μ96 else sh_bind (f_X12_cellOrder i7 μ96) (fun y102 μ100 => sh_bind (f_X12_mostAlike ((49 * i6) + y102) μ100) (fun y105 μ103 => (if i3 = (-1) then sh_bind (f_X12_cellOrder i7 μ103) (fun y109 μ107 => F_X12_tells fuel 2 i1 i2 i6 y109 y105 i6 (i7 + 1) μ107) else (if y105 < i5 then sh_bind (f_X12_cellOrder i7 μ103) (fun y113 μ111 => F_X12_tells fuel 2 i1 i2 i6 y113 y105 i6 (i7 + 1) μ111) else F_X12_tells fuel 2 i1 i2 i3 i4 i5 i6 (i7 + 1) μ103)))))) : Option (Int32 × sh_Mem)) = some (v, μ') := h
      refine vv_iload 61 7 dX12_tells_61 rfl ?_
      refine vv_aload_n 63 0 dX12_tells_63 rfl rfl ?_
      obtain ⟨y98, μ96, hr97, h⟩ := sh_bind_e h
      refine v1_callV [] 64 dX12_tells_64 ck_X12_447 (g_l_291 hG) ⟨by decide, rfl⟩ (t_X12_cellMany hG hr97) (Nat.le_of_ble_eq_true rfl) ⟨Nat.le_of_ble_eq_true rfl, Nat.le_of_ble_eq_true rfl⟩ rfl (Nat.le_of_ble_eq_true rfl) ?_
      have hG96 := gp_X12_cellMany hG hr97
      refine vv_icmp_ge 67 124 dX12_tells_67 (by decide) (fun c99 => ?_) (fun c99 => ?_)
      · rw [if_pos c99] at h
        refine vv_iincc (lv' := [(6, _), (0, _), (1, _), (2, _), (3, _), (4, _), (5, _), (7, _)]) 124 6 dX12_tells_124 rfl ik_1 (by decide) rfl ?_
        refine vv_goto 127 39 dX12_tells_127 (by decide) ?_
        refine vv_sub [(0, _), (1, _), (2, _), (3, _), (4, _), (5, _), (6, _)] (sh_subm [1, 2, 3, 4, 5, 6, 0] rfl) ?_
        exact ih_39 hG96 h
      · rw [if_neg c99] at h
        refine vv_aload_n 70 0 dX12_tells_70 rfl rfl ?_
        refine vv_bipush 71 dX12_tells_71 bk_49 ?_
        refine vv_iload 73 6 dX12_tells_73 rfl ?_
        refine vv_imul 75 dX12_tells_75 ?_
        refine vv_aload_n 76 0 dX12_tells_76 rfl rfl ?_
        refine vv_iload 77 7 dX12_tells_77 rfl ?_
        obtain ⟨y102, μ100, hr101, h⟩ := sh_bind_e h
        refine v1_callV [_] 79 dX12_tells_79 ck_X12_450 (g_l_291 hG96) ⟨by decide, rfl⟩ (t_X12_cellOrder hG96 hr101) (Nat.le_of_ble_eq_true rfl) ⟨Nat.le_of_ble_eq_true rfl, Nat.le_of_ble_eq_true rfl⟩ rfl (Nat.le_of_ble_eq_true rfl) ?_
        have hG100 := gp_X12_cellOrder hG96 hr101
        refine vv_iadd 82 dX12_tells_82 ?_
        obtain ⟨y105, μ103, hr104, h⟩ := sh_bind_e h
        refine v1_callV [_] 83 dX12_tells_83 ck_X12_616 (g_l_291 hG100) ⟨by decide, rfl⟩ (t_X12_mostAlike hG100 hr104) (Nat.le_of_ble_eq_true rfl) ⟨Nat.le_of_ble_eq_true rfl, Nat.le_of_ble_eq_true rfl⟩ rfl (Nat.le_of_ble_eq_true rfl) ?_
        have hG103 := gp_X12_mostAlike hG100 hr104
        refine vv_istore (lv' := [(8, _), (0, _), (1, _), (2, _), (3, _), (4, _), (5, _), (6, _), (7, _)]) 86 8 dX12_tells_86 (by decide) rfl ?_
        refine vv_iload_n 88 3 dX12_tells_88 rfl rfl ?_
        refine vv_iconst 89 dX12_tells_89 ik_m1 ?_
        refine vv_icmp_eq 90 103 dX12_tells_90 (by decide) (fun c106 => ?_) (fun c106 => ?_)
        · rw [if_pos c106] at h
          refine vv_iload 103 6 dX12_tells_103 rfl ?_
          refine vv_istore_n (lv' := [(3, _), (8, _), (0, _), (1, _), (2, _), (4, _), (5, _), (6, _), (7, _)]) 105 3 dX12_tells_105 rfl (by decide) rfl ?_
          refine vv_aload_n 106 0 dX12_tells_106 rfl rfl ?_
          refine vv_iload 107 7 dX12_tells_107 rfl ?_
          obtain ⟨y109, μ107, hr108, h⟩ := sh_bind_e h
          refine v1_callV [_] 109 dX12_tells_109 ck_X12_450 (g_l_291 hG103) ⟨by decide, rfl⟩ (t_X12_cellOrder hG103 hr108) (Nat.le_of_ble_eq_true rfl) ⟨Nat.le_of_ble_eq_true rfl, Nat.le_of_ble_eq_true rfl⟩ rfl (Nat.le_of_ble_eq_true rfl) ?_
          have hG107 := gp_X12_cellOrder hG103 hr108
          refine vv_istore (lv' := [(4, _), (3, _), (8, _), (0, _), (1, _), (2, _), (5, _), (6, _), (7, _)]) 112 4 dX12_tells_112 (by decide) rfl ?_
          refine vv_iload 114 8 dX12_tells_114 rfl ?_
          refine vv_istore (lv' := [(5, _), (4, _), (3, _), (8, _), (0, _), (1, _), (2, _), (6, _), (7, _)]) 116 5 dX12_tells_116 (by decide) rfl ?_
          refine vv_iincc (lv' := [(7, _), (5, _), (4, _), (3, _), (8, _), (0, _), (1, _), (2, _), (6, _)]) 118 7 dX12_tells_118 rfl ik_1 (by decide) rfl ?_
          refine vv_goto 121 61 dX12_tells_121 (by decide) ?_
          refine vv_sub [(0, _), (1, _), (2, _), (3, _), (4, _), (5, _), (6, _), (7, _)] (sh_subm [5, 6, 7, 3, 2, 1, 8, 0] rfl) ?_
          exact ih_61 hG107 h
        · rw [if_neg c106] at h
          refine vv_iload 93 8 dX12_tells_93 rfl ?_
          refine vv_iload 95 5 dX12_tells_95 rfl ?_
          refine vv_icmp_lt 97 103 dX12_tells_97 (by decide) (fun c110 => ?_) (fun c110 => ?_)
          · rw [if_pos c110] at h
            refine vv_iload 103 6 dX12_tells_103 rfl ?_
            refine vv_istore_n (lv' := [(3, _), (8, _), (0, _), (1, _), (2, _), (4, _), (5, _), (6, _), (7, _)]) 105 3 dX12_tells_105 rfl (by decide) rfl ?_
            refine vv_aload_n 106 0 dX12_tells_106 rfl rfl ?_
            refine vv_iload 107 7 dX12_tells_107 rfl ?_
            obtain ⟨y113, μ111, hr112, h⟩ := sh_bind_e h
            refine v1_callV [_] 109 dX12_tells_109 ck_X12_450 (g_l_291 hG103) ⟨by decide, rfl⟩ (t_X12_cellOrder hG103 hr112) (Nat.le_of_ble_eq_true rfl) ⟨Nat.le_of_ble_eq_true rfl, Nat.le_of_ble_eq_true rfl⟩ rfl (Nat.le_of_ble_eq_true rfl) ?_
            have hG111 := gp_X12_cellOrder hG103 hr112
            refine vv_istore (lv' := [(4, _), (3, _), (8, _), (0, _), (1, _), (2, _), (5, _), (6, _), (7, _)]) 112 4 dX12_tells_112 (by decide) rfl ?_
            refine vv_iload 114 8 dX12_tells_114 rfl ?_
            refine vv_istore (lv' := [(5, _), (4, _), (3, _), (8, _), (0, _), (1, _), (2, _), (6, _), (7, _)]) 116 5 dX12_tells_116 (by decide) rfl ?_
            refine vv_iincc (lv' := [(7, _), (5, _), (4, _), (3, _), (8, _), (0, _), (1, _), (2, _), (6, _)]) 118 7 dX12_tells_118 rfl ik_1 (by decide) rfl ?_
            refine vv_goto 121 61 dX12_tells_121 (by decide) ?_
            refine vv_sub [(0, _), (1, _), (2, _), (3, _), (4, _), (5, _), (6, _), (7, _)] (sh_subm [5, 6, 7, 3, 2, 1, 8, 0] rfl) ?_
            exact ih_61 hG111 h
          · rw [if_neg c110] at h
            refine vv_goto 100 118 dX12_tells_100 (by decide) ?_
            refine vv_iincc (lv' := [(7, _), (8, _), (0, _), (1, _), (2, _), (3, _), (4, _), (5, _), (6, _)]) 118 7 dX12_tells_118 rfl ik_1 (by decide) rfl ?_
            refine vv_goto 121 61 dX12_tells_121 (by decide) ?_
            refine vv_sub [(0, _), (1, _), (2, _), (3, _), (4, _), (5, _), (6, _), (7, _)] (sh_subm [2, 3, 4, 5, 6, 7, 8, 0] rfl) ?_
            exact ih_61 hG103 h
theorem gp_X12_tells {a1 : Int32} {a2 : Int32} {μ μ' : sh_Mem} {v : Int32} (hG : sh_G μ) (h : f_X12_tells a1 a2 μ = some (v, μ')) : sh_G μ' := by
  have ih_39 := (gpl_X12_tells sh_fuel).1
  have ih_61 := (gpl_X12_tells sh_fuel).2
  unfold f_X12_tells at h
  obtain ⟨y116, μ114, hr115, h⟩ := sh_bind_e h
  have hG114 := gp_X12_isTopic hG hr115
  by_cases c117 : y116 = 0
  · rw [if_pos c117] at h
    obtain ⟨e1, e2⟩ := sh_some2 h
    exact e2 ▸ hG114
  · rw [if_neg c117] at h
    by_cases c118 : (f_X12_isIn μ114 (a2).toInt64 0 2) = 0
    · rw [if_pos c118] at h
      obtain ⟨e1, e2⟩ := sh_some2 h
      exact e2 ▸ hG114
    · rw [if_neg c118] at h
      obtain ⟨μ119, hr120, h⟩ := sh_bindv_e h
      have hG119 := gp_X12_laysWho hG114 hr120
      exact ih_39 hG119 h
theorem t_X12_tells {a1 : Int32} {a2 : Int32} {μ μ' : sh_Mem} {v : Int32} (hG : sh_G μ) (h : f_X12_tells a1 a2 μ = some (v, μ')) : sh_C0 l B D ca 9 M_X12_tells [.ref 291, .int a1, .int a2] μ (fun v0 μ0 => v0 = some (.int v) ∧ μ0 = μ') := by
  have ih_39 := (tl_X12_tells (l := l) (B := B) (D := D) (ca := ca) sh_fuel).1
  have ih_61 := (tl_X12_tells (l := l) (B := B) (D := D) (ca := ca) sh_fuel).2
  unfold f_X12_tells at h
  refine vv_aload_n 0 0 dX12_tells_0 rfl rfl ?_
  refine vv_iload_n 1 1 dX12_tells_1 rfl rfl ?_
  refine vv_i2l 2 dX12_tells_2 ?_
  obtain ⟨y116, μ114, hr115, h⟩ := sh_bind_e h
  refine v1_callV [_] 3 dX12_tells_3 ck_X12_521 (g_l_291 hG) ⟨by decide, rfl⟩ (t_X12_isTopic hG hr115) (Nat.le_of_ble_eq_true rfl) ⟨Nat.le_of_ble_eq_true rfl, Nat.le_of_ble_eq_true rfl⟩ rfl (Nat.le_of_ble_eq_true rfl) ?_
  have hG114 := gp_X12_isTopic hG hr115
  refine vv_if_eq 6 21 dX12_tells_6 (by decide) (fun c117 => ?_) (fun c117 => ?_)
  · rw [if_pos c117] at h
    refine vv_iconst 21 dX12_tells_21 ik_m1 ?_
    obtain ⟨e1, e2⟩ := sh_some2 h
    refine vv_iret 22 dX12_tells_22 rfl (Nat.le_refl _) (Nat.le_refl _) ⟨by rw [e1], e2⟩
  · rw [if_neg c117] at h
    refine vv_iload_n 9 2 dX12_tells_9 rfl rfl ?_
    refine vv_i2l 10 dX12_tells_10 ?_
    refine vv_lconst 11 dX12_tells_11 lk_0 ?_
    refine vv_ldc2 12 dX12_tells_12 kl_12_614 ?_
    refine v1_callS [_, _, _] 15 dX12_tells_15 ck_X12_296 (c_X12_isIn (μ := μ114) hG114) (Nat.le_of_ble_eq_true rfl) ⟨Nat.le_of_ble_eq_true rfl, Nat.le_of_ble_eq_true rfl⟩ rfl (Nat.le_of_ble_eq_true rfl) ?_
    refine vv_if_ne 18 23 dX12_tells_18 (by decide) (fun c118 => ?_) (fun c118 => ?_)
    · rw [if_neg c118] at h
      refine vv_aload_n 23 0 dX12_tells_23 rfl rfl ?_
      refine vv_iload_n 24 1 dX12_tells_24 rfl rfl ?_
      obtain ⟨μ119, hr120, h⟩ := sh_bindv_e h
      refine v1_callV [_] 25 dX12_tells_25 ck_X12_611 (g_l_291 hG114) ⟨by decide, rfl⟩ (t_X12_laysWho hG114 hr120) (Nat.le_of_ble_eq_true rfl) ⟨Nat.le_of_ble_eq_true rfl, Nat.le_of_ble_eq_true rfl⟩ rfl (Nat.le_of_ble_eq_true rfl) ?_
      have hG119 := gp_X12_laysWho hG114 hr120
      refine vv_iconst 28 dX12_tells_28 ik_m1 ?_
      refine vv_istore_n (lv' := [(3, _), (0, _), (1, _), (2, _)]) 29 3 dX12_tells_29 rfl (by decide) rfl ?_
      refine vv_iconst 30 dX12_tells_30 ik_m1 ?_
      refine vv_istore (lv' := [(4, _), (3, _), (0, _), (1, _), (2, _)]) 31 4 dX12_tells_31 (by decide) rfl ?_
      refine vv_iconst 33 dX12_tells_33 ik_0 ?_
      refine vv_istore (lv' := [(5, _), (4, _), (3, _), (0, _), (1, _), (2, _)]) 34 5 dX12_tells_34 (by decide) rfl ?_
      refine vv_iconst 36 dX12_tells_36 ik_0 ?_
      refine vv_istore (lv' := [(6, _), (5, _), (4, _), (3, _), (0, _), (1, _), (2, _)]) 37 6 dX12_tells_37 (by decide) rfl ?_
      refine vv_sub [(0, _), (1, _), (2, _), (3, _), (4, _), (5, _), (6, _)] (sh_subm [4, 5, 6, 3, 2, 1, 0] rfl) ?_
      exact ih_39 hG119 h
    · rw [if_pos c118] at h
      refine vv_iconst 21 dX12_tells_21 ik_m1 ?_
      obtain ⟨e1, e2⟩ := sh_some2 h
      refine vv_iret 22 dX12_tells_22 rfl (Nat.le_refl _) (Nat.le_refl _) ⟨by rw [e1], e2⟩
noncomputable def f_X12_asks (a1 : Int32) (a2 : Int32) (μ : sh_Mem) : Option (Int32 × sh_Mem) := sh_bind (f_X12_isPerson a1 μ) (fun y3 μ1 => (if y3 = 0 then sh_bind (f_X12_refuses 2 μ1) (fun y7 μ5 => some (y7, μ5)) else sh_bind (f_X12_isTopic (a2).toInt64 μ1) (fun y10 μ8 => (if y10 = 0 then sh_bind (f_X12_refuses 2 μ8) (fun y20 μ18 => some (y20, μ18)) else sh_bindv (f_X12_stores μ8) (fun μ12 => sh_bind (f_X12_isAsked a1 a2 μ12) (fun y17 μ15 => some (y17, μ15)))))))
theorem gp_X12_asks {a1 : Int32} {a2 : Int32} {μ μ' : sh_Mem} {v : Int32} (hG : sh_G μ) (h : f_X12_asks a1 a2 μ = some (v, μ')) : sh_G μ' := by
  unfold f_X12_asks at h
  obtain ⟨y3, μ1, hr2, h⟩ := sh_bind_e h
  have hG1 := gp_X12_isPerson hG hr2
  by_cases c4 : y3 = 0
  · rw [if_pos c4] at h
    obtain ⟨y7, μ5, hr6, h⟩ := sh_bind_e h
    have hG5 := gp_X12_refuses hG1 hr6
    obtain ⟨e1, e2⟩ := sh_some2 h
    exact e2 ▸ hG5
  · rw [if_neg c4] at h
    obtain ⟨y10, μ8, hr9, h⟩ := sh_bind_e h
    have hG8 := gp_X12_isTopic hG1 hr9
    by_cases c11 : y10 = 0
    · rw [if_pos c11] at h
      obtain ⟨y20, μ18, hr19, h⟩ := sh_bind_e h
      have hG18 := gp_X12_refuses hG8 hr19
      obtain ⟨e1, e2⟩ := sh_some2 h
      exact e2 ▸ hG18
    · rw [if_neg c11] at h
      obtain ⟨μ12, hr13, h⟩ := sh_bindv_e h
      have hG12 := gp_X12_stores hG8 hr13
      obtain ⟨y17, μ15, hr16, h⟩ := sh_bind_e h
      have hG15 := gp_X12_isAsked hG12 hr16
      obtain ⟨e1, e2⟩ := sh_some2 h
      exact e2 ▸ hG15
theorem t_X12_asks {a1 : Int32} {a2 : Int32} {μ μ' : sh_Mem} {v : Int32} (hG : sh_G μ) (h : f_X12_asks a1 a2 μ = some (v, μ')) : sh_C0 l B D ca 7 M_X12_asks [.ref 291, .int a1, .int a2] μ (fun v0 μ0 => v0 = some (.int v) ∧ μ0 = μ') := by
  unfold f_X12_asks at h
  refine vv_aload_n 0 0 dX12_asks_0 rfl rfl ?_
  refine vv_iload_n 1 1 dX12_asks_1 rfl rfl ?_
  obtain ⟨y3, μ1, hr2, h⟩ := sh_bind_e h
  refine v1_callV [_] 2 dX12_asks_2 ck_X12_518 (g_l_291 hG) ⟨by decide, rfl⟩ (t_X12_isPerson hG hr2) (Nat.le_of_ble_eq_true rfl) ⟨Nat.le_of_ble_eq_true rfl, Nat.le_of_ble_eq_true rfl⟩ rfl (Nat.le_of_ble_eq_true rfl) ?_
  have hG1 := gp_X12_isPerson hG hr2
  refine vv_if_eq 5 17 dX12_asks_5 (by decide) (fun c4 => ?_) (fun c4 => ?_)
  · rw [if_pos c4] at h
    refine vv_aload_n 17 0 dX12_asks_17 rfl rfl ?_
    refine vv_iconst 18 dX12_asks_18 ik_2 ?_
    obtain ⟨y7, μ5, hr6, h⟩ := sh_bind_e h
    refine v1_callV [_] 19 dX12_asks_19 ck_X12_602 (g_l_291 hG1) ⟨by decide, rfl⟩ (t_X12_refuses hG1 hr6) (Nat.le_of_ble_eq_true rfl) ⟨Nat.le_of_ble_eq_true rfl, Nat.le_of_ble_eq_true rfl⟩ rfl (Nat.le_of_ble_eq_true rfl) ?_
    have hG5 := gp_X12_refuses hG1 hr6
    obtain ⟨e1, e2⟩ := sh_some2 h
    refine vv_iret 22 dX12_asks_22 rfl (Nat.le_refl _) (Nat.le_refl _) ⟨by rw [e1], e2⟩
  · rw [if_neg c4] at h
    refine vv_aload_n 8 0 dX12_asks_8 rfl rfl ?_
    refine vv_iload_n 9 2 dX12_asks_9 rfl rfl ?_
    refine vv_i2l 10 dX12_asks_10 ?_
    obtain ⟨y10, μ8, hr9, h⟩ := sh_bind_e h
    refine v1_callV [_] 11 dX12_asks_11 ck_X12_521 (g_l_291 hG1) ⟨by decide, rfl⟩ (t_X12_isTopic hG1 hr9) (Nat.le_of_ble_eq_true rfl) ⟨Nat.le_of_ble_eq_true rfl, Nat.le_of_ble_eq_true rfl⟩ rfl (Nat.le_of_ble_eq_true rfl) ?_
    have hG8 := gp_X12_isTopic hG1 hr9
    refine vv_if_ne 14 23 dX12_asks_14 (by decide) (fun c11 => ?_) (fun c11 => ?_)
    · rw [if_neg c11] at h
      refine vv_aload_n 23 0 dX12_asks_23 rfl rfl ?_
      obtain ⟨μ12, hr13, h⟩ := sh_bindv_e h
      refine v1_callV [] 24 dX12_asks_24 ck_X12_622 (g_l_291 hG8) ⟨by decide, rfl⟩ (t_X12_stores hG8 hr13) (Nat.le_of_ble_eq_true rfl) ⟨Nat.le_of_ble_eq_true rfl, Nat.le_of_ble_eq_true rfl⟩ rfl (Nat.le_of_ble_eq_true rfl) ?_
      have hG12 := gp_X12_stores hG8 hr13
      refine vv_aload_n 27 0 dX12_asks_27 rfl rfl ?_
      refine vv_iload_n 28 1 dX12_asks_28 rfl rfl ?_
      refine vv_iload_n 29 2 dX12_asks_29 rfl rfl ?_
      obtain ⟨y17, μ15, hr16, h⟩ := sh_bind_e h
      refine v1_callV [_, _] 30 dX12_asks_30 ck_X12_498 (g_l_291 hG12) ⟨by decide, rfl⟩ (t_X12_isAsked hG12 hr16) (Nat.le_of_ble_eq_true rfl) ⟨Nat.le_of_ble_eq_true rfl, Nat.le_of_ble_eq_true rfl⟩ rfl (Nat.le_of_ble_eq_true rfl) ?_
      have hG15 := gp_X12_isAsked hG12 hr16
      obtain ⟨e1, e2⟩ := sh_some2 h
      refine vv_iret 33 dX12_asks_33 rfl (Nat.le_refl _) (Nat.le_refl _) ⟨by rw [e1], e2⟩
    · rw [if_pos c11] at h
      refine vv_aload_n 17 0 dX12_asks_17 rfl rfl ?_
      refine vv_iconst 18 dX12_asks_18 ik_2 ?_
      obtain ⟨y20, μ18, hr19, h⟩ := sh_bind_e h
      refine v1_callV [_] 19 dX12_asks_19 ck_X12_602 (g_l_291 hG8) ⟨by decide, rfl⟩ (t_X12_refuses hG8 hr19) (Nat.le_of_ble_eq_true rfl) ⟨Nat.le_of_ble_eq_true rfl, Nat.le_of_ble_eq_true rfl⟩ rfl (Nat.le_of_ble_eq_true rfl) ?_
      have hG18 := gp_X12_refuses hG8 hr19
      obtain ⟨e1, e2⟩ := sh_some2 h
      refine vv_iret 22 dX12_asks_22 rfl (Nat.le_refl _) (Nat.le_refl _) ⟨by rw [e1], e2⟩
noncomputable def f_X12_days (a1 : Int32) (μ : sh_Mem) : Option (Int32 × sh_Mem) := sh_bind (f_X12_isAhead a1 1 100 μ) (fun y3 μ1 => (if y3 = 0 then sh_bind (f_X12_refuses 3 μ1) (fun y14 μ12 => some (y14, μ12)) else sh_bindv (f_X12_stores μ1) (fun μ5 => sh_let (sh_setI μ5 291 58 0) (fun μ8 => sh_bindv (f_X12_daysGo a1 μ8) (fun μ9 => some ((sh_i μ9 291 58), μ9))))))
theorem gp_X12_days {a1 : Int32} {μ μ' : sh_Mem} {v : Int32} (hG : sh_G μ) (h : f_X12_days a1 μ = some (v, μ')) : sh_G μ' := by
  unfold f_X12_days at h
  obtain ⟨y3, μ1, hr2, h⟩ := sh_bind_e h
  have hG1 := gp_X12_isAhead hG hr2
  by_cases c4 : y3 = 0
  · rw [if_pos c4] at h
    obtain ⟨y14, μ12, hr13, h⟩ := sh_bind_e h
    have hG12 := gp_X12_refuses hG1 hr13
    obtain ⟨e1, e2⟩ := sh_some2 h
    exact e2 ▸ hG12
  · rw [if_neg c4] at h
    obtain ⟨μ5, hr6, h⟩ := sh_bindv_e h
    have hG5 := gp_X12_stores hG1 hr6
    obtain ⟨μ8, eμ8⟩ : ∃ y : sh_Mem, y = (sh_setI μ5 291 58 0) := ⟨_, rfl⟩
    rw [sh_let_eq eμ8] at h
    have hG8 : sh_G μ8 := by rw [eμ8]; exact hG5
    obtain ⟨μ9, hr10, h⟩ := sh_bindv_e h
    have hG9 := gp_X12_daysGo hG8 hr10
    obtain ⟨e1, e2⟩ := sh_some2 h
    exact e2 ▸ hG9
theorem t_X12_days {a1 : Int32} {μ μ' : sh_Mem} {v : Int32} (hG : sh_G μ) (h : f_X12_days a1 μ = some (v, μ')) : sh_C0 l B D ca 9 M_X12_days [.ref 291, .int a1] μ (fun v0 μ0 => v0 = some (.int v) ∧ μ0 = μ') := by
  unfold f_X12_days at h
  refine vv_aload_n 0 0 dX12_days_0 rfl rfl ?_
  refine vv_iload_n 1 1 dX12_days_1 rfl rfl ?_
  refine vv_iconst 2 dX12_days_2 ik_1 ?_
  refine vv_bipush 3 dX12_days_3 bk_100 ?_
  obtain ⟨y3, μ1, hr2, h⟩ := sh_bind_e h
  refine v1_callV [_, _, _] 5 dX12_days_5 ck_X12_527 (g_l_291 hG) ⟨by decide, rfl⟩ (t_X12_isAhead hG hr2) (Nat.le_of_ble_eq_true rfl) ⟨Nat.le_of_ble_eq_true rfl, Nat.le_of_ble_eq_true rfl⟩ rfl (Nat.le_of_ble_eq_true rfl) ?_
  have hG1 := gp_X12_isAhead hG hr2
  refine vv_if_ne 8 17 dX12_days_8 (by decide) (fun c4 => ?_) (fun c4 => ?_)
  · rw [if_neg c4] at h
    refine vv_aload_n 17 0 dX12_days_17 rfl rfl ?_
    obtain ⟨μ5, hr6, h⟩ := sh_bindv_e h
    refine v1_callV [] 18 dX12_days_18 ck_X12_622 (g_l_291 hG1) ⟨by decide, rfl⟩ (t_X12_stores hG1 hr6) (Nat.le_of_ble_eq_true rfl) ⟨Nat.le_of_ble_eq_true rfl, Nat.le_of_ble_eq_true rfl⟩ rfl (Nat.le_of_ble_eq_true rfl) ?_
    have hG5 := gp_X12_stores hG1 hr6
    refine vv_aload_n 21 0 dX12_days_21 rfl rfl ?_
    refine vv_iconst 22 dX12_days_22 ik_0 ?_
    refine vn_putI 23 dX12_days_23 fl_12_489 (Or.inl rfl) rfl (g_l_291 hG5) (fun μ8 eμ8 => ?_)
    rw [sh_let_eq eμ8] at h
    have hG8 : sh_G μ8 := by rw [eμ8]; exact hG5
    refine vv_aload_n 26 0 dX12_days_26 rfl rfl ?_
    refine vv_iload_n 27 1 dX12_days_27 rfl rfl ?_
    obtain ⟨μ9, hr10, h⟩ := sh_bindv_e h
    refine v1_callV [_] 28 dX12_days_28 ck_X12_530 (g_l_291 hG8) ⟨by decide, rfl⟩ (t_X12_daysGo hG8 hr10) (Nat.le_of_ble_eq_true rfl) ⟨Nat.le_of_ble_eq_true rfl, Nat.le_of_ble_eq_true rfl⟩ rfl (Nat.le_of_ble_eq_true rfl) ?_
    have hG9 := gp_X12_daysGo hG8 hr10
    refine vv_aload_n 31 0 dX12_days_31 rfl rfl ?_
    refine vv_getI 32 dX12_days_32 fl_12_489 rfl (g_l_291 hG9) ?_
    obtain ⟨e1, e2⟩ := sh_some2 h
    refine vv_iret 35 dX12_days_35 rfl (Nat.le_refl _) (Nat.le_refl _) ⟨by rw [e1], e2⟩
  · rw [if_pos c4] at h
    refine vv_aload_n 11 0 dX12_days_11 rfl rfl ?_
    refine vv_iconst 12 dX12_days_12 ik_3 ?_
    obtain ⟨y14, μ12, hr13, h⟩ := sh_bind_e h
    refine v1_callV [_] 13 dX12_days_13 ck_X12_602 (g_l_291 hG1) ⟨by decide, rfl⟩ (t_X12_refuses hG1 hr13) (Nat.le_of_ble_eq_true rfl) ⟨Nat.le_of_ble_eq_true rfl, Nat.le_of_ble_eq_true rfl⟩ rfl (Nat.le_of_ble_eq_true rfl) ?_
    have hG12 := gp_X12_refuses hG1 hr13
    obtain ⟨e1, e2⟩ := sh_some2 h
    refine vv_iret 16 dX12_days_16 rfl (Nat.le_refl _) (Nat.le_refl _) ⟨by rw [e1], e2⟩
noncomputable def F_X12_chance : Nat → Nat → Int32 → Int32 → Int32 → sh_Mem → Option (Int32 × sh_Mem)
  | 0, _, _, _, _, _ => none
  | fuel + 1, lbl, i1, i2, i3, μ => match lbl with
    | 1 => (if i1 ≤ i3 then some (i2, μ) else sh_bind (f_X12_drawOf 100 μ) (fun y58 μ56 => (if (sh_i μ56 321 (Int32.toNatClampNeg 5)) ≤ y58 then sh_bindv (f_X12_dayGoes μ56) (fun μ60 => F_X12_chance fuel 1 i1 i2 (i3 + 1) μ60) else sh_bind (f_X12_personMany μ56) (fun y65 μ63 => (if y65 ≤ 0 then sh_bindv (f_X12_dayGoes μ63) (fun μ67 => F_X12_chance fuel 1 i1 i2 (i3 + 1) μ67) else sh_bind (f_X12_topicMany μ63) (fun y72 μ70 => (if y72 ≤ 0 then sh_bindv (f_X12_dayGoes μ70) (fun μ74 => F_X12_chance fuel 1 i1 i2 (i3 + 1) μ74) else sh_bind (f_X12_personMany μ70) (fun y79 μ77 => sh_bind (f_X12_drawOf y79 μ77) (fun y82 μ80 => sh_bind (f_X12_topicMany μ80) (fun y85 μ83 => sh_bind (f_X12_drawOf y85 μ83) (fun y88 μ86 => sh_bind (f_X12_isAsked y82 y88 μ86) (fun y91 μ89 => (if y91 = 2 then sh_bindv (f_X12_dayGoes μ89) (fun μ96 => F_X12_chance fuel 1 i1 (i2 + 1) (i3 + 1) μ96) else sh_bindv (f_X12_dayGoes μ89) (fun μ93 => F_X12_chance fuel 1 i1 i2 (i3 + 1) μ93))))))))))))))
    | _ => none
noncomputable def f_X12_chance (a1 : Int32) (μ : sh_Mem) : Option (Int32 × sh_Mem) := sh_bind (f_X12_isAhead a1 1 100 μ) (fun y101 μ99 => (if y101 = 0 then sh_bind (f_X12_refuses 3 μ99) (fun y108 μ106 => some (y108, μ106)) else sh_bindv (f_X12_stores μ99) (fun μ103 => F_X12_chance sh_fuel 1 a1 0 0 μ103)))
theorem gpl_X12_chance (fuel : Nat) : (∀ ⦃i1 : Int32⦄ ⦃i2 : Int32⦄ ⦃i3 : Int32⦄ ⦃μ μ' : sh_Mem⦄ ⦃v : Int32⦄, sh_G μ → F_X12_chance fuel 1 i1 i2 i3 μ = some (v, μ') → sh_G μ') := by
  induction fuel with
  | zero => intro i1 i2 i3 μ μ' v hG h; cases h
  | succ fuel ih =>
    have ih_25 := ih
    intro i1 i2 i3 μ μ' v hG h
    replace h : ((if i1 ≤ i3 then some (i2, μ) else sh_bind (f_X12_drawOf 100 μ) (fun y58 μ56 => (if (sh_i μ56 321 (Int32.toNatClampNeg 5)) ≤ y58 then sh_bindv (f_X12_dayGoes μ56) (fun μ60 => F_X12_chance fuel 1 i1 i2 (i3 + 1) μ60) else sh_bind (f_X12_personMany μ56) (fun y65 μ63 => (if y65 ≤ 0 then sh_bindv (f_X12_dayGoes μ63) (fun μ67 => F_X12_chance fuel 1 i1 i2 (i3 + 1) μ67) else sh_bind (f_X12_topicMany μ63) (fun y72 μ70 => (if y72 ≤ 0 then sh_bindv (f_X12_dayGoes μ70) (fun μ74 => F_X12_chance fuel 1 i1 i2 (i3 + 1) μ74) else sh_bind (f_X12_personMany μ70) (fun y79 μ77 => sh_bind (f_X12_drawOf y79 μ77) (fun y82 μ80 => sh_bind (f_X12_topicMany μ80) (fun y85 μ83 => sh_bind (f_X12_drawOf y85 μ83) (fun y88 μ86 => sh_bind (f_X12_isAsked y82 y88 μ86) (fun y91 μ89 => (if y91 = 2 then sh_bindv (f_X12_dayGoes μ89) (fun μ96 => F_X12_chance fuel 1 i1 (i2 + 1) (i3 + 1) μ96) else sh_bindv (f_X12_dayGoes μ89) (fun μ93 => F_X12_chance fuel 1 i1 i2 (i3 + 1) μ93)))))))))))))) : Option (Int32 × sh_Mem)) = some (v, μ') := h
    by_cases c55 : i1 ≤ i3
    · rw [if_pos c55] at h
      obtain ⟨e1, e2⟩ := sh_some2 h
      exact e2 ▸ hG
    · rw [if_neg c55] at h
      obtain ⟨y58, μ56, hr57, h⟩ := sh_bind_e h
      have hG56 := gp_X12_drawOf hG hr57
      by_cases c59 : (sh_i μ56 321 (Int32.toNatClampNeg 5)) ≤ y58
      · rw [if_pos c59] at h
        obtain ⟨μ60, hr61, h⟩ := sh_bindv_e h
        have hG60 := gp_X12_dayGoes hG56 hr61
        exact ih_25 hG60 h
      · rw [if_neg c59] at h
        obtain ⟨y65, μ63, hr64, h⟩ := sh_bind_e h
        have hG63 := gp_X12_personMany hG56 hr64
        by_cases c66 : y65 ≤ 0
        · rw [if_pos c66] at h
          obtain ⟨μ67, hr68, h⟩ := sh_bindv_e h
          have hG67 := gp_X12_dayGoes hG63 hr68
          exact ih_25 hG67 h
        · rw [if_neg c66] at h
          obtain ⟨y72, μ70, hr71, h⟩ := sh_bind_e h
          have hG70 := gp_X12_topicMany hG63 hr71
          by_cases c73 : y72 ≤ 0
          · rw [if_pos c73] at h
            obtain ⟨μ74, hr75, h⟩ := sh_bindv_e h
            have hG74 := gp_X12_dayGoes hG70 hr75
            exact ih_25 hG74 h
          · rw [if_neg c73] at h
            obtain ⟨y79, μ77, hr78, h⟩ := sh_bind_e h
            have hG77 := gp_X12_personMany hG70 hr78
            obtain ⟨y82, μ80, hr81, h⟩ := sh_bind_e h
            have hG80 := gp_X12_drawOf hG77 hr81
            obtain ⟨y85, μ83, hr84, h⟩ := sh_bind_e h
            have hG83 := gp_X12_topicMany hG80 hr84
            obtain ⟨y88, μ86, hr87, h⟩ := sh_bind_e h
            have hG86 := gp_X12_drawOf hG83 hr87
            obtain ⟨y91, μ89, hr90, h⟩ := sh_bind_e h
            have hG89 := gp_X12_isAsked hG86 hr90
            by_cases c92 : y91 = 2
            · rw [if_pos c92] at h
              obtain ⟨μ96, hr97, h⟩ := sh_bindv_e h
              have hG96 := gp_X12_dayGoes hG89 hr97
              exact ih_25 hG96 h
            · rw [if_neg c92] at h
              obtain ⟨μ93, hr94, h⟩ := sh_bindv_e h
              have hG93 := gp_X12_dayGoes hG89 hr94
              exact ih_25 hG93 h
theorem tl_X12_chance (fuel : Nat) : (∀ ⦃i1 : Int32⦄ ⦃i2 : Int32⦄ ⦃i3 : Int32⦄ ⦃μ μ' : sh_Mem⦄ ⦃v : Int32⦄, sh_G μ → F_X12_chance fuel 1 i1 i2 i3 μ = some (v, μ') → sh_V0 l B D ca 8 M_X12_chance 25 [(0, .ref 291), (1, .int i1), (2, .int i2), (3, .int i3)] [] μ (fun v0 μ0 => v0 = some (.int v) ∧ μ0 = μ')) := by
  induction fuel with
  | zero => intro i1 i2 i3 μ μ' v hG h; cases h
  | succ fuel ih =>
    have ih_25 := ih
    intro i1 i2 i3 μ μ' v hG h
    replace h : ((if i1 ≤ i3 then some (i2, μ) else sh_bind (f_X12_drawOf 100 μ) (fun y58 μ56 => (if (sh_i μ56 321 (Int32.toNatClampNeg 5)) ≤ y58 then sh_bindv (f_X12_dayGoes μ56) (fun μ60 => F_X12_chance fuel 1 i1 i2 (i3 + 1) μ60) else sh_bind (f_X12_personMany μ56) (fun y65 μ63 => (if y65 ≤ 0 then sh_bindv (f_X12_dayGoes μ63) (fun μ67 => F_X12_chance fuel 1 i1 i2 (i3 + 1) μ67) else sh_bind (f_X12_topicMany μ63) (fun y72 μ70 => (if y72 ≤ 0 then sh_bindv (f_X12_dayGoes μ70) (fun μ74 => F_X12_chance fuel 1 i1 i2 (i3 + 1) μ74) else sh_bind (f_X12_personMany μ70) (fun y79 μ77 => sh_bind (f_X12_drawOf y79 μ77) (fun y82 μ80 => sh_bind (f_X12_topicMany μ80) (fun y85 μ83 => sh_bind (f_X12_drawOf y85 μ83) (fun y88 μ86 => sh_bind (f_X12_isAsked y82 y88 μ86) (fun y91 μ89 => (if y91 = 2 then sh_bindv (f_X12_dayGoes μ89) (fun μ96 => F_X12_chance fuel 1 i1 (i2 + 1) (i3 + 1) μ96) else sh_bindv (f_X12_dayGoes μ89) (fun μ93 => F_X12_chance fuel 1 i1 i2 (i3 + 1) μ93)))))))))))))) : Option (Int32 × sh_Mem)) = some (v, μ') := h
    refine vv_iload_n 25 3 dX12_chance_25 rfl rfl ?_
    refine vv_iload_n 26 1 dX12_chance_26 rfl rfl ?_
    refine vv_icmp_ge 27 100 dX12_chance_27 (by decide) (fun c55 => ?_) (fun c55 => ?_)
    · rw [if_pos c55] at h
      refine vv_iload_n 100 2 dX12_chance_100 rfl rfl ?_
      obtain ⟨e1, e2⟩ := sh_some2 h
      refine vv_iret 101 dX12_chance_101 rfl (Nat.le_refl _) (Nat.le_refl _) ⟨by rw [e1], e2⟩
    · rw [if_neg c55] at h
      refine vv_aload_n 30 0 dX12_chance_30 rfl rfl ?_
      refine vv_bipush 31 dX12_chance_31 bk_100 ?_
      obtain ⟨y58, μ56, hr57, h⟩ := sh_bind_e h
      refine v1_callV [_] 33 dX12_chance_33 ck_X12_639 (g_l_291 hG) ⟨by decide, rfl⟩ (t_X12_drawOf hG hr57) (Nat.le_of_ble_eq_true rfl) ⟨Nat.le_of_ble_eq_true rfl, Nat.le_of_ble_eq_true rfl⟩ rfl (Nat.le_of_ble_eq_true rfl) ?_
      have hG56 := gp_X12_drawOf hG hr57
      refine vv_aload_n 36 0 dX12_chance_36 rfl rfl ?_
      refine vv_getR 37 dX12_chance_37 fl_12_102 rfl (g_l_291 hG56) (g_r_291_39 hG56) ?_
      refine vv_iconst 40 dX12_chance_40 ik_5 ?_
      refine vv_iald 41 dX12_chance_41 (g_l_321 hG56) (by unfold vp_in; decide) ?_
      refine vv_icmp_ge 42 90 dX12_chance_42 (by decide) (fun c59 => ?_) (fun c59 => ?_)
      · rw [if_pos c59] at h
        refine vv_aload_n 90 0 dX12_chance_90 rfl rfl ?_
        obtain ⟨μ60, hr61, h⟩ := sh_bindv_e h
        refine v1_callV [] 91 dX12_chance_91 ck_X12_501 (g_l_291 hG56) ⟨by decide, rfl⟩ (t_X12_dayGoes hG56 hr61) (Nat.le_of_ble_eq_true rfl) ⟨Nat.le_of_ble_eq_true rfl, Nat.le_of_ble_eq_true rfl⟩ rfl (Nat.le_of_ble_eq_true rfl) ?_
        have hG60 := gp_X12_dayGoes hG56 hr61
        refine vv_iincc (lv' := [(3, _), (0, _), (1, _), (2, _)]) 94 3 dX12_chance_94 rfl ik_1 (by decide) rfl ?_
        refine vv_goto 97 25 dX12_chance_97 (by decide) ?_
        refine vv_sub [(0, _), (1, _), (2, _), (3, _)] (sh_subm [1, 2, 3, 0] rfl) ?_
        exact ih_25 hG60 h
      · rw [if_neg c59] at h
        refine vv_aload_n 45 0 dX12_chance_45 rfl rfl ?_
        obtain ⟨y65, μ63, hr64, h⟩ := sh_bind_e h
        refine v1_callV [] 46 dX12_chance_46 ck_X12_411 (g_l_291 hG56) ⟨by decide, rfl⟩ (t_X12_personMany hG56 hr64) (Nat.le_of_ble_eq_true rfl) ⟨Nat.le_of_ble_eq_true rfl, Nat.le_of_ble_eq_true rfl⟩ rfl (Nat.le_of_ble_eq_true rfl) ?_
        have hG63 := gp_X12_personMany hG56 hr64
        refine vv_if_le 49 90 dX12_chance_49 (by decide) (fun c66 => ?_) (fun c66 => ?_)
        · rw [if_pos c66] at h
          refine vv_aload_n 90 0 dX12_chance_90 rfl rfl ?_
          obtain ⟨μ67, hr68, h⟩ := sh_bindv_e h
          refine v1_callV [] 91 dX12_chance_91 ck_X12_501 (g_l_291 hG63) ⟨by decide, rfl⟩ (t_X12_dayGoes hG63 hr68) (Nat.le_of_ble_eq_true rfl) ⟨Nat.le_of_ble_eq_true rfl, Nat.le_of_ble_eq_true rfl⟩ rfl (Nat.le_of_ble_eq_true rfl) ?_
          have hG67 := gp_X12_dayGoes hG63 hr68
          refine vv_iincc (lv' := [(3, _), (0, _), (1, _), (2, _)]) 94 3 dX12_chance_94 rfl ik_1 (by decide) rfl ?_
          refine vv_goto 97 25 dX12_chance_97 (by decide) ?_
          refine vv_sub [(0, _), (1, _), (2, _), (3, _)] (sh_subm [1, 2, 3, 0] rfl) ?_
          exact ih_25 hG67 h
        · rw [if_neg c66] at h
          refine vv_aload_n 52 0 dX12_chance_52 rfl rfl ?_
          obtain ⟨y72, μ70, hr71, h⟩ := sh_bind_e h
          refine v1_callV [] 53 dX12_chance_53 ck_X12_408 (g_l_291 hG63) ⟨by decide, rfl⟩ (t_X12_topicMany hG63 hr71) (Nat.le_of_ble_eq_true rfl) ⟨Nat.le_of_ble_eq_true rfl, Nat.le_of_ble_eq_true rfl⟩ rfl (Nat.le_of_ble_eq_true rfl) ?_
          have hG70 := gp_X12_topicMany hG63 hr71
          refine vv_if_le 56 90 dX12_chance_56 (by decide) (fun c73 => ?_) (fun c73 => ?_)
          · rw [if_pos c73] at h
            refine vv_aload_n 90 0 dX12_chance_90 rfl rfl ?_
            obtain ⟨μ74, hr75, h⟩ := sh_bindv_e h
            refine v1_callV [] 91 dX12_chance_91 ck_X12_501 (g_l_291 hG70) ⟨by decide, rfl⟩ (t_X12_dayGoes hG70 hr75) (Nat.le_of_ble_eq_true rfl) ⟨Nat.le_of_ble_eq_true rfl, Nat.le_of_ble_eq_true rfl⟩ rfl (Nat.le_of_ble_eq_true rfl) ?_
            have hG74 := gp_X12_dayGoes hG70 hr75
            refine vv_iincc (lv' := [(3, _), (0, _), (1, _), (2, _)]) 94 3 dX12_chance_94 rfl ik_1 (by decide) rfl ?_
            refine vv_goto 97 25 dX12_chance_97 (by decide) ?_
            refine vv_sub [(0, _), (1, _), (2, _), (3, _)] (sh_subm [1, 2, 3, 0] rfl) ?_
            exact ih_25 hG74 h
          · rw [if_neg c73] at h
            refine vv_aload_n 59 0 dX12_chance_59 rfl rfl ?_
            refine vv_aload_n 60 0 dX12_chance_60 rfl rfl ?_
            obtain ⟨y79, μ77, hr78, h⟩ := sh_bind_e h
            refine v1_callV [] 61 dX12_chance_61 ck_X12_411 (g_l_291 hG70) ⟨by decide, rfl⟩ (t_X12_personMany hG70 hr78) (Nat.le_of_ble_eq_true rfl) ⟨Nat.le_of_ble_eq_true rfl, Nat.le_of_ble_eq_true rfl⟩ rfl (Nat.le_of_ble_eq_true rfl) ?_
            have hG77 := gp_X12_personMany hG70 hr78
            obtain ⟨y82, μ80, hr81, h⟩ := sh_bind_e h
            refine v1_callV [_] 64 dX12_chance_64 ck_X12_639 (g_l_291 hG77) ⟨by decide, rfl⟩ (t_X12_drawOf hG77 hr81) (Nat.le_of_ble_eq_true rfl) ⟨Nat.le_of_ble_eq_true rfl, Nat.le_of_ble_eq_true rfl⟩ rfl (Nat.le_of_ble_eq_true rfl) ?_
            have hG80 := gp_X12_drawOf hG77 hr81
            refine vv_istore (lv' := [(4, _), (0, _), (1, _), (2, _), (3, _)]) 67 4 dX12_chance_67 (by decide) rfl ?_
            refine vv_aload_n 69 0 dX12_chance_69 rfl rfl ?_
            refine vv_iload 70 4 dX12_chance_70 rfl ?_
            refine vv_aload_n 72 0 dX12_chance_72 rfl rfl ?_
            refine vv_aload_n 73 0 dX12_chance_73 rfl rfl ?_
            obtain ⟨y85, μ83, hr84, h⟩ := sh_bind_e h
            refine v1_callV [] 74 dX12_chance_74 ck_X12_408 (g_l_291 hG80) ⟨by decide, rfl⟩ (t_X12_topicMany hG80 hr84) (Nat.le_of_ble_eq_true rfl) ⟨Nat.le_of_ble_eq_true rfl, Nat.le_of_ble_eq_true rfl⟩ rfl (Nat.le_of_ble_eq_true rfl) ?_
            have hG83 := gp_X12_topicMany hG80 hr84
            obtain ⟨y88, μ86, hr87, h⟩ := sh_bind_e h
            refine v1_callV [_] 77 dX12_chance_77 ck_X12_639 (g_l_291 hG83) ⟨by decide, rfl⟩ (t_X12_drawOf hG83 hr87) (Nat.le_of_ble_eq_true rfl) ⟨Nat.le_of_ble_eq_true rfl, Nat.le_of_ble_eq_true rfl⟩ rfl (Nat.le_of_ble_eq_true rfl) ?_
            have hG86 := gp_X12_drawOf hG83 hr87
            obtain ⟨y91, μ89, hr90, h⟩ := sh_bind_e h
            refine v1_callV [_, _] 80 dX12_chance_80 ck_X12_498 (g_l_291 hG86) ⟨by decide, rfl⟩ (t_X12_isAsked hG86 hr90) (Nat.le_of_ble_eq_true rfl) ⟨Nat.le_of_ble_eq_true rfl, Nat.le_of_ble_eq_true rfl⟩ rfl (Nat.le_of_ble_eq_true rfl) ?_
            have hG89 := gp_X12_isAsked hG86 hr90
            refine vv_iconst 83 dX12_chance_83 ik_2 ?_
            refine vv_icmp_ne 84 90 dX12_chance_84 (by decide) (fun c92 => ?_) (fun c92 => ?_)
            · rw [if_neg c92] at h
              refine vv_aload_n 90 0 dX12_chance_90 rfl rfl ?_
              obtain ⟨μ93, hr94, h⟩ := sh_bindv_e h
              refine v1_callV [] 91 dX12_chance_91 ck_X12_501 (g_l_291 hG89) ⟨by decide, rfl⟩ (t_X12_dayGoes hG89 hr94) (Nat.le_of_ble_eq_true rfl) ⟨Nat.le_of_ble_eq_true rfl, Nat.le_of_ble_eq_true rfl⟩ rfl (Nat.le_of_ble_eq_true rfl) ?_
              have hG93 := gp_X12_dayGoes hG89 hr94
              refine vv_iincc (lv' := [(3, _), (4, _), (0, _), (1, _), (2, _)]) 94 3 dX12_chance_94 rfl ik_1 (by decide) rfl ?_
              refine vv_goto 97 25 dX12_chance_97 (by decide) ?_
              refine vv_sub [(0, _), (1, _), (2, _), (3, _)] (sh_subm [2, 3, 4, 0] rfl) ?_
              exact ih_25 hG93 h
            · rw [if_pos c92] at h
              refine vv_iincc (lv' := [(2, _), (4, _), (0, _), (1, _), (3, _)]) 87 2 dX12_chance_87 rfl ik_1 (by decide) rfl ?_
              refine vv_aload_n 90 0 dX12_chance_90 rfl rfl ?_
              obtain ⟨μ96, hr97, h⟩ := sh_bindv_e h
              refine v1_callV [] 91 dX12_chance_91 ck_X12_501 (g_l_291 hG89) ⟨by decide, rfl⟩ (t_X12_dayGoes hG89 hr97) (Nat.le_of_ble_eq_true rfl) ⟨Nat.le_of_ble_eq_true rfl, Nat.le_of_ble_eq_true rfl⟩ rfl (Nat.le_of_ble_eq_true rfl) ?_
              have hG96 := gp_X12_dayGoes hG89 hr97
              refine vv_iincc (lv' := [(3, _), (2, _), (4, _), (0, _), (1, _)]) 94 3 dX12_chance_94 rfl ik_1 (by decide) rfl ?_
              refine vv_goto 97 25 dX12_chance_97 (by decide) ?_
              refine vv_sub [(0, _), (1, _), (2, _), (3, _)] (sh_subm [3, 4, 1, 0] rfl) ?_
              exact ih_25 hG96 h
theorem gp_X12_chance {a1 : Int32} {μ μ' : sh_Mem} {v : Int32} (hG : sh_G μ) (h : f_X12_chance a1 μ = some (v, μ')) : sh_G μ' := by
  have ih_25 := (gpl_X12_chance sh_fuel)
  unfold f_X12_chance at h
  obtain ⟨y101, μ99, hr100, h⟩ := sh_bind_e h
  have hG99 := gp_X12_isAhead hG hr100
  by_cases c102 : y101 = 0
  · rw [if_pos c102] at h
    obtain ⟨y108, μ106, hr107, h⟩ := sh_bind_e h
    have hG106 := gp_X12_refuses hG99 hr107
    obtain ⟨e1, e2⟩ := sh_some2 h
    exact e2 ▸ hG106
  · rw [if_neg c102] at h
    obtain ⟨μ103, hr104, h⟩ := sh_bindv_e h
    have hG103 := gp_X12_stores hG99 hr104
    exact ih_25 hG103 h
theorem t_X12_chance {a1 : Int32} {μ μ' : sh_Mem} {v : Int32} (hG : sh_G μ) (h : f_X12_chance a1 μ = some (v, μ')) : sh_C0 l B D ca 8 M_X12_chance [.ref 291, .int a1] μ (fun v0 μ0 => v0 = some (.int v) ∧ μ0 = μ') := by
  have ih_25 := (tl_X12_chance (l := l) (B := B) (D := D) (ca := ca) sh_fuel)
  unfold f_X12_chance at h
  refine vv_aload_n 0 0 dX12_chance_0 rfl rfl ?_
  refine vv_iload_n 1 1 dX12_chance_1 rfl rfl ?_
  refine vv_iconst 2 dX12_chance_2 ik_1 ?_
  refine vv_bipush 3 dX12_chance_3 bk_100 ?_
  obtain ⟨y101, μ99, hr100, h⟩ := sh_bind_e h
  refine v1_callV [_, _, _] 5 dX12_chance_5 ck_X12_527 (g_l_291 hG) ⟨by decide, rfl⟩ (t_X12_isAhead hG hr100) (Nat.le_of_ble_eq_true rfl) ⟨Nat.le_of_ble_eq_true rfl, Nat.le_of_ble_eq_true rfl⟩ rfl (Nat.le_of_ble_eq_true rfl) ?_
  have hG99 := gp_X12_isAhead hG hr100
  refine vv_if_ne 8 17 dX12_chance_8 (by decide) (fun c102 => ?_) (fun c102 => ?_)
  · rw [if_neg c102] at h
    refine vv_aload_n 17 0 dX12_chance_17 rfl rfl ?_
    obtain ⟨μ103, hr104, h⟩ := sh_bindv_e h
    refine v1_callV [] 18 dX12_chance_18 ck_X12_622 (g_l_291 hG99) ⟨by decide, rfl⟩ (t_X12_stores hG99 hr104) (Nat.le_of_ble_eq_true rfl) ⟨Nat.le_of_ble_eq_true rfl, Nat.le_of_ble_eq_true rfl⟩ rfl (Nat.le_of_ble_eq_true rfl) ?_
    have hG103 := gp_X12_stores hG99 hr104
    refine vv_iconst 21 dX12_chance_21 ik_0 ?_
    refine vv_istore_n (lv' := [(2, _), (0, _), (1, _)]) 22 2 dX12_chance_22 rfl (by decide) rfl ?_
    refine vv_iconst 23 dX12_chance_23 ik_0 ?_
    refine vv_istore_n (lv' := [(3, _), (2, _), (0, _), (1, _)]) 24 3 dX12_chance_24 rfl (by decide) rfl ?_
    refine vv_sub [(0, _), (1, _), (2, _), (3, _)] (sh_subm [2, 3, 1, 0] rfl) ?_
    exact ih_25 hG103 h
  · rw [if_pos c102] at h
    refine vv_aload_n 11 0 dX12_chance_11 rfl rfl ?_
    refine vv_iconst 12 dX12_chance_12 ik_3 ?_
    obtain ⟨y108, μ106, hr107, h⟩ := sh_bind_e h
    refine v1_callV [_] 13 dX12_chance_13 ck_X12_602 (g_l_291 hG99) ⟨by decide, rfl⟩ (t_X12_refuses hG99 hr107) (Nat.le_of_ble_eq_true rfl) ⟨Nat.le_of_ble_eq_true rfl, Nat.le_of_ble_eq_true rfl⟩ rfl (Nat.le_of_ble_eq_true rfl) ?_
    have hG106 := gp_X12_refuses hG99 hr107
    obtain ⟨e1, e2⟩ := sh_some2 h
    refine vv_iret 16 dX12_chance_16 rfl (Nat.le_refl _) (Nat.le_refl _) ⟨by rw [e1], e2⟩
noncomputable def F_X12_qTest : Nat → Nat → Int32 → sh_Mem → Option sh_Mem
  | 0, _, _, _ => none
  | fuel + 1, lbl, i1, μ => match lbl with
    | 1 => (if i1 = 0 then F_X12_qTest fuel 2 i1 μ else (if (sh_i μ 291 5) = 0 then sh_bind (f_X12_look μ) (fun y77 μ75 => (if y77 = 91 then sh_bindv (f_X12_qOpens 25 (sh_i μ75 291 2) μ75) (fun μ100 => sh_let (sh_setI μ100 291 2 ((sh_i μ100 291 2) + 1)) (fun μ103 => F_X12_qTest fuel 1 i1 μ103)) else sh_bind (f_X12_isHere 347 3 μ75) (fun y81 μ79 => (if y81 = 0 then sh_bindv (f_X12_qFact μ79) (fun μ83 => sh_bindv (f_X12_qDropsNots μ83) (fun μ86 => (if (sh_i μ86 291 5) = 0 then sh_bind (f_X12_qGoesOnTest μ86) (fun y92 μ90 => (if y92 = 0 then F_X12_qTest fuel 1 0 μ90 else F_X12_qTest fuel 1 1 μ90)) else F_X12_qTest fuel 1 0 μ86))) else sh_bindv (f_X12_qOpens 12 (sh_i μ79 291 2) μ79) (fun μ94 => sh_bindv (f_X12_needs 347 3 μ94) (fun μ97 => F_X12_qTest fuel 1 i1 μ97)))))) else F_X12_qTest fuel 2 i1 μ))
    | 2 => (if (sh_i μ 291 5) = 0 then (if (sh_i μ 291 105) ≤ 0 then some μ else sh_bindv (f_X12_qDrops μ) (fun μ106 => F_X12_qTest fuel 2 i1 μ106)) else some μ)
    | _ => none
noncomputable def f_X12_qTest (μ : sh_Mem) : Option sh_Mem := F_X12_qTest sh_fuel 1 1 μ
theorem gpl_X12_qTest (fuel : Nat) : (∀ ⦃i1 : Int32⦄ ⦃μ μ' : sh_Mem⦄, sh_G μ → F_X12_qTest fuel 1 i1 μ = some μ' → sh_G μ') ∧ (∀ ⦃i1 : Int32⦄ ⦃μ μ' : sh_Mem⦄, sh_G μ → F_X12_qTest fuel 2 i1 μ = some μ' → sh_G μ') := by
  induction fuel with
  | zero => exact ⟨(by intro i1 μ μ' hG h; cases h), (by intro i1 μ μ' hG h; cases h)⟩
  | succ fuel ih =>
    obtain ⟨ih_2, ih_110⟩ := ih
    refine ⟨?_, ?_⟩
    · intro i1 μ μ' hG h
      replace h : ((if i1 = 0 then F_X12_qTest fuel 2 i1 μ else (if (sh_i μ 291 5) = 0 then sh_bind (f_X12_look μ) (fun y77 μ75 => (if y77 = 91 then sh_bindv (f_X12_qOpens 25 (sh_i μ75 291 2) μ75) (fun μ100 => sh_let (sh_setI μ100 291 2 ((sh_i μ100 291 2) + 1)) (fun μ103 => F_X12_qTest fuel 1 i1 μ103)) else sh_bind (f_X12_isHere 347 3 μ75) (fun y81 μ79 => (if y81 = 0 then sh_bindv (f_X12_qFact μ79) (fun μ83 => sh_bindv (f_X12_qDropsNots μ83) (fun μ86 => (if (sh_i μ86 291 5) = 0 then sh_bind (f_X12_qGoesOnTest μ86) (fun y92 μ90 => (if y92 = 0 then F_X12_qTest fuel 1 0 μ90 else F_X12_qTest fuel 1 1 μ90)) else F_X12_qTest fuel 1 0 μ86))) else sh_bindv (f_X12_qOpens 12 (sh_i μ79 291 2) μ79) (fun μ94 => sh_bindv (f_X12_needs 347 3 μ94) (fun μ97 => F_X12_qTest fuel 1 i1 μ97)))))) else F_X12_qTest fuel 2 i1 μ)) : Option sh_Mem) = some μ' := h
      by_cases c73 : i1 = 0
      · rw [if_pos c73] at h
        exact ih_110 hG h
      · rw [if_neg c73] at h
        by_cases c74 : (sh_i μ 291 5) = 0
        · rw [if_pos c74] at h
          obtain ⟨y77, μ75, hr76, h⟩ := sh_bind_e h
          have hG75 := gp_X12_look hG hr76
          by_cases c78 : y77 = 91
          · rw [if_pos c78] at h
            obtain ⟨μ100, hr101, h⟩ := sh_bindv_e h
            have hG100 := gp_X12_qOpens hG75 hr101
            obtain ⟨μ103, eμ103⟩ : ∃ y : sh_Mem, y = (sh_setI μ100 291 2 ((sh_i μ100 291 2) + 1)) := ⟨_, rfl⟩
            rw [sh_let_eq eμ103] at h
            have hG103 : sh_G μ103 := by rw [eμ103]; exact hG100
            exact ih_2 hG103 h
          · rw [if_neg c78] at h
            obtain ⟨y81, μ79, hr80, h⟩ := sh_bind_e h
            have hG79 := gp_X12_isHere hG75 (sh_LAYat_347) hr80
            by_cases c82 : y81 = 0
            · rw [if_pos c82] at h
              obtain ⟨μ83, hr84, h⟩ := sh_bindv_e h
              have hG83 := gp_X12_qFact hG79 hr84
              obtain ⟨μ86, hr87, h⟩ := sh_bindv_e h
              have hG86 := gp_X12_qDropsNots hG83 hr87
              by_cases c89 : (sh_i μ86 291 5) = 0
              · rw [if_pos c89] at h
                obtain ⟨y92, μ90, hr91, h⟩ := sh_bind_e h
                have hG90 := gp_X12_qGoesOnTest hG86 hr91
                by_cases c93 : y92 = 0
                · rw [if_pos c93] at h
                  exact ih_2 hG90 h
                · rw [if_neg c93] at h
                  exact ih_2 hG90 h
              · rw [if_neg c89] at h
                exact ih_2 hG86 h
            · rw [if_neg c82] at h
              obtain ⟨μ94, hr95, h⟩ := sh_bindv_e h
              have hG94 := gp_X12_qOpens hG79 hr95
              obtain ⟨μ97, hr98, h⟩ := sh_bindv_e h
              have hG97 := gp_X12_needs hG94 (sh_LAYat_347) hr98
              exact ih_2 hG97 h
        · rw [if_neg c74] at h
          exact ih_110 hG h
    · intro i1 μ μ' hG h
      replace h : ((if (sh_i μ 291 5) = 0 then (if (sh_i μ 291 105) ≤ 0 then some μ else sh_bindv (f_X12_qDrops μ) (fun μ106 => F_X12_qTest fuel 2 i1 μ106)) else some μ) : Option sh_Mem) = some μ' := h
      by_cases c104 : (sh_i μ 291 5) = 0
      · rw [if_pos c104] at h
        by_cases c105 : (sh_i μ 291 105) ≤ 0
        · rw [if_pos c105] at h
          have e2 := Option.some.inj h
          exact e2 ▸ hG
        · rw [if_neg c105] at h
          obtain ⟨μ106, hr107, h⟩ := sh_bindv_e h
          have hG106 := gp_X12_qDrops hG hr107
          exact ih_110 hG106 h
      · rw [if_neg c104] at h
        have e2 := Option.some.inj h
        exact e2 ▸ hG
theorem tl_X12_qTest (fuel : Nat) : (∀ ⦃i1 : Int32⦄ ⦃μ μ' : sh_Mem⦄, sh_G μ → F_X12_qTest fuel 1 i1 μ = some μ' → sh_V0 l B D ca 9 M_X12_qTest 2 [(0, .ref 291), (1, .int i1)] [] μ (fun v0 μ0 => v0 = none ∧ μ0 = μ')) ∧ (∀ ⦃i1 : Int32⦄ ⦃μ μ' : sh_Mem⦄, sh_G μ → F_X12_qTest fuel 2 i1 μ = some μ' → sh_V0 l B D ca 9 M_X12_qTest 110 [(0, .ref 291), (1, .int i1)] [] μ (fun v0 μ0 => v0 = none ∧ μ0 = μ')) := by
  induction fuel with
  | zero => exact ⟨(by intro i1 μ μ' hG h; cases h), (by intro i1 μ μ' hG h; cases h)⟩
  | succ fuel ih =>
    obtain ⟨ih_2, ih_110⟩ := ih
    refine ⟨?_, ?_⟩
    · intro i1 μ μ' hG h
      replace h : ((if i1 = 0 then F_X12_qTest fuel 2 i1 μ else (if (sh_i μ 291 5) = 0 then sh_bind (f_X12_look μ) (fun y77 μ75 => (if y77 = 91 then sh_bindv (f_X12_qOpens 25 (sh_i μ75 291 2) μ75) (fun μ100 => sh_let (sh_setI μ100 291 2 ((sh_i μ100 291 2) + 1)) (fun μ103 => F_X12_qTest fuel 1 i1 μ103)) else sh_bind (f_X12_isHere 347 3 μ75) (fun y81 μ79 => (if y81 = 0 then sh_bindv (f_X12_qFact μ79) (fun μ83 => sh_bindv (f_X12_qDropsNots μ83) (fun μ86 => (if (sh_i μ86 291 5) = 0 then sh_bind (f_X12_qGoesOnTest μ86) (fun y92 μ90 => (if y92 = 0 then F_X12_qTest fuel 1 0 μ90 else F_X12_qTest fuel 1 1 μ90)) else F_X12_qTest fuel 1 0 μ86))) else sh_bindv (f_X12_qOpens 12 (sh_i μ79 291 2) μ79) (fun μ94 => sh_bindv (f_X12_needs 347 3 μ94) (fun μ97 => F_X12_qTest fuel 1 i1 μ97)))))) else F_X12_qTest fuel 2 i1 μ)) : Option sh_Mem) = some μ' := h
      refine vv_iload_n 2 1 dX12_qTest_2 rfl rfl ?_
      refine vv_if_eq 3 110 dX12_qTest_3 (by decide) (fun c73 => ?_) (fun c73 => ?_)
      · rw [if_pos c73] at h
        refine vv_sub [(0, _), (1, _)] (sh_subm [0, 1] rfl) ?_
        exact ih_110 hG h
      · rw [if_neg c73] at h
        refine vv_aload_n 6 0 dX12_qTest_6 rfl rfl ?_
        refine vv_getI 7 dX12_qTest_7 fl_12_253 rfl (g_l_291 hG) ?_
        refine vv_if_ne 10 110 dX12_qTest_10 (by decide) (fun c74 => ?_) (fun c74 => ?_)
        · rw [if_neg c74] at h
          refine vv_sub [(0, _), (1, _)] (sh_subm [0, 1] rfl) ?_
          exact ih_110 hG h
        · rw [if_pos c74] at h
          refine vv_aload_n 13 0 dX12_qTest_13 rfl rfl ?_
          obtain ⟨y77, μ75, hr76, h⟩ := sh_bind_e h
          refine v1_callV [] 14 dX12_qTest_14 ck_X12_265 (g_l_291 hG) ⟨by decide, rfl⟩ (t_X12_look hG hr76) (Nat.le_of_ble_eq_true rfl) ⟨Nat.le_of_ble_eq_true rfl, Nat.le_of_ble_eq_true rfl⟩ rfl (Nat.le_of_ble_eq_true rfl) ?_
          have hG75 := gp_X12_look hG hr76
          refine vv_istore_n (lv' := [(2, _), (0, _), (1, _)]) 17 2 dX12_qTest_17 rfl (by decide) rfl ?_
          refine vv_iload_n 18 2 dX12_qTest_18 rfl rfl ?_
          refine vv_bipush 19 dX12_qTest_19 bk_91 ?_
          refine vv_icmp_ne 21 47 dX12_qTest_21 (by decide) (fun c78 => ?_) (fun c78 => ?_)
          · rw [if_neg c78] at h
            refine vv_aload_n 47 0 dX12_qTest_47 rfl rfl ?_
            refine vv_aload_n 48 0 dX12_qTest_48 rfl rfl ?_
            refine vv_getR 49 dX12_qTest_49 fl_12_185 rfl (g_l_291 hG75) (g_r_291_85 hG75) ?_
            obtain ⟨y81, μ79, hr80, h⟩ := sh_bind_e h
            refine v1_callV [_] 52 dX12_qTest_52 ck_X12_276 (g_l_291 hG75) ⟨by decide, rfl⟩ (t_X12_isHere hG75 (sh_LAYat_347) hr80) (Nat.le_of_ble_eq_true rfl) ⟨Nat.le_of_ble_eq_true rfl, Nat.le_of_ble_eq_true rfl⟩ rfl (Nat.le_of_ble_eq_true rfl) ?_
            have hG79 := gp_X12_isHere hG75 (sh_LAYat_347) hr80
            refine vv_if_eq 55 79 dX12_qTest_55 (by decide) (fun c82 => ?_) (fun c82 => ?_)
            · rw [if_pos c82] at h
              refine vv_aload_n 79 0 dX12_qTest_79 rfl rfl ?_
              obtain ⟨μ83, hr84, h⟩ := sh_bindv_e h
              refine v1_callV [] 80 dX12_qTest_80 ck_X12_684 (g_l_291 hG79) ⟨by decide, rfl⟩ (t_X12_qFact hG79 hr84) (Nat.le_of_ble_eq_true rfl) ⟨Nat.le_of_ble_eq_true rfl, Nat.le_of_ble_eq_true rfl⟩ rfl (Nat.le_of_ble_eq_true rfl) ?_
              have hG83 := gp_X12_qFact hG79 hr84
              refine vv_aload_n 83 0 dX12_qTest_83 rfl rfl ?_
              obtain ⟨μ86, hr87, h⟩ := sh_bindv_e h
              refine v1_callV [] 84 dX12_qTest_84 ck_X12_687 (g_l_291 hG83) ⟨by decide, rfl⟩ (t_X12_qDropsNots hG83 hr87) (Nat.le_of_ble_eq_true rfl) ⟨Nat.le_of_ble_eq_true rfl, Nat.le_of_ble_eq_true rfl⟩ rfl (Nat.le_of_ble_eq_true rfl) ?_
              have hG86 := gp_X12_qDropsNots hG83 hr87
              refine vv_aload_n 87 0 dX12_qTest_87 rfl rfl ?_
              refine vv_getI 88 dX12_qTest_88 fl_12_253 rfl (g_l_291 hG86) ?_
              refine vv_if_ne 91 105 dX12_qTest_91 (by decide) (fun c89 => ?_) (fun c89 => ?_)
              · rw [if_neg c89] at h
                refine vv_iconst 105 dX12_qTest_105 ik_0 ?_
                refine vv_istore_n (lv' := [(1, _), (2, _), (0, _)]) 106 1 dX12_qTest_106 rfl (by decide) rfl ?_
                refine vv_goto 107 2 dX12_qTest_107 (by decide) ?_
                refine vv_sub [(0, _), (1, _)] (sh_subm [2, 0] rfl) ?_
                exact ih_2 hG86 h
              · rw [if_pos c89] at h
                refine vv_aload_n 94 0 dX12_qTest_94 rfl rfl ?_
                obtain ⟨y92, μ90, hr91, h⟩ := sh_bind_e h
                refine v1_callV [] 95 dX12_qTest_95 ck_X12_690 (g_l_291 hG86) ⟨by decide, rfl⟩ (t_X12_qGoesOnTest hG86 hr91) (Nat.le_of_ble_eq_true rfl) ⟨Nat.le_of_ble_eq_true rfl, Nat.le_of_ble_eq_true rfl⟩ rfl (Nat.le_of_ble_eq_true rfl) ?_
                have hG90 := gp_X12_qGoesOnTest hG86 hr91
                refine vv_if_eq 98 105 dX12_qTest_98 (by decide) (fun c93 => ?_) (fun c93 => ?_)
                · rw [if_pos c93] at h
                  refine vv_iconst 105 dX12_qTest_105 ik_0 ?_
                  refine vv_istore_n (lv' := [(1, _), (2, _), (0, _)]) 106 1 dX12_qTest_106 rfl (by decide) rfl ?_
                  refine vv_goto 107 2 dX12_qTest_107 (by decide) ?_
                  refine vv_sub [(0, _), (1, _)] (sh_subm [2, 0] rfl) ?_
                  exact ih_2 hG90 h
                · rw [if_neg c93] at h
                  refine vv_iconst 101 dX12_qTest_101 ik_1 ?_
                  refine vv_goto 102 106 dX12_qTest_102 (by decide) ?_
                  refine vv_istore_n (lv' := [(1, _), (2, _), (0, _)]) 106 1 dX12_qTest_106 rfl (by decide) rfl ?_
                  refine vv_goto 107 2 dX12_qTest_107 (by decide) ?_
                  refine vv_sub [(0, _), (1, _)] (sh_subm [2, 0] rfl) ?_
                  exact ih_2 hG90 h
            · rw [if_neg c82] at h
              refine vv_aload_n 58 0 dX12_qTest_58 rfl rfl ?_
              refine vv_bipush 59 dX12_qTest_59 bk_12 ?_
              refine vv_aload_n 61 0 dX12_qTest_61 rfl rfl ?_
              refine vv_getI 62 dX12_qTest_62 fl_12_259 rfl (g_l_291 hG79) ?_
              obtain ⟨μ94, hr95, h⟩ := sh_bindv_e h
              refine v1_callV [_, _] 65 dX12_qTest_65 ck_X12_660 (g_l_291 hG79) ⟨by decide, rfl⟩ (t_X12_qOpens hG79 hr95) (Nat.le_of_ble_eq_true rfl) ⟨Nat.le_of_ble_eq_true rfl, Nat.le_of_ble_eq_true rfl⟩ rfl (Nat.le_of_ble_eq_true rfl) ?_
              have hG94 := gp_X12_qOpens hG79 hr95
              refine vv_aload_n 68 0 dX12_qTest_68 rfl rfl ?_
              refine vv_aload_n 69 0 dX12_qTest_69 rfl rfl ?_
              refine vv_getR 70 dX12_qTest_70 fl_12_185 rfl (g_l_291 hG94) (g_r_291_85 hG94) ?_
              obtain ⟨μ97, hr98, h⟩ := sh_bindv_e h
              refine v1_callV [_] 73 dX12_qTest_73 ck_X12_318 (g_l_291 hG94) ⟨by decide, rfl⟩ (t_X12_needs hG94 (sh_LAYat_347) hr98) (Nat.le_of_ble_eq_true rfl) ⟨Nat.le_of_ble_eq_true rfl, Nat.le_of_ble_eq_true rfl⟩ rfl (Nat.le_of_ble_eq_true rfl) ?_
              have hG97 := gp_X12_needs hG94 (sh_LAYat_347) hr98
              refine vv_goto 76 2 dX12_qTest_76 (by decide) ?_
              refine vv_sub [(0, _), (1, _)] (sh_subm [1, 2] rfl) ?_
              exact ih_2 hG97 h
          · rw [if_pos c78] at h
            refine vv_aload_n 24 0 dX12_qTest_24 rfl rfl ?_
            refine vv_bipush 25 dX12_qTest_25 bk_25 ?_
            refine vv_aload_n 27 0 dX12_qTest_27 rfl rfl ?_
            refine vv_getI 28 dX12_qTest_28 fl_12_259 rfl (g_l_291 hG75) ?_
            obtain ⟨μ100, hr101, h⟩ := sh_bindv_e h
            refine v1_callV [_, _] 31 dX12_qTest_31 ck_X12_660 (g_l_291 hG75) ⟨by decide, rfl⟩ (t_X12_qOpens hG75 hr101) (Nat.le_of_ble_eq_true rfl) ⟨Nat.le_of_ble_eq_true rfl, Nat.le_of_ble_eq_true rfl⟩ rfl (Nat.le_of_ble_eq_true rfl) ?_
            have hG100 := gp_X12_qOpens hG75 hr101
            refine vv_aload_n 34 0 dX12_qTest_34 rfl rfl ?_
            refine vv_dup_ref 35 dX12_qTest_35 ?_
            refine vv_getI 36 dX12_qTest_36 fl_12_259 rfl (g_l_291 hG100) ?_
            refine vv_iconst 39 dX12_qTest_39 ik_1 ?_
            refine vv_iadd 40 dX12_qTest_40 ?_
            refine vn_putI 41 dX12_qTest_41 fl_12_259 (Or.inl rfl) rfl (g_l_291 hG100) (fun μ103 eμ103 => ?_)
            rw [sh_let_eq eμ103] at h
            have hG103 : sh_G μ103 := by rw [eμ103]; exact hG100
            refine vv_goto 44 2 dX12_qTest_44 (by decide) ?_
            refine vv_sub [(0, _), (1, _)] (sh_subm [1, 2] rfl) ?_
            exact ih_2 hG103 h
    · intro i1 μ μ' hG h
      replace h : ((if (sh_i μ 291 5) = 0 then (if (sh_i μ 291 105) ≤ 0 then some μ else sh_bindv (f_X12_qDrops μ) (fun μ106 => F_X12_qTest fuel 2 i1 μ106)) else some μ) : Option sh_Mem) = some μ' := h
      refine vv_aload_n 110 0 dX12_qTest_110 rfl rfl ?_
      refine vv_getI 111 dX12_qTest_111 fl_12_253 rfl (g_l_291 hG) ?_
      refine vv_if_ne 114 131 dX12_qTest_114 (by decide) (fun c104 => ?_) (fun c104 => ?_)
      · rw [if_neg c104] at h
        have e2 := Option.some.inj h
        refine vv_vret 131 dX12_qTest_131 rfl (Nat.le_refl _) (Nat.le_refl _) ⟨rfl, e2⟩
      · rw [if_pos c104] at h
        refine vv_aload_n 117 0 dX12_qTest_117 rfl rfl ?_
        refine vv_getI 118 dX12_qTest_118 fl_12_347 rfl (g_l_291 hG) ?_
        refine vv_if_le 121 131 dX12_qTest_121 (by decide) (fun c105 => ?_) (fun c105 => ?_)
        · rw [if_pos c105] at h
          have e2 := Option.some.inj h
          refine vv_vret 131 dX12_qTest_131 rfl (Nat.le_refl _) (Nat.le_refl _) ⟨rfl, e2⟩
        · rw [if_neg c105] at h
          refine vv_aload_n 124 0 dX12_qTest_124 rfl rfl ?_
          obtain ⟨μ106, hr107, h⟩ := sh_bindv_e h
          refine v1_callV [] 125 dX12_qTest_125 ck_X12_648 (g_l_291 hG) ⟨by decide, rfl⟩ (t_X12_qDrops hG hr107) (Nat.le_of_ble_eq_true rfl) ⟨Nat.le_of_ble_eq_true rfl, Nat.le_of_ble_eq_true rfl⟩ rfl (Nat.le_of_ble_eq_true rfl) ?_
          have hG106 := gp_X12_qDrops hG hr107
          refine vv_goto 128 110 dX12_qTest_128 (by decide) ?_
          refine vv_sub [(0, _), (1, _)] (sh_subm [0, 1] rfl) ?_
          exact ih_110 hG106 h
theorem gp_X12_qTest {μ μ' : sh_Mem} (hG : sh_G μ) (h : f_X12_qTest μ = some μ') : sh_G μ' := by
  have ih_2 := (gpl_X12_qTest sh_fuel).1
  have ih_110 := (gpl_X12_qTest sh_fuel).2
  unfold f_X12_qTest at h
  exact ih_2 hG h
theorem t_X12_qTest {μ μ' : sh_Mem} (hG : sh_G μ) (h : f_X12_qTest μ = some μ') : sh_C0 l B D ca 9 M_X12_qTest [.ref 291] μ (fun v0 μ0 => v0 = none ∧ μ0 = μ') := by
  have ih_2 := (tl_X12_qTest (l := l) (B := B) (D := D) (ca := ca) sh_fuel).1
  have ih_110 := (tl_X12_qTest (l := l) (B := B) (D := D) (ca := ca) sh_fuel).2
  unfold f_X12_qTest at h
  refine vv_iconst 0 dX12_qTest_0 ik_1 ?_
  refine vv_istore_n (lv' := [(1, _), (0, _)]) 1 1 dX12_qTest_1 rfl (by decide) rfl ?_
  refine vv_sub [(0, _), (1, _)] (sh_subm [1, 0] rfl) ?_
  exact ih_2 hG h
noncomputable def F_X12_ask : Nat → Nat → Int32 → Int32 → sh_Mem → Option (Int64 × sh_Mem)
  | 0, _, _, _, _ => none
  | fuel + 1, lbl, i1, i2, μ => match lbl with
    | 1 => (if (sh_i μ 291 5) = 0 then sh_bindv (f_X12_qSums μ) (fun μ101 => F_X12_ask fuel 2 i1 0 μ101) else F_X12_ask fuel 2 i1 0 μ)
    | 2 => (if (sh_i μ 291 5) = 0 then sh_bind (f_X12_look μ) (fun y107 μ105 => (if y107 = (-1) then F_X12_ask fuel 3 i1 0 μ105 else sh_bindv (f_X12_fail 1 (sh_i μ105 291 2) μ105) (fun μ109 => F_X12_ask fuel 3 i1 0 μ109))) else F_X12_ask fuel 3 i1 0 μ)
    | 3 => sh_let (sh_setI μ 291 7 (sh_i μ 291 5)) (fun μ112 => sh_let (sh_setI μ112 291 8 (sh_i μ112 291 6)) (fun μ113 => (if (sh_i μ113 291 5) = 0 then (if 2 ≤ i1 then sh_let (sh_setL μ113 291 110 0) (fun μ116 => sh_let (sh_setI μ116 291 111 1) (fun μ117 => sh_bindv (f_X12_laysLifted μ117) (fun μ118 => sh_let (sh_setI μ118 291 51 2) (fun μ121 => F_X12_ask fuel 4 i1 0 μ121)))) else sh_let (sh_setL μ113 291 110 (-1)) (fun μ122 => sh_let (sh_setI μ122 291 111 1) (fun μ123 => sh_bindv (f_X12_laysLifted μ123) (fun μ124 => sh_let (sh_setI μ124 291 51 2) (fun μ127 => F_X12_ask fuel 4 i1 0 μ127))))) else some ((-1000000000000000), μ113))))
    | 4 => sh_bind (f_X12_personMany μ) (fun y130 μ128 => (if y130 ≤ i2 then some ((sh_l μ128 291 110), μ128) else sh_let (sh_setI μ128 291 54 i2) (fun μ132 => sh_bind (f_X12_qTold i2 μ132) (fun y135 μ133 => sh_bindv (f_X12_qTakes i1 y135 i2 μ133) (fun μ136 => F_X12_ask fuel 4 i1 (i2 + 1) μ136)))))
    | _ => none
noncomputable def f_X12_ask (μ : sh_Mem) : Option (Int64 × sh_Mem) := (if (sh_i μ 291 50) = 0 then sh_let (sh_setI μ 291 1 0) (fun μ159 => some ((-1000000000000000), μ159)) else sh_let (sh_setI μ 291 3 (sh_i μ 291 1)) (fun μ140 => sh_let (sh_setI μ140 291 1 0) (fun μ141 => sh_let (sh_setI μ141 291 2 0) (fun μ142 => sh_let (sh_setI μ142 291 4 (-1)) (fun μ143 => sh_let (sh_setI μ143 291 5 0) (fun μ144 => sh_let (sh_setI μ144 291 6 (-1)) (fun μ145 => sh_let (sh_setI μ145 291 51 2) (fun μ146 => sh_let (sh_setI μ146 291 103 0) (fun μ147 => sh_let (sh_setI μ147 291 105 0) (fun μ148 => sh_let (sh_setI μ148 291 106 0) (fun μ149 => sh_let (sh_setI μ149 291 107 0) (fun μ150 => sh_bind (f_X12_qKind μ150) (fun y153 μ151 => (if (sh_i μ151 291 5) = 0 then (if 3 ≤ y153 then F_X12_ask sh_fuel 1 y153 0 μ151 else sh_bindv (f_X12_qTest μ151) (fun μ156 => F_X12_ask sh_fuel 2 y153 0 μ156)) else F_X12_ask sh_fuel 1 y153 0 μ151))))))))))))))
theorem gpl_X12_ask (fuel : Nat) : (∀ ⦃i1 : Int32⦄ ⦃i2 : Int32⦄ ⦃μ μ' : sh_Mem⦄ ⦃v : Int64⦄, sh_G μ → F_X12_ask fuel 1 i1 i2 μ = some (v, μ') → sh_G μ') ∧ (∀ ⦃i1 : Int32⦄ ⦃i2 : Int32⦄ ⦃μ μ' : sh_Mem⦄ ⦃v : Int64⦄, sh_G μ → F_X12_ask fuel 2 i1 i2 μ = some (v, μ') → sh_G μ') ∧ (∀ ⦃i1 : Int32⦄ ⦃i2 : Int32⦄ ⦃μ μ' : sh_Mem⦄ ⦃v : Int64⦄, sh_G μ → F_X12_ask fuel 3 i1 i2 μ = some (v, μ') → sh_G μ') ∧ (∀ ⦃i1 : Int32⦄ ⦃i2 : Int32⦄ ⦃μ μ' : sh_Mem⦄ ⦃v : Int64⦄, sh_G μ → F_X12_ask fuel 4 i1 i2 μ = some (v, μ') → sh_G μ') := by
  induction fuel with
  | zero => exact ⟨(by intro i1 i2 μ μ' v hG h; cases h), (by intro i1 i2 μ μ' v hG h; cases h), (by intro i1 i2 μ μ' v hG h; cases h), (by intro i1 i2 μ μ' v hG h; cases h)⟩
  | succ fuel ih =>
    obtain ⟨ih_98, ih_109, ih_133, ih_192⟩ := ih
    refine ⟨?_, ?_, ?_, ?_⟩
    · intro i1 i2 μ μ' v hG h
      replace h : ((if (sh_i μ 291 5) = 0 then sh_bindv (f_X12_qSums μ) (fun μ101 => F_X12_ask fuel 2 i1 0 μ101) else F_X12_ask fuel 2 i1 0 μ) : Option (Int64 × sh_Mem)) = some (v, μ') := h
      by_cases c100 : (sh_i μ 291 5) = 0
      · rw [if_pos c100] at h
        obtain ⟨μ101, hr102, h⟩ := sh_bindv_e h
        have hG101 := gp_X12_qSums hG hr102
        exact ih_109 hG101 h
      · rw [if_neg c100] at h
        exact ih_109 hG h
    · intro i1 i2 μ μ' v hG h
      replace h : ((if (sh_i μ 291 5) = 0 then sh_bind (f_X12_look μ) (fun y107 μ105 => (if y107 = (-1) then F_X12_ask fuel 3 i1 0 μ105 else sh_bindv (f_X12_fail 1 (sh_i μ105 291 2) μ105) (fun μ109 => F_X12_ask fuel 3 i1 0 μ109))) else F_X12_ask fuel 3 i1 0 μ) : Option (Int64 × sh_Mem)) = some (v, μ') := h
      by_cases c104 : (sh_i μ 291 5) = 0
      · rw [if_pos c104] at h
        obtain ⟨y107, μ105, hr106, h⟩ := sh_bind_e h
        have hG105 := gp_X12_look hG hr106
        by_cases c108 : y107 = (-1)
        · rw [if_pos c108] at h
          exact ih_133 hG105 h
        · rw [if_neg c108] at h
          obtain ⟨μ109, hr110, h⟩ := sh_bindv_e h
          have hG109 := gp_X12_fail hG105 hr110
          exact ih_133 hG109 h
      · rw [if_neg c104] at h
        exact ih_133 hG h
    · intro i1 i2 μ μ' v hG h
      replace h : (sh_let (sh_setI μ 291 7 (sh_i μ 291 5)) (fun μ112 => sh_let (sh_setI μ112 291 8 (sh_i μ112 291 6)) (fun μ113 => (if (sh_i μ113 291 5) = 0 then (if 2 ≤ i1 then sh_let (sh_setL μ113 291 110 0) (fun μ116 => sh_let (sh_setI μ116 291 111 1) (fun μ117 => sh_bindv (f_X12_laysLifted μ117) (fun μ118 => sh_let (sh_setI μ118 291 51 2) (fun μ121 => F_X12_ask fuel 4 i1 0 μ121)))) else sh_let (sh_setL μ113 291 110 (-1)) (fun μ122 => sh_let (sh_setI μ122 291 111 1) (fun μ123 => sh_bindv (f_X12_laysLifted μ123) (fun μ124 => sh_let (sh_setI μ124 291 51 2) (fun μ127 => F_X12_ask fuel 4 i1 0 μ127))))) else some ((-1000000000000000), μ113)))) : Option (Int64 × sh_Mem)) = some (v, μ') := h
      obtain ⟨μ112, eμ112⟩ : ∃ y : sh_Mem, y = (sh_setI μ 291 7 (sh_i μ 291 5)) := ⟨_, rfl⟩
      rw [sh_let_eq eμ112] at h
      have hG112 : sh_G μ112 := by rw [eμ112]; exact hG
      obtain ⟨μ113, eμ113⟩ : ∃ y : sh_Mem, y = (sh_setI μ112 291 8 (sh_i μ112 291 6)) := ⟨_, rfl⟩
      rw [sh_let_eq eμ113] at h
      have hG113 : sh_G μ113 := by rw [eμ113]; exact hG112
      by_cases c114 : (sh_i μ113 291 5) = 0
      · rw [if_pos c114] at h
        by_cases c115 : 2 ≤ i1
        · rw [if_pos c115] at h
          obtain ⟨μ116, eμ116⟩ : ∃ y : sh_Mem, y = (sh_setL μ113 291 110 0) := ⟨_, rfl⟩
          rw [sh_let_eq eμ116] at h
          have hG116 : sh_G μ116 := by rw [eμ116]; exact hG113
          obtain ⟨μ117, eμ117⟩ : ∃ y : sh_Mem, y = (sh_setI μ116 291 111 1) := ⟨_, rfl⟩
          rw [sh_let_eq eμ117] at h
          have hG117 : sh_G μ117 := by rw [eμ117]; exact hG116
          obtain ⟨μ118, hr119, h⟩ := sh_bindv_e h
          have hG118 := gp_X12_laysLifted hG117 hr119
          obtain ⟨μ121, eμ121⟩ : ∃ y : sh_Mem, y = (sh_setI μ118 291 51 2) := ⟨_, rfl⟩
          rw [sh_let_eq eμ121] at h
          have hG121 : sh_G μ121 := by rw [eμ121]; exact hG118
          exact ih_192 hG121 h
        · rw [if_neg c115] at h
          obtain ⟨μ122, eμ122⟩ : ∃ y : sh_Mem, y = (sh_setL μ113 291 110 (-1)) := ⟨_, rfl⟩
          rw [sh_let_eq eμ122] at h
          have hG122 : sh_G μ122 := by rw [eμ122]; exact hG113
          obtain ⟨μ123, eμ123⟩ : ∃ y : sh_Mem, y = (sh_setI μ122 291 111 1) := ⟨_, rfl⟩
          rw [sh_let_eq eμ123] at h
          have hG123 : sh_G μ123 := by rw [eμ123]; exact hG122
          obtain ⟨μ124, hr125, h⟩ := sh_bindv_e h
          have hG124 := gp_X12_laysLifted hG123 hr125
          obtain ⟨μ127, eμ127⟩ : ∃ y : sh_Mem, y = (sh_setI μ124 291 51 2) := ⟨_, rfl⟩
          rw [sh_let_eq eμ127] at h
          have hG127 : sh_G μ127 := by rw [eμ127]; exact hG124
          exact ih_192 hG127 h
      · rw [if_neg c114] at h
        obtain ⟨e1, e2⟩ := sh_some2 h
        exact e2 ▸ hG113
    · intro i1 i2 μ μ' v hG h
      replace h : (sh_bind (f_X12_personMany μ) (fun y130 μ128 => (if y130 ≤ i2 then some ((sh_l μ128 291 110), μ128) else sh_let (sh_setI μ128 291 54 i2) (fun μ132 => sh_bind (f_X12_qTold i2 μ132) (fun y135 μ133 => sh_bindv (f_X12_qTakes i1 y135 i2 μ133) (fun μ136 => F_X12_ask fuel 4 i1 (i2 + 1) μ136))))) : Option (Int64 × sh_Mem)) = some (v, μ') := h
      obtain ⟨y130, μ128, hr129, h⟩ := sh_bind_e h
      have hG128 := gp_X12_personMany hG hr129
      by_cases c131 : y130 ≤ i2
      · rw [if_pos c131] at h
        obtain ⟨e1, e2⟩ := sh_some2 h
        exact e2 ▸ hG128
      · rw [if_neg c131] at h
        obtain ⟨μ132, eμ132⟩ : ∃ y : sh_Mem, y = (sh_setI μ128 291 54 i2) := ⟨_, rfl⟩
        rw [sh_let_eq eμ132] at h
        have hG132 : sh_G μ132 := by rw [eμ132]; exact hG128
        obtain ⟨y135, μ133, hr134, h⟩ := sh_bind_e h
        have hG133 := gp_X12_qTold hG132 hr134
        obtain ⟨μ136, hr137, h⟩ := sh_bindv_e h
        have hG136 := gp_X12_qTakes hG133 hr137
        exact ih_192 hG136 h
theorem tl_X12_ask (fuel : Nat) : (∀ ⦃i1 : Int32⦄ ⦃i2 : Int32⦄ ⦃μ μ' : sh_Mem⦄ ⦃v : Int64⦄, sh_G μ → F_X12_ask fuel 1 i1 i2 μ = some (v, μ') → sh_V0 l B D ca 10 M_X12_ask 98 [(0, .ref 291), (1, .int i1)] [] μ (fun v0 μ0 => v0 = some (.long v) ∧ μ0 = μ')) ∧ (∀ ⦃i1 : Int32⦄ ⦃i2 : Int32⦄ ⦃μ μ' : sh_Mem⦄ ⦃v : Int64⦄, sh_G μ → F_X12_ask fuel 2 i1 i2 μ = some (v, μ') → sh_V0 l B D ca 10 M_X12_ask 109 [(0, .ref 291), (1, .int i1)] [] μ (fun v0 μ0 => v0 = some (.long v) ∧ μ0 = μ')) ∧ (∀ ⦃i1 : Int32⦄ ⦃i2 : Int32⦄ ⦃μ μ' : sh_Mem⦄ ⦃v : Int64⦄, sh_G μ → F_X12_ask fuel 3 i1 i2 μ = some (v, μ') → sh_V0 l B D ca 10 M_X12_ask 133 [(0, .ref 291), (1, .int i1)] [] μ (fun v0 μ0 => v0 = some (.long v) ∧ μ0 = μ')) ∧ (∀ ⦃i1 : Int32⦄ ⦃i2 : Int32⦄ ⦃μ μ' : sh_Mem⦄ ⦃v : Int64⦄, sh_G μ → F_X12_ask fuel 4 i1 i2 μ = some (v, μ') → sh_V0 l B D ca 10 M_X12_ask 192 [(0, .ref 291), (1, .int i1), (2, .int i2)] [] μ (fun v0 μ0 => v0 = some (.long v) ∧ μ0 = μ')) := by
  induction fuel with
  | zero => exact ⟨(by intro i1 i2 μ μ' v hG h; cases h), (by intro i1 i2 μ μ' v hG h; cases h), (by intro i1 i2 μ μ' v hG h; cases h), (by intro i1 i2 μ μ' v hG h; cases h)⟩
  | succ fuel ih =>
    obtain ⟨ih_98, ih_109, ih_133, ih_192⟩ := ih
    refine ⟨?_, ?_, ?_, ?_⟩
    · intro i1 i2 μ μ' v hG h
      replace h : ((if (sh_i μ 291 5) = 0 then sh_bindv (f_X12_qSums μ) (fun μ101 => F_X12_ask fuel 2 i1 0 μ101) else F_X12_ask fuel 2 i1 0 μ) : Option (Int64 × sh_Mem)) = some (v, μ') := h
      refine vv_aload_n 98 0 dX12_ask_98 rfl rfl ?_
      refine vv_getI 99 dX12_ask_99 fl_12_253 rfl (g_l_291 hG) ?_
      refine vv_if_ne 102 109 dX12_ask_102 (by decide) (fun c100 => ?_) (fun c100 => ?_)
      · rw [if_neg c100] at h
        refine vv_sub [(0, _), (1, _)] (sh_subm [0, 1] rfl) ?_
        exact ih_109 hG h
      · rw [if_pos c100] at h
        refine vv_aload_n 105 0 dX12_ask_105 rfl rfl ?_
        obtain ⟨μ101, hr102, h⟩ := sh_bindv_e h
        refine v1_callV [] 106 dX12_ask_106 ck_X12_359 (g_l_291 hG) ⟨by decide, rfl⟩ (t_X12_qSums hG hr102) (Nat.le_of_ble_eq_true rfl) ⟨Nat.le_of_ble_eq_true rfl, Nat.le_of_ble_eq_true rfl⟩ rfl (Nat.le_of_ble_eq_true rfl) ?_
        have hG101 := gp_X12_qSums hG hr102
        refine vv_sub [(0, _), (1, _)] (sh_subm [0, 1] rfl) ?_
        exact ih_109 hG101 h
    · intro i1 i2 μ μ' v hG h
      replace h : ((if (sh_i μ 291 5) = 0 then sh_bind (f_X12_look μ) (fun y107 μ105 => (if y107 = (-1) then F_X12_ask fuel 3 i1 0 μ105 else sh_bindv (f_X12_fail 1 (sh_i μ105 291 2) μ105) (fun μ109 => F_X12_ask fuel 3 i1 0 μ109))) else F_X12_ask fuel 3 i1 0 μ) : Option (Int64 × sh_Mem)) = some (v, μ') := h
      refine vv_aload_n 109 0 dX12_ask_109 rfl rfl ?_
      refine vv_getI 110 dX12_ask_110 fl_12_253 rfl (g_l_291 hG) ?_
      refine vv_if_ne 113 133 dX12_ask_113 (by decide) (fun c104 => ?_) (fun c104 => ?_)
      · rw [if_neg c104] at h
        refine vv_sub [(0, _), (1, _)] (sh_subm [0, 1] rfl) ?_
        exact ih_133 hG h
      · rw [if_pos c104] at h
        refine vv_aload_n 116 0 dX12_ask_116 rfl rfl ?_
        obtain ⟨y107, μ105, hr106, h⟩ := sh_bind_e h
        refine v1_callV [] 117 dX12_ask_117 ck_X12_265 (g_l_291 hG) ⟨by decide, rfl⟩ (t_X12_look hG hr106) (Nat.le_of_ble_eq_true rfl) ⟨Nat.le_of_ble_eq_true rfl, Nat.le_of_ble_eq_true rfl⟩ rfl (Nat.le_of_ble_eq_true rfl) ?_
        have hG105 := gp_X12_look hG hr106
        refine vv_iconst 120 dX12_ask_120 ik_m1 ?_
        refine vv_icmp_eq 121 133 dX12_ask_121 (by decide) (fun c108 => ?_) (fun c108 => ?_)
        · rw [if_pos c108] at h
          refine vv_sub [(0, _), (1, _)] (sh_subm [0, 1] rfl) ?_
          exact ih_133 hG105 h
        · rw [if_neg c108] at h
          refine vv_aload_n 124 0 dX12_ask_124 rfl rfl ?_
          refine vv_iconst 125 dX12_ask_125 ik_1 ?_
          refine vv_aload_n 126 0 dX12_ask_126 rfl rfl ?_
          refine vv_getI 127 dX12_ask_127 fl_12_259 rfl (g_l_291 hG105) ?_
          obtain ⟨μ109, hr110, h⟩ := sh_bindv_e h
          refine v1_callV [_, _] 130 dX12_ask_130 ck_X12_283 (g_l_291 hG105) ⟨by decide, rfl⟩ (t_X12_fail hG105 hr110) (Nat.le_of_ble_eq_true rfl) ⟨Nat.le_of_ble_eq_true rfl, Nat.le_of_ble_eq_true rfl⟩ rfl (Nat.le_of_ble_eq_true rfl) ?_
          have hG109 := gp_X12_fail hG105 hr110
          refine vv_sub [(0, _), (1, _)] (sh_subm [0, 1] rfl) ?_
          exact ih_133 hG109 h
    · intro i1 i2 μ μ' v hG h
      replace h : (sh_let (sh_setI μ 291 7 (sh_i μ 291 5)) (fun μ112 => sh_let (sh_setI μ112 291 8 (sh_i μ112 291 6)) (fun μ113 => (if (sh_i μ113 291 5) = 0 then (if 2 ≤ i1 then sh_let (sh_setL μ113 291 110 0) (fun μ116 => sh_let (sh_setI μ116 291 111 1) (fun μ117 => sh_bindv (f_X12_laysLifted μ117) (fun μ118 => sh_let (sh_setI μ118 291 51 2) (fun μ121 => F_X12_ask fuel 4 i1 0 μ121)))) else sh_let (sh_setL μ113 291 110 (-1)) (fun μ122 => sh_let (sh_setI μ122 291 111 1) (fun μ123 => sh_bindv (f_X12_laysLifted μ123) (fun μ124 => sh_let (sh_setI μ124 291 51 2) (fun μ127 => F_X12_ask fuel 4 i1 0 μ127))))) else some ((-1000000000000000), μ113)))) : Option (Int64 × sh_Mem)) = some (v, μ') := h
      refine vv_aload_n 133 0 dX12_ask_133 rfl rfl ?_
      refine vv_aload_n 134 0 dX12_ask_134 rfl rfl ?_
      refine vv_getI 135 dX12_ask_135 fl_12_253 rfl (g_l_291 hG) ?_
      refine vn_putI 138 dX12_ask_138 fl_12_392 (Or.inl rfl) rfl (g_l_291 hG) (fun μ112 eμ112 => ?_)
      rw [sh_let_eq eμ112] at h
      have hG112 : sh_G μ112 := by rw [eμ112]; exact hG
      refine vv_aload_n 141 0 dX12_ask_141 rfl rfl ?_
      refine vv_aload_n 142 0 dX12_ask_142 rfl rfl ?_
      refine vv_getI 143 dX12_ask_143 fl_12_256 rfl (g_l_291 hG112) ?_
      refine vn_putI 146 dX12_ask_146 fl_12_13 (Or.inl rfl) rfl (g_l_291 hG112) (fun μ113 eμ113 => ?_)
      rw [sh_let_eq eμ113] at h
      have hG113 : sh_G μ113 := by rw [eμ113]; exact hG112
      refine vv_aload_n 149 0 dX12_ask_149 rfl rfl ?_
      refine vv_getI 150 dX12_ask_150 fl_12_253 rfl (g_l_291 hG113) ?_
      refine vv_if_eq 153 160 dX12_ask_153 (by decide) (fun c114 => ?_) (fun c114 => ?_)
      · rw [if_pos c114] at h
        refine vv_aload_n 160 0 dX12_ask_160 rfl rfl ?_
        refine vv_iload_n 161 1 dX12_ask_161 rfl rfl ?_
        refine vv_iconst 162 dX12_ask_162 ik_2 ?_
        refine vv_icmp_ge 163 172 dX12_ask_163 (by decide) (fun c115 => ?_) (fun c115 => ?_)
        · rw [if_pos c115] at h
          refine vv_lconst 172 dX12_ask_172 lk_0 ?_
          refine vn_putL 173 dX12_ask_173 fl_12_712 (Or.inl rfl) rfl (g_l_291 hG113) (fun μ116 eμ116 => ?_)
          rw [sh_let_eq eμ116] at h
          have hG116 : sh_G μ116 := by rw [eμ116]; exact hG113
          refine vv_aload_n 176 0 dX12_ask_176 rfl rfl ?_
          refine vv_iconst 177 dX12_ask_177 ik_1 ?_
          refine vn_putZ 178 dX12_ask_178 fl_12_717 (Or.inl rfl) rfl (by decide) (g_l_291 hG116) (fun μ117 eμ117 => ?_)
          rw [sh_let_eq eμ117] at h
          have hG117 : sh_G μ117 := by rw [eμ117]; exact hG116
          refine vv_aload_n 181 0 dX12_ask_181 rfl rfl ?_
          obtain ⟨μ118, hr119, h⟩ := sh_bindv_e h
          refine v1_callV [] 182 dX12_ask_182 ck_X12_725 (g_l_291 hG117) ⟨by decide, rfl⟩ (t_X12_laysLifted hG117 hr119) (Nat.le_of_ble_eq_true rfl) ⟨Nat.le_of_ble_eq_true rfl, Nat.le_of_ble_eq_true rfl⟩ rfl (Nat.le_of_ble_eq_true rfl) ?_
          have hG118 := gp_X12_laysLifted hG117 hr119
          refine vv_aload_n 185 0 dX12_ask_185 rfl rfl ?_
          refine vv_iconst 186 dX12_ask_186 ik_2 ?_
          refine vn_putI 187 dX12_ask_187 fl_12_311 (Or.inl rfl) rfl (g_l_291 hG118) (fun μ121 eμ121 => ?_)
          rw [sh_let_eq eμ121] at h
          have hG121 : sh_G μ121 := by rw [eμ121]; exact hG118
          refine vv_iconst 190 dX12_ask_190 ik_0 ?_
          refine vv_istore_n (lv' := [(2, _), (0, _), (1, _)]) 191 2 dX12_ask_191 rfl (by decide) rfl ?_
          refine vv_sub [(0, _), (1, _), (2, _)] (sh_subm [1, 2, 0] rfl) ?_
          exact ih_192 hG121 h
        · rw [if_neg c115] at h
          refine vv_ldc2 166 dX12_ask_166 kl_12_715 ?_
          refine vv_goto 169 173 dX12_ask_169 (by decide) ?_
          refine vn_putL 173 dX12_ask_173 fl_12_712 (Or.inl rfl) rfl (g_l_291 hG113) (fun μ122 eμ122 => ?_)
          rw [sh_let_eq eμ122] at h
          have hG122 : sh_G μ122 := by rw [eμ122]; exact hG113
          refine vv_aload_n 176 0 dX12_ask_176 rfl rfl ?_
          refine vv_iconst 177 dX12_ask_177 ik_1 ?_
          refine vn_putZ 178 dX12_ask_178 fl_12_717 (Or.inl rfl) rfl (by decide) (g_l_291 hG122) (fun μ123 eμ123 => ?_)
          rw [sh_let_eq eμ123] at h
          have hG123 : sh_G μ123 := by rw [eμ123]; exact hG122
          refine vv_aload_n 181 0 dX12_ask_181 rfl rfl ?_
          obtain ⟨μ124, hr125, h⟩ := sh_bindv_e h
          refine v1_callV [] 182 dX12_ask_182 ck_X12_725 (g_l_291 hG123) ⟨by decide, rfl⟩ (t_X12_laysLifted hG123 hr125) (Nat.le_of_ble_eq_true rfl) ⟨Nat.le_of_ble_eq_true rfl, Nat.le_of_ble_eq_true rfl⟩ rfl (Nat.le_of_ble_eq_true rfl) ?_
          have hG124 := gp_X12_laysLifted hG123 hr125
          refine vv_aload_n 185 0 dX12_ask_185 rfl rfl ?_
          refine vv_iconst 186 dX12_ask_186 ik_2 ?_
          refine vn_putI 187 dX12_ask_187 fl_12_311 (Or.inl rfl) rfl (g_l_291 hG124) (fun μ127 eμ127 => ?_)
          rw [sh_let_eq eμ127] at h
          have hG127 : sh_G μ127 := by rw [eμ127]; exact hG124
          refine vv_iconst 190 dX12_ask_190 ik_0 ?_
          refine vv_istore_n (lv' := [(2, _), (0, _), (1, _)]) 191 2 dX12_ask_191 rfl (by decide) rfl ?_
          refine vv_sub [(0, _), (1, _), (2, _)] (sh_subm [1, 2, 0] rfl) ?_
          exact ih_192 hG127 h
      · rw [if_neg c114] at h
        refine vv_ldc2 156 dX12_ask_156 kl_12_720 ?_
        obtain ⟨e1, e2⟩ := sh_some2 h
        refine vv_lret 159 dX12_ask_159 rfl (Nat.le_refl _) (Nat.le_refl _) ⟨by rw [e1], e2⟩
    · intro i1 i2 μ μ' v hG h
      replace h : (sh_bind (f_X12_personMany μ) (fun y130 μ128 => (if y130 ≤ i2 then some ((sh_l μ128 291 110), μ128) else sh_let (sh_setI μ128 291 54 i2) (fun μ132 => sh_bind (f_X12_qTold i2 μ132) (fun y135 μ133 => sh_bindv (f_X12_qTakes i1 y135 i2 μ133) (fun μ136 => F_X12_ask fuel 4 i1 (i2 + 1) μ136))))) : Option (Int64 × sh_Mem)) = some (v, μ') := h
      refine vv_iload_n 192 2 dX12_ask_192 rfl rfl ?_
      refine vv_aload_n 193 0 dX12_ask_193 rfl rfl ?_
      obtain ⟨y130, μ128, hr129, h⟩ := sh_bind_e h
      refine v1_callV [] 194 dX12_ask_194 ck_X12_411 (g_l_291 hG) ⟨by decide, rfl⟩ (t_X12_personMany hG hr129) (Nat.le_of_ble_eq_true rfl) ⟨Nat.le_of_ble_eq_true rfl, Nat.le_of_ble_eq_true rfl⟩ rfl (Nat.le_of_ble_eq_true rfl) ?_
      have hG128 := gp_X12_personMany hG hr129
      refine vv_icmp_ge 197 222 dX12_ask_197 (by decide) (fun c131 => ?_) (fun c131 => ?_)
      · rw [if_pos c131] at h
        refine vv_aload_n 222 0 dX12_ask_222 rfl rfl ?_
        refine vv_getL 223 dX12_ask_223 fl_12_712 rfl (g_l_291 hG128) ?_
        obtain ⟨e1, e2⟩ := sh_some2 h
        refine vv_lret 226 dX12_ask_226 rfl (Nat.le_refl _) (Nat.le_refl _) ⟨by rw [e1], e2⟩
      · rw [if_neg c131] at h
        refine vv_aload_n 200 0 dX12_ask_200 rfl rfl ?_
        refine vv_iload_n 201 2 dX12_ask_201 rfl rfl ?_
        refine vn_putI 202 dX12_ask_202 fl_12_427 (Or.inl rfl) rfl (g_l_291 hG128) (fun μ132 eμ132 => ?_)
        rw [sh_let_eq eμ132] at h
        have hG132 : sh_G μ132 := by rw [eμ132]; exact hG128
        refine vv_aload_n 205 0 dX12_ask_205 rfl rfl ?_
        refine vv_iload_n 206 1 dX12_ask_206 rfl rfl ?_
        refine vv_aload_n 207 0 dX12_ask_207 rfl rfl ?_
        refine vv_iload_n 208 2 dX12_ask_208 rfl rfl ?_
        obtain ⟨y135, μ133, hr134, h⟩ := sh_bind_e h
        refine v1_callV [_] 209 dX12_ask_209 ck_X12_728 (g_l_291 hG132) ⟨by decide, rfl⟩ (t_X12_qTold hG132 hr134) (Nat.le_of_ble_eq_true rfl) ⟨Nat.le_of_ble_eq_true rfl, Nat.le_of_ble_eq_true rfl⟩ rfl (Nat.le_of_ble_eq_true rfl) ?_
        have hG133 := gp_X12_qTold hG132 hr134
        refine vv_iload_n 212 2 dX12_ask_212 rfl rfl ?_
        obtain ⟨μ136, hr137, h⟩ := sh_bindv_e h
        refine v1_callV [_, _, _] 213 dX12_ask_213 ck_X12_731 (g_l_291 hG133) ⟨by decide, rfl⟩ (t_X12_qTakes hG133 hr137) (Nat.le_of_ble_eq_true rfl) ⟨Nat.le_of_ble_eq_true rfl, Nat.le_of_ble_eq_true rfl⟩ rfl (Nat.le_of_ble_eq_true rfl) ?_
        have hG136 := gp_X12_qTakes hG133 hr137
        refine vv_iincc (lv' := [(2, _), (0, _), (1, _)]) 216 2 dX12_ask_216 rfl ik_1 (by decide) rfl ?_
        refine vv_goto 219 192 dX12_ask_219 (by decide) ?_
        refine vv_sub [(0, _), (1, _), (2, _)] (sh_subm [1, 2, 0] rfl) ?_
        exact ih_192 hG136 h
theorem gp_X12_ask {μ μ' : sh_Mem} {v : Int64} (hG : sh_G μ) (h : f_X12_ask μ = some (v, μ')) : sh_G μ' := by
  have ih_98 := (gpl_X12_ask sh_fuel).1
  have ih_109 := (gpl_X12_ask sh_fuel).2.1
  have ih_133 := (gpl_X12_ask sh_fuel).2.2.1
  have ih_192 := (gpl_X12_ask sh_fuel).2.2.2
  unfold f_X12_ask at h
  by_cases c139 : (sh_i μ 291 50) = 0
  · rw [if_pos c139] at h
    obtain ⟨μ159, eμ159⟩ : ∃ y : sh_Mem, y = (sh_setI μ 291 1 0) := ⟨_, rfl⟩
    rw [sh_let_eq eμ159] at h
    have hG159 : sh_G μ159 := by rw [eμ159]; exact hG
    obtain ⟨e1, e2⟩ := sh_some2 h
    exact e2 ▸ hG159
  · rw [if_neg c139] at h
    obtain ⟨μ140, eμ140⟩ : ∃ y : sh_Mem, y = (sh_setI μ 291 3 (sh_i μ 291 1)) := ⟨_, rfl⟩
    rw [sh_let_eq eμ140] at h
    have hG140 : sh_G μ140 := by rw [eμ140]; exact hG
    obtain ⟨μ141, eμ141⟩ : ∃ y : sh_Mem, y = (sh_setI μ140 291 1 0) := ⟨_, rfl⟩
    rw [sh_let_eq eμ141] at h
    have hG141 : sh_G μ141 := by rw [eμ141]; exact hG140
    obtain ⟨μ142, eμ142⟩ : ∃ y : sh_Mem, y = (sh_setI μ141 291 2 0) := ⟨_, rfl⟩
    rw [sh_let_eq eμ142] at h
    have hG142 : sh_G μ142 := by rw [eμ142]; exact hG141
    obtain ⟨μ143, eμ143⟩ : ∃ y : sh_Mem, y = (sh_setI μ142 291 4 (-1)) := ⟨_, rfl⟩
    rw [sh_let_eq eμ143] at h
    have hG143 : sh_G μ143 := by rw [eμ143]; exact hG142
    obtain ⟨μ144, eμ144⟩ : ∃ y : sh_Mem, y = (sh_setI μ143 291 5 0) := ⟨_, rfl⟩
    rw [sh_let_eq eμ144] at h
    have hG144 : sh_G μ144 := by rw [eμ144]; exact hG143
    obtain ⟨μ145, eμ145⟩ : ∃ y : sh_Mem, y = (sh_setI μ144 291 6 (-1)) := ⟨_, rfl⟩
    rw [sh_let_eq eμ145] at h
    have hG145 : sh_G μ145 := by rw [eμ145]; exact hG144
    obtain ⟨μ146, eμ146⟩ : ∃ y : sh_Mem, y = (sh_setI μ145 291 51 2) := ⟨_, rfl⟩
    rw [sh_let_eq eμ146] at h
    have hG146 : sh_G μ146 := by rw [eμ146]; exact hG145
    obtain ⟨μ147, eμ147⟩ : ∃ y : sh_Mem, y = (sh_setI μ146 291 103 0) := ⟨_, rfl⟩
    rw [sh_let_eq eμ147] at h
    have hG147 : sh_G μ147 := by rw [eμ147]; exact hG146
    obtain ⟨μ148, eμ148⟩ : ∃ y : sh_Mem, y = (sh_setI μ147 291 105 0) := ⟨_, rfl⟩
    rw [sh_let_eq eμ148] at h
    have hG148 : sh_G μ148 := by rw [eμ148]; exact hG147
    obtain ⟨μ149, eμ149⟩ : ∃ y : sh_Mem, y = (sh_setI μ148 291 106 0) := ⟨_, rfl⟩
    rw [sh_let_eq eμ149] at h
    have hG149 : sh_G μ149 := by rw [eμ149]; exact hG148
    obtain ⟨μ150, eμ150⟩ : ∃ y : sh_Mem, y = (sh_setI μ149 291 107 0) := ⟨_, rfl⟩
    rw [sh_let_eq eμ150] at h
    have hG150 : sh_G μ150 := by rw [eμ150]; exact hG149
    obtain ⟨y153, μ151, hr152, h⟩ := sh_bind_e h
    have hG151 := gp_X12_qKind hG150 hr152
    by_cases c154 : (sh_i μ151 291 5) = 0
    · rw [if_pos c154] at h
      by_cases c155 : 3 ≤ y153
      · rw [if_pos c155] at h
        exact ih_98 hG151 h
      · rw [if_neg c155] at h
        obtain ⟨μ156, hr157, h⟩ := sh_bindv_e h
        have hG156 := gp_X12_qTest hG151 hr157
        exact ih_109 hG156 h
    · rw [if_neg c154] at h
      exact ih_98 hG151 h
theorem t_X12_ask {μ μ' : sh_Mem} {v : Int64} (hG : sh_G μ) (h : f_X12_ask μ = some (v, μ')) : sh_C0 l B D ca 10 M_X12_ask [.ref 291] μ (fun v0 μ0 => v0 = some (.long v) ∧ μ0 = μ') := by
  have ih_98 := (tl_X12_ask (l := l) (B := B) (D := D) (ca := ca) sh_fuel).1
  have ih_109 := (tl_X12_ask (l := l) (B := B) (D := D) (ca := ca) sh_fuel).2.1
  have ih_133 := (tl_X12_ask (l := l) (B := B) (D := D) (ca := ca) sh_fuel).2.2.1
  have ih_192 := (tl_X12_ask (l := l) (B := B) (D := D) (ca := ca) sh_fuel).2.2.2
  unfold f_X12_ask at h
  refine vv_aload_n 0 0 dX12_ask_0 rfl rfl ?_
  refine vv_getI 1 dX12_ask_1 fl_12_398 rfl (g_l_291 hG) ?_
  refine vv_if_ne 4 16 dX12_ask_4 (by decide) (fun c139 => ?_) (fun c139 => ?_)
  · rw [if_neg c139] at h
    refine vv_aload_n 16 0 dX12_ask_16 rfl rfl ?_
    refine vv_aload_n 17 0 dX12_ask_17 rfl rfl ?_
    refine vv_getI 18 dX12_ask_18 fl_12_250 rfl (g_l_291 hG) ?_
    refine vn_putI 21 dX12_ask_21 fl_12_262 (Or.inl rfl) rfl (g_l_291 hG) (fun μ140 eμ140 => ?_)
    rw [sh_let_eq eμ140] at h
    have hG140 : sh_G μ140 := by rw [eμ140]; exact hG
    refine vv_aload_n 24 0 dX12_ask_24 rfl rfl ?_
    refine vv_iconst 25 dX12_ask_25 ik_0 ?_
    refine vn_putI 26 dX12_ask_26 fl_12_250 (Or.inl rfl) rfl (g_l_291 hG140) (fun μ141 eμ141 => ?_)
    rw [sh_let_eq eμ141] at h
    have hG141 : sh_G μ141 := by rw [eμ141]; exact hG140
    refine vv_aload_n 29 0 dX12_ask_29 rfl rfl ?_
    refine vv_iconst 30 dX12_ask_30 ik_0 ?_
    refine vn_putI 31 dX12_ask_31 fl_12_259 (Or.inl rfl) rfl (g_l_291 hG141) (fun μ142 eμ142 => ?_)
    rw [sh_let_eq eμ142] at h
    have hG142 : sh_G μ142 := by rw [eμ142]; exact hG141
    refine vv_aload_n 34 0 dX12_ask_34 rfl rfl ?_
    refine vv_iconst 35 dX12_ask_35 ik_m1 ?_
    refine vn_putI 36 dX12_ask_36 fl_12_273 (Or.inl rfl) rfl (g_l_291 hG142) (fun μ143 eμ143 => ?_)
    rw [sh_let_eq eμ143] at h
    have hG143 : sh_G μ143 := by rw [eμ143]; exact hG142
    refine vv_aload_n 39 0 dX12_ask_39 rfl rfl ?_
    refine vv_iconst 40 dX12_ask_40 ik_0 ?_
    refine vn_putI 41 dX12_ask_41 fl_12_253 (Or.inl rfl) rfl (g_l_291 hG143) (fun μ144 eμ144 => ?_)
    rw [sh_let_eq eμ144] at h
    have hG144 : sh_G μ144 := by rw [eμ144]; exact hG143
    refine vv_aload_n 44 0 dX12_ask_44 rfl rfl ?_
    refine vv_iconst 45 dX12_ask_45 ik_m1 ?_
    refine vn_putI 46 dX12_ask_46 fl_12_256 (Or.inl rfl) rfl (g_l_291 hG144) (fun μ145 eμ145 => ?_)
    rw [sh_let_eq eμ145] at h
    have hG145 : sh_G μ145 := by rw [eμ145]; exact hG144
    refine vv_aload_n 49 0 dX12_ask_49 rfl rfl ?_
    refine vv_iconst 50 dX12_ask_50 ik_2 ?_
    refine vn_putI 51 dX12_ask_51 fl_12_311 (Or.inl rfl) rfl (g_l_291 hG145) (fun μ146 eμ146 => ?_)
    rw [sh_let_eq eμ146] at h
    have hG146 : sh_G μ146 := by rw [eμ146]; exact hG145
    refine vv_aload_n 54 0 dX12_ask_54 rfl rfl ?_
    refine vv_iconst 55 dX12_ask_55 ik_0 ?_
    refine vn_putI 56 dX12_ask_56 fl_12_344 (Or.inl rfl) rfl (g_l_291 hG146) (fun μ147 eμ147 => ?_)
    rw [sh_let_eq eμ147] at h
    have hG147 : sh_G μ147 := by rw [eμ147]; exact hG146
    refine vv_aload_n 59 0 dX12_ask_59 rfl rfl ?_
    refine vv_iconst 60 dX12_ask_60 ik_0 ?_
    refine vn_putI 61 dX12_ask_61 fl_12_347 (Or.inl rfl) rfl (g_l_291 hG147) (fun μ148 eμ148 => ?_)
    rw [sh_let_eq eμ148] at h
    have hG148 : sh_G μ148 := by rw [eμ148]; exact hG147
    refine vv_aload_n 64 0 dX12_ask_64 rfl rfl ?_
    refine vv_iconst 65 dX12_ask_65 ik_0 ?_
    refine vn_putI 66 dX12_ask_66 fl_12_350 (Or.inl rfl) rfl (g_l_291 hG148) (fun μ149 eμ149 => ?_)
    rw [sh_let_eq eμ149] at h
    have hG149 : sh_G μ149 := by rw [eμ149]; exact hG148
    refine vv_aload_n 69 0 dX12_ask_69 rfl rfl ?_
    refine vv_iconst 70 dX12_ask_70 ik_0 ?_
    refine vn_putI 71 dX12_ask_71 fl_12_353 (Or.inl rfl) rfl (g_l_291 hG149) (fun μ150 eμ150 => ?_)
    rw [sh_let_eq eμ150] at h
    have hG150 : sh_G μ150 := by rw [eμ150]; exact hG149
    refine vv_aload_n 74 0 dX12_ask_74 rfl rfl ?_
    obtain ⟨y153, μ151, hr152, h⟩ := sh_bind_e h
    refine v1_callV [] 75 dX12_ask_75 ck_X12_722 (g_l_291 hG150) ⟨by decide, rfl⟩ (t_X12_qKind hG150 hr152) (Nat.le_of_ble_eq_true rfl) ⟨Nat.le_of_ble_eq_true rfl, Nat.le_of_ble_eq_true rfl⟩ rfl (Nat.le_of_ble_eq_true rfl) ?_
    have hG151 := gp_X12_qKind hG150 hr152
    refine vv_istore_n (lv' := [(1, _), (0, _)]) 78 1 dX12_ask_78 rfl (by decide) rfl ?_
    refine vv_aload_n 79 0 dX12_ask_79 rfl rfl ?_
    refine vv_getI 80 dX12_ask_80 fl_12_253 rfl (g_l_291 hG151) ?_
    refine vv_if_ne 83 98 dX12_ask_83 (by decide) (fun c154 => ?_) (fun c154 => ?_)
    · rw [if_neg c154] at h
      refine vv_sub [(0, _), (1, _)] (sh_subm [1, 0] rfl) ?_
      exact ih_98 hG151 h
    · rw [if_pos c154] at h
      refine vv_iload_n 86 1 dX12_ask_86 rfl rfl ?_
      refine vv_iconst 87 dX12_ask_87 ik_3 ?_
      refine vv_icmp_ge 88 98 dX12_ask_88 (by decide) (fun c155 => ?_) (fun c155 => ?_)
      · rw [if_pos c155] at h
        refine vv_sub [(0, _), (1, _)] (sh_subm [1, 0] rfl) ?_
        exact ih_98 hG151 h
      · rw [if_neg c155] at h
        refine vv_aload_n 91 0 dX12_ask_91 rfl rfl ?_
        obtain ⟨μ156, hr157, h⟩ := sh_bindv_e h
        refine v1_callV [] 92 dX12_ask_92 ck_X12_356 (g_l_291 hG151) ⟨by decide, rfl⟩ (t_X12_qTest hG151 hr157) (Nat.le_of_ble_eq_true rfl) ⟨Nat.le_of_ble_eq_true rfl, Nat.le_of_ble_eq_true rfl⟩ rfl (Nat.le_of_ble_eq_true rfl) ?_
        have hG156 := gp_X12_qTest hG151 hr157
        refine vv_goto 95 109 dX12_ask_95 (by decide) ?_
        refine vv_sub [(0, _), (1, _)] (sh_subm [1, 0] rfl) ?_
        exact ih_109 hG156 h
  · rw [if_pos c139] at h
    refine vv_aload_n 7 0 dX12_ask_7 rfl rfl ?_
    refine vv_iconst 8 dX12_ask_8 ik_0 ?_
    refine vn_putI 9 dX12_ask_9 fl_12_250 (Or.inl rfl) rfl (g_l_291 hG) (fun μ159 eμ159 => ?_)
    rw [sh_let_eq eμ159] at h
    have hG159 : sh_G μ159 := by rw [eμ159]; exact hG
    refine vv_ldc2 12 dX12_ask_12 kl_12_720 ?_
    obtain ⟨e1, e2⟩ := sh_some2 h
    refine vv_lret 15 dX12_ask_15 rfl (Nat.le_refl _) (Nat.le_refl _) ⟨by rw [e1], e2⟩
noncomputable def F_X12_codesTold : Nat → Nat → Int32 → Int32 → Int32 → sh_Mem → Option sh_Mem
  | 0, _, _, _, _, _ => none
  | fuel + 1, lbl, i1, i2, i3, μ => match lbl with
    | 1 => (if (sh_i μ 291 103) ≤ i3 then (if sh_in i1 6 then sh_let (sh_setI μ 328 i1.toNatClampNeg (sh_i μ 291 48)) (fun μ130 => some μ130) else none) else (if sh_in i3 1700 then (if sh_in (sh_i μ 291 48) 3200 then sh_let (sh_setI μ 329 ((sh_i μ 291 48)).toNatClampNeg (sh_i μ 364 i3.toNatClampNeg)) (fun μ133 => sh_let (sh_setI μ133 291 48 ((sh_i μ133 291 48) + 1)) (fun μ134 => F_X12_codesTold fuel 1 i1 i2 (i3 + 1) μ134)) else none) else none))
    | _ => none
noncomputable def f_X12_codesTold (a1 : Int32) (a2 : Int32) (μ : sh_Mem) : Option sh_Mem := (if (sh_i μ 291 5) = 0 then (if sh_in a1 6 then (if (sh_i μ 327 a1.toNatClampNeg) = (-1) then (if (sh_i μ 291 5) = 0 then (if a1 = 0 then sh_let (sh_setI μ 291 51 1) (fun μ196 => sh_let (sh_setI μ196 291 103 0) (fun μ197 => sh_let (sh_setI μ197 291 105 0) (fun μ198 => sh_let (sh_setI μ198 291 106 0) (fun μ199 => sh_let (sh_setI μ199 291 107 0) (fun μ200 => (if a1 = 2 then sh_bindv (f_X12_qTest μ200) (fun μ208 => (if (sh_i μ208 291 5) = 0 then (if sh_in a1 6 then sh_let (sh_setI μ208 327 a1.toNatClampNeg (sh_i μ208 291 48)) (fun μ213 => F_X12_codesTold sh_fuel 1 a1 a2 0 μ213) else none) else some μ208)) else sh_bindv (f_X12_qSums μ200) (fun μ202 => (if (sh_i μ202 291 5) = 0 then (if sh_in a1 6 then sh_let (sh_setI μ202 327 a1.toNatClampNeg (sh_i μ202 291 48)) (fun μ207 => F_X12_codesTold sh_fuel 1 a1 a2 0 μ207) else none) else some μ202)))))))) else sh_let (sh_setI μ 291 51 0) (fun μ178 => sh_let (sh_setI μ178 291 103 0) (fun μ179 => sh_let (sh_setI μ179 291 105 0) (fun μ180 => sh_let (sh_setI μ180 291 106 0) (fun μ181 => sh_let (sh_setI μ181 291 107 0) (fun μ182 => (if a1 = 2 then sh_bindv (f_X12_qTest μ182) (fun μ190 => (if (sh_i μ190 291 5) = 0 then (if sh_in a1 6 then sh_let (sh_setI μ190 327 a1.toNatClampNeg (sh_i μ190 291 48)) (fun μ195 => F_X12_codesTold sh_fuel 1 a1 a2 0 μ195) else none) else some μ190)) else sh_bindv (f_X12_qSums μ182) (fun μ184 => (if (sh_i μ184 291 5) = 0 then (if sh_in a1 6 then sh_let (sh_setI μ184 327 a1.toNatClampNeg (sh_i μ184 291 48)) (fun μ189 => F_X12_codesTold sh_fuel 1 a1 a2 0 μ189) else none) else some μ184))))))))) else some μ) else sh_bindv (f_X12_fail 5 a2 μ) (fun μ214 => (if (sh_i μ214 291 5) = 0 then (if a1 = 0 then sh_let (sh_setI μ214 291 51 1) (fun μ237 => sh_let (sh_setI μ237 291 103 0) (fun μ238 => sh_let (sh_setI μ238 291 105 0) (fun μ239 => sh_let (sh_setI μ239 291 106 0) (fun μ240 => sh_let (sh_setI μ240 291 107 0) (fun μ241 => (if a1 = 2 then sh_bindv (f_X12_qTest μ241) (fun μ249 => (if (sh_i μ249 291 5) = 0 then (if sh_in a1 6 then sh_let (sh_setI μ249 327 a1.toNatClampNeg (sh_i μ249 291 48)) (fun μ254 => F_X12_codesTold sh_fuel 1 a1 a2 0 μ254) else none) else some μ249)) else sh_bindv (f_X12_qSums μ241) (fun μ243 => (if (sh_i μ243 291 5) = 0 then (if sh_in a1 6 then sh_let (sh_setI μ243 327 a1.toNatClampNeg (sh_i μ243 291 48)) (fun μ248 => F_X12_codesTold sh_fuel 1 a1 a2 0 μ248) else none) else some μ243)))))))) else sh_let (sh_setI μ214 291 51 0) (fun μ219 => sh_let (sh_setI μ219 291 103 0) (fun μ220 => sh_let (sh_setI μ220 291 105 0) (fun μ221 => sh_let (sh_setI μ221 291 106 0) (fun μ222 => sh_let (sh_setI μ222 291 107 0) (fun μ223 => (if a1 = 2 then sh_bindv (f_X12_qTest μ223) (fun μ231 => (if (sh_i μ231 291 5) = 0 then (if sh_in a1 6 then sh_let (sh_setI μ231 327 a1.toNatClampNeg (sh_i μ231 291 48)) (fun μ236 => F_X12_codesTold sh_fuel 1 a1 a2 0 μ236) else none) else some μ231)) else sh_bindv (f_X12_qSums μ223) (fun μ225 => (if (sh_i μ225 291 5) = 0 then (if sh_in a1 6 then sh_let (sh_setI μ225 327 a1.toNatClampNeg (sh_i μ225 291 48)) (fun μ230 => F_X12_codesTold sh_fuel 1 a1 a2 0 μ230) else none) else some μ225))))))))) else some μ214))) else none) else (if (sh_i μ 291 5) = 0 then (if a1 = 0 then sh_let (sh_setI μ 291 51 1) (fun μ156 => sh_let (sh_setI μ156 291 103 0) (fun μ157 => sh_let (sh_setI μ157 291 105 0) (fun μ158 => sh_let (sh_setI μ158 291 106 0) (fun μ159 => sh_let (sh_setI μ159 291 107 0) (fun μ160 => (if a1 = 2 then sh_bindv (f_X12_qTest μ160) (fun μ168 => (if (sh_i μ168 291 5) = 0 then (if sh_in a1 6 then sh_let (sh_setI μ168 327 a1.toNatClampNeg (sh_i μ168 291 48)) (fun μ173 => F_X12_codesTold sh_fuel 1 a1 a2 0 μ173) else none) else some μ168)) else sh_bindv (f_X12_qSums μ160) (fun μ162 => (if (sh_i μ162 291 5) = 0 then (if sh_in a1 6 then sh_let (sh_setI μ162 327 a1.toNatClampNeg (sh_i μ162 291 48)) (fun μ167 => F_X12_codesTold sh_fuel 1 a1 a2 0 μ167) else none) else some μ162)))))))) else sh_let (sh_setI μ 291 51 0) (fun μ138 => sh_let (sh_setI μ138 291 103 0) (fun μ139 => sh_let (sh_setI μ139 291 105 0) (fun μ140 => sh_let (sh_setI μ140 291 106 0) (fun μ141 => sh_let (sh_setI μ141 291 107 0) (fun μ142 => (if a1 = 2 then sh_bindv (f_X12_qTest μ142) (fun μ150 => (if (sh_i μ150 291 5) = 0 then (if sh_in a1 6 then sh_let (sh_setI μ150 327 a1.toNatClampNeg (sh_i μ150 291 48)) (fun μ155 => F_X12_codesTold sh_fuel 1 a1 a2 0 μ155) else none) else some μ150)) else sh_bindv (f_X12_qSums μ142) (fun μ144 => (if (sh_i μ144 291 5) = 0 then (if sh_in a1 6 then sh_let (sh_setI μ144 327 a1.toNatClampNeg (sh_i μ144 291 48)) (fun μ149 => F_X12_codesTold sh_fuel 1 a1 a2 0 μ149) else none) else some μ144))))))))) else some μ))
theorem gpl_X12_codesTold (fuel : Nat) : (∀ ⦃i1 : Int32⦄ ⦃i2 : Int32⦄ ⦃i3 : Int32⦄ ⦃μ μ' : sh_Mem⦄, sh_G μ → F_X12_codesTold fuel 1 i1 i2 i3 μ = some μ' → sh_G μ') := by
  induction fuel with
  | zero => intro i1 i2 i3 μ μ' hG h; cases h
  | succ fuel ih =>
    have ih_100 := ih
    intro i1 i2 i3 μ μ' hG h
    replace h : ((if (sh_i μ 291 103) ≤ i3 then (if sh_in i1 6 then sh_let (sh_setI μ 328 i1.toNatClampNeg (sh_i μ 291 48)) (fun μ130 => some μ130) else none) else (if sh_in i3 1700 then (if sh_in (sh_i μ 291 48) 3200 then sh_let (sh_setI μ 329 ((sh_i μ 291 48)).toNatClampNeg (sh_i μ 364 i3.toNatClampNeg)) (fun μ133 => sh_let (sh_setI μ133 291 48 ((sh_i μ133 291 48) + 1)) (fun μ134 => F_X12_codesTold fuel 1 i1 i2 (i3 + 1) μ134)) else none) else none)) : Option sh_Mem) = some μ' := h
    by_cases c128 : (sh_i μ 291 103) ≤ i3
    · rw [if_pos c128] at h
      obtain ⟨k129, h⟩ := sh_chk h
      obtain ⟨μ130, eμ130⟩ : ∃ y : sh_Mem, y = (sh_setI μ 328 i1.toNatClampNeg (sh_i μ 291 48)) := ⟨_, rfl⟩
      rw [sh_let_eq eμ130] at h
      have hG130 : sh_G μ130 := by rw [eμ130]; exact hG
      have e2 := Option.some.inj h
      exact e2 ▸ hG130
    · rw [if_neg c128] at h
      obtain ⟨k131, h⟩ := sh_chk h
      obtain ⟨k132, h⟩ := sh_chk h
      obtain ⟨μ133, eμ133⟩ : ∃ y : sh_Mem, y = (sh_setI μ 329 ((sh_i μ 291 48)).toNatClampNeg (sh_i μ 364 i3.toNatClampNeg)) := ⟨_, rfl⟩
      rw [sh_let_eq eμ133] at h
      have hG133 : sh_G μ133 := by rw [eμ133]; exact hG
      obtain ⟨μ134, eμ134⟩ : ∃ y : sh_Mem, y = (sh_setI μ133 291 48 ((sh_i μ133 291 48) + 1)) := ⟨_, rfl⟩
      rw [sh_let_eq eμ134] at h
      have hG134 : sh_G μ134 := by rw [eμ134]; exact hG133
      exact ih_100 hG134 h
theorem tl_X12_codesTold (fuel : Nat) : (∀ ⦃i1 : Int32⦄ ⦃i2 : Int32⦄ ⦃i3 : Int32⦄ ⦃μ μ' : sh_Mem⦄, sh_G μ → F_X12_codesTold fuel 1 i1 i2 i3 μ = some μ' → sh_V0 l B D ca 10 M_X12_codesTold 100 [(0, .ref 291), (1, .int i1), (2, .int i2), (3, .int i3)] [] μ (fun v0 μ0 => v0 = none ∧ μ0 = μ')) := by
  induction fuel with
  | zero => intro i1 i2 i3 μ μ' hG h; cases h
  | succ fuel ih =>
    have ih_100 := ih
    intro i1 i2 i3 μ μ' hG h
    replace h : ((if (sh_i μ 291 103) ≤ i3 then (if sh_in i1 6 then sh_let (sh_setI μ 328 i1.toNatClampNeg (sh_i μ 291 48)) (fun μ130 => some μ130) else none) else (if sh_in i3 1700 then (if sh_in (sh_i μ 291 48) 3200 then sh_let (sh_setI μ 329 ((sh_i μ 291 48)).toNatClampNeg (sh_i μ 364 i3.toNatClampNeg)) (fun μ133 => sh_let (sh_setI μ133 291 48 ((sh_i μ133 291 48) + 1)) (fun μ134 => F_X12_codesTold fuel 1 i1 i2 (i3 + 1) μ134)) else none) else none)) : Option sh_Mem) = some μ' := h
    refine vv_iload_n 100 3 dX12_codesTold_100 rfl rfl ?_
    refine vv_aload_n 101 0 dX12_codesTold_101 rfl rfl ?_
    refine vv_getI 102 dX12_codesTold_102 fl_12_344 rfl (g_l_291 hG) ?_
    refine vv_icmp_ge 105 139 dX12_codesTold_105 (by decide) (fun c128 => ?_) (fun c128 => ?_)
    · rw [if_pos c128] at h
      refine vv_aload_n 139 0 dX12_codesTold_139 rfl rfl ?_
      refine vv_getR 140 dX12_codesTold_140 fl_12_124 rfl (g_l_291 hG) (g_r_291_46 hG) ?_
      refine vv_iload_n 143 1 dX12_codesTold_143 rfl rfl ?_
      refine vv_aload_n 144 0 dX12_codesTold_144 rfl rfl ?_
      refine vv_getI 145 dX12_codesTold_145 fl_12_362 rfl (g_l_291 hG) ?_
      obtain ⟨k129, h⟩ := sh_chk h
      refine vn_iast 148 dX12_codesTold_148 (g_l_328 hG) k129 (fun μ130 eμ130 => ?_)
      rw [sh_let_eq eμ130] at h
      have hG130 : sh_G μ130 := by rw [eμ130]; exact hG
      have e2 := Option.some.inj h
      refine vv_vret 149 dX12_codesTold_149 rfl (Nat.le_refl _) (Nat.le_refl _) ⟨rfl, e2⟩
    · rw [if_neg c128] at h
      refine vv_aload_n 108 0 dX12_codesTold_108 rfl rfl ?_
      refine vv_getR 109 dX12_codesTold_109 fl_12_127 rfl (g_l_291 hG) (g_r_291_47 hG) ?_
      refine vv_aload_n 112 0 dX12_codesTold_112 rfl rfl ?_
      refine vv_getI 113 dX12_codesTold_113 fl_12_362 rfl (g_l_291 hG) ?_
      refine vv_aload_n 116 0 dX12_codesTold_116 rfl rfl ?_
      refine vv_getR 117 dX12_codesTold_117 fl_12_236 rfl (g_l_291 hG) (g_r_291_102 hG) ?_
      refine vv_iload_n 120 3 dX12_codesTold_120 rfl rfl ?_
      obtain ⟨k131, h⟩ := sh_chk h
      refine vv_iald 121 dX12_codesTold_121 (g_l_364 hG) k131 ?_
      obtain ⟨k132, h⟩ := sh_chk h
      refine vn_iast 122 dX12_codesTold_122 (g_l_329 hG) k132 (fun μ133 eμ133 => ?_)
      rw [sh_let_eq eμ133] at h
      have hG133 : sh_G μ133 := by rw [eμ133]; exact hG
      refine vv_aload_n 123 0 dX12_codesTold_123 rfl rfl ?_
      refine vv_dup_ref 124 dX12_codesTold_124 ?_
      refine vv_getI 125 dX12_codesTold_125 fl_12_362 rfl (g_l_291 hG133) ?_
      refine vv_iconst 128 dX12_codesTold_128 ik_1 ?_
      refine vv_iadd 129 dX12_codesTold_129 ?_
      refine vn_putI 130 dX12_codesTold_130 fl_12_362 (Or.inl rfl) rfl (g_l_291 hG133) (fun μ134 eμ134 => ?_)
      rw [sh_let_eq eμ134] at h
      have hG134 : sh_G μ134 := by rw [eμ134]; exact hG133
      refine vv_iincc (lv' := [(3, _), (0, _), (1, _), (2, _)]) 133 3 dX12_codesTold_133 rfl ik_1 (by decide) rfl ?_
      refine vv_goto 136 100 dX12_codesTold_136 (by decide) ?_
      refine vv_sub [(0, _), (1, _), (2, _), (3, _)] (sh_subm [1, 2, 3, 0] rfl) ?_
      exact ih_100 hG134 h
theorem gp_X12_codesTold {a1 : Int32} {a2 : Int32} {μ μ' : sh_Mem} (hG : sh_G μ) (h : f_X12_codesTold a1 a2 μ = some μ') : sh_G μ' := by
  have ih_100 := (gpl_X12_codesTold sh_fuel)
  unfold f_X12_codesTold at h
  by_cases c135 : (sh_i μ 291 5) = 0
  · rw [if_pos c135] at h
    obtain ⟨k174, h⟩ := sh_chk h
    by_cases c175 : (sh_i μ 327 a1.toNatClampNeg) = (-1)
    · rw [if_pos c175] at h
      by_cases c176 : (sh_i μ 291 5) = 0
      · rw [if_pos c176] at h
        by_cases c177 : a1 = 0
        · rw [if_pos c177] at h
          obtain ⟨μ196, eμ196⟩ : ∃ y : sh_Mem, y = (sh_setI μ 291 51 1) := ⟨_, rfl⟩
          rw [sh_let_eq eμ196] at h
          have hG196 : sh_G μ196 := by rw [eμ196]; exact hG
          obtain ⟨μ197, eμ197⟩ : ∃ y : sh_Mem, y = (sh_setI μ196 291 103 0) := ⟨_, rfl⟩
          rw [sh_let_eq eμ197] at h
          have hG197 : sh_G μ197 := by rw [eμ197]; exact hG196
          obtain ⟨μ198, eμ198⟩ : ∃ y : sh_Mem, y = (sh_setI μ197 291 105 0) := ⟨_, rfl⟩
          rw [sh_let_eq eμ198] at h
          have hG198 : sh_G μ198 := by rw [eμ198]; exact hG197
          obtain ⟨μ199, eμ199⟩ : ∃ y : sh_Mem, y = (sh_setI μ198 291 106 0) := ⟨_, rfl⟩
          rw [sh_let_eq eμ199] at h
          have hG199 : sh_G μ199 := by rw [eμ199]; exact hG198
          obtain ⟨μ200, eμ200⟩ : ∃ y : sh_Mem, y = (sh_setI μ199 291 107 0) := ⟨_, rfl⟩
          rw [sh_let_eq eμ200] at h
          have hG200 : sh_G μ200 := by rw [eμ200]; exact hG199
          by_cases c201 : a1 = 2
          · rw [if_pos c201] at h
            obtain ⟨μ208, hr209, h⟩ := sh_bindv_e h
            have hG208 := gp_X12_qTest hG200 hr209
            by_cases c211 : (sh_i μ208 291 5) = 0
            · rw [if_pos c211] at h
              obtain ⟨k212, h⟩ := sh_chk h
              obtain ⟨μ213, eμ213⟩ : ∃ y : sh_Mem, y = (sh_setI μ208 327 a1.toNatClampNeg (sh_i μ208 291 48)) := ⟨_, rfl⟩
              rw [sh_let_eq eμ213] at h
              have hG213 : sh_G μ213 := by rw [eμ213]; exact hG208
              exact ih_100 hG213 h
            · rw [if_neg c211] at h
              have e2 := Option.some.inj h
              exact e2 ▸ hG208
          · rw [if_neg c201] at h
            obtain ⟨μ202, hr203, h⟩ := sh_bindv_e h
            have hG202 := gp_X12_qSums hG200 hr203
            by_cases c205 : (sh_i μ202 291 5) = 0
            · rw [if_pos c205] at h
              obtain ⟨k206, h⟩ := sh_chk h
              obtain ⟨μ207, eμ207⟩ : ∃ y : sh_Mem, y = (sh_setI μ202 327 a1.toNatClampNeg (sh_i μ202 291 48)) := ⟨_, rfl⟩
              rw [sh_let_eq eμ207] at h
              have hG207 : sh_G μ207 := by rw [eμ207]; exact hG202
              exact ih_100 hG207 h
            · rw [if_neg c205] at h
              have e2 := Option.some.inj h
              exact e2 ▸ hG202
        · rw [if_neg c177] at h
          obtain ⟨μ178, eμ178⟩ : ∃ y : sh_Mem, y = (sh_setI μ 291 51 0) := ⟨_, rfl⟩
          rw [sh_let_eq eμ178] at h
          have hG178 : sh_G μ178 := by rw [eμ178]; exact hG
          obtain ⟨μ179, eμ179⟩ : ∃ y : sh_Mem, y = (sh_setI μ178 291 103 0) := ⟨_, rfl⟩
          rw [sh_let_eq eμ179] at h
          have hG179 : sh_G μ179 := by rw [eμ179]; exact hG178
          obtain ⟨μ180, eμ180⟩ : ∃ y : sh_Mem, y = (sh_setI μ179 291 105 0) := ⟨_, rfl⟩
          rw [sh_let_eq eμ180] at h
          have hG180 : sh_G μ180 := by rw [eμ180]; exact hG179
          obtain ⟨μ181, eμ181⟩ : ∃ y : sh_Mem, y = (sh_setI μ180 291 106 0) := ⟨_, rfl⟩
          rw [sh_let_eq eμ181] at h
          have hG181 : sh_G μ181 := by rw [eμ181]; exact hG180
          obtain ⟨μ182, eμ182⟩ : ∃ y : sh_Mem, y = (sh_setI μ181 291 107 0) := ⟨_, rfl⟩
          rw [sh_let_eq eμ182] at h
          have hG182 : sh_G μ182 := by rw [eμ182]; exact hG181
          by_cases c183 : a1 = 2
          · rw [if_pos c183] at h
            obtain ⟨μ190, hr191, h⟩ := sh_bindv_e h
            have hG190 := gp_X12_qTest hG182 hr191
            by_cases c193 : (sh_i μ190 291 5) = 0
            · rw [if_pos c193] at h
              obtain ⟨k194, h⟩ := sh_chk h
              obtain ⟨μ195, eμ195⟩ : ∃ y : sh_Mem, y = (sh_setI μ190 327 a1.toNatClampNeg (sh_i μ190 291 48)) := ⟨_, rfl⟩
              rw [sh_let_eq eμ195] at h
              have hG195 : sh_G μ195 := by rw [eμ195]; exact hG190
              exact ih_100 hG195 h
            · rw [if_neg c193] at h
              have e2 := Option.some.inj h
              exact e2 ▸ hG190
          · rw [if_neg c183] at h
            obtain ⟨μ184, hr185, h⟩ := sh_bindv_e h
            have hG184 := gp_X12_qSums hG182 hr185
            by_cases c187 : (sh_i μ184 291 5) = 0
            · rw [if_pos c187] at h
              obtain ⟨k188, h⟩ := sh_chk h
              obtain ⟨μ189, eμ189⟩ : ∃ y : sh_Mem, y = (sh_setI μ184 327 a1.toNatClampNeg (sh_i μ184 291 48)) := ⟨_, rfl⟩
              rw [sh_let_eq eμ189] at h
              have hG189 : sh_G μ189 := by rw [eμ189]; exact hG184
              exact ih_100 hG189 h
            · rw [if_neg c187] at h
              have e2 := Option.some.inj h
              exact e2 ▸ hG184
      · rw [if_neg c176] at h
        have e2 := Option.some.inj h
        exact e2 ▸ hG
    · rw [if_neg c175] at h
      obtain ⟨μ214, hr215, h⟩ := sh_bindv_e h
      have hG214 := gp_X12_fail hG hr215
      by_cases c217 : (sh_i μ214 291 5) = 0
      · rw [if_pos c217] at h
        by_cases c218 : a1 = 0
        · rw [if_pos c218] at h
          obtain ⟨μ237, eμ237⟩ : ∃ y : sh_Mem, y = (sh_setI μ214 291 51 1) := ⟨_, rfl⟩
          rw [sh_let_eq eμ237] at h
          have hG237 : sh_G μ237 := by rw [eμ237]; exact hG214
          obtain ⟨μ238, eμ238⟩ : ∃ y : sh_Mem, y = (sh_setI μ237 291 103 0) := ⟨_, rfl⟩
          rw [sh_let_eq eμ238] at h
          have hG238 : sh_G μ238 := by rw [eμ238]; exact hG237
          obtain ⟨μ239, eμ239⟩ : ∃ y : sh_Mem, y = (sh_setI μ238 291 105 0) := ⟨_, rfl⟩
          rw [sh_let_eq eμ239] at h
          have hG239 : sh_G μ239 := by rw [eμ239]; exact hG238
          obtain ⟨μ240, eμ240⟩ : ∃ y : sh_Mem, y = (sh_setI μ239 291 106 0) := ⟨_, rfl⟩
          rw [sh_let_eq eμ240] at h
          have hG240 : sh_G μ240 := by rw [eμ240]; exact hG239
          obtain ⟨μ241, eμ241⟩ : ∃ y : sh_Mem, y = (sh_setI μ240 291 107 0) := ⟨_, rfl⟩
          rw [sh_let_eq eμ241] at h
          have hG241 : sh_G μ241 := by rw [eμ241]; exact hG240
          by_cases c242 : a1 = 2
          · rw [if_pos c242] at h
            obtain ⟨μ249, hr250, h⟩ := sh_bindv_e h
            have hG249 := gp_X12_qTest hG241 hr250
            by_cases c252 : (sh_i μ249 291 5) = 0
            · rw [if_pos c252] at h
              obtain ⟨k253, h⟩ := sh_chk h
              obtain ⟨μ254, eμ254⟩ : ∃ y : sh_Mem, y = (sh_setI μ249 327 a1.toNatClampNeg (sh_i μ249 291 48)) := ⟨_, rfl⟩
              rw [sh_let_eq eμ254] at h
              have hG254 : sh_G μ254 := by rw [eμ254]; exact hG249
              exact ih_100 hG254 h
            · rw [if_neg c252] at h
              have e2 := Option.some.inj h
              exact e2 ▸ hG249
          · rw [if_neg c242] at h
            obtain ⟨μ243, hr244, h⟩ := sh_bindv_e h
            have hG243 := gp_X12_qSums hG241 hr244
            by_cases c246 : (sh_i μ243 291 5) = 0
            · rw [if_pos c246] at h
              obtain ⟨k247, h⟩ := sh_chk h
              obtain ⟨μ248, eμ248⟩ : ∃ y : sh_Mem, y = (sh_setI μ243 327 a1.toNatClampNeg (sh_i μ243 291 48)) := ⟨_, rfl⟩
              rw [sh_let_eq eμ248] at h
              have hG248 : sh_G μ248 := by rw [eμ248]; exact hG243
              exact ih_100 hG248 h
            · rw [if_neg c246] at h
              have e2 := Option.some.inj h
              exact e2 ▸ hG243
        · rw [if_neg c218] at h
          obtain ⟨μ219, eμ219⟩ : ∃ y : sh_Mem, y = (sh_setI μ214 291 51 0) := ⟨_, rfl⟩
          rw [sh_let_eq eμ219] at h
          have hG219 : sh_G μ219 := by rw [eμ219]; exact hG214
          obtain ⟨μ220, eμ220⟩ : ∃ y : sh_Mem, y = (sh_setI μ219 291 103 0) := ⟨_, rfl⟩
          rw [sh_let_eq eμ220] at h
          have hG220 : sh_G μ220 := by rw [eμ220]; exact hG219
          obtain ⟨μ221, eμ221⟩ : ∃ y : sh_Mem, y = (sh_setI μ220 291 105 0) := ⟨_, rfl⟩
          rw [sh_let_eq eμ221] at h
          have hG221 : sh_G μ221 := by rw [eμ221]; exact hG220
          obtain ⟨μ222, eμ222⟩ : ∃ y : sh_Mem, y = (sh_setI μ221 291 106 0) := ⟨_, rfl⟩
          rw [sh_let_eq eμ222] at h
          have hG222 : sh_G μ222 := by rw [eμ222]; exact hG221
          obtain ⟨μ223, eμ223⟩ : ∃ y : sh_Mem, y = (sh_setI μ222 291 107 0) := ⟨_, rfl⟩
          rw [sh_let_eq eμ223] at h
          have hG223 : sh_G μ223 := by rw [eμ223]; exact hG222
          by_cases c224 : a1 = 2
          · rw [if_pos c224] at h
            obtain ⟨μ231, hr232, h⟩ := sh_bindv_e h
            have hG231 := gp_X12_qTest hG223 hr232
            by_cases c234 : (sh_i μ231 291 5) = 0
            · rw [if_pos c234] at h
              obtain ⟨k235, h⟩ := sh_chk h
              obtain ⟨μ236, eμ236⟩ : ∃ y : sh_Mem, y = (sh_setI μ231 327 a1.toNatClampNeg (sh_i μ231 291 48)) := ⟨_, rfl⟩
              rw [sh_let_eq eμ236] at h
              have hG236 : sh_G μ236 := by rw [eμ236]; exact hG231
              exact ih_100 hG236 h
            · rw [if_neg c234] at h
              have e2 := Option.some.inj h
              exact e2 ▸ hG231
          · rw [if_neg c224] at h
            obtain ⟨μ225, hr226, h⟩ := sh_bindv_e h
            have hG225 := gp_X12_qSums hG223 hr226
            by_cases c228 : (sh_i μ225 291 5) = 0
            · rw [if_pos c228] at h
              obtain ⟨k229, h⟩ := sh_chk h
              obtain ⟨μ230, eμ230⟩ : ∃ y : sh_Mem, y = (sh_setI μ225 327 a1.toNatClampNeg (sh_i μ225 291 48)) := ⟨_, rfl⟩
              rw [sh_let_eq eμ230] at h
              have hG230 : sh_G μ230 := by rw [eμ230]; exact hG225
              exact ih_100 hG230 h
            · rw [if_neg c228] at h
              have e2 := Option.some.inj h
              exact e2 ▸ hG225
      · rw [if_neg c217] at h
        have e2 := Option.some.inj h
        exact e2 ▸ hG214
  · rw [if_neg c135] at h
    by_cases c136 : (sh_i μ 291 5) = 0
    · rw [if_pos c136] at h
      by_cases c137 : a1 = 0
      · rw [if_pos c137] at h
        obtain ⟨μ156, eμ156⟩ : ∃ y : sh_Mem, y = (sh_setI μ 291 51 1) := ⟨_, rfl⟩
        rw [sh_let_eq eμ156] at h
        have hG156 : sh_G μ156 := by rw [eμ156]; exact hG
        obtain ⟨μ157, eμ157⟩ : ∃ y : sh_Mem, y = (sh_setI μ156 291 103 0) := ⟨_, rfl⟩
        rw [sh_let_eq eμ157] at h
        have hG157 : sh_G μ157 := by rw [eμ157]; exact hG156
        obtain ⟨μ158, eμ158⟩ : ∃ y : sh_Mem, y = (sh_setI μ157 291 105 0) := ⟨_, rfl⟩
        rw [sh_let_eq eμ158] at h
        have hG158 : sh_G μ158 := by rw [eμ158]; exact hG157
        obtain ⟨μ159, eμ159⟩ : ∃ y : sh_Mem, y = (sh_setI μ158 291 106 0) := ⟨_, rfl⟩
        rw [sh_let_eq eμ159] at h
        have hG159 : sh_G μ159 := by rw [eμ159]; exact hG158
        obtain ⟨μ160, eμ160⟩ : ∃ y : sh_Mem, y = (sh_setI μ159 291 107 0) := ⟨_, rfl⟩
        rw [sh_let_eq eμ160] at h
        have hG160 : sh_G μ160 := by rw [eμ160]; exact hG159
        by_cases c161 : a1 = 2
        · rw [if_pos c161] at h
          obtain ⟨μ168, hr169, h⟩ := sh_bindv_e h
          have hG168 := gp_X12_qTest hG160 hr169
          by_cases c171 : (sh_i μ168 291 5) = 0
          · rw [if_pos c171] at h
            obtain ⟨k172, h⟩ := sh_chk h
            obtain ⟨μ173, eμ173⟩ : ∃ y : sh_Mem, y = (sh_setI μ168 327 a1.toNatClampNeg (sh_i μ168 291 48)) := ⟨_, rfl⟩
            rw [sh_let_eq eμ173] at h
            have hG173 : sh_G μ173 := by rw [eμ173]; exact hG168
            exact ih_100 hG173 h
          · rw [if_neg c171] at h
            have e2 := Option.some.inj h
            exact e2 ▸ hG168
        · rw [if_neg c161] at h
          obtain ⟨μ162, hr163, h⟩ := sh_bindv_e h
          have hG162 := gp_X12_qSums hG160 hr163
          by_cases c165 : (sh_i μ162 291 5) = 0
          · rw [if_pos c165] at h
            obtain ⟨k166, h⟩ := sh_chk h
            obtain ⟨μ167, eμ167⟩ : ∃ y : sh_Mem, y = (sh_setI μ162 327 a1.toNatClampNeg (sh_i μ162 291 48)) := ⟨_, rfl⟩
            rw [sh_let_eq eμ167] at h
            have hG167 : sh_G μ167 := by rw [eμ167]; exact hG162
            exact ih_100 hG167 h
          · rw [if_neg c165] at h
            have e2 := Option.some.inj h
            exact e2 ▸ hG162
      · rw [if_neg c137] at h
        obtain ⟨μ138, eμ138⟩ : ∃ y : sh_Mem, y = (sh_setI μ 291 51 0) := ⟨_, rfl⟩
        rw [sh_let_eq eμ138] at h
        have hG138 : sh_G μ138 := by rw [eμ138]; exact hG
        obtain ⟨μ139, eμ139⟩ : ∃ y : sh_Mem, y = (sh_setI μ138 291 103 0) := ⟨_, rfl⟩
        rw [sh_let_eq eμ139] at h
        have hG139 : sh_G μ139 := by rw [eμ139]; exact hG138
        obtain ⟨μ140, eμ140⟩ : ∃ y : sh_Mem, y = (sh_setI μ139 291 105 0) := ⟨_, rfl⟩
        rw [sh_let_eq eμ140] at h
        have hG140 : sh_G μ140 := by rw [eμ140]; exact hG139
        obtain ⟨μ141, eμ141⟩ : ∃ y : sh_Mem, y = (sh_setI μ140 291 106 0) := ⟨_, rfl⟩
        rw [sh_let_eq eμ141] at h
        have hG141 : sh_G μ141 := by rw [eμ141]; exact hG140
        obtain ⟨μ142, eμ142⟩ : ∃ y : sh_Mem, y = (sh_setI μ141 291 107 0) := ⟨_, rfl⟩
        rw [sh_let_eq eμ142] at h
        have hG142 : sh_G μ142 := by rw [eμ142]; exact hG141
        by_cases c143 : a1 = 2
        · rw [if_pos c143] at h
          obtain ⟨μ150, hr151, h⟩ := sh_bindv_e h
          have hG150 := gp_X12_qTest hG142 hr151
          by_cases c153 : (sh_i μ150 291 5) = 0
          · rw [if_pos c153] at h
            obtain ⟨k154, h⟩ := sh_chk h
            obtain ⟨μ155, eμ155⟩ : ∃ y : sh_Mem, y = (sh_setI μ150 327 a1.toNatClampNeg (sh_i μ150 291 48)) := ⟨_, rfl⟩
            rw [sh_let_eq eμ155] at h
            have hG155 : sh_G μ155 := by rw [eμ155]; exact hG150
            exact ih_100 hG155 h
          · rw [if_neg c153] at h
            have e2 := Option.some.inj h
            exact e2 ▸ hG150
        · rw [if_neg c143] at h
          obtain ⟨μ144, hr145, h⟩ := sh_bindv_e h
          have hG144 := gp_X12_qSums hG142 hr145
          by_cases c147 : (sh_i μ144 291 5) = 0
          · rw [if_pos c147] at h
            obtain ⟨k148, h⟩ := sh_chk h
            obtain ⟨μ149, eμ149⟩ : ∃ y : sh_Mem, y = (sh_setI μ144 327 a1.toNatClampNeg (sh_i μ144 291 48)) := ⟨_, rfl⟩
            rw [sh_let_eq eμ149] at h
            have hG149 : sh_G μ149 := by rw [eμ149]; exact hG144
            exact ih_100 hG149 h
          · rw [if_neg c147] at h
            have e2 := Option.some.inj h
            exact e2 ▸ hG144
    · rw [if_neg c136] at h
      have e2 := Option.some.inj h
      exact e2 ▸ hG
theorem t_X12_codesTold {a1 : Int32} {a2 : Int32} {μ μ' : sh_Mem} (hG : sh_G μ) (h : f_X12_codesTold a1 a2 μ = some μ') : sh_C0 l B D ca 10 M_X12_codesTold [.ref 291, .int a1, .int a2] μ (fun v0 μ0 => v0 = none ∧ μ0 = μ') := by
  have ih_100 := (tl_X12_codesTold (l := l) (B := B) (D := D) (ca := ca) sh_fuel)
  unfold f_X12_codesTold at h
  refine vv_aload_n 0 0 dX12_codesTold_0 rfl rfl ?_
  refine vv_getI 1 dX12_codesTold_1 fl_12_253 rfl (g_l_291 hG) ?_
  refine vv_if_ne 4 23 dX12_codesTold_4 (by decide) (fun c135 => ?_) (fun c135 => ?_)
  · rw [if_neg c135] at h
    refine vv_aload_n 23 0 dX12_codesTold_23 rfl rfl ?_
    refine vv_getI 24 dX12_codesTold_24 fl_12_253 rfl (g_l_291 hG) ?_
    refine vv_if_eq 27 31 dX12_codesTold_27 (by decide) (fun c136 => ?_) (fun c136 => ?_)
    · rw [if_pos c136] at h
      refine vv_aload_n 31 0 dX12_codesTold_31 rfl rfl ?_
      refine vv_iload_n 32 1 dX12_codesTold_32 rfl rfl ?_
      refine vv_if_ne 33 40 dX12_codesTold_33 (by decide) (fun c137 => ?_) (fun c137 => ?_)
      · rw [if_neg c137] at h
        refine vv_iconst 40 dX12_codesTold_40 ik_0 ?_
        refine vn_putI 41 dX12_codesTold_41 fl_12_311 (Or.inl rfl) rfl (g_l_291 hG) (fun μ138 eμ138 => ?_)
        rw [sh_let_eq eμ138] at h
        have hG138 : sh_G μ138 := by rw [eμ138]; exact hG
        refine vv_aload_n 44 0 dX12_codesTold_44 rfl rfl ?_
        refine vv_iconst 45 dX12_codesTold_45 ik_0 ?_
        refine vn_putI 46 dX12_codesTold_46 fl_12_344 (Or.inl rfl) rfl (g_l_291 hG138) (fun μ139 eμ139 => ?_)
        rw [sh_let_eq eμ139] at h
        have hG139 : sh_G μ139 := by rw [eμ139]; exact hG138
        refine vv_aload_n 49 0 dX12_codesTold_49 rfl rfl ?_
        refine vv_iconst 50 dX12_codesTold_50 ik_0 ?_
        refine vn_putI 51 dX12_codesTold_51 fl_12_347 (Or.inl rfl) rfl (g_l_291 hG139) (fun μ140 eμ140 => ?_)
        rw [sh_let_eq eμ140] at h
        have hG140 : sh_G μ140 := by rw [eμ140]; exact hG139
        refine vv_aload_n 54 0 dX12_codesTold_54 rfl rfl ?_
        refine vv_iconst 55 dX12_codesTold_55 ik_0 ?_
        refine vn_putI 56 dX12_codesTold_56 fl_12_350 (Or.inl rfl) rfl (g_l_291 hG140) (fun μ141 eμ141 => ?_)
        rw [sh_let_eq eμ141] at h
        have hG141 : sh_G μ141 := by rw [eμ141]; exact hG140
        refine vv_aload_n 59 0 dX12_codesTold_59 rfl rfl ?_
        refine vv_iconst 60 dX12_codesTold_60 ik_0 ?_
        refine vn_putI 61 dX12_codesTold_61 fl_12_353 (Or.inl rfl) rfl (g_l_291 hG141) (fun μ142 eμ142 => ?_)
        rw [sh_let_eq eμ142] at h
        have hG142 : sh_G μ142 := by rw [eμ142]; exact hG141
        refine vv_iload_n 64 1 dX12_codesTold_64 rfl rfl ?_
        refine vv_iconst 65 dX12_codesTold_65 ik_2 ?_
        refine vv_icmp_ne 66 76 dX12_codesTold_66 (by decide) (fun c143 => ?_) (fun c143 => ?_)
        · rw [if_neg c143] at h
          refine vv_aload_n 76 0 dX12_codesTold_76 rfl rfl ?_
          obtain ⟨μ144, hr145, h⟩ := sh_bindv_e h
          refine v1_callV [] 77 dX12_codesTold_77 ck_X12_359 (g_l_291 hG142) ⟨by decide, rfl⟩ (t_X12_qSums hG142 hr145) (Nat.le_of_ble_eq_true rfl) ⟨Nat.le_of_ble_eq_true rfl, Nat.le_of_ble_eq_true rfl⟩ rfl (Nat.le_of_ble_eq_true rfl) ?_
          have hG144 := gp_X12_qSums hG142 hr145
          refine vv_aload_n 80 0 dX12_codesTold_80 rfl rfl ?_
          refine vv_getI 81 dX12_codesTold_81 fl_12_253 rfl (g_l_291 hG144) ?_
          refine vv_if_eq 84 88 dX12_codesTold_84 (by decide) (fun c147 => ?_) (fun c147 => ?_)
          · rw [if_pos c147] at h
            refine vv_aload_n 88 0 dX12_codesTold_88 rfl rfl ?_
            refine vv_getR 89 dX12_codesTold_89 fl_12_121 rfl (g_l_291 hG144) (g_r_291_45 hG144) ?_
            refine vv_iload_n 92 1 dX12_codesTold_92 rfl rfl ?_
            refine vv_aload_n 93 0 dX12_codesTold_93 rfl rfl ?_
            refine vv_getI 94 dX12_codesTold_94 fl_12_362 rfl (g_l_291 hG144) ?_
            obtain ⟨k148, h⟩ := sh_chk h
            refine vn_iast 97 dX12_codesTold_97 (g_l_327 hG144) k148 (fun μ149 eμ149 => ?_)
            rw [sh_let_eq eμ149] at h
            have hG149 : sh_G μ149 := by rw [eμ149]; exact hG144
            refine vv_iconst 98 dX12_codesTold_98 ik_0 ?_
            refine vv_istore_n (lv' := [(3, _), (0, _), (1, _), (2, _)]) 99 3 dX12_codesTold_99 rfl (by decide) rfl ?_
            refine vv_sub [(0, _), (1, _), (2, _), (3, _)] (sh_subm [1, 2, 3, 0] rfl) ?_
            exact ih_100 hG149 h
          · rw [if_neg c147] at h
            have e2 := Option.some.inj h
            refine vv_vret 87 dX12_codesTold_87 rfl (Nat.le_refl _) (Nat.le_refl _) ⟨rfl, e2⟩
        · rw [if_pos c143] at h
          refine vv_aload_n 69 0 dX12_codesTold_69 rfl rfl ?_
          obtain ⟨μ150, hr151, h⟩ := sh_bindv_e h
          refine v1_callV [] 70 dX12_codesTold_70 ck_X12_356 (g_l_291 hG142) ⟨by decide, rfl⟩ (t_X12_qTest hG142 hr151) (Nat.le_of_ble_eq_true rfl) ⟨Nat.le_of_ble_eq_true rfl, Nat.le_of_ble_eq_true rfl⟩ rfl (Nat.le_of_ble_eq_true rfl) ?_
          have hG150 := gp_X12_qTest hG142 hr151
          refine vv_goto 73 80 dX12_codesTold_73 (by decide) ?_
          refine vv_aload_n 80 0 dX12_codesTold_80 rfl rfl ?_
          refine vv_getI 81 dX12_codesTold_81 fl_12_253 rfl (g_l_291 hG150) ?_
          refine vv_if_eq 84 88 dX12_codesTold_84 (by decide) (fun c153 => ?_) (fun c153 => ?_)
          · rw [if_pos c153] at h
            refine vv_aload_n 88 0 dX12_codesTold_88 rfl rfl ?_
            refine vv_getR 89 dX12_codesTold_89 fl_12_121 rfl (g_l_291 hG150) (g_r_291_45 hG150) ?_
            refine vv_iload_n 92 1 dX12_codesTold_92 rfl rfl ?_
            refine vv_aload_n 93 0 dX12_codesTold_93 rfl rfl ?_
            refine vv_getI 94 dX12_codesTold_94 fl_12_362 rfl (g_l_291 hG150) ?_
            obtain ⟨k154, h⟩ := sh_chk h
            refine vn_iast 97 dX12_codesTold_97 (g_l_327 hG150) k154 (fun μ155 eμ155 => ?_)
            rw [sh_let_eq eμ155] at h
            have hG155 : sh_G μ155 := by rw [eμ155]; exact hG150
            refine vv_iconst 98 dX12_codesTold_98 ik_0 ?_
            refine vv_istore_n (lv' := [(3, _), (0, _), (1, _), (2, _)]) 99 3 dX12_codesTold_99 rfl (by decide) rfl ?_
            refine vv_sub [(0, _), (1, _), (2, _), (3, _)] (sh_subm [1, 2, 3, 0] rfl) ?_
            exact ih_100 hG155 h
          · rw [if_neg c153] at h
            have e2 := Option.some.inj h
            refine vv_vret 87 dX12_codesTold_87 rfl (Nat.le_refl _) (Nat.le_refl _) ⟨rfl, e2⟩
      · rw [if_pos c137] at h
        refine vv_iconst 36 dX12_codesTold_36 ik_1 ?_
        refine vv_goto 37 41 dX12_codesTold_37 (by decide) ?_
        refine vn_putI 41 dX12_codesTold_41 fl_12_311 (Or.inl rfl) rfl (g_l_291 hG) (fun μ156 eμ156 => ?_)
        rw [sh_let_eq eμ156] at h
        have hG156 : sh_G μ156 := by rw [eμ156]; exact hG
        refine vv_aload_n 44 0 dX12_codesTold_44 rfl rfl ?_
        refine vv_iconst 45 dX12_codesTold_45 ik_0 ?_
        refine vn_putI 46 dX12_codesTold_46 fl_12_344 (Or.inl rfl) rfl (g_l_291 hG156) (fun μ157 eμ157 => ?_)
        rw [sh_let_eq eμ157] at h
        have hG157 : sh_G μ157 := by rw [eμ157]; exact hG156
        refine vv_aload_n 49 0 dX12_codesTold_49 rfl rfl ?_
        refine vv_iconst 50 dX12_codesTold_50 ik_0 ?_
        refine vn_putI 51 dX12_codesTold_51 fl_12_347 (Or.inl rfl) rfl (g_l_291 hG157) (fun μ158 eμ158 => ?_)
        rw [sh_let_eq eμ158] at h
        have hG158 : sh_G μ158 := by rw [eμ158]; exact hG157
        refine vv_aload_n 54 0 dX12_codesTold_54 rfl rfl ?_
        refine vv_iconst 55 dX12_codesTold_55 ik_0 ?_
        refine vn_putI 56 dX12_codesTold_56 fl_12_350 (Or.inl rfl) rfl (g_l_291 hG158) (fun μ159 eμ159 => ?_)
        rw [sh_let_eq eμ159] at h
        have hG159 : sh_G μ159 := by rw [eμ159]; exact hG158
        refine vv_aload_n 59 0 dX12_codesTold_59 rfl rfl ?_
        refine vv_iconst 60 dX12_codesTold_60 ik_0 ?_
        refine vn_putI 61 dX12_codesTold_61 fl_12_353 (Or.inl rfl) rfl (g_l_291 hG159) (fun μ160 eμ160 => ?_)
        rw [sh_let_eq eμ160] at h
        have hG160 : sh_G μ160 := by rw [eμ160]; exact hG159
        refine vv_iload_n 64 1 dX12_codesTold_64 rfl rfl ?_
        refine vv_iconst 65 dX12_codesTold_65 ik_2 ?_
        refine vv_icmp_ne 66 76 dX12_codesTold_66 (by decide) (fun c161 => ?_) (fun c161 => ?_)
        · rw [if_neg c161] at h
          refine vv_aload_n 76 0 dX12_codesTold_76 rfl rfl ?_
          obtain ⟨μ162, hr163, h⟩ := sh_bindv_e h
          refine v1_callV [] 77 dX12_codesTold_77 ck_X12_359 (g_l_291 hG160) ⟨by decide, rfl⟩ (t_X12_qSums hG160 hr163) (Nat.le_of_ble_eq_true rfl) ⟨Nat.le_of_ble_eq_true rfl, Nat.le_of_ble_eq_true rfl⟩ rfl (Nat.le_of_ble_eq_true rfl) ?_
          have hG162 := gp_X12_qSums hG160 hr163
          refine vv_aload_n 80 0 dX12_codesTold_80 rfl rfl ?_
          refine vv_getI 81 dX12_codesTold_81 fl_12_253 rfl (g_l_291 hG162) ?_
          refine vv_if_eq 84 88 dX12_codesTold_84 (by decide) (fun c165 => ?_) (fun c165 => ?_)
          · rw [if_pos c165] at h
            refine vv_aload_n 88 0 dX12_codesTold_88 rfl rfl ?_
            refine vv_getR 89 dX12_codesTold_89 fl_12_121 rfl (g_l_291 hG162) (g_r_291_45 hG162) ?_
            refine vv_iload_n 92 1 dX12_codesTold_92 rfl rfl ?_
            refine vv_aload_n 93 0 dX12_codesTold_93 rfl rfl ?_
            refine vv_getI 94 dX12_codesTold_94 fl_12_362 rfl (g_l_291 hG162) ?_
            obtain ⟨k166, h⟩ := sh_chk h
            refine vn_iast 97 dX12_codesTold_97 (g_l_327 hG162) k166 (fun μ167 eμ167 => ?_)
            rw [sh_let_eq eμ167] at h
            have hG167 : sh_G μ167 := by rw [eμ167]; exact hG162
            refine vv_iconst 98 dX12_codesTold_98 ik_0 ?_
            refine vv_istore_n (lv' := [(3, _), (0, _), (1, _), (2, _)]) 99 3 dX12_codesTold_99 rfl (by decide) rfl ?_
            refine vv_sub [(0, _), (1, _), (2, _), (3, _)] (sh_subm [1, 2, 3, 0] rfl) ?_
            exact ih_100 hG167 h
          · rw [if_neg c165] at h
            have e2 := Option.some.inj h
            refine vv_vret 87 dX12_codesTold_87 rfl (Nat.le_refl _) (Nat.le_refl _) ⟨rfl, e2⟩
        · rw [if_pos c161] at h
          refine vv_aload_n 69 0 dX12_codesTold_69 rfl rfl ?_
          obtain ⟨μ168, hr169, h⟩ := sh_bindv_e h
          refine v1_callV [] 70 dX12_codesTold_70 ck_X12_356 (g_l_291 hG160) ⟨by decide, rfl⟩ (t_X12_qTest hG160 hr169) (Nat.le_of_ble_eq_true rfl) ⟨Nat.le_of_ble_eq_true rfl, Nat.le_of_ble_eq_true rfl⟩ rfl (Nat.le_of_ble_eq_true rfl) ?_
          have hG168 := gp_X12_qTest hG160 hr169
          refine vv_goto 73 80 dX12_codesTold_73 (by decide) ?_
          refine vv_aload_n 80 0 dX12_codesTold_80 rfl rfl ?_
          refine vv_getI 81 dX12_codesTold_81 fl_12_253 rfl (g_l_291 hG168) ?_
          refine vv_if_eq 84 88 dX12_codesTold_84 (by decide) (fun c171 => ?_) (fun c171 => ?_)
          · rw [if_pos c171] at h
            refine vv_aload_n 88 0 dX12_codesTold_88 rfl rfl ?_
            refine vv_getR 89 dX12_codesTold_89 fl_12_121 rfl (g_l_291 hG168) (g_r_291_45 hG168) ?_
            refine vv_iload_n 92 1 dX12_codesTold_92 rfl rfl ?_
            refine vv_aload_n 93 0 dX12_codesTold_93 rfl rfl ?_
            refine vv_getI 94 dX12_codesTold_94 fl_12_362 rfl (g_l_291 hG168) ?_
            obtain ⟨k172, h⟩ := sh_chk h
            refine vn_iast 97 dX12_codesTold_97 (g_l_327 hG168) k172 (fun μ173 eμ173 => ?_)
            rw [sh_let_eq eμ173] at h
            have hG173 : sh_G μ173 := by rw [eμ173]; exact hG168
            refine vv_iconst 98 dX12_codesTold_98 ik_0 ?_
            refine vv_istore_n (lv' := [(3, _), (0, _), (1, _), (2, _)]) 99 3 dX12_codesTold_99 rfl (by decide) rfl ?_
            refine vv_sub [(0, _), (1, _), (2, _), (3, _)] (sh_subm [1, 2, 3, 0] rfl) ?_
            exact ih_100 hG173 h
          · rw [if_neg c171] at h
            have e2 := Option.some.inj h
            refine vv_vret 87 dX12_codesTold_87 rfl (Nat.le_refl _) (Nat.le_refl _) ⟨rfl, e2⟩
    · rw [if_neg c136] at h
      have e2 := Option.some.inj h
      refine vv_vret 30 dX12_codesTold_30 rfl (Nat.le_refl _) (Nat.le_refl _) ⟨rfl, e2⟩
  · rw [if_pos c135] at h
    refine vv_aload_n 7 0 dX12_codesTold_7 rfl rfl ?_
    refine vv_getR 8 dX12_codesTold_8 fl_12_121 rfl (g_l_291 hG) (g_r_291_45 hG) ?_
    refine vv_iload_n 11 1 dX12_codesTold_11 rfl rfl ?_
    obtain ⟨k174, h⟩ := sh_chk h
    refine vv_iald 12 dX12_codesTold_12 (g_l_327 hG) k174 ?_
    refine vv_iconst 13 dX12_codesTold_13 ik_m1 ?_
    refine vv_icmp_eq 14 23 dX12_codesTold_14 (by decide) (fun c175 => ?_) (fun c175 => ?_)
    · rw [if_pos c175] at h
      refine vv_aload_n 23 0 dX12_codesTold_23 rfl rfl ?_
      refine vv_getI 24 dX12_codesTold_24 fl_12_253 rfl (g_l_291 hG) ?_
      refine vv_if_eq 27 31 dX12_codesTold_27 (by decide) (fun c176 => ?_) (fun c176 => ?_)
      · rw [if_pos c176] at h
        refine vv_aload_n 31 0 dX12_codesTold_31 rfl rfl ?_
        refine vv_iload_n 32 1 dX12_codesTold_32 rfl rfl ?_
        refine vv_if_ne 33 40 dX12_codesTold_33 (by decide) (fun c177 => ?_) (fun c177 => ?_)
        · rw [if_neg c177] at h
          refine vv_iconst 40 dX12_codesTold_40 ik_0 ?_
          refine vn_putI 41 dX12_codesTold_41 fl_12_311 (Or.inl rfl) rfl (g_l_291 hG) (fun μ178 eμ178 => ?_)
          rw [sh_let_eq eμ178] at h
          have hG178 : sh_G μ178 := by rw [eμ178]; exact hG
          refine vv_aload_n 44 0 dX12_codesTold_44 rfl rfl ?_
          refine vv_iconst 45 dX12_codesTold_45 ik_0 ?_
          refine vn_putI 46 dX12_codesTold_46 fl_12_344 (Or.inl rfl) rfl (g_l_291 hG178) (fun μ179 eμ179 => ?_)
          rw [sh_let_eq eμ179] at h
          have hG179 : sh_G μ179 := by rw [eμ179]; exact hG178
          refine vv_aload_n 49 0 dX12_codesTold_49 rfl rfl ?_
          refine vv_iconst 50 dX12_codesTold_50 ik_0 ?_
          refine vn_putI 51 dX12_codesTold_51 fl_12_347 (Or.inl rfl) rfl (g_l_291 hG179) (fun μ180 eμ180 => ?_)
          rw [sh_let_eq eμ180] at h
          have hG180 : sh_G μ180 := by rw [eμ180]; exact hG179
          refine vv_aload_n 54 0 dX12_codesTold_54 rfl rfl ?_
          refine vv_iconst 55 dX12_codesTold_55 ik_0 ?_
          refine vn_putI 56 dX12_codesTold_56 fl_12_350 (Or.inl rfl) rfl (g_l_291 hG180) (fun μ181 eμ181 => ?_)
          rw [sh_let_eq eμ181] at h
          have hG181 : sh_G μ181 := by rw [eμ181]; exact hG180
          refine vv_aload_n 59 0 dX12_codesTold_59 rfl rfl ?_
          refine vv_iconst 60 dX12_codesTold_60 ik_0 ?_
          refine vn_putI 61 dX12_codesTold_61 fl_12_353 (Or.inl rfl) rfl (g_l_291 hG181) (fun μ182 eμ182 => ?_)
          rw [sh_let_eq eμ182] at h
          have hG182 : sh_G μ182 := by rw [eμ182]; exact hG181
          refine vv_iload_n 64 1 dX12_codesTold_64 rfl rfl ?_
          refine vv_iconst 65 dX12_codesTold_65 ik_2 ?_
          refine vv_icmp_ne 66 76 dX12_codesTold_66 (by decide) (fun c183 => ?_) (fun c183 => ?_)
          · rw [if_neg c183] at h
            refine vv_aload_n 76 0 dX12_codesTold_76 rfl rfl ?_
            obtain ⟨μ184, hr185, h⟩ := sh_bindv_e h
            refine v1_callV [] 77 dX12_codesTold_77 ck_X12_359 (g_l_291 hG182) ⟨by decide, rfl⟩ (t_X12_qSums hG182 hr185) (Nat.le_of_ble_eq_true rfl) ⟨Nat.le_of_ble_eq_true rfl, Nat.le_of_ble_eq_true rfl⟩ rfl (Nat.le_of_ble_eq_true rfl) ?_
            have hG184 := gp_X12_qSums hG182 hr185
            refine vv_aload_n 80 0 dX12_codesTold_80 rfl rfl ?_
            refine vv_getI 81 dX12_codesTold_81 fl_12_253 rfl (g_l_291 hG184) ?_
            refine vv_if_eq 84 88 dX12_codesTold_84 (by decide) (fun c187 => ?_) (fun c187 => ?_)
            · rw [if_pos c187] at h
              refine vv_aload_n 88 0 dX12_codesTold_88 rfl rfl ?_
              refine vv_getR 89 dX12_codesTold_89 fl_12_121 rfl (g_l_291 hG184) (g_r_291_45 hG184) ?_
              refine vv_iload_n 92 1 dX12_codesTold_92 rfl rfl ?_
              refine vv_aload_n 93 0 dX12_codesTold_93 rfl rfl ?_
              refine vv_getI 94 dX12_codesTold_94 fl_12_362 rfl (g_l_291 hG184) ?_
              obtain ⟨k188, h⟩ := sh_chk h
              refine vn_iast 97 dX12_codesTold_97 (g_l_327 hG184) k188 (fun μ189 eμ189 => ?_)
              rw [sh_let_eq eμ189] at h
              have hG189 : sh_G μ189 := by rw [eμ189]; exact hG184
              refine vv_iconst 98 dX12_codesTold_98 ik_0 ?_
              refine vv_istore_n (lv' := [(3, _), (0, _), (1, _), (2, _)]) 99 3 dX12_codesTold_99 rfl (by decide) rfl ?_
              refine vv_sub [(0, _), (1, _), (2, _), (3, _)] (sh_subm [1, 2, 3, 0] rfl) ?_
              exact ih_100 hG189 h
            · rw [if_neg c187] at h
              have e2 := Option.some.inj h
              refine vv_vret 87 dX12_codesTold_87 rfl (Nat.le_refl _) (Nat.le_refl _) ⟨rfl, e2⟩
          · rw [if_pos c183] at h
            refine vv_aload_n 69 0 dX12_codesTold_69 rfl rfl ?_
            obtain ⟨μ190, hr191, h⟩ := sh_bindv_e h
            refine v1_callV [] 70 dX12_codesTold_70 ck_X12_356 (g_l_291 hG182) ⟨by decide, rfl⟩ (t_X12_qTest hG182 hr191) (Nat.le_of_ble_eq_true rfl) ⟨Nat.le_of_ble_eq_true rfl, Nat.le_of_ble_eq_true rfl⟩ rfl (Nat.le_of_ble_eq_true rfl) ?_
            have hG190 := gp_X12_qTest hG182 hr191
            refine vv_goto 73 80 dX12_codesTold_73 (by decide) ?_
            refine vv_aload_n 80 0 dX12_codesTold_80 rfl rfl ?_
            refine vv_getI 81 dX12_codesTold_81 fl_12_253 rfl (g_l_291 hG190) ?_
            refine vv_if_eq 84 88 dX12_codesTold_84 (by decide) (fun c193 => ?_) (fun c193 => ?_)
            · rw [if_pos c193] at h
              refine vv_aload_n 88 0 dX12_codesTold_88 rfl rfl ?_
              refine vv_getR 89 dX12_codesTold_89 fl_12_121 rfl (g_l_291 hG190) (g_r_291_45 hG190) ?_
              refine vv_iload_n 92 1 dX12_codesTold_92 rfl rfl ?_
              refine vv_aload_n 93 0 dX12_codesTold_93 rfl rfl ?_
              refine vv_getI 94 dX12_codesTold_94 fl_12_362 rfl (g_l_291 hG190) ?_
              obtain ⟨k194, h⟩ := sh_chk h
              refine vn_iast 97 dX12_codesTold_97 (g_l_327 hG190) k194 (fun μ195 eμ195 => ?_)
              rw [sh_let_eq eμ195] at h
              have hG195 : sh_G μ195 := by rw [eμ195]; exact hG190
              refine vv_iconst 98 dX12_codesTold_98 ik_0 ?_
              refine vv_istore_n (lv' := [(3, _), (0, _), (1, _), (2, _)]) 99 3 dX12_codesTold_99 rfl (by decide) rfl ?_
              refine vv_sub [(0, _), (1, _), (2, _), (3, _)] (sh_subm [1, 2, 3, 0] rfl) ?_
              exact ih_100 hG195 h
            · rw [if_neg c193] at h
              have e2 := Option.some.inj h
              refine vv_vret 87 dX12_codesTold_87 rfl (Nat.le_refl _) (Nat.le_refl _) ⟨rfl, e2⟩
        · rw [if_pos c177] at h
          refine vv_iconst 36 dX12_codesTold_36 ik_1 ?_
          refine vv_goto 37 41 dX12_codesTold_37 (by decide) ?_
          refine vn_putI 41 dX12_codesTold_41 fl_12_311 (Or.inl rfl) rfl (g_l_291 hG) (fun μ196 eμ196 => ?_)
          rw [sh_let_eq eμ196] at h
          have hG196 : sh_G μ196 := by rw [eμ196]; exact hG
          refine vv_aload_n 44 0 dX12_codesTold_44 rfl rfl ?_
          refine vv_iconst 45 dX12_codesTold_45 ik_0 ?_
          refine vn_putI 46 dX12_codesTold_46 fl_12_344 (Or.inl rfl) rfl (g_l_291 hG196) (fun μ197 eμ197 => ?_)
          rw [sh_let_eq eμ197] at h
          have hG197 : sh_G μ197 := by rw [eμ197]; exact hG196
          refine vv_aload_n 49 0 dX12_codesTold_49 rfl rfl ?_
          refine vv_iconst 50 dX12_codesTold_50 ik_0 ?_
          refine vn_putI 51 dX12_codesTold_51 fl_12_347 (Or.inl rfl) rfl (g_l_291 hG197) (fun μ198 eμ198 => ?_)
          rw [sh_let_eq eμ198] at h
          have hG198 : sh_G μ198 := by rw [eμ198]; exact hG197
          refine vv_aload_n 54 0 dX12_codesTold_54 rfl rfl ?_
          refine vv_iconst 55 dX12_codesTold_55 ik_0 ?_
          refine vn_putI 56 dX12_codesTold_56 fl_12_350 (Or.inl rfl) rfl (g_l_291 hG198) (fun μ199 eμ199 => ?_)
          rw [sh_let_eq eμ199] at h
          have hG199 : sh_G μ199 := by rw [eμ199]; exact hG198
          refine vv_aload_n 59 0 dX12_codesTold_59 rfl rfl ?_
          refine vv_iconst 60 dX12_codesTold_60 ik_0 ?_
          refine vn_putI 61 dX12_codesTold_61 fl_12_353 (Or.inl rfl) rfl (g_l_291 hG199) (fun μ200 eμ200 => ?_)
          rw [sh_let_eq eμ200] at h
          have hG200 : sh_G μ200 := by rw [eμ200]; exact hG199
          refine vv_iload_n 64 1 dX12_codesTold_64 rfl rfl ?_
          refine vv_iconst 65 dX12_codesTold_65 ik_2 ?_
          refine vv_icmp_ne 66 76 dX12_codesTold_66 (by decide) (fun c201 => ?_) (fun c201 => ?_)
          · rw [if_neg c201] at h
            refine vv_aload_n 76 0 dX12_codesTold_76 rfl rfl ?_
            obtain ⟨μ202, hr203, h⟩ := sh_bindv_e h
            refine v1_callV [] 77 dX12_codesTold_77 ck_X12_359 (g_l_291 hG200) ⟨by decide, rfl⟩ (t_X12_qSums hG200 hr203) (Nat.le_of_ble_eq_true rfl) ⟨Nat.le_of_ble_eq_true rfl, Nat.le_of_ble_eq_true rfl⟩ rfl (Nat.le_of_ble_eq_true rfl) ?_
            have hG202 := gp_X12_qSums hG200 hr203
            refine vv_aload_n 80 0 dX12_codesTold_80 rfl rfl ?_
            refine vv_getI 81 dX12_codesTold_81 fl_12_253 rfl (g_l_291 hG202) ?_
            refine vv_if_eq 84 88 dX12_codesTold_84 (by decide) (fun c205 => ?_) (fun c205 => ?_)
            · rw [if_pos c205] at h
              refine vv_aload_n 88 0 dX12_codesTold_88 rfl rfl ?_
              refine vv_getR 89 dX12_codesTold_89 fl_12_121 rfl (g_l_291 hG202) (g_r_291_45 hG202) ?_
              refine vv_iload_n 92 1 dX12_codesTold_92 rfl rfl ?_
              refine vv_aload_n 93 0 dX12_codesTold_93 rfl rfl ?_
              refine vv_getI 94 dX12_codesTold_94 fl_12_362 rfl (g_l_291 hG202) ?_
              obtain ⟨k206, h⟩ := sh_chk h
              refine vn_iast 97 dX12_codesTold_97 (g_l_327 hG202) k206 (fun μ207 eμ207 => ?_)
              rw [sh_let_eq eμ207] at h
              have hG207 : sh_G μ207 := by rw [eμ207]; exact hG202
              refine vv_iconst 98 dX12_codesTold_98 ik_0 ?_
              refine vv_istore_n (lv' := [(3, _), (0, _), (1, _), (2, _)]) 99 3 dX12_codesTold_99 rfl (by decide) rfl ?_
              refine vv_sub [(0, _), (1, _), (2, _), (3, _)] (sh_subm [1, 2, 3, 0] rfl) ?_
              exact ih_100 hG207 h
            · rw [if_neg c205] at h
              have e2 := Option.some.inj h
              refine vv_vret 87 dX12_codesTold_87 rfl (Nat.le_refl _) (Nat.le_refl _) ⟨rfl, e2⟩
          · rw [if_pos c201] at h
            refine vv_aload_n 69 0 dX12_codesTold_69 rfl rfl ?_
            obtain ⟨μ208, hr209, h⟩ := sh_bindv_e h
            refine v1_callV [] 70 dX12_codesTold_70 ck_X12_356 (g_l_291 hG200) ⟨by decide, rfl⟩ (t_X12_qTest hG200 hr209) (Nat.le_of_ble_eq_true rfl) ⟨Nat.le_of_ble_eq_true rfl, Nat.le_of_ble_eq_true rfl⟩ rfl (Nat.le_of_ble_eq_true rfl) ?_
            have hG208 := gp_X12_qTest hG200 hr209
            refine vv_goto 73 80 dX12_codesTold_73 (by decide) ?_
            refine vv_aload_n 80 0 dX12_codesTold_80 rfl rfl ?_
            refine vv_getI 81 dX12_codesTold_81 fl_12_253 rfl (g_l_291 hG208) ?_
            refine vv_if_eq 84 88 dX12_codesTold_84 (by decide) (fun c211 => ?_) (fun c211 => ?_)
            · rw [if_pos c211] at h
              refine vv_aload_n 88 0 dX12_codesTold_88 rfl rfl ?_
              refine vv_getR 89 dX12_codesTold_89 fl_12_121 rfl (g_l_291 hG208) (g_r_291_45 hG208) ?_
              refine vv_iload_n 92 1 dX12_codesTold_92 rfl rfl ?_
              refine vv_aload_n 93 0 dX12_codesTold_93 rfl rfl ?_
              refine vv_getI 94 dX12_codesTold_94 fl_12_362 rfl (g_l_291 hG208) ?_
              obtain ⟨k212, h⟩ := sh_chk h
              refine vn_iast 97 dX12_codesTold_97 (g_l_327 hG208) k212 (fun μ213 eμ213 => ?_)
              rw [sh_let_eq eμ213] at h
              have hG213 : sh_G μ213 := by rw [eμ213]; exact hG208
              refine vv_iconst 98 dX12_codesTold_98 ik_0 ?_
              refine vv_istore_n (lv' := [(3, _), (0, _), (1, _), (2, _)]) 99 3 dX12_codesTold_99 rfl (by decide) rfl ?_
              refine vv_sub [(0, _), (1, _), (2, _), (3, _)] (sh_subm [1, 2, 3, 0] rfl) ?_
              exact ih_100 hG213 h
            · rw [if_neg c211] at h
              have e2 := Option.some.inj h
              refine vv_vret 87 dX12_codesTold_87 rfl (Nat.le_refl _) (Nat.le_refl _) ⟨rfl, e2⟩
      · rw [if_neg c176] at h
        have e2 := Option.some.inj h
        refine vv_vret 30 dX12_codesTold_30 rfl (Nat.le_refl _) (Nat.le_refl _) ⟨rfl, e2⟩
    · rw [if_neg c175] at h
      refine vv_aload_n 17 0 dX12_codesTold_17 rfl rfl ?_
      refine vv_iconst 18 dX12_codesTold_18 ik_5 ?_
      refine vv_iload_n 19 2 dX12_codesTold_19 rfl rfl ?_
      obtain ⟨μ214, hr215, h⟩ := sh_bindv_e h
      refine v1_callV [_, _] 20 dX12_codesTold_20 ck_X12_283 (g_l_291 hG) ⟨by decide, rfl⟩ (t_X12_fail hG hr215) (Nat.le_of_ble_eq_true rfl) ⟨Nat.le_of_ble_eq_true rfl, Nat.le_of_ble_eq_true rfl⟩ rfl (Nat.le_of_ble_eq_true rfl) ?_
      have hG214 := gp_X12_fail hG hr215
      refine vv_aload_n 23 0 dX12_codesTold_23 rfl rfl ?_
      refine vv_getI 24 dX12_codesTold_24 fl_12_253 rfl (g_l_291 hG214) ?_
      refine vv_if_eq 27 31 dX12_codesTold_27 (by decide) (fun c217 => ?_) (fun c217 => ?_)
      · rw [if_pos c217] at h
        refine vv_aload_n 31 0 dX12_codesTold_31 rfl rfl ?_
        refine vv_iload_n 32 1 dX12_codesTold_32 rfl rfl ?_
        refine vv_if_ne 33 40 dX12_codesTold_33 (by decide) (fun c218 => ?_) (fun c218 => ?_)
        · rw [if_neg c218] at h
          refine vv_iconst 40 dX12_codesTold_40 ik_0 ?_
          refine vn_putI 41 dX12_codesTold_41 fl_12_311 (Or.inl rfl) rfl (g_l_291 hG214) (fun μ219 eμ219 => ?_)
          rw [sh_let_eq eμ219] at h
          have hG219 : sh_G μ219 := by rw [eμ219]; exact hG214
          refine vv_aload_n 44 0 dX12_codesTold_44 rfl rfl ?_
          refine vv_iconst 45 dX12_codesTold_45 ik_0 ?_
          refine vn_putI 46 dX12_codesTold_46 fl_12_344 (Or.inl rfl) rfl (g_l_291 hG219) (fun μ220 eμ220 => ?_)
          rw [sh_let_eq eμ220] at h
          have hG220 : sh_G μ220 := by rw [eμ220]; exact hG219
          refine vv_aload_n 49 0 dX12_codesTold_49 rfl rfl ?_
          refine vv_iconst 50 dX12_codesTold_50 ik_0 ?_
          refine vn_putI 51 dX12_codesTold_51 fl_12_347 (Or.inl rfl) rfl (g_l_291 hG220) (fun μ221 eμ221 => ?_)
          rw [sh_let_eq eμ221] at h
          have hG221 : sh_G μ221 := by rw [eμ221]; exact hG220
          refine vv_aload_n 54 0 dX12_codesTold_54 rfl rfl ?_
          refine vv_iconst 55 dX12_codesTold_55 ik_0 ?_
          refine vn_putI 56 dX12_codesTold_56 fl_12_350 (Or.inl rfl) rfl (g_l_291 hG221) (fun μ222 eμ222 => ?_)
          rw [sh_let_eq eμ222] at h
          have hG222 : sh_G μ222 := by rw [eμ222]; exact hG221
          refine vv_aload_n 59 0 dX12_codesTold_59 rfl rfl ?_
          refine vv_iconst 60 dX12_codesTold_60 ik_0 ?_
          refine vn_putI 61 dX12_codesTold_61 fl_12_353 (Or.inl rfl) rfl (g_l_291 hG222) (fun μ223 eμ223 => ?_)
          rw [sh_let_eq eμ223] at h
          have hG223 : sh_G μ223 := by rw [eμ223]; exact hG222
          refine vv_iload_n 64 1 dX12_codesTold_64 rfl rfl ?_
          refine vv_iconst 65 dX12_codesTold_65 ik_2 ?_
          refine vv_icmp_ne 66 76 dX12_codesTold_66 (by decide) (fun c224 => ?_) (fun c224 => ?_)
          · rw [if_neg c224] at h
            refine vv_aload_n 76 0 dX12_codesTold_76 rfl rfl ?_
            obtain ⟨μ225, hr226, h⟩ := sh_bindv_e h
            refine v1_callV [] 77 dX12_codesTold_77 ck_X12_359 (g_l_291 hG223) ⟨by decide, rfl⟩ (t_X12_qSums hG223 hr226) (Nat.le_of_ble_eq_true rfl) ⟨Nat.le_of_ble_eq_true rfl, Nat.le_of_ble_eq_true rfl⟩ rfl (Nat.le_of_ble_eq_true rfl) ?_
            have hG225 := gp_X12_qSums hG223 hr226
            refine vv_aload_n 80 0 dX12_codesTold_80 rfl rfl ?_
            refine vv_getI 81 dX12_codesTold_81 fl_12_253 rfl (g_l_291 hG225) ?_
            refine vv_if_eq 84 88 dX12_codesTold_84 (by decide) (fun c228 => ?_) (fun c228 => ?_)
            · rw [if_pos c228] at h
              refine vv_aload_n 88 0 dX12_codesTold_88 rfl rfl ?_
              refine vv_getR 89 dX12_codesTold_89 fl_12_121 rfl (g_l_291 hG225) (g_r_291_45 hG225) ?_
              refine vv_iload_n 92 1 dX12_codesTold_92 rfl rfl ?_
              refine vv_aload_n 93 0 dX12_codesTold_93 rfl rfl ?_
              refine vv_getI 94 dX12_codesTold_94 fl_12_362 rfl (g_l_291 hG225) ?_
              obtain ⟨k229, h⟩ := sh_chk h
              refine vn_iast 97 dX12_codesTold_97 (g_l_327 hG225) k229 (fun μ230 eμ230 => ?_)
              rw [sh_let_eq eμ230] at h
              have hG230 : sh_G μ230 := by rw [eμ230]; exact hG225
              refine vv_iconst 98 dX12_codesTold_98 ik_0 ?_
              refine vv_istore_n (lv' := [(3, _), (0, _), (1, _), (2, _)]) 99 3 dX12_codesTold_99 rfl (by decide) rfl ?_
              refine vv_sub [(0, _), (1, _), (2, _), (3, _)] (sh_subm [1, 2, 3, 0] rfl) ?_
              exact ih_100 hG230 h
            · rw [if_neg c228] at h
              have e2 := Option.some.inj h
              refine vv_vret 87 dX12_codesTold_87 rfl (Nat.le_refl _) (Nat.le_refl _) ⟨rfl, e2⟩
          · rw [if_pos c224] at h
            refine vv_aload_n 69 0 dX12_codesTold_69 rfl rfl ?_
            obtain ⟨μ231, hr232, h⟩ := sh_bindv_e h
            refine v1_callV [] 70 dX12_codesTold_70 ck_X12_356 (g_l_291 hG223) ⟨by decide, rfl⟩ (t_X12_qTest hG223 hr232) (Nat.le_of_ble_eq_true rfl) ⟨Nat.le_of_ble_eq_true rfl, Nat.le_of_ble_eq_true rfl⟩ rfl (Nat.le_of_ble_eq_true rfl) ?_
            have hG231 := gp_X12_qTest hG223 hr232
            refine vv_goto 73 80 dX12_codesTold_73 (by decide) ?_
            refine vv_aload_n 80 0 dX12_codesTold_80 rfl rfl ?_
            refine vv_getI 81 dX12_codesTold_81 fl_12_253 rfl (g_l_291 hG231) ?_
            refine vv_if_eq 84 88 dX12_codesTold_84 (by decide) (fun c234 => ?_) (fun c234 => ?_)
            · rw [if_pos c234] at h
              refine vv_aload_n 88 0 dX12_codesTold_88 rfl rfl ?_
              refine vv_getR 89 dX12_codesTold_89 fl_12_121 rfl (g_l_291 hG231) (g_r_291_45 hG231) ?_
              refine vv_iload_n 92 1 dX12_codesTold_92 rfl rfl ?_
              refine vv_aload_n 93 0 dX12_codesTold_93 rfl rfl ?_
              refine vv_getI 94 dX12_codesTold_94 fl_12_362 rfl (g_l_291 hG231) ?_
              obtain ⟨k235, h⟩ := sh_chk h
              refine vn_iast 97 dX12_codesTold_97 (g_l_327 hG231) k235 (fun μ236 eμ236 => ?_)
              rw [sh_let_eq eμ236] at h
              have hG236 : sh_G μ236 := by rw [eμ236]; exact hG231
              refine vv_iconst 98 dX12_codesTold_98 ik_0 ?_
              refine vv_istore_n (lv' := [(3, _), (0, _), (1, _), (2, _)]) 99 3 dX12_codesTold_99 rfl (by decide) rfl ?_
              refine vv_sub [(0, _), (1, _), (2, _), (3, _)] (sh_subm [1, 2, 3, 0] rfl) ?_
              exact ih_100 hG236 h
            · rw [if_neg c234] at h
              have e2 := Option.some.inj h
              refine vv_vret 87 dX12_codesTold_87 rfl (Nat.le_refl _) (Nat.le_refl _) ⟨rfl, e2⟩
        · rw [if_pos c218] at h
          refine vv_iconst 36 dX12_codesTold_36 ik_1 ?_
          refine vv_goto 37 41 dX12_codesTold_37 (by decide) ?_
          refine vn_putI 41 dX12_codesTold_41 fl_12_311 (Or.inl rfl) rfl (g_l_291 hG214) (fun μ237 eμ237 => ?_)
          rw [sh_let_eq eμ237] at h
          have hG237 : sh_G μ237 := by rw [eμ237]; exact hG214
          refine vv_aload_n 44 0 dX12_codesTold_44 rfl rfl ?_
          refine vv_iconst 45 dX12_codesTold_45 ik_0 ?_
          refine vn_putI 46 dX12_codesTold_46 fl_12_344 (Or.inl rfl) rfl (g_l_291 hG237) (fun μ238 eμ238 => ?_)
          rw [sh_let_eq eμ238] at h
          have hG238 : sh_G μ238 := by rw [eμ238]; exact hG237
          refine vv_aload_n 49 0 dX12_codesTold_49 rfl rfl ?_
          refine vv_iconst 50 dX12_codesTold_50 ik_0 ?_
          refine vn_putI 51 dX12_codesTold_51 fl_12_347 (Or.inl rfl) rfl (g_l_291 hG238) (fun μ239 eμ239 => ?_)
          rw [sh_let_eq eμ239] at h
          have hG239 : sh_G μ239 := by rw [eμ239]; exact hG238
          refine vv_aload_n 54 0 dX12_codesTold_54 rfl rfl ?_
          refine vv_iconst 55 dX12_codesTold_55 ik_0 ?_
          refine vn_putI 56 dX12_codesTold_56 fl_12_350 (Or.inl rfl) rfl (g_l_291 hG239) (fun μ240 eμ240 => ?_)
          rw [sh_let_eq eμ240] at h
          have hG240 : sh_G μ240 := by rw [eμ240]; exact hG239
          refine vv_aload_n 59 0 dX12_codesTold_59 rfl rfl ?_
          refine vv_iconst 60 dX12_codesTold_60 ik_0 ?_
          refine vn_putI 61 dX12_codesTold_61 fl_12_353 (Or.inl rfl) rfl (g_l_291 hG240) (fun μ241 eμ241 => ?_)
          rw [sh_let_eq eμ241] at h
          have hG241 : sh_G μ241 := by rw [eμ241]; exact hG240
          refine vv_iload_n 64 1 dX12_codesTold_64 rfl rfl ?_
          refine vv_iconst 65 dX12_codesTold_65 ik_2 ?_
          refine vv_icmp_ne 66 76 dX12_codesTold_66 (by decide) (fun c242 => ?_) (fun c242 => ?_)
          · rw [if_neg c242] at h
            refine vv_aload_n 76 0 dX12_codesTold_76 rfl rfl ?_
            obtain ⟨μ243, hr244, h⟩ := sh_bindv_e h
            refine v1_callV [] 77 dX12_codesTold_77 ck_X12_359 (g_l_291 hG241) ⟨by decide, rfl⟩ (t_X12_qSums hG241 hr244) (Nat.le_of_ble_eq_true rfl) ⟨Nat.le_of_ble_eq_true rfl, Nat.le_of_ble_eq_true rfl⟩ rfl (Nat.le_of_ble_eq_true rfl) ?_
            have hG243 := gp_X12_qSums hG241 hr244
            refine vv_aload_n 80 0 dX12_codesTold_80 rfl rfl ?_
            refine vv_getI 81 dX12_codesTold_81 fl_12_253 rfl (g_l_291 hG243) ?_
            refine vv_if_eq 84 88 dX12_codesTold_84 (by decide) (fun c246 => ?_) (fun c246 => ?_)
            · rw [if_pos c246] at h
              refine vv_aload_n 88 0 dX12_codesTold_88 rfl rfl ?_
              refine vv_getR 89 dX12_codesTold_89 fl_12_121 rfl (g_l_291 hG243) (g_r_291_45 hG243) ?_
              refine vv_iload_n 92 1 dX12_codesTold_92 rfl rfl ?_
              refine vv_aload_n 93 0 dX12_codesTold_93 rfl rfl ?_
              refine vv_getI 94 dX12_codesTold_94 fl_12_362 rfl (g_l_291 hG243) ?_
              obtain ⟨k247, h⟩ := sh_chk h
              refine vn_iast 97 dX12_codesTold_97 (g_l_327 hG243) k247 (fun μ248 eμ248 => ?_)
              rw [sh_let_eq eμ248] at h
              have hG248 : sh_G μ248 := by rw [eμ248]; exact hG243
              refine vv_iconst 98 dX12_codesTold_98 ik_0 ?_
              refine vv_istore_n (lv' := [(3, _), (0, _), (1, _), (2, _)]) 99 3 dX12_codesTold_99 rfl (by decide) rfl ?_
              refine vv_sub [(0, _), (1, _), (2, _), (3, _)] (sh_subm [1, 2, 3, 0] rfl) ?_
              exact ih_100 hG248 h
            · rw [if_neg c246] at h
              have e2 := Option.some.inj h
              refine vv_vret 87 dX12_codesTold_87 rfl (Nat.le_refl _) (Nat.le_refl _) ⟨rfl, e2⟩
          · rw [if_pos c242] at h
            refine vv_aload_n 69 0 dX12_codesTold_69 rfl rfl ?_
            obtain ⟨μ249, hr250, h⟩ := sh_bindv_e h
            refine v1_callV [] 70 dX12_codesTold_70 ck_X12_356 (g_l_291 hG241) ⟨by decide, rfl⟩ (t_X12_qTest hG241 hr250) (Nat.le_of_ble_eq_true rfl) ⟨Nat.le_of_ble_eq_true rfl, Nat.le_of_ble_eq_true rfl⟩ rfl (Nat.le_of_ble_eq_true rfl) ?_
            have hG249 := gp_X12_qTest hG241 hr250
            refine vv_goto 73 80 dX12_codesTold_73 (by decide) ?_
            refine vv_aload_n 80 0 dX12_codesTold_80 rfl rfl ?_
            refine vv_getI 81 dX12_codesTold_81 fl_12_253 rfl (g_l_291 hG249) ?_
            refine vv_if_eq 84 88 dX12_codesTold_84 (by decide) (fun c252 => ?_) (fun c252 => ?_)
            · rw [if_pos c252] at h
              refine vv_aload_n 88 0 dX12_codesTold_88 rfl rfl ?_
              refine vv_getR 89 dX12_codesTold_89 fl_12_121 rfl (g_l_291 hG249) (g_r_291_45 hG249) ?_
              refine vv_iload_n 92 1 dX12_codesTold_92 rfl rfl ?_
              refine vv_aload_n 93 0 dX12_codesTold_93 rfl rfl ?_
              refine vv_getI 94 dX12_codesTold_94 fl_12_362 rfl (g_l_291 hG249) ?_
              obtain ⟨k253, h⟩ := sh_chk h
              refine vn_iast 97 dX12_codesTold_97 (g_l_327 hG249) k253 (fun μ254 eμ254 => ?_)
              rw [sh_let_eq eμ254] at h
              have hG254 : sh_G μ254 := by rw [eμ254]; exact hG249
              refine vv_iconst 98 dX12_codesTold_98 ik_0 ?_
              refine vv_istore_n (lv' := [(3, _), (0, _), (1, _), (2, _)]) 99 3 dX12_codesTold_99 rfl (by decide) rfl ?_
              refine vv_sub [(0, _), (1, _), (2, _), (3, _)] (sh_subm [1, 2, 3, 0] rfl) ?_
              exact ih_100 hG254 h
            · rw [if_neg c252] at h
              have e2 := Option.some.inj h
              refine vv_vret 87 dX12_codesTold_87 rfl (Nat.le_refl _) (Nat.le_refl _) ⟨rfl, e2⟩
      · rw [if_neg c217] at h
        have e2 := Option.some.inj h
        refine vv_vret 30 dX12_codesTold_30 rfl (Nat.le_refl _) (Nat.le_refl _) ⟨rfl, e2⟩
noncomputable def f_X12_statementTold (μ : sh_Mem) : Option sh_Mem := sh_let ((sh_i μ 291 2) : Int32) (fun x1 => (if (sh_i μ 291 49) = 80 then sh_bindv (f_X12_fail 5 x1 μ) (fun μ102 => some μ102) else sh_bind (f_X12_takes 296 4 μ) (fun y5 μ3 => (if y5 = 0 then sh_bind (f_X12_takes 297 5 μ3) (fun y9 μ7 => (if y9 = 0 then sh_bind (f_X12_takes 298 6 μ7) (fun y13 μ11 => (if y13 = 0 then sh_bind (f_X12_takes 301 5 μ11) (fun y17 μ15 => (if y17 = 0 then sh_bind (f_X12_takes 303 4 μ15) (fun y21 μ19 => (if y21 = 0 then sh_bind (f_X12_takes 304 5 μ19) (fun y25 μ23 => (if y25 = 0 then sh_bind (f_X12_takes 305 5 μ23) (fun y29 μ27 => (if y29 = 0 then sh_bind (f_X12_takes 306 5 μ27) (fun y33 μ31 => (if y33 = 0 then sh_bindv (f_X12_needs 307 5 μ31) (fun μ35 => sh_bind (f_X12_number 0 100 μ35) (fun y40 μ38 => sh_let (sh_setI μ38 321 (Int32.toNatClampNeg 2) y40) (fun μ41 => sh_bindv (f_X12_asksSign 59 μ41) (fun μ42 => sh_let (sh_setI μ42 291 49 ((sh_i μ42 291 49) + 1)) (fun μ45 => some μ45))))) else sh_bindv (f_X12_codesTold 2 x1 μ31) (fun μ46 => sh_bindv (f_X12_asksSign 59 μ46) (fun μ49 => sh_let (sh_setI μ49 291 49 ((sh_i μ49 291 49) + 1)) (fun μ52 => some μ52))))) else sh_bindv (f_X12_codesTold 1 x1 μ27) (fun μ53 => sh_bindv (f_X12_asksSign 59 μ53) (fun μ56 => sh_let (sh_setI μ56 291 49 ((sh_i μ56 291 49) + 1)) (fun μ59 => some μ59))))) else sh_bindv (f_X12_codesTold 0 x1 μ23) (fun μ60 => sh_bindv (f_X12_asksSign 59 μ60) (fun μ63 => sh_let (sh_setI μ63 291 49 ((sh_i μ63 291 49) + 1)) (fun μ66 => some μ66))))) else sh_bindv (f_X12_listTold x1 μ19) (fun μ67 => sh_bindv (f_X12_asksSign 59 μ67) (fun μ70 => sh_let (sh_setI μ70 291 49 ((sh_i μ70 291 49) + 1)) (fun μ73 => some μ73))))) else sh_bindv (f_X12_knowsTold μ15) (fun μ74 => sh_bindv (f_X12_asksSign 59 μ74) (fun μ77 => sh_let (sh_setI μ77 291 49 ((sh_i μ77 291 49) + 1)) (fun μ80 => some μ80))))) else sh_bindv (f_X12_personTold x1 μ11) (fun μ81 => sh_bindv (f_X12_asksSign 59 μ81) (fun μ84 => sh_let (sh_setI μ84 291 49 ((sh_i μ84 291 49) + 1)) (fun μ87 => some μ87))))) else sh_bindv (f_X12_topicTold x1 μ7) (fun μ88 => sh_bindv (f_X12_asksSign 59 μ88) (fun μ91 => sh_let (sh_setI μ91 291 49 ((sh_i μ91 291 49) + 1)) (fun μ94 => some μ94))))) else sh_bindv (f_X12_highTold μ3) (fun μ95 => sh_bindv (f_X12_asksSign 59 μ95) (fun μ98 => sh_let (sh_setI μ98 291 49 ((sh_i μ98 291 49) + 1)) (fun μ101 => some μ101)))))))
theorem gp_X12_statementTold {μ μ' : sh_Mem} (hG : sh_G μ) (h : f_X12_statementTold μ = some μ') : sh_G μ' := by
  unfold f_X12_statementTold at h
  obtain ⟨x1, ex1⟩ : ∃ y : Int32, y = (sh_i μ 291 2) := ⟨_, rfl⟩
  rw [sh_let_eq ex1] at h
  by_cases c2 : (sh_i μ 291 49) = 80
  · rw [if_pos c2] at h
    obtain ⟨μ102, hr103, h⟩ := sh_bindv_e h
    have hG102 := gp_X12_fail hG hr103
    have e2 := Option.some.inj h
    exact e2 ▸ hG102
  · rw [if_neg c2] at h
    obtain ⟨y5, μ3, hr4, h⟩ := sh_bind_e h
    have hG3 := gp_X12_takes hG (sh_LAYat_296) hr4
    by_cases c6 : y5 = 0
    · rw [if_pos c6] at h
      obtain ⟨y9, μ7, hr8, h⟩ := sh_bind_e h
      have hG7 := gp_X12_takes hG3 (sh_LAYat_297) hr8
      by_cases c10 : y9 = 0
      · rw [if_pos c10] at h
        obtain ⟨y13, μ11, hr12, h⟩ := sh_bind_e h
        have hG11 := gp_X12_takes hG7 (sh_LAYat_298) hr12
        by_cases c14 : y13 = 0
        · rw [if_pos c14] at h
          obtain ⟨y17, μ15, hr16, h⟩ := sh_bind_e h
          have hG15 := gp_X12_takes hG11 (sh_LAYat_301) hr16
          by_cases c18 : y17 = 0
          · rw [if_pos c18] at h
            obtain ⟨y21, μ19, hr20, h⟩ := sh_bind_e h
            have hG19 := gp_X12_takes hG15 (sh_LAYat_303) hr20
            by_cases c22 : y21 = 0
            · rw [if_pos c22] at h
              obtain ⟨y25, μ23, hr24, h⟩ := sh_bind_e h
              have hG23 := gp_X12_takes hG19 (sh_LAYat_304) hr24
              by_cases c26 : y25 = 0
              · rw [if_pos c26] at h
                obtain ⟨y29, μ27, hr28, h⟩ := sh_bind_e h
                have hG27 := gp_X12_takes hG23 (sh_LAYat_305) hr28
                by_cases c30 : y29 = 0
                · rw [if_pos c30] at h
                  obtain ⟨y33, μ31, hr32, h⟩ := sh_bind_e h
                  have hG31 := gp_X12_takes hG27 (sh_LAYat_306) hr32
                  by_cases c34 : y33 = 0
                  · rw [if_pos c34] at h
                    obtain ⟨μ35, hr36, h⟩ := sh_bindv_e h
                    have hG35 := gp_X12_needs hG31 (sh_LAYat_307) hr36
                    obtain ⟨y40, μ38, hr39, h⟩ := sh_bind_e h
                    have hG38 := gp_X12_number hG35 hr39
                    obtain ⟨μ41, eμ41⟩ : ∃ y : sh_Mem, y = (sh_setI μ38 321 (Int32.toNatClampNeg 2) y40) := ⟨_, rfl⟩
                    rw [sh_let_eq eμ41] at h
                    have hG41 : sh_G μ41 := by rw [eμ41]; exact hG38
                    obtain ⟨μ42, hr43, h⟩ := sh_bindv_e h
                    have hG42 := gp_X12_asksSign hG41 hr43
                    obtain ⟨μ45, eμ45⟩ : ∃ y : sh_Mem, y = (sh_setI μ42 291 49 ((sh_i μ42 291 49) + 1)) := ⟨_, rfl⟩
                    rw [sh_let_eq eμ45] at h
                    have hG45 : sh_G μ45 := by rw [eμ45]; exact hG42
                    have e2 := Option.some.inj h
                    exact e2 ▸ hG45
                  · rw [if_neg c34] at h
                    obtain ⟨μ46, hr47, h⟩ := sh_bindv_e h
                    have hG46 := gp_X12_codesTold hG31 hr47
                    obtain ⟨μ49, hr50, h⟩ := sh_bindv_e h
                    have hG49 := gp_X12_asksSign hG46 hr50
                    obtain ⟨μ52, eμ52⟩ : ∃ y : sh_Mem, y = (sh_setI μ49 291 49 ((sh_i μ49 291 49) + 1)) := ⟨_, rfl⟩
                    rw [sh_let_eq eμ52] at h
                    have hG52 : sh_G μ52 := by rw [eμ52]; exact hG49
                    have e2 := Option.some.inj h
                    exact e2 ▸ hG52
                · rw [if_neg c30] at h
                  obtain ⟨μ53, hr54, h⟩ := sh_bindv_e h
                  have hG53 := gp_X12_codesTold hG27 hr54
                  obtain ⟨μ56, hr57, h⟩ := sh_bindv_e h
                  have hG56 := gp_X12_asksSign hG53 hr57
                  obtain ⟨μ59, eμ59⟩ : ∃ y : sh_Mem, y = (sh_setI μ56 291 49 ((sh_i μ56 291 49) + 1)) := ⟨_, rfl⟩
                  rw [sh_let_eq eμ59] at h
                  have hG59 : sh_G μ59 := by rw [eμ59]; exact hG56
                  have e2 := Option.some.inj h
                  exact e2 ▸ hG59
              · rw [if_neg c26] at h
                obtain ⟨μ60, hr61, h⟩ := sh_bindv_e h
                have hG60 := gp_X12_codesTold hG23 hr61
                obtain ⟨μ63, hr64, h⟩ := sh_bindv_e h
                have hG63 := gp_X12_asksSign hG60 hr64
                obtain ⟨μ66, eμ66⟩ : ∃ y : sh_Mem, y = (sh_setI μ63 291 49 ((sh_i μ63 291 49) + 1)) := ⟨_, rfl⟩
                rw [sh_let_eq eμ66] at h
                have hG66 : sh_G μ66 := by rw [eμ66]; exact hG63
                have e2 := Option.some.inj h
                exact e2 ▸ hG66
            · rw [if_neg c22] at h
              obtain ⟨μ67, hr68, h⟩ := sh_bindv_e h
              have hG67 := gp_X12_listTold hG19 hr68
              obtain ⟨μ70, hr71, h⟩ := sh_bindv_e h
              have hG70 := gp_X12_asksSign hG67 hr71
              obtain ⟨μ73, eμ73⟩ : ∃ y : sh_Mem, y = (sh_setI μ70 291 49 ((sh_i μ70 291 49) + 1)) := ⟨_, rfl⟩
              rw [sh_let_eq eμ73] at h
              have hG73 : sh_G μ73 := by rw [eμ73]; exact hG70
              have e2 := Option.some.inj h
              exact e2 ▸ hG73
          · rw [if_neg c18] at h
            obtain ⟨μ74, hr75, h⟩ := sh_bindv_e h
            have hG74 := gp_X12_knowsTold hG15 hr75
            obtain ⟨μ77, hr78, h⟩ := sh_bindv_e h
            have hG77 := gp_X12_asksSign hG74 hr78
            obtain ⟨μ80, eμ80⟩ : ∃ y : sh_Mem, y = (sh_setI μ77 291 49 ((sh_i μ77 291 49) + 1)) := ⟨_, rfl⟩
            rw [sh_let_eq eμ80] at h
            have hG80 : sh_G μ80 := by rw [eμ80]; exact hG77
            have e2 := Option.some.inj h
            exact e2 ▸ hG80
        · rw [if_neg c14] at h
          obtain ⟨μ81, hr82, h⟩ := sh_bindv_e h
          have hG81 := gp_X12_personTold hG11 hr82
          obtain ⟨μ84, hr85, h⟩ := sh_bindv_e h
          have hG84 := gp_X12_asksSign hG81 hr85
          obtain ⟨μ87, eμ87⟩ : ∃ y : sh_Mem, y = (sh_setI μ84 291 49 ((sh_i μ84 291 49) + 1)) := ⟨_, rfl⟩
          rw [sh_let_eq eμ87] at h
          have hG87 : sh_G μ87 := by rw [eμ87]; exact hG84
          have e2 := Option.some.inj h
          exact e2 ▸ hG87
      · rw [if_neg c10] at h
        obtain ⟨μ88, hr89, h⟩ := sh_bindv_e h
        have hG88 := gp_X12_topicTold hG7 hr89
        obtain ⟨μ91, hr92, h⟩ := sh_bindv_e h
        have hG91 := gp_X12_asksSign hG88 hr92
        obtain ⟨μ94, eμ94⟩ : ∃ y : sh_Mem, y = (sh_setI μ91 291 49 ((sh_i μ91 291 49) + 1)) := ⟨_, rfl⟩
        rw [sh_let_eq eμ94] at h
        have hG94 : sh_G μ94 := by rw [eμ94]; exact hG91
        have e2 := Option.some.inj h
        exact e2 ▸ hG94
    · rw [if_neg c6] at h
      obtain ⟨μ95, hr96, h⟩ := sh_bindv_e h
      have hG95 := gp_X12_highTold hG3 hr96
      obtain ⟨μ98, hr99, h⟩ := sh_bindv_e h
      have hG98 := gp_X12_asksSign hG95 hr99
      obtain ⟨μ101, eμ101⟩ : ∃ y : sh_Mem, y = (sh_setI μ98 291 49 ((sh_i μ98 291 49) + 1)) := ⟨_, rfl⟩
      rw [sh_let_eq eμ101] at h
      have hG101 : sh_G μ101 := by rw [eμ101]; exact hG98
      have e2 := Option.some.inj h
      exact e2 ▸ hG101
theorem t_X12_statementTold {μ μ' : sh_Mem} (hG : sh_G μ) (h : f_X12_statementTold μ = some μ') : sh_C0 l B D ca 11 M_X12_statementTold [.ref 291] μ (fun v0 μ0 => v0 = none ∧ μ0 = μ') := by
  unfold f_X12_statementTold at h
  refine vv_aload_n 0 0 dX12_statementTold_0 rfl rfl ?_
  refine vv_getI 1 dX12_statementTold_1 fl_12_259 rfl (g_l_291 hG) ?_
  refine vv_topi (fun x1 ex1 => ?_)
  rw [sh_let_eq ex1] at h
  refine vv_istore_n (lv' := [(1, _), (0, _)]) 4 1 dX12_statementTold_4 rfl (by decide) rfl ?_
  refine vv_aload_n 5 0 dX12_statementTold_5 rfl rfl ?_
  refine vv_getI 6 dX12_statementTold_6 fl_12_365 rfl (g_l_291 hG) ?_
  refine vv_bipush 9 dX12_statementTold_9 bk_80 ?_
  refine vv_icmp_ne 11 21 dX12_statementTold_11 (by decide) (fun c2 => ?_) (fun c2 => ?_)
  · rw [if_neg c2] at h
    refine vv_aload_n 21 0 dX12_statementTold_21 rfl rfl ?_
    refine vv_aload_n 22 0 dX12_statementTold_22 rfl rfl ?_
    refine vv_getR 23 dX12_statementTold_23 fl_12_27 rfl (g_l_291 hG) (g_r_291_13 hG) ?_
    obtain ⟨y5, μ3, hr4, h⟩ := sh_bind_e h
    refine v1_callV [_] 26 dX12_statementTold_26 ck_X12_280 (g_l_291 hG) ⟨by decide, rfl⟩ (t_X12_takes hG (sh_LAYat_296) hr4) (Nat.le_of_ble_eq_true rfl) ⟨Nat.le_of_ble_eq_true rfl, Nat.le_of_ble_eq_true rfl⟩ rfl (Nat.le_of_ble_eq_true rfl) ?_
    have hG3 := gp_X12_takes hG (sh_LAYat_296) hr4
    refine vv_if_eq 29 39 dX12_statementTold_29 (by decide) (fun c6 => ?_) (fun c6 => ?_)
    · rw [if_pos c6] at h
      refine vv_aload_n 39 0 dX12_statementTold_39 rfl rfl ?_
      refine vv_aload_n 40 0 dX12_statementTold_40 rfl rfl ?_
      refine vv_getR 41 dX12_statementTold_41 fl_12_30 rfl (g_l_291 hG3) (g_r_291_14 hG3) ?_
      obtain ⟨y9, μ7, hr8, h⟩ := sh_bind_e h
      refine v1_callV [_] 44 dX12_statementTold_44 ck_X12_280 (g_l_291 hG3) ⟨by decide, rfl⟩ (t_X12_takes hG3 (sh_LAYat_297) hr8) (Nat.le_of_ble_eq_true rfl) ⟨Nat.le_of_ble_eq_true rfl, Nat.le_of_ble_eq_true rfl⟩ rfl (Nat.le_of_ble_eq_true rfl) ?_
      have hG7 := gp_X12_takes hG3 (sh_LAYat_297) hr8
      refine vv_if_eq 47 58 dX12_statementTold_47 (by decide) (fun c10 => ?_) (fun c10 => ?_)
      · rw [if_pos c10] at h
        refine vv_aload_n 58 0 dX12_statementTold_58 rfl rfl ?_
        refine vv_aload_n 59 0 dX12_statementTold_59 rfl rfl ?_
        refine vv_getR 60 dX12_statementTold_60 fl_12_33 rfl (g_l_291 hG7) (g_r_291_15 hG7) ?_
        obtain ⟨y13, μ11, hr12, h⟩ := sh_bind_e h
        refine v1_callV [_] 63 dX12_statementTold_63 ck_X12_280 (g_l_291 hG7) ⟨by decide, rfl⟩ (t_X12_takes hG7 (sh_LAYat_298) hr12) (Nat.le_of_ble_eq_true rfl) ⟨Nat.le_of_ble_eq_true rfl, Nat.le_of_ble_eq_true rfl⟩ rfl (Nat.le_of_ble_eq_true rfl) ?_
        have hG11 := gp_X12_takes hG7 (sh_LAYat_298) hr12
        refine vv_if_eq 66 77 dX12_statementTold_66 (by decide) (fun c14 => ?_) (fun c14 => ?_)
        · rw [if_pos c14] at h
          refine vv_aload_n 77 0 dX12_statementTold_77 rfl rfl ?_
          refine vv_aload_n 78 0 dX12_statementTold_78 rfl rfl ?_
          refine vv_getR 79 dX12_statementTold_79 fl_12_42 rfl (g_l_291 hG11) (g_r_291_18 hG11) ?_
          obtain ⟨y17, μ15, hr16, h⟩ := sh_bind_e h
          refine v1_callV [_] 82 dX12_statementTold_82 ck_X12_280 (g_l_291 hG11) ⟨by decide, rfl⟩ (t_X12_takes hG11 (sh_LAYat_301) hr16) (Nat.le_of_ble_eq_true rfl) ⟨Nat.le_of_ble_eq_true rfl, Nat.le_of_ble_eq_true rfl⟩ rfl (Nat.le_of_ble_eq_true rfl) ?_
          have hG15 := gp_X12_takes hG11 (sh_LAYat_301) hr16
          refine vv_if_eq 85 95 dX12_statementTold_85 (by decide) (fun c18 => ?_) (fun c18 => ?_)
          · rw [if_pos c18] at h
            refine vv_aload_n 95 0 dX12_statementTold_95 rfl rfl ?_
            refine vv_aload_n 96 0 dX12_statementTold_96 rfl rfl ?_
            refine vv_getR 97 dX12_statementTold_97 fl_12_48 rfl (g_l_291 hG15) (g_r_291_20 hG15) ?_
            obtain ⟨y21, μ19, hr20, h⟩ := sh_bind_e h
            refine v1_callV [_] 100 dX12_statementTold_100 ck_X12_280 (g_l_291 hG15) ⟨by decide, rfl⟩ (t_X12_takes hG15 (sh_LAYat_303) hr20) (Nat.le_of_ble_eq_true rfl) ⟨Nat.le_of_ble_eq_true rfl, Nat.le_of_ble_eq_true rfl⟩ rfl (Nat.le_of_ble_eq_true rfl) ?_
            have hG19 := gp_X12_takes hG15 (sh_LAYat_303) hr20
            refine vv_if_eq 103 114 dX12_statementTold_103 (by decide) (fun c22 => ?_) (fun c22 => ?_)
            · rw [if_pos c22] at h
              refine vv_aload_n 114 0 dX12_statementTold_114 rfl rfl ?_
              refine vv_aload_n 115 0 dX12_statementTold_115 rfl rfl ?_
              refine vv_getR 116 dX12_statementTold_116 fl_12_51 rfl (g_l_291 hG19) (g_r_291_21 hG19) ?_
              obtain ⟨y25, μ23, hr24, h⟩ := sh_bind_e h
              refine v1_callV [_] 119 dX12_statementTold_119 ck_X12_280 (g_l_291 hG19) ⟨by decide, rfl⟩ (t_X12_takes hG19 (sh_LAYat_304) hr24) (Nat.le_of_ble_eq_true rfl) ⟨Nat.le_of_ble_eq_true rfl, Nat.le_of_ble_eq_true rfl⟩ rfl (Nat.le_of_ble_eq_true rfl) ?_
              have hG23 := gp_X12_takes hG19 (sh_LAYat_304) hr24
              refine vv_if_eq 122 134 dX12_statementTold_122 (by decide) (fun c26 => ?_) (fun c26 => ?_)
              · rw [if_pos c26] at h
                refine vv_aload_n 134 0 dX12_statementTold_134 rfl rfl ?_
                refine vv_aload_n 135 0 dX12_statementTold_135 rfl rfl ?_
                refine vv_getR 136 dX12_statementTold_136 fl_12_54 rfl (g_l_291 hG23) (g_r_291_22 hG23) ?_
                obtain ⟨y29, μ27, hr28, h⟩ := sh_bind_e h
                refine v1_callV [_] 139 dX12_statementTold_139 ck_X12_280 (g_l_291 hG23) ⟨by decide, rfl⟩ (t_X12_takes hG23 (sh_LAYat_305) hr28) (Nat.le_of_ble_eq_true rfl) ⟨Nat.le_of_ble_eq_true rfl, Nat.le_of_ble_eq_true rfl⟩ rfl (Nat.le_of_ble_eq_true rfl) ?_
                have hG27 := gp_X12_takes hG23 (sh_LAYat_305) hr28
                refine vv_if_eq 142 154 dX12_statementTold_142 (by decide) (fun c30 => ?_) (fun c30 => ?_)
                · rw [if_pos c30] at h
                  refine vv_aload_n 154 0 dX12_statementTold_154 rfl rfl ?_
                  refine vv_aload_n 155 0 dX12_statementTold_155 rfl rfl ?_
                  refine vv_getR 156 dX12_statementTold_156 fl_12_57 rfl (g_l_291 hG27) (g_r_291_23 hG27) ?_
                  obtain ⟨y33, μ31, hr32, h⟩ := sh_bind_e h
                  refine v1_callV [_] 159 dX12_statementTold_159 ck_X12_280 (g_l_291 hG27) ⟨by decide, rfl⟩ (t_X12_takes hG27 (sh_LAYat_306) hr32) (Nat.le_of_ble_eq_true rfl) ⟨Nat.le_of_ble_eq_true rfl, Nat.le_of_ble_eq_true rfl⟩ rfl (Nat.le_of_ble_eq_true rfl) ?_
                  have hG31 := gp_X12_takes hG27 (sh_LAYat_306) hr32
                  refine vv_if_eq 162 174 dX12_statementTold_162 (by decide) (fun c34 => ?_) (fun c34 => ?_)
                  · rw [if_pos c34] at h
                    refine vv_aload_n 174 0 dX12_statementTold_174 rfl rfl ?_
                    refine vv_aload_n 175 0 dX12_statementTold_175 rfl rfl ?_
                    refine vv_getR 176 dX12_statementTold_176 fl_12_60 rfl (g_l_291 hG31) (g_r_291_24 hG31) ?_
                    obtain ⟨μ35, hr36, h⟩ := sh_bindv_e h
                    refine v1_callV [_] 179 dX12_statementTold_179 ck_X12_318 (g_l_291 hG31) ⟨by decide, rfl⟩ (t_X12_needs hG31 (sh_LAYat_307) hr36) (Nat.le_of_ble_eq_true rfl) ⟨Nat.le_of_ble_eq_true rfl, Nat.le_of_ble_eq_true rfl⟩ rfl (Nat.le_of_ble_eq_true rfl) ?_
                    have hG35 := gp_X12_needs hG31 (sh_LAYat_307) hr36
                    refine vv_aload_n 182 0 dX12_statementTold_182 rfl rfl ?_
                    refine vv_getR 183 dX12_statementTold_183 fl_12_102 rfl (g_l_291 hG35) (g_r_291_39 hG35) ?_
                    refine vv_iconst 186 dX12_statementTold_186 ik_2 ?_
                    refine vv_aload_n 187 0 dX12_statementTold_187 rfl rfl ?_
                    refine vv_iconst 188 dX12_statementTold_188 ik_0 ?_
                    refine vv_bipush 189 dX12_statementTold_189 bk_100 ?_
                    obtain ⟨y40, μ38, hr39, h⟩ := sh_bind_e h
                    refine v1_callV [_, _] 191 dX12_statementTold_191 ck_X12_322 (g_l_291 hG35) ⟨by decide, rfl⟩ (t_X12_number hG35 hr39) (Nat.le_of_ble_eq_true rfl) ⟨Nat.le_of_ble_eq_true rfl, Nat.le_of_ble_eq_true rfl⟩ rfl (Nat.le_of_ble_eq_true rfl) ?_
                    have hG38 := gp_X12_number hG35 hr39
                    refine vn_iast 194 dX12_statementTold_194 (g_l_321 hG38) (by unfold vp_in; decide) (fun μ41 eμ41 => ?_)
                    rw [sh_let_eq eμ41] at h
                    have hG41 : sh_G μ41 := by rw [eμ41]; exact hG38
                    refine vv_aload_n 195 0 dX12_statementTold_195 rfl rfl ?_
                    refine vv_bipush 196 dX12_statementTold_196 bk_59 ?_
                    obtain ⟨μ42, hr43, h⟩ := sh_bindv_e h
                    refine v1_callV [_] 198 dX12_statementTold_198 ck_X12_326 (g_l_291 hG41) ⟨by decide, rfl⟩ (t_X12_asksSign hG41 hr43) (Nat.le_of_ble_eq_true rfl) ⟨Nat.le_of_ble_eq_true rfl, Nat.le_of_ble_eq_true rfl⟩ rfl (Nat.le_of_ble_eq_true rfl) ?_
                    have hG42 := gp_X12_asksSign hG41 hr43
                    refine vv_aload_n 201 0 dX12_statementTold_201 rfl rfl ?_
                    refine vv_dup_ref 202 dX12_statementTold_202 ?_
                    refine vv_getI 203 dX12_statementTold_203 fl_12_365 rfl (g_l_291 hG42) ?_
                    refine vv_iconst 206 dX12_statementTold_206 ik_1 ?_
                    refine vv_iadd 207 dX12_statementTold_207 ?_
                    refine vn_putI 208 dX12_statementTold_208 fl_12_365 (Or.inl rfl) rfl (g_l_291 hG42) (fun μ45 eμ45 => ?_)
                    rw [sh_let_eq eμ45] at h
                    have hG45 : sh_G μ45 := by rw [eμ45]; exact hG42
                    have e2 := Option.some.inj h
                    refine vv_vret 211 dX12_statementTold_211 rfl (Nat.le_refl _) (Nat.le_refl _) ⟨rfl, e2⟩
                  · rw [if_neg c34] at h
                    refine vv_aload_n 165 0 dX12_statementTold_165 rfl rfl ?_
                    refine vv_iconst 166 dX12_statementTold_166 ik_2 ?_
                    refine vv_iload_n 167 1 dX12_statementTold_167 rfl rfl ?_
                    obtain ⟨μ46, hr47, h⟩ := sh_bindv_e h
                    refine v1_callV [_, _] 168 dX12_statementTold_168 ck_X12_383 (g_l_291 hG31) ⟨by decide, rfl⟩ (t_X12_codesTold hG31 hr47) (Nat.le_of_ble_eq_true rfl) ⟨Nat.le_of_ble_eq_true rfl, Nat.le_of_ble_eq_true rfl⟩ rfl (Nat.le_of_ble_eq_true rfl) ?_
                    have hG46 := gp_X12_codesTold hG31 hr47
                    refine vv_goto 171 195 dX12_statementTold_171 (by decide) ?_
                    refine vv_aload_n 195 0 dX12_statementTold_195 rfl rfl ?_
                    refine vv_bipush 196 dX12_statementTold_196 bk_59 ?_
                    obtain ⟨μ49, hr50, h⟩ := sh_bindv_e h
                    refine v1_callV [_] 198 dX12_statementTold_198 ck_X12_326 (g_l_291 hG46) ⟨by decide, rfl⟩ (t_X12_asksSign hG46 hr50) (Nat.le_of_ble_eq_true rfl) ⟨Nat.le_of_ble_eq_true rfl, Nat.le_of_ble_eq_true rfl⟩ rfl (Nat.le_of_ble_eq_true rfl) ?_
                    have hG49 := gp_X12_asksSign hG46 hr50
                    refine vv_aload_n 201 0 dX12_statementTold_201 rfl rfl ?_
                    refine vv_dup_ref 202 dX12_statementTold_202 ?_
                    refine vv_getI 203 dX12_statementTold_203 fl_12_365 rfl (g_l_291 hG49) ?_
                    refine vv_iconst 206 dX12_statementTold_206 ik_1 ?_
                    refine vv_iadd 207 dX12_statementTold_207 ?_
                    refine vn_putI 208 dX12_statementTold_208 fl_12_365 (Or.inl rfl) rfl (g_l_291 hG49) (fun μ52 eμ52 => ?_)
                    rw [sh_let_eq eμ52] at h
                    have hG52 : sh_G μ52 := by rw [eμ52]; exact hG49
                    have e2 := Option.some.inj h
                    refine vv_vret 211 dX12_statementTold_211 rfl (Nat.le_refl _) (Nat.le_refl _) ⟨rfl, e2⟩
                · rw [if_neg c30] at h
                  refine vv_aload_n 145 0 dX12_statementTold_145 rfl rfl ?_
                  refine vv_iconst 146 dX12_statementTold_146 ik_1 ?_
                  refine vv_iload_n 147 1 dX12_statementTold_147 rfl rfl ?_
                  obtain ⟨μ53, hr54, h⟩ := sh_bindv_e h
                  refine v1_callV [_, _] 148 dX12_statementTold_148 ck_X12_383 (g_l_291 hG27) ⟨by decide, rfl⟩ (t_X12_codesTold hG27 hr54) (Nat.le_of_ble_eq_true rfl) ⟨Nat.le_of_ble_eq_true rfl, Nat.le_of_ble_eq_true rfl⟩ rfl (Nat.le_of_ble_eq_true rfl) ?_
                  have hG53 := gp_X12_codesTold hG27 hr54
                  refine vv_goto 151 195 dX12_statementTold_151 (by decide) ?_
                  refine vv_aload_n 195 0 dX12_statementTold_195 rfl rfl ?_
                  refine vv_bipush 196 dX12_statementTold_196 bk_59 ?_
                  obtain ⟨μ56, hr57, h⟩ := sh_bindv_e h
                  refine v1_callV [_] 198 dX12_statementTold_198 ck_X12_326 (g_l_291 hG53) ⟨by decide, rfl⟩ (t_X12_asksSign hG53 hr57) (Nat.le_of_ble_eq_true rfl) ⟨Nat.le_of_ble_eq_true rfl, Nat.le_of_ble_eq_true rfl⟩ rfl (Nat.le_of_ble_eq_true rfl) ?_
                  have hG56 := gp_X12_asksSign hG53 hr57
                  refine vv_aload_n 201 0 dX12_statementTold_201 rfl rfl ?_
                  refine vv_dup_ref 202 dX12_statementTold_202 ?_
                  refine vv_getI 203 dX12_statementTold_203 fl_12_365 rfl (g_l_291 hG56) ?_
                  refine vv_iconst 206 dX12_statementTold_206 ik_1 ?_
                  refine vv_iadd 207 dX12_statementTold_207 ?_
                  refine vn_putI 208 dX12_statementTold_208 fl_12_365 (Or.inl rfl) rfl (g_l_291 hG56) (fun μ59 eμ59 => ?_)
                  rw [sh_let_eq eμ59] at h
                  have hG59 : sh_G μ59 := by rw [eμ59]; exact hG56
                  have e2 := Option.some.inj h
                  refine vv_vret 211 dX12_statementTold_211 rfl (Nat.le_refl _) (Nat.le_refl _) ⟨rfl, e2⟩
              · rw [if_neg c26] at h
                refine vv_aload_n 125 0 dX12_statementTold_125 rfl rfl ?_
                refine vv_iconst 126 dX12_statementTold_126 ik_0 ?_
                refine vv_iload_n 127 1 dX12_statementTold_127 rfl rfl ?_
                obtain ⟨μ60, hr61, h⟩ := sh_bindv_e h
                refine v1_callV [_, _] 128 dX12_statementTold_128 ck_X12_383 (g_l_291 hG23) ⟨by decide, rfl⟩ (t_X12_codesTold hG23 hr61) (Nat.le_of_ble_eq_true rfl) ⟨Nat.le_of_ble_eq_true rfl, Nat.le_of_ble_eq_true rfl⟩ rfl (Nat.le_of_ble_eq_true rfl) ?_
                have hG60 := gp_X12_codesTold hG23 hr61
                refine vv_goto 131 195 dX12_statementTold_131 (by decide) ?_
                refine vv_aload_n 195 0 dX12_statementTold_195 rfl rfl ?_
                refine vv_bipush 196 dX12_statementTold_196 bk_59 ?_
                obtain ⟨μ63, hr64, h⟩ := sh_bindv_e h
                refine v1_callV [_] 198 dX12_statementTold_198 ck_X12_326 (g_l_291 hG60) ⟨by decide, rfl⟩ (t_X12_asksSign hG60 hr64) (Nat.le_of_ble_eq_true rfl) ⟨Nat.le_of_ble_eq_true rfl, Nat.le_of_ble_eq_true rfl⟩ rfl (Nat.le_of_ble_eq_true rfl) ?_
                have hG63 := gp_X12_asksSign hG60 hr64
                refine vv_aload_n 201 0 dX12_statementTold_201 rfl rfl ?_
                refine vv_dup_ref 202 dX12_statementTold_202 ?_
                refine vv_getI 203 dX12_statementTold_203 fl_12_365 rfl (g_l_291 hG63) ?_
                refine vv_iconst 206 dX12_statementTold_206 ik_1 ?_
                refine vv_iadd 207 dX12_statementTold_207 ?_
                refine vn_putI 208 dX12_statementTold_208 fl_12_365 (Or.inl rfl) rfl (g_l_291 hG63) (fun μ66 eμ66 => ?_)
                rw [sh_let_eq eμ66] at h
                have hG66 : sh_G μ66 := by rw [eμ66]; exact hG63
                have e2 := Option.some.inj h
                refine vv_vret 211 dX12_statementTold_211 rfl (Nat.le_refl _) (Nat.le_refl _) ⟨rfl, e2⟩
            · rw [if_neg c22] at h
              refine vv_aload_n 106 0 dX12_statementTold_106 rfl rfl ?_
              refine vv_iload_n 107 1 dX12_statementTold_107 rfl rfl ?_
              obtain ⟨μ67, hr68, h⟩ := sh_bindv_e h
              refine v1_callV [_] 108 dX12_statementTold_108 ck_X12_380 (g_l_291 hG19) ⟨by decide, rfl⟩ (t_X12_listTold hG19 hr68) (Nat.le_of_ble_eq_true rfl) ⟨Nat.le_of_ble_eq_true rfl, Nat.le_of_ble_eq_true rfl⟩ rfl (Nat.le_of_ble_eq_true rfl) ?_
              have hG67 := gp_X12_listTold hG19 hr68
              refine vv_goto 111 195 dX12_statementTold_111 (by decide) ?_
              refine vv_aload_n 195 0 dX12_statementTold_195 rfl rfl ?_
              refine vv_bipush 196 dX12_statementTold_196 bk_59 ?_
              obtain ⟨μ70, hr71, h⟩ := sh_bindv_e h
              refine v1_callV [_] 198 dX12_statementTold_198 ck_X12_326 (g_l_291 hG67) ⟨by decide, rfl⟩ (t_X12_asksSign hG67 hr71) (Nat.le_of_ble_eq_true rfl) ⟨Nat.le_of_ble_eq_true rfl, Nat.le_of_ble_eq_true rfl⟩ rfl (Nat.le_of_ble_eq_true rfl) ?_
              have hG70 := gp_X12_asksSign hG67 hr71
              refine vv_aload_n 201 0 dX12_statementTold_201 rfl rfl ?_
              refine vv_dup_ref 202 dX12_statementTold_202 ?_
              refine vv_getI 203 dX12_statementTold_203 fl_12_365 rfl (g_l_291 hG70) ?_
              refine vv_iconst 206 dX12_statementTold_206 ik_1 ?_
              refine vv_iadd 207 dX12_statementTold_207 ?_
              refine vn_putI 208 dX12_statementTold_208 fl_12_365 (Or.inl rfl) rfl (g_l_291 hG70) (fun μ73 eμ73 => ?_)
              rw [sh_let_eq eμ73] at h
              have hG73 : sh_G μ73 := by rw [eμ73]; exact hG70
              have e2 := Option.some.inj h
              refine vv_vret 211 dX12_statementTold_211 rfl (Nat.le_refl _) (Nat.le_refl _) ⟨rfl, e2⟩
          · rw [if_neg c18] at h
            refine vv_aload_n 88 0 dX12_statementTold_88 rfl rfl ?_
            obtain ⟨μ74, hr75, h⟩ := sh_bindv_e h
            refine v1_callV [] 89 dX12_statementTold_89 ck_X12_377 (g_l_291 hG15) ⟨by decide, rfl⟩ (t_X12_knowsTold hG15 hr75) (Nat.le_of_ble_eq_true rfl) ⟨Nat.le_of_ble_eq_true rfl, Nat.le_of_ble_eq_true rfl⟩ rfl (Nat.le_of_ble_eq_true rfl) ?_
            have hG74 := gp_X12_knowsTold hG15 hr75
            refine vv_goto 92 195 dX12_statementTold_92 (by decide) ?_
            refine vv_aload_n 195 0 dX12_statementTold_195 rfl rfl ?_
            refine vv_bipush 196 dX12_statementTold_196 bk_59 ?_
            obtain ⟨μ77, hr78, h⟩ := sh_bindv_e h
            refine v1_callV [_] 198 dX12_statementTold_198 ck_X12_326 (g_l_291 hG74) ⟨by decide, rfl⟩ (t_X12_asksSign hG74 hr78) (Nat.le_of_ble_eq_true rfl) ⟨Nat.le_of_ble_eq_true rfl, Nat.le_of_ble_eq_true rfl⟩ rfl (Nat.le_of_ble_eq_true rfl) ?_
            have hG77 := gp_X12_asksSign hG74 hr78
            refine vv_aload_n 201 0 dX12_statementTold_201 rfl rfl ?_
            refine vv_dup_ref 202 dX12_statementTold_202 ?_
            refine vv_getI 203 dX12_statementTold_203 fl_12_365 rfl (g_l_291 hG77) ?_
            refine vv_iconst 206 dX12_statementTold_206 ik_1 ?_
            refine vv_iadd 207 dX12_statementTold_207 ?_
            refine vn_putI 208 dX12_statementTold_208 fl_12_365 (Or.inl rfl) rfl (g_l_291 hG77) (fun μ80 eμ80 => ?_)
            rw [sh_let_eq eμ80] at h
            have hG80 : sh_G μ80 := by rw [eμ80]; exact hG77
            have e2 := Option.some.inj h
            refine vv_vret 211 dX12_statementTold_211 rfl (Nat.le_refl _) (Nat.le_refl _) ⟨rfl, e2⟩
        · rw [if_neg c14] at h
          refine vv_aload_n 69 0 dX12_statementTold_69 rfl rfl ?_
          refine vv_iload_n 70 1 dX12_statementTold_70 rfl rfl ?_
          obtain ⟨μ81, hr82, h⟩ := sh_bindv_e h
          refine v1_callV [_] 71 dX12_statementTold_71 ck_X12_374 (g_l_291 hG11) ⟨by decide, rfl⟩ (t_X12_personTold hG11 hr82) (Nat.le_of_ble_eq_true rfl) ⟨Nat.le_of_ble_eq_true rfl, Nat.le_of_ble_eq_true rfl⟩ rfl (Nat.le_of_ble_eq_true rfl) ?_
          have hG81 := gp_X12_personTold hG11 hr82
          refine vv_goto 74 195 dX12_statementTold_74 (by decide) ?_
          refine vv_aload_n 195 0 dX12_statementTold_195 rfl rfl ?_
          refine vv_bipush 196 dX12_statementTold_196 bk_59 ?_
          obtain ⟨μ84, hr85, h⟩ := sh_bindv_e h
          refine v1_callV [_] 198 dX12_statementTold_198 ck_X12_326 (g_l_291 hG81) ⟨by decide, rfl⟩ (t_X12_asksSign hG81 hr85) (Nat.le_of_ble_eq_true rfl) ⟨Nat.le_of_ble_eq_true rfl, Nat.le_of_ble_eq_true rfl⟩ rfl (Nat.le_of_ble_eq_true rfl) ?_
          have hG84 := gp_X12_asksSign hG81 hr85
          refine vv_aload_n 201 0 dX12_statementTold_201 rfl rfl ?_
          refine vv_dup_ref 202 dX12_statementTold_202 ?_
          refine vv_getI 203 dX12_statementTold_203 fl_12_365 rfl (g_l_291 hG84) ?_
          refine vv_iconst 206 dX12_statementTold_206 ik_1 ?_
          refine vv_iadd 207 dX12_statementTold_207 ?_
          refine vn_putI 208 dX12_statementTold_208 fl_12_365 (Or.inl rfl) rfl (g_l_291 hG84) (fun μ87 eμ87 => ?_)
          rw [sh_let_eq eμ87] at h
          have hG87 : sh_G μ87 := by rw [eμ87]; exact hG84
          have e2 := Option.some.inj h
          refine vv_vret 211 dX12_statementTold_211 rfl (Nat.le_refl _) (Nat.le_refl _) ⟨rfl, e2⟩
      · rw [if_neg c10] at h
        refine vv_aload_n 50 0 dX12_statementTold_50 rfl rfl ?_
        refine vv_iload_n 51 1 dX12_statementTold_51 rfl rfl ?_
        obtain ⟨μ88, hr89, h⟩ := sh_bindv_e h
        refine v1_callV [_] 52 dX12_statementTold_52 ck_X12_371 (g_l_291 hG7) ⟨by decide, rfl⟩ (t_X12_topicTold hG7 hr89) (Nat.le_of_ble_eq_true rfl) ⟨Nat.le_of_ble_eq_true rfl, Nat.le_of_ble_eq_true rfl⟩ rfl (Nat.le_of_ble_eq_true rfl) ?_
        have hG88 := gp_X12_topicTold hG7 hr89
        refine vv_goto 55 195 dX12_statementTold_55 (by decide) ?_
        refine vv_aload_n 195 0 dX12_statementTold_195 rfl rfl ?_
        refine vv_bipush 196 dX12_statementTold_196 bk_59 ?_
        obtain ⟨μ91, hr92, h⟩ := sh_bindv_e h
        refine v1_callV [_] 198 dX12_statementTold_198 ck_X12_326 (g_l_291 hG88) ⟨by decide, rfl⟩ (t_X12_asksSign hG88 hr92) (Nat.le_of_ble_eq_true rfl) ⟨Nat.le_of_ble_eq_true rfl, Nat.le_of_ble_eq_true rfl⟩ rfl (Nat.le_of_ble_eq_true rfl) ?_
        have hG91 := gp_X12_asksSign hG88 hr92
        refine vv_aload_n 201 0 dX12_statementTold_201 rfl rfl ?_
        refine vv_dup_ref 202 dX12_statementTold_202 ?_
        refine vv_getI 203 dX12_statementTold_203 fl_12_365 rfl (g_l_291 hG91) ?_
        refine vv_iconst 206 dX12_statementTold_206 ik_1 ?_
        refine vv_iadd 207 dX12_statementTold_207 ?_
        refine vn_putI 208 dX12_statementTold_208 fl_12_365 (Or.inl rfl) rfl (g_l_291 hG91) (fun μ94 eμ94 => ?_)
        rw [sh_let_eq eμ94] at h
        have hG94 : sh_G μ94 := by rw [eμ94]; exact hG91
        have e2 := Option.some.inj h
        refine vv_vret 211 dX12_statementTold_211 rfl (Nat.le_refl _) (Nat.le_refl _) ⟨rfl, e2⟩
    · rw [if_neg c6] at h
      refine vv_aload_n 32 0 dX12_statementTold_32 rfl rfl ?_
      obtain ⟨μ95, hr96, h⟩ := sh_bindv_e h
      refine v1_callV [] 33 dX12_statementTold_33 ck_X12_368 (g_l_291 hG3) ⟨by decide, rfl⟩ (t_X12_highTold hG3 hr96) (Nat.le_of_ble_eq_true rfl) ⟨Nat.le_of_ble_eq_true rfl, Nat.le_of_ble_eq_true rfl⟩ rfl (Nat.le_of_ble_eq_true rfl) ?_
      have hG95 := gp_X12_highTold hG3 hr96
      refine vv_goto 36 195 dX12_statementTold_36 (by decide) ?_
      refine vv_aload_n 195 0 dX12_statementTold_195 rfl rfl ?_
      refine vv_bipush 196 dX12_statementTold_196 bk_59 ?_
      obtain ⟨μ98, hr99, h⟩ := sh_bindv_e h
      refine v1_callV [_] 198 dX12_statementTold_198 ck_X12_326 (g_l_291 hG95) ⟨by decide, rfl⟩ (t_X12_asksSign hG95 hr99) (Nat.le_of_ble_eq_true rfl) ⟨Nat.le_of_ble_eq_true rfl, Nat.le_of_ble_eq_true rfl⟩ rfl (Nat.le_of_ble_eq_true rfl) ?_
      have hG98 := gp_X12_asksSign hG95 hr99
      refine vv_aload_n 201 0 dX12_statementTold_201 rfl rfl ?_
      refine vv_dup_ref 202 dX12_statementTold_202 ?_
      refine vv_getI 203 dX12_statementTold_203 fl_12_365 rfl (g_l_291 hG98) ?_
      refine vv_iconst 206 dX12_statementTold_206 ik_1 ?_
      refine vv_iadd 207 dX12_statementTold_207 ?_
      refine vn_putI 208 dX12_statementTold_208 fl_12_365 (Or.inl rfl) rfl (g_l_291 hG98) (fun μ101 eμ101 => ?_)
      rw [sh_let_eq eμ101] at h
      have hG101 : sh_G μ101 := by rw [eμ101]; exact hG98
      have e2 := Option.some.inj h
      refine vv_vret 211 dX12_statementTold_211 rfl (Nat.le_refl _) (Nat.le_refl _) ⟨rfl, e2⟩
  · rw [if_pos c2] at h
    refine vv_aload_n 14 0 dX12_statementTold_14 rfl rfl ?_
    refine vv_iconst 15 dX12_statementTold_15 ik_5 ?_
    refine vv_iload_n 16 1 dX12_statementTold_16 rfl rfl ?_
    obtain ⟨μ102, hr103, h⟩ := sh_bindv_e h
    refine v1_callV [_, _] 17 dX12_statementTold_17 ck_X12_283 (g_l_291 hG) ⟨by decide, rfl⟩ (t_X12_fail hG hr103) (Nat.le_of_ble_eq_true rfl) ⟨Nat.le_of_ble_eq_true rfl, Nat.le_of_ble_eq_true rfl⟩ rfl (Nat.le_of_ble_eq_true rfl) ?_
    have hG102 := gp_X12_fail hG hr103
    have e2 := Option.some.inj h
    refine vv_vret 20 dX12_statementTold_20 rfl (Nat.le_refl _) (Nat.le_refl _) ⟨rfl, e2⟩
noncomputable def F_X12_plain : Nat → Nat → Int32 → sh_Mem → Option (Int32 × sh_Mem)
  | 0, _, _, _ => none
  | fuel + 1, lbl, i1, μ => match lbl with
    | 1 => (if 3 ≤ i1 then F_X12_plain fuel 2 0 μ else (if sh_in i1 6 then sh_let (sh_setI μ 322 i1.toNatClampNeg 0) (fun μ79 => (if sh_in i1 6 then sh_let (sh_setI μ79 327 i1.toNatClampNeg (-1)) (fun μ81 => F_X12_plain fuel 1 (i1 + 1) μ81) else none)) else none))
    | 2 => (if 49 ≤ i1 then sh_bindv (f_X12_plainTold μ) (fun μ83 => sh_let (sh_setI μ83 291 49 1) (fun μ86 => F_X12_plain fuel 3 i1 μ86)) else (if sh_in i1 49 then sh_let (sh_setI μ 324 i1.toNatClampNeg 50) (fun μ88 => F_X12_plain fuel 2 (i1 + 1) μ88) else none))
    | 3 => (if (sh_i μ 291 5) = 0 then sh_bind (f_X12_look μ) (fun y99 μ97 => (if y99 = (-1) then sh_let (sh_setI μ97 291 7 (sh_i μ97 291 5)) (fun μ101 => sh_let (sh_setI μ101 291 8 (sh_i μ101 291 6)) (fun μ102 => (if (sh_i μ102 291 5) = 0 then sh_bindv (f_X12_stands μ102) (fun μ104 => some ((sh_i μ104 291 49), μ104)) else sh_let (sh_setI μ102 293 (Int32.toNatClampNeg 1) ((sh_i μ102 293 (Int32.toNatClampNeg 1)) + 1)) (fun μ107 => some ((-1), μ107))))) else sh_bindv (f_X12_statementTold μ97) (fun μ108 => F_X12_plain fuel 3 i1 μ108))) else sh_let (sh_setI μ 291 7 (sh_i μ 291 5)) (fun μ90 => sh_let (sh_setI μ90 291 8 (sh_i μ90 291 6)) (fun μ91 => (if (sh_i μ91 291 5) = 0 then sh_bindv (f_X12_stands μ91) (fun μ93 => some ((sh_i μ93 291 49), μ93)) else sh_let (sh_setI μ91 293 (Int32.toNatClampNeg 1) ((sh_i μ91 293 (Int32.toNatClampNeg 1)) + 1)) (fun μ96 => some ((-1), μ96))))))
    | _ => none
noncomputable def f_X12_plain (μ : sh_Mem) : Option (Int32 × sh_Mem) := sh_let (sh_setI μ 291 3 (sh_i μ 291 1)) (fun μ111 => sh_let (sh_setI μ111 291 1 0) (fun μ112 => sh_let (sh_setI μ112 291 2 0) (fun μ113 => sh_let (sh_setI μ113 291 4 (-1)) (fun μ114 => sh_let (sh_setI μ114 291 5 0) (fun μ115 => sh_let (sh_setI μ115 291 6 (-1)) (fun μ116 => sh_let (sh_setI μ116 291 48 0) (fun μ117 => sh_let (sh_setI μ117 321 (Int32.toNatClampNeg 2) 0) (fun μ118 => F_X12_plain sh_fuel 1 0 μ118))))))))
theorem gpl_X12_plain (fuel : Nat) : (∀ ⦃i1 : Int32⦄ ⦃μ μ' : sh_Mem⦄ ⦃v : Int32⦄, sh_G μ → F_X12_plain fuel 1 i1 μ = some (v, μ') → sh_G μ') ∧ (∀ ⦃i1 : Int32⦄ ⦃μ μ' : sh_Mem⦄ ⦃v : Int32⦄, sh_G μ → F_X12_plain fuel 2 i1 μ = some (v, μ') → sh_G μ') ∧ (∀ ⦃i1 : Int32⦄ ⦃μ μ' : sh_Mem⦄ ⦃v : Int32⦄, sh_G μ → F_X12_plain fuel 3 i1 μ = some (v, μ') → sh_G μ') := by
  induction fuel with
  | zero => exact ⟨(by intro i1 μ μ' v hG h; cases h), (by intro i1 μ μ' v hG h; cases h), (by intro i1 μ μ' v hG h; cases h)⟩
  | succ fuel ih =>
    obtain ⟨ih_47, ih_74, ih_103⟩ := ih
    refine ⟨?_, ?_, ?_⟩
    · intro i1 μ μ' v hG h
      replace h : ((if 3 ≤ i1 then F_X12_plain fuel 2 0 μ else (if sh_in i1 6 then sh_let (sh_setI μ 322 i1.toNatClampNeg 0) (fun μ79 => (if sh_in i1 6 then sh_let (sh_setI μ79 327 i1.toNatClampNeg (-1)) (fun μ81 => F_X12_plain fuel 1 (i1 + 1) μ81) else none)) else none)) : Option (Int32 × sh_Mem)) = some (v, μ') := h
      by_cases c77 : 3 ≤ i1
      · rw [if_pos c77] at h
        exact ih_74 hG h
      · rw [if_neg c77] at h
        obtain ⟨k78, h⟩ := sh_chk h
        obtain ⟨μ79, eμ79⟩ : ∃ y : sh_Mem, y = (sh_setI μ 322 i1.toNatClampNeg 0) := ⟨_, rfl⟩
        rw [sh_let_eq eμ79] at h
        have hG79 : sh_G μ79 := by rw [eμ79]; exact hG
        obtain ⟨k80, h⟩ := sh_chk h
        obtain ⟨μ81, eμ81⟩ : ∃ y : sh_Mem, y = (sh_setI μ79 327 i1.toNatClampNeg (-1)) := ⟨_, rfl⟩
        rw [sh_let_eq eμ81] at h
        have hG81 : sh_G μ81 := by rw [eμ81]; exact hG79
        exact ih_47 hG81 h
    · intro i1 μ μ' v hG h
      replace h : ((if 49 ≤ i1 then sh_bindv (f_X12_plainTold μ) (fun μ83 => sh_let (sh_setI μ83 291 49 1) (fun μ86 => F_X12_plain fuel 3 i1 μ86)) else (if sh_in i1 49 then sh_let (sh_setI μ 324 i1.toNatClampNeg 50) (fun μ88 => F_X12_plain fuel 2 (i1 + 1) μ88) else none)) : Option (Int32 × sh_Mem)) = some (v, μ') := h
      by_cases c82 : 49 ≤ i1
      · rw [if_pos c82] at h
        obtain ⟨μ83, hr84, h⟩ := sh_bindv_e h
        have hG83 := gp_X12_plainTold hG hr84
        obtain ⟨μ86, eμ86⟩ : ∃ y : sh_Mem, y = (sh_setI μ83 291 49 1) := ⟨_, rfl⟩
        rw [sh_let_eq eμ86] at h
        have hG86 : sh_G μ86 := by rw [eμ86]; exact hG83
        exact ih_103 hG86 h
      · rw [if_neg c82] at h
        obtain ⟨k87, h⟩ := sh_chk h
        obtain ⟨μ88, eμ88⟩ : ∃ y : sh_Mem, y = (sh_setI μ 324 i1.toNatClampNeg 50) := ⟨_, rfl⟩
        rw [sh_let_eq eμ88] at h
        have hG88 : sh_G μ88 := by rw [eμ88]; exact hG
        exact ih_74 hG88 h
    · intro i1 μ μ' v hG h
      replace h : ((if (sh_i μ 291 5) = 0 then sh_bind (f_X12_look μ) (fun y99 μ97 => (if y99 = (-1) then sh_let (sh_setI μ97 291 7 (sh_i μ97 291 5)) (fun μ101 => sh_let (sh_setI μ101 291 8 (sh_i μ101 291 6)) (fun μ102 => (if (sh_i μ102 291 5) = 0 then sh_bindv (f_X12_stands μ102) (fun μ104 => some ((sh_i μ104 291 49), μ104)) else sh_let (sh_setI μ102 293 (Int32.toNatClampNeg 1) ((sh_i μ102 293 (Int32.toNatClampNeg 1)) + 1)) (fun μ107 => some ((-1), μ107))))) else sh_bindv (f_X12_statementTold μ97) (fun μ108 => F_X12_plain fuel 3 i1 μ108))) else sh_let (sh_setI μ 291 7 (sh_i μ 291 5)) (fun μ90 => sh_let (sh_setI μ90 291 8 (sh_i μ90 291 6)) (fun μ91 => (if (sh_i μ91 291 5) = 0 then sh_bindv (f_X12_stands μ91) (fun μ93 => some ((sh_i μ93 291 49), μ93)) else sh_let (sh_setI μ91 293 (Int32.toNatClampNeg 1) ((sh_i μ91 293 (Int32.toNatClampNeg 1)) + 1)) (fun μ96 => some ((-1), μ96)))))) : Option (Int32 × sh_Mem)) = some (v, μ') := h
      by_cases c89 : (sh_i μ 291 5) = 0
      · rw [if_pos c89] at h
        obtain ⟨y99, μ97, hr98, h⟩ := sh_bind_e h
        have hG97 := gp_X12_look hG hr98
        by_cases c100 : y99 = (-1)
        · rw [if_pos c100] at h
          obtain ⟨μ101, eμ101⟩ : ∃ y : sh_Mem, y = (sh_setI μ97 291 7 (sh_i μ97 291 5)) := ⟨_, rfl⟩
          rw [sh_let_eq eμ101] at h
          have hG101 : sh_G μ101 := by rw [eμ101]; exact hG97
          obtain ⟨μ102, eμ102⟩ : ∃ y : sh_Mem, y = (sh_setI μ101 291 8 (sh_i μ101 291 6)) := ⟨_, rfl⟩
          rw [sh_let_eq eμ102] at h
          have hG102 : sh_G μ102 := by rw [eμ102]; exact hG101
          by_cases c103 : (sh_i μ102 291 5) = 0
          · rw [if_pos c103] at h
            obtain ⟨μ104, hr105, h⟩ := sh_bindv_e h
            have hG104 := gp_X12_stands hG102 hr105
            obtain ⟨e1, e2⟩ := sh_some2 h
            exact e2 ▸ hG104
          · rw [if_neg c103] at h
            obtain ⟨μ107, eμ107⟩ : ∃ y : sh_Mem, y = (sh_setI μ102 293 (Int32.toNatClampNeg 1) ((sh_i μ102 293 (Int32.toNatClampNeg 1)) + 1)) := ⟨_, rfl⟩
            rw [sh_let_eq eμ107] at h
            have hG107 : sh_G μ107 := by rw [eμ107]; exact hG102
            obtain ⟨e1, e2⟩ := sh_some2 h
            exact e2 ▸ hG107
        · rw [if_neg c100] at h
          obtain ⟨μ108, hr109, h⟩ := sh_bindv_e h
          have hG108 := gp_X12_statementTold hG97 hr109
          exact ih_103 hG108 h
      · rw [if_neg c89] at h
        obtain ⟨μ90, eμ90⟩ : ∃ y : sh_Mem, y = (sh_setI μ 291 7 (sh_i μ 291 5)) := ⟨_, rfl⟩
        rw [sh_let_eq eμ90] at h
        have hG90 : sh_G μ90 := by rw [eμ90]; exact hG
        obtain ⟨μ91, eμ91⟩ : ∃ y : sh_Mem, y = (sh_setI μ90 291 8 (sh_i μ90 291 6)) := ⟨_, rfl⟩
        rw [sh_let_eq eμ91] at h
        have hG91 : sh_G μ91 := by rw [eμ91]; exact hG90
        by_cases c92 : (sh_i μ91 291 5) = 0
        · rw [if_pos c92] at h
          obtain ⟨μ93, hr94, h⟩ := sh_bindv_e h
          have hG93 := gp_X12_stands hG91 hr94
          obtain ⟨e1, e2⟩ := sh_some2 h
          exact e2 ▸ hG93
        · rw [if_neg c92] at h
          obtain ⟨μ96, eμ96⟩ : ∃ y : sh_Mem, y = (sh_setI μ91 293 (Int32.toNatClampNeg 1) ((sh_i μ91 293 (Int32.toNatClampNeg 1)) + 1)) := ⟨_, rfl⟩
          rw [sh_let_eq eμ96] at h
          have hG96 : sh_G μ96 := by rw [eμ96]; exact hG91
          obtain ⟨e1, e2⟩ := sh_some2 h
          exact e2 ▸ hG96
theorem tl_X12_plain (fuel : Nat) : (∀ ⦃i1 : Int32⦄ ⦃μ μ' : sh_Mem⦄ ⦃v : Int32⦄, sh_G μ → F_X12_plain fuel 1 i1 μ = some (v, μ') → sh_V0 l B D ca 12 M_X12_plain 47 [(0, .ref 291), (1, .int i1)] [] μ (fun v0 μ0 => v0 = some (.int v) ∧ μ0 = μ')) ∧ (∀ ⦃i1 : Int32⦄ ⦃μ μ' : sh_Mem⦄ ⦃v : Int32⦄, sh_G μ → F_X12_plain fuel 2 i1 μ = some (v, μ') → sh_V0 l B D ca 12 M_X12_plain 74 [(0, .ref 291), (1, .int i1)] [] μ (fun v0 μ0 => v0 = some (.int v) ∧ μ0 = μ')) ∧ (∀ ⦃i1 : Int32⦄ ⦃μ μ' : sh_Mem⦄ ⦃v : Int32⦄, sh_G μ → F_X12_plain fuel 3 i1 μ = some (v, μ') → sh_V0 l B D ca 12 M_X12_plain 103 [(0, .ref 291), (1, .int i1)] [] μ (fun v0 μ0 => v0 = some (.int v) ∧ μ0 = μ')) := by
  induction fuel with
  | zero => exact ⟨(by intro i1 μ μ' v hG h; cases h), (by intro i1 μ μ' v hG h; cases h), (by intro i1 μ μ' v hG h; cases h)⟩
  | succ fuel ih =>
    obtain ⟨ih_47, ih_74, ih_103⟩ := ih
    refine ⟨?_, ?_, ?_⟩
    · intro i1 μ μ' v hG h
      replace h : ((if 3 ≤ i1 then F_X12_plain fuel 2 0 μ else (if sh_in i1 6 then sh_let (sh_setI μ 322 i1.toNatClampNeg 0) (fun μ79 => (if sh_in i1 6 then sh_let (sh_setI μ79 327 i1.toNatClampNeg (-1)) (fun μ81 => F_X12_plain fuel 1 (i1 + 1) μ81) else none)) else none)) : Option (Int32 × sh_Mem)) = some (v, μ') := h
      refine vv_iload_n 47 1 dX12_plain_47 rfl rfl ?_
      refine vv_iconst 48 dX12_plain_48 ik_3 ?_
      refine vv_icmp_ge 49 72 dX12_plain_49 (by decide) (fun c77 => ?_) (fun c77 => ?_)
      · rw [if_pos c77] at h
        refine vv_iconst 72 dX12_plain_72 ik_0 ?_
        refine vv_istore_n (lv' := [(1, _), (0, _)]) 73 1 dX12_plain_73 rfl (by decide) rfl ?_
        refine vv_sub [(0, _), (1, _)] (sh_subm [1, 0] rfl) ?_
        exact ih_74 hG h
      · rw [if_neg c77] at h
        refine vv_aload_n 52 0 dX12_plain_52 rfl rfl ?_
        refine vv_getR 53 dX12_plain_53 fl_12_105 rfl (g_l_291 hG) (g_r_291_40 hG) ?_
        refine vv_iload_n 56 1 dX12_plain_56 rfl rfl ?_
        refine vv_iconst 57 dX12_plain_57 ik_0 ?_
        obtain ⟨k78, h⟩ := sh_chk h
        refine vn_iast 58 dX12_plain_58 (g_l_322 hG) k78 (fun μ79 eμ79 => ?_)
        rw [sh_let_eq eμ79] at h
        have hG79 : sh_G μ79 := by rw [eμ79]; exact hG
        refine vv_aload_n 59 0 dX12_plain_59 rfl rfl ?_
        refine vv_getR 60 dX12_plain_60 fl_12_121 rfl (g_l_291 hG79) (g_r_291_45 hG79) ?_
        refine vv_iload_n 63 1 dX12_plain_63 rfl rfl ?_
        refine vv_iconst 64 dX12_plain_64 ik_m1 ?_
        obtain ⟨k80, h⟩ := sh_chk h
        refine vn_iast 65 dX12_plain_65 (g_l_327 hG79) k80 (fun μ81 eμ81 => ?_)
        rw [sh_let_eq eμ81] at h
        have hG81 : sh_G μ81 := by rw [eμ81]; exact hG79
        refine vv_iincc (lv' := [(1, _), (0, _)]) 66 1 dX12_plain_66 rfl ik_1 (by decide) rfl ?_
        refine vv_goto 69 47 dX12_plain_69 (by decide) ?_
        refine vv_sub [(0, _), (1, _)] (sh_subm [1, 0] rfl) ?_
        exact ih_47 hG81 h
    · intro i1 μ μ' v hG h
      replace h : ((if 49 ≤ i1 then sh_bindv (f_X12_plainTold μ) (fun μ83 => sh_let (sh_setI μ83 291 49 1) (fun μ86 => F_X12_plain fuel 3 i1 μ86)) else (if sh_in i1 49 then sh_let (sh_setI μ 324 i1.toNatClampNeg 50) (fun μ88 => F_X12_plain fuel 2 (i1 + 1) μ88) else none)) : Option (Int32 × sh_Mem)) = some (v, μ') := h
      refine vv_iload_n 74 1 dX12_plain_74 rfl rfl ?_
      refine vv_bipush 75 dX12_plain_75 bk_49 ?_
      refine vv_icmp_ge 77 94 dX12_plain_77 (by decide) (fun c82 => ?_) (fun c82 => ?_)
      · rw [if_pos c82] at h
        refine vv_aload_n 94 0 dX12_plain_94 rfl rfl ?_
        obtain ⟨μ83, hr84, h⟩ := sh_bindv_e h
        refine v1_callV [] 95 dX12_plain_95 ck_X12_386 (g_l_291 hG) ⟨by decide, rfl⟩ (t_X12_plainTold hG hr84) (Nat.le_of_ble_eq_true rfl) ⟨Nat.le_of_ble_eq_true rfl, Nat.le_of_ble_eq_true rfl⟩ rfl (Nat.le_of_ble_eq_true rfl) ?_
        have hG83 := gp_X12_plainTold hG hr84
        refine vv_aload_n 98 0 dX12_plain_98 rfl rfl ?_
        refine vv_iconst 99 dX12_plain_99 ik_1 ?_
        refine vn_putI 100 dX12_plain_100 fl_12_365 (Or.inl rfl) rfl (g_l_291 hG83) (fun μ86 eμ86 => ?_)
        rw [sh_let_eq eμ86] at h
        have hG86 : sh_G μ86 := by rw [eμ86]; exact hG83
        refine vv_sub [(0, _), (1, _)] (sh_subm [0, 1] rfl) ?_
        exact ih_103 hG86 h
      · rw [if_neg c82] at h
        refine vv_aload_n 80 0 dX12_plain_80 rfl rfl ?_
        refine vv_getR 81 dX12_plain_81 fl_12_112 rfl (g_l_291 hG) (g_r_291_42 hG) ?_
        refine vv_iload_n 84 1 dX12_plain_84 rfl rfl ?_
        refine vv_bipush 85 dX12_plain_85 bk_50 ?_
        obtain ⟨k87, h⟩ := sh_chk h
        refine vn_iast 87 dX12_plain_87 (g_l_324 hG) k87 (fun μ88 eμ88 => ?_)
        rw [sh_let_eq eμ88] at h
        have hG88 : sh_G μ88 := by rw [eμ88]; exact hG
        refine vv_iincc (lv' := [(1, _), (0, _)]) 88 1 dX12_plain_88 rfl ik_1 (by decide) rfl ?_
        refine vv_goto 91 74 dX12_plain_91 (by decide) ?_
        refine vv_sub [(0, _), (1, _)] (sh_subm [1, 0] rfl) ?_
        exact ih_74 hG88 h
    · intro i1 μ μ' v hG h
      replace h : ((if (sh_i μ 291 5) = 0 then sh_bind (f_X12_look μ) (fun y99 μ97 => (if y99 = (-1) then sh_let (sh_setI μ97 291 7 (sh_i μ97 291 5)) (fun μ101 => sh_let (sh_setI μ101 291 8 (sh_i μ101 291 6)) (fun μ102 => (if (sh_i μ102 291 5) = 0 then sh_bindv (f_X12_stands μ102) (fun μ104 => some ((sh_i μ104 291 49), μ104)) else sh_let (sh_setI μ102 293 (Int32.toNatClampNeg 1) ((sh_i μ102 293 (Int32.toNatClampNeg 1)) + 1)) (fun μ107 => some ((-1), μ107))))) else sh_bindv (f_X12_statementTold μ97) (fun μ108 => F_X12_plain fuel 3 i1 μ108))) else sh_let (sh_setI μ 291 7 (sh_i μ 291 5)) (fun μ90 => sh_let (sh_setI μ90 291 8 (sh_i μ90 291 6)) (fun μ91 => (if (sh_i μ91 291 5) = 0 then sh_bindv (f_X12_stands μ91) (fun μ93 => some ((sh_i μ93 291 49), μ93)) else sh_let (sh_setI μ91 293 (Int32.toNatClampNeg 1) ((sh_i μ91 293 (Int32.toNatClampNeg 1)) + 1)) (fun μ96 => some ((-1), μ96)))))) : Option (Int32 × sh_Mem)) = some (v, μ') := h
      refine vv_aload_n 103 0 dX12_plain_103 rfl rfl ?_
      refine vv_getI 104 dX12_plain_104 fl_12_253 rfl (g_l_291 hG) ?_
      refine vv_if_ne 107 125 dX12_plain_107 (by decide) (fun c89 => ?_) (fun c89 => ?_)
      · rw [if_neg c89] at h
        refine vv_aload_n 125 0 dX12_plain_125 rfl rfl ?_
        refine vv_aload_n 126 0 dX12_plain_126 rfl rfl ?_
        refine vv_getI 127 dX12_plain_127 fl_12_253 rfl (g_l_291 hG) ?_
        refine vn_putI 130 dX12_plain_130 fl_12_392 (Or.inl rfl) rfl (g_l_291 hG) (fun μ90 eμ90 => ?_)
        rw [sh_let_eq eμ90] at h
        have hG90 : sh_G μ90 := by rw [eμ90]; exact hG
        refine vv_aload_n 133 0 dX12_plain_133 rfl rfl ?_
        refine vv_aload_n 134 0 dX12_plain_134 rfl rfl ?_
        refine vv_getI 135 dX12_plain_135 fl_12_256 rfl (g_l_291 hG90) ?_
        refine vn_putI 138 dX12_plain_138 fl_12_13 (Or.inl rfl) rfl (g_l_291 hG90) (fun μ91 eμ91 => ?_)
        rw [sh_let_eq eμ91] at h
        have hG91 : sh_G μ91 := by rw [eμ91]; exact hG90
        refine vv_aload_n 141 0 dX12_plain_141 rfl rfl ?_
        refine vv_getI 142 dX12_plain_142 fl_12_253 rfl (g_l_291 hG91) ?_
        refine vv_if_eq 145 160 dX12_plain_145 (by decide) (fun c92 => ?_) (fun c92 => ?_)
        · rw [if_pos c92] at h
          refine vv_aload_n 160 0 dX12_plain_160 rfl rfl ?_
          obtain ⟨μ93, hr94, h⟩ := sh_bindv_e h
          refine v1_callV [] 161 dX12_plain_161 ck_X12_395 (g_l_291 hG91) ⟨by decide, rfl⟩ (t_X12_stands hG91 hr94) (Nat.le_of_ble_eq_true rfl) ⟨Nat.le_of_ble_eq_true rfl, Nat.le_of_ble_eq_true rfl⟩ rfl (Nat.le_of_ble_eq_true rfl) ?_
          have hG93 := gp_X12_stands hG91 hr94
          refine vv_aload_n 164 0 dX12_plain_164 rfl rfl ?_
          refine vv_getI 165 dX12_plain_165 fl_12_365 rfl (g_l_291 hG93) ?_
          obtain ⟨e1, e2⟩ := sh_some2 h
          refine vv_iret 168 dX12_plain_168 rfl (Nat.le_refl _) (Nat.le_refl _) ⟨by rw [e1], e2⟩
        · rw [if_neg c92] at h
          refine vv_aload_n 148 0 dX12_plain_148 rfl rfl ?_
          refine vv_getR 149 dX12_plain_149 fl_12_17 rfl (g_l_291 hG91) (g_r_291_9 hG91) ?_
          refine vv_iconst 152 dX12_plain_152 ik_1 ?_
          refine vv_dup2_ri 153 dX12_plain_153 ?_
          refine vv_iald 154 dX12_plain_154 (g_l_293 hG91) (by unfold vp_in; decide) ?_
          refine vv_iconst 155 dX12_plain_155 ik_1 ?_
          refine vv_iadd 156 dX12_plain_156 ?_
          refine vn_iast 157 dX12_plain_157 (g_l_293 hG91) (by unfold vp_in; decide) (fun μ96 eμ96 => ?_)
          rw [sh_let_eq eμ96] at h
          have hG96 : sh_G μ96 := by rw [eμ96]; exact hG91
          refine vv_iconst 158 dX12_plain_158 ik_m1 ?_
          obtain ⟨e1, e2⟩ := sh_some2 h
          refine vv_iret 159 dX12_plain_159 rfl (Nat.le_refl _) (Nat.le_refl _) ⟨by rw [e1], e2⟩
      · rw [if_pos c89] at h
        refine vv_aload_n 110 0 dX12_plain_110 rfl rfl ?_
        obtain ⟨y99, μ97, hr98, h⟩ := sh_bind_e h
        refine v1_callV [] 111 dX12_plain_111 ck_X12_265 (g_l_291 hG) ⟨by decide, rfl⟩ (t_X12_look hG hr98) (Nat.le_of_ble_eq_true rfl) ⟨Nat.le_of_ble_eq_true rfl, Nat.le_of_ble_eq_true rfl⟩ rfl (Nat.le_of_ble_eq_true rfl) ?_
        have hG97 := gp_X12_look hG hr98
        refine vv_iconst 114 dX12_plain_114 ik_m1 ?_
        refine vv_icmp_eq 115 125 dX12_plain_115 (by decide) (fun c100 => ?_) (fun c100 => ?_)
        · rw [if_pos c100] at h
          refine vv_aload_n 125 0 dX12_plain_125 rfl rfl ?_
          refine vv_aload_n 126 0 dX12_plain_126 rfl rfl ?_
          refine vv_getI 127 dX12_plain_127 fl_12_253 rfl (g_l_291 hG97) ?_
          refine vn_putI 130 dX12_plain_130 fl_12_392 (Or.inl rfl) rfl (g_l_291 hG97) (fun μ101 eμ101 => ?_)
          rw [sh_let_eq eμ101] at h
          have hG101 : sh_G μ101 := by rw [eμ101]; exact hG97
          refine vv_aload_n 133 0 dX12_plain_133 rfl rfl ?_
          refine vv_aload_n 134 0 dX12_plain_134 rfl rfl ?_
          refine vv_getI 135 dX12_plain_135 fl_12_256 rfl (g_l_291 hG101) ?_
          refine vn_putI 138 dX12_plain_138 fl_12_13 (Or.inl rfl) rfl (g_l_291 hG101) (fun μ102 eμ102 => ?_)
          rw [sh_let_eq eμ102] at h
          have hG102 : sh_G μ102 := by rw [eμ102]; exact hG101
          refine vv_aload_n 141 0 dX12_plain_141 rfl rfl ?_
          refine vv_getI 142 dX12_plain_142 fl_12_253 rfl (g_l_291 hG102) ?_
          refine vv_if_eq 145 160 dX12_plain_145 (by decide) (fun c103 => ?_) (fun c103 => ?_)
          · rw [if_pos c103] at h
            refine vv_aload_n 160 0 dX12_plain_160 rfl rfl ?_
            obtain ⟨μ104, hr105, h⟩ := sh_bindv_e h
            refine v1_callV [] 161 dX12_plain_161 ck_X12_395 (g_l_291 hG102) ⟨by decide, rfl⟩ (t_X12_stands hG102 hr105) (Nat.le_of_ble_eq_true rfl) ⟨Nat.le_of_ble_eq_true rfl, Nat.le_of_ble_eq_true rfl⟩ rfl (Nat.le_of_ble_eq_true rfl) ?_
            have hG104 := gp_X12_stands hG102 hr105
            refine vv_aload_n 164 0 dX12_plain_164 rfl rfl ?_
            refine vv_getI 165 dX12_plain_165 fl_12_365 rfl (g_l_291 hG104) ?_
            obtain ⟨e1, e2⟩ := sh_some2 h
            refine vv_iret 168 dX12_plain_168 rfl (Nat.le_refl _) (Nat.le_refl _) ⟨by rw [e1], e2⟩
          · rw [if_neg c103] at h
            refine vv_aload_n 148 0 dX12_plain_148 rfl rfl ?_
            refine vv_getR 149 dX12_plain_149 fl_12_17 rfl (g_l_291 hG102) (g_r_291_9 hG102) ?_
            refine vv_iconst 152 dX12_plain_152 ik_1 ?_
            refine vv_dup2_ri 153 dX12_plain_153 ?_
            refine vv_iald 154 dX12_plain_154 (g_l_293 hG102) (by unfold vp_in; decide) ?_
            refine vv_iconst 155 dX12_plain_155 ik_1 ?_
            refine vv_iadd 156 dX12_plain_156 ?_
            refine vn_iast 157 dX12_plain_157 (g_l_293 hG102) (by unfold vp_in; decide) (fun μ107 eμ107 => ?_)
            rw [sh_let_eq eμ107] at h
            have hG107 : sh_G μ107 := by rw [eμ107]; exact hG102
            refine vv_iconst 158 dX12_plain_158 ik_m1 ?_
            obtain ⟨e1, e2⟩ := sh_some2 h
            refine vv_iret 159 dX12_plain_159 rfl (Nat.le_refl _) (Nat.le_refl _) ⟨by rw [e1], e2⟩
        · rw [if_neg c100] at h
          refine vv_aload_n 118 0 dX12_plain_118 rfl rfl ?_
          obtain ⟨μ108, hr109, h⟩ := sh_bindv_e h
          refine v1_callV [] 119 dX12_plain_119 ck_X12_389 (g_l_291 hG97) ⟨by decide, rfl⟩ (t_X12_statementTold hG97 hr109) (Nat.le_of_ble_eq_true rfl) ⟨Nat.le_of_ble_eq_true rfl, Nat.le_of_ble_eq_true rfl⟩ rfl (Nat.le_of_ble_eq_true rfl) ?_
          have hG108 := gp_X12_statementTold hG97 hr109
          refine vv_goto 122 103 dX12_plain_122 (by decide) ?_
          refine vv_sub [(0, _), (1, _)] (sh_subm [0, 1] rfl) ?_
          exact ih_103 hG108 h
theorem gp_X12_plain {μ μ' : sh_Mem} {v : Int32} (hG : sh_G μ) (h : f_X12_plain μ = some (v, μ')) : sh_G μ' := by
  have ih_47 := (gpl_X12_plain sh_fuel).1
  have ih_74 := (gpl_X12_plain sh_fuel).2.1
  have ih_103 := (gpl_X12_plain sh_fuel).2.2
  unfold f_X12_plain at h
  obtain ⟨μ111, eμ111⟩ : ∃ y : sh_Mem, y = (sh_setI μ 291 3 (sh_i μ 291 1)) := ⟨_, rfl⟩
  rw [sh_let_eq eμ111] at h
  have hG111 : sh_G μ111 := by rw [eμ111]; exact hG
  obtain ⟨μ112, eμ112⟩ : ∃ y : sh_Mem, y = (sh_setI μ111 291 1 0) := ⟨_, rfl⟩
  rw [sh_let_eq eμ112] at h
  have hG112 : sh_G μ112 := by rw [eμ112]; exact hG111
  obtain ⟨μ113, eμ113⟩ : ∃ y : sh_Mem, y = (sh_setI μ112 291 2 0) := ⟨_, rfl⟩
  rw [sh_let_eq eμ113] at h
  have hG113 : sh_G μ113 := by rw [eμ113]; exact hG112
  obtain ⟨μ114, eμ114⟩ : ∃ y : sh_Mem, y = (sh_setI μ113 291 4 (-1)) := ⟨_, rfl⟩
  rw [sh_let_eq eμ114] at h
  have hG114 : sh_G μ114 := by rw [eμ114]; exact hG113
  obtain ⟨μ115, eμ115⟩ : ∃ y : sh_Mem, y = (sh_setI μ114 291 5 0) := ⟨_, rfl⟩
  rw [sh_let_eq eμ115] at h
  have hG115 : sh_G μ115 := by rw [eμ115]; exact hG114
  obtain ⟨μ116, eμ116⟩ : ∃ y : sh_Mem, y = (sh_setI μ115 291 6 (-1)) := ⟨_, rfl⟩
  rw [sh_let_eq eμ116] at h
  have hG116 : sh_G μ116 := by rw [eμ116]; exact hG115
  obtain ⟨μ117, eμ117⟩ : ∃ y : sh_Mem, y = (sh_setI μ116 291 48 0) := ⟨_, rfl⟩
  rw [sh_let_eq eμ117] at h
  have hG117 : sh_G μ117 := by rw [eμ117]; exact hG116
  obtain ⟨μ118, eμ118⟩ : ∃ y : sh_Mem, y = (sh_setI μ117 321 (Int32.toNatClampNeg 2) 0) := ⟨_, rfl⟩
  rw [sh_let_eq eμ118] at h
  have hG118 : sh_G μ118 := by rw [eμ118]; exact hG117
  exact ih_47 hG118 h
theorem t_X12_plain {μ μ' : sh_Mem} {v : Int32} (hG : sh_G μ) (h : f_X12_plain μ = some (v, μ')) : sh_C0 l B D ca 12 M_X12_plain [.ref 291] μ (fun v0 μ0 => v0 = some (.int v) ∧ μ0 = μ') := by
  have ih_47 := (tl_X12_plain (l := l) (B := B) (D := D) (ca := ca) sh_fuel).1
  have ih_74 := (tl_X12_plain (l := l) (B := B) (D := D) (ca := ca) sh_fuel).2.1
  have ih_103 := (tl_X12_plain (l := l) (B := B) (D := D) (ca := ca) sh_fuel).2.2
  unfold f_X12_plain at h
  refine vv_aload_n 0 0 dX12_plain_0 rfl rfl ?_
  refine vv_aload_n 1 0 dX12_plain_1 rfl rfl ?_
  refine vv_getI 2 dX12_plain_2 fl_12_250 rfl (g_l_291 hG) ?_
  refine vn_putI 5 dX12_plain_5 fl_12_262 (Or.inl rfl) rfl (g_l_291 hG) (fun μ111 eμ111 => ?_)
  rw [sh_let_eq eμ111] at h
  have hG111 : sh_G μ111 := by rw [eμ111]; exact hG
  refine vv_aload_n 8 0 dX12_plain_8 rfl rfl ?_
  refine vv_iconst 9 dX12_plain_9 ik_0 ?_
  refine vn_putI 10 dX12_plain_10 fl_12_250 (Or.inl rfl) rfl (g_l_291 hG111) (fun μ112 eμ112 => ?_)
  rw [sh_let_eq eμ112] at h
  have hG112 : sh_G μ112 := by rw [eμ112]; exact hG111
  refine vv_aload_n 13 0 dX12_plain_13 rfl rfl ?_
  refine vv_iconst 14 dX12_plain_14 ik_0 ?_
  refine vn_putI 15 dX12_plain_15 fl_12_259 (Or.inl rfl) rfl (g_l_291 hG112) (fun μ113 eμ113 => ?_)
  rw [sh_let_eq eμ113] at h
  have hG113 : sh_G μ113 := by rw [eμ113]; exact hG112
  refine vv_aload_n 18 0 dX12_plain_18 rfl rfl ?_
  refine vv_iconst 19 dX12_plain_19 ik_m1 ?_
  refine vn_putI 20 dX12_plain_20 fl_12_273 (Or.inl rfl) rfl (g_l_291 hG113) (fun μ114 eμ114 => ?_)
  rw [sh_let_eq eμ114] at h
  have hG114 : sh_G μ114 := by rw [eμ114]; exact hG113
  refine vv_aload_n 23 0 dX12_plain_23 rfl rfl ?_
  refine vv_iconst 24 dX12_plain_24 ik_0 ?_
  refine vn_putI 25 dX12_plain_25 fl_12_253 (Or.inl rfl) rfl (g_l_291 hG114) (fun μ115 eμ115 => ?_)
  rw [sh_let_eq eμ115] at h
  have hG115 : sh_G μ115 := by rw [eμ115]; exact hG114
  refine vv_aload_n 28 0 dX12_plain_28 rfl rfl ?_
  refine vv_iconst 29 dX12_plain_29 ik_m1 ?_
  refine vn_putI 30 dX12_plain_30 fl_12_256 (Or.inl rfl) rfl (g_l_291 hG115) (fun μ116 eμ116 => ?_)
  rw [sh_let_eq eμ116] at h
  have hG116 : sh_G μ116 := by rw [eμ116]; exact hG115
  refine vv_aload_n 33 0 dX12_plain_33 rfl rfl ?_
  refine vv_iconst 34 dX12_plain_34 ik_0 ?_
  refine vn_putI 35 dX12_plain_35 fl_12_362 (Or.inl rfl) rfl (g_l_291 hG116) (fun μ117 eμ117 => ?_)
  rw [sh_let_eq eμ117] at h
  have hG117 : sh_G μ117 := by rw [eμ117]; exact hG116
  refine vv_aload_n 38 0 dX12_plain_38 rfl rfl ?_
  refine vv_getR 39 dX12_plain_39 fl_12_102 rfl (g_l_291 hG117) (g_r_291_39 hG117) ?_
  refine vv_iconst 42 dX12_plain_42 ik_2 ?_
  refine vv_iconst 43 dX12_plain_43 ik_0 ?_
  refine vn_iast 44 dX12_plain_44 (g_l_321 hG117) (by unfold vp_in; decide) (fun μ118 eμ118 => ?_)
  rw [sh_let_eq eμ118] at h
  have hG118 : sh_G μ118 := by rw [eμ118]; exact hG117
  refine vv_iconst 45 dX12_plain_45 ik_0 ?_
  refine vv_istore_n (lv' := [(1, _), (0, _)]) 46 1 dX12_plain_46 rfl (by decide) rfl ?_
  refine vv_sub [(0, _), (1, _)] (sh_subm [1, 0] rfl) ?_
  exact ih_47 hG118 h
end
