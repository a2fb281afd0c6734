section
variable {l : Launch} {B : Nat} {D : va_G} {ca : Nat → ClassId} {μ : sh_Mem}
noncomputable def F_X12_qHasSquare : Nat → Nat → Int32 → sh_Mem → Option (Int32 × sh_Mem)
  | 0, _, _, _ => none
  | fuel + 1, lbl, i1, μ => match lbl with
    | 1 => (if (sh_i μ 291 105) ≤ i1 then some (0, μ) else (if sh_in i1 1700 then (if (sh_i μ 365 i1.toNatClampNeg) = 25 then some (1, μ) else F_X12_qHasSquare fuel 1 (i1 + 1) μ) else none))
    | _ => none
noncomputable def f_X12_qHasSquare (μ : sh_Mem) : Option (Int32 × sh_Mem) := F_X12_qHasSquare sh_fuel 1 0 μ
theorem gpl_X12_qHasSquare (fuel : Nat) : (∀ ⦃i1 : Int32⦄ ⦃μ μ' : sh_Mem⦄ ⦃v : Int32⦄, sh_G μ → F_X12_qHasSquare fuel 1 i1 μ = some (v, μ') → sh_G μ') := by
  induction fuel with
  | zero => intro i1 μ μ' v hG h; cases h
  | succ fuel ih =>
    have ih_2 := ih
    intro i1 μ μ' v hG h
    replace h : ((if (sh_i μ 291 105) ≤ i1 then some (0, μ) else (if sh_in i1 1700 then (if (sh_i μ 365 i1.toNatClampNeg) = 25 then some (1, μ) else F_X12_qHasSquare fuel 1 (i1 + 1) μ) else none)) : Option (Int32 × sh_Mem)) = some (v, μ') := h
    by_cases c4 : (sh_i μ 291 105) ≤ i1
    · rw [if_pos c4] at h
      obtain ⟨e1, e2⟩ := sh_some2 h
      exact e2 ▸ hG
    · rw [if_neg c4] at h
      obtain ⟨k5, h⟩ := sh_chk h
      by_cases c6 : (sh_i μ 365 i1.toNatClampNeg) = 25
      · rw [if_pos c6] at h
        obtain ⟨e1, e2⟩ := sh_some2 h
        exact e2 ▸ hG
      · rw [if_neg c6] at h
        exact ih_2 hG h
theorem tl_X12_qHasSquare (fuel : Nat) : (∀ ⦃i1 : Int32⦄ ⦃μ μ' : sh_Mem⦄ ⦃v : Int32⦄, sh_G μ → F_X12_qHasSquare fuel 1 i1 μ = some (v, μ') → sh_V0 l B D ca 1 M_X12_qHasSquare 2 [(0, .ref 291), (1, .int i1)] [] μ (fun v0 μ0 => v0 = some (.int v) ∧ μ0 = μ')) := by
  induction fuel with
  | zero => intro i1 μ μ' v hG h; cases h
  | succ fuel ih =>
    have ih_2 := ih
    intro i1 μ μ' v hG h
    replace h : ((if (sh_i μ 291 105) ≤ i1 then some (0, μ) else (if sh_in i1 1700 then (if (sh_i μ 365 i1.toNatClampNeg) = 25 then some (1, μ) else F_X12_qHasSquare fuel 1 (i1 + 1) μ) else none)) : Option (Int32 × sh_Mem)) = some (v, μ') := h
    refine vv_iload_n 2 1 dX12_qHasSquare_2 rfl rfl ?_
    refine vv_aload_n 3 0 dX12_qHasSquare_3 rfl rfl ?_
    refine vv_getI 4 dX12_qHasSquare_4 fl_12_347 rfl (g_l_291 hG) ?_
    refine vv_icmp_ge 7 29 dX12_qHasSquare_7 (by decide) (fun c4 => ?_) (fun c4 => ?_)
    · rw [if_pos c4] at h
      refine vv_iconst 29 dX12_qHasSquare_29 ik_0 ?_
      obtain ⟨e1, e2⟩ := sh_some2 h
      refine vv_zret 30 dX12_qHasSquare_30 rfl rfl (Nat.le_refl _) (Nat.le_refl _) ⟨by rw [e1], e2⟩
    · rw [if_neg c4] at h
      refine vv_aload_n 10 0 dX12_qHasSquare_10 rfl rfl ?_
      refine vv_getR 11 dX12_qHasSquare_11 fl_12_239 rfl (g_l_291 hG) (g_r_291_104 hG) ?_
      refine vv_iload_n 14 1 dX12_qHasSquare_14 rfl rfl ?_
      obtain ⟨k5, h⟩ := sh_chk h
      refine vv_iald 15 dX12_qHasSquare_15 (g_l_365 hG) k5 ?_
      refine vv_bipush 16 dX12_qHasSquare_16 bk_25 ?_
      refine vv_icmp_ne 18 23 dX12_qHasSquare_18 (by decide) (fun c6 => ?_) (fun c6 => ?_)
      · rw [if_neg c6] at h
        refine vv_iincc (lv' := [(1, _), (0, _)]) 23 1 dX12_qHasSquare_23 rfl ik_1 (by decide) rfl ?_
        refine vv_goto 26 2 dX12_qHasSquare_26 (by decide) ?_
        refine vv_sub [(0, _), (1, _)] (sh_subm [1, 0] rfl) ?_
        exact ih_2 hG h
      · rw [if_pos c6] at h
        refine vv_iconst 21 dX12_qHasSquare_21 ik_1 ?_
        obtain ⟨e1, e2⟩ := sh_some2 h
        refine vv_zret 22 dX12_qHasSquare_22 rfl rfl (Nat.le_refl _) (Nat.le_refl _) ⟨by rw [e1], e2⟩
theorem gp_X12_qHasSquare {μ μ' : sh_Mem} {v : Int32} (hG : sh_G μ) (h : f_X12_qHasSquare μ = some (v, μ')) : sh_G μ' := by
  have ih_2 := (gpl_X12_qHasSquare sh_fuel)
  unfold f_X12_qHasSquare at h
  exact ih_2 hG h
theorem t_X12_qHasSquare {μ μ' : sh_Mem} {v : Int32} (hG : sh_G μ) (h : f_X12_qHasSquare μ = some (v, μ')) : sh_C0 l B D ca 1 M_X12_qHasSquare [.ref 291] μ (fun v0 μ0 => v0 = some (.int v) ∧ μ0 = μ') := by
  have ih_2 := (tl_X12_qHasSquare (l := l) (B := B) (D := D) (ca := ca) sh_fuel)
  unfold f_X12_qHasSquare at h
  refine vv_iconst 0 dX12_qHasSquare_0 ik_0 ?_
  refine vv_istore_n (lv' := [(1, _), (0, _)]) 1 1 dX12_qHasSquare_1 rfl (by decide) rfl ?_
  refine vv_sub [(0, _), (1, _)] (sh_subm [1, 0] rfl) ?_
  exact ih_2 hG h
noncomputable def F_X12_qDropsNots : Nat → Nat → sh_Mem → Option sh_Mem
  | 0, _, _ => none
  | fuel + 1, lbl, μ => match lbl with
    | 1 => (if (sh_i μ 291 5) = 0 then sh_bind (f_X12_qIsOn 12 μ) (fun y13 μ11 => (if y13 = 0 then some μ11 else sh_let (sh_setI μ11 291 106 ((sh_i μ11 291 106) - 1)) (fun μ15 => sh_bindv (f_X12_qDrops μ15) (fun μ16 => F_X12_qDropsNots fuel 1  μ16)))) else some μ)
    | _ => none
noncomputable def f_X12_qDropsNots (μ : sh_Mem) : Option sh_Mem := F_X12_qDropsNots sh_fuel 1  μ
theorem gpl_X12_qDropsNots (fuel : Nat) : (∀ ⦃μ μ' : sh_Mem⦄, sh_G μ → F_X12_qDropsNots fuel 1 μ = some μ' → sh_G μ') := by
  induction fuel with
  | zero => intro μ μ' hG h; cases h
  | succ fuel ih =>
    have ih_0 := ih
    intro μ μ' hG h
    replace h : ((if (sh_i μ 291 5) = 0 then sh_bind (f_X12_qIsOn 12 μ) (fun y13 μ11 => (if y13 = 0 then some μ11 else sh_let (sh_setI μ11 291 106 ((sh_i μ11 291 106) - 1)) (fun μ15 => sh_bindv (f_X12_qDrops μ15) (fun μ16 => F_X12_qDropsNots fuel 1  μ16)))) else some μ) : Option sh_Mem) = some μ' := h
    by_cases c10 : (sh_i μ 291 5) = 0
    · rw [if_pos c10] at h
      obtain ⟨y13, μ11, hr12, h⟩ := sh_bind_e h
      have hG11 := gp_X12_qIsOn hG hr12
      by_cases c14 : y13 = 0
      · rw [if_pos c14] at h
        have e2 := Option.some.inj h
        exact e2 ▸ hG11
      · rw [if_neg c14] at h
        obtain ⟨μ15, eμ15⟩ : ∃ y : sh_Mem, y = (sh_setI μ11 291 106 ((sh_i μ11 291 106) - 1)) := ⟨_, rfl⟩
        rw [sh_let_eq eμ15] at h
        have hG15 : sh_G μ15 := by rw [eμ15]; exact hG11
        obtain ⟨μ16, hr17, h⟩ := sh_bindv_e h
        have hG16 := gp_X12_qDrops hG15 hr17
        exact ih_0 hG16 h
    · rw [if_neg c10] at h
      have e2 := Option.some.inj h
      exact e2 ▸ hG
theorem tl_X12_qDropsNots (fuel : Nat) : (∀ ⦃μ μ' : sh_Mem⦄, sh_G μ → F_X12_qDropsNots fuel 1 μ = some μ' → sh_V0 l B D ca 3 M_X12_qDropsNots 0 [(0, .ref 291)] [] μ (fun v0 μ0 => v0 = none ∧ μ0 = μ')) := by
  induction fuel with
  | zero => intro μ μ' hG h; cases h
  | succ fuel ih =>
    have ih_0 := ih
    intro μ μ' hG h
    replace h : ((if (sh_i μ 291 5) = 0 then sh_bind (f_X12_qIsOn 12 μ) (fun y13 μ11 => (if y13 = 0 then some μ11 else sh_let (sh_setI μ11 291 106 ((sh_i μ11 291 106) - 1)) (fun μ15 => sh_bindv (f_X12_qDrops μ15) (fun μ16 => F_X12_qDropsNots fuel 1  μ16)))) else some μ) : Option sh_Mem) = some μ' := h
    refine vv_aload_n 0 0 dX12_qDropsNots_0 rfl rfl ?_
    refine vv_getI 1 dX12_qDropsNots_1 fl_12_253 rfl (g_l_291 hG) ?_
    refine vv_if_ne 4 33 dX12_qDropsNots_4 (by decide) (fun c10 => ?_) (fun c10 => ?_)
    · rw [if_neg c10] at h
      have e2 := Option.some.inj h
      refine vv_vret 33 dX12_qDropsNots_33 rfl (Nat.le_refl _) (Nat.le_refl _) ⟨rfl, e2⟩
    · rw [if_pos c10] at h
      refine vv_aload_n 7 0 dX12_qDropsNots_7 rfl rfl ?_
      refine vv_bipush 8 dX12_qDropsNots_8 bk_12 ?_
      obtain ⟨y13, μ11, hr12, h⟩ := sh_bind_e h
      refine v1_callV [_] 10 dX12_qDropsNots_10 ck_X12_675 (g_l_291 hG) ⟨by decide, rfl⟩ (t_X12_qIsOn hG hr12) (Nat.le_of_ble_eq_true rfl) ⟨Nat.le_of_ble_eq_true rfl, Nat.le_of_ble_eq_true rfl⟩ rfl (Nat.le_of_ble_eq_true rfl) ?_
      have hG11 := gp_X12_qIsOn hG hr12
      refine vv_if_eq 13 33 dX12_qDropsNots_13 (by decide) (fun c14 => ?_) (fun c14 => ?_)
      · rw [if_pos c14] at h
        have e2 := Option.some.inj h
        refine vv_vret 33 dX12_qDropsNots_33 rfl (Nat.le_refl _) (Nat.le_refl _) ⟨rfl, e2⟩
      · rw [if_neg c14] at h
        refine vv_aload_n 16 0 dX12_qDropsNots_16 rfl rfl ?_
        refine vv_dup_ref 17 dX12_qDropsNots_17 ?_
        refine vv_getI 18 dX12_qDropsNots_18 fl_12_350 rfl (g_l_291 hG11) ?_
        refine vv_iconst 21 dX12_qDropsNots_21 ik_1 ?_
        refine vv_isub 22 dX12_qDropsNots_22 ?_
        refine vn_putI 23 dX12_qDropsNots_23 fl_12_350 (Or.inl rfl) rfl (g_l_291 hG11) (fun μ15 eμ15 => ?_)
        rw [sh_let_eq eμ15] at h
        have hG15 : sh_G μ15 := by rw [eμ15]; exact hG11
        refine vv_aload_n 26 0 dX12_qDropsNots_26 rfl rfl ?_
        obtain ⟨μ16, hr17, h⟩ := sh_bindv_e h
        refine v1_callV [] 27 dX12_qDropsNots_27 ck_X12_648 (g_l_291 hG15) ⟨by decide, rfl⟩ (t_X12_qDrops hG15 hr17) (Nat.le_of_ble_eq_true rfl) ⟨Nat.le_of_ble_eq_true rfl, Nat.le_of_ble_eq_true rfl⟩ rfl (Nat.le_of_ble_eq_true rfl) ?_
        have hG16 := gp_X12_qDrops hG15 hr17
        refine vv_goto 30 0 dX12_qDropsNots_30 (by decide) ?_
        refine vv_sub [(0, _)] (sh_subm [0] rfl) ?_
        exact ih_0 hG16 h
theorem gp_X12_qDropsNots {μ μ' : sh_Mem} (hG : sh_G μ) (h : f_X12_qDropsNots μ = some μ') : sh_G μ' := by
  have ih_0 := (gpl_X12_qDropsNots sh_fuel)
  unfold f_X12_qDropsNots at h
  exact ih_0 hG h
theorem t_X12_qDropsNots {μ μ' : sh_Mem} (hG : sh_G μ) (h : f_X12_qDropsNots μ = some μ') : sh_C0 l B D ca 3 M_X12_qDropsNots [.ref 291] μ (fun v0 μ0 => v0 = none ∧ μ0 = μ') := by
  have ih_0 := (tl_X12_qDropsNots (l := l) (B := B) (D := D) (ca := ca) sh_fuel)
  unfold f_X12_qDropsNots at h
  refine vv_sub [(0, _)] (sh_subm [0] rfl) ?_
  exact ih_0 hG h
noncomputable def F_X12_qGoesOnTest : Nat → Nat → sh_Mem → Option (Int32 × sh_Mem)
  | 0, _, _ => none
  | fuel + 1, lbl, μ => match lbl with
    | 1 => (if (sh_i μ 291 5) = 0 then sh_bind (f_X12_look μ) (fun y214 μ212 => (if y214 = 93 then sh_bind (f_X12_qHasSquare μ212) (fun y234 μ232 => (if y234 = 0 then sh_bind (f_X12_takes 348 3 μ232) (fun y238 μ236 => (if y238 = 0 then sh_bind (f_X12_takes 349 2 μ236) (fun y242 μ240 => (if y242 = 0 then (if (sh_i μ240 291 5) = 0 then sh_bind (f_X12_qHasSquare μ240) (fun y247 μ245 => (if y247 = 0 then some (0, μ245) else sh_bindv (f_X12_fail 1 (sh_i μ245 291 2) μ245) (fun μ249 => some (0, μ249)))) else some (0, μ240)) else F_X12_qGoesOnTest fuel 4  μ240)) else F_X12_qGoesOnTest fuel 3  μ236)) else sh_let (sh_setI μ232 291 2 ((sh_i μ232 291 2) + 1)) (fun μ252 => F_X12_qGoesOnTest fuel 2  μ252))) else sh_bind (f_X12_takes 348 3 μ212) (fun y218 μ216 => (if y218 = 0 then sh_bind (f_X12_takes 349 2 μ216) (fun y222 μ220 => (if y222 = 0 then (if (sh_i μ220 291 5) = 0 then sh_bind (f_X12_qHasSquare μ220) (fun y227 μ225 => (if y227 = 0 then some (0, μ225) else sh_bindv (f_X12_fail 1 (sh_i μ225 291 2) μ225) (fun μ229 => some (0, μ229)))) else some (0, μ220)) else F_X12_qGoesOnTest fuel 4  μ220)) else F_X12_qGoesOnTest fuel 3  μ216)))) else sh_bind (f_X12_takes 348 3 μ) (fun y198 μ196 => (if y198 = 0 then sh_bind (f_X12_takes 349 2 μ196) (fun y202 μ200 => (if y202 = 0 then (if (sh_i μ200 291 5) = 0 then sh_bind (f_X12_qHasSquare μ200) (fun y207 μ205 => (if y207 = 0 then some (0, μ205) else sh_bindv (f_X12_fail 1 (sh_i μ205 291 2) μ205) (fun μ209 => some (0, μ209)))) else some (0, μ200)) else F_X12_qGoesOnTest fuel 4  μ200)) else F_X12_qGoesOnTest fuel 3  μ196)))
    | 2 => sh_bind (f_X12_qIsOn 25 μ) (fun y255 μ253 => (if y255 = 0 then sh_bindv (f_X12_qDrops μ253) (fun μ262 => F_X12_qGoesOnTest fuel 2  μ262) else sh_let (sh_setI μ253 291 105 ((sh_i μ253 291 105) - 1)) (fun μ257 => sh_let (sh_setI μ257 291 106 ((sh_i μ257 291 106) - 1)) (fun μ258 => sh_bindv (f_X12_qDropsNots μ258) (fun μ259 => F_X12_qGoesOnTest fuel 1  μ259)))))
    | 3 => sh_bind (f_X12_qIsOn 10 μ) (fun y267 μ265 => (if y267 = 0 then (if sh_in (sh_i μ265 291 105) 1700 then sh_let (sh_setI μ265 365 ((sh_i μ265 291 105)).toNatClampNeg 10) (fun μ270 => sh_let (sh_setI μ270 291 105 ((sh_i μ270 291 105) + 1)) (fun μ271 => some (1, μ271))) else none) else sh_bindv (f_X12_qDrops μ265) (fun μ272 => F_X12_qGoesOnTest fuel 3  μ272)))
    | 4 => sh_bind (f_X12_qIsOn 10 μ) (fun y277 μ275 => (if y277 = 0 then sh_bind (f_X12_qIsOn 11 μ275) (fun y284 μ282 => (if y284 = 0 then (if sh_in (sh_i μ282 291 105) 1700 then sh_let (sh_setI μ282 365 ((sh_i μ282 291 105)).toNatClampNeg 11) (fun μ287 => sh_let (sh_setI μ287 291 105 ((sh_i μ287 291 105) + 1)) (fun μ288 => some (1, μ288))) else none) else sh_bindv (f_X12_qDrops μ282) (fun μ289 => F_X12_qGoesOnTest fuel 4  μ289))) else sh_bindv (f_X12_qDrops μ275) (fun μ279 => F_X12_qGoesOnTest fuel 4  μ279)))
    | _ => none
noncomputable def f_X12_qGoesOnTest (μ : sh_Mem) : Option (Int32 × sh_Mem) := F_X12_qGoesOnTest sh_fuel 1  μ
theorem gpl_X12_qGoesOnTest (fuel : Nat) : (∀ ⦃μ μ' : sh_Mem⦄ ⦃v : Int32⦄, sh_G μ → F_X12_qGoesOnTest fuel 1 μ = some (v, μ') → sh_G μ') ∧ (∀ ⦃μ μ' : sh_Mem⦄ ⦃v : Int32⦄, sh_G μ → F_X12_qGoesOnTest fuel 2 μ = some (v, μ') → sh_G μ') ∧ (∀ ⦃μ μ' : sh_Mem⦄ ⦃v : Int32⦄, sh_G μ → F_X12_qGoesOnTest fuel 3 μ = some (v, μ') → sh_G μ') ∧ (∀ ⦃μ μ' : sh_Mem⦄ ⦃v : Int32⦄, sh_G μ → F_X12_qGoesOnTest fuel 4 μ = some (v, μ') → sh_G μ') := by
  induction fuel with
  | zero => exact ⟨(by intro μ μ' v hG h; cases h), (by intro μ μ' v hG h; cases h), (by intro μ μ' v hG h; cases h), (by intro μ μ' v hG h; cases h)⟩
  | succ fuel ih =>
    obtain ⟨ih_0, ih_33, ih_87, ih_137⟩ := ih
    refine ⟨?_, ?_, ?_, ?_⟩
    · intro μ μ' v hG h
      replace h : ((if (sh_i μ 291 5) = 0 then sh_bind (f_X12_look μ) (fun y214 μ212 => (if y214 = 93 then sh_bind (f_X12_qHasSquare μ212) (fun y234 μ232 => (if y234 = 0 then sh_bind (f_X12_takes 348 3 μ232) (fun y238 μ236 => (if y238 = 0 then sh_bind (f_X12_takes 349 2 μ236) (fun y242 μ240 => (if y242 = 0 then (if (sh_i μ240 291 5) = 0 then sh_bind (f_X12_qHasSquare μ240) (fun y247 μ245 => (if y247 = 0 then some (0, μ245) else sh_bindv (f_X12_fail 1 (sh_i μ245 291 2) μ245) (fun μ249 => some (0, μ249)))) else some (0, μ240)) else F_X12_qGoesOnTest fuel 4  μ240)) else F_X12_qGoesOnTest fuel 3  μ236)) else sh_let (sh_setI μ232 291 2 ((sh_i μ232 291 2) + 1)) (fun μ252 => F_X12_qGoesOnTest fuel 2  μ252))) else sh_bind (f_X12_takes 348 3 μ212) (fun y218 μ216 => (if y218 = 0 then sh_bind (f_X12_takes 349 2 μ216) (fun y222 μ220 => (if y222 = 0 then (if (sh_i μ220 291 5) = 0 then sh_bind (f_X12_qHasSquare μ220) (fun y227 μ225 => (if y227 = 0 then some (0, μ225) else sh_bindv (f_X12_fail 1 (sh_i μ225 291 2) μ225) (fun μ229 => some (0, μ229)))) else some (0, μ220)) else F_X12_qGoesOnTest fuel 4  μ220)) else F_X12_qGoesOnTest fuel 3  μ216)))) else sh_bind (f_X12_takes 348 3 μ) (fun y198 μ196 => (if y198 = 0 then sh_bind (f_X12_takes 349 2 μ196) (fun y202 μ200 => (if y202 = 0 then (if (sh_i μ200 291 5) = 0 then sh_bind (f_X12_qHasSquare μ200) (fun y207 μ205 => (if y207 = 0 then some (0, μ205) else sh_bindv (f_X12_fail 1 (sh_i μ205 291 2) μ205) (fun μ209 => some (0, μ209)))) else some (0, μ200)) else F_X12_qGoesOnTest fuel 4  μ200)) else F_X12_qGoesOnTest fuel 3  μ196))) : Option (Int32 × sh_Mem)) = some (v, μ') := h
      by_cases c195 : (sh_i μ 291 5) = 0
      · rw [if_pos c195] at h
        obtain ⟨y214, μ212, hr213, h⟩ := sh_bind_e h
        have hG212 := gp_X12_look hG hr213
        by_cases c215 : y214 = 93
        · rw [if_pos c215] at h
          obtain ⟨y234, μ232, hr233, h⟩ := sh_bind_e h
          have hG232 := gp_X12_qHasSquare hG212 hr233
          by_cases c235 : y234 = 0
          · rw [if_pos c235] at h
            obtain ⟨y238, μ236, hr237, h⟩ := sh_bind_e h
            have hG236 := gp_X12_takes hG232 (sh_LAYat_348) hr237
            by_cases c239 : y238 = 0
            · rw [if_pos c239] at h
              obtain ⟨y242, μ240, hr241, h⟩ := sh_bind_e h
              have hG240 := gp_X12_takes hG236 (sh_LAYat_349) hr241
              by_cases c243 : y242 = 0
              · rw [if_pos c243] at h
                by_cases c244 : (sh_i μ240 291 5) = 0
                · rw [if_pos c244] at h
                  obtain ⟨y247, μ245, hr246, h⟩ := sh_bind_e h
                  have hG245 := gp_X12_qHasSquare hG240 hr246
                  by_cases c248 : y247 = 0
                  · rw [if_pos c248] at h
                    obtain ⟨e1, e2⟩ := sh_some2 h
                    exact e2 ▸ hG245
                  · rw [if_neg c248] at h
                    obtain ⟨μ249, hr250, h⟩ := sh_bindv_e h
                    have hG249 := gp_X12_fail hG245 hr250
                    obtain ⟨e1, e2⟩ := sh_some2 h
                    exact e2 ▸ hG249
                · rw [if_neg c244] at h
                  obtain ⟨e1, e2⟩ := sh_some2 h
                  exact e2 ▸ hG240
              · rw [if_neg c243] at h
                exact ih_137 hG240 h
            · rw [if_neg c239] at h
              exact ih_87 hG236 h
          · rw [if_neg c235] at h
            obtain ⟨μ252, eμ252⟩ : ∃ y : sh_Mem, y = (sh_setI μ232 291 2 ((sh_i μ232 291 2) + 1)) := ⟨_, rfl⟩
            rw [sh_let_eq eμ252] at h
            have hG252 : sh_G μ252 := by rw [eμ252]; exact hG232
            exact ih_33 hG252 h
        · rw [if_neg c215] at h
          obtain ⟨y218, μ216, hr217, h⟩ := sh_bind_e h
          have hG216 := gp_X12_takes hG212 (sh_LAYat_348) hr217
          by_cases c219 : y218 = 0
          · rw [if_pos c219] at h
            obtain ⟨y222, μ220, hr221, h⟩ := sh_bind_e h
            have hG220 := gp_X12_takes hG216 (sh_LAYat_349) hr221
            by_cases c223 : y222 = 0
            · rw [if_pos c223] at h
              by_cases c224 : (sh_i μ220 291 5) = 0
              · rw [if_pos c224] at h
                obtain ⟨y227, μ225, hr226, h⟩ := sh_bind_e h
                have hG225 := gp_X12_qHasSquare hG220 hr226
                by_cases c228 : y227 = 0
                · rw [if_pos c228] at h
                  obtain ⟨e1, e2⟩ := sh_some2 h
                  exact e2 ▸ hG225
                · rw [if_neg c228] at h
                  obtain ⟨μ229, hr230, h⟩ := sh_bindv_e h
                  have hG229 := gp_X12_fail hG225 hr230
                  obtain ⟨e1, e2⟩ := sh_some2 h
                  exact e2 ▸ hG229
              · rw [if_neg c224] at h
                obtain ⟨e1, e2⟩ := sh_some2 h
                exact e2 ▸ hG220
            · rw [if_neg c223] at h
              exact ih_137 hG220 h
          · rw [if_neg c219] at h
            exact ih_87 hG216 h
      · rw [if_neg c195] at h
        obtain ⟨y198, μ196, hr197, h⟩ := sh_bind_e h
        have hG196 := gp_X12_takes hG (sh_LAYat_348) hr197
        by_cases c199 : y198 = 0
        · rw [if_pos c199] at h
          obtain ⟨y202, μ200, hr201, h⟩ := sh_bind_e h
          have hG200 := gp_X12_takes hG196 (sh_LAYat_349) hr201
          by_cases c203 : y202 = 0
          · rw [if_pos c203] at h
            by_cases c204 : (sh_i μ200 291 5) = 0
            · rw [if_pos c204] at h
              obtain ⟨y207, μ205, hr206, h⟩ := sh_bind_e h
              have hG205 := gp_X12_qHasSquare hG200 hr206
              by_cases c208 : y207 = 0
              · rw [if_pos c208] at h
                obtain ⟨e1, e2⟩ := sh_some2 h
                exact e2 ▸ hG205
              · rw [if_neg c208] at h
                obtain ⟨μ209, hr210, h⟩ := sh_bindv_e h
                have hG209 := gp_X12_fail hG205 hr210
                obtain ⟨e1, e2⟩ := sh_some2 h
                exact e2 ▸ hG209
            · rw [if_neg c204] at h
              obtain ⟨e1, e2⟩ := sh_some2 h
              exact e2 ▸ hG200
          · rw [if_neg c203] at h
            exact ih_137 hG200 h
        · rw [if_neg c199] at h
          exact ih_87 hG196 h
    · intro μ μ' v hG h
      replace h : (sh_bind (f_X12_qIsOn 25 μ) (fun y255 μ253 => (if y255 = 0 then sh_bindv (f_X12_qDrops μ253) (fun μ262 => F_X12_qGoesOnTest fuel 2  μ262) else sh_let (sh_setI μ253 291 105 ((sh_i μ253 291 105) - 1)) (fun μ257 => sh_let (sh_setI μ257 291 106 ((sh_i μ257 291 106) - 1)) (fun μ258 => sh_bindv (f_X12_qDropsNots μ258) (fun μ259 => F_X12_qGoesOnTest fuel 1  μ259))))) : Option (Int32 × sh_Mem)) = some (v, μ') := h
      obtain ⟨y255, μ253, hr254, h⟩ := sh_bind_e h
      have hG253 := gp_X12_qIsOn hG hr254
      by_cases c256 : y255 = 0
      · rw [if_pos c256] at h
        obtain ⟨μ262, hr263, h⟩ := sh_bindv_e h
        have hG262 := gp_X12_qDrops hG253 hr263
        exact ih_33 hG262 h
      · rw [if_neg c256] at h
        obtain ⟨μ257, eμ257⟩ : ∃ y : sh_Mem, y = (sh_setI μ253 291 105 ((sh_i μ253 291 105) - 1)) := ⟨_, rfl⟩
        rw [sh_let_eq eμ257] at h
        have hG257 : sh_G μ257 := by rw [eμ257]; exact hG253
        obtain ⟨μ258, eμ258⟩ : ∃ y : sh_Mem, y = (sh_setI μ257 291 106 ((sh_i μ257 291 106) - 1)) := ⟨_, rfl⟩
        rw [sh_let_eq eμ258] at h
        have hG258 : sh_G μ258 := by rw [eμ258]; exact hG257
        obtain ⟨μ259, hr260, h⟩ := sh_bindv_e h
        have hG259 := gp_X12_qDropsNots hG258 hr260
        exact ih_0 hG259 h
    · intro μ μ' v hG h
      replace h : (sh_bind (f_X12_qIsOn 10 μ) (fun y267 μ265 => (if y267 = 0 then (if sh_in (sh_i μ265 291 105) 1700 then sh_let (sh_setI μ265 365 ((sh_i μ265 291 105)).toNatClampNeg 10) (fun μ270 => sh_let (sh_setI μ270 291 105 ((sh_i μ270 291 105) + 1)) (fun μ271 => some (1, μ271))) else none) else sh_bindv (f_X12_qDrops μ265) (fun μ272 => F_X12_qGoesOnTest fuel 3  μ272))) : Option (Int32 × sh_Mem)) = some (v, μ') := h
      obtain ⟨y267, μ265, hr266, h⟩ := sh_bind_e h
      have hG265 := gp_X12_qIsOn hG hr266
      by_cases c268 : y267 = 0
      · rw [if_pos c268] at h
        obtain ⟨k269, h⟩ := sh_chk h
        obtain ⟨μ270, eμ270⟩ : ∃ y : sh_Mem, y = (sh_setI μ265 365 ((sh_i μ265 291 105)).toNatClampNeg 10) := ⟨_, rfl⟩
        rw [sh_let_eq eμ270] at h
        have hG270 : sh_G μ270 := by rw [eμ270]; exact hG265
        obtain ⟨μ271, eμ271⟩ : ∃ y : sh_Mem, y = (sh_setI μ270 291 105 ((sh_i μ270 291 105) + 1)) := ⟨_, rfl⟩
        rw [sh_let_eq eμ271] at h
        have hG271 : sh_G μ271 := by rw [eμ271]; exact hG270
        obtain ⟨e1, e2⟩ := sh_some2 h
        exact e2 ▸ hG271
      · rw [if_neg c268] at h
        obtain ⟨μ272, hr273, h⟩ := sh_bindv_e h
        have hG272 := gp_X12_qDrops hG265 hr273
        exact ih_87 hG272 h
    · intro μ μ' v hG h
      replace h : (sh_bind (f_X12_qIsOn 10 μ) (fun y277 μ275 => (if y277 = 0 then sh_bind (f_X12_qIsOn 11 μ275) (fun y284 μ282 => (if y284 = 0 then (if sh_in (sh_i μ282 291 105) 1700 then sh_let (sh_setI μ282 365 ((sh_i μ282 291 105)).toNatClampNeg 11) (fun μ287 => sh_let (sh_setI μ287 291 105 ((sh_i μ287 291 105) + 1)) (fun μ288 => some (1, μ288))) else none) else sh_bindv (f_X12_qDrops μ282) (fun μ289 => F_X12_qGoesOnTest fuel 4  μ289))) else sh_bindv (f_X12_qDrops μ275) (fun μ279 => F_X12_qGoesOnTest fuel 4  μ279))) : Option (Int32 × sh_Mem)) = some (v, μ') := h
      obtain ⟨y277, μ275, hr276, h⟩ := sh_bind_e h
      have hG275 := gp_X12_qIsOn hG hr276
      by_cases c278 : y277 = 0
      · rw [if_pos c278] at h
        obtain ⟨y284, μ282, hr283, h⟩ := sh_bind_e h
        have hG282 := gp_X12_qIsOn hG275 hr283
        by_cases c285 : y284 = 0
        · rw [if_pos c285] at h
          obtain ⟨k286, h⟩ := sh_chk h
          obtain ⟨μ287, eμ287⟩ : ∃ y : sh_Mem, y = (sh_setI μ282 365 ((sh_i μ282 291 105)).toNatClampNeg 11) := ⟨_, rfl⟩
          rw [sh_let_eq eμ287] at h
          have hG287 : sh_G μ287 := by rw [eμ287]; exact hG282
          obtain ⟨μ288, eμ288⟩ : ∃ y : sh_Mem, y = (sh_setI μ287 291 105 ((sh_i μ287 291 105) + 1)) := ⟨_, rfl⟩
          rw [sh_let_eq eμ288] at h
          have hG288 : sh_G μ288 := by rw [eμ288]; exact hG287
          obtain ⟨e1, e2⟩ := sh_some2 h
          exact e2 ▸ hG288
        · rw [if_neg c285] at h
          obtain ⟨μ289, hr290, h⟩ := sh_bindv_e h
          have hG289 := gp_X12_qDrops hG282 hr290
          exact ih_137 hG289 h
      · rw [if_neg c278] at h
        obtain ⟨μ279, hr280, h⟩ := sh_bindv_e h
        have hG279 := gp_X12_qDrops hG275 hr280
        exact ih_137 hG279 h
theorem tl_X12_qGoesOnTest (fuel : Nat) : (∀ ⦃μ μ' : sh_Mem⦄ ⦃v : Int32⦄, sh_G μ → F_X12_qGoesOnTest fuel 1 μ = some (v, μ') → sh_V0 l B D ca 4 M_X12_qGoesOnTest 0 [(0, .ref 291)] [] μ (fun v0 μ0 => v0 = some (.int v) ∧ μ0 = μ')) ∧ (∀ ⦃μ μ' : sh_Mem⦄ ⦃v : Int32⦄, sh_G μ → F_X12_qGoesOnTest fuel 2 μ = some (v, μ') → sh_V0 l B D ca 4 M_X12_qGoesOnTest 33 [(0, .ref 291)] [] μ (fun v0 μ0 => v0 = some (.int v) ∧ μ0 = μ')) ∧ (∀ ⦃μ μ' : sh_Mem⦄ ⦃v : Int32⦄, sh_G μ → F_X12_qGoesOnTest fuel 3 μ = some (v, μ') → sh_V0 l B D ca 4 M_X12_qGoesOnTest 87 [(0, .ref 291)] [] μ (fun v0 μ0 => v0 = some (.int v) ∧ μ0 = μ')) ∧ (∀ ⦃μ μ' : sh_Mem⦄ ⦃v : Int32⦄, sh_G μ → F_X12_qGoesOnTest fuel 4 μ = some (v, μ') → sh_V0 l B D ca 4 M_X12_qGoesOnTest 137 [(0, .ref 291)] [] μ (fun v0 μ0 => v0 = some (.int v) ∧ μ0 = μ')) := by
  induction fuel with
  | zero => exact ⟨(by intro μ μ' v hG h; cases h), (by intro μ μ' v hG h; cases h), (by intro μ μ' v hG h; cases h), (by intro μ μ' v hG h; cases h)⟩
  | succ fuel ih =>
    obtain ⟨ih_0, ih_33, ih_87, ih_137⟩ := ih
    refine ⟨?_, ?_, ?_, ?_⟩
    · intro μ μ' v hG h
      replace h : ((if (sh_i μ 291 5) = 0 then sh_bind (f_X12_look μ) (fun y214 μ212 => (if y214 = 93 then sh_bind (f_X12_qHasSquare μ212) (fun y234 μ232 => (if y234 = 0 then sh_bind (f_X12_takes 348 3 μ232) (fun y238 μ236 => (if y238 = 0 then sh_bind (f_X12_takes 349 2 μ236) (fun y242 μ240 => (if y242 = 0 then (if (sh_i μ240 291 5) = 0 then sh_bind (f_X12_qHasSquare μ240) (fun y247 μ245 => (if y247 = 0 then some (0, μ245) else sh_bindv (f_X12_fail 1 (sh_i μ245 291 2) μ245) (fun μ249 => some (0, μ249)))) else some (0, μ240)) else F_X12_qGoesOnTest fuel 4  μ240)) else F_X12_qGoesOnTest fuel 3  μ236)) else sh_let (sh_setI μ232 291 2 ((sh_i μ232 291 2) + 1)) (fun μ252 => F_X12_qGoesOnTest fuel 2  μ252))) else sh_bind (f_X12_takes 348 3 μ212) (fun y218 μ216 => (if y218 = 0 then sh_bind (f_X12_takes 349 2 μ216) (fun y222 μ220 => (if y222 = 0 then (if (sh_i μ220 291 5) = 0 then sh_bind (f_X12_qHasSquare μ220) (fun y227 μ225 => (if y227 = 0 then some (0, μ225) else sh_bindv (f_X12_fail 1 (sh_i μ225 291 2) μ225) (fun μ229 => some (0, μ229)))) else some (0, μ220)) else F_X12_qGoesOnTest fuel 4  μ220)) else F_X12_qGoesOnTest fuel 3  μ216)))) else sh_bind (f_X12_takes 348 3 μ) (fun y198 μ196 => (if y198 = 0 then sh_bind (f_X12_takes 349 2 μ196) (fun y202 μ200 => (if y202 = 0 then (if (sh_i μ200 291 5) = 0 then sh_bind (f_X12_qHasSquare μ200) (fun y207 μ205 => (if y207 = 0 then some (0, μ205) else sh_bindv (f_X12_fail 1 (sh_i μ205 291 2) μ205) (fun μ209 => some (0, μ209)))) else some (0, μ200)) else F_X12_qGoesOnTest fuel 4  μ200)) else F_X12_qGoesOnTest fuel 3  μ196))) : Option (Int32 × sh_Mem)) = some (v, μ') := h
      refine vv_aload_n 0 0 dX12_qGoesOnTest_0 rfl rfl ?_
      refine vv_getI 1 dX12_qGoesOnTest_1 fl_12_253 rfl (g_l_291 hG) ?_
      refine vv_if_ne 4 76 dX12_qGoesOnTest_4 (by decide) (fun c195 => ?_) (fun c195 => ?_)
      · rw [if_neg c195] at h
        refine vv_aload_n 76 0 dX12_qGoesOnTest_76 rfl rfl ?_
        refine vv_aload_n 77 0 dX12_qGoesOnTest_77 rfl rfl ?_
        refine vv_getR 78 dX12_qGoesOnTest_78 fl_12_188 rfl (g_l_291 hG) (g_r_291_86 hG) ?_
        obtain ⟨y198, μ196, hr197, h⟩ := sh_bind_e h
        refine v1_callV [_] 81 dX12_qGoesOnTest_81 ck_X12_280 (g_l_291 hG) ⟨by decide, rfl⟩ (t_X12_takes hG (sh_LAYat_348) hr197) (Nat.le_of_ble_eq_true rfl) ⟨Nat.le_of_ble_eq_true rfl, Nat.le_of_ble_eq_true rfl⟩ rfl (Nat.le_of_ble_eq_true rfl) ?_
        have hG196 := gp_X12_takes hG (sh_LAYat_348) hr197
        refine vv_if_eq 84 126 dX12_qGoesOnTest_84 (by decide) (fun c199 => ?_) (fun c199 => ?_)
        · rw [if_pos c199] at h
          refine vv_aload_n 126 0 dX12_qGoesOnTest_126 rfl rfl ?_
          refine vv_aload_n 127 0 dX12_qGoesOnTest_127 rfl rfl ?_
          refine vv_getR 128 dX12_qGoesOnTest_128 fl_12_191 rfl (g_l_291 hG196) (g_r_291_87 hG196) ?_
          obtain ⟨y202, μ200, hr201, h⟩ := sh_bind_e h
          refine v1_callV [_] 131 dX12_qGoesOnTest_131 ck_X12_280 (g_l_291 hG196) ⟨by decide, rfl⟩ (t_X12_takes hG196 (sh_LAYat_349) hr201) (Nat.le_of_ble_eq_true rfl) ⟨Nat.le_of_ble_eq_true rfl, Nat.le_of_ble_eq_true rfl⟩ rfl (Nat.le_of_ble_eq_true rfl) ?_
          have hG200 := gp_X12_takes hG196 (sh_LAYat_349) hr201
          refine vv_if_eq 134 185 dX12_qGoesOnTest_134 (by decide) (fun c203 => ?_) (fun c203 => ?_)
          · rw [if_pos c203] at h
            refine vv_aload_n 185 0 dX12_qGoesOnTest_185 rfl rfl ?_
            refine vv_getI 186 dX12_qGoesOnTest_186 fl_12_253 rfl (g_l_291 hG200) ?_
            refine vv_if_ne 189 208 dX12_qGoesOnTest_189 (by decide) (fun c204 => ?_) (fun c204 => ?_)
            · rw [if_neg c204] at h
              refine vv_iconst 208 dX12_qGoesOnTest_208 ik_0 ?_
              obtain ⟨e1, e2⟩ := sh_some2 h
              refine vv_zret 209 dX12_qGoesOnTest_209 rfl rfl (Nat.le_refl _) (Nat.le_refl _) ⟨by rw [e1], e2⟩
            · rw [if_pos c204] at h
              refine vv_aload_n 192 0 dX12_qGoesOnTest_192 rfl rfl ?_
              obtain ⟨y207, μ205, hr206, h⟩ := sh_bind_e h
              refine v1_callV [] 193 dX12_qGoesOnTest_193 ck_X12_693 (g_l_291 hG200) ⟨by decide, rfl⟩ (t_X12_qHasSquare hG200 hr206) (Nat.le_of_ble_eq_true rfl) ⟨Nat.le_of_ble_eq_true rfl, Nat.le_of_ble_eq_true rfl⟩ rfl (Nat.le_of_ble_eq_true rfl) ?_
              have hG205 := gp_X12_qHasSquare hG200 hr206
              refine vv_if_eq 196 208 dX12_qGoesOnTest_196 (by decide) (fun c208 => ?_) (fun c208 => ?_)
              · rw [if_pos c208] at h
                refine vv_iconst 208 dX12_qGoesOnTest_208 ik_0 ?_
                obtain ⟨e1, e2⟩ := sh_some2 h
                refine vv_zret 209 dX12_qGoesOnTest_209 rfl rfl (Nat.le_refl _) (Nat.le_refl _) ⟨by rw [e1], e2⟩
              · rw [if_neg c208] at h
                refine vv_aload_n 199 0 dX12_qGoesOnTest_199 rfl rfl ?_
                refine vv_iconst 200 dX12_qGoesOnTest_200 ik_1 ?_
                refine vv_aload_n 201 0 dX12_qGoesOnTest_201 rfl rfl ?_
                refine vv_getI 202 dX12_qGoesOnTest_202 fl_12_259 rfl (g_l_291 hG205) ?_
                obtain ⟨μ209, hr210, h⟩ := sh_bindv_e h
                refine v1_callV [_, _] 205 dX12_qGoesOnTest_205 ck_X12_283 (g_l_291 hG205) ⟨by decide, rfl⟩ (t_X12_fail hG205 hr210) (Nat.le_of_ble_eq_true rfl) ⟨Nat.le_of_ble_eq_true rfl, Nat.le_of_ble_eq_true rfl⟩ rfl (Nat.le_of_ble_eq_true rfl) ?_
                have hG209 := gp_X12_fail hG205 hr210
                refine vv_iconst 208 dX12_qGoesOnTest_208 ik_0 ?_
                obtain ⟨e1, e2⟩ := sh_some2 h
                refine vv_zret 209 dX12_qGoesOnTest_209 rfl rfl (Nat.le_refl _) (Nat.le_refl _) ⟨by rw [e1], e2⟩
          · rw [if_neg c203] at h
            refine vv_sub [(0, _)] (sh_subm [0] rfl) ?_
            exact ih_137 hG200 h
        · rw [if_neg c199] at h
          refine vv_sub [(0, _)] (sh_subm [0] rfl) ?_
          exact ih_87 hG196 h
      · rw [if_pos c195] at h
        refine vv_aload_n 7 0 dX12_qGoesOnTest_7 rfl rfl ?_
        obtain ⟨y214, μ212, hr213, h⟩ := sh_bind_e h
        refine v1_callV [] 8 dX12_qGoesOnTest_8 ck_X12_265 (g_l_291 hG) ⟨by decide, rfl⟩ (t_X12_look hG hr213) (Nat.le_of_ble_eq_true rfl) ⟨Nat.le_of_ble_eq_true rfl, Nat.le_of_ble_eq_true rfl⟩ rfl (Nat.le_of_ble_eq_true rfl) ?_
        have hG212 := gp_X12_look hG hr213
        refine vv_bipush 11 dX12_qGoesOnTest_11 bk_93 ?_
        refine vv_icmp_ne 13 76 dX12_qGoesOnTest_13 (by decide) (fun c215 => ?_) (fun c215 => ?_)
        · rw [if_neg c215] at h
          refine vv_aload_n 76 0 dX12_qGoesOnTest_76 rfl rfl ?_
          refine vv_aload_n 77 0 dX12_qGoesOnTest_77 rfl rfl ?_
          refine vv_getR 78 dX12_qGoesOnTest_78 fl_12_188 rfl (g_l_291 hG212) (g_r_291_86 hG212) ?_
          obtain ⟨y218, μ216, hr217, h⟩ := sh_bind_e h
          refine v1_callV [_] 81 dX12_qGoesOnTest_81 ck_X12_280 (g_l_291 hG212) ⟨by decide, rfl⟩ (t_X12_takes hG212 (sh_LAYat_348) hr217) (Nat.le_of_ble_eq_true rfl) ⟨Nat.le_of_ble_eq_true rfl, Nat.le_of_ble_eq_true rfl⟩ rfl (Nat.le_of_ble_eq_true rfl) ?_
          have hG216 := gp_X12_takes hG212 (sh_LAYat_348) hr217
          refine vv_if_eq 84 126 dX12_qGoesOnTest_84 (by decide) (fun c219 => ?_) (fun c219 => ?_)
          · rw [if_pos c219] at h
            refine vv_aload_n 126 0 dX12_qGoesOnTest_126 rfl rfl ?_
            refine vv_aload_n 127 0 dX12_qGoesOnTest_127 rfl rfl ?_
            refine vv_getR 128 dX12_qGoesOnTest_128 fl_12_191 rfl (g_l_291 hG216) (g_r_291_87 hG216) ?_
            obtain ⟨y222, μ220, hr221, h⟩ := sh_bind_e h
            refine v1_callV [_] 131 dX12_qGoesOnTest_131 ck_X12_280 (g_l_291 hG216) ⟨by decide, rfl⟩ (t_X12_takes hG216 (sh_LAYat_349) hr221) (Nat.le_of_ble_eq_true rfl) ⟨Nat.le_of_ble_eq_true rfl, Nat.le_of_ble_eq_true rfl⟩ rfl (Nat.le_of_ble_eq_true rfl) ?_
            have hG220 := gp_X12_takes hG216 (sh_LAYat_349) hr221
            refine vv_if_eq 134 185 dX12_qGoesOnTest_134 (by decide) (fun c223 => ?_) (fun c223 => ?_)
            · rw [if_pos c223] at h
              refine vv_aload_n 185 0 dX12_qGoesOnTest_185 rfl rfl ?_
              refine vv_getI 186 dX12_qGoesOnTest_186 fl_12_253 rfl (g_l_291 hG220) ?_
              refine vv_if_ne 189 208 dX12_qGoesOnTest_189 (by decide) (fun c224 => ?_) (fun c224 => ?_)
              · rw [if_neg c224] at h
                refine vv_iconst 208 dX12_qGoesOnTest_208 ik_0 ?_
                obtain ⟨e1, e2⟩ := sh_some2 h
                refine vv_zret 209 dX12_qGoesOnTest_209 rfl rfl (Nat.le_refl _) (Nat.le_refl _) ⟨by rw [e1], e2⟩
              · rw [if_pos c224] at h
                refine vv_aload_n 192 0 dX12_qGoesOnTest_192 rfl rfl ?_
                obtain ⟨y227, μ225, hr226, h⟩ := sh_bind_e h
                refine v1_callV [] 193 dX12_qGoesOnTest_193 ck_X12_693 (g_l_291 hG220) ⟨by decide, rfl⟩ (t_X12_qHasSquare hG220 hr226) (Nat.le_of_ble_eq_true rfl) ⟨Nat.le_of_ble_eq_true rfl, Nat.le_of_ble_eq_true rfl⟩ rfl (Nat.le_of_ble_eq_true rfl) ?_
                have hG225 := gp_X12_qHasSquare hG220 hr226
                refine vv_if_eq 196 208 dX12_qGoesOnTest_196 (by decide) (fun c228 => ?_) (fun c228 => ?_)
                · rw [if_pos c228] at h
                  refine vv_iconst 208 dX12_qGoesOnTest_208 ik_0 ?_
                  obtain ⟨e1, e2⟩ := sh_some2 h
                  refine vv_zret 209 dX12_qGoesOnTest_209 rfl rfl (Nat.le_refl _) (Nat.le_refl _) ⟨by rw [e1], e2⟩
                · rw [if_neg c228] at h
                  refine vv_aload_n 199 0 dX12_qGoesOnTest_199 rfl rfl ?_
                  refine vv_iconst 200 dX12_qGoesOnTest_200 ik_1 ?_
                  refine vv_aload_n 201 0 dX12_qGoesOnTest_201 rfl rfl ?_
                  refine vv_getI 202 dX12_qGoesOnTest_202 fl_12_259 rfl (g_l_291 hG225) ?_
                  obtain ⟨μ229, hr230, h⟩ := sh_bindv_e h
                  refine v1_callV [_, _] 205 dX12_qGoesOnTest_205 ck_X12_283 (g_l_291 hG225) ⟨by decide, rfl⟩ (t_X12_fail hG225 hr230) (Nat.le_of_ble_eq_true rfl) ⟨Nat.le_of_ble_eq_true rfl, Nat.le_of_ble_eq_true rfl⟩ rfl (Nat.le_of_ble_eq_true rfl) ?_
                  have hG229 := gp_X12_fail hG225 hr230
                  refine vv_iconst 208 dX12_qGoesOnTest_208 ik_0 ?_
                  obtain ⟨e1, e2⟩ := sh_some2 h
                  refine vv_zret 209 dX12_qGoesOnTest_209 rfl rfl (Nat.le_refl _) (Nat.le_refl _) ⟨by rw [e1], e2⟩
            · rw [if_neg c223] at h
              refine vv_sub [(0, _)] (sh_subm [0] rfl) ?_
              exact ih_137 hG220 h
          · rw [if_neg c219] at h
            refine vv_sub [(0, _)] (sh_subm [0] rfl) ?_
            exact ih_87 hG216 h
        · rw [if_pos c215] at h
          refine vv_aload_n 16 0 dX12_qGoesOnTest_16 rfl rfl ?_
          obtain ⟨y234, μ232, hr233, h⟩ := sh_bind_e h
          refine v1_callV [] 17 dX12_qGoesOnTest_17 ck_X12_693 (g_l_291 hG212) ⟨by decide, rfl⟩ (t_X12_qHasSquare hG212 hr233) (Nat.le_of_ble_eq_true rfl) ⟨Nat.le_of_ble_eq_true rfl, Nat.le_of_ble_eq_true rfl⟩ rfl (Nat.le_of_ble_eq_true rfl) ?_
          have hG232 := gp_X12_qHasSquare hG212 hr233
          refine vv_if_eq 20 76 dX12_qGoesOnTest_20 (by decide) (fun c235 => ?_) (fun c235 => ?_)
          · rw [if_pos c235] at h
            refine vv_aload_n 76 0 dX12_qGoesOnTest_76 rfl rfl ?_
            refine vv_aload_n 77 0 dX12_qGoesOnTest_77 rfl rfl ?_
            refine vv_getR 78 dX12_qGoesOnTest_78 fl_12_188 rfl (g_l_291 hG232) (g_r_291_86 hG232) ?_
            obtain ⟨y238, μ236, hr237, h⟩ := sh_bind_e h
            refine v1_callV [_] 81 dX12_qGoesOnTest_81 ck_X12_280 (g_l_291 hG232) ⟨by decide, rfl⟩ (t_X12_takes hG232 (sh_LAYat_348) hr237) (Nat.le_of_ble_eq_true rfl) ⟨Nat.le_of_ble_eq_true rfl, Nat.le_of_ble_eq_true rfl⟩ rfl (Nat.le_of_ble_eq_true rfl) ?_
            have hG236 := gp_X12_takes hG232 (sh_LAYat_348) hr237
            refine vv_if_eq 84 126 dX12_qGoesOnTest_84 (by decide) (fun c239 => ?_) (fun c239 => ?_)
            · rw [if_pos c239] at h
              refine vv_aload_n 126 0 dX12_qGoesOnTest_126 rfl rfl ?_
              refine vv_aload_n 127 0 dX12_qGoesOnTest_127 rfl rfl ?_
              refine vv_getR 128 dX12_qGoesOnTest_128 fl_12_191 rfl (g_l_291 hG236) (g_r_291_87 hG236) ?_
              obtain ⟨y242, μ240, hr241, h⟩ := sh_bind_e h
              refine v1_callV [_] 131 dX12_qGoesOnTest_131 ck_X12_280 (g_l_291 hG236) ⟨by decide, rfl⟩ (t_X12_takes hG236 (sh_LAYat_349) hr241) (Nat.le_of_ble_eq_true rfl) ⟨Nat.le_of_ble_eq_true rfl, Nat.le_of_ble_eq_true rfl⟩ rfl (Nat.le_of_ble_eq_true rfl) ?_
              have hG240 := gp_X12_takes hG236 (sh_LAYat_349) hr241
              refine vv_if_eq 134 185 dX12_qGoesOnTest_134 (by decide) (fun c243 => ?_) (fun c243 => ?_)
              · rw [if_pos c243] at h
                refine vv_aload_n 185 0 dX12_qGoesOnTest_185 rfl rfl ?_
                refine vv_getI 186 dX12_qGoesOnTest_186 fl_12_253 rfl (g_l_291 hG240) ?_
                refine vv_if_ne 189 208 dX12_qGoesOnTest_189 (by decide) (fun c244 => ?_) (fun c244 => ?_)
                · rw [if_neg c244] at h
                  refine vv_iconst 208 dX12_qGoesOnTest_208 ik_0 ?_
                  obtain ⟨e1, e2⟩ := sh_some2 h
                  refine vv_zret 209 dX12_qGoesOnTest_209 rfl rfl (Nat.le_refl _) (Nat.le_refl _) ⟨by rw [e1], e2⟩
                · rw [if_pos c244] at h
                  refine vv_aload_n 192 0 dX12_qGoesOnTest_192 rfl rfl ?_
                  obtain ⟨y247, μ245, hr246, h⟩ := sh_bind_e h
                  refine v1_callV [] 193 dX12_qGoesOnTest_193 ck_X12_693 (g_l_291 hG240) ⟨by decide, rfl⟩ (t_X12_qHasSquare hG240 hr246) (Nat.le_of_ble_eq_true rfl) ⟨Nat.le_of_ble_eq_true rfl, Nat.le_of_ble_eq_true rfl⟩ rfl (Nat.le_of_ble_eq_true rfl) ?_
                  have hG245 := gp_X12_qHasSquare hG240 hr246
                  refine vv_if_eq 196 208 dX12_qGoesOnTest_196 (by decide) (fun c248 => ?_) (fun c248 => ?_)
                  · rw [if_pos c248] at h
                    refine vv_iconst 208 dX12_qGoesOnTest_208 ik_0 ?_
                    obtain ⟨e1, e2⟩ := sh_some2 h
                    refine vv_zret 209 dX12_qGoesOnTest_209 rfl rfl (Nat.le_refl _) (Nat.le_refl _) ⟨by rw [e1], e2⟩
                  · rw [if_neg c248] at h
                    refine vv_aload_n 199 0 dX12_qGoesOnTest_199 rfl rfl ?_
                    refine vv_iconst 200 dX12_qGoesOnTest_200 ik_1 ?_
                    refine vv_aload_n 201 0 dX12_qGoesOnTest_201 rfl rfl ?_
                    refine vv_getI 202 dX12_qGoesOnTest_202 fl_12_259 rfl (g_l_291 hG245) ?_
                    obtain ⟨μ249, hr250, h⟩ := sh_bindv_e h
                    refine v1_callV [_, _] 205 dX12_qGoesOnTest_205 ck_X12_283 (g_l_291 hG245) ⟨by decide, rfl⟩ (t_X12_fail hG245 hr250) (Nat.le_of_ble_eq_true rfl) ⟨Nat.le_of_ble_eq_true rfl, Nat.le_of_ble_eq_true rfl⟩ rfl (Nat.le_of_ble_eq_true rfl) ?_
                    have hG249 := gp_X12_fail hG245 hr250
                    refine vv_iconst 208 dX12_qGoesOnTest_208 ik_0 ?_
                    obtain ⟨e1, e2⟩ := sh_some2 h
                    refine vv_zret 209 dX12_qGoesOnTest_209 rfl rfl (Nat.le_refl _) (Nat.le_refl _) ⟨by rw [e1], e2⟩
              · rw [if_neg c243] at h
                refine vv_sub [(0, _)] (sh_subm [0] rfl) ?_
                exact ih_137 hG240 h
            · rw [if_neg c239] at h
              refine vv_sub [(0, _)] (sh_subm [0] rfl) ?_
              exact ih_87 hG236 h
          · rw [if_neg c235] at h
            refine vv_aload_n 23 0 dX12_qGoesOnTest_23 rfl rfl ?_
            refine vv_dup_ref 24 dX12_qGoesOnTest_24 ?_
            refine vv_getI 25 dX12_qGoesOnTest_25 fl_12_259 rfl (g_l_291 hG232) ?_
            refine vv_iconst 28 dX12_qGoesOnTest_28 ik_1 ?_
            refine vv_iadd 29 dX12_qGoesOnTest_29 ?_
            refine vn_putI 30 dX12_qGoesOnTest_30 fl_12_259 (Or.inl rfl) rfl (g_l_291 hG232) (fun μ252 eμ252 => ?_)
            rw [sh_let_eq eμ252] at h
            have hG252 : sh_G μ252 := by rw [eμ252]; exact hG232
            refine vv_sub [(0, _)] (sh_subm [0] rfl) ?_
            exact ih_33 hG252 h
    · intro μ μ' v hG h
      replace h : (sh_bind (f_X12_qIsOn 25 μ) (fun y255 μ253 => (if y255 = 0 then sh_bindv (f_X12_qDrops μ253) (fun μ262 => F_X12_qGoesOnTest fuel 2  μ262) else sh_let (sh_setI μ253 291 105 ((sh_i μ253 291 105) - 1)) (fun μ257 => sh_let (sh_setI μ257 291 106 ((sh_i μ257 291 106) - 1)) (fun μ258 => sh_bindv (f_X12_qDropsNots μ258) (fun μ259 => F_X12_qGoesOnTest fuel 1  μ259))))) : Option (Int32 × sh_Mem)) = some (v, μ') := h
      refine vv_aload_n 33 0 dX12_qGoesOnTest_33 rfl rfl ?_
      refine vv_bipush 34 dX12_qGoesOnTest_34 bk_25 ?_
      obtain ⟨y255, μ253, hr254, h⟩ := sh_bind_e h
      refine v1_callV [_] 36 dX12_qGoesOnTest_36 ck_X12_675 (g_l_291 hG) ⟨by decide, rfl⟩ (t_X12_qIsOn hG hr254) (Nat.le_of_ble_eq_true rfl) ⟨Nat.le_of_ble_eq_true rfl, Nat.le_of_ble_eq_true rfl⟩ rfl (Nat.le_of_ble_eq_true rfl) ?_
      have hG253 := gp_X12_qIsOn hG hr254
      refine vv_if_ne 39 49 dX12_qGoesOnTest_39 (by decide) (fun c256 => ?_) (fun c256 => ?_)
      · rw [if_neg c256] at h
        refine vv_aload_n 49 0 dX12_qGoesOnTest_49 rfl rfl ?_
        refine vv_dup_ref 50 dX12_qGoesOnTest_50 ?_
        refine vv_getI 51 dX12_qGoesOnTest_51 fl_12_347 rfl (g_l_291 hG253) ?_
        refine vv_iconst 54 dX12_qGoesOnTest_54 ik_1 ?_
        refine vv_isub 55 dX12_qGoesOnTest_55 ?_
        refine vn_putI 56 dX12_qGoesOnTest_56 fl_12_347 (Or.inl rfl) rfl (g_l_291 hG253) (fun μ257 eμ257 => ?_)
        rw [sh_let_eq eμ257] at h
        have hG257 : sh_G μ257 := by rw [eμ257]; exact hG253
        refine vv_aload_n 59 0 dX12_qGoesOnTest_59 rfl rfl ?_
        refine vv_dup_ref 60 dX12_qGoesOnTest_60 ?_
        refine vv_getI 61 dX12_qGoesOnTest_61 fl_12_350 rfl (g_l_291 hG257) ?_
        refine vv_iconst 64 dX12_qGoesOnTest_64 ik_1 ?_
        refine vv_isub 65 dX12_qGoesOnTest_65 ?_
        refine vn_putI 66 dX12_qGoesOnTest_66 fl_12_350 (Or.inl rfl) rfl (g_l_291 hG257) (fun μ258 eμ258 => ?_)
        rw [sh_let_eq eμ258] at h
        have hG258 : sh_G μ258 := by rw [eμ258]; exact hG257
        refine vv_aload_n 69 0 dX12_qGoesOnTest_69 rfl rfl ?_
        obtain ⟨μ259, hr260, h⟩ := sh_bindv_e h
        refine v1_callV [] 70 dX12_qGoesOnTest_70 ck_X12_687 (g_l_291 hG258) ⟨by decide, rfl⟩ (t_X12_qDropsNots hG258 hr260) (Nat.le_of_ble_eq_true rfl) ⟨Nat.le_of_ble_eq_true rfl, Nat.le_of_ble_eq_true rfl⟩ rfl (Nat.le_of_ble_eq_true rfl) ?_
        have hG259 := gp_X12_qDropsNots hG258 hr260
        refine vv_goto 73 0 dX12_qGoesOnTest_73 (by decide) ?_
        refine vv_sub [(0, _)] (sh_subm [0] rfl) ?_
        exact ih_0 hG259 h
      · rw [if_pos c256] at h
        refine vv_aload_n 42 0 dX12_qGoesOnTest_42 rfl rfl ?_
        obtain ⟨μ262, hr263, h⟩ := sh_bindv_e h
        refine v1_callV [] 43 dX12_qGoesOnTest_43 ck_X12_648 (g_l_291 hG253) ⟨by decide, rfl⟩ (t_X12_qDrops hG253 hr263) (Nat.le_of_ble_eq_true rfl) ⟨Nat.le_of_ble_eq_true rfl, Nat.le_of_ble_eq_true rfl⟩ rfl (Nat.le_of_ble_eq_true rfl) ?_
        have hG262 := gp_X12_qDrops hG253 hr263
        refine vv_goto 46 33 dX12_qGoesOnTest_46 (by decide) ?_
        refine vv_sub [(0, _)] (sh_subm [0] rfl) ?_
        exact ih_33 hG262 h
    · intro μ μ' v hG h
      replace h : (sh_bind (f_X12_qIsOn 10 μ) (fun y267 μ265 => (if y267 = 0 then (if sh_in (sh_i μ265 291 105) 1700 then sh_let (sh_setI μ265 365 ((sh_i μ265 291 105)).toNatClampNeg 10) (fun μ270 => sh_let (sh_setI μ270 291 105 ((sh_i μ270 291 105) + 1)) (fun μ271 => some (1, μ271))) else none) else sh_bindv (f_X12_qDrops μ265) (fun μ272 => F_X12_qGoesOnTest fuel 3  μ272))) : Option (Int32 × sh_Mem)) = some (v, μ') := h
      refine vv_aload_n 87 0 dX12_qGoesOnTest_87 rfl rfl ?_
      refine vv_bipush 88 dX12_qGoesOnTest_88 bk_10 ?_
      obtain ⟨y267, μ265, hr266, h⟩ := sh_bind_e h
      refine v1_callV [_] 90 dX12_qGoesOnTest_90 ck_X12_675 (g_l_291 hG) ⟨by decide, rfl⟩ (t_X12_qIsOn hG hr266) (Nat.le_of_ble_eq_true rfl) ⟨Nat.le_of_ble_eq_true rfl, Nat.le_of_ble_eq_true rfl⟩ rfl (Nat.le_of_ble_eq_true rfl) ?_
      have hG265 := gp_X12_qIsOn hG hr266
      refine vv_if_eq 93 103 dX12_qGoesOnTest_93 (by decide) (fun c268 => ?_) (fun c268 => ?_)
      · rw [if_pos c268] at h
        refine vv_aload_n 103 0 dX12_qGoesOnTest_103 rfl rfl ?_
        refine vv_getR 104 dX12_qGoesOnTest_104 fl_12_239 rfl (g_l_291 hG265) (g_r_291_104 hG265) ?_
        refine vv_aload_n 107 0 dX12_qGoesOnTest_107 rfl rfl ?_
        refine vv_getI 108 dX12_qGoesOnTest_108 fl_12_347 rfl (g_l_291 hG265) ?_
        refine vv_bipush 111 dX12_qGoesOnTest_111 bk_10 ?_
        obtain ⟨k269, h⟩ := sh_chk h
        refine vn_iast 113 dX12_qGoesOnTest_113 (g_l_365 hG265) k269 (fun μ270 eμ270 => ?_)
        rw [sh_let_eq eμ270] at h
        have hG270 : sh_G μ270 := by rw [eμ270]; exact hG265
        refine vv_aload_n 114 0 dX12_qGoesOnTest_114 rfl rfl ?_
        refine vv_dup_ref 115 dX12_qGoesOnTest_115 ?_
        refine vv_getI 116 dX12_qGoesOnTest_116 fl_12_347 rfl (g_l_291 hG270) ?_
        refine vv_iconst 119 dX12_qGoesOnTest_119 ik_1 ?_
        refine vv_iadd 120 dX12_qGoesOnTest_120 ?_
        refine vn_putI 121 dX12_qGoesOnTest_121 fl_12_347 (Or.inl rfl) rfl (g_l_291 hG270) (fun μ271 eμ271 => ?_)
        rw [sh_let_eq eμ271] at h
        have hG271 : sh_G μ271 := by rw [eμ271]; exact hG270
        refine vv_iconst 124 dX12_qGoesOnTest_124 ik_1 ?_
        obtain ⟨e1, e2⟩ := sh_some2 h
        refine vv_zret 125 dX12_qGoesOnTest_125 rfl rfl (Nat.le_refl _) (Nat.le_refl _) ⟨by rw [e1], e2⟩
      · rw [if_neg c268] at h
        refine vv_aload_n 96 0 dX12_qGoesOnTest_96 rfl rfl ?_
        obtain ⟨μ272, hr273, h⟩ := sh_bindv_e h
        refine v1_callV [] 97 dX12_qGoesOnTest_97 ck_X12_648 (g_l_291 hG265) ⟨by decide, rfl⟩ (t_X12_qDrops hG265 hr273) (Nat.le_of_ble_eq_true rfl) ⟨Nat.le_of_ble_eq_true rfl, Nat.le_of_ble_eq_true rfl⟩ rfl (Nat.le_of_ble_eq_true rfl) ?_
        have hG272 := gp_X12_qDrops hG265 hr273
        refine vv_goto 100 87 dX12_qGoesOnTest_100 (by decide) ?_
        refine vv_sub [(0, _)] (sh_subm [0] rfl) ?_
        exact ih_87 hG272 h
    · intro μ μ' v hG h
      replace h : (sh_bind (f_X12_qIsOn 10 μ) (fun y277 μ275 => (if y277 = 0 then sh_bind (f_X12_qIsOn 11 μ275) (fun y284 μ282 => (if y284 = 0 then (if sh_in (sh_i μ282 291 105) 1700 then sh_let (sh_setI μ282 365 ((sh_i μ282 291 105)).toNatClampNeg 11) (fun μ287 => sh_let (sh_setI μ287 291 105 ((sh_i μ287 291 105) + 1)) (fun μ288 => some (1, μ288))) else none) else sh_bindv (f_X12_qDrops μ282) (fun μ289 => F_X12_qGoesOnTest fuel 4  μ289))) else sh_bindv (f_X12_qDrops μ275) (fun μ279 => F_X12_qGoesOnTest fuel 4  μ279))) : Option (Int32 × sh_Mem)) = some (v, μ') := h
      refine vv_aload_n 137 0 dX12_qGoesOnTest_137 rfl rfl ?_
      refine vv_bipush 138 dX12_qGoesOnTest_138 bk_10 ?_
      obtain ⟨y277, μ275, hr276, h⟩ := sh_bind_e h
      refine v1_callV [_] 140 dX12_qGoesOnTest_140 ck_X12_675 (g_l_291 hG) ⟨by decide, rfl⟩ (t_X12_qIsOn hG hr276) (Nat.le_of_ble_eq_true rfl) ⟨Nat.le_of_ble_eq_true rfl, Nat.le_of_ble_eq_true rfl⟩ rfl (Nat.le_of_ble_eq_true rfl) ?_
      have hG275 := gp_X12_qIsOn hG hr276
      refine vv_if_ne 143 155 dX12_qGoesOnTest_143 (by decide) (fun c278 => ?_) (fun c278 => ?_)
      · rw [if_neg c278] at h
        refine vv_aload_n 155 0 dX12_qGoesOnTest_155 rfl rfl ?_
        obtain ⟨μ279, hr280, h⟩ := sh_bindv_e h
        refine v1_callV [] 156 dX12_qGoesOnTest_156 ck_X12_648 (g_l_291 hG275) ⟨by decide, rfl⟩ (t_X12_qDrops hG275 hr280) (Nat.le_of_ble_eq_true rfl) ⟨Nat.le_of_ble_eq_true rfl, Nat.le_of_ble_eq_true rfl⟩ rfl (Nat.le_of_ble_eq_true rfl) ?_
        have hG279 := gp_X12_qDrops hG275 hr280
        refine vv_goto 159 137 dX12_qGoesOnTest_159 (by decide) ?_
        refine vv_sub [(0, _)] (sh_subm [0] rfl) ?_
        exact ih_137 hG279 h
      · rw [if_pos c278] at h
        refine vv_aload_n 146 0 dX12_qGoesOnTest_146 rfl rfl ?_
        refine vv_bipush 147 dX12_qGoesOnTest_147 bk_11 ?_
        obtain ⟨y284, μ282, hr283, h⟩ := sh_bind_e h
        refine v1_callV [_] 149 dX12_qGoesOnTest_149 ck_X12_675 (g_l_291 hG275) ⟨by decide, rfl⟩ (t_X12_qIsOn hG275 hr283) (Nat.le_of_ble_eq_true rfl) ⟨Nat.le_of_ble_eq_true rfl, Nat.le_of_ble_eq_true rfl⟩ rfl (Nat.le_of_ble_eq_true rfl) ?_
        have hG282 := gp_X12_qIsOn hG275 hr283
        refine vv_if_eq 152 162 dX12_qGoesOnTest_152 (by decide) (fun c285 => ?_) (fun c285 => ?_)
        · rw [if_pos c285] at h
          refine vv_aload_n 162 0 dX12_qGoesOnTest_162 rfl rfl ?_
          refine vv_getR 163 dX12_qGoesOnTest_163 fl_12_239 rfl (g_l_291 hG282) (g_r_291_104 hG282) ?_
          refine vv_aload_n 166 0 dX12_qGoesOnTest_166 rfl rfl ?_
          refine vv_getI 167 dX12_qGoesOnTest_167 fl_12_347 rfl (g_l_291 hG282) ?_
          refine vv_bipush 170 dX12_qGoesOnTest_170 bk_11 ?_
          obtain ⟨k286, h⟩ := sh_chk h
          refine vn_iast 172 dX12_qGoesOnTest_172 (g_l_365 hG282) k286 (fun μ287 eμ287 => ?_)
          rw [sh_let_eq eμ287] at h
          have hG287 : sh_G μ287 := by rw [eμ287]; exact hG282
          refine vv_aload_n 173 0 dX12_qGoesOnTest_173 rfl rfl ?_
          refine vv_dup_ref 174 dX12_qGoesOnTest_174 ?_
          refine vv_getI 175 dX12_qGoesOnTest_175 fl_12_347 rfl (g_l_291 hG287) ?_
          refine vv_iconst 178 dX12_qGoesOnTest_178 ik_1 ?_
          refine vv_iadd 179 dX12_qGoesOnTest_179 ?_
          refine vn_putI 180 dX12_qGoesOnTest_180 fl_12_347 (Or.inl rfl) rfl (g_l_291 hG287) (fun μ288 eμ288 => ?_)
          rw [sh_let_eq eμ288] at h
          have hG288 : sh_G μ288 := by rw [eμ288]; exact hG287
          refine vv_iconst 183 dX12_qGoesOnTest_183 ik_1 ?_
          obtain ⟨e1, e2⟩ := sh_some2 h
          refine vv_zret 184 dX12_qGoesOnTest_184 rfl rfl (Nat.le_refl _) (Nat.le_refl _) ⟨by rw [e1], e2⟩
        · rw [if_neg c285] at h
          refine vv_aload_n 155 0 dX12_qGoesOnTest_155 rfl rfl ?_
          obtain ⟨μ289, hr290, h⟩ := sh_bindv_e h
          refine v1_callV [] 156 dX12_qGoesOnTest_156 ck_X12_648 (g_l_291 hG282) ⟨by decide, rfl⟩ (t_X12_qDrops hG282 hr290) (Nat.le_of_ble_eq_true rfl) ⟨Nat.le_of_ble_eq_true rfl, Nat.le_of_ble_eq_true rfl⟩ rfl (Nat.le_of_ble_eq_true rfl) ?_
          have hG289 := gp_X12_qDrops hG282 hr290
          refine vv_goto 159 137 dX12_qGoesOnTest_159 (by decide) ?_
          refine vv_sub [(0, _)] (sh_subm [0] rfl) ?_
          exact ih_137 hG289 h
theorem gp_X12_qGoesOnTest {μ μ' : sh_Mem} {v : Int32} (hG : sh_G μ) (h : f_X12_qGoesOnTest μ = some (v, μ')) : sh_G μ' := by
  have ih_0 := (gpl_X12_qGoesOnTest sh_fuel).1
  have ih_33 := (gpl_X12_qGoesOnTest sh_fuel).2.1
  have ih_87 := (gpl_X12_qGoesOnTest sh_fuel).2.2.1
  have ih_137 := (gpl_X12_qGoesOnTest sh_fuel).2.2.2
  unfold f_X12_qGoesOnTest at h
  exact ih_0 hG h
theorem t_X12_qGoesOnTest {μ μ' : sh_Mem} {v : Int32} (hG : sh_G μ) (h : f_X12_qGoesOnTest μ = some (v, μ')) : sh_C0 l B D ca 4 M_X12_qGoesOnTest [.ref 291] μ (fun v0 μ0 => v0 = some (.int v) ∧ μ0 = μ') := by
  have ih_0 := (tl_X12_qGoesOnTest (l := l) (B := B) (D := D) (ca := ca) sh_fuel).1
  have ih_33 := (tl_X12_qGoesOnTest (l := l) (B := B) (D := D) (ca := ca) sh_fuel).2.1
  have ih_87 := (tl_X12_qGoesOnTest (l := l) (B := B) (D := D) (ca := ca) sh_fuel).2.2.1
  have ih_137 := (tl_X12_qGoesOnTest (l := l) (B := B) (D := D) (ca := ca) sh_fuel).2.2.2
  unfold f_X12_qGoesOnTest at h
  refine vv_sub [(0, _)] (sh_subm [0] rfl) ?_
  exact ih_0 hG h
def f_X12_qClip (μ : sh_Mem) (a1 : Int64) : Int64 := (if (lg_cmp a1 1000000) ≤ 0 then (if 0 ≤ (lg_cmp a1 (-1000000)) then a1 else (-1000000)) else 1000000)
theorem c_X12_qClip (hG : sh_G μ)  {a1 : Int64} : sh_C0 l B D ca 1 M_X12_qClip [.long a1] μ (fun v μ' => v = some (.long (f_X12_qClip μ a1)) ∧ μ' = μ) := by
  refine vv_lload_n 0 0 dX12_qClip_0 rfl rfl ?_
  refine vv_ldc2 1 dX12_qClip_1 kl_12_696 ?_
  refine vv_lcmp 4 dX12_qClip_4 ?_
  refine vv_if_le 5 14 dX12_qClip_5 (by decide) (fun h1 => ?_) (fun h1 => ?_)
  · refine vv_lload_n 14 0 dX12_qClip_14 rfl rfl ?_
    refine vv_ldc2 15 dX12_qClip_15 kl_12_698 ?_
    refine vv_lcmp 18 dX12_qClip_18 ?_
    refine vv_if_ge 19 28 dX12_qClip_19 (by decide) (fun h2 => ?_) (fun h2 => ?_)
    · refine vv_lload_n 28 0 dX12_qClip_28 rfl rfl ?_
      refine vv_lret 29 dX12_qClip_29 rfl (Nat.le_refl _) (Nat.le_refl _) ?_
      exact ⟨by show some _ = some (Value.long (f_X12_qClip μ a1)); unfold f_X12_qClip; rw [if_pos h1, if_pos h2], rfl⟩
    · refine vv_ldc2 22 dX12_qClip_22 kl_12_698 ?_
      refine vv_goto 25 29 dX12_qClip_25 (by decide) ?_
      refine vv_lret 29 dX12_qClip_29 rfl (Nat.le_refl _) (Nat.le_refl _) ?_
      exact ⟨by show some _ = some (Value.long (f_X12_qClip μ a1)); unfold f_X12_qClip; rw [if_pos h1, if_neg h2], rfl⟩
  · refine vv_ldc2 8 dX12_qClip_8 kl_12_696 ?_
    refine vv_goto 11 29 dX12_qClip_11 (by decide) ?_
    refine vv_lret 29 dX12_qClip_29 rfl (Nat.le_refl _) (Nat.le_refl _) ?_
    exact ⟨by show some _ = some (Value.long (f_X12_qClip μ a1)); unfold f_X12_qClip; rw [if_neg h1], rfl⟩
noncomputable def f_X12_qFloor (a1 : Int64) (a2 : Int64) (μ : sh_Mem) : Option (Int64 × sh_Mem) := (if (lg_cmp a2 0) = 0 then some (0, μ) else (if ¬ a2 = 0 then sh_let ((a1 / a2) : Int64) (fun x3 => (if ¬ a2 = 0 then (if (lg_cmp (a1 - a1 / a2 * a2) 0) = 0 then some (x3, μ) else (if 0 ≤ (lg_cmp a1 0) then (if 0 ≤ (lg_cmp a2 0) then some (x3, μ) else some ((x3 - 1), μ)) else (if 0 ≤ (lg_cmp a2 0) then some ((x3 - 1), μ) else some (x3, μ)))) else none)) else none))
theorem gp_X12_qFloor {a1 : Int64} {a2 : Int64} {μ μ' : sh_Mem} {v : Int64} (hG : sh_G μ) (h : f_X12_qFloor a1 a2 μ = some (v, μ')) : sh_G μ' := by
  unfold f_X12_qFloor at h
  by_cases c1 : (lg_cmp a2 0) = 0
  · rw [if_pos c1] at h
    obtain ⟨e1, e2⟩ := sh_some2 h
    exact e2 ▸ hG
  · rw [if_neg c1] at h
    obtain ⟨k2, h⟩ := sh_chk h
    obtain ⟨x3, ex3⟩ : ∃ y : Int64, y = (a1 / a2) := ⟨_, rfl⟩
    rw [sh_let_eq ex3] at h
    obtain ⟨k4, h⟩ := sh_chk h
    by_cases c5 : (lg_cmp (a1 - a1 / a2 * a2) 0) = 0
    · rw [if_pos c5] at h
      obtain ⟨e1, e2⟩ := sh_some2 h
      exact e2 ▸ hG
    · rw [if_neg c5] at h
      by_cases c6 : 0 ≤ (lg_cmp a1 0)
      · rw [if_pos c6] at h
        by_cases c7 : 0 ≤ (lg_cmp a2 0)
        · rw [if_pos c7] at h
          obtain ⟨e1, e2⟩ := sh_some2 h
          exact e2 ▸ hG
        · rw [if_neg c7] at h
          obtain ⟨e1, e2⟩ := sh_some2 h
          exact e2 ▸ hG
      · rw [if_neg c6] at h
        by_cases c8 : 0 ≤ (lg_cmp a2 0)
        · rw [if_pos c8] at h
          obtain ⟨e1, e2⟩ := sh_some2 h
          exact e2 ▸ hG
        · rw [if_neg c8] at h
          obtain ⟨e1, e2⟩ := sh_some2 h
          exact e2 ▸ hG
theorem t_X12_qFloor {a1 : Int64} {a2 : Int64} {μ μ' : sh_Mem} {v : Int64} (hG : sh_G μ) (h : f_X12_qFloor a1 a2 μ = some (v, μ')) : sh_C0 l B D ca 1 M_X12_qFloor [.long a1, .long a2] μ (fun v0 μ0 => v0 = some (.long v) ∧ μ0 = μ') := by
  unfold f_X12_qFloor at h
  refine vv_lload_n 0 2 dX12_qFloor_0 rfl rfl ?_
  refine vv_lconst 1 dX12_qFloor_1 lk_0 ?_
  refine vv_lcmp 2 dX12_qFloor_2 ?_
  refine vv_if_ne 3 8 dX12_qFloor_3 (by decide) (fun c1 => ?_) (fun c1 => ?_)
  · rw [if_neg c1] at h
    refine vv_lload_n 8 0 dX12_qFloor_8 rfl rfl ?_
    refine vv_lload_n 9 2 dX12_qFloor_9 rfl rfl ?_
    obtain ⟨k2, h⟩ := sh_chk h
    refine vv_ldiv 10 dX12_qFloor_10 k2 ?_
    refine vv_topl (fun x3 ex3 => ?_)
    rw [sh_let_eq ex3] at h
    refine vv_lstore (lv' := [(4, _), (0, _), (2, _)]) 11 4 dX12_qFloor_11 (by decide) rfl ?_
    refine vv_lload_n 13 0 dX12_qFloor_13 rfl rfl ?_
    refine vv_lload_n 14 2 dX12_qFloor_14 rfl rfl ?_
    obtain ⟨k4, h⟩ := sh_chk h
    refine vv_lrem 15 dX12_qFloor_15 k4 ?_
    refine vv_lconst 16 dX12_qFloor_16 lk_0 ?_
    refine vv_lcmp 17 dX12_qFloor_17 ?_
    refine vv_if_eq 18 53 dX12_qFloor_18 (by decide) (fun c5 => ?_) (fun c5 => ?_)
    · rw [if_pos c5] at h
      refine vv_lload 53 4 dX12_qFloor_53 rfl ?_
      obtain ⟨e1, e2⟩ := sh_some2 h
      refine vv_lret 55 dX12_qFloor_55 rfl (Nat.le_refl _) (Nat.le_refl _) ⟨by rw [e1], e2⟩
    · rw [if_neg c5] at h
      refine vv_lload_n 21 0 dX12_qFloor_21 rfl rfl ?_
      refine vv_lconst 22 dX12_qFloor_22 lk_0 ?_
      refine vv_lcmp 23 dX12_qFloor_23 ?_
      refine vv_if_ge 24 31 dX12_qFloor_24 (by decide) (fun c6 => ?_) (fun c6 => ?_)
      · rw [if_pos c6] at h
        refine vv_iconst 31 dX12_qFloor_31 ik_0 ?_
        refine vv_lload_n 32 2 dX12_qFloor_32 rfl rfl ?_
        refine vv_lconst 33 dX12_qFloor_33 lk_0 ?_
        refine vv_lcmp 34 dX12_qFloor_34 ?_
        refine vv_if_ge 35 42 dX12_qFloor_35 (by decide) (fun c7 => ?_) (fun c7 => ?_)
        · rw [if_pos c7] at h
          refine vv_iconst 42 dX12_qFloor_42 ik_0 ?_
          refine vv_icmp_eq 43 53 dX12_qFloor_43 (by decide) (fun _ => ?_) (fun hc => absurd (by decide) hc)
          refine vv_lload 53 4 dX12_qFloor_53 rfl ?_
          obtain ⟨e1, e2⟩ := sh_some2 h
          refine vv_lret 55 dX12_qFloor_55 rfl (Nat.le_refl _) (Nat.le_refl _) ⟨by rw [e1], e2⟩
        · rw [if_neg c7] at h
          refine vv_iconst 38 dX12_qFloor_38 ik_1 ?_
          refine vv_goto 39 43 dX12_qFloor_39 (by decide) ?_
          refine vv_icmp_eq 43 53 dX12_qFloor_43 (by decide) (fun hc => absurd hc (by decide)) (fun _ => ?_)
          refine vv_lload 46 4 dX12_qFloor_46 rfl ?_
          refine vv_lconst 48 dX12_qFloor_48 lk_1 ?_
          refine vv_lsub 49 dX12_qFloor_49 ?_
          refine vv_goto 50 55 dX12_qFloor_50 (by decide) ?_
          obtain ⟨e1, e2⟩ := sh_some2 h
          refine vv_lret 55 dX12_qFloor_55 rfl (Nat.le_refl _) (Nat.le_refl _) ⟨by rw [e1], e2⟩
      · rw [if_neg c6] at h
        refine vv_iconst 27 dX12_qFloor_27 ik_1 ?_
        refine vv_goto 28 32 dX12_qFloor_28 (by decide) ?_
        refine vv_lload_n 32 2 dX12_qFloor_32 rfl rfl ?_
        refine vv_lconst 33 dX12_qFloor_33 lk_0 ?_
        refine vv_lcmp 34 dX12_qFloor_34 ?_
        refine vv_if_ge 35 42 dX12_qFloor_35 (by decide) (fun c8 => ?_) (fun c8 => ?_)
        · rw [if_pos c8] at h
          refine vv_iconst 42 dX12_qFloor_42 ik_0 ?_
          refine vv_icmp_eq 43 53 dX12_qFloor_43 (by decide) (fun hc => absurd hc (by decide)) (fun _ => ?_)
          refine vv_lload 46 4 dX12_qFloor_46 rfl ?_
          refine vv_lconst 48 dX12_qFloor_48 lk_1 ?_
          refine vv_lsub 49 dX12_qFloor_49 ?_
          refine vv_goto 50 55 dX12_qFloor_50 (by decide) ?_
          obtain ⟨e1, e2⟩ := sh_some2 h
          refine vv_lret 55 dX12_qFloor_55 rfl (Nat.le_refl _) (Nat.le_refl _) ⟨by rw [e1], e2⟩
        · rw [if_neg c8] at h
          refine vv_iconst 38 dX12_qFloor_38 ik_1 ?_
          refine vv_goto 39 43 dX12_qFloor_39 (by decide) ?_
          refine vv_icmp_eq 43 53 dX12_qFloor_43 (by decide) (fun _ => ?_) (fun hc => absurd (by decide) hc)
          refine vv_lload 53 4 dX12_qFloor_53 rfl ?_
          obtain ⟨e1, e2⟩ := sh_some2 h
          refine vv_lret 55 dX12_qFloor_55 rfl (Nat.le_refl _) (Nat.le_refl _) ⟨by rw [e1], e2⟩
  · rw [if_pos c1] at h
    refine vv_lconst 6 dX12_qFloor_6 lk_0 ?_
    obtain ⟨e1, e2⟩ := sh_some2 h
    refine vv_lret 7 dX12_qFloor_7 rfl (Nat.le_refl _) (Nat.le_refl _) ⟨by rw [e1], e2⟩
noncomputable def f_X12_qPuts (a1 : Int64) (μ : sh_Mem) : Option sh_Mem := (if sh_in (sh_i μ 291 109) 1700 then sh_let (sh_setL μ 366 ((sh_i μ 291 109)).toNatClampNeg a1) (fun μ2 => sh_let (sh_setI μ2 291 109 ((sh_i μ2 291 109) + 1)) (fun μ3 => some μ3)) else none)
theorem gp_X12_qPuts {a1 : Int64} {μ μ' : sh_Mem} (hG : sh_G μ) (h : f_X12_qPuts a1 μ = some μ') : sh_G μ' := by
  unfold f_X12_qPuts at h
  obtain ⟨k1, h⟩ := sh_chk h
  obtain ⟨μ2, eμ2⟩ : ∃ y : sh_Mem, y = (sh_setL μ 366 ((sh_i μ 291 109)).toNatClampNeg a1) := ⟨_, rfl⟩
  rw [sh_let_eq eμ2] at h
  have hG2 : sh_G μ2 := by rw [eμ2]; exact hG
  obtain ⟨μ3, eμ3⟩ : ∃ y : sh_Mem, y = (sh_setI μ2 291 109 ((sh_i μ2 291 109) + 1)) := ⟨_, rfl⟩
  rw [sh_let_eq eμ3] at h
  have hG3 : sh_G μ3 := by rw [eμ3]; exact hG2
  have e2 := Option.some.inj h
  exact e2 ▸ hG3
theorem t_X12_qPuts {a1 : Int64} {μ μ' : sh_Mem} (hG : sh_G μ) (h : f_X12_qPuts a1 μ = some μ') : sh_C0 l B D ca 1 M_X12_qPuts [.ref 291, .long a1] μ (fun v0 μ0 => v0 = none ∧ μ0 = μ') := by
  unfold f_X12_qPuts at h
  refine vv_aload_n 0 0 dX12_qPuts_0 rfl rfl ?_
  refine vv_getR 1 dX12_qPuts_1 fl_12_242 rfl (g_l_291 hG) (g_r_291_108 hG) ?_
  refine vv_aload_n 4 0 dX12_qPuts_4 rfl rfl ?_
  refine vv_getI 5 dX12_qPuts_5 fl_12_420 rfl (g_l_291 hG) ?_
  refine vv_lload_n 8 1 dX12_qPuts_8 rfl rfl ?_
  obtain ⟨k1, h⟩ := sh_chk h
  refine vn_last 9 dX12_qPuts_9 (g_l_366 hG) k1 (fun μ2 eμ2 => ?_)
  rw [sh_let_eq eμ2] at h
  have hG2 : sh_G μ2 := by rw [eμ2]; exact hG
  refine vv_aload_n 10 0 dX12_qPuts_10 rfl rfl ?_
  refine vv_dup_ref 11 dX12_qPuts_11 ?_
  refine vv_getI 12 dX12_qPuts_12 fl_12_420 rfl (g_l_291 hG2) ?_
  refine vv_iconst 15 dX12_qPuts_15 ik_1 ?_
  refine vv_iadd 16 dX12_qPuts_16 ?_
  refine vn_putI 17 dX12_qPuts_17 fl_12_420 (Or.inl rfl) rfl (g_l_291 hG2) (fun μ3 eμ3 => ?_)
  rw [sh_let_eq eμ3] at h
  have hG3 : sh_G μ3 := by rw [eμ3]; exact hG2
  have e2 := Option.some.inj h
  refine vv_vret 20 dX12_qPuts_20 rfl (Nat.le_refl _) (Nat.le_refl _) ⟨rfl, e2⟩
noncomputable def f_X12_qJoins (a1 : Int32) (μ : sh_Mem) : Option sh_Mem := (if sh_in ((sh_i μ 291 109) - 1) 1700 then sh_let ((sh_l μ 366 (((sh_i μ 291 109) - 1)).toNatClampNeg) : Int64) (fun x2 => (if sh_in ((sh_i μ 291 109) - 2) 1700 then sh_let ((sh_l μ 366 (((sh_i μ 291 109) - 2)).toNatClampNeg) : Int64) (fun x4 => sh_let (sh_setI μ 291 109 ((sh_i μ 291 109) - 2)) (fun μ5 => (if a1 = 1 then sh_bindv (f_X12_qPuts (f_X12_qClip μ5 (x4 + x2)) μ5) (fun μ7 => some μ7) else (if a1 = 2 then sh_bindv (f_X12_qPuts (f_X12_qClip μ5 (x4 - x2)) μ5) (fun μ11 => some μ11) else (if a1 = 3 then sh_bindv (f_X12_qPuts (f_X12_qClip μ5 (x4 * x2)) μ5) (fun μ15 => some μ15) else (if a1 = 4 then sh_bind (f_X12_qFloor x4 x2 μ5) (fun y21 μ19 => sh_bindv (f_X12_qPuts y21 μ19) (fun μ22 => some μ22)) else (if a1 = 5 then (if 0 ≤ (lg_cmp x4 x2) then sh_bindv (f_X12_qPuts x2 μ5) (fun μ27 => some μ27) else sh_bindv (f_X12_qPuts x4 μ5) (fun μ30 => some μ30)) else (if a1 = 6 then (if (lg_cmp x4 x2) ≤ 0 then sh_bindv (f_X12_qPuts x2 μ5) (fun μ35 => some μ35) else sh_bindv (f_X12_qPuts x4 μ5) (fun μ38 => some μ38)) else (if a1 = 7 then (if 0 ≤ (lg_cmp x4 x2) then sh_bindv (f_X12_qPuts 0 μ5) (fun μ43 => some μ43) else sh_bindv (f_X12_qPuts 1 μ5) (fun μ46 => some μ46)) else (if a1 = 8 then (if (lg_cmp x4 x2) ≤ 0 then sh_bindv (f_X12_qPuts 0 μ5) (fun μ51 => some μ51) else sh_bindv (f_X12_qPuts 1 μ5) (fun μ54 => some μ54)) else (if a1 = 9 then (if (lg_cmp x4 x2) = 0 then sh_bindv (f_X12_qPuts 1 μ5) (fun μ62 => some μ62) else sh_bindv (f_X12_qPuts 0 μ5) (fun μ59 => some μ59)) else (if a1 = 10 then sh_bindv (f_X12_qPuts (x4 * x2) μ5) (fun μ66 => some μ66) else (if (lg_cmp (x4 + x2) 0) ≤ 0 then sh_bindv (f_X12_qPuts 0 μ5) (fun μ70 => some μ70) else sh_bindv (f_X12_qPuts 1 μ5) (fun μ73 => some μ73)))))))))))))) else none)) else none)
theorem gp_X12_qJoins {a1 : Int32} {μ μ' : sh_Mem} (hG : sh_G μ) (h : f_X12_qJoins a1 μ = some μ') : sh_G μ' := by
  unfold f_X12_qJoins at h
  obtain ⟨k1, h⟩ := sh_chk h
  obtain ⟨x2, ex2⟩ : ∃ y : Int64, y = (sh_l μ 366 (((sh_i μ 291 109) - 1)).toNatClampNeg) := ⟨_, rfl⟩
  rw [sh_let_eq ex2] at h
  obtain ⟨k3, h⟩ := sh_chk h
  obtain ⟨x4, ex4⟩ : ∃ y : Int64, y = (sh_l μ 366 (((sh_i μ 291 109) - 2)).toNatClampNeg) := ⟨_, rfl⟩
  rw [sh_let_eq ex4] at h
  obtain ⟨μ5, eμ5⟩ : ∃ y : sh_Mem, y = (sh_setI μ 291 109 ((sh_i μ 291 109) - 2)) := ⟨_, rfl⟩
  rw [sh_let_eq eμ5] at h
  have hG5 : sh_G μ5 := by rw [eμ5]; exact hG
  by_cases c6 : a1 = 1
  · rw [if_pos c6] at h
    obtain ⟨μ7, hr8, h⟩ := sh_bindv_e h
    have hG7 := gp_X12_qPuts hG5 hr8
    have e2 := Option.some.inj h
    exact e2 ▸ hG7
  rw [if_neg c6] at h
  by_cases c10 : a1 = 2
  · rw [if_pos c10] at h
    obtain ⟨μ11, hr12, h⟩ := sh_bindv_e h
    have hG11 := gp_X12_qPuts hG5 hr12
    have e2 := Option.some.inj h
    exact e2 ▸ hG11
  rw [if_neg c10] at h
  by_cases c14 : a1 = 3
  · rw [if_pos c14] at h
    obtain ⟨μ15, hr16, h⟩ := sh_bindv_e h
    have hG15 := gp_X12_qPuts hG5 hr16
    have e2 := Option.some.inj h
    exact e2 ▸ hG15
  rw [if_neg c14] at h
  by_cases c18 : a1 = 4
  · rw [if_pos c18] at h
    obtain ⟨y21, μ19, hr20, h⟩ := sh_bind_e h
    have hG19 := gp_X12_qFloor hG5 hr20
    obtain ⟨μ22, hr23, h⟩ := sh_bindv_e h
    have hG22 := gp_X12_qPuts hG19 hr23
    have e2 := Option.some.inj h
    exact e2 ▸ hG22
  rw [if_neg c18] at h
  by_cases c25 : a1 = 5
  · rw [if_pos c25] at h
    by_cases c26 : 0 ≤ (lg_cmp x4 x2)
    · rw [if_pos c26] at h
      obtain ⟨μ27, hr28, h⟩ := sh_bindv_e h
      have hG27 := gp_X12_qPuts hG5 hr28
      have e2 := Option.some.inj h
      exact e2 ▸ hG27
    · rw [if_neg c26] at h
      obtain ⟨μ30, hr31, h⟩ := sh_bindv_e h
      have hG30 := gp_X12_qPuts hG5 hr31
      have e2 := Option.some.inj h
      exact e2 ▸ hG30
  rw [if_neg c25] at h
  by_cases c33 : a1 = 6
  · rw [if_pos c33] at h
    by_cases c34 : (lg_cmp x4 x2) ≤ 0
    · rw [if_pos c34] at h
      obtain ⟨μ35, hr36, h⟩ := sh_bindv_e h
      have hG35 := gp_X12_qPuts hG5 hr36
      have e2 := Option.some.inj h
      exact e2 ▸ hG35
    · rw [if_neg c34] at h
      obtain ⟨μ38, hr39, h⟩ := sh_bindv_e h
      have hG38 := gp_X12_qPuts hG5 hr39
      have e2 := Option.some.inj h
      exact e2 ▸ hG38
  rw [if_neg c33] at h
  by_cases c41 : a1 = 7
  · rw [if_pos c41] at h
    by_cases c42 : 0 ≤ (lg_cmp x4 x2)
    · rw [if_pos c42] at h
      obtain ⟨μ43, hr44, h⟩ := sh_bindv_e h
      have hG43 := gp_X12_qPuts hG5 hr44
      have e2 := Option.some.inj h
      exact e2 ▸ hG43
    · rw [if_neg c42] at h
      obtain ⟨μ46, hr47, h⟩ := sh_bindv_e h
      have hG46 := gp_X12_qPuts hG5 hr47
      have e2 := Option.some.inj h
      exact e2 ▸ hG46
  rw [if_neg c41] at h
  by_cases c49 : a1 = 8
  · rw [if_pos c49] at h
    by_cases c50 : (lg_cmp x4 x2) ≤ 0
    · rw [if_pos c50] at h
      obtain ⟨μ51, hr52, h⟩ := sh_bindv_e h
      have hG51 := gp_X12_qPuts hG5 hr52
      have e2 := Option.some.inj h
      exact e2 ▸ hG51
    · rw [if_neg c50] at h
      obtain ⟨μ54, hr55, h⟩ := sh_bindv_e h
      have hG54 := gp_X12_qPuts hG5 hr55
      have e2 := Option.some.inj h
      exact e2 ▸ hG54
  rw [if_neg c49] at h
  by_cases c57 : a1 = 9
  · rw [if_pos c57] at h
    by_cases c58 : (lg_cmp x4 x2) = 0
    · rw [if_pos c58] at h
      obtain ⟨μ62, hr63, h⟩ := sh_bindv_e h
      have hG62 := gp_X12_qPuts hG5 hr63
      have e2 := Option.some.inj h
      exact e2 ▸ hG62
    · rw [if_neg c58] at h
      obtain ⟨μ59, hr60, h⟩ := sh_bindv_e h
      have hG59 := gp_X12_qPuts hG5 hr60
      have e2 := Option.some.inj h
      exact e2 ▸ hG59
  rw [if_neg c57] at h
  by_cases c65 : a1 = 10
  · rw [if_pos c65] at h
    obtain ⟨μ66, hr67, h⟩ := sh_bindv_e h
    have hG66 := gp_X12_qPuts hG5 hr67
    have e2 := Option.some.inj h
    exact e2 ▸ hG66
  rw [if_neg c65] at h
  by_cases c69 : (lg_cmp (x4 + x2) 0) ≤ 0
  · rw [if_pos c69] at h
    obtain ⟨μ70, hr71, h⟩ := sh_bindv_e h
    have hG70 := gp_X12_qPuts hG5 hr71
    have e2 := Option.some.inj h
    exact e2 ▸ hG70
  · rw [if_neg c69] at h
    obtain ⟨μ73, hr74, h⟩ := sh_bindv_e h
    have hG73 := gp_X12_qPuts hG5 hr74
    have e2 := Option.some.inj h
    exact e2 ▸ hG73
theorem t_X12_qJoins {a1 : Int32} {μ μ' : sh_Mem} (hG : sh_G μ) (h : f_X12_qJoins a1 μ = some μ') : sh_C0 l B D ca 2 M_X12_qJoins [.ref 291, .int a1] μ (fun v0 μ0 => v0 = none ∧ μ0 = μ') := by
  unfold f_X12_qJoins at h
  refine vv_aload_n 0 0 dX12_qJoins_0 rfl rfl ?_
  refine vv_getR 1 dX12_qJoins_1 fl_12_242 rfl (g_l_291 hG) (g_r_291_108 hG) ?_
  refine vv_aload_n 4 0 dX12_qJoins_4 rfl rfl ?_
  refine vv_getI 5 dX12_qJoins_5 fl_12_420 rfl (g_l_291 hG) ?_
  refine vv_iconst 8 dX12_qJoins_8 ik_1 ?_
  refine vv_isub 9 dX12_qJoins_9 ?_
  obtain ⟨k1, h⟩ := sh_chk h
  refine vv_lald 10 dX12_qJoins_10 (g_l_366 hG) k1 ?_
  refine vv_topl (fun x2 ex2 => ?_)
  rw [sh_let_eq ex2] at h
  refine vv_lstore_n (lv' := [(2, _), (0, _), (1, _)]) 11 2 dX12_qJoins_11 rfl (by decide) rfl ?_
  refine vv_aload_n 12 0 dX12_qJoins_12 rfl rfl ?_
  refine vv_getR 13 dX12_qJoins_13 fl_12_242 rfl (g_l_291 hG) (g_r_291_108 hG) ?_
  refine vv_aload_n 16 0 dX12_qJoins_16 rfl rfl ?_
  refine vv_getI 17 dX12_qJoins_17 fl_12_420 rfl (g_l_291 hG) ?_
  refine vv_iconst 20 dX12_qJoins_20 ik_2 ?_
  refine vv_isub 21 dX12_qJoins_21 ?_
  obtain ⟨k3, h⟩ := sh_chk h
  refine vv_lald 22 dX12_qJoins_22 (g_l_366 hG) k3 ?_
  refine vv_topl (fun x4 ex4 => ?_)
  rw [sh_let_eq ex4] at h
  refine vv_lstore (lv' := [(4, _), (2, _), (0, _), (1, _)]) 23 4 dX12_qJoins_23 (by decide) rfl ?_
  refine vv_aload_n 25 0 dX12_qJoins_25 rfl rfl ?_
  refine vv_dup_ref 26 dX12_qJoins_26 ?_
  refine vv_getI 27 dX12_qJoins_27 fl_12_420 rfl (g_l_291 hG) ?_
  refine vv_iconst 30 dX12_qJoins_30 ik_2 ?_
  refine vv_isub 31 dX12_qJoins_31 ?_
  refine vn_putI 32 dX12_qJoins_32 fl_12_420 (Or.inl rfl) rfl (g_l_291 hG) (fun μ5 eμ5 => ?_)
  rw [sh_let_eq eμ5] at h
  have hG5 : sh_G μ5 := by rw [eμ5]; exact hG
  refine vv_iload_n 35 1 dX12_qJoins_35 rfl rfl ?_
  by_cases c6 : a1 = 1
  · rw [if_pos c6] at h
    refine vv_tabIn 36 92 dX12_qJoins_36 (by rw [c6]; decide) (by rw [c6]; decide) (off := 56) (by rw [c6]; decide) (by decide) ?_
    refine vv_aload_n 92 0 dX12_qJoins_92 rfl rfl ?_
    refine vv_lload 93 4 dX12_qJoins_93 rfl ?_
    refine vv_lload_n 95 2 dX12_qJoins_95 rfl rfl ?_
    refine vv_ladd 96 dX12_qJoins_96 ?_
    refine v1_callS [_] 97 dX12_qJoins_97 ck_X12_700 (c_X12_qClip (μ := μ5) hG5) (Nat.le_of_ble_eq_true rfl) ⟨Nat.le_of_ble_eq_true rfl, Nat.le_of_ble_eq_true rfl⟩ rfl (Nat.le_of_ble_eq_true rfl) ?_
    obtain ⟨μ7, hr8, h⟩ := sh_bindv_e h
    refine v1_callV [_] 100 dX12_qJoins_100 ck_X12_423 (g_l_291 hG5) ⟨by decide, rfl⟩ (t_X12_qPuts hG5 hr8) (Nat.le_of_ble_eq_true rfl) ⟨Nat.le_of_ble_eq_true rfl, Nat.le_of_ble_eq_true rfl⟩ rfl (Nat.le_of_ble_eq_true rfl) ?_
    have hG7 := gp_X12_qPuts hG5 hr8
    refine vv_goto 103 273 dX12_qJoins_103 (by decide) ?_
    have e2 := Option.some.inj h
    refine vv_vret 273 dX12_qJoins_273 rfl (Nat.le_refl _) (Nat.le_refl _) ⟨rfl, e2⟩
  rw [if_neg c6] at h
  by_cases c10 : a1 = 2
  · rw [if_pos c10] at h
    refine vv_tabIn 36 106 dX12_qJoins_36 (by rw [c10]; decide) (by rw [c10]; decide) (off := 70) (by rw [c10]; decide) (by decide) ?_
    refine vv_aload_n 106 0 dX12_qJoins_106 rfl rfl ?_
    refine vv_lload 107 4 dX12_qJoins_107 rfl ?_
    refine vv_lload_n 109 2 dX12_qJoins_109 rfl rfl ?_
    refine vv_lsub 110 dX12_qJoins_110 ?_
    refine v1_callS [_] 111 dX12_qJoins_111 ck_X12_700 (c_X12_qClip (μ := μ5) hG5) (Nat.le_of_ble_eq_true rfl) ⟨Nat.le_of_ble_eq_true rfl, Nat.le_of_ble_eq_true rfl⟩ rfl (Nat.le_of_ble_eq_true rfl) ?_
    obtain ⟨μ11, hr12, h⟩ := sh_bindv_e h
    refine v1_callV [_] 114 dX12_qJoins_114 ck_X12_423 (g_l_291 hG5) ⟨by decide, rfl⟩ (t_X12_qPuts hG5 hr12) (Nat.le_of_ble_eq_true rfl) ⟨Nat.le_of_ble_eq_true rfl, Nat.le_of_ble_eq_true rfl⟩ rfl (Nat.le_of_ble_eq_true rfl) ?_
    have hG11 := gp_X12_qPuts hG5 hr12
    refine vv_goto 117 273 dX12_qJoins_117 (by decide) ?_
    have e2 := Option.some.inj h
    refine vv_vret 273 dX12_qJoins_273 rfl (Nat.le_refl _) (Nat.le_refl _) ⟨rfl, e2⟩
  rw [if_neg c10] at h
  by_cases c14 : a1 = 3
  · rw [if_pos c14] at h
    refine vv_tabIn 36 120 dX12_qJoins_36 (by rw [c14]; decide) (by rw [c14]; decide) (off := 84) (by rw [c14]; decide) (by decide) ?_
    refine vv_aload_n 120 0 dX12_qJoins_120 rfl rfl ?_
    refine vv_lload 121 4 dX12_qJoins_121 rfl ?_
    refine vv_lload_n 123 2 dX12_qJoins_123 rfl rfl ?_
    refine vv_lmul 124 dX12_qJoins_124 ?_
    refine v1_callS [_] 125 dX12_qJoins_125 ck_X12_700 (c_X12_qClip (μ := μ5) hG5) (Nat.le_of_ble_eq_true rfl) ⟨Nat.le_of_ble_eq_true rfl, Nat.le_of_ble_eq_true rfl⟩ rfl (Nat.le_of_ble_eq_true rfl) ?_
    obtain ⟨μ15, hr16, h⟩ := sh_bindv_e h
    refine v1_callV [_] 128 dX12_qJoins_128 ck_X12_423 (g_l_291 hG5) ⟨by decide, rfl⟩ (t_X12_qPuts hG5 hr16) (Nat.le_of_ble_eq_true rfl) ⟨Nat.le_of_ble_eq_true rfl, Nat.le_of_ble_eq_true rfl⟩ rfl (Nat.le_of_ble_eq_true rfl) ?_
    have hG15 := gp_X12_qPuts hG5 hr16
    refine vv_goto 131 273 dX12_qJoins_131 (by decide) ?_
    have e2 := Option.some.inj h
    refine vv_vret 273 dX12_qJoins_273 rfl (Nat.le_refl _) (Nat.le_refl _) ⟨rfl, e2⟩
  rw [if_neg c14] at h
  by_cases c18 : a1 = 4
  · rw [if_pos c18] at h
    refine vv_tabIn 36 134 dX12_qJoins_36 (by rw [c18]; decide) (by rw [c18]; decide) (off := 98) (by rw [c18]; decide) (by decide) ?_
    refine vv_aload_n 134 0 dX12_qJoins_134 rfl rfl ?_
    refine vv_lload 135 4 dX12_qJoins_135 rfl ?_
    refine vv_lload_n 137 2 dX12_qJoins_137 rfl rfl ?_
    obtain ⟨y21, μ19, hr20, h⟩ := sh_bind_e h
    refine v1_callS [_, _] 138 dX12_qJoins_138 ck_X12_704 (t_X12_qFloor hG5 hr20) (Nat.le_of_ble_eq_true rfl) ⟨Nat.le_of_ble_eq_true rfl, Nat.le_of_ble_eq_true rfl⟩ rfl (Nat.le_of_ble_eq_true rfl) ?_
    have hG19 := gp_X12_qFloor hG5 hr20
    obtain ⟨μ22, hr23, h⟩ := sh_bindv_e h
    refine v1_callV [_] 141 dX12_qJoins_141 ck_X12_423 (g_l_291 hG19) ⟨by decide, rfl⟩ (t_X12_qPuts hG19 hr23) (Nat.le_of_ble_eq_true rfl) ⟨Nat.le_of_ble_eq_true rfl, Nat.le_of_ble_eq_true rfl⟩ rfl (Nat.le_of_ble_eq_true rfl) ?_
    have hG22 := gp_X12_qPuts hG19 hr23
    refine vv_goto 144 273 dX12_qJoins_144 (by decide) ?_
    have e2 := Option.some.inj h
    refine vv_vret 273 dX12_qJoins_273 rfl (Nat.le_refl _) (Nat.le_refl _) ⟨rfl, e2⟩
  rw [if_neg c18] at h
  by_cases c25 : a1 = 5
  · rw [if_pos c25] at h
    refine vv_tabIn 36 147 dX12_qJoins_36 (by rw [c25]; decide) (by rw [c25]; decide) (off := 111) (by rw [c25]; decide) (by decide) ?_
    refine vv_aload_n 147 0 dX12_qJoins_147 rfl rfl ?_
    refine vv_lload 148 4 dX12_qJoins_148 rfl ?_
    refine vv_lload_n 150 2 dX12_qJoins_150 rfl rfl ?_
    refine vv_lcmp 151 dX12_qJoins_151 ?_
    refine vv_if_ge 152 160 dX12_qJoins_152 (by decide) (fun c26 => ?_) (fun c26 => ?_)
    · rw [if_pos c26] at h
      refine vv_lload_n 160 2 dX12_qJoins_160 rfl rfl ?_
      obtain ⟨μ27, hr28, h⟩ := sh_bindv_e h
      refine v1_callV [_] 161 dX12_qJoins_161 ck_X12_423 (g_l_291 hG5) ⟨by decide, rfl⟩ (t_X12_qPuts hG5 hr28) (Nat.le_of_ble_eq_true rfl) ⟨Nat.le_of_ble_eq_true rfl, Nat.le_of_ble_eq_true rfl⟩ rfl (Nat.le_of_ble_eq_true rfl) ?_
      have hG27 := gp_X12_qPuts hG5 hr28
      refine vv_goto 164 273 dX12_qJoins_164 (by decide) ?_
      have e2 := Option.some.inj h
      refine vv_vret 273 dX12_qJoins_273 rfl (Nat.le_refl _) (Nat.le_refl _) ⟨rfl, e2⟩
    · rw [if_neg c26] at h
      refine vv_lload 155 4 dX12_qJoins_155 rfl ?_
      refine vv_goto 157 161 dX12_qJoins_157 (by decide) ?_
      obtain ⟨μ30, hr31, h⟩ := sh_bindv_e h
      refine v1_callV [_] 161 dX12_qJoins_161 ck_X12_423 (g_l_291 hG5) ⟨by decide, rfl⟩ (t_X12_qPuts hG5 hr31) (Nat.le_of_ble_eq_true rfl) ⟨Nat.le_of_ble_eq_true rfl, Nat.le_of_ble_eq_true rfl⟩ rfl (Nat.le_of_ble_eq_true rfl) ?_
      have hG30 := gp_X12_qPuts hG5 hr31
      refine vv_goto 164 273 dX12_qJoins_164 (by decide) ?_
      have e2 := Option.some.inj h
      refine vv_vret 273 dX12_qJoins_273 rfl (Nat.le_refl _) (Nat.le_refl _) ⟨rfl, e2⟩
  rw [if_neg c25] at h
  by_cases c33 : a1 = 6
  · rw [if_pos c33] at h
    refine vv_tabIn 36 167 dX12_qJoins_36 (by rw [c33]; decide) (by rw [c33]; decide) (off := 131) (by rw [c33]; decide) (by decide) ?_
    refine vv_aload_n 167 0 dX12_qJoins_167 rfl rfl ?_
    refine vv_lload 168 4 dX12_qJoins_168 rfl ?_
    refine vv_lload_n 170 2 dX12_qJoins_170 rfl rfl ?_
    refine vv_lcmp 171 dX12_qJoins_171 ?_
    refine vv_if_le 172 180 dX12_qJoins_172 (by decide) (fun c34 => ?_) (fun c34 => ?_)
    · rw [if_pos c34] at h
      refine vv_lload_n 180 2 dX12_qJoins_180 rfl rfl ?_
      obtain ⟨μ35, hr36, h⟩ := sh_bindv_e h
      refine v1_callV [_] 181 dX12_qJoins_181 ck_X12_423 (g_l_291 hG5) ⟨by decide, rfl⟩ (t_X12_qPuts hG5 hr36) (Nat.le_of_ble_eq_true rfl) ⟨Nat.le_of_ble_eq_true rfl, Nat.le_of_ble_eq_true rfl⟩ rfl (Nat.le_of_ble_eq_true rfl) ?_
      have hG35 := gp_X12_qPuts hG5 hr36
      refine vv_goto 184 273 dX12_qJoins_184 (by decide) ?_
      have e2 := Option.some.inj h
      refine vv_vret 273 dX12_qJoins_273 rfl (Nat.le_refl _) (Nat.le_refl _) ⟨rfl, e2⟩
    · rw [if_neg c34] at h
      refine vv_lload 175 4 dX12_qJoins_175 rfl ?_
      refine vv_goto 177 181 dX12_qJoins_177 (by decide) ?_
      obtain ⟨μ38, hr39, h⟩ := sh_bindv_e h
      refine v1_callV [_] 181 dX12_qJoins_181 ck_X12_423 (g_l_291 hG5) ⟨by decide, rfl⟩ (t_X12_qPuts hG5 hr39) (Nat.le_of_ble_eq_true rfl) ⟨Nat.le_of_ble_eq_true rfl, Nat.le_of_ble_eq_true rfl⟩ rfl (Nat.le_of_ble_eq_true rfl) ?_
      have hG38 := gp_X12_qPuts hG5 hr39
      refine vv_goto 184 273 dX12_qJoins_184 (by decide) ?_
      have e2 := Option.some.inj h
      refine vv_vret 273 dX12_qJoins_273 rfl (Nat.le_refl _) (Nat.le_refl _) ⟨rfl, e2⟩
  rw [if_neg c33] at h
  by_cases c41 : a1 = 7
  · rw [if_pos c41] at h
    refine vv_tabIn 36 187 dX12_qJoins_36 (by rw [c41]; decide) (by rw [c41]; decide) (off := 151) (by rw [c41]; decide) (by decide) ?_
    refine vv_aload_n 187 0 dX12_qJoins_187 rfl rfl ?_
    refine vv_lload 188 4 dX12_qJoins_188 rfl ?_
    refine vv_lload_n 190 2 dX12_qJoins_190 rfl rfl ?_
    refine vv_lcmp 191 dX12_qJoins_191 ?_
    refine vv_if_ge 192 199 dX12_qJoins_192 (by decide) (fun c42 => ?_) (fun c42 => ?_)
    · rw [if_pos c42] at h
      refine vv_lconst 199 dX12_qJoins_199 lk_0 ?_
      obtain ⟨μ43, hr44, h⟩ := sh_bindv_e h
      refine v1_callV [_] 200 dX12_qJoins_200 ck_X12_423 (g_l_291 hG5) ⟨by decide, rfl⟩ (t_X12_qPuts hG5 hr44) (Nat.le_of_ble_eq_true rfl) ⟨Nat.le_of_ble_eq_true rfl, Nat.le_of_ble_eq_true rfl⟩ rfl (Nat.le_of_ble_eq_true rfl) ?_
      have hG43 := gp_X12_qPuts hG5 hr44
      refine vv_goto 203 273 dX12_qJoins_203 (by decide) ?_
      have e2 := Option.some.inj h
      refine vv_vret 273 dX12_qJoins_273 rfl (Nat.le_refl _) (Nat.le_refl _) ⟨rfl, e2⟩
    · rw [if_neg c42] at h
      refine vv_lconst 195 dX12_qJoins_195 lk_1 ?_
      refine vv_goto 196 200 dX12_qJoins_196 (by decide) ?_
      obtain ⟨μ46, hr47, h⟩ := sh_bindv_e h
      refine v1_callV [_] 200 dX12_qJoins_200 ck_X12_423 (g_l_291 hG5) ⟨by decide, rfl⟩ (t_X12_qPuts hG5 hr47) (Nat.le_of_ble_eq_true rfl) ⟨Nat.le_of_ble_eq_true rfl, Nat.le_of_ble_eq_true rfl⟩ rfl (Nat.le_of_ble_eq_true rfl) ?_
      have hG46 := gp_X12_qPuts hG5 hr47
      refine vv_goto 203 273 dX12_qJoins_203 (by decide) ?_
      have e2 := Option.some.inj h
      refine vv_vret 273 dX12_qJoins_273 rfl (Nat.le_refl _) (Nat.le_refl _) ⟨rfl, e2⟩
  rw [if_neg c41] at h
  by_cases c49 : a1 = 8
  · rw [if_pos c49] at h
    refine vv_tabIn 36 206 dX12_qJoins_36 (by rw [c49]; decide) (by rw [c49]; decide) (off := 170) (by rw [c49]; decide) (by decide) ?_
    refine vv_aload_n 206 0 dX12_qJoins_206 rfl rfl ?_
    refine vv_lload 207 4 dX12_qJoins_207 rfl ?_
    refine vv_lload_n 209 2 dX12_qJoins_209 rfl rfl ?_
    refine vv_lcmp 210 dX12_qJoins_210 ?_
    refine vv_if_le 211 218 dX12_qJoins_211 (by decide) (fun c50 => ?_) (fun c50 => ?_)
    · rw [if_pos c50] at h
      refine vv_lconst 218 dX12_qJoins_218 lk_0 ?_
      obtain ⟨μ51, hr52, h⟩ := sh_bindv_e h
      refine v1_callV [_] 219 dX12_qJoins_219 ck_X12_423 (g_l_291 hG5) ⟨by decide, rfl⟩ (t_X12_qPuts hG5 hr52) (Nat.le_of_ble_eq_true rfl) ⟨Nat.le_of_ble_eq_true rfl, Nat.le_of_ble_eq_true rfl⟩ rfl (Nat.le_of_ble_eq_true rfl) ?_
      have hG51 := gp_X12_qPuts hG5 hr52
      refine vv_goto 222 273 dX12_qJoins_222 (by decide) ?_
      have e2 := Option.some.inj h
      refine vv_vret 273 dX12_qJoins_273 rfl (Nat.le_refl _) (Nat.le_refl _) ⟨rfl, e2⟩
    · rw [if_neg c50] at h
      refine vv_lconst 214 dX12_qJoins_214 lk_1 ?_
      refine vv_goto 215 219 dX12_qJoins_215 (by decide) ?_
      obtain ⟨μ54, hr55, h⟩ := sh_bindv_e h
      refine v1_callV [_] 219 dX12_qJoins_219 ck_X12_423 (g_l_291 hG5) ⟨by decide, rfl⟩ (t_X12_qPuts hG5 hr55) (Nat.le_of_ble_eq_true rfl) ⟨Nat.le_of_ble_eq_true rfl, Nat.le_of_ble_eq_true rfl⟩ rfl (Nat.le_of_ble_eq_true rfl) ?_
      have hG54 := gp_X12_qPuts hG5 hr55
      refine vv_goto 222 273 dX12_qJoins_222 (by decide) ?_
      have e2 := Option.some.inj h
      refine vv_vret 273 dX12_qJoins_273 rfl (Nat.le_refl _) (Nat.le_refl _) ⟨rfl, e2⟩
  rw [if_neg c49] at h
  by_cases c57 : a1 = 9
  · rw [if_pos c57] at h
    refine vv_tabIn 36 225 dX12_qJoins_36 (by rw [c57]; decide) (by rw [c57]; decide) (off := 189) (by rw [c57]; decide) (by decide) ?_
    refine vv_aload_n 225 0 dX12_qJoins_225 rfl rfl ?_
    refine vv_lload 226 4 dX12_qJoins_226 rfl ?_
    refine vv_lload_n 228 2 dX12_qJoins_228 rfl rfl ?_
    refine vv_lcmp 229 dX12_qJoins_229 ?_
    refine vv_if_ne 230 237 dX12_qJoins_230 (by decide) (fun c58 => ?_) (fun c58 => ?_)
    · rw [if_neg c58] at h
      refine vv_lconst 237 dX12_qJoins_237 lk_0 ?_
      obtain ⟨μ59, hr60, h⟩ := sh_bindv_e h
      refine v1_callV [_] 238 dX12_qJoins_238 ck_X12_423 (g_l_291 hG5) ⟨by decide, rfl⟩ (t_X12_qPuts hG5 hr60) (Nat.le_of_ble_eq_true rfl) ⟨Nat.le_of_ble_eq_true rfl, Nat.le_of_ble_eq_true rfl⟩ rfl (Nat.le_of_ble_eq_true rfl) ?_
      have hG59 := gp_X12_qPuts hG5 hr60
      refine vv_goto 241 273 dX12_qJoins_241 (by decide) ?_
      have e2 := Option.some.inj h
      refine vv_vret 273 dX12_qJoins_273 rfl (Nat.le_refl _) (Nat.le_refl _) ⟨rfl, e2⟩
    · rw [if_pos c58] at h
      refine vv_lconst 233 dX12_qJoins_233 lk_1 ?_
      refine vv_goto 234 238 dX12_qJoins_234 (by decide) ?_
      obtain ⟨μ62, hr63, h⟩ := sh_bindv_e h
      refine v1_callV [_] 238 dX12_qJoins_238 ck_X12_423 (g_l_291 hG5) ⟨by decide, rfl⟩ (t_X12_qPuts hG5 hr63) (Nat.le_of_ble_eq_true rfl) ⟨Nat.le_of_ble_eq_true rfl, Nat.le_of_ble_eq_true rfl⟩ rfl (Nat.le_of_ble_eq_true rfl) ?_
      have hG62 := gp_X12_qPuts hG5 hr63
      refine vv_goto 241 273 dX12_qJoins_241 (by decide) ?_
      have e2 := Option.some.inj h
      refine vv_vret 273 dX12_qJoins_273 rfl (Nat.le_refl _) (Nat.le_refl _) ⟨rfl, e2⟩
  rw [if_neg c57] at h
  by_cases c65 : a1 = 10
  · rw [if_pos c65] at h
    refine vv_tabIn 36 244 dX12_qJoins_36 (by rw [c65]; decide) (by rw [c65]; decide) (off := 208) (by rw [c65]; decide) (by decide) ?_
    refine vv_aload_n 244 0 dX12_qJoins_244 rfl rfl ?_
    refine vv_lload 245 4 dX12_qJoins_245 rfl ?_
    refine vv_lload_n 247 2 dX12_qJoins_247 rfl rfl ?_
    refine vv_lmul 248 dX12_qJoins_248 ?_
    obtain ⟨μ66, hr67, h⟩ := sh_bindv_e h
    refine v1_callV [_] 249 dX12_qJoins_249 ck_X12_423 (g_l_291 hG5) ⟨by decide, rfl⟩ (t_X12_qPuts hG5 hr67) (Nat.le_of_ble_eq_true rfl) ⟨Nat.le_of_ble_eq_true rfl, Nat.le_of_ble_eq_true rfl⟩ rfl (Nat.le_of_ble_eq_true rfl) ?_
    have hG66 := gp_X12_qPuts hG5 hr67
    refine vv_goto 252 273 dX12_qJoins_252 (by decide) ?_
    have e2 := Option.some.inj h
    refine vv_vret 273 dX12_qJoins_273 rfl (Nat.le_refl _) (Nat.le_refl _) ⟨rfl, e2⟩
  rw [if_neg c65] at h
  refine vv_tabOut 36 255 dX12_qJoins_36 (sh_tout 1 10 (by intro j h1 h2; rcases (show j = 1 ∨ j = 2 ∨ j = 3 ∨ j = 4 ∨ j = 5 ∨ j = 6 ∨ j = 7 ∨ j = 8 ∨ j = 9 ∨ j = 10 by omega) with rfl | rfl | rfl | rfl | rfl | rfl | rfl | rfl | rfl | rfl <;> first | exact sh_lne c6 (by decide) | exact sh_lne c10 (by decide) | exact sh_lne c14 (by decide) | exact sh_lne c18 (by decide) | exact sh_lne c25 (by decide) | exact sh_lne c33 (by decide) | exact sh_lne c41 (by decide) | exact sh_lne c49 (by decide) | exact sh_lne c57 (by decide) | exact sh_lne c65 (by decide))) (by decide) ?_
  refine vv_aload_n 255 0 dX12_qJoins_255 rfl rfl ?_
  refine vv_lload 256 4 dX12_qJoins_256 rfl ?_
  refine vv_lload_n 258 2 dX12_qJoins_258 rfl rfl ?_
  refine vv_ladd 259 dX12_qJoins_259 ?_
  refine vv_lconst 260 dX12_qJoins_260 lk_0 ?_
  refine vv_lcmp 261 dX12_qJoins_261 ?_
  refine vv_if_le 262 269 dX12_qJoins_262 (by decide) (fun c69 => ?_) (fun c69 => ?_)
  · rw [if_pos c69] at h
    refine vv_lconst 269 dX12_qJoins_269 lk_0 ?_
    obtain ⟨μ70, hr71, h⟩ := sh_bindv_e h
    refine v1_callV [_] 270 dX12_qJoins_270 ck_X12_423 (g_l_291 hG5) ⟨by decide, rfl⟩ (t_X12_qPuts hG5 hr71) (Nat.le_of_ble_eq_true rfl) ⟨Nat.le_of_ble_eq_true rfl, Nat.le_of_ble_eq_true rfl⟩ rfl (Nat.le_of_ble_eq_true rfl) ?_
    have hG70 := gp_X12_qPuts hG5 hr71
    have e2 := Option.some.inj h
    refine vv_vret 273 dX12_qJoins_273 rfl (Nat.le_refl _) (Nat.le_refl _) ⟨rfl, e2⟩
  · rw [if_neg c69] at h
    refine vv_lconst 265 dX12_qJoins_265 lk_1 ?_
    refine vv_goto 266 270 dX12_qJoins_266 (by decide) ?_
    obtain ⟨μ73, hr74, h⟩ := sh_bindv_e h
    refine v1_callV [_] 270 dX12_qJoins_270 ck_X12_423 (g_l_291 hG5) ⟨by decide, rfl⟩ (t_X12_qPuts hG5 hr74) (Nat.le_of_ble_eq_true rfl) ⟨Nat.le_of_ble_eq_true rfl, Nat.le_of_ble_eq_true rfl⟩ rfl (Nat.le_of_ble_eq_true rfl) ?_
    have hG73 := gp_X12_qPuts hG5 hr74
    have e2 := Option.some.inj h
    refine vv_vret 273 dX12_qJoins_273 rfl (Nat.le_refl _) (Nat.le_refl _) ⟨rfl, e2⟩
noncomputable def f_X12_qPartOf (a1 : Int32) (a2 : Int32) (μ : sh_Mem) : Option (Int64 × sh_Mem) := (if a1 = 0 then sh_bind (f_X12_tiredOf (sh_i μ 291 54) μ) (fun y4 μ2 => some ((y4).toInt64, μ2)) else (if a1 = 1 then sh_bind (f_X12_cellOf (sh_i μ 291 54) μ) (fun y8 μ6 => sh_bind (f_X12_heightOf y8 μ6) (fun y11 μ9 => some ((y11).toInt64, μ9))) else (if a1 = 2 then sh_bind (f_X12_knowsOf (sh_i μ 291 54) μ) (fun y15 μ13 => sh_bind (f_X12_bits y15 μ13) (fun y18 μ16 => some ((y18).toInt64, μ16))) else (if a1 = 3 then some (((sh_i μ 330 (Int32.toNatClampNeg 0))).toInt64, μ) else (if a1 = 4 then some (((sh_i μ 291 55)).toInt64, μ) else (if a1 = 5 then some (((sh_i μ 291 56)).toInt64, μ) else (if a1 = 6 then some (((sh_i μ 291 54)).toInt64, μ) else (if a1 = 7 then sh_bind (f_X12_cellOf (sh_i μ 291 54) μ) (fun y26 μ24 => some (((y26 - y26 / 7 * 7)).toInt64, μ24)) else sh_bind (f_X12_cellOf (sh_i μ 291 54) μ) (fun y29 μ27 => some (((y29 / 7)).toInt64, μ27))))))))))
theorem gp_X12_qPartOf {a1 : Int32} {a2 : Int32} {μ μ' : sh_Mem} {v : Int64} (hG : sh_G μ) (h : f_X12_qPartOf a1 a2 μ = some (v, μ')) : sh_G μ' := by
  unfold f_X12_qPartOf at h
  by_cases c1 : a1 = 0
  · rw [if_pos c1] at h
    obtain ⟨y4, μ2, hr3, h⟩ := sh_bind_e h
    have hG2 := gp_X12_tiredOf hG hr3
    obtain ⟨e1, e2⟩ := sh_some2 h
    exact e2 ▸ hG2
  rw [if_neg c1] at h
  by_cases c5 : a1 = 1
  · rw [if_pos c5] at h
    obtain ⟨y8, μ6, hr7, h⟩ := sh_bind_e h
    have hG6 := gp_X12_cellOf hG hr7
    obtain ⟨y11, μ9, hr10, h⟩ := sh_bind_e h
    have hG9 := gp_X12_heightOf hG6 hr10
    obtain ⟨e1, e2⟩ := sh_some2 h
    exact e2 ▸ hG9
  rw [if_neg c5] at h
  by_cases c12 : a1 = 2
  · rw [if_pos c12] at h
    obtain ⟨y15, μ13, hr14, h⟩ := sh_bind_e h
    have hG13 := gp_X12_knowsOf hG hr14
    obtain ⟨y18, μ16, hr17, h⟩ := sh_bind_e h
    have hG16 := gp_X12_bits hG13 hr17
    obtain ⟨e1, e2⟩ := sh_some2 h
    exact e2 ▸ hG16
  rw [if_neg c12] at h
  by_cases c19 : a1 = 3
  · rw [if_pos c19] at h
    obtain ⟨e1, e2⟩ := sh_some2 h
    exact e2 ▸ hG
  rw [if_neg c19] at h
  by_cases c20 : a1 = 4
  · rw [if_pos c20] at h
    obtain ⟨e1, e2⟩ := sh_some2 h
    exact e2 ▸ hG
  rw [if_neg c20] at h
  by_cases c21 : a1 = 5
  · rw [if_pos c21] at h
    obtain ⟨e1, e2⟩ := sh_some2 h
    exact e2 ▸ hG
  rw [if_neg c21] at h
  by_cases c22 : a1 = 6
  · rw [if_pos c22] at h
    obtain ⟨e1, e2⟩ := sh_some2 h
    exact e2 ▸ hG
  rw [if_neg c22] at h
  by_cases c23 : a1 = 7
  · rw [if_pos c23] at h
    obtain ⟨y26, μ24, hr25, h⟩ := sh_bind_e h
    have hG24 := gp_X12_cellOf hG hr25
    obtain ⟨e1, e2⟩ := sh_some2 h
    exact e2 ▸ hG24
  rw [if_neg c23] at h
  obtain ⟨y29, μ27, hr28, h⟩ := sh_bind_e h
  have hG27 := gp_X12_cellOf hG hr28
  obtain ⟨e1, e2⟩ := sh_some2 h
  exact e2 ▸ hG27
theorem t_X12_qPartOf {a1 : Int32} {a2 : Int32} {μ μ' : sh_Mem} {v : Int64} (hG : sh_G μ) (h : f_X12_qPartOf a1 a2 μ = some (v, μ')) : sh_C0 l B D ca 2 M_X12_qPartOf [.ref 291, .int a1, .int a2] μ (fun v0 μ0 => v0 = some (.long v) ∧ μ0 = μ') := by
  unfold f_X12_qPartOf at h
  refine vv_iload_n 0 1 dX12_qPartOf_0 rfl rfl ?_
  by_cases c1 : a1 = 0
  · rw [if_pos c1] at h
    refine vv_tabIn 1 48 dX12_qPartOf_1 (by rw [c1]; decide) (by rw [c1]; decide) (off := 47) (by rw [c1]; decide) (by decide) ?_
    refine vv_aload_n 48 0 dX12_qPartOf_48 rfl rfl ?_
    refine vv_aload_n 49 0 dX12_qPartOf_49 rfl rfl ?_
    refine vv_getI 50 dX12_qPartOf_50 fl_12_427 rfl (g_l_291 hG) ?_
    obtain ⟨y4, μ2, hr3, h⟩ := sh_bind_e h
    refine v1_callV [_] 53 dX12_qPartOf_53 ck_X12_486 (g_l_291 hG) ⟨by decide, rfl⟩ (t_X12_tiredOf hG hr3) (Nat.le_of_ble_eq_true rfl) ⟨Nat.le_of_ble_eq_true rfl, Nat.le_of_ble_eq_true rfl⟩ rfl (Nat.le_of_ble_eq_true rfl) ?_
    have hG2 := gp_X12_tiredOf hG hr3
    refine vv_i2l 56 dX12_qPartOf_56 ?_
    obtain ⟨e1, e2⟩ := sh_some2 h
    refine vv_lret 57 dX12_qPartOf_57 rfl (Nat.le_refl _) (Nat.le_refl _) ⟨by rw [e1], e2⟩
  rw [if_neg c1] at h
  by_cases c5 : a1 = 1
  · rw [if_pos c5] at h
    refine vv_tabIn 1 58 dX12_qPartOf_1 (by rw [c5]; decide) (by rw [c5]; decide) (off := 57) (by rw [c5]; decide) (by decide) ?_
    refine vv_aload_n 58 0 dX12_qPartOf_58 rfl rfl ?_
    refine vv_aload_n 59 0 dX12_qPartOf_59 rfl rfl ?_
    refine vv_aload_n 60 0 dX12_qPartOf_60 rfl rfl ?_
    refine vv_getI 61 dX12_qPartOf_61 fl_12_427 rfl (g_l_291 hG) ?_
    obtain ⟨y8, μ6, hr7, h⟩ := sh_bind_e h
    refine v1_callV [_] 64 dX12_qPartOf_64 ck_X12_417 (g_l_291 hG) ⟨by decide, rfl⟩ (t_X12_cellOf hG hr7) (Nat.le_of_ble_eq_true rfl) ⟨Nat.le_of_ble_eq_true rfl, Nat.le_of_ble_eq_true rfl⟩ rfl (Nat.le_of_ble_eq_true rfl) ?_
    have hG6 := gp_X12_cellOf hG hr7
    obtain ⟨y11, μ9, hr10, h⟩ := sh_bind_e h
    refine v1_callV [_] 67 dX12_qPartOf_67 ck_X12_453 (g_l_291 hG6) ⟨by decide, rfl⟩ (t_X12_heightOf hG6 hr10) (Nat.le_of_ble_eq_true rfl) ⟨Nat.le_of_ble_eq_true rfl, Nat.le_of_ble_eq_true rfl⟩ rfl (Nat.le_of_ble_eq_true rfl) ?_
    have hG9 := gp_X12_heightOf hG6 hr10
    refine vv_i2l 70 dX12_qPartOf_70 ?_
    obtain ⟨e1, e2⟩ := sh_some2 h
    refine vv_lret 71 dX12_qPartOf_71 rfl (Nat.le_refl _) (Nat.le_refl _) ⟨by rw [e1], e2⟩
  rw [if_neg c5] at h
  by_cases c12 : a1 = 2
  · rw [if_pos c12] at h
    refine vv_tabIn 1 72 dX12_qPartOf_1 (by rw [c12]; decide) (by rw [c12]; decide) (off := 71) (by rw [c12]; decide) (by decide) ?_
    refine vv_aload_n 72 0 dX12_qPartOf_72 rfl rfl ?_
    refine vv_aload_n 73 0 dX12_qPartOf_73 rfl rfl ?_
    refine vv_getI 74 dX12_qPartOf_74 fl_12_427 rfl (g_l_291 hG) ?_
    obtain ⟨y15, μ13, hr14, h⟩ := sh_bind_e h
    refine v1_callV [_] 77 dX12_qPartOf_77 ck_X12_437 (g_l_291 hG) ⟨by decide, rfl⟩ (t_X12_knowsOf hG hr14) (Nat.le_of_ble_eq_true rfl) ⟨Nat.le_of_ble_eq_true rfl, Nat.le_of_ble_eq_true rfl⟩ rfl (Nat.le_of_ble_eq_true rfl) ?_
    have hG13 := gp_X12_knowsOf hG hr14
    obtain ⟨y18, μ16, hr17, h⟩ := sh_bind_e h
    refine v1_callS [_] 80 dX12_qPartOf_80 ck_X12_589 (t_X12_bits hG13 hr17) (Nat.le_of_ble_eq_true rfl) ⟨Nat.le_of_ble_eq_true rfl, Nat.le_of_ble_eq_true rfl⟩ rfl (Nat.le_of_ble_eq_true rfl) ?_
    have hG16 := gp_X12_bits hG13 hr17
    refine vv_i2l 83 dX12_qPartOf_83 ?_
    obtain ⟨e1, e2⟩ := sh_some2 h
    refine vv_lret 84 dX12_qPartOf_84 rfl (Nat.le_refl _) (Nat.le_refl _) ⟨by rw [e1], e2⟩
  rw [if_neg c12] at h
  by_cases c19 : a1 = 3
  · rw [if_pos c19] at h
    refine vv_tabIn 1 85 dX12_qPartOf_1 (by rw [c19]; decide) (by rw [c19]; decide) (off := 84) (by rw [c19]; decide) (by decide) ?_
    refine vv_aload_n 85 0 dX12_qPartOf_85 rfl rfl ?_
    refine vv_getR 86 dX12_qPartOf_86 fl_12_130 rfl (g_l_291 hG) (g_r_291_52 hG) ?_
    refine vv_iconst 89 dX12_qPartOf_89 ik_0 ?_
    refine vv_iald 90 dX12_qPartOf_90 (g_l_330 hG) (by unfold vp_in; decide) ?_
    refine vv_i2l 91 dX12_qPartOf_91 ?_
    obtain ⟨e1, e2⟩ := sh_some2 h
    refine vv_lret 92 dX12_qPartOf_92 rfl (Nat.le_refl _) (Nat.le_refl _) ⟨by rw [e1], e2⟩
  rw [if_neg c19] at h
  by_cases c20 : a1 = 4
  · rw [if_pos c20] at h
    refine vv_tabIn 1 93 dX12_qPartOf_1 (by rw [c20]; decide) (by rw [c20]; decide) (off := 92) (by rw [c20]; decide) (by decide) ?_
    refine vv_aload_n 93 0 dX12_qPartOf_93 rfl rfl ?_
    refine vv_getI 94 dX12_qPartOf_94 fl_12_440 rfl (g_l_291 hG) ?_
    refine vv_i2l 97 dX12_qPartOf_97 ?_
    obtain ⟨e1, e2⟩ := sh_some2 h
    refine vv_lret 98 dX12_qPartOf_98 rfl (Nat.le_refl _) (Nat.le_refl _) ⟨by rw [e1], e2⟩
  rw [if_neg c20] at h
  by_cases c21 : a1 = 5
  · rw [if_pos c21] at h
    refine vv_tabIn 1 99 dX12_qPartOf_1 (by rw [c21]; decide) (by rw [c21]; decide) (off := 98) (by rw [c21]; decide) (by decide) ?_
    refine vv_aload_n 99 0 dX12_qPartOf_99 rfl rfl ?_
    refine vv_getI 100 dX12_qPartOf_100 fl_12_456 rfl (g_l_291 hG) ?_
    refine vv_i2l 103 dX12_qPartOf_103 ?_
    obtain ⟨e1, e2⟩ := sh_some2 h
    refine vv_lret 104 dX12_qPartOf_104 rfl (Nat.le_refl _) (Nat.le_refl _) ⟨by rw [e1], e2⟩
  rw [if_neg c21] at h
  by_cases c22 : a1 = 6
  · rw [if_pos c22] at h
    refine vv_tabIn 1 105 dX12_qPartOf_1 (by rw [c22]; decide) (by rw [c22]; decide) (off := 104) (by rw [c22]; decide) (by decide) ?_
    refine vv_aload_n 105 0 dX12_qPartOf_105 rfl rfl ?_
    refine vv_getI 106 dX12_qPartOf_106 fl_12_427 rfl (g_l_291 hG) ?_
    refine vv_i2l 109 dX12_qPartOf_109 ?_
    obtain ⟨e1, e2⟩ := sh_some2 h
    refine vv_lret 110 dX12_qPartOf_110 rfl (Nat.le_refl _) (Nat.le_refl _) ⟨by rw [e1], e2⟩
  rw [if_neg c22] at h
  by_cases c23 : a1 = 7
  · rw [if_pos c23] at h
    refine vv_tabIn 1 111 dX12_qPartOf_1 (by rw [c23]; decide) (by rw [c23]; decide) (off := 110) (by rw [c23]; decide) (by decide) ?_
    refine vv_aload_n 111 0 dX12_qPartOf_111 rfl rfl ?_
    refine vv_aload_n 112 0 dX12_qPartOf_112 rfl rfl ?_
    refine vv_getI 113 dX12_qPartOf_113 fl_12_427 rfl (g_l_291 hG) ?_
    obtain ⟨y26, μ24, hr25, h⟩ := sh_bind_e h
    refine v1_callV [_] 116 dX12_qPartOf_116 ck_X12_417 (g_l_291 hG) ⟨by decide, rfl⟩ (t_X12_cellOf hG hr25) (Nat.le_of_ble_eq_true rfl) ⟨Nat.le_of_ble_eq_true rfl, Nat.le_of_ble_eq_true rfl⟩ rfl (Nat.le_of_ble_eq_true rfl) ?_
    have hG24 := gp_X12_cellOf hG hr25
    refine vv_bipush 119 dX12_qPartOf_119 bk_7 ?_
    refine vv_irem 121 dX12_qPartOf_121 (by decide) ?_
    refine vv_i2l 122 dX12_qPartOf_122 ?_
    obtain ⟨e1, e2⟩ := sh_some2 h
    refine vv_lret 123 dX12_qPartOf_123 rfl (Nat.le_refl _) (Nat.le_refl _) ⟨by rw [e1], e2⟩
  rw [if_neg c23] at h
  refine vv_tabOut 1 124 dX12_qPartOf_1 (sh_tout 0 7 (by intro j h1 h2; rcases (show j = 0 ∨ j = 1 ∨ j = 2 ∨ j = 3 ∨ j = 4 ∨ j = 5 ∨ j = 6 ∨ j = 7 by omega) with rfl | rfl | rfl | rfl | rfl | rfl | rfl | rfl <;> first | exact sh_lne c1 (by decide) | exact sh_lne c5 (by decide) | exact sh_lne c12 (by decide) | exact sh_lne c19 (by decide) | exact sh_lne c20 (by decide) | exact sh_lne c21 (by decide) | exact sh_lne c22 (by decide) | exact sh_lne c23 (by decide))) (by decide) ?_
  refine vv_aload_n 124 0 dX12_qPartOf_124 rfl rfl ?_
  refine vv_aload_n 125 0 dX12_qPartOf_125 rfl rfl ?_
  refine vv_getI 126 dX12_qPartOf_126 fl_12_427 rfl (g_l_291 hG) ?_
  obtain ⟨y29, μ27, hr28, h⟩ := sh_bind_e h
  refine v1_callV [_] 129 dX12_qPartOf_129 ck_X12_417 (g_l_291 hG) ⟨by decide, rfl⟩ (t_X12_cellOf hG hr28) (Nat.le_of_ble_eq_true rfl) ⟨Nat.le_of_ble_eq_true rfl, Nat.le_of_ble_eq_true rfl⟩ rfl (Nat.le_of_ble_eq_true rfl) ?_
  have hG27 := gp_X12_cellOf hG hr28
  refine vv_bipush 132 dX12_qPartOf_132 bk_7 ?_
  refine vv_idiv 134 dX12_qPartOf_134 (by decide) ?_
  refine vv_i2l 135 dX12_qPartOf_135 ?_
  obtain ⟨e1, e2⟩ := sh_some2 h
  refine vv_lret 136 dX12_qPartOf_136 rfl (Nat.le_refl _) (Nat.le_refl _) ⟨by rw [e1], e2⟩
noncomputable def f_X12_qOf (a1 : Int32) (a2 : Int64) (a3 : Int32) (μ : sh_Mem) : Option (Int64 × sh_Mem) := (if a1 = 0 then sh_bind (f_X12_isTopic a2 μ) (fun y4 μ2 => (if y4 = 0 then some (0, μ2) else sh_bind (f_X12_knowsOf a3 μ2) (fun y8 μ6 => (if ((y8 >>> ((a2).toInt32 &&& 31)) &&& 1) = 1 then some (1, μ6) else some (0, μ6))))) else sh_bind (f_X12_isTopic a2 μ) (fun y12 μ10 => (if y12 = 0 then some (0, μ10) else (if sh_in ((5 * a3) + (a2).toInt32) 35 then some (((sh_i μ10 332 (((5 * a3) + (a2).toInt32)).toNatClampNeg)).toInt64, μ10) else none))))
theorem gp_X12_qOf {a1 : Int32} {a2 : Int64} {a3 : Int32} {μ μ' : sh_Mem} {v : Int64} (hG : sh_G μ) (h : f_X12_qOf a1 a2 a3 μ = some (v, μ')) : sh_G μ' := by
  unfold f_X12_qOf at h
  by_cases c1 : a1 = 0
  · rw [if_pos c1] at h
    obtain ⟨y4, μ2, hr3, h⟩ := sh_bind_e h
    have hG2 := gp_X12_isTopic hG hr3
    by_cases c5 : y4 = 0
    · rw [if_pos c5] at h
      obtain ⟨e1, e2⟩ := sh_some2 h
      exact e2 ▸ hG2
    · rw [if_neg c5] at h
      obtain ⟨y8, μ6, hr7, h⟩ := sh_bind_e h
      have hG6 := gp_X12_knowsOf hG2 hr7
      by_cases c9 : ((y8 >>> ((a2).toInt32 &&& 31)) &&& 1) = 1
      · rw [if_pos c9] at h
        obtain ⟨e1, e2⟩ := sh_some2 h
        exact e2 ▸ hG6
      · rw [if_neg c9] at h
        obtain ⟨e1, e2⟩ := sh_some2 h
        exact e2 ▸ hG6
  rw [if_neg c1] at h
  obtain ⟨y12, μ10, hr11, h⟩ := sh_bind_e h
  have hG10 := gp_X12_isTopic hG hr11
  by_cases c13 : y12 = 0
  · rw [if_pos c13] at h
    obtain ⟨e1, e2⟩ := sh_some2 h
    exact e2 ▸ hG10
  · rw [if_neg c13] at h
    obtain ⟨k14, h⟩ := sh_chk h
    obtain ⟨e1, e2⟩ := sh_some2 h
    exact e2 ▸ hG10
theorem t_X12_qOf {a1 : Int32} {a2 : Int64} {a3 : Int32} {μ μ' : sh_Mem} {v : Int64} (hG : sh_G μ) (h : f_X12_qOf a1 a2 a3 μ = some (v, μ')) : sh_C0 l B D ca 3 M_X12_qOf [.ref 291, .int a1, .long a2, .int a3] μ (fun v0 μ0 => v0 = some (.long v) ∧ μ0 = μ') := by
  unfold f_X12_qOf at h
  refine vv_iload_n 0 1 dX12_qOf_0 rfl rfl ?_
  by_cases c1 : a1 = 0
  · rw [if_pos c1] at h
    refine vv_lookup 1 20 dX12_qOf_1 (by decide) (off := 19) (by rw [c1]; decide) (by decide) ?_
    refine vv_aload_n 20 0 dX12_qOf_20 rfl rfl ?_
    refine vv_lload_n 21 2 dX12_qOf_21 rfl rfl ?_
    obtain ⟨y4, μ2, hr3, h⟩ := sh_bind_e h
    refine v1_callV [_] 22 dX12_qOf_22 ck_X12_521 (g_l_291 hG) ⟨by decide, rfl⟩ (t_X12_isTopic hG hr3) (Nat.le_of_ble_eq_true rfl) ⟨Nat.le_of_ble_eq_true rfl, Nat.le_of_ble_eq_true rfl⟩ rfl (Nat.le_of_ble_eq_true rfl) ?_
    have hG2 := gp_X12_isTopic hG hr3
    refine vv_if_eq 25 47 dX12_qOf_25 (by decide) (fun c5 => ?_) (fun c5 => ?_)
    · rw [if_pos c5] at h
      refine vv_lconst 47 dX12_qOf_47 lk_0 ?_
      obtain ⟨e1, e2⟩ := sh_some2 h
      refine vv_lret 48 dX12_qOf_48 rfl (Nat.le_refl _) (Nat.le_refl _) ⟨by rw [e1], e2⟩
    · rw [if_neg c5] at h
      refine vv_aload_n 28 0 dX12_qOf_28 rfl rfl ?_
      refine vv_iload 29 4 dX12_qOf_29 rfl ?_
      obtain ⟨y8, μ6, hr7, h⟩ := sh_bind_e h
      refine v1_callV [_] 31 dX12_qOf_31 ck_X12_437 (g_l_291 hG2) ⟨by decide, rfl⟩ (t_X12_knowsOf hG2 hr7) (Nat.le_of_ble_eq_true rfl) ⟨Nat.le_of_ble_eq_true rfl, Nat.le_of_ble_eq_true rfl⟩ rfl (Nat.le_of_ble_eq_true rfl) ?_
      have hG6 := gp_X12_knowsOf hG2 hr7
      refine vv_lload_n 34 2 dX12_qOf_34 rfl rfl ?_
      refine vv_l2i 35 dX12_qOf_35 ?_
      refine vv_ishr 36 dX12_qOf_36 ?_
      refine vv_iconst 37 dX12_qOf_37 ik_1 ?_
      refine vv_iand 38 dX12_qOf_38 ?_
      refine vv_iconst 39 dX12_qOf_39 ik_1 ?_
      refine vv_icmp_ne 40 47 dX12_qOf_40 (by decide) (fun c9 => ?_) (fun c9 => ?_)
      · rw [if_neg c9] at h
        refine vv_lconst 47 dX12_qOf_47 lk_0 ?_
        obtain ⟨e1, e2⟩ := sh_some2 h
        refine vv_lret 48 dX12_qOf_48 rfl (Nat.le_refl _) (Nat.le_refl _) ⟨by rw [e1], e2⟩
      · rw [if_pos c9] at h
        refine vv_lconst 43 dX12_qOf_43 lk_1 ?_
        refine vv_goto 44 48 dX12_qOf_44 (by decide) ?_
        obtain ⟨e1, e2⟩ := sh_some2 h
        refine vv_lret 48 dX12_qOf_48 rfl (Nat.le_refl _) (Nat.le_refl _) ⟨by rw [e1], e2⟩
  rw [if_neg c1] at h
  refine vv_lookup 1 49 dX12_qOf_1 (by decide) (off := 48) (by simp [Op.lookupswitch.offset, sh_lnf (z := 0) c1 (by decide)]) (by decide) ?_
  refine vv_aload_n 49 0 dX12_qOf_49 rfl rfl ?_
  refine vv_lload_n 50 2 dX12_qOf_50 rfl rfl ?_
  obtain ⟨y12, μ10, hr11, h⟩ := sh_bind_e h
  refine v1_callV [_] 51 dX12_qOf_51 ck_X12_521 (g_l_291 hG) ⟨by decide, rfl⟩ (t_X12_isTopic hG hr11) (Nat.le_of_ble_eq_true rfl) ⟨Nat.le_of_ble_eq_true rfl, Nat.le_of_ble_eq_true rfl⟩ rfl (Nat.le_of_ble_eq_true rfl) ?_
  have hG10 := gp_X12_isTopic hG hr11
  refine vv_if_eq 54 73 dX12_qOf_54 (by decide) (fun c13 => ?_) (fun c13 => ?_)
  · rw [if_pos c13] at h
    refine vv_lconst 73 dX12_qOf_73 lk_0 ?_
    obtain ⟨e1, e2⟩ := sh_some2 h
    refine vv_lret 74 dX12_qOf_74 rfl (Nat.le_refl _) (Nat.le_refl _) ⟨by rw [e1], e2⟩
  · rw [if_neg c13] at h
    refine vv_aload_n 57 0 dX12_qOf_57 rfl rfl ?_
    refine vv_getR 58 dX12_qOf_58 fl_12_136 rfl (g_l_291 hG10) (g_r_291_61 hG10) ?_
    refine vv_iconst 61 dX12_qOf_61 ik_5 ?_
    refine vv_iload 62 4 dX12_qOf_62 rfl ?_
    refine vv_imul 64 dX12_qOf_64 ?_
    refine vv_lload_n 65 2 dX12_qOf_65 rfl rfl ?_
    refine vv_l2i 66 dX12_qOf_66 ?_
    refine vv_iadd 67 dX12_qOf_67 ?_
    obtain ⟨k14, h⟩ := sh_chk h
    refine vv_iald 68 dX12_qOf_68 (g_l_332 hG10) k14 ?_
    refine vv_i2l 69 dX12_qOf_69 ?_
    refine vv_goto 70 74 dX12_qOf_70 (by decide) ?_
    obtain ⟨e1, e2⟩ := sh_some2 h
    refine vv_lret 74 dX12_qOf_74 rfl (Nat.le_refl _) (Nat.le_refl _) ⟨by rw [e1], e2⟩
noncomputable def F_X12_qTold : Nat → Nat → Int32 → Int32 → sh_Mem → Option (Int64 × sh_Mem)
  | 0, _, _, _, _ => none
  | fuel + 1, lbl, i1, i2, μ => match lbl with
    | 1 => (if (sh_i μ 291 103) ≤ i2 then some ((sh_l μ 366 (Int32.toNatClampNeg 0)), μ) else (if sh_in i2 1700 then sh_let ((sh_i μ 364 i2.toNatClampNeg) : Int32) (fun x36 => (if x36 < 1000 then (if x36 < 60 then (if x36 < 40 then (if x36 = 13 then sh_bindv (f_X12_qPuts 1 μ) (fun μ48 => F_X12_qTold fuel 1 i1 (i2 + 1) μ48) else (if x36 = 12 then (if sh_in ((sh_i μ 291 109) - 1) 1700 then (if sh_in ((sh_i μ 291 109) - 1) 1700 then sh_let (sh_setL μ 366 (((sh_i μ 291 109) - 1)).toNatClampNeg (1 - (sh_l μ 366 (((sh_i μ 291 109) - 1)).toNatClampNeg))) (fun μ47 => F_X12_qTold fuel 1 i1 (i2 + 1) μ47) else none) else none) else sh_bindv (f_X12_qJoins x36 μ) (fun μ42 => F_X12_qTold fuel 1 i1 (i2 + 1) μ42))) else sh_bind (f_X12_qPartOf (x36 - 40) i1 μ) (fun y53 μ51 => sh_bindv (f_X12_qPuts (f_X12_qClip μ51 y53) μ51) (fun μ54 => F_X12_qTold fuel 1 i1 (i2 + 1) μ54))) else (if sh_in ((sh_i μ 291 109) - 1) 1700 then sh_bind (f_X12_qOf (x36 - 60) (sh_l μ 366 (((sh_i μ 291 109) - 1)).toNatClampNeg) i1 μ) (fun y60 μ58 => (if sh_in ((sh_i μ 291 109) - 1) 1700 then sh_let (sh_setL μ58 366 (((sh_i μ 291 109) - 1)).toNatClampNeg (f_X12_qClip μ58 y60)) (fun μ62 => F_X12_qTold fuel 1 i1 (i2 + 1) μ62) else none)) else none)) else sh_bindv (f_X12_qPuts ((x36 - 1000)).toInt64 μ) (fun μ63 => F_X12_qTold fuel 1 i1 (i2 + 1) μ63))) else none))
    | _ => none
noncomputable def f_X12_qTold (a1 : Int32) (μ : sh_Mem) : Option (Int64 × sh_Mem) := sh_let (sh_setI μ 291 109 0) (fun μ66 => F_X12_qTold sh_fuel 1 a1 0 μ66)
theorem gpl_X12_qTold (fuel : Nat) : (∀ ⦃i1 : Int32⦄ ⦃i2 : Int32⦄ ⦃μ μ' : sh_Mem⦄ ⦃v : Int64⦄, sh_G μ → F_X12_qTold fuel 1 i1 i2 μ = some (v, μ') → sh_G μ') := by
  induction fuel with
  | zero => intro i1 i2 μ μ' v hG h; cases h
  | succ fuel ih =>
    have ih_7 := ih
    intro i1 i2 μ μ' v hG h
    replace h : ((if (sh_i μ 291 103) ≤ i2 then some ((sh_l μ 366 (Int32.toNatClampNeg 0)), μ) else (if sh_in i2 1700 then sh_let ((sh_i μ 364 i2.toNatClampNeg) : Int32) (fun x36 => (if x36 < 1000 then (if x36 < 60 then (if x36 < 40 then (if x36 = 13 then sh_bindv (f_X12_qPuts 1 μ) (fun μ48 => F_X12_qTold fuel 1 i1 (i2 + 1) μ48) else (if x36 = 12 then (if sh_in ((sh_i μ 291 109) - 1) 1700 then (if sh_in ((sh_i μ 291 109) - 1) 1700 then sh_let (sh_setL μ 366 (((sh_i μ 291 109) - 1)).toNatClampNeg (1 - (sh_l μ 366 (((sh_i μ 291 109) - 1)).toNatClampNeg))) (fun μ47 => F_X12_qTold fuel 1 i1 (i2 + 1) μ47) else none) else none) else sh_bindv (f_X12_qJoins x36 μ) (fun μ42 => F_X12_qTold fuel 1 i1 (i2 + 1) μ42))) else sh_bind (f_X12_qPartOf (x36 - 40) i1 μ) (fun y53 μ51 => sh_bindv (f_X12_qPuts (f_X12_qClip μ51 y53) μ51) (fun μ54 => F_X12_qTold fuel 1 i1 (i2 + 1) μ54))) else (if sh_in ((sh_i μ 291 109) - 1) 1700 then sh_bind (f_X12_qOf (x36 - 60) (sh_l μ 366 (((sh_i μ 291 109) - 1)).toNatClampNeg) i1 μ) (fun y60 μ58 => (if sh_in ((sh_i μ 291 109) - 1) 1700 then sh_let (sh_setL μ58 366 (((sh_i μ 291 109) - 1)).toNatClampNeg (f_X12_qClip μ58 y60)) (fun μ62 => F_X12_qTold fuel 1 i1 (i2 + 1) μ62) else none)) else none)) else sh_bindv (f_X12_qPuts ((x36 - 1000)).toInt64 μ) (fun μ63 => F_X12_qTold fuel 1 i1 (i2 + 1) μ63))) else none)) : Option (Int64 × sh_Mem)) = some (v, μ') := h
    by_cases c34 : (sh_i μ 291 103) ≤ i2
    · rw [if_pos c34] at h
      obtain ⟨e1, e2⟩ := sh_some2 h
      exact e2 ▸ hG
    · rw [if_neg c34] at h
      obtain ⟨k35, h⟩ := sh_chk h
      obtain ⟨x36, ex36⟩ : ∃ y : Int32, y = (sh_i μ 364 i2.toNatClampNeg) := ⟨_, rfl⟩
      rw [sh_let_eq ex36] at h
      by_cases c37 : x36 < 1000
      · rw [if_pos c37] at h
        by_cases c38 : x36 < 60
        · rw [if_pos c38] at h
          by_cases c39 : x36 < 40
          · rw [if_pos c39] at h
            by_cases c40 : x36 = 13
            · rw [if_pos c40] at h
              obtain ⟨μ48, hr49, h⟩ := sh_bindv_e h
              have hG48 := gp_X12_qPuts hG hr49
              exact ih_7 hG48 h
            · rw [if_neg c40] at h
              by_cases c41 : x36 = 12
              · rw [if_pos c41] at h
                obtain ⟨k45, h⟩ := sh_chk h
                obtain ⟨k46, h⟩ := sh_chk h
                obtain ⟨μ47, eμ47⟩ : ∃ y : sh_Mem, y = (sh_setL μ 366 (((sh_i μ 291 109) - 1)).toNatClampNeg (1 - (sh_l μ 366 (((sh_i μ 291 109) - 1)).toNatClampNeg))) := ⟨_, rfl⟩
                rw [sh_let_eq eμ47] at h
                have hG47 : sh_G μ47 := by rw [eμ47]; exact hG
                exact ih_7 hG47 h
              · rw [if_neg c41] at h
                obtain ⟨μ42, hr43, h⟩ := sh_bindv_e h
                have hG42 := gp_X12_qJoins hG hr43
                exact ih_7 hG42 h
          · rw [if_neg c39] at h
            obtain ⟨y53, μ51, hr52, h⟩ := sh_bind_e h
            have hG51 := gp_X12_qPartOf hG hr52
            obtain ⟨μ54, hr55, h⟩ := sh_bindv_e h
            have hG54 := gp_X12_qPuts hG51 hr55
            exact ih_7 hG54 h
        · rw [if_neg c38] at h
          obtain ⟨k57, h⟩ := sh_chk h
          obtain ⟨y60, μ58, hr59, h⟩ := sh_bind_e h
          have hG58 := gp_X12_qOf hG hr59
          obtain ⟨k61, h⟩ := sh_chk h
          obtain ⟨μ62, eμ62⟩ : ∃ y : sh_Mem, y = (sh_setL μ58 366 (((sh_i μ 291 109) - 1)).toNatClampNeg (f_X12_qClip μ58 y60)) := ⟨_, rfl⟩
          rw [sh_let_eq eμ62] at h
          have hG62 : sh_G μ62 := by rw [eμ62]; exact hG58
          exact ih_7 hG62 h
      · rw [if_neg c37] at h
        obtain ⟨μ63, hr64, h⟩ := sh_bindv_e h
        have hG63 := gp_X12_qPuts hG hr64
        exact ih_7 hG63 h
theorem tl_X12_qTold (fuel : Nat) : (∀ ⦃i1 : Int32⦄ ⦃i2 : Int32⦄ ⦃μ μ' : sh_Mem⦄ ⦃v : Int64⦄, sh_G μ → F_X12_qTold fuel 1 i1 i2 μ = some (v, μ') → sh_V0 l B D ca 4 M_X12_qTold 7 [(0, .ref 291), (1, .int i1), (2, .int i2)] [] μ (fun v0 μ0 => v0 = some (.long v) ∧ μ0 = μ')) := by
  induction fuel with
  | zero => intro i1 i2 μ μ' v hG h; cases h
  | succ fuel ih =>
    have ih_7 := ih
    intro i1 i2 μ μ' v hG h
    replace h : ((if (sh_i μ 291 103) ≤ i2 then some ((sh_l μ 366 (Int32.toNatClampNeg 0)), μ) else (if sh_in i2 1700 then sh_let ((sh_i μ 364 i2.toNatClampNeg) : Int32) (fun x36 => (if x36 < 1000 then (if x36 < 60 then (if x36 < 40 then (if x36 = 13 then sh_bindv (f_X12_qPuts 1 μ) (fun μ48 => F_X12_qTold fuel 1 i1 (i2 + 1) μ48) else (if x36 = 12 then (if sh_in ((sh_i μ 291 109) - 1) 1700 then (if sh_in ((sh_i μ 291 109) - 1) 1700 then sh_let (sh_setL μ 366 (((sh_i μ 291 109) - 1)).toNatClampNeg (1 - (sh_l μ 366 (((sh_i μ 291 109) - 1)).toNatClampNeg))) (fun μ47 => F_X12_qTold fuel 1 i1 (i2 + 1) μ47) else none) else none) else sh_bindv (f_X12_qJoins x36 μ) (fun μ42 => F_X12_qTold fuel 1 i1 (i2 + 1) μ42))) else sh_bind (f_X12_qPartOf (x36 - 40) i1 μ) (fun y53 μ51 => sh_bindv (f_X12_qPuts (f_X12_qClip μ51 y53) μ51) (fun μ54 => F_X12_qTold fuel 1 i1 (i2 + 1) μ54))) else (if sh_in ((sh_i μ 291 109) - 1) 1700 then sh_bind (f_X12_qOf (x36 - 60) (sh_l μ 366 (((sh_i μ 291 109) - 1)).toNatClampNeg) i1 μ) (fun y60 μ58 => (if sh_in ((sh_i μ 291 109) - 1) 1700 then sh_let (sh_setL μ58 366 (((sh_i μ 291 109) - 1)).toNatClampNeg (f_X12_qClip μ58 y60)) (fun μ62 => F_X12_qTold fuel 1 i1 (i2 + 1) μ62) else none)) else none)) else sh_bindv (f_X12_qPuts ((x36 - 1000)).toInt64 μ) (fun μ63 => F_X12_qTold fuel 1 i1 (i2 + 1) μ63))) else none)) : Option (Int64 × sh_Mem)) = some (v, μ') := h
    refine vv_iload_n 7 2 dX12_qTold_7 rfl rfl ?_
    refine vv_aload_n 8 0 dX12_qTold_8 rfl rfl ?_
    refine vv_getI 9 dX12_qTold_9 fl_12_344 rfl (g_l_291 hG) ?_
    refine vv_icmp_ge 12 168 dX12_qTold_12 (by decide) (fun c34 => ?_) (fun c34 => ?_)
    · rw [if_pos c34] at h
      refine vv_aload_n 168 0 dX12_qTold_168 rfl rfl ?_
      refine vv_getR 169 dX12_qTold_169 fl_12_242 rfl (g_l_291 hG) (g_r_291_108 hG) ?_
      refine vv_iconst 172 dX12_qTold_172 ik_0 ?_
      refine vv_lald 173 dX12_qTold_173 (g_l_366 hG) (by unfold vp_in; decide) ?_
      obtain ⟨e1, e2⟩ := sh_some2 h
      refine vv_lret 174 dX12_qTold_174 rfl (Nat.le_refl _) (Nat.le_refl _) ⟨by rw [e1], e2⟩
    · rw [if_neg c34] at h
      refine vv_aload_n 15 0 dX12_qTold_15 rfl rfl ?_
      refine vv_getR 16 dX12_qTold_16 fl_12_236 rfl (g_l_291 hG) (g_r_291_102 hG) ?_
      refine vv_iload_n 19 2 dX12_qTold_19 rfl rfl ?_
      obtain ⟨k35, h⟩ := sh_chk h
      refine vv_iald 20 dX12_qTold_20 (g_l_364 hG) k35 ?_
      refine vv_topi (fun x36 ex36 => ?_)
      rw [sh_let_eq ex36] at h
      refine vv_istore_n (lv' := [(3, _), (0, _), (1, _), (2, _)]) 21 3 dX12_qTold_21 rfl (by decide) rfl ?_
      refine vv_iload_n 22 3 dX12_qTold_22 rfl rfl ?_
      refine vv_sipush 23 dX12_qTold_23 sk_1000 ?_
      refine vv_icmp_lt 26 42 dX12_qTold_26 (by decide) (fun c37 => ?_) (fun c37 => ?_)
      · rw [if_pos c37] at h
        refine vv_iload_n 42 3 dX12_qTold_42 rfl rfl ?_
        refine vv_bipush 43 dX12_qTold_43 bk_60 ?_
        refine vv_icmp_lt 45 85 dX12_qTold_45 (by decide) (fun c38 => ?_) (fun c38 => ?_)
        · rw [if_pos c38] at h
          refine vv_iload_n 85 3 dX12_qTold_85 rfl rfl ?_
          refine vv_bipush 86 dX12_qTold_86 bk_40 ?_
          refine vv_icmp_lt 88 110 dX12_qTold_88 (by decide) (fun c39 => ?_) (fun c39 => ?_)
          · rw [if_pos c39] at h
            refine vv_iload_n 110 3 dX12_qTold_110 rfl rfl ?_
            refine vv_bipush 111 dX12_qTold_111 bk_13 ?_
            refine vv_icmp_ne 113 124 dX12_qTold_113 (by decide) (fun c40 => ?_) (fun c40 => ?_)
            · rw [if_neg c40] at h
              refine vv_iload_n 124 3 dX12_qTold_124 rfl rfl ?_
              refine vv_bipush 125 dX12_qTold_125 bk_12 ?_
              refine vv_icmp_ne 127 157 dX12_qTold_127 (by decide) (fun c41 => ?_) (fun c41 => ?_)
              · rw [if_neg c41] at h
                refine vv_aload_n 157 0 dX12_qTold_157 rfl rfl ?_
                refine vv_iload_n 158 3 dX12_qTold_158 rfl rfl ?_
                obtain ⟨μ42, hr43, h⟩ := sh_bindv_e h
                refine v1_callV [_] 159 dX12_qTold_159 ck_X12_434 (g_l_291 hG) ⟨by decide, rfl⟩ (t_X12_qJoins hG hr43) (Nat.le_of_ble_eq_true rfl) ⟨Nat.le_of_ble_eq_true rfl, Nat.le_of_ble_eq_true rfl⟩ rfl (Nat.le_of_ble_eq_true rfl) ?_
                have hG42 := gp_X12_qJoins hG hr43
                refine vv_iincc (lv' := [(2, _), (3, _), (0, _), (1, _)]) 162 2 dX12_qTold_162 rfl ik_1 (by decide) rfl ?_
                refine vv_goto 165 7 dX12_qTold_165 (by decide) ?_
                refine vv_sub [(0, _), (1, _), (2, _)] (sh_subm [2, 3, 0] rfl) ?_
                exact ih_7 hG42 h
              · rw [if_pos c41] at h
                refine vv_aload_n 130 0 dX12_qTold_130 rfl rfl ?_
                refine vv_getR 131 dX12_qTold_131 fl_12_242 rfl (g_l_291 hG) (g_r_291_108 hG) ?_
                refine vv_aload_n 134 0 dX12_qTold_134 rfl rfl ?_
                refine vv_getI 135 dX12_qTold_135 fl_12_420 rfl (g_l_291 hG) ?_
                refine vv_iconst 138 dX12_qTold_138 ik_1 ?_
                refine vv_isub 139 dX12_qTold_139 ?_
                refine vv_lconst 140 dX12_qTold_140 lk_1 ?_
                refine vv_aload_n 141 0 dX12_qTold_141 rfl rfl ?_
                refine vv_getR 142 dX12_qTold_142 fl_12_242 rfl (g_l_291 hG) (g_r_291_108 hG) ?_
                refine vv_aload_n 145 0 dX12_qTold_145 rfl rfl ?_
                refine vv_getI 146 dX12_qTold_146 fl_12_420 rfl (g_l_291 hG) ?_
                refine vv_iconst 149 dX12_qTold_149 ik_1 ?_
                refine vv_isub 150 dX12_qTold_150 ?_
                obtain ⟨k45, h⟩ := sh_chk h
                refine vv_lald 151 dX12_qTold_151 (g_l_366 hG) k45 ?_
                refine vv_lsub 152 dX12_qTold_152 ?_
                obtain ⟨k46, h⟩ := sh_chk h
                refine vn_last 153 dX12_qTold_153 (g_l_366 hG) k46 (fun μ47 eμ47 => ?_)
                rw [sh_let_eq eμ47] at h
                have hG47 : sh_G μ47 := by rw [eμ47]; exact hG
                refine vv_goto 154 162 dX12_qTold_154 (by decide) ?_
                refine vv_iincc (lv' := [(2, _), (3, _), (0, _), (1, _)]) 162 2 dX12_qTold_162 rfl ik_1 (by decide) rfl ?_
                refine vv_goto 165 7 dX12_qTold_165 (by decide) ?_
                refine vv_sub [(0, _), (1, _), (2, _)] (sh_subm [2, 3, 0] rfl) ?_
                exact ih_7 hG47 h
            · rw [if_pos c40] at h
              refine vv_aload_n 116 0 dX12_qTold_116 rfl rfl ?_
              refine vv_lconst 117 dX12_qTold_117 lk_1 ?_
              obtain ⟨μ48, hr49, h⟩ := sh_bindv_e h
              refine v1_callV [_] 118 dX12_qTold_118 ck_X12_423 (g_l_291 hG) ⟨by decide, rfl⟩ (t_X12_qPuts hG hr49) (Nat.le_of_ble_eq_true rfl) ⟨Nat.le_of_ble_eq_true rfl, Nat.le_of_ble_eq_true rfl⟩ rfl (Nat.le_of_ble_eq_true rfl) ?_
              have hG48 := gp_X12_qPuts hG hr49
              refine vv_goto 121 162 dX12_qTold_121 (by decide) ?_
              refine vv_iincc (lv' := [(2, _), (3, _), (0, _), (1, _)]) 162 2 dX12_qTold_162 rfl ik_1 (by decide) rfl ?_
              refine vv_goto 165 7 dX12_qTold_165 (by decide) ?_
              refine vv_sub [(0, _), (1, _), (2, _)] (sh_subm [2, 3, 0] rfl) ?_
              exact ih_7 hG48 h
          · rw [if_neg c39] at h
            refine vv_aload_n 91 0 dX12_qTold_91 rfl rfl ?_
            refine vv_aload_n 92 0 dX12_qTold_92 rfl rfl ?_
            refine vv_iload_n 93 3 dX12_qTold_93 rfl rfl ?_
            refine vv_bipush 94 dX12_qTold_94 bk_40 ?_
            refine vv_isub 96 dX12_qTold_96 ?_
            refine vv_iload_n 97 1 dX12_qTold_97 rfl rfl ?_
            obtain ⟨y53, μ51, hr52, h⟩ := sh_bind_e h
            refine v1_callV [_, _] 98 dX12_qTold_98 ck_X12_430 (g_l_291 hG) ⟨by decide, rfl⟩ (t_X12_qPartOf hG hr52) (Nat.le_of_ble_eq_true rfl) ⟨Nat.le_of_ble_eq_true rfl, Nat.le_of_ble_eq_true rfl⟩ rfl (Nat.le_of_ble_eq_true rfl) ?_
            have hG51 := gp_X12_qPartOf hG hr52
            refine v1_callS [_] 101 dX12_qTold_101 ck_X12_700 (c_X12_qClip (μ := μ51) hG51) (Nat.le_of_ble_eq_true rfl) ⟨Nat.le_of_ble_eq_true rfl, Nat.le_of_ble_eq_true rfl⟩ rfl (Nat.le_of_ble_eq_true rfl) ?_
            obtain ⟨μ54, hr55, h⟩ := sh_bindv_e h
            refine v1_callV [_] 104 dX12_qTold_104 ck_X12_423 (g_l_291 hG51) ⟨by decide, rfl⟩ (t_X12_qPuts hG51 hr55) (Nat.le_of_ble_eq_true rfl) ⟨Nat.le_of_ble_eq_true rfl, Nat.le_of_ble_eq_true rfl⟩ rfl (Nat.le_of_ble_eq_true rfl) ?_
            have hG54 := gp_X12_qPuts hG51 hr55
            refine vv_goto 107 162 dX12_qTold_107 (by decide) ?_
            refine vv_iincc (lv' := [(2, _), (3, _), (0, _), (1, _)]) 162 2 dX12_qTold_162 rfl ik_1 (by decide) rfl ?_
            refine vv_goto 165 7 dX12_qTold_165 (by decide) ?_
            refine vv_sub [(0, _), (1, _), (2, _)] (sh_subm [2, 3, 0] rfl) ?_
            exact ih_7 hG54 h
        · rw [if_neg c38] at h
          refine vv_aload_n 48 0 dX12_qTold_48 rfl rfl ?_
          refine vv_getR 49 dX12_qTold_49 fl_12_242 rfl (g_l_291 hG) (g_r_291_108 hG) ?_
          refine vv_aload_n 52 0 dX12_qTold_52 rfl rfl ?_
          refine vv_getI 53 dX12_qTold_53 fl_12_420 rfl (g_l_291 hG) ?_
          refine vv_iconst 56 dX12_qTold_56 ik_1 ?_
          refine vv_isub 57 dX12_qTold_57 ?_
          refine vv_aload_n 58 0 dX12_qTold_58 rfl rfl ?_
          refine vv_iload_n 59 3 dX12_qTold_59 rfl rfl ?_
          refine vv_bipush 60 dX12_qTold_60 bk_60 ?_
          refine vv_isub 62 dX12_qTold_62 ?_
          refine vv_aload_n 63 0 dX12_qTold_63 rfl rfl ?_
          refine vv_getR 64 dX12_qTold_64 fl_12_242 rfl (g_l_291 hG) (g_r_291_108 hG) ?_
          refine vv_aload_n 67 0 dX12_qTold_67 rfl rfl ?_
          refine vv_getI 68 dX12_qTold_68 fl_12_420 rfl (g_l_291 hG) ?_
          refine vv_iconst 71 dX12_qTold_71 ik_1 ?_
          refine vv_isub 72 dX12_qTold_72 ?_
          obtain ⟨k57, h⟩ := sh_chk h
          refine vv_lald 73 dX12_qTold_73 (g_l_366 hG) k57 ?_
          refine vv_iload_n 74 1 dX12_qTold_74 rfl rfl ?_
          obtain ⟨y60, μ58, hr59, h⟩ := sh_bind_e h
          refine v1_callV [_, _, _] 75 dX12_qTold_75 ck_X12_708 (g_l_291 hG) ⟨by decide, rfl⟩ (t_X12_qOf hG hr59) (Nat.le_of_ble_eq_true rfl) ⟨Nat.le_of_ble_eq_true rfl, Nat.le_of_ble_eq_true rfl⟩ rfl (Nat.le_of_ble_eq_true rfl) ?_
          have hG58 := gp_X12_qOf hG hr59
          refine v1_callS [_] 78 dX12_qTold_78 ck_X12_700 (c_X12_qClip (μ := μ58) hG58) (Nat.le_of_ble_eq_true rfl) ⟨Nat.le_of_ble_eq_true rfl, Nat.le_of_ble_eq_true rfl⟩ rfl (Nat.le_of_ble_eq_true rfl) ?_
          obtain ⟨k61, h⟩ := sh_chk h
          refine vn_last 81 dX12_qTold_81 (g_l_366 hG58) k61 (fun μ62 eμ62 => ?_)
          rw [sh_let_eq eμ62] at h
          have hG62 : sh_G μ62 := by rw [eμ62]; exact hG58
          refine vv_goto 82 162 dX12_qTold_82 (by decide) ?_
          refine vv_iincc (lv' := [(2, _), (3, _), (0, _), (1, _)]) 162 2 dX12_qTold_162 rfl ik_1 (by decide) rfl ?_
          refine vv_goto 165 7 dX12_qTold_165 (by decide) ?_
          refine vv_sub [(0, _), (1, _), (2, _)] (sh_subm [2, 3, 0] rfl) ?_
          exact ih_7 hG62 h
      · rw [if_neg c37] at h
        refine vv_aload_n 29 0 dX12_qTold_29 rfl rfl ?_
        refine vv_iload_n 30 3 dX12_qTold_30 rfl rfl ?_
        refine vv_sipush 31 dX12_qTold_31 sk_1000 ?_
        refine vv_isub 34 dX12_qTold_34 ?_
        refine vv_i2l 35 dX12_qTold_35 ?_
        obtain ⟨μ63, hr64, h⟩ := sh_bindv_e h
        refine v1_callV [_] 36 dX12_qTold_36 ck_X12_423 (g_l_291 hG) ⟨by decide, rfl⟩ (t_X12_qPuts hG hr64) (Nat.le_of_ble_eq_true rfl) ⟨Nat.le_of_ble_eq_true rfl, Nat.le_of_ble_eq_true rfl⟩ rfl (Nat.le_of_ble_eq_true rfl) ?_
        have hG63 := gp_X12_qPuts hG hr64
        refine vv_goto 39 162 dX12_qTold_39 (by decide) ?_
        refine vv_iincc (lv' := [(2, _), (3, _), (0, _), (1, _)]) 162 2 dX12_qTold_162 rfl ik_1 (by decide) rfl ?_
        refine vv_goto 165 7 dX12_qTold_165 (by decide) ?_
        refine vv_sub [(0, _), (1, _), (2, _)] (sh_subm [2, 3, 0] rfl) ?_
        exact ih_7 hG63 h
theorem gp_X12_qTold {a1 : Int32} {μ μ' : sh_Mem} {v : Int64} (hG : sh_G μ) (h : f_X12_qTold a1 μ = some (v, μ')) : sh_G μ' := by
  have ih_7 := (gpl_X12_qTold sh_fuel)
  unfold f_X12_qTold at h
  obtain ⟨μ66, eμ66⟩ : ∃ y : sh_Mem, y = (sh_setI μ 291 109 0) := ⟨_, rfl⟩
  rw [sh_let_eq eμ66] at h
  have hG66 : sh_G μ66 := by rw [eμ66]; exact hG
  exact ih_7 hG66 h
theorem t_X12_qTold {a1 : Int32} {μ μ' : sh_Mem} {v : Int64} (hG : sh_G μ) (h : f_X12_qTold a1 μ = some (v, μ')) : sh_C0 l B D ca 4 M_X12_qTold [.ref 291, .int a1] μ (fun v0 μ0 => v0 = some (.long v) ∧ μ0 = μ') := by
  have ih_7 := (tl_X12_qTold (l := l) (B := B) (D := D) (ca := ca) sh_fuel)
  unfold f_X12_qTold at h
  refine vv_aload_n 0 0 dX12_qTold_0 rfl rfl ?_
  refine vv_iconst 1 dX12_qTold_1 ik_0 ?_
  refine vn_putI 2 dX12_qTold_2 fl_12_420 (Or.inl rfl) rfl (g_l_291 hG) (fun μ66 eμ66 => ?_)
  rw [sh_let_eq eμ66] at h
  have hG66 : sh_G μ66 := by rw [eμ66]; exact hG
  refine vv_iconst 5 dX12_qTold_5 ik_0 ?_
  refine vv_istore_n (lv' := [(2, _), (0, _), (1, _)]) 6 2 dX12_qTold_6 rfl (by decide) rfl ?_
  refine vv_sub [(0, _), (1, _), (2, _)] (sh_subm [1, 2, 0] rfl) ?_
  exact ih_7 hG66 h
noncomputable def f_X12_qKind (μ : sh_Mem) : Option (Int32 × sh_Mem) := sh_bind (f_X12_takes 341 5 μ) (fun y3 μ1 => (if y3 = 0 then sh_bind (f_X12_takes 342 4 μ1) (fun y7 μ5 => (if y7 = 0 then sh_bind (f_X12_takes 343 5 μ5) (fun y11 μ9 => (if y11 = 0 then sh_bind (f_X12_takes 344 5 μ9) (fun y15 μ13 => (if y15 = 0 then sh_bind (f_X12_takes 345 4 μ13) (fun y19 μ17 => (if y19 = 0 then sh_bindv (f_X12_needs 346 5 μ17) (fun μ21 => some (5, μ21)) else some (4, μ17))) else some (3, μ13))) else some (2, μ9))) else some (1, μ5))) else some (0, μ1)))
theorem gp_X12_qKind {μ μ' : sh_Mem} {v : Int32} (hG : sh_G μ) (h : f_X12_qKind μ = some (v, μ')) : sh_G μ' := by
  unfold f_X12_qKind at h
  obtain ⟨y3, μ1, hr2, h⟩ := sh_bind_e h
  have hG1 := gp_X12_takes hG (sh_LAYat_341) hr2
  by_cases c4 : y3 = 0
  · rw [if_pos c4] at h
    obtain ⟨y7, μ5, hr6, h⟩ := sh_bind_e h
    have hG5 := gp_X12_takes hG1 (sh_LAYat_342) hr6
    by_cases c8 : y7 = 0
    · rw [if_pos c8] at h
      obtain ⟨y11, μ9, hr10, h⟩ := sh_bind_e h
      have hG9 := gp_X12_takes hG5 (sh_LAYat_343) hr10
      by_cases c12 : y11 = 0
      · rw [if_pos c12] at h
        obtain ⟨y15, μ13, hr14, h⟩ := sh_bind_e h
        have hG13 := gp_X12_takes hG9 (sh_LAYat_344) hr14
        by_cases c16 : y15 = 0
        · rw [if_pos c16] at h
          obtain ⟨y19, μ17, hr18, h⟩ := sh_bind_e h
          have hG17 := gp_X12_takes hG13 (sh_LAYat_345) hr18
          by_cases c20 : y19 = 0
          · rw [if_pos c20] at h
            obtain ⟨μ21, hr22, h⟩ := sh_bindv_e h
            have hG21 := gp_X12_needs hG17 (sh_LAYat_346) hr22
            obtain ⟨e1, e2⟩ := sh_some2 h
            exact e2 ▸ hG21
          · rw [if_neg c20] at h
            obtain ⟨e1, e2⟩ := sh_some2 h
            exact e2 ▸ hG17
        · rw [if_neg c16] at h
          obtain ⟨e1, e2⟩ := sh_some2 h
          exact e2 ▸ hG13
      · rw [if_neg c12] at h
        obtain ⟨e1, e2⟩ := sh_some2 h
        exact e2 ▸ hG9
    · rw [if_neg c8] at h
      obtain ⟨e1, e2⟩ := sh_some2 h
      exact e2 ▸ hG5
  · rw [if_neg c4] at h
    obtain ⟨e1, e2⟩ := sh_some2 h
    exact e2 ▸ hG1
theorem t_X12_qKind {μ μ' : sh_Mem} {v : Int32} (hG : sh_G μ) (h : f_X12_qKind μ = some (v, μ')) : sh_C0 l B D ca 5 M_X12_qKind [.ref 291] μ (fun v0 μ0 => v0 = some (.int v) ∧ μ0 = μ') := by
  unfold f_X12_qKind at h
  refine vv_aload_n 0 0 dX12_qKind_0 rfl rfl ?_
  refine vv_aload_n 1 0 dX12_qKind_1 rfl rfl ?_
  refine vv_getR 2 dX12_qKind_2 fl_12_167 rfl (g_l_291 hG) (g_r_291_79 hG) ?_
  obtain ⟨y3, μ1, hr2, h⟩ := sh_bind_e h
  refine v1_callV [_] 5 dX12_qKind_5 ck_X12_280 (g_l_291 hG) ⟨by decide, rfl⟩ (t_X12_takes hG (sh_LAYat_341) hr2) (Nat.le_of_ble_eq_true rfl) ⟨Nat.le_of_ble_eq_true rfl, Nat.le_of_ble_eq_true rfl⟩ rfl (Nat.le_of_ble_eq_true rfl) ?_
  have hG1 := gp_X12_takes hG (sh_LAYat_341) hr2
  refine vv_if_eq 8 15 dX12_qKind_8 (by decide) (fun c4 => ?_) (fun c4 => ?_)
  · rw [if_pos c4] at h
    refine vv_aload_n 15 0 dX12_qKind_15 rfl rfl ?_
    refine vv_aload_n 16 0 dX12_qKind_16 rfl rfl ?_
    refine vv_getR 17 dX12_qKind_17 fl_12_170 rfl (g_l_291 hG1) (g_r_291_80 hG1) ?_
    obtain ⟨y7, μ5, hr6, h⟩ := sh_bind_e h
    refine v1_callV [_] 20 dX12_qKind_20 ck_X12_280 (g_l_291 hG1) ⟨by decide, rfl⟩ (t_X12_takes hG1 (sh_LAYat_342) hr6) (Nat.le_of_ble_eq_true rfl) ⟨Nat.le_of_ble_eq_true rfl, Nat.le_of_ble_eq_true rfl⟩ rfl (Nat.le_of_ble_eq_true rfl) ?_
    have hG5 := gp_X12_takes hG1 (sh_LAYat_342) hr6
    refine vv_if_eq 23 30 dX12_qKind_23 (by decide) (fun c8 => ?_) (fun c8 => ?_)
    · rw [if_pos c8] at h
      refine vv_aload_n 30 0 dX12_qKind_30 rfl rfl ?_
      refine vv_aload_n 31 0 dX12_qKind_31 rfl rfl ?_
      refine vv_getR 32 dX12_qKind_32 fl_12_173 rfl (g_l_291 hG5) (g_r_291_81 hG5) ?_
      obtain ⟨y11, μ9, hr10, h⟩ := sh_bind_e h
      refine v1_callV [_] 35 dX12_qKind_35 ck_X12_280 (g_l_291 hG5) ⟨by decide, rfl⟩ (t_X12_takes hG5 (sh_LAYat_343) hr10) (Nat.le_of_ble_eq_true rfl) ⟨Nat.le_of_ble_eq_true rfl, Nat.le_of_ble_eq_true rfl⟩ rfl (Nat.le_of_ble_eq_true rfl) ?_
      have hG9 := gp_X12_takes hG5 (sh_LAYat_343) hr10
      refine vv_if_eq 38 45 dX12_qKind_38 (by decide) (fun c12 => ?_) (fun c12 => ?_)
      · rw [if_pos c12] at h
        refine vv_aload_n 45 0 dX12_qKind_45 rfl rfl ?_
        refine vv_aload_n 46 0 dX12_qKind_46 rfl rfl ?_
        refine vv_getR 47 dX12_qKind_47 fl_12_176 rfl (g_l_291 hG9) (g_r_291_82 hG9) ?_
        obtain ⟨y15, μ13, hr14, h⟩ := sh_bind_e h
        refine v1_callV [_] 50 dX12_qKind_50 ck_X12_280 (g_l_291 hG9) ⟨by decide, rfl⟩ (t_X12_takes hG9 (sh_LAYat_344) hr14) (Nat.le_of_ble_eq_true rfl) ⟨Nat.le_of_ble_eq_true rfl, Nat.le_of_ble_eq_true rfl⟩ rfl (Nat.le_of_ble_eq_true rfl) ?_
        have hG13 := gp_X12_takes hG9 (sh_LAYat_344) hr14
        refine vv_if_eq 53 60 dX12_qKind_53 (by decide) (fun c16 => ?_) (fun c16 => ?_)
        · rw [if_pos c16] at h
          refine vv_aload_n 60 0 dX12_qKind_60 rfl rfl ?_
          refine vv_aload_n 61 0 dX12_qKind_61 rfl rfl ?_
          refine vv_getR 62 dX12_qKind_62 fl_12_179 rfl (g_l_291 hG13) (g_r_291_83 hG13) ?_
          obtain ⟨y19, μ17, hr18, h⟩ := sh_bind_e h
          refine v1_callV [_] 65 dX12_qKind_65 ck_X12_280 (g_l_291 hG13) ⟨by decide, rfl⟩ (t_X12_takes hG13 (sh_LAYat_345) hr18) (Nat.le_of_ble_eq_true rfl) ⟨Nat.le_of_ble_eq_true rfl, Nat.le_of_ble_eq_true rfl⟩ rfl (Nat.le_of_ble_eq_true rfl) ?_
          have hG17 := gp_X12_takes hG13 (sh_LAYat_345) hr18
          refine vv_if_eq 68 75 dX12_qKind_68 (by decide) (fun c20 => ?_) (fun c20 => ?_)
          · rw [if_pos c20] at h
            refine vv_iconst 75 dX12_qKind_75 ik_5 ?_
            refine vv_istore_n (lv' := [(1, _), (0, _)]) 76 1 dX12_qKind_76 rfl (by decide) rfl ?_
            refine vv_iload_n 77 1 dX12_qKind_77 rfl rfl ?_
            refine vv_iconst 78 dX12_qKind_78 ik_5 ?_
            refine vv_icmp_ne 79 90 dX12_qKind_79 (by decide) (fun hc => absurd (by decide) hc) (fun _ => ?_)
            refine vv_aload_n 82 0 dX12_qKind_82 rfl rfl ?_
            refine vv_aload_n 83 0 dX12_qKind_83 rfl rfl ?_
            refine vv_getR 84 dX12_qKind_84 fl_12_182 rfl (g_l_291 hG17) (g_r_291_84 hG17) ?_
            obtain ⟨μ21, hr22, h⟩ := sh_bindv_e h
            refine v1_callV [_] 87 dX12_qKind_87 ck_X12_318 (g_l_291 hG17) ⟨by decide, rfl⟩ (t_X12_needs hG17 (sh_LAYat_346) hr22) (Nat.le_of_ble_eq_true rfl) ⟨Nat.le_of_ble_eq_true rfl, Nat.le_of_ble_eq_true rfl⟩ rfl (Nat.le_of_ble_eq_true rfl) ?_
            have hG21 := gp_X12_needs hG17 (sh_LAYat_346) hr22
            refine vv_iload_n 90 1 dX12_qKind_90 rfl rfl ?_
            obtain ⟨e1, e2⟩ := sh_some2 h
            refine vv_iret 91 dX12_qKind_91 rfl (Nat.le_refl _) (Nat.le_refl _) ⟨by rw [e1], e2⟩
          · rw [if_neg c20] at h
            refine vv_iconst 71 dX12_qKind_71 ik_4 ?_
            refine vv_goto 72 76 dX12_qKind_72 (by decide) ?_
            refine vv_istore_n (lv' := [(1, _), (0, _)]) 76 1 dX12_qKind_76 rfl (by decide) rfl ?_
            refine vv_iload_n 77 1 dX12_qKind_77 rfl rfl ?_
            refine vv_iconst 78 dX12_qKind_78 ik_5 ?_
            refine vv_icmp_ne 79 90 dX12_qKind_79 (by decide) (fun _ => ?_) (fun hc => absurd hc (by decide))
            refine vv_iload_n 90 1 dX12_qKind_90 rfl rfl ?_
            obtain ⟨e1, e2⟩ := sh_some2 h
            refine vv_iret 91 dX12_qKind_91 rfl (Nat.le_refl _) (Nat.le_refl _) ⟨by rw [e1], e2⟩
        · rw [if_neg c16] at h
          refine vv_iconst 56 dX12_qKind_56 ik_3 ?_
          refine vv_goto 57 76 dX12_qKind_57 (by decide) ?_
          refine vv_istore_n (lv' := [(1, _), (0, _)]) 76 1 dX12_qKind_76 rfl (by decide) rfl ?_
          refine vv_iload_n 77 1 dX12_qKind_77 rfl rfl ?_
          refine vv_iconst 78 dX12_qKind_78 ik_5 ?_
          refine vv_icmp_ne 79 90 dX12_qKind_79 (by decide) (fun _ => ?_) (fun hc => absurd hc (by decide))
          refine vv_iload_n 90 1 dX12_qKind_90 rfl rfl ?_
          obtain ⟨e1, e2⟩ := sh_some2 h
          refine vv_iret 91 dX12_qKind_91 rfl (Nat.le_refl _) (Nat.le_refl _) ⟨by rw [e1], e2⟩
      · rw [if_neg c12] at h
        refine vv_iconst 41 dX12_qKind_41 ik_2 ?_
        refine vv_goto 42 76 dX12_qKind_42 (by decide) ?_
        refine vv_istore_n (lv' := [(1, _), (0, _)]) 76 1 dX12_qKind_76 rfl (by decide) rfl ?_
        refine vv_iload_n 77 1 dX12_qKind_77 rfl rfl ?_
        refine vv_iconst 78 dX12_qKind_78 ik_5 ?_
        refine vv_icmp_ne 79 90 dX12_qKind_79 (by decide) (fun _ => ?_) (fun hc => absurd hc (by decide))
        refine vv_iload_n 90 1 dX12_qKind_90 rfl rfl ?_
        obtain ⟨e1, e2⟩ := sh_some2 h
        refine vv_iret 91 dX12_qKind_91 rfl (Nat.le_refl _) (Nat.le_refl _) ⟨by rw [e1], e2⟩
    · rw [if_neg c8] at h
      refine vv_iconst 26 dX12_qKind_26 ik_1 ?_
      refine vv_goto 27 76 dX12_qKind_27 (by decide) ?_
      refine vv_istore_n (lv' := [(1, _), (0, _)]) 76 1 dX12_qKind_76 rfl (by decide) rfl ?_
      refine vv_iload_n 77 1 dX12_qKind_77 rfl rfl ?_
      refine vv_iconst 78 dX12_qKind_78 ik_5 ?_
      refine vv_icmp_ne 79 90 dX12_qKind_79 (by decide) (fun _ => ?_) (fun hc => absurd hc (by decide))
      refine vv_iload_n 90 1 dX12_qKind_90 rfl rfl ?_
      obtain ⟨e1, e2⟩ := sh_some2 h
      refine vv_iret 91 dX12_qKind_91 rfl (Nat.le_refl _) (Nat.le_refl _) ⟨by rw [e1], e2⟩
  · rw [if_neg c4] at h
    refine vv_iconst 11 dX12_qKind_11 ik_0 ?_
    refine vv_goto 12 76 dX12_qKind_12 (by decide) ?_
    refine vv_istore_n (lv' := [(1, _), (0, _)]) 76 1 dX12_qKind_76 rfl (by decide) rfl ?_
    refine vv_iload_n 77 1 dX12_qKind_77 rfl rfl ?_
    refine vv_iconst 78 dX12_qKind_78 ik_5 ?_
    refine vv_icmp_ne 79 90 dX12_qKind_79 (by decide) (fun _ => ?_) (fun hc => absurd hc (by decide))
    refine vv_iload_n 90 1 dX12_qKind_90 rfl rfl ?_
    obtain ⟨e1, e2⟩ := sh_some2 h
    refine vv_iret 91 dX12_qKind_91 rfl (Nat.le_refl _) (Nat.le_refl _) ⟨by rw [e1], e2⟩
noncomputable def F_X12_qTakes : Nat → Nat → Int32 → Int64 → Int32 → Int32 → sh_Mem → Option sh_Mem
  | 0, _, _, _, _, _, _ => none
  | fuel + 1, lbl, i1, l2, i4, i5, μ => match lbl with
    | 1 => (if i1 = 0 then F_X12_qTakes fuel 2 i1 l2 i4 0 μ else F_X12_qTakes fuel 2 i1 l2 i4 0 μ)
    | 2 => (if i1 = 1 then (if i5 = 0 then F_X12_qTakes fuel 4 i1 l2 i4 i5 μ else F_X12_qTakes fuel 3 i1 l2 i4 i5 μ) else F_X12_qTakes fuel 4 i1 l2 i4 i5 μ)
    | 3 => sh_let (sh_setL μ 291 110 (i4).toInt64) (fun μ40 => F_X12_qTakes fuel 4 i1 l2 i4 i5 μ40)
    | 4 => (if i1 = 2 then (if i5 = 0 then F_X12_qTakes fuel 5 i1 l2 i4 i5 μ else sh_let (sh_setL μ 291 110 ((sh_l μ 291 110) + 1)) (fun μ43 => F_X12_qTakes fuel 5 i1 l2 i4 i5 μ43)) else F_X12_qTakes fuel 5 i1 l2 i4 i5 μ)
    | 5 => (if i1 = 3 then sh_let (sh_setL μ 291 110 ((sh_l μ 291 110) + l2)) (fun μ45 => F_X12_qTakes fuel 6 i1 l2 i4 i5 μ45) else F_X12_qTakes fuel 6 i1 l2 i4 i5 μ)
    | 6 => (if i1 ≤ 3 then F_X12_qTakes fuel 8 i1 l2 i4 i5 μ else (if (sh_i μ 291 111) = 0 then (if i1 = 4 then (if (lg_cmp l2 (sh_l μ 291 110)) ≤ 0 then F_X12_qTakes fuel 8 i1 l2 i4 i5 μ else F_X12_qTakes fuel 7 i1 l2 i4 i5 μ) else (if 0 ≤ (lg_cmp l2 (sh_l μ 291 110)) then F_X12_qTakes fuel 8 i1 l2 i4 i5 μ else F_X12_qTakes fuel 7 i1 l2 i4 i5 μ)) else F_X12_qTakes fuel 7 i1 l2 i4 i5 μ))
    | 7 => sh_let (sh_setL μ 291 110 l2) (fun μ51 => F_X12_qTakes fuel 8 i1 l2 i4 i5 μ51)
    | 8 => sh_let (sh_setI μ 291 111 0) (fun μ52 => some μ52)
    | _ => none
noncomputable def f_X12_qTakes (a1 : Int32) (a2 : Int64) (a3 : Int32) (μ : sh_Mem) : Option sh_Mem := (if 3 ≤ a1 then F_X12_qTakes sh_fuel 1 a1 a2 a3 0 μ else (if (lg_cmp a2 1) = 0 then (if a1 = 0 then (if (lg_cmp (sh_l μ 291 110) (-1)) = 0 then F_X12_qTakes sh_fuel 3 a1 a2 a3 1 μ else F_X12_qTakes sh_fuel 2 a1 a2 a3 1 μ) else F_X12_qTakes sh_fuel 2 a1 a2 a3 1 μ) else F_X12_qTakes sh_fuel 1 a1 a2 a3 0 μ))
theorem gpl_X12_qTakes (fuel : Nat) : (∀ ⦃i1 : Int32⦄ ⦃l2 : Int64⦄ ⦃i4 : Int32⦄ ⦃i5 : Int32⦄ ⦃μ μ' : sh_Mem⦄, sh_G μ → F_X12_qTakes fuel 1 i1 l2 i4 i5 μ = some μ' → sh_G μ') ∧ (∀ ⦃i1 : Int32⦄ ⦃l2 : Int64⦄ ⦃i4 : Int32⦄ ⦃i5 : Int32⦄ ⦃μ μ' : sh_Mem⦄, sh_G μ → F_X12_qTakes fuel 2 i1 l2 i4 i5 μ = some μ' → sh_G μ') ∧ (∀ ⦃i1 : Int32⦄ ⦃l2 : Int64⦄ ⦃i4 : Int32⦄ ⦃i5 : Int32⦄ ⦃μ μ' : sh_Mem⦄, sh_G μ → F_X12_qTakes fuel 3 i1 l2 i4 i5 μ = some μ' → sh_G μ') ∧ (∀ ⦃i1 : Int32⦄ ⦃l2 : Int64⦄ ⦃i4 : Int32⦄ ⦃i5 : Int32⦄ ⦃μ μ' : sh_Mem⦄, sh_G μ → F_X12_qTakes fuel 4 i1 l2 i4 i5 μ = some μ' → sh_G μ') ∧ (∀ ⦃i1 : Int32⦄ ⦃l2 : Int64⦄ ⦃i4 : Int32⦄ ⦃i5 : Int32⦄ ⦃μ μ' : sh_Mem⦄, sh_G μ → F_X12_qTakes fuel 5 i1 l2 i4 i5 μ = some μ' → sh_G μ') ∧ (∀ ⦃i1 : Int32⦄ ⦃l2 : Int64⦄ ⦃i4 : Int32⦄ ⦃i5 : Int32⦄ ⦃μ μ' : sh_Mem⦄, sh_G μ → F_X12_qTakes fuel 6 i1 l2 i4 i5 μ = some μ' → sh_G μ') ∧ (∀ ⦃i1 : Int32⦄ ⦃l2 : Int64⦄ ⦃i4 : Int32⦄ ⦃i5 : Int32⦄ ⦃μ μ' : sh_Mem⦄, sh_G μ → F_X12_qTakes fuel 7 i1 l2 i4 i5 μ = some μ' → sh_G μ') ∧ (∀ ⦃i1 : Int32⦄ ⦃l2 : Int64⦄ ⦃i4 : Int32⦄ ⦃i5 : Int32⦄ ⦃μ μ' : sh_Mem⦄, sh_G μ → F_X12_qTakes fuel 8 i1 l2 i4 i5 μ = some μ' → sh_G μ') := by
  induction fuel with
  | zero => exact ⟨(by intro i1 l2 i4 i5 μ μ' hG h; cases h), (by intro i1 l2 i4 i5 μ μ' hG h; cases h), (by intro i1 l2 i4 i5 μ μ' hG h; cases h), (by intro i1 l2 i4 i5 μ μ' hG h; cases h), (by intro i1 l2 i4 i5 μ μ' hG h; cases h), (by intro i1 l2 i4 i5 μ μ' hG h; cases h), (by intro i1 l2 i4 i5 μ μ' hG h; cases h), (by intro i1 l2 i4 i5 μ μ' hG h; cases h)⟩
  | succ fuel ih =>
    obtain ⟨ih_15, ih_38, ih_48, ih_55, ih_75, ih_90, ih_128, ih_133⟩ := ih
    refine ⟨?_, ?_, ?_, ?_, ?_, ?_, ?_, ?_⟩
    · intro i1 l2 i4 i5 μ μ' hG h
      replace h : ((if i1 = 0 then F_X12_qTakes fuel 2 i1 l2 i4 0 μ else F_X12_qTakes fuel 2 i1 l2 i4 0 μ) : Option sh_Mem) = some μ' := h
      by_cases c37 : i1 = 0
      · rw [if_pos c37] at h
        exact ih_38 hG h
      · rw [if_neg c37] at h
        exact ih_38 hG h
    · intro i1 l2 i4 i5 μ μ' hG h
      replace h : ((if i1 = 1 then (if i5 = 0 then F_X12_qTakes fuel 4 i1 l2 i4 i5 μ else F_X12_qTakes fuel 3 i1 l2 i4 i5 μ) else F_X12_qTakes fuel 4 i1 l2 i4 i5 μ) : Option sh_Mem) = some μ' := h
      by_cases c38 : i1 = 1
      · rw [if_pos c38] at h
        by_cases c39 : i5 = 0
        · rw [if_pos c39] at h
          exact ih_55 hG h
        · rw [if_neg c39] at h
          exact ih_48 hG h
      · rw [if_neg c38] at h
        exact ih_55 hG h
    · intro i1 l2 i4 i5 μ μ' hG h
      replace h : (sh_let (sh_setL μ 291 110 (i4).toInt64) (fun μ40 => F_X12_qTakes fuel 4 i1 l2 i4 i5 μ40) : Option sh_Mem) = some μ' := h
      obtain ⟨μ40, eμ40⟩ : ∃ y : sh_Mem, y = (sh_setL μ 291 110 (i4).toInt64) := ⟨_, rfl⟩
      rw [sh_let_eq eμ40] at h
      have hG40 : sh_G μ40 := by rw [eμ40]; exact hG
      exact ih_55 hG40 h
    · intro i1 l2 i4 i5 μ μ' hG h
      replace h : ((if i1 = 2 then (if i5 = 0 then F_X12_qTakes fuel 5 i1 l2 i4 i5 μ else sh_let (sh_setL μ 291 110 ((sh_l μ 291 110) + 1)) (fun μ43 => F_X12_qTakes fuel 5 i1 l2 i4 i5 μ43)) else F_X12_qTakes fuel 5 i1 l2 i4 i5 μ) : Option sh_Mem) = some μ' := h
      by_cases c41 : i1 = 2
      · rw [if_pos c41] at h
        by_cases c42 : i5 = 0
        · rw [if_pos c42] at h
          exact ih_75 hG h
        · rw [if_neg c42] at h
          obtain ⟨μ43, eμ43⟩ : ∃ y : sh_Mem, y = (sh_setL μ 291 110 ((sh_l μ 291 110) + 1)) := ⟨_, rfl⟩
          rw [sh_let_eq eμ43] at h
          have hG43 : sh_G μ43 := by rw [eμ43]; exact hG
          exact ih_75 hG43 h
      · rw [if_neg c41] at h
        exact ih_75 hG h
    · intro i1 l2 i4 i5 μ μ' hG h
      replace h : ((if i1 = 3 then sh_let (sh_setL μ 291 110 ((sh_l μ 291 110) + l2)) (fun μ45 => F_X12_qTakes fuel 6 i1 l2 i4 i5 μ45) else F_X12_qTakes fuel 6 i1 l2 i4 i5 μ) : Option sh_Mem) = some μ' := h
      by_cases c44 : i1 = 3
      · rw [if_pos c44] at h
        obtain ⟨μ45, eμ45⟩ : ∃ y : sh_Mem, y = (sh_setL μ 291 110 ((sh_l μ 291 110) + l2)) := ⟨_, rfl⟩
        rw [sh_let_eq eμ45] at h
        have hG45 : sh_G μ45 := by rw [eμ45]; exact hG
        exact ih_90 hG45 h
      · rw [if_neg c44] at h
        exact ih_90 hG h
    · intro i1 l2 i4 i5 μ μ' hG h
      replace h : ((if i1 ≤ 3 then F_X12_qTakes fuel 8 i1 l2 i4 i5 μ else (if (sh_i μ 291 111) = 0 then (if i1 = 4 then (if (lg_cmp l2 (sh_l μ 291 110)) ≤ 0 then F_X12_qTakes fuel 8 i1 l2 i4 i5 μ else F_X12_qTakes fuel 7 i1 l2 i4 i5 μ) else (if 0 ≤ (lg_cmp l2 (sh_l μ 291 110)) then F_X12_qTakes fuel 8 i1 l2 i4 i5 μ else F_X12_qTakes fuel 7 i1 l2 i4 i5 μ)) else F_X12_qTakes fuel 7 i1 l2 i4 i5 μ)) : Option sh_Mem) = some μ' := h
      by_cases c46 : i1 ≤ 3
      · rw [if_pos c46] at h
        exact ih_133 hG h
      · rw [if_neg c46] at h
        by_cases c47 : (sh_i μ 291 111) = 0
        · rw [if_pos c47] at h
          by_cases c48 : i1 = 4
          · rw [if_pos c48] at h
            by_cases c50 : (lg_cmp l2 (sh_l μ 291 110)) ≤ 0
            · rw [if_pos c50] at h
              exact ih_133 hG h
            · rw [if_neg c50] at h
              exact ih_128 hG h
          · rw [if_neg c48] at h
            by_cases c49 : 0 ≤ (lg_cmp l2 (sh_l μ 291 110))
            · rw [if_pos c49] at h
              exact ih_133 hG h
            · rw [if_neg c49] at h
              exact ih_128 hG h
        · rw [if_neg c47] at h
          exact ih_128 hG h
    · intro i1 l2 i4 i5 μ μ' hG h
      replace h : (sh_let (sh_setL μ 291 110 l2) (fun μ51 => F_X12_qTakes fuel 8 i1 l2 i4 i5 μ51) : Option sh_Mem) = some μ' := h
      obtain ⟨μ51, eμ51⟩ : ∃ y : sh_Mem, y = (sh_setL μ 291 110 l2) := ⟨_, rfl⟩
      rw [sh_let_eq eμ51] at h
      have hG51 : sh_G μ51 := by rw [eμ51]; exact hG
      exact ih_133 hG51 h
    · intro i1 l2 i4 i5 μ μ' hG h
      replace h : (sh_let (sh_setI μ 291 111 0) (fun μ52 => some μ52) : Option sh_Mem) = some μ' := h
      obtain ⟨μ52, eμ52⟩ : ∃ y : sh_Mem, y = (sh_setI μ 291 111 0) := ⟨_, rfl⟩
      rw [sh_let_eq eμ52] at h
      have hG52 : sh_G μ52 := by rw [eμ52]; exact hG
      have e2 := Option.some.inj h
      exact e2 ▸ hG52
theorem tl_X12_qTakes (fuel : Nat) : (∀ ⦃i1 : Int32⦄ ⦃l2 : Int64⦄ ⦃i4 : Int32⦄ ⦃i5 : Int32⦄ ⦃μ μ' : sh_Mem⦄, sh_G μ → F_X12_qTakes fuel 1 i1 l2 i4 i5 μ = some μ' → sh_V0 l B D ca 1 M_X12_qTakes 15 [(0, .ref 291), (1, .int i1), (2, .long l2), (4, .int i4)] [] μ (fun v0 μ0 => v0 = none ∧ μ0 = μ')) ∧ (∀ ⦃i1 : Int32⦄ ⦃l2 : Int64⦄ ⦃i4 : Int32⦄ ⦃i5 : Int32⦄ ⦃μ μ' : sh_Mem⦄, sh_G μ → F_X12_qTakes fuel 2 i1 l2 i4 i5 μ = some μ' → sh_V0 l B D ca 1 M_X12_qTakes 38 [(0, .ref 291), (1, .int i1), (2, .long l2), (4, .int i4), (5, .int i5)] [] μ (fun v0 μ0 => v0 = none ∧ μ0 = μ')) ∧ (∀ ⦃i1 : Int32⦄ ⦃l2 : Int64⦄ ⦃i4 : Int32⦄ ⦃i5 : Int32⦄ ⦃μ μ' : sh_Mem⦄, sh_G μ → F_X12_qTakes fuel 3 i1 l2 i4 i5 μ = some μ' → sh_V0 l B D ca 1 M_X12_qTakes 48 [(0, .ref 291), (1, .int i1), (2, .long l2), (4, .int i4), (5, .int i5)] [] μ (fun v0 μ0 => v0 = none ∧ μ0 = μ')) ∧ (∀ ⦃i1 : Int32⦄ ⦃l2 : Int64⦄ ⦃i4 : Int32⦄ ⦃i5 : Int32⦄ ⦃μ μ' : sh_Mem⦄, sh_G μ → F_X12_qTakes fuel 4 i1 l2 i4 i5 μ = some μ' → sh_V0 l B D ca 1 M_X12_qTakes 55 [(0, .ref 291), (1, .int i1), (2, .long l2), (4, .int i4), (5, .int i5)] [] μ (fun v0 μ0 => v0 = none ∧ μ0 = μ')) ∧ (∀ ⦃i1 : Int32⦄ ⦃l2 : Int64⦄ ⦃i4 : Int32⦄ ⦃i5 : Int32⦄ ⦃μ μ' : sh_Mem⦄, sh_G μ → F_X12_qTakes fuel 5 i1 l2 i4 i5 μ = some μ' → sh_V0 l B D ca 1 M_X12_qTakes 75 [(0, .ref 291), (1, .int i1), (2, .long l2), (4, .int i4), (5, .int i5)] [] μ (fun v0 μ0 => v0 = none ∧ μ0 = μ')) ∧ (∀ ⦃i1 : Int32⦄ ⦃l2 : Int64⦄ ⦃i4 : Int32⦄ ⦃i5 : Int32⦄ ⦃μ μ' : sh_Mem⦄, sh_G μ → F_X12_qTakes fuel 6 i1 l2 i4 i5 μ = some μ' → sh_V0 l B D ca 1 M_X12_qTakes 90 [(0, .ref 291), (1, .int i1), (2, .long l2), (4, .int i4), (5, .int i5)] [] μ (fun v0 μ0 => v0 = none ∧ μ0 = μ')) ∧ (∀ ⦃i1 : Int32⦄ ⦃l2 : Int64⦄ ⦃i4 : Int32⦄ ⦃i5 : Int32⦄ ⦃μ μ' : sh_Mem⦄, sh_G μ → F_X12_qTakes fuel 7 i1 l2 i4 i5 μ = some μ' → sh_V0 l B D ca 1 M_X12_qTakes 128 [(0, .ref 291), (1, .int i1), (2, .long l2), (4, .int i4), (5, .int i5)] [] μ (fun v0 μ0 => v0 = none ∧ μ0 = μ')) ∧ (∀ ⦃i1 : Int32⦄ ⦃l2 : Int64⦄ ⦃i4 : Int32⦄ ⦃i5 : Int32⦄ ⦃μ μ' : sh_Mem⦄, sh_G μ → F_X12_qTakes fuel 8 i1 l2 i4 i5 μ = some μ' → sh_V0 l B D ca 1 M_X12_qTakes 133 [(0, .ref 291), (1, .int i1), (2, .long l2), (4, .int i4), (5, .int i5)] [] μ (fun v0 μ0 => v0 = none ∧ μ0 = μ')) := by
  induction fuel with
  | zero => exact ⟨(by intro i1 l2 i4 i5 μ μ' hG h; cases h), (by intro i1 l2 i4 i5 μ μ' hG h; cases h), (by intro i1 l2 i4 i5 μ μ' hG h; cases h), (by intro i1 l2 i4 i5 μ μ' hG h; cases h), (by intro i1 l2 i4 i5 μ μ' hG h; cases h), (by intro i1 l2 i4 i5 μ μ' hG h; cases h), (by intro i1 l2 i4 i5 μ μ' hG h; cases h), (by intro i1 l2 i4 i5 μ μ' hG h; cases h)⟩
  | succ fuel ih =>
    obtain ⟨ih_15, ih_38, ih_48, ih_55, ih_75, ih_90, ih_128, ih_133⟩ := ih
    refine ⟨?_, ?_, ?_, ?_, ?_, ?_, ?_, ?_⟩
    · intro i1 l2 i4 i5 μ μ' hG h
      replace h : ((if i1 = 0 then F_X12_qTakes fuel 2 i1 l2 i4 0 μ else F_X12_qTakes fuel 2 i1 l2 i4 0 μ) : Option sh_Mem) = some μ' := h
      refine vv_iconst 15 dX12_qTakes_15 ik_0 ?_
      refine vv_istore (lv' := [(5, _), (0, _), (1, _), (2, _), (4, _)]) 16 5 dX12_qTakes_16 (by decide) rfl ?_
      refine vv_iload_n 18 1 dX12_qTakes_18 rfl rfl ?_
      refine vv_if_ne 19 38 dX12_qTakes_19 (by decide) (fun c37 => ?_) (fun c37 => ?_)
      · rw [if_neg c37] at h
        refine vv_sub [(0, _), (1, _), (2, _), (4, _), (5, _)] (sh_subm [1, 2, 3, 4, 0] rfl) ?_
        exact ih_38 hG h
      · rw [if_pos c37] at h
        refine vv_iload 22 5 dX12_qTakes_22 rfl ?_
        refine vv_if_eq 24 38 dX12_qTakes_24 (by decide) (fun _ => ?_) (fun hc => absurd (by decide) hc)
        refine vv_sub [(0, _), (1, _), (2, _), (4, _), (5, _)] (sh_subm [1, 2, 3, 4, 0] rfl) ?_
        exact ih_38 hG h
    · intro i1 l2 i4 i5 μ μ' hG h
      replace h : ((if i1 = 1 then (if i5 = 0 then F_X12_qTakes fuel 4 i1 l2 i4 i5 μ else F_X12_qTakes fuel 3 i1 l2 i4 i5 μ) else F_X12_qTakes fuel 4 i1 l2 i4 i5 μ) : Option sh_Mem) = some μ' := h
      refine vv_iload_n 38 1 dX12_qTakes_38 rfl rfl ?_
      refine vv_iconst 39 dX12_qTakes_39 ik_1 ?_
      refine vv_icmp_ne 40 55 dX12_qTakes_40 (by decide) (fun c38 => ?_) (fun c38 => ?_)
      · rw [if_neg c38] at h
        refine vv_sub [(0, _), (1, _), (2, _), (4, _), (5, _)] (sh_subm [0, 1, 2, 3, 4] rfl) ?_
        exact ih_55 hG h
      · rw [if_pos c38] at h
        refine vv_iload 43 5 dX12_qTakes_43 rfl ?_
        refine vv_if_eq 45 55 dX12_qTakes_45 (by decide) (fun c39 => ?_) (fun c39 => ?_)
        · rw [if_pos c39] at h
          refine vv_sub [(0, _), (1, _), (2, _), (4, _), (5, _)] (sh_subm [0, 1, 2, 3, 4] rfl) ?_
          exact ih_55 hG h
        · rw [if_neg c39] at h
          refine vv_sub [(0, _), (1, _), (2, _), (4, _), (5, _)] (sh_subm [0, 1, 2, 3, 4] rfl) ?_
          exact ih_48 hG h
    · intro i1 l2 i4 i5 μ μ' hG h
      replace h : (sh_let (sh_setL μ 291 110 (i4).toInt64) (fun μ40 => F_X12_qTakes fuel 4 i1 l2 i4 i5 μ40) : Option sh_Mem) = some μ' := h
      refine vv_aload_n 48 0 dX12_qTakes_48 rfl rfl ?_
      refine vv_iload 49 4 dX12_qTakes_49 rfl ?_
      refine vv_i2l 51 dX12_qTakes_51 ?_
      refine vn_putL 52 dX12_qTakes_52 fl_12_712 (Or.inl rfl) rfl (g_l_291 hG) (fun μ40 eμ40 => ?_)
      rw [sh_let_eq eμ40] at h
      have hG40 : sh_G μ40 := by rw [eμ40]; exact hG
      refine vv_sub [(0, _), (1, _), (2, _), (4, _), (5, _)] (sh_subm [0, 1, 2, 3, 4] rfl) ?_
      exact ih_55 hG40 h
    · intro i1 l2 i4 i5 μ μ' hG h
      replace h : ((if i1 = 2 then (if i5 = 0 then F_X12_qTakes fuel 5 i1 l2 i4 i5 μ else sh_let (sh_setL μ 291 110 ((sh_l μ 291 110) + 1)) (fun μ43 => F_X12_qTakes fuel 5 i1 l2 i4 i5 μ43)) else F_X12_qTakes fuel 5 i1 l2 i4 i5 μ) : Option sh_Mem) = some μ' := h
      refine vv_iload_n 55 1 dX12_qTakes_55 rfl rfl ?_
      refine vv_iconst 56 dX12_qTakes_56 ik_2 ?_
      refine vv_icmp_ne 57 75 dX12_qTakes_57 (by decide) (fun c41 => ?_) (fun c41 => ?_)
      · rw [if_neg c41] at h
        refine vv_sub [(0, _), (1, _), (2, _), (4, _), (5, _)] (sh_subm [0, 1, 2, 3, 4] rfl) ?_
        exact ih_75 hG h
      · rw [if_pos c41] at h
        refine vv_iload 60 5 dX12_qTakes_60 rfl ?_
        refine vv_if_eq 62 75 dX12_qTakes_62 (by decide) (fun c42 => ?_) (fun c42 => ?_)
        · rw [if_pos c42] at h
          refine vv_sub [(0, _), (1, _), (2, _), (4, _), (5, _)] (sh_subm [0, 1, 2, 3, 4] rfl) ?_
          exact ih_75 hG h
        · rw [if_neg c42] at h
          refine vv_aload_n 65 0 dX12_qTakes_65 rfl rfl ?_
          refine vv_dup_ref 66 dX12_qTakes_66 ?_
          refine vv_getL 67 dX12_qTakes_67 fl_12_712 rfl (g_l_291 hG) ?_
          refine vv_lconst 70 dX12_qTakes_70 lk_1 ?_
          refine vv_ladd 71 dX12_qTakes_71 ?_
          refine vn_putL 72 dX12_qTakes_72 fl_12_712 (Or.inl rfl) rfl (g_l_291 hG) (fun μ43 eμ43 => ?_)
          rw [sh_let_eq eμ43] at h
          have hG43 : sh_G μ43 := by rw [eμ43]; exact hG
          refine vv_sub [(0, _), (1, _), (2, _), (4, _), (5, _)] (sh_subm [0, 1, 2, 3, 4] rfl) ?_
          exact ih_75 hG43 h
    · intro i1 l2 i4 i5 μ μ' hG h
      replace h : ((if i1 = 3 then sh_let (sh_setL μ 291 110 ((sh_l μ 291 110) + l2)) (fun μ45 => F_X12_qTakes fuel 6 i1 l2 i4 i5 μ45) else F_X12_qTakes fuel 6 i1 l2 i4 i5 μ) : Option sh_Mem) = some μ' := h
      refine vv_iload_n 75 1 dX12_qTakes_75 rfl rfl ?_
      refine vv_iconst 76 dX12_qTakes_76 ik_3 ?_
      refine vv_icmp_ne 77 90 dX12_qTakes_77 (by decide) (fun c44 => ?_) (fun c44 => ?_)
      · rw [if_neg c44] at h
        refine vv_sub [(0, _), (1, _), (2, _), (4, _), (5, _)] (sh_subm [0, 1, 2, 3, 4] rfl) ?_
        exact ih_90 hG h
      · rw [if_pos c44] at h
        refine vv_aload_n 80 0 dX12_qTakes_80 rfl rfl ?_
        refine vv_dup_ref 81 dX12_qTakes_81 ?_
        refine vv_getL 82 dX12_qTakes_82 fl_12_712 rfl (g_l_291 hG) ?_
        refine vv_lload_n 85 2 dX12_qTakes_85 rfl rfl ?_
        refine vv_ladd 86 dX12_qTakes_86 ?_
        refine vn_putL 87 dX12_qTakes_87 fl_12_712 (Or.inl rfl) rfl (g_l_291 hG) (fun μ45 eμ45 => ?_)
        rw [sh_let_eq eμ45] at h
        have hG45 : sh_G μ45 := by rw [eμ45]; exact hG
        refine vv_sub [(0, _), (1, _), (2, _), (4, _), (5, _)] (sh_subm [0, 1, 2, 3, 4] rfl) ?_
        exact ih_90 hG45 h
    · intro i1 l2 i4 i5 μ μ' hG h
      replace h : ((if i1 ≤ 3 then F_X12_qTakes fuel 8 i1 l2 i4 i5 μ else (if (sh_i μ 291 111) = 0 then (if i1 = 4 then (if (lg_cmp l2 (sh_l μ 291 110)) ≤ 0 then F_X12_qTakes fuel 8 i1 l2 i4 i5 μ else F_X12_qTakes fuel 7 i1 l2 i4 i5 μ) else (if 0 ≤ (lg_cmp l2 (sh_l μ 291 110)) then F_X12_qTakes fuel 8 i1 l2 i4 i5 μ else F_X12_qTakes fuel 7 i1 l2 i4 i5 μ)) else F_X12_qTakes fuel 7 i1 l2 i4 i5 μ)) : Option sh_Mem) = some μ' := h
      refine vv_iload_n 90 1 dX12_qTakes_90 rfl rfl ?_
      refine vv_iconst 91 dX12_qTakes_91 ik_3 ?_
      refine vv_icmp_le 92 133 dX12_qTakes_92 (by decide) (fun c46 => ?_) (fun c46 => ?_)
      · rw [if_pos c46] at h
        refine vv_sub [(0, _), (1, _), (2, _), (4, _), (5, _)] (sh_subm [0, 1, 2, 3, 4] rfl) ?_
        exact ih_133 hG h
      · rw [if_neg c46] at h
        refine vv_aload_n 95 0 dX12_qTakes_95 rfl rfl ?_
        refine vv_getI 96 dX12_qTakes_96 fl_12_717 rfl (g_l_291 hG) ?_
        refine vv_if_ne 99 128 dX12_qTakes_99 (by decide) (fun c47 => ?_) (fun c47 => ?_)
        · rw [if_neg c47] at h
          refine vv_sub [(0, _), (1, _), (2, _), (4, _), (5, _)] (sh_subm [0, 1, 2, 3, 4] rfl) ?_
          exact ih_128 hG h
        · rw [if_pos c47] at h
          refine vv_iload_n 102 1 dX12_qTakes_102 rfl rfl ?_
          refine vv_iconst 103 dX12_qTakes_103 ik_4 ?_
          refine vv_icmp_ne 104 119 dX12_qTakes_104 (by decide) (fun c48 => ?_) (fun c48 => ?_)
          · rw [if_neg c48] at h
            refine vv_lload_n 119 2 dX12_qTakes_119 rfl rfl ?_
            refine vv_aload_n 120 0 dX12_qTakes_120 rfl rfl ?_
            refine vv_getL 121 dX12_qTakes_121 fl_12_712 rfl (g_l_291 hG) ?_
            refine vv_lcmp 124 dX12_qTakes_124 ?_
            refine vv_if_ge 125 133 dX12_qTakes_125 (by decide) (fun c49 => ?_) (fun c49 => ?_)
            · rw [if_pos c49] at h
              refine vv_sub [(0, _), (1, _), (2, _), (4, _), (5, _)] (sh_subm [0, 1, 2, 3, 4] rfl) ?_
              exact ih_133 hG h
            · rw [if_neg c49] at h
              refine vv_sub [(0, _), (1, _), (2, _), (4, _), (5, _)] (sh_subm [0, 1, 2, 3, 4] rfl) ?_
              exact ih_128 hG h
          · rw [if_pos c48] at h
            refine vv_lload_n 107 2 dX12_qTakes_107 rfl rfl ?_
            refine vv_aload_n 108 0 dX12_qTakes_108 rfl rfl ?_
            refine vv_getL 109 dX12_qTakes_109 fl_12_712 rfl (g_l_291 hG) ?_
            refine vv_lcmp 112 dX12_qTakes_112 ?_
            refine vv_if_le 113 133 dX12_qTakes_113 (by decide) (fun c50 => ?_) (fun c50 => ?_)
            · rw [if_pos c50] at h
              refine vv_sub [(0, _), (1, _), (2, _), (4, _), (5, _)] (sh_subm [0, 1, 2, 3, 4] rfl) ?_
              exact ih_133 hG h
            · rw [if_neg c50] at h
              refine vv_goto 116 128 dX12_qTakes_116 (by decide) ?_
              refine vv_sub [(0, _), (1, _), (2, _), (4, _), (5, _)] (sh_subm [0, 1, 2, 3, 4] rfl) ?_
              exact ih_128 hG h
    · intro i1 l2 i4 i5 μ μ' hG h
      replace h : (sh_let (sh_setL μ 291 110 l2) (fun μ51 => F_X12_qTakes fuel 8 i1 l2 i4 i5 μ51) : Option sh_Mem) = some μ' := h
      refine vv_aload_n 128 0 dX12_qTakes_128 rfl rfl ?_
      refine vv_lload_n 129 2 dX12_qTakes_129 rfl rfl ?_
      refine vn_putL 130 dX12_qTakes_130 fl_12_712 (Or.inl rfl) rfl (g_l_291 hG) (fun μ51 eμ51 => ?_)
      rw [sh_let_eq eμ51] at h
      have hG51 : sh_G μ51 := by rw [eμ51]; exact hG
      refine vv_sub [(0, _), (1, _), (2, _), (4, _), (5, _)] (sh_subm [0, 1, 2, 3, 4] rfl) ?_
      exact ih_133 hG51 h
    · intro i1 l2 i4 i5 μ μ' hG h
      replace h : (sh_let (sh_setI μ 291 111 0) (fun μ52 => some μ52) : Option sh_Mem) = some μ' := h
      refine vv_aload_n 133 0 dX12_qTakes_133 rfl rfl ?_
      refine vv_iconst 134 dX12_qTakes_134 ik_0 ?_
      refine vn_putZ 135 dX12_qTakes_135 fl_12_717 (Or.inl rfl) rfl (by decide) (g_l_291 hG) (fun μ52 eμ52 => ?_)
      rw [sh_let_eq eμ52] at h
      have hG52 : sh_G μ52 := by rw [eμ52]; exact hG
      have e2 := Option.some.inj h
      refine vv_vret 138 dX12_qTakes_138 rfl (Nat.le_refl _) (Nat.le_refl _) ⟨rfl, e2⟩
theorem gp_X12_qTakes {a1 : Int32} {a2 : Int64} {a3 : Int32} {μ μ' : sh_Mem} (hG : sh_G μ) (h : f_X12_qTakes a1 a2 a3 μ = some μ') : sh_G μ' := by
  have ih_15 := (gpl_X12_qTakes sh_fuel).1
  have ih_38 := (gpl_X12_qTakes sh_fuel).2.1
  have ih_48 := (gpl_X12_qTakes sh_fuel).2.2.1
  have ih_55 := (gpl_X12_qTakes sh_fuel).2.2.2.1
  have ih_75 := (gpl_X12_qTakes sh_fuel).2.2.2.2.1
  have ih_90 := (gpl_X12_qTakes sh_fuel).2.2.2.2.2.1
  have ih_128 := (gpl_X12_qTakes sh_fuel).2.2.2.2.2.2.1
  have ih_133 := (gpl_X12_qTakes sh_fuel).2.2.2.2.2.2.2
  unfold f_X12_qTakes at h
  by_cases c53 : 3 ≤ a1
  · rw [if_pos c53] at h
    exact ih_15 hG h
  · rw [if_neg c53] at h
    by_cases c54 : (lg_cmp a2 1) = 0
    · rw [if_pos c54] at h
      by_cases c55 : a1 = 0
      · rw [if_pos c55] at h
        by_cases c56 : (lg_cmp (sh_l μ 291 110) (-1)) = 0
        · rw [if_pos c56] at h
          exact ih_48 hG h
        · rw [if_neg c56] at h
          exact ih_38 hG h
      · rw [if_neg c55] at h
        exact ih_38 hG h
    · rw [if_neg c54] at h
      exact ih_15 hG h
theorem t_X12_qTakes {a1 : Int32} {a2 : Int64} {a3 : Int32} {μ μ' : sh_Mem} (hG : sh_G μ) (h : f_X12_qTakes a1 a2 a3 μ = some μ') : sh_C0 l B D ca 1 M_X12_qTakes [.ref 291, .int a1, .long a2, .int a3] μ (fun v0 μ0 => v0 = none ∧ μ0 = μ') := by
  have ih_15 := (tl_X12_qTakes (l := l) (B := B) (D := D) (ca := ca) sh_fuel).1
  have ih_38 := (tl_X12_qTakes (l := l) (B := B) (D := D) (ca := ca) sh_fuel).2.1
  have ih_48 := (tl_X12_qTakes (l := l) (B := B) (D := D) (ca := ca) sh_fuel).2.2.1
  have ih_55 := (tl_X12_qTakes (l := l) (B := B) (D := D) (ca := ca) sh_fuel).2.2.2.1
  have ih_75 := (tl_X12_qTakes (l := l) (B := B) (D := D) (ca := ca) sh_fuel).2.2.2.2.1
  have ih_90 := (tl_X12_qTakes (l := l) (B := B) (D := D) (ca := ca) sh_fuel).2.2.2.2.2.1
  have ih_128 := (tl_X12_qTakes (l := l) (B := B) (D := D) (ca := ca) sh_fuel).2.2.2.2.2.2.1
  have ih_133 := (tl_X12_qTakes (l := l) (B := B) (D := D) (ca := ca) sh_fuel).2.2.2.2.2.2.2
  unfold f_X12_qTakes at h
  refine vv_iload_n 0 1 dX12_qTakes_0 rfl rfl ?_
  refine vv_iconst 1 dX12_qTakes_1 ik_3 ?_
  refine vv_icmp_ge 2 15 dX12_qTakes_2 (by decide) (fun c53 => ?_) (fun c53 => ?_)
  · rw [if_pos c53] at h
    refine vv_sub [(0, _), (1, _), (2, _), (4, _)] (sh_subm [0, 1, 2, 3] rfl) ?_
    exact ih_15 hG h
  · rw [if_neg c53] at h
    refine vv_lload_n 5 2 dX12_qTakes_5 rfl rfl ?_
    refine vv_lconst 6 dX12_qTakes_6 lk_1 ?_
    refine vv_lcmp 7 dX12_qTakes_7 ?_
    refine vv_if_ne 8 15 dX12_qTakes_8 (by decide) (fun c54 => ?_) (fun c54 => ?_)
    · rw [if_neg c54] at h
      refine vv_sub [(0, _), (1, _), (2, _), (4, _)] (sh_subm [0, 1, 2, 3] rfl) ?_
      exact ih_15 hG h
    · rw [if_pos c54] at h
      refine vv_iconst 11 dX12_qTakes_11 ik_1 ?_
      refine vv_goto 12 16 dX12_qTakes_12 (by decide) ?_
      refine vv_istore (lv' := [(5, _), (0, _), (1, _), (2, _), (4, _)]) 16 5 dX12_qTakes_16 (by decide) rfl ?_
      refine vv_iload_n 18 1 dX12_qTakes_18 rfl rfl ?_
      refine vv_if_ne 19 38 dX12_qTakes_19 (by decide) (fun c55 => ?_) (fun c55 => ?_)
      · rw [if_neg c55] at h
        refine vv_sub [(0, _), (1, _), (2, _), (4, _), (5, _)] (sh_subm [1, 2, 3, 4, 0] rfl) ?_
        exact ih_38 hG h
      · rw [if_pos c55] at h
        refine vv_iload 22 5 dX12_qTakes_22 rfl ?_
        refine vv_if_eq 24 38 dX12_qTakes_24 (by decide) (fun hc => absurd hc (by decide)) (fun _ => ?_)
        refine vv_aload_n 27 0 dX12_qTakes_27 rfl rfl ?_
        refine vv_getL 28 dX12_qTakes_28 fl_12_712 rfl (g_l_291 hG) ?_
        refine vv_ldc2 31 dX12_qTakes_31 kl_12_715 ?_
        refine vv_lcmp 34 dX12_qTakes_34 ?_
        refine vv_if_eq 35 48 dX12_qTakes_35 (by decide) (fun c56 => ?_) (fun c56 => ?_)
        · rw [if_pos c56] at h
          refine vv_sub [(0, _), (1, _), (2, _), (4, _), (5, _)] (sh_subm [1, 2, 3, 4, 0] rfl) ?_
          exact ih_48 hG h
        · rw [if_neg c56] at h
          refine vv_sub [(0, _), (1, _), (2, _), (4, _), (5, _)] (sh_subm [1, 2, 3, 4, 0] rfl) ?_
          exact ih_38 hG h
noncomputable def F_X12_checked : Nat → Nat → Nat → Nat → Int32 → Int32 → Int32 → sh_Mem → Option (Int32 × sh_Mem)
  | 0, _, _, _, _, _, _, _ => none
  | fuel + 1, lbl, n, r0, i1, i2, i3, μ => match lbl with
    | 1 => (if i1 ≤ i3 then some (i2, μ) else (if sh_in i3 n then sh_let ((((3 * i2) + (sh_i μ r0 i3.toNatClampNeg)) - ((3 * i2) + (sh_i μ r0 i3.toNatClampNeg)) / 251 * 251) : Int32) (fun x6 => F_X12_checked fuel 1 n r0 i1 x6 (i3 + 1) μ) else none))
    | _ => none
noncomputable def f_X12_checked (g : Nat) (n : Nat) (a2 : Int32) (μ : sh_Mem) : Option (Int32 × sh_Mem) := F_X12_checked sh_fuel 1 n g a2 227 0 μ
theorem gpl_X12_checked (fuel : Nat) : (∀ ⦃n : Nat⦄ ⦃r0 : Nat⦄ ⦃i1 : Int32⦄ ⦃i2 : Int32⦄ ⦃i3 : Int32⦄ ⦃μ μ' : sh_Mem⦄ ⦃v : Int32⦄, sh_G μ → sh_LAY[r0]? = some (13, n) → F_X12_checked fuel 1 n r0 i1 i2 i3 μ = some (v, μ') → sh_G μ') := by
  induction fuel with
  | zero => intro n r0 i1 i2 i3 μ μ' v hG hr0 h; cases h
  | succ fuel ih =>
    have ih_6 := ih
    intro n r0 i1 i2 i3 μ μ' v hG hr0 h
    replace h : ((if i1 ≤ i3 then some (i2, μ) else (if sh_in i3 n then sh_let ((((3 * i2) + (sh_i μ r0 i3.toNatClampNeg)) - ((3 * i2) + (sh_i μ r0 i3.toNatClampNeg)) / 251 * 251) : Int32) (fun x6 => F_X12_checked fuel 1 n r0 i1 x6 (i3 + 1) μ) else none)) : Option (Int32 × sh_Mem)) = some (v, μ') := h
    by_cases c4 : i1 ≤ i3
    · rw [if_pos c4] at h
      obtain ⟨e1, e2⟩ := sh_some2 h
      exact e2 ▸ hG
    · rw [if_neg c4] at h
      obtain ⟨k5, h⟩ := sh_chk h
      obtain ⟨x6, ex6⟩ : ∃ y : Int32, y = (((3 * i2) + (sh_i μ r0 i3.toNatClampNeg)) - ((3 * i2) + (sh_i μ r0 i3.toNatClampNeg)) / 251 * 251) := ⟨_, rfl⟩
      rw [sh_let_eq ex6] at h
      exact ih_6 hG hr0 h
theorem tl_X12_checked (fuel : Nat) : (∀ ⦃n : Nat⦄ ⦃r0 : Nat⦄ ⦃i1 : Int32⦄ ⦃i2 : Int32⦄ ⦃i3 : Int32⦄ ⦃μ μ' : sh_Mem⦄ ⦃v : Int32⦄, sh_G μ → sh_LAY[r0]? = some (13, n) → F_X12_checked fuel 1 n r0 i1 i2 i3 μ = some (v, μ') → sh_V0 l B D ca 1 M_X12_checked 6 [(0, .ref r0), (1, .int i1), (2, .int i2), (3, .int i3)] [] μ (fun v0 μ0 => v0 = some (.int v) ∧ μ0 = μ')) := by
  induction fuel with
  | zero => intro n r0 i1 i2 i3 μ μ' v hG hr0 h; cases h
  | succ fuel ih =>
    have ih_6 := ih
    intro n r0 i1 i2 i3 μ μ' v hG hr0 h
    replace h : ((if i1 ≤ i3 then some (i2, μ) else (if sh_in i3 n then sh_let ((((3 * i2) + (sh_i μ r0 i3.toNatClampNeg)) - ((3 * i2) + (sh_i μ r0 i3.toNatClampNeg)) / 251 * 251) : Int32) (fun x6 => F_X12_checked fuel 1 n r0 i1 x6 (i3 + 1) μ) else none)) : Option (Int32 × sh_Mem)) = some (v, μ') := h
    refine vv_iload_n 6 3 dX12_checked_6 rfl rfl ?_
    refine vv_iload_n 7 1 dX12_checked_7 rfl rfl ?_
    refine vv_icmp_ge 8 29 dX12_checked_8 (by decide) (fun c4 => ?_) (fun c4 => ?_)
    · rw [if_pos c4] at h
      refine vv_iload_n 29 2 dX12_checked_29 rfl rfl ?_
      obtain ⟨e1, e2⟩ := sh_some2 h
      refine vv_iret 30 dX12_checked_30 rfl (Nat.le_refl _) (Nat.le_refl _) ⟨by rw [e1], e2⟩
    · rw [if_neg c4] at h
      refine vv_iconst 11 dX12_checked_11 ik_3 ?_
      refine vv_iload_n 12 2 dX12_checked_12 rfl rfl ?_
      refine vv_imul 13 dX12_checked_13 ?_
      refine vv_aload_n 14 0 dX12_checked_14 rfl rfl ?_
      refine vv_iload_n 15 3 dX12_checked_15 rfl rfl ?_
      obtain ⟨k5, h⟩ := sh_chk h
      refine vv_iald 16 dX12_checked_16 (gA_l hG hr0) k5 ?_
      refine vv_iadd 17 dX12_checked_17 ?_
      refine vv_sipush 18 dX12_checked_18 sk_251 ?_
      refine vv_irem 21 dX12_checked_21 (by decide) ?_
      refine vv_topi (fun x6 ex6 => ?_)
      rw [sh_let_eq ex6] at h
      refine vv_istore_n (lv' := [(2, _), (0, _), (1, _), (3, _)]) 22 2 dX12_checked_22 rfl (by decide) rfl ?_
      refine vv_iincc (lv' := [(3, _), (2, _), (0, _), (1, _)]) 23 3 dX12_checked_23 rfl ik_1 (by decide) rfl ?_
      refine vv_goto 26 6 dX12_checked_26 (by decide) ?_
      refine vv_sub [(0, _), (1, _), (2, _), (3, _)] (sh_subm [2, 3, 1, 0] rfl) ?_
      exact ih_6 hG hr0 h
theorem gp_X12_checked {g : Nat} {n : Nat} {a2 : Int32} {μ μ' : sh_Mem} {v : Int32} (hG : sh_G μ) (hg : sh_LAY[g]? = some (13, n)) (h : f_X12_checked g n a2 μ = some (v, μ')) : sh_G μ' := by
  have ih_6 := (gpl_X12_checked sh_fuel)
  unfold f_X12_checked at h
  exact ih_6 hG hg h
theorem t_X12_checked {g : Nat} {n : Nat} {a2 : Int32} {μ μ' : sh_Mem} {v : Int32} (hG : sh_G μ) (hg : sh_LAY[g]? = some (13, n)) (h : f_X12_checked g n a2 μ = some (v, μ')) : sh_C0 l B D ca 1 M_X12_checked [.ref g, .int a2] μ (fun v0 μ0 => v0 = some (.int v) ∧ μ0 = μ') := by
  have ih_6 := (tl_X12_checked (l := l) (B := B) (D := D) (ca := ca) sh_fuel)
  unfold f_X12_checked at h
  refine vv_sipush 0 dX12_checked_0 sk_227 ?_
  refine vv_istore_n (lv' := [(2, _), (0, _), (1, _)]) 3 2 dX12_checked_3 rfl (by decide) rfl ?_
  refine vv_iconst 4 dX12_checked_4 ik_0 ?_
  refine vv_istore_n (lv' := [(3, _), (2, _), (0, _), (1, _)]) 5 3 dX12_checked_5 rfl (by decide) rfl ?_
  refine vv_sub [(0, _), (1, _), (2, _), (3, _)] (sh_subm [2, 3, 1, 0] rfl) ?_
  exact ih_6 hG hg h
noncomputable def f_X12_writes (a1 : Int32) (μ : sh_Mem) : Option sh_Mem := (if sh_in (sh_i μ 291 113) 80 then sh_let (sh_setI μ 367 ((sh_i μ 291 113)).toNatClampNeg a1) (fun μ2 => sh_let (sh_setI μ2 291 113 ((sh_i μ2 291 113) + 1)) (fun μ3 => some μ3)) else none)
theorem gp_X12_writes {a1 : Int32} {μ μ' : sh_Mem} (hG : sh_G μ) (h : f_X12_writes a1 μ = some μ') : sh_G μ' := by
  unfold f_X12_writes at h
  obtain ⟨k1, h⟩ := sh_chk h
  obtain ⟨μ2, eμ2⟩ : ∃ y : sh_Mem, y = (sh_setI μ 367 ((sh_i μ 291 113)).toNatClampNeg a1) := ⟨_, rfl⟩
  rw [sh_let_eq eμ2] at h
  have hG2 : sh_G μ2 := by rw [eμ2]; exact hG
  obtain ⟨μ3, eμ3⟩ : ∃ y : sh_Mem, y = (sh_setI μ2 291 113 ((sh_i μ2 291 113) + 1)) := ⟨_, rfl⟩
  rw [sh_let_eq eμ3] at h
  have hG3 : sh_G μ3 := by rw [eμ3]; exact hG2
  have e2 := Option.some.inj h
  exact e2 ▸ hG3
theorem t_X12_writes {a1 : Int32} {μ μ' : sh_Mem} (hG : sh_G μ) (h : f_X12_writes a1 μ = some μ') : sh_C0 l B D ca 1 M_X12_writes [.ref 291, .int a1] μ (fun v0 μ0 => v0 = none ∧ μ0 = μ') := by
  unfold f_X12_writes at h
  refine vv_aload_n 0 0 dX12_writes_0 rfl rfl ?_
  refine vv_getR 1 dX12_writes_1 fl_12_245 rfl (g_l_291 hG) (g_r_291_112 hG) ?_
  refine vv_aload_n 4 0 dX12_writes_4 rfl rfl ?_
  refine vv_getI 5 dX12_writes_5 fl_12_735 rfl (g_l_291 hG) ?_
  refine vv_iload_n 8 1 dX12_writes_8 rfl rfl ?_
  obtain ⟨k1, h⟩ := sh_chk h
  refine vn_iast 9 dX12_writes_9 (g_l_367 hG) k1 (fun μ2 eμ2 => ?_)
  rw [sh_let_eq eμ2] at h
  have hG2 : sh_G μ2 := by rw [eμ2]; exact hG
  refine vv_aload_n 10 0 dX12_writes_10 rfl rfl ?_
  refine vv_dup_ref 11 dX12_writes_11 ?_
  refine vv_getI 12 dX12_writes_12 fl_12_735 rfl (g_l_291 hG2) ?_
  refine vv_iconst 15 dX12_writes_15 ik_1 ?_
  refine vv_iadd 16 dX12_writes_16 ?_
  refine vn_putI 17 dX12_writes_17 fl_12_735 (Or.inl rfl) rfl (g_l_291 hG2) (fun μ3 eμ3 => ?_)
  rw [sh_let_eq eμ3] at h
  have hG3 : sh_G μ3 := by rw [eμ3]; exact hG2
  have e2 := Option.some.inj h
  refine vv_vret 20 dX12_writes_20 rfl (Nat.le_refl _) (Nat.le_refl _) ⟨rfl, e2⟩
noncomputable def F_X12_image : Nat → Nat → Int32 → sh_Mem → Option (Int32 × sh_Mem)
  | 0, _, _, _ => none
  | fuel + 1, lbl, i1, μ => match lbl with
    | 1 => sh_bind (f_X12_cellMany μ) (fun y104 μ102 => (if y104 ≤ i1 then F_X12_image fuel 2 0 μ102 else sh_bind (f_X12_cellOrder i1 μ102) (fun y108 μ106 => sh_bind (f_X12_heightOf y108 μ106) (fun y111 μ109 => sh_bindv (f_X12_writes y111 μ109) (fun μ112 => F_X12_image fuel 1 (i1 + 1) μ112)))))
    | 2 => sh_bind (f_X12_personMany μ) (fun y117 μ115 => (if y117 ≤ i1 then sh_bind (f_X12_checked 367 80 (sh_i μ115 291 113) μ115) (fun y121 μ119 => sh_bindv (f_X12_writes y121 μ119) (fun μ122 => some ((sh_i μ122 291 113), μ122))) else sh_bind (f_X12_cellOf i1 μ115) (fun y127 μ125 => sh_bindv (f_X12_writes (y127 - y127 / 7 * 7) μ125) (fun μ128 => sh_bind (f_X12_cellOf i1 μ128) (fun y133 μ131 => sh_bindv (f_X12_writes (y133 / 7) μ131) (fun μ134 => sh_bind (f_X12_tiredOf i1 μ134) (fun y139 μ137 => sh_bindv (f_X12_writes y139 μ137) (fun μ140 => sh_bind (f_X12_knowsOf i1 μ140) (fun y145 μ143 => sh_bindv (f_X12_writes y145 μ143) (fun μ146 => F_X12_image fuel 2 (i1 + 1) μ146))))))))))
    | _ => none
noncomputable def f_X12_image (μ : sh_Mem) : Option (Int32 × sh_Mem) := sh_let (sh_setI μ 291 113 0) (fun μ149 => sh_bindv (f_X12_writes ((sh_i μ149 330 (Int32.toNatClampNeg 0)) / 256) μ149) (fun μ150 => sh_bindv (f_X12_writes ((sh_i μ150 330 (Int32.toNatClampNeg 0)) - (sh_i μ150 330 (Int32.toNatClampNeg 0)) / 256 * 256) μ150) (fun μ153 => F_X12_image sh_fuel 1 0 μ153)))
theorem gpl_X12_image (fuel : Nat) : (∀ ⦃i1 : Int32⦄ ⦃μ μ' : sh_Mem⦄ ⦃v : Int32⦄, sh_G μ → F_X12_image fuel 1 i1 μ = some (v, μ') → sh_G μ') ∧ (∀ ⦃i1 : Int32⦄ ⦃μ μ' : sh_Mem⦄ ⦃v : Int32⦄, sh_G μ → F_X12_image fuel 2 i1 μ = some (v, μ') → sh_G μ') := by
  induction fuel with
  | zero => exact ⟨(by intro i1 μ μ' v hG h; cases h), (by intro i1 μ μ' v hG h; cases h)⟩
  | succ fuel ih =>
    obtain ⟨ih_35, ih_64⟩ := ih
    refine ⟨?_, ?_⟩
    · intro i1 μ μ' v hG h
      replace h : (sh_bind (f_X12_cellMany μ) (fun y104 μ102 => (if y104 ≤ i1 then F_X12_image fuel 2 0 μ102 else sh_bind (f_X12_cellOrder i1 μ102) (fun y108 μ106 => sh_bind (f_X12_heightOf y108 μ106) (fun y111 μ109 => sh_bindv (f_X12_writes y111 μ109) (fun μ112 => F_X12_image fuel 1 (i1 + 1) μ112))))) : Option (Int32 × sh_Mem)) = some (v, μ') := h
      obtain ⟨y104, μ102, hr103, h⟩ := sh_bind_e h
      have hG102 := gp_X12_cellMany hG hr103
      by_cases c105 : y104 ≤ i1
      · rw [if_pos c105] at h
        exact ih_64 hG102 h
      · rw [if_neg c105] at h
        obtain ⟨y108, μ106, hr107, h⟩ := sh_bind_e h
        have hG106 := gp_X12_cellOrder hG102 hr107
        obtain ⟨y111, μ109, hr110, h⟩ := sh_bind_e h
        have hG109 := gp_X12_heightOf hG106 hr110
        obtain ⟨μ112, hr113, h⟩ := sh_bindv_e h
        have hG112 := gp_X12_writes hG109 hr113
        exact ih_35 hG112 h
    · intro i1 μ μ' v hG h
      replace h : (sh_bind (f_X12_personMany μ) (fun y117 μ115 => (if y117 ≤ i1 then sh_bind (f_X12_checked 367 80 (sh_i μ115 291 113) μ115) (fun y121 μ119 => sh_bindv (f_X12_writes y121 μ119) (fun μ122 => some ((sh_i μ122 291 113), μ122))) else sh_bind (f_X12_cellOf i1 μ115) (fun y127 μ125 => sh_bindv (f_X12_writes (y127 - y127 / 7 * 7) μ125) (fun μ128 => sh_bind (f_X12_cellOf i1 μ128) (fun y133 μ131 => sh_bindv (f_X12_writes (y133 / 7) μ131) (fun μ134 => sh_bind (f_X12_tiredOf i1 μ134) (fun y139 μ137 => sh_bindv (f_X12_writes y139 μ137) (fun μ140 => sh_bind (f_X12_knowsOf i1 μ140) (fun y145 μ143 => sh_bindv (f_X12_writes y145 μ143) (fun μ146 => F_X12_image fuel 2 (i1 + 1) μ146)))))))))) : Option (Int32 × sh_Mem)) = some (v, μ') := h
      obtain ⟨y117, μ115, hr116, h⟩ := sh_bind_e h
      have hG115 := gp_X12_personMany hG hr116
      by_cases c118 : y117 ≤ i1
      · rw [if_pos c118] at h
        obtain ⟨y121, μ119, hr120, h⟩ := sh_bind_e h
        have hG119 := gp_X12_checked hG115 (sh_LAYat_367) hr120
        obtain ⟨μ122, hr123, h⟩ := sh_bindv_e h
        have hG122 := gp_X12_writes hG119 hr123
        obtain ⟨e1, e2⟩ := sh_some2 h
        exact e2 ▸ hG122
      · rw [if_neg c118] at h
        obtain ⟨y127, μ125, hr126, h⟩ := sh_bind_e h
        have hG125 := gp_X12_cellOf hG115 hr126
        obtain ⟨μ128, hr129, h⟩ := sh_bindv_e h
        have hG128 := gp_X12_writes hG125 hr129
        obtain ⟨y133, μ131, hr132, h⟩ := sh_bind_e h
        have hG131 := gp_X12_cellOf hG128 hr132
        obtain ⟨μ134, hr135, h⟩ := sh_bindv_e h
        have hG134 := gp_X12_writes hG131 hr135
        obtain ⟨y139, μ137, hr138, h⟩ := sh_bind_e h
        have hG137 := gp_X12_tiredOf hG134 hr138
        obtain ⟨μ140, hr141, h⟩ := sh_bindv_e h
        have hG140 := gp_X12_writes hG137 hr141
        obtain ⟨y145, μ143, hr144, h⟩ := sh_bind_e h
        have hG143 := gp_X12_knowsOf hG140 hr144
        obtain ⟨μ146, hr147, h⟩ := sh_bindv_e h
        have hG146 := gp_X12_writes hG143 hr147
        exact ih_64 hG146 h
theorem tl_X12_image (fuel : Nat) : (∀ ⦃i1 : Int32⦄ ⦃μ μ' : sh_Mem⦄ ⦃v : Int32⦄, sh_G μ → F_X12_image fuel 1 i1 μ = some (v, μ') → sh_V0 l B D ca 2 M_X12_image 35 [(0, .ref 291), (1, .int i1)] [] μ (fun v0 μ0 => v0 = some (.int v) ∧ μ0 = μ')) ∧ (∀ ⦃i1 : Int32⦄ ⦃μ μ' : sh_Mem⦄ ⦃v : Int32⦄, sh_G μ → F_X12_image fuel 2 i1 μ = some (v, μ') → sh_V0 l B D ca 2 M_X12_image 64 [(0, .ref 291), (1, .int i1)] [] μ (fun v0 μ0 => v0 = some (.int v) ∧ μ0 = μ')) := by
  induction fuel with
  | zero => exact ⟨(by intro i1 μ μ' v hG h; cases h), (by intro i1 μ μ' v hG h; cases h)⟩
  | succ fuel ih =>
    obtain ⟨ih_35, ih_64⟩ := ih
    refine ⟨?_, ?_⟩
    · intro i1 μ μ' v hG h
      replace h : (sh_bind (f_X12_cellMany μ) (fun y104 μ102 => (if y104 ≤ i1 then F_X12_image fuel 2 0 μ102 else sh_bind (f_X12_cellOrder i1 μ102) (fun y108 μ106 => sh_bind (f_X12_heightOf y108 μ106) (fun y111 μ109 => sh_bindv (f_X12_writes y111 μ109) (fun μ112 => F_X12_image fuel 1 (i1 + 1) μ112))))) : Option (Int32 × sh_Mem)) = some (v, μ') := h
      refine vv_iload_n 35 1 dX12_image_35 rfl rfl ?_
      refine vv_aload_n 36 0 dX12_image_36 rfl rfl ?_
      obtain ⟨y104, μ102, hr103, h⟩ := sh_bind_e h
      refine v1_callV [] 37 dX12_image_37 ck_X12_447 (g_l_291 hG) ⟨by decide, rfl⟩ (t_X12_cellMany hG hr103) (Nat.le_of_ble_eq_true rfl) ⟨Nat.le_of_ble_eq_true rfl, Nat.le_of_ble_eq_true rfl⟩ rfl (Nat.le_of_ble_eq_true rfl) ?_
      have hG102 := gp_X12_cellMany hG hr103
      refine vv_icmp_ge 40 62 dX12_image_40 (by decide) (fun c105 => ?_) (fun c105 => ?_)
      · rw [if_pos c105] at h
        refine vv_iconst 62 dX12_image_62 ik_0 ?_
        refine vv_istore_n (lv' := [(1, _), (0, _)]) 63 1 dX12_image_63 rfl (by decide) rfl ?_
        refine vv_sub [(0, _), (1, _)] (sh_subm [1, 0] rfl) ?_
        exact ih_64 hG102 h
      · rw [if_neg c105] at h
        refine vv_aload_n 43 0 dX12_image_43 rfl rfl ?_
        refine vv_aload_n 44 0 dX12_image_44 rfl rfl ?_
        refine vv_aload_n 45 0 dX12_image_45 rfl rfl ?_
        refine vv_iload_n 46 1 dX12_image_46 rfl rfl ?_
        obtain ⟨y108, μ106, hr107, h⟩ := sh_bind_e h
        refine v1_callV [_] 47 dX12_image_47 ck_X12_450 (g_l_291 hG102) ⟨by decide, rfl⟩ (t_X12_cellOrder hG102 hr107) (Nat.le_of_ble_eq_true rfl) ⟨Nat.le_of_ble_eq_true rfl, Nat.le_of_ble_eq_true rfl⟩ rfl (Nat.le_of_ble_eq_true rfl) ?_
        have hG106 := gp_X12_cellOrder hG102 hr107
        obtain ⟨y111, μ109, hr110, h⟩ := sh_bind_e h
        refine v1_callV [_] 50 dX12_image_50 ck_X12_453 (g_l_291 hG106) ⟨by decide, rfl⟩ (t_X12_heightOf hG106 hr110) (Nat.le_of_ble_eq_true rfl) ⟨Nat.le_of_ble_eq_true rfl, Nat.le_of_ble_eq_true rfl⟩ rfl (Nat.le_of_ble_eq_true rfl) ?_
        have hG109 := gp_X12_heightOf hG106 hr110
        obtain ⟨μ112, hr113, h⟩ := sh_bindv_e h
        refine v1_callV [_] 53 dX12_image_53 ck_X12_738 (g_l_291 hG109) ⟨by decide, rfl⟩ (t_X12_writes hG109 hr113) (Nat.le_of_ble_eq_true rfl) ⟨Nat.le_of_ble_eq_true rfl, Nat.le_of_ble_eq_true rfl⟩ rfl (Nat.le_of_ble_eq_true rfl) ?_
        have hG112 := gp_X12_writes hG109 hr113
        refine vv_iincc (lv' := [(1, _), (0, _)]) 56 1 dX12_image_56 rfl ik_1 (by decide) rfl ?_
        refine vv_goto 59 35 dX12_image_59 (by decide) ?_
        refine vv_sub [(0, _), (1, _)] (sh_subm [1, 0] rfl) ?_
        exact ih_35 hG112 h
    · intro i1 μ μ' v hG h
      replace h : (sh_bind (f_X12_personMany μ) (fun y117 μ115 => (if y117 ≤ i1 then sh_bind (f_X12_checked 367 80 (sh_i μ115 291 113) μ115) (fun y121 μ119 => sh_bindv (f_X12_writes y121 μ119) (fun μ122 => some ((sh_i μ122 291 113), μ122))) else sh_bind (f_X12_cellOf i1 μ115) (fun y127 μ125 => sh_bindv (f_X12_writes (y127 - y127 / 7 * 7) μ125) (fun μ128 => sh_bind (f_X12_cellOf i1 μ128) (fun y133 μ131 => sh_bindv (f_X12_writes (y133 / 7) μ131) (fun μ134 => sh_bind (f_X12_tiredOf i1 μ134) (fun y139 μ137 => sh_bindv (f_X12_writes y139 μ137) (fun μ140 => sh_bind (f_X12_knowsOf i1 μ140) (fun y145 μ143 => sh_bindv (f_X12_writes y145 μ143) (fun μ146 => F_X12_image fuel 2 (i1 + 1) μ146)))))))))) : Option (Int32 × sh_Mem)) = some (v, μ') := h
      refine vv_iload_n 64 1 dX12_image_64 rfl rfl ?_
      refine vv_aload_n 65 0 dX12_image_65 rfl rfl ?_
      obtain ⟨y117, μ115, hr116, h⟩ := sh_bind_e h
      refine v1_callV [] 66 dX12_image_66 ck_X12_411 (g_l_291 hG) ⟨by decide, rfl⟩ (t_X12_personMany hG hr116) (Nat.le_of_ble_eq_true rfl) ⟨Nat.le_of_ble_eq_true rfl, Nat.le_of_ble_eq_true rfl⟩ rfl (Nat.le_of_ble_eq_true rfl) ?_
      have hG115 := gp_X12_personMany hG hr116
      refine vv_icmp_ge 69 120 dX12_image_69 (by decide) (fun c118 => ?_) (fun c118 => ?_)
      · rw [if_pos c118] at h
        refine vv_aload_n 120 0 dX12_image_120 rfl rfl ?_
        refine vv_aload_n 121 0 dX12_image_121 rfl rfl ?_
        refine vv_getR 122 dX12_image_122 fl_12_245 rfl (g_l_291 hG115) (g_r_291_112 hG115) ?_
        refine vv_aload_n 125 0 dX12_image_125 rfl rfl ?_
        refine vv_getI 126 dX12_image_126 fl_12_735 rfl (g_l_291 hG115) ?_
        obtain ⟨y121, μ119, hr120, h⟩ := sh_bind_e h
        refine v1_callS [_, _] 129 dX12_image_129 ck_X12_741 (t_X12_checked hG115 (sh_LAYat_367) hr120) (Nat.le_of_ble_eq_true rfl) ⟨Nat.le_of_ble_eq_true rfl, Nat.le_of_ble_eq_true rfl⟩ rfl (Nat.le_of_ble_eq_true rfl) ?_
        have hG119 := gp_X12_checked hG115 (sh_LAYat_367) hr120
        obtain ⟨μ122, hr123, h⟩ := sh_bindv_e h
        refine v1_callV [_] 132 dX12_image_132 ck_X12_738 (g_l_291 hG119) ⟨by decide, rfl⟩ (t_X12_writes hG119 hr123) (Nat.le_of_ble_eq_true rfl) ⟨Nat.le_of_ble_eq_true rfl, Nat.le_of_ble_eq_true rfl⟩ rfl (Nat.le_of_ble_eq_true rfl) ?_
        have hG122 := gp_X12_writes hG119 hr123
        refine vv_aload_n 135 0 dX12_image_135 rfl rfl ?_
        refine vv_getI 136 dX12_image_136 fl_12_735 rfl (g_l_291 hG122) ?_
        obtain ⟨e1, e2⟩ := sh_some2 h
        refine vv_iret 139 dX12_image_139 rfl (Nat.le_refl _) (Nat.le_refl _) ⟨by rw [e1], e2⟩
      · rw [if_neg c118] at h
        refine vv_aload_n 72 0 dX12_image_72 rfl rfl ?_
        refine vv_aload_n 73 0 dX12_image_73 rfl rfl ?_
        refine vv_iload_n 74 1 dX12_image_74 rfl rfl ?_
        obtain ⟨y127, μ125, hr126, h⟩ := sh_bind_e h
        refine v1_callV [_] 75 dX12_image_75 ck_X12_417 (g_l_291 hG115) ⟨by decide, rfl⟩ (t_X12_cellOf hG115 hr126) (Nat.le_of_ble_eq_true rfl) ⟨Nat.le_of_ble_eq_true rfl, Nat.le_of_ble_eq_true rfl⟩ rfl (Nat.le_of_ble_eq_true rfl) ?_
        have hG125 := gp_X12_cellOf hG115 hr126
        refine vv_bipush 78 dX12_image_78 bk_7 ?_
        refine vv_irem 80 dX12_image_80 (by decide) ?_
        obtain ⟨μ128, hr129, h⟩ := sh_bindv_e h
        refine v1_callV [_] 81 dX12_image_81 ck_X12_738 (g_l_291 hG125) ⟨by decide, rfl⟩ (t_X12_writes hG125 hr129) (Nat.le_of_ble_eq_true rfl) ⟨Nat.le_of_ble_eq_true rfl, Nat.le_of_ble_eq_true rfl⟩ rfl (Nat.le_of_ble_eq_true rfl) ?_
        have hG128 := gp_X12_writes hG125 hr129
        refine vv_aload_n 84 0 dX12_image_84 rfl rfl ?_
        refine vv_aload_n 85 0 dX12_image_85 rfl rfl ?_
        refine vv_iload_n 86 1 dX12_image_86 rfl rfl ?_
        obtain ⟨y133, μ131, hr132, h⟩ := sh_bind_e h
        refine v1_callV [_] 87 dX12_image_87 ck_X12_417 (g_l_291 hG128) ⟨by decide, rfl⟩ (t_X12_cellOf hG128 hr132) (Nat.le_of_ble_eq_true rfl) ⟨Nat.le_of_ble_eq_true rfl, Nat.le_of_ble_eq_true rfl⟩ rfl (Nat.le_of_ble_eq_true rfl) ?_
        have hG131 := gp_X12_cellOf hG128 hr132
        refine vv_bipush 90 dX12_image_90 bk_7 ?_
        refine vv_idiv 92 dX12_image_92 (by decide) ?_
        obtain ⟨μ134, hr135, h⟩ := sh_bindv_e h
        refine v1_callV [_] 93 dX12_image_93 ck_X12_738 (g_l_291 hG131) ⟨by decide, rfl⟩ (t_X12_writes hG131 hr135) (Nat.le_of_ble_eq_true rfl) ⟨Nat.le_of_ble_eq_true rfl, Nat.le_of_ble_eq_true rfl⟩ rfl (Nat.le_of_ble_eq_true rfl) ?_
        have hG134 := gp_X12_writes hG131 hr135
        refine vv_aload_n 96 0 dX12_image_96 rfl rfl ?_
        refine vv_aload_n 97 0 dX12_image_97 rfl rfl ?_
        refine vv_iload_n 98 1 dX12_image_98 rfl rfl ?_
        obtain ⟨y139, μ137, hr138, h⟩ := sh_bind_e h
        refine v1_callV [_] 99 dX12_image_99 ck_X12_486 (g_l_291 hG134) ⟨by decide, rfl⟩ (t_X12_tiredOf hG134 hr138) (Nat.le_of_ble_eq_true rfl) ⟨Nat.le_of_ble_eq_true rfl, Nat.le_of_ble_eq_true rfl⟩ rfl (Nat.le_of_ble_eq_true rfl) ?_
        have hG137 := gp_X12_tiredOf hG134 hr138
        obtain ⟨μ140, hr141, h⟩ := sh_bindv_e h
        refine v1_callV [_] 102 dX12_image_102 ck_X12_738 (g_l_291 hG137) ⟨by decide, rfl⟩ (t_X12_writes hG137 hr141) (Nat.le_of_ble_eq_true rfl) ⟨Nat.le_of_ble_eq_true rfl, Nat.le_of_ble_eq_true rfl⟩ rfl (Nat.le_of_ble_eq_true rfl) ?_
        have hG140 := gp_X12_writes hG137 hr141
        refine vv_aload_n 105 0 dX12_image_105 rfl rfl ?_
        refine vv_aload_n 106 0 dX12_image_106 rfl rfl ?_
        refine vv_iload_n 107 1 dX12_image_107 rfl rfl ?_
        obtain ⟨y145, μ143, hr144, h⟩ := sh_bind_e h
        refine v1_callV [_] 108 dX12_image_108 ck_X12_437 (g_l_291 hG140) ⟨by decide, rfl⟩ (t_X12_knowsOf hG140 hr144) (Nat.le_of_ble_eq_true rfl) ⟨Nat.le_of_ble_eq_true rfl, Nat.le_of_ble_eq_true rfl⟩ rfl (Nat.le_of_ble_eq_true rfl) ?_
        have hG143 := gp_X12_knowsOf hG140 hr144
        obtain ⟨μ146, hr147, h⟩ := sh_bindv_e h
        refine v1_callV [_] 111 dX12_image_111 ck_X12_738 (g_l_291 hG143) ⟨by decide, rfl⟩ (t_X12_writes hG143 hr147) (Nat.le_of_ble_eq_true rfl) ⟨Nat.le_of_ble_eq_true rfl, Nat.le_of_ble_eq_true rfl⟩ rfl (Nat.le_of_ble_eq_true rfl) ?_
        have hG146 := gp_X12_writes hG143 hr147
        refine vv_iincc (lv' := [(1, _), (0, _)]) 114 1 dX12_image_114 rfl ik_1 (by decide) rfl ?_
        refine vv_goto 117 64 dX12_image_117 (by decide) ?_
        refine vv_sub [(0, _), (1, _)] (sh_subm [1, 0] rfl) ?_
        exact ih_64 hG146 h
theorem gp_X12_image {μ μ' : sh_Mem} {v : Int32} (hG : sh_G μ) (h : f_X12_image μ = some (v, μ')) : sh_G μ' := by
  have ih_35 := (gpl_X12_image sh_fuel).1
  have ih_64 := (gpl_X12_image sh_fuel).2
  unfold f_X12_image at h
  obtain ⟨μ149, eμ149⟩ : ∃ y : sh_Mem, y = (sh_setI μ 291 113 0) := ⟨_, rfl⟩
  rw [sh_let_eq eμ149] at h
  have hG149 : sh_G μ149 := by rw [eμ149]; exact hG
  obtain ⟨μ150, hr151, h⟩ := sh_bindv_e h
  have hG150 := gp_X12_writes hG149 hr151
  obtain ⟨μ153, hr154, h⟩ := sh_bindv_e h
  have hG153 := gp_X12_writes hG150 hr154
  exact ih_35 hG153 h
theorem t_X12_image {μ μ' : sh_Mem} {v : Int32} (hG : sh_G μ) (h : f_X12_image μ = some (v, μ')) : sh_C0 l B D ca 2 M_X12_image [.ref 291] μ (fun v0 μ0 => v0 = some (.int v) ∧ μ0 = μ') := by
  have ih_35 := (tl_X12_image (l := l) (B := B) (D := D) (ca := ca) sh_fuel).1
  have ih_64 := (tl_X12_image (l := l) (B := B) (D := D) (ca := ca) sh_fuel).2
  unfold f_X12_image at h
  refine vv_aload_n 0 0 dX12_image_0 rfl rfl ?_
  refine vv_iconst 1 dX12_image_1 ik_0 ?_
  refine vn_putI 2 dX12_image_2 fl_12_735 (Or.inl rfl) rfl (g_l_291 hG) (fun μ149 eμ149 => ?_)
  rw [sh_let_eq eμ149] at h
  have hG149 : sh_G μ149 := by rw [eμ149]; exact hG
  refine vv_aload_n 5 0 dX12_image_5 rfl rfl ?_
  refine vv_aload_n 6 0 dX12_image_6 rfl rfl ?_
  refine vv_getR 7 dX12_image_7 fl_12_130 rfl (g_l_291 hG149) (g_r_291_52 hG149) ?_
  refine vv_iconst 10 dX12_image_10 ik_0 ?_
  refine vv_iald 11 dX12_image_11 (g_l_330 hG149) (by unfold vp_in; decide) ?_
  refine vv_sipush 12 dX12_image_12 sk_256 ?_
  refine vv_idiv 15 dX12_image_15 (by decide) ?_
  obtain ⟨μ150, hr151, h⟩ := sh_bindv_e h
  refine v1_callV [_] 16 dX12_image_16 ck_X12_738 (g_l_291 hG149) ⟨by decide, rfl⟩ (t_X12_writes hG149 hr151) (Nat.le_of_ble_eq_true rfl) ⟨Nat.le_of_ble_eq_true rfl, Nat.le_of_ble_eq_true rfl⟩ rfl (Nat.le_of_ble_eq_true rfl) ?_
  have hG150 := gp_X12_writes hG149 hr151
  refine vv_aload_n 19 0 dX12_image_19 rfl rfl ?_
  refine vv_aload_n 20 0 dX12_image_20 rfl rfl ?_
  refine vv_getR 21 dX12_image_21 fl_12_130 rfl (g_l_291 hG150) (g_r_291_52 hG150) ?_
  refine vv_iconst 24 dX12_image_24 ik_0 ?_
  refine vv_iald 25 dX12_image_25 (g_l_330 hG150) (by unfold vp_in; decide) ?_
  refine vv_sipush 26 dX12_image_26 sk_256 ?_
  refine vv_irem 29 dX12_image_29 (by decide) ?_
  obtain ⟨μ153, hr154, h⟩ := sh_bindv_e h
  refine v1_callV [_] 30 dX12_image_30 ck_X12_738 (g_l_291 hG150) ⟨by decide, rfl⟩ (t_X12_writes hG150 hr154) (Nat.le_of_ble_eq_true rfl) ⟨Nat.le_of_ble_eq_true rfl, Nat.le_of_ble_eq_true rfl⟩ rfl (Nat.le_of_ble_eq_true rfl) ?_
  have hG153 := gp_X12_writes hG150 hr154
  refine vv_iconst 33 dX12_image_33 ik_0 ?_
  refine vv_istore_n (lv' := [(1, _), (0, _)]) 34 1 dX12_image_34 rfl (by decide) rfl ?_
  refine vv_sub [(0, _), (1, _)] (sh_subm [1, 0] rfl) ?_
  exact ih_35 hG153 h
noncomputable def f_X12_octet (a1 : Int32) (μ : sh_Mem) : Option (Int32 × sh_Mem) := (if a1 < 0 then some ((-1), μ) else (if (sh_i μ 291 113) ≤ a1 then some ((-1), μ) else (if sh_in a1 80 then some ((sh_i μ 367 a1.toNatClampNeg), μ) else none)))
theorem gp_X12_octet {a1 : Int32} {μ μ' : sh_Mem} {v : Int32} (hG : sh_G μ) (h : f_X12_octet a1 μ = some (v, μ')) : sh_G μ' := by
  unfold f_X12_octet at h
  by_cases c1 : a1 < 0
  · rw [if_pos c1] at h
    obtain ⟨e1, e2⟩ := sh_some2 h
    exact e2 ▸ hG
  · rw [if_neg c1] at h
    by_cases c2 : (sh_i μ 291 113) ≤ a1
    · rw [if_pos c2] at h
      obtain ⟨e1, e2⟩ := sh_some2 h
      exact e2 ▸ hG
    · rw [if_neg c2] at h
      obtain ⟨k3, h⟩ := sh_chk h
      obtain ⟨e1, e2⟩ := sh_some2 h
      exact e2 ▸ hG
theorem t_X12_octet {a1 : Int32} {μ μ' : sh_Mem} {v : Int32} (hG : sh_G μ) (h : f_X12_octet a1 μ = some (v, μ')) : sh_C0 l B D ca 1 M_X12_octet [.ref 291, .int a1] μ (fun v0 μ0 => v0 = some (.int v) ∧ μ0 = μ') := by
  unfold f_X12_octet at h
  refine vv_iload_n 0 1 dX12_octet_0 rfl rfl ?_
  refine vv_if_lt 1 21 dX12_octet_1 (by decide) (fun c1 => ?_) (fun c1 => ?_)
  · rw [if_pos c1] at h
    refine vv_iconst 21 dX12_octet_21 ik_m1 ?_
    obtain ⟨e1, e2⟩ := sh_some2 h
    refine vv_iret 22 dX12_octet_22 rfl (Nat.le_refl _) (Nat.le_refl _) ⟨by rw [e1], e2⟩
  · rw [if_neg c1] at h
    refine vv_iload_n 4 1 dX12_octet_4 rfl rfl ?_
    refine vv_aload_n 5 0 dX12_octet_5 rfl rfl ?_
    refine vv_getI 6 dX12_octet_6 fl_12_735 rfl (g_l_291 hG) ?_
    refine vv_icmp_ge 9 21 dX12_octet_9 (by decide) (fun c2 => ?_) (fun c2 => ?_)
    · rw [if_pos c2] at h
      refine vv_iconst 21 dX12_octet_21 ik_m1 ?_
      obtain ⟨e1, e2⟩ := sh_some2 h
      refine vv_iret 22 dX12_octet_22 rfl (Nat.le_refl _) (Nat.le_refl _) ⟨by rw [e1], e2⟩
    · rw [if_neg c2] at h
      refine vv_aload_n 12 0 dX12_octet_12 rfl rfl ?_
      refine vv_getR 13 dX12_octet_13 fl_12_245 rfl (g_l_291 hG) (g_r_291_112 hG) ?_
      refine vv_iload_n 16 1 dX12_octet_16 rfl rfl ?_
      obtain ⟨k3, h⟩ := sh_chk h
      refine vv_iald 17 dX12_octet_17 (g_l_367 hG) k3 ?_
      refine vv_goto 18 22 dX12_octet_18 (by decide) ?_
      obtain ⟨e1, e2⟩ := sh_some2 h
      refine vv_iret 22 dX12_octet_22 rfl (Nat.le_refl _) (Nat.le_refl _) ⟨by rw [e1], e2⟩
noncomputable def F_X12_isPersonTold : Nat → Nat → Int32 → Int32 → Int32 → sh_Mem → Option (Int32 × sh_Mem)
  | 0, _, _, _, _, _ => none
  | fuel + 1, lbl, i1, i2, i3, μ => match lbl with
    | 1 => (if i2 ≤ i3 then some (1, μ) else (if sh_in i3 1600 then (if sh_in i2 1600 then (if (sh_i μ 292 i3.toNatClampNeg) = (sh_i μ 292 i2.toNatClampNeg) then (if sh_in (i3 + 1) 1600 then (if sh_in (i2 + 1) 1600 then (if (sh_i μ 292 ((i3 + 1)).toNatClampNeg) = (sh_i μ 292 ((i2 + 1)).toNatClampNeg) then some (0, μ) else F_X12_isPersonTold fuel 1 i1 i2 (i3 + 4) μ) else none) else none) else F_X12_isPersonTold fuel 1 i1 i2 (i3 + 4) μ) else none) else none))
    | _ => none
noncomputable def f_X12_isPersonTold (a1 : Int32) (a2 : Int32) (μ : sh_Mem) : Option (Int32 × sh_Mem) := (if sh_in a2 1600 then (if sh_in (a2 + 1) 1600 then sh_bind (f_X12_cellAt (sh_i μ 292 a2.toNatClampNeg) (sh_i μ 292 ((a2 + 1)).toNatClampNeg) μ) (fun y32 μ30 => (if y32 = (-1) then some (0, μ30) else (if sh_in (a2 + 2) 1600 then (if 9 < (sh_i μ30 292 ((a2 + 2)).toNatClampNeg) then some (0, μ30) else (if sh_in (a2 + 3) 1600 then sh_bind (f_X12_topicMany μ30) (fun y39 μ37 => (if (sh_i μ30 292 ((a2 + 3)).toNatClampNeg) < ((1 : Int32) <<< (y39 &&& 31)) then F_X12_isPersonTold sh_fuel 1 a1 a2 a1 μ37 else some (0, μ37))) else none)) else none))) else none) else none)
theorem gpl_X12_isPersonTold (fuel : Nat) : (∀ ⦃i1 : Int32⦄ ⦃i2 : Int32⦄ ⦃i3 : Int32⦄ ⦃μ μ' : sh_Mem⦄ ⦃v : Int32⦄, sh_G μ → F_X12_isPersonTold fuel 1 i1 i2 i3 μ = some (v, μ') → sh_G μ') := by
  induction fuel with
  | zero => intro i1 i2 i3 μ μ' v hG h; cases h
  | succ fuel ih =>
    have ih_56 := ih
    intro i1 i2 i3 μ μ' v hG h
    replace h : ((if i2 ≤ i3 then some (1, μ) else (if sh_in i3 1600 then (if sh_in i2 1600 then (if (sh_i μ 292 i3.toNatClampNeg) = (sh_i μ 292 i2.toNatClampNeg) then (if sh_in (i3 + 1) 1600 then (if sh_in (i2 + 1) 1600 then (if (sh_i μ 292 ((i3 + 1)).toNatClampNeg) = (sh_i μ 292 ((i2 + 1)).toNatClampNeg) then some (0, μ) else F_X12_isPersonTold fuel 1 i1 i2 (i3 + 4) μ) else none) else none) else F_X12_isPersonTold fuel 1 i1 i2 (i3 + 4) μ) else none) else none)) : Option (Int32 × sh_Mem)) = some (v, μ') := h
    by_cases c21 : i2 ≤ i3
    · rw [if_pos c21] at h
      obtain ⟨e1, e2⟩ := sh_some2 h
      exact e2 ▸ hG
    · rw [if_neg c21] at h
      obtain ⟨k22, h⟩ := sh_chk h
      obtain ⟨k23, h⟩ := sh_chk h
      by_cases c24 : (sh_i μ 292 i3.toNatClampNeg) = (sh_i μ 292 i2.toNatClampNeg)
      · rw [if_pos c24] at h
        obtain ⟨k25, h⟩ := sh_chk h
        obtain ⟨k26, h⟩ := sh_chk h
        by_cases c27 : (sh_i μ 292 ((i3 + 1)).toNatClampNeg) = (sh_i μ 292 ((i2 + 1)).toNatClampNeg)
        · rw [if_pos c27] at h
          obtain ⟨e1, e2⟩ := sh_some2 h
          exact e2 ▸ hG
        · rw [if_neg c27] at h
          exact ih_56 hG h
      · rw [if_neg c24] at h
        exact ih_56 hG h
theorem tl_X12_isPersonTold (fuel : Nat) : (∀ ⦃i1 : Int32⦄ ⦃i2 : Int32⦄ ⦃i3 : Int32⦄ ⦃μ μ' : sh_Mem⦄ ⦃v : Int32⦄, sh_G μ → F_X12_isPersonTold fuel 1 i1 i2 i3 μ = some (v, μ') → sh_V0 l B D ca 3 M_X12_isPersonTold 56 [(0, .ref 291), (1, .int i1), (2, .int i2), (3, .int i3)] [] μ (fun v0 μ0 => v0 = some (.int v) ∧ μ0 = μ')) := by
  induction fuel with
  | zero => intro i1 i2 i3 μ μ' v hG h; cases h
  | succ fuel ih =>
    have ih_56 := ih
    intro i1 i2 i3 μ μ' v hG h
    replace h : ((if i2 ≤ i3 then some (1, μ) else (if sh_in i3 1600 then (if sh_in i2 1600 then (if (sh_i μ 292 i3.toNatClampNeg) = (sh_i μ 292 i2.toNatClampNeg) then (if sh_in (i3 + 1) 1600 then (if sh_in (i2 + 1) 1600 then (if (sh_i μ 292 ((i3 + 1)).toNatClampNeg) = (sh_i μ 292 ((i2 + 1)).toNatClampNeg) then some (0, μ) else F_X12_isPersonTold fuel 1 i1 i2 (i3 + 4) μ) else none) else none) else F_X12_isPersonTold fuel 1 i1 i2 (i3 + 4) μ) else none) else none)) : Option (Int32 × sh_Mem)) = some (v, μ') := h
    refine vv_iload_n 56 3 dX12_isPersonTold_56 rfl rfl ?_
    refine vv_iload_n 57 2 dX12_isPersonTold_57 rfl rfl ?_
    refine vv_icmp_ge 58 103 dX12_isPersonTold_58 (by decide) (fun c21 => ?_) (fun c21 => ?_)
    · rw [if_pos c21] at h
      refine vv_iconst 103 dX12_isPersonTold_103 ik_1 ?_
      obtain ⟨e1, e2⟩ := sh_some2 h
      refine vv_zret 104 dX12_isPersonTold_104 rfl rfl (Nat.le_refl _) (Nat.le_refl _) ⟨by rw [e1], e2⟩
    · rw [if_neg c21] at h
      refine vv_aload_n 61 0 dX12_isPersonTold_61 rfl rfl ?_
      refine vv_getR 62 dX12_isPersonTold_62 fl_12_7 rfl (g_l_291 hG) (g_r_291_0 hG) ?_
      refine vv_iload_n 65 3 dX12_isPersonTold_65 rfl rfl ?_
      obtain ⟨k22, h⟩ := sh_chk h
      refine vv_iald 66 dX12_isPersonTold_66 (g_l_292 hG) k22 ?_
      refine vv_aload_n 67 0 dX12_isPersonTold_67 rfl rfl ?_
      refine vv_getR 68 dX12_isPersonTold_68 fl_12_7 rfl (g_l_291 hG) (g_r_291_0 hG) ?_
      refine vv_iload_n 71 2 dX12_isPersonTold_71 rfl rfl ?_
      obtain ⟨k23, h⟩ := sh_chk h
      refine vv_iald 72 dX12_isPersonTold_72 (g_l_292 hG) k23 ?_
      refine vv_icmp_ne 73 97 dX12_isPersonTold_73 (by decide) (fun c24 => ?_) (fun c24 => ?_)
      · rw [if_neg c24] at h
        refine vv_iincc (lv' := [(3, _), (0, _), (1, _), (2, _)]) 97 3 dX12_isPersonTold_97 rfl ik_4 (by decide) rfl ?_
        refine vv_goto 100 56 dX12_isPersonTold_100 (by decide) ?_
        refine vv_sub [(0, _), (1, _), (2, _), (3, _)] (sh_subm [1, 2, 3, 0] rfl) ?_
        exact ih_56 hG h
      · rw [if_pos c24] at h
        refine vv_aload_n 76 0 dX12_isPersonTold_76 rfl rfl ?_
        refine vv_getR 77 dX12_isPersonTold_77 fl_12_7 rfl (g_l_291 hG) (g_r_291_0 hG) ?_
        refine vv_iload_n 80 3 dX12_isPersonTold_80 rfl rfl ?_
        refine vv_iconst 81 dX12_isPersonTold_81 ik_1 ?_
        refine vv_iadd 82 dX12_isPersonTold_82 ?_
        obtain ⟨k25, h⟩ := sh_chk h
        refine vv_iald 83 dX12_isPersonTold_83 (g_l_292 hG) k25 ?_
        refine vv_aload_n 84 0 dX12_isPersonTold_84 rfl rfl ?_
        refine vv_getR 85 dX12_isPersonTold_85 fl_12_7 rfl (g_l_291 hG) (g_r_291_0 hG) ?_
        refine vv_iload_n 88 2 dX12_isPersonTold_88 rfl rfl ?_
        refine vv_iconst 89 dX12_isPersonTold_89 ik_1 ?_
        refine vv_iadd 90 dX12_isPersonTold_90 ?_
        obtain ⟨k26, h⟩ := sh_chk h
        refine vv_iald 91 dX12_isPersonTold_91 (g_l_292 hG) k26 ?_
        refine vv_icmp_ne 92 97 dX12_isPersonTold_92 (by decide) (fun c27 => ?_) (fun c27 => ?_)
        · rw [if_neg c27] at h
          refine vv_iincc (lv' := [(3, _), (0, _), (1, _), (2, _)]) 97 3 dX12_isPersonTold_97 rfl ik_4 (by decide) rfl ?_
          refine vv_goto 100 56 dX12_isPersonTold_100 (by decide) ?_
          refine vv_sub [(0, _), (1, _), (2, _), (3, _)] (sh_subm [1, 2, 3, 0] rfl) ?_
          exact ih_56 hG h
        · rw [if_pos c27] at h
          refine vv_iconst 95 dX12_isPersonTold_95 ik_0 ?_
          obtain ⟨e1, e2⟩ := sh_some2 h
          refine vv_zret 96 dX12_isPersonTold_96 rfl rfl (Nat.le_refl _) (Nat.le_refl _) ⟨by rw [e1], e2⟩
theorem gp_X12_isPersonTold {a1 : Int32} {a2 : Int32} {μ μ' : sh_Mem} {v : Int32} (hG : sh_G μ) (h : f_X12_isPersonTold a1 a2 μ = some (v, μ')) : sh_G μ' := by
  have ih_56 := (gpl_X12_isPersonTold sh_fuel)
  unfold f_X12_isPersonTold at h
  obtain ⟨k28, h⟩ := sh_chk h
  obtain ⟨k29, h⟩ := sh_chk h
  obtain ⟨y32, μ30, hr31, h⟩ := sh_bind_e h
  have hG30 := gp_X12_cellAt hG hr31
  by_cases c33 : y32 = (-1)
  · rw [if_pos c33] at h
    obtain ⟨e1, e2⟩ := sh_some2 h
    exact e2 ▸ hG30
  · rw [if_neg c33] at h
    obtain ⟨k34, h⟩ := sh_chk h
    by_cases c35 : 9 < (sh_i μ30 292 ((a2 + 2)).toNatClampNeg)
    · rw [if_pos c35] at h
      obtain ⟨e1, e2⟩ := sh_some2 h
      exact e2 ▸ hG30
    · rw [if_neg c35] at h
      obtain ⟨k36, h⟩ := sh_chk h
      obtain ⟨y39, μ37, hr38, h⟩ := sh_bind_e h
      have hG37 := gp_X12_topicMany hG30 hr38
      by_cases c40 : (sh_i μ30 292 ((a2 + 3)).toNatClampNeg) < ((1 : Int32) <<< (y39 &&& 31))
      · rw [if_pos c40] at h
        exact ih_56 hG37 h
      · rw [if_neg c40] at h
        obtain ⟨e1, e2⟩ := sh_some2 h
        exact e2 ▸ hG37
theorem t_X12_isPersonTold {a1 : Int32} {a2 : Int32} {μ μ' : sh_Mem} {v : Int32} (hG : sh_G μ) (h : f_X12_isPersonTold a1 a2 μ = some (v, μ')) : sh_C0 l B D ca 3 M_X12_isPersonTold [.ref 291, .int a1, .int a2] μ (fun v0 μ0 => v0 = some (.int v) ∧ μ0 = μ') := by
  have ih_56 := (tl_X12_isPersonTold (l := l) (B := B) (D := D) (ca := ca) sh_fuel)
  unfold f_X12_isPersonTold at h
  refine vv_aload_n 0 0 dX12_isPersonTold_0 rfl rfl ?_
  refine vv_aload_n 1 0 dX12_isPersonTold_1 rfl rfl ?_
  refine vv_getR 2 dX12_isPersonTold_2 fl_12_7 rfl (g_l_291 hG) (g_r_291_0 hG) ?_
  refine vv_iload_n 5 2 dX12_isPersonTold_5 rfl rfl ?_
  obtain ⟨k28, h⟩ := sh_chk h
  refine vv_iald 6 dX12_isPersonTold_6 (g_l_292 hG) k28 ?_
  refine vv_aload_n 7 0 dX12_isPersonTold_7 rfl rfl ?_
  refine vv_getR 8 dX12_isPersonTold_8 fl_12_7 rfl (g_l_291 hG) (g_r_291_0 hG) ?_
  refine vv_iload_n 11 2 dX12_isPersonTold_11 rfl rfl ?_
  refine vv_iconst 12 dX12_isPersonTold_12 ik_1 ?_
  refine vv_iadd 13 dX12_isPersonTold_13 ?_
  obtain ⟨k29, h⟩ := sh_chk h
  refine vv_iald 14 dX12_isPersonTold_14 (g_l_292 hG) k29 ?_
  obtain ⟨y32, μ30, hr31, h⟩ := sh_bind_e h
  refine v1_callV [_, _] 15 dX12_isPersonTold_15 ck_X12_414 (g_l_291 hG) ⟨by decide, rfl⟩ (t_X12_cellAt hG hr31) (Nat.le_of_ble_eq_true rfl) ⟨Nat.le_of_ble_eq_true rfl, Nat.le_of_ble_eq_true rfl⟩ rfl (Nat.le_of_ble_eq_true rfl) ?_
  have hG30 := gp_X12_cellAt hG hr31
  refine vv_iconst 18 dX12_isPersonTold_18 ik_m1 ?_
  refine vv_icmp_eq 19 52 dX12_isPersonTold_19 (by decide) (fun c33 => ?_) (fun c33 => ?_)
  · rw [if_pos c33] at h
    refine vv_iconst 52 dX12_isPersonTold_52 ik_0 ?_
    obtain ⟨e1, e2⟩ := sh_some2 h
    refine vv_zret 53 dX12_isPersonTold_53 rfl rfl (Nat.le_refl _) (Nat.le_refl _) ⟨by rw [e1], e2⟩
  · rw [if_neg c33] at h
    refine vv_aload_n 22 0 dX12_isPersonTold_22 rfl rfl ?_
    refine vv_getR 23 dX12_isPersonTold_23 fl_12_7 rfl (g_l_291 hG30) (g_r_291_0 hG30) ?_
    refine vv_iload_n 26 2 dX12_isPersonTold_26 rfl rfl ?_
    refine vv_iconst 27 dX12_isPersonTold_27 ik_2 ?_
    refine vv_iadd 28 dX12_isPersonTold_28 ?_
    obtain ⟨k34, h⟩ := sh_chk h
    refine vv_iald 29 dX12_isPersonTold_29 (g_l_292 hG30) k34 ?_
    refine vv_bipush 30 dX12_isPersonTold_30 bk_9 ?_
    refine vv_icmp_gt 32 52 dX12_isPersonTold_32 (by decide) (fun c35 => ?_) (fun c35 => ?_)
    · rw [if_pos c35] at h
      refine vv_iconst 52 dX12_isPersonTold_52 ik_0 ?_
      obtain ⟨e1, e2⟩ := sh_some2 h
      refine vv_zret 53 dX12_isPersonTold_53 rfl rfl (Nat.le_refl _) (Nat.le_refl _) ⟨by rw [e1], e2⟩
    · rw [if_neg c35] at h
      refine vv_aload_n 35 0 dX12_isPersonTold_35 rfl rfl ?_
      refine vv_getR 36 dX12_isPersonTold_36 fl_12_7 rfl (g_l_291 hG30) (g_r_291_0 hG30) ?_
      refine vv_iload_n 39 2 dX12_isPersonTold_39 rfl rfl ?_
      refine vv_iconst 40 dX12_isPersonTold_40 ik_3 ?_
      refine vv_iadd 41 dX12_isPersonTold_41 ?_
      obtain ⟨k36, h⟩ := sh_chk h
      refine vv_iald 42 dX12_isPersonTold_42 (g_l_292 hG30) k36 ?_
      refine vv_iconst 43 dX12_isPersonTold_43 ik_1 ?_
      refine vv_aload_n 44 0 dX12_isPersonTold_44 rfl rfl ?_
      obtain ⟨y39, μ37, hr38, h⟩ := sh_bind_e h
      refine v1_callV [] 45 dX12_isPersonTold_45 ck_X12_408 (g_l_291 hG30) ⟨by decide, rfl⟩ (t_X12_topicMany hG30 hr38) (Nat.le_of_ble_eq_true rfl) ⟨Nat.le_of_ble_eq_true rfl, Nat.le_of_ble_eq_true rfl⟩ rfl (Nat.le_of_ble_eq_true rfl) ?_
      have hG37 := gp_X12_topicMany hG30 hr38
      refine vv_ishl 48 dX12_isPersonTold_48 ?_
      refine vv_icmp_lt 49 54 dX12_isPersonTold_49 (by decide) (fun c40 => ?_) (fun c40 => ?_)
      · rw [if_pos c40] at h
        refine vv_iload_n 54 1 dX12_isPersonTold_54 rfl rfl ?_
        refine vv_istore_n (lv' := [(3, _), (0, _), (1, _), (2, _)]) 55 3 dX12_isPersonTold_55 rfl (by decide) rfl ?_
        refine vv_sub [(0, _), (1, _), (2, _), (3, _)] (sh_subm [1, 2, 3, 0] rfl) ?_
        exact ih_56 hG37 h
      · rw [if_neg c40] at h
        refine vv_iconst 52 dX12_isPersonTold_52 ik_0 ?_
        obtain ⟨e1, e2⟩ := sh_some2 h
        refine vv_zret 53 dX12_isPersonTold_53 rfl rfl (Nat.le_refl _) (Nat.le_refl _) ⟨by rw [e1], e2⟩
noncomputable def F_X12_isImage : Nat → Nat → Int32 → Int32 → Int32 → sh_Mem → Option (Int32 × sh_Mem)
  | 0, _, _, _, _, _ => none
  | fuel + 1, lbl, i1, i2, i3, μ => match lbl with
    | 1 => (if i2 ≤ i3 then F_X12_isImage fuel 2 i1 i2 i2 μ else (if sh_in i3 1600 then (if (sh_i μ 292 i3.toNatClampNeg) ≤ 99 then F_X12_isImage fuel 1 i1 i2 (i3 + 1) μ else some (0, μ)) else none))
    | 2 => (if (i1 - 1) ≤ i3 then some (1, μ) else sh_bind (f_X12_isPersonTold i2 i3 μ) (fun y38 μ36 => (if y38 = 0 then some (0, μ36) else F_X12_isImage fuel 2 i1 i2 (i3 + 4) μ36)))
    | _ => none
noncomputable def f_X12_isImage (a1 : Int32) (μ : sh_Mem) : Option (Int32 × sh_Mem) := sh_bind (f_X12_cellMany μ) (fun y42 μ40 => sh_let ((2 + y42) : Int32) (fun x43 => (if (sh_i μ40 291 50) = 0 then some (0, μ40) else sh_bind (f_X12_personMany μ40) (fun y47 μ45 => (if a1 = ((x43 + (4 * y47)) + 1) then (if sh_in (a1 - 1) 1600 then sh_bind (f_X12_checked 292 1600 (a1 - 1) μ45) (fun y52 μ50 => (if (sh_i μ45 292 ((a1 - 1)).toNatClampNeg) = y52 then (if ((256 * (sh_i μ50 292 (Int32.toNatClampNeg 0))) + (sh_i μ50 292 (Int32.toNatClampNeg 1))) ≤ 999 then F_X12_isImage sh_fuel 1 a1 x43 2 μ50 else some (0, μ50)) else some (0, μ50))) else none) else some (0, μ45))))))
theorem gpl_X12_isImage (fuel : Nat) : (∀ ⦃i1 : Int32⦄ ⦃i2 : Int32⦄ ⦃i3 : Int32⦄ ⦃μ μ' : sh_Mem⦄ ⦃v : Int32⦄, sh_G μ → F_X12_isImage fuel 1 i1 i2 i3 μ = some (v, μ') → sh_G μ') ∧ (∀ ⦃i1 : Int32⦄ ⦃i2 : Int32⦄ ⦃i3 : Int32⦄ ⦃μ μ' : sh_Mem⦄ ⦃v : Int32⦄, sh_G μ → F_X12_isImage fuel 2 i1 i2 i3 μ = some (v, μ') → sh_G μ') := by
  induction fuel with
  | zero => exact ⟨(by intro i1 i2 i3 μ μ' v hG h; cases h), (by intro i1 i2 i3 μ μ' v hG h; cases h)⟩
  | succ fuel ih =>
    obtain ⟨ih_76, ih_102⟩ := ih
    refine ⟨?_, ?_⟩
    · intro i1 i2 i3 μ μ' v hG h
      replace h : ((if i2 ≤ i3 then F_X12_isImage fuel 2 i1 i2 i2 μ else (if sh_in i3 1600 then (if (sh_i μ 292 i3.toNatClampNeg) ≤ 99 then F_X12_isImage fuel 1 i1 i2 (i3 + 1) μ else some (0, μ)) else none)) : Option (Int32 × sh_Mem)) = some (v, μ') := h
      by_cases c32 : i2 ≤ i3
      · rw [if_pos c32] at h
        exact ih_102 hG h
      · rw [if_neg c32] at h
        obtain ⟨k33, h⟩ := sh_chk h
        by_cases c34 : (sh_i μ 292 i3.toNatClampNeg) ≤ 99
        · rw [if_pos c34] at h
          exact ih_76 hG h
        · rw [if_neg c34] at h
          obtain ⟨e1, e2⟩ := sh_some2 h
          exact e2 ▸ hG
    · intro i1 i2 i3 μ μ' v hG h
      replace h : ((if (i1 - 1) ≤ i3 then some (1, μ) else sh_bind (f_X12_isPersonTold i2 i3 μ) (fun y38 μ36 => (if y38 = 0 then some (0, μ36) else F_X12_isImage fuel 2 i1 i2 (i3 + 4) μ36))) : Option (Int32 × sh_Mem)) = some (v, μ') := h
      by_cases c35 : (i1 - 1) ≤ i3
      · rw [if_pos c35] at h
        obtain ⟨e1, e2⟩ := sh_some2 h
        exact e2 ▸ hG
      · rw [if_neg c35] at h
        obtain ⟨y38, μ36, hr37, h⟩ := sh_bind_e h
        have hG36 := gp_X12_isPersonTold hG hr37
        by_cases c39 : y38 = 0
        · rw [if_pos c39] at h
          obtain ⟨e1, e2⟩ := sh_some2 h
          exact e2 ▸ hG36
        · rw [if_neg c39] at h
          exact ih_102 hG36 h
theorem tl_X12_isImage (fuel : Nat) : (∀ ⦃i1 : Int32⦄ ⦃i2 : Int32⦄ ⦃i3 : Int32⦄ ⦃μ μ' : sh_Mem⦄ ⦃v : Int32⦄, sh_G μ → F_X12_isImage fuel 1 i1 i2 i3 μ = some (v, μ') → sh_V0 l B D ca 4 M_X12_isImage 76 [(0, .ref 291), (1, .int i1), (2, .int i2), (3, .int i3)] [] μ (fun v0 μ0 => v0 = some (.int v) ∧ μ0 = μ')) ∧ (∀ ⦃i1 : Int32⦄ ⦃i2 : Int32⦄ ⦃i3 : Int32⦄ ⦃μ μ' : sh_Mem⦄ ⦃v : Int32⦄, sh_G μ → F_X12_isImage fuel 2 i1 i2 i3 μ = some (v, μ') → sh_V0 l B D ca 4 M_X12_isImage 102 [(0, .ref 291), (1, .int i1), (2, .int i2), (3, .int i3)] [] μ (fun v0 μ0 => v0 = some (.int v) ∧ μ0 = μ')) := by
  induction fuel with
  | zero => exact ⟨(by intro i1 i2 i3 μ μ' v hG h; cases h), (by intro i1 i2 i3 μ μ' v hG h; cases h)⟩
  | succ fuel ih =>
    obtain ⟨ih_76, ih_102⟩ := ih
    refine ⟨?_, ?_⟩
    · intro i1 i2 i3 μ μ' v hG h
      replace h : ((if i2 ≤ i3 then F_X12_isImage fuel 2 i1 i2 i2 μ else (if sh_in i3 1600 then (if (sh_i μ 292 i3.toNatClampNeg) ≤ 99 then F_X12_isImage fuel 1 i1 i2 (i3 + 1) μ else some (0, μ)) else none)) : Option (Int32 × sh_Mem)) = some (v, μ') := h
      refine vv_iload_n 76 3 dX12_isImage_76 rfl rfl ?_
      refine vv_iload_n 77 2 dX12_isImage_77 rfl rfl ?_
      refine vv_icmp_ge 78 100 dX12_isImage_78 (by decide) (fun c32 => ?_) (fun c32 => ?_)
      · rw [if_pos c32] at h
        refine vv_iload_n 100 2 dX12_isImage_100 rfl rfl ?_
        refine vv_istore_n (lv' := [(3, _), (0, _), (1, _), (2, _)]) 101 3 dX12_isImage_101 rfl (by decide) rfl ?_
        refine vv_sub [(0, _), (1, _), (2, _), (3, _)] (sh_subm [1, 2, 3, 0] rfl) ?_
        exact ih_102 hG h
      · rw [if_neg c32] at h
        refine vv_aload_n 81 0 dX12_isImage_81 rfl rfl ?_
        refine vv_getR 82 dX12_isImage_82 fl_12_7 rfl (g_l_291 hG) (g_r_291_0 hG) ?_
        refine vv_iload_n 85 3 dX12_isImage_85 rfl rfl ?_
        obtain ⟨k33, h⟩ := sh_chk h
        refine vv_iald 86 dX12_isImage_86 (g_l_292 hG) k33 ?_
        refine vv_bipush 87 dX12_isImage_87 bk_99 ?_
        refine vv_icmp_le 89 94 dX12_isImage_89 (by decide) (fun c34 => ?_) (fun c34 => ?_)
        · rw [if_pos c34] at h
          refine vv_iincc (lv' := [(3, _), (0, _), (1, _), (2, _)]) 94 3 dX12_isImage_94 rfl ik_1 (by decide) rfl ?_
          refine vv_goto 97 76 dX12_isImage_97 (by decide) ?_
          refine vv_sub [(0, _), (1, _), (2, _), (3, _)] (sh_subm [1, 2, 3, 0] rfl) ?_
          exact ih_76 hG h
        · rw [if_neg c34] at h
          refine vv_iconst 92 dX12_isImage_92 ik_0 ?_
          obtain ⟨e1, e2⟩ := sh_some2 h
          refine vv_zret 93 dX12_isImage_93 rfl rfl (Nat.le_refl _) (Nat.le_refl _) ⟨by rw [e1], e2⟩
    · intro i1 i2 i3 μ μ' v hG h
      replace h : ((if (i1 - 1) ≤ i3 then some (1, μ) else sh_bind (f_X12_isPersonTold i2 i3 μ) (fun y38 μ36 => (if y38 = 0 then some (0, μ36) else F_X12_isImage fuel 2 i1 i2 (i3 + 4) μ36))) : Option (Int32 × sh_Mem)) = some (v, μ') := h
      refine vv_iload_n 102 3 dX12_isImage_102 rfl rfl ?_
      refine vv_iload_n 103 1 dX12_isImage_103 rfl rfl ?_
      refine vv_iconst 104 dX12_isImage_104 ik_1 ?_
      refine vv_isub 105 dX12_isImage_105 ?_
      refine vv_icmp_ge 106 126 dX12_isImage_106 (by decide) (fun c35 => ?_) (fun c35 => ?_)
      · rw [if_pos c35] at h
        refine vv_iconst 126 dX12_isImage_126 ik_1 ?_
        obtain ⟨e1, e2⟩ := sh_some2 h
        refine vv_zret 127 dX12_isImage_127 rfl rfl (Nat.le_refl _) (Nat.le_refl _) ⟨by rw [e1], e2⟩
      · rw [if_neg c35] at h
        refine vv_aload_n 109 0 dX12_isImage_109 rfl rfl ?_
        refine vv_iload_n 110 2 dX12_isImage_110 rfl rfl ?_
        refine vv_iload_n 111 3 dX12_isImage_111 rfl rfl ?_
        obtain ⟨y38, μ36, hr37, h⟩ := sh_bind_e h
        refine v1_callV [_, _] 112 dX12_isImage_112 ck_X12_745 (g_l_291 hG) ⟨by decide, rfl⟩ (t_X12_isPersonTold hG hr37) (Nat.le_of_ble_eq_true rfl) ⟨Nat.le_of_ble_eq_true rfl, Nat.le_of_ble_eq_true rfl⟩ rfl (Nat.le_of_ble_eq_true rfl) ?_
        have hG36 := gp_X12_isPersonTold hG hr37
        refine vv_if_ne 115 120 dX12_isImage_115 (by decide) (fun c39 => ?_) (fun c39 => ?_)
        · rw [if_neg c39] at h
          refine vv_iincc (lv' := [(3, _), (0, _), (1, _), (2, _)]) 120 3 dX12_isImage_120 rfl ik_4 (by decide) rfl ?_
          refine vv_goto 123 102 dX12_isImage_123 (by decide) ?_
          refine vv_sub [(0, _), (1, _), (2, _), (3, _)] (sh_subm [1, 2, 3, 0] rfl) ?_
          exact ih_102 hG36 h
        · rw [if_pos c39] at h
          refine vv_iconst 118 dX12_isImage_118 ik_0 ?_
          obtain ⟨e1, e2⟩ := sh_some2 h
          refine vv_zret 119 dX12_isImage_119 rfl rfl (Nat.le_refl _) (Nat.le_refl _) ⟨by rw [e1], e2⟩
theorem gp_X12_isImage {a1 : Int32} {μ μ' : sh_Mem} {v : Int32} (hG : sh_G μ) (h : f_X12_isImage a1 μ = some (v, μ')) : sh_G μ' := by
  have ih_76 := (gpl_X12_isImage sh_fuel).1
  have ih_102 := (gpl_X12_isImage sh_fuel).2
  unfold f_X12_isImage at h
  obtain ⟨y42, μ40, hr41, h⟩ := sh_bind_e h
  have hG40 := gp_X12_cellMany hG hr41
  obtain ⟨x43, ex43⟩ : ∃ y : Int32, y = (2 + y42) := ⟨_, rfl⟩
  rw [sh_let_eq ex43] at h
  by_cases c44 : (sh_i μ40 291 50) = 0
  · rw [if_pos c44] at h
    obtain ⟨e1, e2⟩ := sh_some2 h
    exact e2 ▸ hG40
  · rw [if_neg c44] at h
    obtain ⟨y47, μ45, hr46, h⟩ := sh_bind_e h
    have hG45 := gp_X12_personMany hG40 hr46
    by_cases c48 : a1 = ((x43 + (4 * y47)) + 1)
    · rw [if_pos c48] at h
      obtain ⟨k49, h⟩ := sh_chk h
      obtain ⟨y52, μ50, hr51, h⟩ := sh_bind_e h
      have hG50 := gp_X12_checked hG45 (sh_LAYat_292) hr51
      by_cases c53 : (sh_i μ45 292 ((a1 - 1)).toNatClampNeg) = y52
      · rw [if_pos c53] at h
        by_cases c54 : ((256 * (sh_i μ50 292 (Int32.toNatClampNeg 0))) + (sh_i μ50 292 (Int32.toNatClampNeg 1))) ≤ 999
        · rw [if_pos c54] at h
          exact ih_76 hG50 h
        · rw [if_neg c54] at h
          obtain ⟨e1, e2⟩ := sh_some2 h
          exact e2 ▸ hG50
      · rw [if_neg c53] at h
        obtain ⟨e1, e2⟩ := sh_some2 h
        exact e2 ▸ hG50
    · rw [if_neg c48] at h
      obtain ⟨e1, e2⟩ := sh_some2 h
      exact e2 ▸ hG45
theorem t_X12_isImage {a1 : Int32} {μ μ' : sh_Mem} {v : Int32} (hG : sh_G μ) (h : f_X12_isImage a1 μ = some (v, μ')) : sh_C0 l B D ca 4 M_X12_isImage [.ref 291, .int a1] μ (fun v0 μ0 => v0 = some (.int v) ∧ μ0 = μ') := by
  have ih_76 := (tl_X12_isImage (l := l) (B := B) (D := D) (ca := ca) sh_fuel).1
  have ih_102 := (tl_X12_isImage (l := l) (B := B) (D := D) (ca := ca) sh_fuel).2
  unfold f_X12_isImage at h
  refine vv_iconst 0 dX12_isImage_0 ik_2 ?_
  refine vv_aload_n 1 0 dX12_isImage_1 rfl rfl ?_
  obtain ⟨y42, μ40, hr41, h⟩ := sh_bind_e h
  refine v1_callV [] 2 dX12_isImage_2 ck_X12_447 (g_l_291 hG) ⟨by decide, rfl⟩ (t_X12_cellMany hG hr41) (Nat.le_of_ble_eq_true rfl) ⟨Nat.le_of_ble_eq_true rfl, Nat.le_of_ble_eq_true rfl⟩ rfl (Nat.le_of_ble_eq_true rfl) ?_
  have hG40 := gp_X12_cellMany hG hr41
  refine vv_iadd 5 dX12_isImage_5 ?_
  refine vv_topi (fun x43 ex43 => ?_)
  rw [sh_let_eq ex43] at h
  refine vv_istore_n (lv' := [(2, _), (0, _), (1, _)]) 6 2 dX12_isImage_6 rfl (by decide) rfl ?_
  refine vv_aload_n 7 0 dX12_isImage_7 rfl rfl ?_
  refine vv_getI 8 dX12_isImage_8 fl_12_398 rfl (g_l_291 hG40) ?_
  refine vv_if_eq 11 72 dX12_isImage_11 (by decide) (fun c44 => ?_) (fun c44 => ?_)
  · rw [if_pos c44] at h
    refine vv_iconst 72 dX12_isImage_72 ik_0 ?_
    obtain ⟨e1, e2⟩ := sh_some2 h
    refine vv_zret 73 dX12_isImage_73 rfl rfl (Nat.le_refl _) (Nat.le_refl _) ⟨by rw [e1], e2⟩
  · rw [if_neg c44] at h
    refine vv_iload_n 14 1 dX12_isImage_14 rfl rfl ?_
    refine vv_iload_n 15 2 dX12_isImage_15 rfl rfl ?_
    refine vv_iconst 16 dX12_isImage_16 ik_4 ?_
    refine vv_aload_n 17 0 dX12_isImage_17 rfl rfl ?_
    obtain ⟨y47, μ45, hr46, h⟩ := sh_bind_e h
    refine v1_callV [] 18 dX12_isImage_18 ck_X12_411 (g_l_291 hG40) ⟨by decide, rfl⟩ (t_X12_personMany hG40 hr46) (Nat.le_of_ble_eq_true rfl) ⟨Nat.le_of_ble_eq_true rfl, Nat.le_of_ble_eq_true rfl⟩ rfl (Nat.le_of_ble_eq_true rfl) ?_
    have hG45 := gp_X12_personMany hG40 hr46
    refine vv_imul 21 dX12_isImage_21 ?_
    refine vv_iadd 22 dX12_isImage_22 ?_
    refine vv_iconst 23 dX12_isImage_23 ik_1 ?_
    refine vv_iadd 24 dX12_isImage_24 ?_
    refine vv_icmp_ne 25 72 dX12_isImage_25 (by decide) (fun c48 => ?_) (fun c48 => ?_)
    · rw [if_neg c48] at h
      refine vv_iconst 72 dX12_isImage_72 ik_0 ?_
      obtain ⟨e1, e2⟩ := sh_some2 h
      refine vv_zret 73 dX12_isImage_73 rfl rfl (Nat.le_refl _) (Nat.le_refl _) ⟨by rw [e1], e2⟩
    · rw [if_pos c48] at h
      refine vv_aload_n 28 0 dX12_isImage_28 rfl rfl ?_
      refine vv_getR 29 dX12_isImage_29 fl_12_7 rfl (g_l_291 hG45) (g_r_291_0 hG45) ?_
      refine vv_iload_n 32 1 dX12_isImage_32 rfl rfl ?_
      refine vv_iconst 33 dX12_isImage_33 ik_1 ?_
      refine vv_isub 34 dX12_isImage_34 ?_
      obtain ⟨k49, h⟩ := sh_chk h
      refine vv_iald 35 dX12_isImage_35 (g_l_292 hG45) k49 ?_
      refine vv_aload_n 36 0 dX12_isImage_36 rfl rfl ?_
      refine vv_getR 37 dX12_isImage_37 fl_12_7 rfl (g_l_291 hG45) (g_r_291_0 hG45) ?_
      refine vv_iload_n 40 1 dX12_isImage_40 rfl rfl ?_
      refine vv_iconst 41 dX12_isImage_41 ik_1 ?_
      refine vv_isub 42 dX12_isImage_42 ?_
      obtain ⟨y52, μ50, hr51, h⟩ := sh_bind_e h
      refine v1_callS [_, _] 43 dX12_isImage_43 ck_X12_741 (t_X12_checked hG45 (sh_LAYat_292) hr51) (Nat.le_of_ble_eq_true rfl) ⟨Nat.le_of_ble_eq_true rfl, Nat.le_of_ble_eq_true rfl⟩ rfl (Nat.le_of_ble_eq_true rfl) ?_
      have hG50 := gp_X12_checked hG45 (sh_LAYat_292) hr51
      refine vv_icmp_ne 46 72 dX12_isImage_46 (by decide) (fun c53 => ?_) (fun c53 => ?_)
      · rw [if_neg c53] at h
        refine vv_iconst 72 dX12_isImage_72 ik_0 ?_
        obtain ⟨e1, e2⟩ := sh_some2 h
        refine vv_zret 73 dX12_isImage_73 rfl rfl (Nat.le_refl _) (Nat.le_refl _) ⟨by rw [e1], e2⟩
      · rw [if_pos c53] at h
        refine vv_sipush 49 dX12_isImage_49 sk_256 ?_
        refine vv_aload_n 52 0 dX12_isImage_52 rfl rfl ?_
        refine vv_getR 53 dX12_isImage_53 fl_12_7 rfl (g_l_291 hG50) (g_r_291_0 hG50) ?_
        refine vv_iconst 56 dX12_isImage_56 ik_0 ?_
        refine vv_iald 57 dX12_isImage_57 (g_l_292 hG50) (by unfold vp_in; decide) ?_
        refine vv_imul 58 dX12_isImage_58 ?_
        refine vv_aload_n 59 0 dX12_isImage_59 rfl rfl ?_
        refine vv_getR 60 dX12_isImage_60 fl_12_7 rfl (g_l_291 hG50) (g_r_291_0 hG50) ?_
        refine vv_iconst 63 dX12_isImage_63 ik_1 ?_
        refine vv_iald 64 dX12_isImage_64 (g_l_292 hG50) (by unfold vp_in; decide) ?_
        refine vv_iadd 65 dX12_isImage_65 ?_
        refine vv_sipush 66 dX12_isImage_66 sk_999 ?_
        refine vv_icmp_le 69 74 dX12_isImage_69 (by decide) (fun c54 => ?_) (fun c54 => ?_)
        · rw [if_pos c54] at h
          refine vv_iconst 74 dX12_isImage_74 ik_2 ?_
          refine vv_istore_n (lv' := [(3, _), (2, _), (0, _), (1, _)]) 75 3 dX12_isImage_75 rfl (by decide) rfl ?_
          refine vv_sub [(0, _), (1, _), (2, _), (3, _)] (sh_subm [2, 3, 1, 0] rfl) ?_
          exact ih_76 hG50 h
        · rw [if_neg c54] at h
          refine vv_iconst 72 dX12_isImage_72 ik_0 ?_
          obtain ⟨e1, e2⟩ := sh_some2 h
          refine vv_zret 73 dX12_isImage_73 rfl rfl (Nat.le_refl _) (Nat.le_refl _) ⟨by rw [e1], e2⟩
noncomputable def F_X12_on : Nat → Nat → Int32 → Int32 → Int32 → sh_Mem → Option (Int32 × sh_Mem)
  | 0, _, _, _, _, _ => none
  | fuel + 1, lbl, i1, i2, i3, μ => match lbl with
    | 1 => sh_bind (f_X12_cellMany μ) (fun y73 μ71 => (if y73 ≤ i3 then F_X12_on fuel 2 i1 i2 0 μ71 else sh_bind (f_X12_cellOrder i3 μ71) (fun y77 μ75 => (if sh_in (2 + i3) 1600 then (if sh_in (1 + y77) 232 then sh_let (sh_setI μ75 330 ((1 + y77)).toNatClampNeg (sh_i μ75 292 ((2 + i3)).toNatClampNeg)) (fun μ80 => F_X12_on fuel 1 i1 i2 (i3 + 1) μ80) else none) else none))))
    | 2 => sh_bind (f_X12_personMany μ) (fun y83 μ81 => (if y83 ≤ i3 then sh_let (sh_setI μ81 330 (Int32.toNatClampNeg 71) 0) (fun μ85 => sh_let (sh_setI μ85 291 76 0) (fun μ86 => some (1, μ86))) else (if sh_in (i2 + (4 * i3)) 1600 then (if sh_in ((i2 + (4 * i3)) + 1) 1600 then sh_bind (f_X12_cellAt (sh_i μ81 292 ((i2 + (4 * i3))).toNatClampNeg) (sh_i μ81 292 (((i2 + (4 * i3)) + 1)).toNatClampNeg) μ81) (fun y91 μ89 => (if sh_in (50 + (3 * i3)) 232 then sh_let (sh_setI μ89 330 ((50 + (3 * i3))).toNatClampNeg y91) (fun μ93 => (if sh_in ((i2 + (4 * i3)) + 2) 1600 then (if sh_in (51 + (3 * i3)) 232 then sh_let (sh_setI μ93 330 ((51 + (3 * i3))).toNatClampNeg (sh_i μ93 292 (((i2 + (4 * i3)) + 2)).toNatClampNeg)) (fun μ96 => (if sh_in ((i2 + (4 * i3)) + 3) 1600 then (if sh_in (52 + (3 * i3)) 232 then sh_let (sh_setI μ96 330 ((52 + (3 * i3))).toNatClampNeg (sh_i μ96 292 (((i2 + (4 * i3)) + 3)).toNatClampNeg)) (fun μ99 => F_X12_on fuel 2 i1 i2 (i3 + 1) μ99) else none) else none)) else none) else none)) else none)) else none) else none)))
    | _ => none
noncomputable def f_X12_on (μ : sh_Mem) : Option (Int32 × sh_Mem) := sh_let ((sh_i μ 291 1) : Int32) (fun x100 => sh_let (sh_setI μ 291 1 0) (fun μ101 => sh_bind (f_X12_isImage x100 μ101) (fun y104 μ102 => (if y104 = 0 then sh_let (sh_setI μ102 293 (Int32.toNatClampNeg 5) ((sh_i μ102 293 (Int32.toNatClampNeg 5)) + 1)) (fun μ111 => some (0, μ111)) else sh_bind (f_X12_cellMany μ102) (fun y108 μ106 => sh_let ((2 + y108) : Int32) (fun x109 => sh_let (sh_setI μ106 330 (Int32.toNatClampNeg 0) ((256 * (sh_i μ106 292 (Int32.toNatClampNeg 0))) + (sh_i μ106 292 (Int32.toNatClampNeg 1)))) (fun μ110 => F_X12_on sh_fuel 1 x100 x109 0 μ110)))))))
theorem gpl_X12_on (fuel : Nat) : (∀ ⦃i1 : Int32⦄ ⦃i2 : Int32⦄ ⦃i3 : Int32⦄ ⦃μ μ' : sh_Mem⦄ ⦃v : Int32⦄, sh_G μ → F_X12_on fuel 1 i1 i2 i3 μ = some (v, μ') → sh_G μ') ∧ (∀ ⦃i1 : Int32⦄ ⦃i2 : Int32⦄ ⦃i3 : Int32⦄ ⦃μ μ' : sh_Mem⦄ ⦃v : Int32⦄, sh_G μ → F_X12_on fuel 2 i1 i2 i3 μ = some (v, μ') → sh_G μ') := by
  induction fuel with
  | zero => exact ⟨(by intro i1 i2 i3 μ μ' v hG h; cases h), (by intro i1 i2 i3 μ μ' v hG h; cases h)⟩
  | succ fuel ih =>
    obtain ⟨ih_62, ih_98⟩ := ih
    refine ⟨?_, ?_⟩
    · intro i1 i2 i3 μ μ' v hG h
      replace h : (sh_bind (f_X12_cellMany μ) (fun y73 μ71 => (if y73 ≤ i3 then F_X12_on fuel 2 i1 i2 0 μ71 else sh_bind (f_X12_cellOrder i3 μ71) (fun y77 μ75 => (if sh_in (2 + i3) 1600 then (if sh_in (1 + y77) 232 then sh_let (sh_setI μ75 330 ((1 + y77)).toNatClampNeg (sh_i μ75 292 ((2 + i3)).toNatClampNeg)) (fun μ80 => F_X12_on fuel 1 i1 i2 (i3 + 1) μ80) else none) else none)))) : Option (Int32 × sh_Mem)) = some (v, μ') := h
      obtain ⟨y73, μ71, hr72, h⟩ := sh_bind_e h
      have hG71 := gp_X12_cellMany hG hr72
      by_cases c74 : y73 ≤ i3
      · rw [if_pos c74] at h
        exact ih_98 hG71 h
      · rw [if_neg c74] at h
        obtain ⟨y77, μ75, hr76, h⟩ := sh_bind_e h
        have hG75 := gp_X12_cellOrder hG71 hr76
        obtain ⟨k78, h⟩ := sh_chk h
        obtain ⟨k79, h⟩ := sh_chk h
        obtain ⟨μ80, eμ80⟩ : ∃ y : sh_Mem, y = (sh_setI μ75 330 ((1 + y77)).toNatClampNeg (sh_i μ75 292 ((2 + i3)).toNatClampNeg)) := ⟨_, rfl⟩
        rw [sh_let_eq eμ80] at h
        have hG80 : sh_G μ80 := by rw [eμ80]; exact hG75
        exact ih_62 hG80 h
    · intro i1 i2 i3 μ μ' v hG h
      replace h : (sh_bind (f_X12_personMany μ) (fun y83 μ81 => (if y83 ≤ i3 then sh_let (sh_setI μ81 330 (Int32.toNatClampNeg 71) 0) (fun μ85 => sh_let (sh_setI μ85 291 76 0) (fun μ86 => some (1, μ86))) else (if sh_in (i2 + (4 * i3)) 1600 then (if sh_in ((i2 + (4 * i3)) + 1) 1600 then sh_bind (f_X12_cellAt (sh_i μ81 292 ((i2 + (4 * i3))).toNatClampNeg) (sh_i μ81 292 (((i2 + (4 * i3)) + 1)).toNatClampNeg) μ81) (fun y91 μ89 => (if sh_in (50 + (3 * i3)) 232 then sh_let (sh_setI μ89 330 ((50 + (3 * i3))).toNatClampNeg y91) (fun μ93 => (if sh_in ((i2 + (4 * i3)) + 2) 1600 then (if sh_in (51 + (3 * i3)) 232 then sh_let (sh_setI μ93 330 ((51 + (3 * i3))).toNatClampNeg (sh_i μ93 292 (((i2 + (4 * i3)) + 2)).toNatClampNeg)) (fun μ96 => (if sh_in ((i2 + (4 * i3)) + 3) 1600 then (if sh_in (52 + (3 * i3)) 232 then sh_let (sh_setI μ96 330 ((52 + (3 * i3))).toNatClampNeg (sh_i μ96 292 (((i2 + (4 * i3)) + 3)).toNatClampNeg)) (fun μ99 => F_X12_on fuel 2 i1 i2 (i3 + 1) μ99) else none) else none)) else none) else none)) else none)) else none) else none))) : Option (Int32 × sh_Mem)) = some (v, μ') := h
      obtain ⟨y83, μ81, hr82, h⟩ := sh_bind_e h
      have hG81 := gp_X12_personMany hG hr82
      by_cases c84 : y83 ≤ i3
      · rw [if_pos c84] at h
        obtain ⟨μ85, eμ85⟩ : ∃ y : sh_Mem, y = (sh_setI μ81 330 (Int32.toNatClampNeg 71) 0) := ⟨_, rfl⟩
        rw [sh_let_eq eμ85] at h
        have hG85 : sh_G μ85 := by rw [eμ85]; exact hG81
        obtain ⟨μ86, eμ86⟩ : ∃ y : sh_Mem, y = (sh_setI μ85 291 76 0) := ⟨_, rfl⟩
        rw [sh_let_eq eμ86] at h
        have hG86 : sh_G μ86 := by rw [eμ86]; exact hG85
        obtain ⟨e1, e2⟩ := sh_some2 h
        exact e2 ▸ hG86
      · rw [if_neg c84] at h
        obtain ⟨k87, h⟩ := sh_chk h
        obtain ⟨k88, h⟩ := sh_chk h
        obtain ⟨y91, μ89, hr90, h⟩ := sh_bind_e h
        have hG89 := gp_X12_cellAt hG81 hr90
        obtain ⟨k92, h⟩ := sh_chk h
        obtain ⟨μ93, eμ93⟩ : ∃ y : sh_Mem, y = (sh_setI μ89 330 ((50 + (3 * i3))).toNatClampNeg y91) := ⟨_, rfl⟩
        rw [sh_let_eq eμ93] at h
        have hG93 : sh_G μ93 := by rw [eμ93]; exact hG89
        obtain ⟨k94, h⟩ := sh_chk h
        obtain ⟨k95, h⟩ := sh_chk h
        obtain ⟨μ96, eμ96⟩ : ∃ y : sh_Mem, y = (sh_setI μ93 330 ((51 + (3 * i3))).toNatClampNeg (sh_i μ93 292 (((i2 + (4 * i3)) + 2)).toNatClampNeg)) := ⟨_, rfl⟩
        rw [sh_let_eq eμ96] at h
        have hG96 : sh_G μ96 := by rw [eμ96]; exact hG93
        obtain ⟨k97, h⟩ := sh_chk h
        obtain ⟨k98, h⟩ := sh_chk h
        obtain ⟨μ99, eμ99⟩ : ∃ y : sh_Mem, y = (sh_setI μ96 330 ((52 + (3 * i3))).toNatClampNeg (sh_i μ96 292 (((i2 + (4 * i3)) + 3)).toNatClampNeg)) := ⟨_, rfl⟩
        rw [sh_let_eq eμ99] at h
        have hG99 : sh_G μ99 := by rw [eμ99]; exact hG96
        exact ih_98 hG99 h
theorem tl_X12_on (fuel : Nat) : (∀ ⦃i1 : Int32⦄ ⦃i2 : Int32⦄ ⦃i3 : Int32⦄ ⦃μ μ' : sh_Mem⦄ ⦃v : Int32⦄, sh_G μ → F_X12_on fuel 1 i1 i2 i3 μ = some (v, μ') → sh_V0 l B D ca 5 M_X12_on 62 [(0, .ref 291), (1, .int i1), (2, .int i2), (3, .int i3)] [] μ (fun v0 μ0 => v0 = some (.int v) ∧ μ0 = μ')) ∧ (∀ ⦃i1 : Int32⦄ ⦃i2 : Int32⦄ ⦃i3 : Int32⦄ ⦃μ μ' : sh_Mem⦄ ⦃v : Int32⦄, sh_G μ → F_X12_on fuel 2 i1 i2 i3 μ = some (v, μ') → sh_V0 l B D ca 5 M_X12_on 98 [(0, .ref 291), (1, .int i1), (2, .int i2), (3, .int i3)] [] μ (fun v0 μ0 => v0 = some (.int v) ∧ μ0 = μ')) := by
  induction fuel with
  | zero => exact ⟨(by intro i1 i2 i3 μ μ' v hG h; cases h), (by intro i1 i2 i3 μ μ' v hG h; cases h)⟩
  | succ fuel ih =>
    obtain ⟨ih_62, ih_98⟩ := ih
    refine ⟨?_, ?_⟩
    · intro i1 i2 i3 μ μ' v hG h
      replace h : (sh_bind (f_X12_cellMany μ) (fun y73 μ71 => (if y73 ≤ i3 then F_X12_on fuel 2 i1 i2 0 μ71 else sh_bind (f_X12_cellOrder i3 μ71) (fun y77 μ75 => (if sh_in (2 + i3) 1600 then (if sh_in (1 + y77) 232 then sh_let (sh_setI μ75 330 ((1 + y77)).toNatClampNeg (sh_i μ75 292 ((2 + i3)).toNatClampNeg)) (fun μ80 => F_X12_on fuel 1 i1 i2 (i3 + 1) μ80) else none) else none)))) : Option (Int32 × sh_Mem)) = some (v, μ') := h
      refine vv_iload_n 62 3 dX12_on_62 rfl rfl ?_
      refine vv_aload_n 63 0 dX12_on_63 rfl rfl ?_
      obtain ⟨y73, μ71, hr72, h⟩ := sh_bind_e h
      refine v1_callV [] 64 dX12_on_64 ck_X12_447 (g_l_291 hG) ⟨by decide, rfl⟩ (t_X12_cellMany hG hr72) (Nat.le_of_ble_eq_true rfl) ⟨Nat.le_of_ble_eq_true rfl, Nat.le_of_ble_eq_true rfl⟩ rfl (Nat.le_of_ble_eq_true rfl) ?_
      have hG71 := gp_X12_cellMany hG hr72
      refine vv_icmp_ge 67 96 dX12_on_67 (by decide) (fun c74 => ?_) (fun c74 => ?_)
      · rw [if_pos c74] at h
        refine vv_iconst 96 dX12_on_96 ik_0 ?_
        refine vv_istore_n (lv' := [(3, _), (0, _), (1, _), (2, _)]) 97 3 dX12_on_97 rfl (by decide) rfl ?_
        refine vv_sub [(0, _), (1, _), (2, _), (3, _)] (sh_subm [1, 2, 3, 0] rfl) ?_
        exact ih_98 hG71 h
      · rw [if_neg c74] at h
        refine vv_aload_n 70 0 dX12_on_70 rfl rfl ?_
        refine vv_getR 71 dX12_on_71 fl_12_130 rfl (g_l_291 hG71) (g_r_291_52 hG71) ?_
        refine vv_iconst 74 dX12_on_74 ik_1 ?_
        refine vv_aload_n 75 0 dX12_on_75 rfl rfl ?_
        refine vv_iload_n 76 3 dX12_on_76 rfl rfl ?_
        obtain ⟨y77, μ75, hr76, h⟩ := sh_bind_e h
        refine v1_callV [_] 77 dX12_on_77 ck_X12_450 (g_l_291 hG71) ⟨by decide, rfl⟩ (t_X12_cellOrder hG71 hr76) (Nat.le_of_ble_eq_true rfl) ⟨Nat.le_of_ble_eq_true rfl, Nat.le_of_ble_eq_true rfl⟩ rfl (Nat.le_of_ble_eq_true rfl) ?_
        have hG75 := gp_X12_cellOrder hG71 hr76
        refine vv_iadd 80 dX12_on_80 ?_
        refine vv_aload_n 81 0 dX12_on_81 rfl rfl ?_
        refine vv_getR 82 dX12_on_82 fl_12_7 rfl (g_l_291 hG75) (g_r_291_0 hG75) ?_
        refine vv_iconst 85 dX12_on_85 ik_2 ?_
        refine vv_iload_n 86 3 dX12_on_86 rfl rfl ?_
        refine vv_iadd 87 dX12_on_87 ?_
        obtain ⟨k78, h⟩ := sh_chk h
        refine vv_iald 88 dX12_on_88 (g_l_292 hG75) k78 ?_
        obtain ⟨k79, h⟩ := sh_chk h
        refine vn_iast 89 dX12_on_89 (g_l_330 hG75) k79 (fun μ80 eμ80 => ?_)
        rw [sh_let_eq eμ80] at h
        have hG80 : sh_G μ80 := by rw [eμ80]; exact hG75
        refine vv_iincc (lv' := [(3, _), (0, _), (1, _), (2, _)]) 90 3 dX12_on_90 rfl ik_1 (by decide) rfl ?_
        refine vv_goto 93 62 dX12_on_93 (by decide) ?_
        refine vv_sub [(0, _), (1, _), (2, _), (3, _)] (sh_subm [1, 2, 3, 0] rfl) ?_
        exact ih_62 hG80 h
    · intro i1 i2 i3 μ μ' v hG h
      replace h : (sh_bind (f_X12_personMany μ) (fun y83 μ81 => (if y83 ≤ i3 then sh_let (sh_setI μ81 330 (Int32.toNatClampNeg 71) 0) (fun μ85 => sh_let (sh_setI μ85 291 76 0) (fun μ86 => some (1, μ86))) else (if sh_in (i2 + (4 * i3)) 1600 then (if sh_in ((i2 + (4 * i3)) + 1) 1600 then sh_bind (f_X12_cellAt (sh_i μ81 292 ((i2 + (4 * i3))).toNatClampNeg) (sh_i μ81 292 (((i2 + (4 * i3)) + 1)).toNatClampNeg) μ81) (fun y91 μ89 => (if sh_in (50 + (3 * i3)) 232 then sh_let (sh_setI μ89 330 ((50 + (3 * i3))).toNatClampNeg y91) (fun μ93 => (if sh_in ((i2 + (4 * i3)) + 2) 1600 then (if sh_in (51 + (3 * i3)) 232 then sh_let (sh_setI μ93 330 ((51 + (3 * i3))).toNatClampNeg (sh_i μ93 292 (((i2 + (4 * i3)) + 2)).toNatClampNeg)) (fun μ96 => (if sh_in ((i2 + (4 * i3)) + 3) 1600 then (if sh_in (52 + (3 * i3)) 232 then sh_let (sh_setI μ96 330 ((52 + (3 * i3))).toNatClampNeg (sh_i μ96 292 (((i2 + (4 * i3)) + 3)).toNatClampNeg)) (fun μ99 => F_X12_on fuel 2 i1 i2 (i3 + 1) μ99) else none) else none)) else none) else none)) else none)) else none) else none))) : Option (Int32 × sh_Mem)) = some (v, μ') := h
      refine vv_iload_n 98 3 dX12_on_98 rfl rfl ?_
      refine vv_aload_n 99 0 dX12_on_99 rfl rfl ?_
      obtain ⟨y83, μ81, hr82, h⟩ := sh_bind_e h
      refine v1_callV [] 100 dX12_on_100 ck_X12_411 (g_l_291 hG) ⟨by decide, rfl⟩ (t_X12_personMany hG hr82) (Nat.le_of_ble_eq_true rfl) ⟨Nat.le_of_ble_eq_true rfl, Nat.le_of_ble_eq_true rfl⟩ rfl (Nat.le_of_ble_eq_true rfl) ?_
      have hG81 := gp_X12_personMany hG hr82
      refine vv_icmp_ge 103 195 dX12_on_103 (by decide) (fun c84 => ?_) (fun c84 => ?_)
      · rw [if_pos c84] at h
        refine vv_aload_n 195 0 dX12_on_195 rfl rfl ?_
        refine vv_getR 196 dX12_on_196 fl_12_130 rfl (g_l_291 hG81) (g_r_291_52 hG81) ?_
        refine vv_bipush 199 dX12_on_199 bk_71 ?_
        refine vv_iconst 201 dX12_on_201 ik_0 ?_
        refine vn_iast 202 dX12_on_202 (g_l_330 hG81) (by unfold vp_in; decide) (fun μ85 eμ85 => ?_)
        rw [sh_let_eq eμ85] at h
        have hG85 : sh_G μ85 := by rw [eμ85]; exact hG81
        refine vv_aload_n 203 0 dX12_on_203 rfl rfl ?_
        refine vv_iconst 204 dX12_on_204 ik_0 ?_
        refine vn_putI 205 dX12_on_205 fl_12_402 (Or.inl rfl) rfl (g_l_291 hG85) (fun μ86 eμ86 => ?_)
        rw [sh_let_eq eμ86] at h
        have hG86 : sh_G μ86 := by rw [eμ86]; exact hG85
        refine vv_iconst 208 dX12_on_208 ik_1 ?_
        obtain ⟨e1, e2⟩ := sh_some2 h
        refine vv_zret 209 dX12_on_209 rfl rfl (Nat.le_refl _) (Nat.le_refl _) ⟨by rw [e1], e2⟩
      · rw [if_neg c84] at h
        refine vv_aload_n 106 0 dX12_on_106 rfl rfl ?_
        refine vv_getR 107 dX12_on_107 fl_12_130 rfl (g_l_291 hG81) (g_r_291_52 hG81) ?_
        refine vv_bipush 110 dX12_on_110 bk_50 ?_
        refine vv_iconst 112 dX12_on_112 ik_3 ?_
        refine vv_iload_n 113 3 dX12_on_113 rfl rfl ?_
        refine vv_imul 114 dX12_on_114 ?_
        refine vv_iadd 115 dX12_on_115 ?_
        refine vv_aload_n 116 0 dX12_on_116 rfl rfl ?_
        refine vv_aload_n 117 0 dX12_on_117 rfl rfl ?_
        refine vv_getR 118 dX12_on_118 fl_12_7 rfl (g_l_291 hG81) (g_r_291_0 hG81) ?_
        refine vv_iload_n 121 2 dX12_on_121 rfl rfl ?_
        refine vv_iconst 122 dX12_on_122 ik_4 ?_
        refine vv_iload_n 123 3 dX12_on_123 rfl rfl ?_
        refine vv_imul 124 dX12_on_124 ?_
        refine vv_iadd 125 dX12_on_125 ?_
        obtain ⟨k87, h⟩ := sh_chk h
        refine vv_iald 126 dX12_on_126 (g_l_292 hG81) k87 ?_
        refine vv_aload_n 127 0 dX12_on_127 rfl rfl ?_
        refine vv_getR 128 dX12_on_128 fl_12_7 rfl (g_l_291 hG81) (g_r_291_0 hG81) ?_
        refine vv_iload_n 131 2 dX12_on_131 rfl rfl ?_
        refine vv_iconst 132 dX12_on_132 ik_4 ?_
        refine vv_iload_n 133 3 dX12_on_133 rfl rfl ?_
        refine vv_imul 134 dX12_on_134 ?_
        refine vv_iadd 135 dX12_on_135 ?_
        refine vv_iconst 136 dX12_on_136 ik_1 ?_
        refine vv_iadd 137 dX12_on_137 ?_
        obtain ⟨k88, h⟩ := sh_chk h
        refine vv_iald 138 dX12_on_138 (g_l_292 hG81) k88 ?_
        obtain ⟨y91, μ89, hr90, h⟩ := sh_bind_e h
        refine v1_callV [_, _] 139 dX12_on_139 ck_X12_414 (g_l_291 hG81) ⟨by decide, rfl⟩ (t_X12_cellAt hG81 hr90) (Nat.le_of_ble_eq_true rfl) ⟨Nat.le_of_ble_eq_true rfl, Nat.le_of_ble_eq_true rfl⟩ rfl (Nat.le_of_ble_eq_true rfl) ?_
        have hG89 := gp_X12_cellAt hG81 hr90
        obtain ⟨k92, h⟩ := sh_chk h
        refine vn_iast 142 dX12_on_142 (g_l_330 hG89) k92 (fun μ93 eμ93 => ?_)
        rw [sh_let_eq eμ93] at h
        have hG93 : sh_G μ93 := by rw [eμ93]; exact hG89
        refine vv_aload_n 143 0 dX12_on_143 rfl rfl ?_
        refine vv_getR 144 dX12_on_144 fl_12_130 rfl (g_l_291 hG93) (g_r_291_52 hG93) ?_
        refine vv_bipush 147 dX12_on_147 bk_51 ?_
        refine vv_iconst 149 dX12_on_149 ik_3 ?_
        refine vv_iload_n 150 3 dX12_on_150 rfl rfl ?_
        refine vv_imul 151 dX12_on_151 ?_
        refine vv_iadd 152 dX12_on_152 ?_
        refine vv_aload_n 153 0 dX12_on_153 rfl rfl ?_
        refine vv_getR 154 dX12_on_154 fl_12_7 rfl (g_l_291 hG93) (g_r_291_0 hG93) ?_
        refine vv_iload_n 157 2 dX12_on_157 rfl rfl ?_
        refine vv_iconst 158 dX12_on_158 ik_4 ?_
        refine vv_iload_n 159 3 dX12_on_159 rfl rfl ?_
        refine vv_imul 160 dX12_on_160 ?_
        refine vv_iadd 161 dX12_on_161 ?_
        refine vv_iconst 162 dX12_on_162 ik_2 ?_
        refine vv_iadd 163 dX12_on_163 ?_
        obtain ⟨k94, h⟩ := sh_chk h
        refine vv_iald 164 dX12_on_164 (g_l_292 hG93) k94 ?_
        obtain ⟨k95, h⟩ := sh_chk h
        refine vn_iast 165 dX12_on_165 (g_l_330 hG93) k95 (fun μ96 eμ96 => ?_)
        rw [sh_let_eq eμ96] at h
        have hG96 : sh_G μ96 := by rw [eμ96]; exact hG93
        refine vv_aload_n 166 0 dX12_on_166 rfl rfl ?_
        refine vv_getR 167 dX12_on_167 fl_12_130 rfl (g_l_291 hG96) (g_r_291_52 hG96) ?_
        refine vv_bipush 170 dX12_on_170 bk_52 ?_
        refine vv_iconst 172 dX12_on_172 ik_3 ?_
        refine vv_iload_n 173 3 dX12_on_173 rfl rfl ?_
        refine vv_imul 174 dX12_on_174 ?_
        refine vv_iadd 175 dX12_on_175 ?_
        refine vv_aload_n 176 0 dX12_on_176 rfl rfl ?_
        refine vv_getR 177 dX12_on_177 fl_12_7 rfl (g_l_291 hG96) (g_r_291_0 hG96) ?_
        refine vv_iload_n 180 2 dX12_on_180 rfl rfl ?_
        refine vv_iconst 181 dX12_on_181 ik_4 ?_
        refine vv_iload_n 182 3 dX12_on_182 rfl rfl ?_
        refine vv_imul 183 dX12_on_183 ?_
        refine vv_iadd 184 dX12_on_184 ?_
        refine vv_iconst 185 dX12_on_185 ik_3 ?_
        refine vv_iadd 186 dX12_on_186 ?_
        obtain ⟨k97, h⟩ := sh_chk h
        refine vv_iald 187 dX12_on_187 (g_l_292 hG96) k97 ?_
        obtain ⟨k98, h⟩ := sh_chk h
        refine vn_iast 188 dX12_on_188 (g_l_330 hG96) k98 (fun μ99 eμ99 => ?_)
        rw [sh_let_eq eμ99] at h
        have hG99 : sh_G μ99 := by rw [eμ99]; exact hG96
        refine vv_iincc (lv' := [(3, _), (0, _), (1, _), (2, _)]) 189 3 dX12_on_189 rfl ik_1 (by decide) rfl ?_
        refine vv_goto 192 98 dX12_on_192 (by decide) ?_
        refine vv_sub [(0, _), (1, _), (2, _), (3, _)] (sh_subm [1, 2, 3, 0] rfl) ?_
        exact ih_98 hG99 h
theorem gp_X12_on {μ μ' : sh_Mem} {v : Int32} (hG : sh_G μ) (h : f_X12_on μ = some (v, μ')) : sh_G μ' := by
  have ih_62 := (gpl_X12_on sh_fuel).1
  have ih_98 := (gpl_X12_on sh_fuel).2
  unfold f_X12_on at h
  obtain ⟨x100, ex100⟩ : ∃ y : Int32, y = (sh_i μ 291 1) := ⟨_, rfl⟩
  rw [sh_let_eq ex100] at h
  obtain ⟨μ101, eμ101⟩ : ∃ y : sh_Mem, y = (sh_setI μ 291 1 0) := ⟨_, rfl⟩
  rw [sh_let_eq eμ101] at h
  have hG101 : sh_G μ101 := by rw [eμ101]; exact hG
  obtain ⟨y104, μ102, hr103, h⟩ := sh_bind_e h
  have hG102 := gp_X12_isImage hG101 hr103
  by_cases c105 : y104 = 0
  · rw [if_pos c105] at h
    obtain ⟨μ111, eμ111⟩ : ∃ y : sh_Mem, y = (sh_setI μ102 293 (Int32.toNatClampNeg 5) ((sh_i μ102 293 (Int32.toNatClampNeg 5)) + 1)) := ⟨_, rfl⟩
    rw [sh_let_eq eμ111] at h
    have hG111 : sh_G μ111 := by rw [eμ111]; exact hG102
    obtain ⟨e1, e2⟩ := sh_some2 h
    exact e2 ▸ hG111
  · rw [if_neg c105] at h
    obtain ⟨y108, μ106, hr107, h⟩ := sh_bind_e h
    have hG106 := gp_X12_cellMany hG102 hr107
    obtain ⟨x109, ex109⟩ : ∃ y : Int32, y = (2 + y108) := ⟨_, rfl⟩
    rw [sh_let_eq ex109] at h
    obtain ⟨μ110, eμ110⟩ : ∃ y : sh_Mem, y = (sh_setI μ106 330 (Int32.toNatClampNeg 0) ((256 * (sh_i μ106 292 (Int32.toNatClampNeg 0))) + (sh_i μ106 292 (Int32.toNatClampNeg 1)))) := ⟨_, rfl⟩
    rw [sh_let_eq eμ110] at h
    have hG110 : sh_G μ110 := by rw [eμ110]; exact hG106
    exact ih_62 hG110 h
theorem t_X12_on {μ μ' : sh_Mem} {v : Int32} (hG : sh_G μ) (h : f_X12_on μ = some (v, μ')) : sh_C0 l B D ca 5 M_X12_on [.ref 291] μ (fun v0 μ0 => v0 = some (.int v) ∧ μ0 = μ') := by
  have ih_62 := (tl_X12_on (l := l) (B := B) (D := D) (ca := ca) sh_fuel).1
  have ih_98 := (tl_X12_on (l := l) (B := B) (D := D) (ca := ca) sh_fuel).2
  unfold f_X12_on at h
  refine vv_aload_n 0 0 dX12_on_0 rfl rfl ?_
  refine vv_getI 1 dX12_on_1 fl_12_250 rfl (g_l_291 hG) ?_
  refine vv_topi (fun x100 ex100 => ?_)
  rw [sh_let_eq ex100] at h
  refine vv_istore_n (lv' := [(1, _), (0, _)]) 4 1 dX12_on_4 rfl (by decide) rfl ?_
  refine vv_aload_n 5 0 dX12_on_5 rfl rfl ?_
  refine vv_iconst 6 dX12_on_6 ik_0 ?_
  refine vn_putI 7 dX12_on_7 fl_12_250 (Or.inl rfl) rfl (g_l_291 hG) (fun μ101 eμ101 => ?_)
  rw [sh_let_eq eμ101] at h
  have hG101 : sh_G μ101 := by rw [eμ101]; exact hG
  refine vv_aload_n 10 0 dX12_on_10 rfl rfl ?_
  refine vv_iload_n 11 1 dX12_on_11 rfl rfl ?_
  obtain ⟨y104, μ102, hr103, h⟩ := sh_bind_e h
  refine v1_callV [_] 12 dX12_on_12 ck_X12_749 (g_l_291 hG101) ⟨by decide, rfl⟩ (t_X12_isImage hG101 hr103) (Nat.le_of_ble_eq_true rfl) ⟨Nat.le_of_ble_eq_true rfl, Nat.le_of_ble_eq_true rfl⟩ rfl (Nat.le_of_ble_eq_true rfl) ?_
  have hG102 := gp_X12_isImage hG101 hr103
  refine vv_if_ne 15 30 dX12_on_15 (by decide) (fun c105 => ?_) (fun c105 => ?_)
  · rw [if_neg c105] at h
    refine vv_iconst 30 dX12_on_30 ik_2 ?_
    refine vv_aload_n 31 0 dX12_on_31 rfl rfl ?_
    obtain ⟨y108, μ106, hr107, h⟩ := sh_bind_e h
    refine v1_callV [] 32 dX12_on_32 ck_X12_447 (g_l_291 hG102) ⟨by decide, rfl⟩ (t_X12_cellMany hG102 hr107) (Nat.le_of_ble_eq_true rfl) ⟨Nat.le_of_ble_eq_true rfl, Nat.le_of_ble_eq_true rfl⟩ rfl (Nat.le_of_ble_eq_true rfl) ?_
    have hG106 := gp_X12_cellMany hG102 hr107
    refine vv_iadd 35 dX12_on_35 ?_
    refine vv_topi (fun x109 ex109 => ?_)
    rw [sh_let_eq ex109] at h
    refine vv_istore_n (lv' := [(2, _), (1, _), (0, _)]) 36 2 dX12_on_36 rfl (by decide) rfl ?_
    refine vv_aload_n 37 0 dX12_on_37 rfl rfl ?_
    refine vv_getR 38 dX12_on_38 fl_12_130 rfl (g_l_291 hG106) (g_r_291_52 hG106) ?_
    refine vv_iconst 41 dX12_on_41 ik_0 ?_
    refine vv_sipush 42 dX12_on_42 sk_256 ?_
    refine vv_aload_n 45 0 dX12_on_45 rfl rfl ?_
    refine vv_getR 46 dX12_on_46 fl_12_7 rfl (g_l_291 hG106) (g_r_291_0 hG106) ?_
    refine vv_iconst 49 dX12_on_49 ik_0 ?_
    refine vv_iald 50 dX12_on_50 (g_l_292 hG106) (by unfold vp_in; decide) ?_
    refine vv_imul 51 dX12_on_51 ?_
    refine vv_aload_n 52 0 dX12_on_52 rfl rfl ?_
    refine vv_getR 53 dX12_on_53 fl_12_7 rfl (g_l_291 hG106) (g_r_291_0 hG106) ?_
    refine vv_iconst 56 dX12_on_56 ik_1 ?_
    refine vv_iald 57 dX12_on_57 (g_l_292 hG106) (by unfold vp_in; decide) ?_
    refine vv_iadd 58 dX12_on_58 ?_
    refine vn_iast 59 dX12_on_59 (g_l_330 hG106) (by unfold vp_in; decide) (fun μ110 eμ110 => ?_)
    rw [sh_let_eq eμ110] at h
    have hG110 : sh_G μ110 := by rw [eμ110]; exact hG106
    refine vv_iconst 60 dX12_on_60 ik_0 ?_
    refine vv_istore_n (lv' := [(3, _), (2, _), (1, _), (0, _)]) 61 3 dX12_on_61 rfl (by decide) rfl ?_
    refine vv_sub [(0, _), (1, _), (2, _), (3, _)] (sh_subm [3, 2, 1, 0] rfl) ?_
    exact ih_62 hG110 h
  · rw [if_pos c105] at h
    refine vv_aload_n 18 0 dX12_on_18 rfl rfl ?_
    refine vv_getR 19 dX12_on_19 fl_12_17 rfl (g_l_291 hG102) (g_r_291_9 hG102) ?_
    refine vv_iconst 22 dX12_on_22 ik_5 ?_
    refine vv_dup2_ri 23 dX12_on_23 ?_
    refine vv_iald 24 dX12_on_24 (g_l_293 hG102) (by unfold vp_in; decide) ?_
    refine vv_iconst 25 dX12_on_25 ik_1 ?_
    refine vv_iadd 26 dX12_on_26 ?_
    refine vn_iast 27 dX12_on_27 (g_l_293 hG102) (by unfold vp_in; decide) (fun μ111 eμ111 => ?_)
    rw [sh_let_eq eμ111] at h
    have hG111 : sh_G μ111 := by rw [eμ111]; exact hG102
    refine vv_iconst 28 dX12_on_28 ik_0 ?_
    obtain ⟨e1, e2⟩ := sh_some2 h
    refine vv_zret 29 dX12_on_29 rfl rfl (Nat.le_refl _) (Nat.le_refl _) ⟨by rw [e1], e2⟩
noncomputable def f_X12_status (a1 : Int32) (μ : sh_Mem) : Option (Int32 × sh_Mem) := (if (f_X12_isIn μ (a1).toInt64 0 5) = 0 then some ((-1), μ) else (if sh_in a1 6 then some ((sh_i μ 293 a1.toNatClampNeg), μ) else none))
theorem gp_X12_status {a1 : Int32} {μ μ' : sh_Mem} {v : Int32} (hG : sh_G μ) (h : f_X12_status a1 μ = some (v, μ')) : sh_G μ' := by
  unfold f_X12_status at h
  by_cases c1 : (f_X12_isIn μ (a1).toInt64 0 5) = 0
  · rw [if_pos c1] at h
    obtain ⟨e1, e2⟩ := sh_some2 h
    exact e2 ▸ hG
  · rw [if_neg c1] at h
    obtain ⟨k2, h⟩ := sh_chk h
    obtain ⟨e1, e2⟩ := sh_some2 h
    exact e2 ▸ hG
theorem t_X12_status {a1 : Int32} {μ μ' : sh_Mem} {v : Int32} (hG : sh_G μ) (h : f_X12_status a1 μ = some (v, μ')) : sh_C0 l B D ca 2 M_X12_status [.ref 291, .int a1] μ (fun v0 μ0 => v0 = some (.int v) ∧ μ0 = μ') := by
  unfold f_X12_status at h
  refine vv_iload_n 0 1 dX12_status_0 rfl rfl ?_
  refine vv_i2l 1 dX12_status_1 ?_
  refine vv_lconst 2 dX12_status_2 lk_0 ?_
  refine vv_ldc2 3 dX12_status_3 kl_12_516 ?_
  refine v1_callS [_, _, _] 6 dX12_status_6 ck_X12_296 (c_X12_isIn (μ := μ) hG) (Nat.le_of_ble_eq_true rfl) ⟨Nat.le_of_ble_eq_true rfl, Nat.le_of_ble_eq_true rfl⟩ rfl (Nat.le_of_ble_eq_true rfl) ?_
  refine vv_if_eq 9 21 dX12_status_9 (by decide) (fun c1 => ?_) (fun c1 => ?_)
  · rw [if_pos c1] at h
    refine vv_iconst 21 dX12_status_21 ik_m1 ?_
    obtain ⟨e1, e2⟩ := sh_some2 h
    refine vv_iret 22 dX12_status_22 rfl (Nat.le_refl _) (Nat.le_refl _) ⟨by rw [e1], e2⟩
  · rw [if_neg c1] at h
    refine vv_aload_n 12 0 dX12_status_12 rfl rfl ?_
    refine vv_getR 13 dX12_status_13 fl_12_17 rfl (g_l_291 hG) (g_r_291_9 hG) ?_
    refine vv_iload_n 16 1 dX12_status_16 rfl rfl ?_
    obtain ⟨k2, h⟩ := sh_chk h
    refine vv_iald 17 dX12_status_17 (g_l_293 hG) k2 ?_
    refine vv_goto 18 22 dX12_status_18 (by decide) ?_
    obtain ⟨e1, e2⟩ := sh_some2 h
    refine vv_iret 22 dX12_status_22 rfl (Nat.le_refl _) (Nat.le_refl _) ⟨by rw [e1], e2⟩
noncomputable def F_X12_codesTell : Nat → Nat → Int32 → Int32 → sh_Mem → Option (Int64 × sh_Mem)
  | 0, _, _, _, _ => none
  | fuel + 1, lbl, i1, i2, μ => match lbl with
    | 1 => (if sh_in (3 + i1) 6 then (if (sh_i μ 328 ((3 + i1)).toNatClampNeg) ≤ i2 then some ((sh_l μ 366 (Int32.toNatClampNeg 0)), μ) else (if sh_in (1600 + i2) 3200 then sh_let ((sh_i μ 329 ((1600 + i2)).toNatClampNeg) : Int32) (fun x39 => (if x39 < 1000 then (if x39 < 40 then (if x39 = 13 then sh_bindv (f_X12_qPuts 1 μ) (fun μ50 => F_X12_codesTell fuel 1 i1 (i2 + 1) μ50) else (if x39 = 12 then (if sh_in ((sh_i μ 291 109) - 1) 1700 then (if sh_in ((sh_i μ 291 109) - 1) 1700 then sh_let (sh_setL μ 366 (((sh_i μ 291 109) - 1)).toNatClampNeg (1 - (sh_l μ 366 (((sh_i μ 291 109) - 1)).toNatClampNeg))) (fun μ49 => F_X12_codesTell fuel 1 i1 (i2 + 1) μ49) else none) else none) else sh_bindv (f_X12_qJoins x39 μ) (fun μ44 => F_X12_codesTell fuel 1 i1 (i2 + 1) μ44))) else sh_bind (f_X12_qPartOf (x39 - 40) (sh_i μ 291 54) μ) (fun y55 μ53 => sh_bindv (f_X12_qPuts y55 μ53) (fun μ56 => F_X12_codesTell fuel 1 i1 (i2 + 1) μ56))) else sh_bindv (f_X12_qPuts ((x39 - 1000)).toInt64 μ) (fun μ59 => F_X12_codesTell fuel 1 i1 (i2 + 1) μ59))) else none)) else none)
    | _ => none
noncomputable def f_X12_codesTell (a1 : Int32) (μ : sh_Mem) : Option (Int64 × sh_Mem) := (if a1 = 0 then sh_let (sh_setI μ 291 51 1) (fun μ67 => sh_let (sh_setI μ67 291 109 0) (fun μ68 => (if sh_in (3 + a1) 6 then sh_let ((sh_i μ68 327 ((3 + a1)).toNatClampNeg) : Int32) (fun x70 => F_X12_codesTell sh_fuel 1 a1 x70 μ68) else none))) else sh_let (sh_setI μ 291 51 0) (fun μ63 => sh_let (sh_setI μ63 291 109 0) (fun μ64 => (if sh_in (3 + a1) 6 then sh_let ((sh_i μ64 327 ((3 + a1)).toNatClampNeg) : Int32) (fun x66 => F_X12_codesTell sh_fuel 1 a1 x66 μ64) else none))))
theorem gpl_X12_codesTell (fuel : Nat) : (∀ ⦃i1 : Int32⦄ ⦃i2 : Int32⦄ ⦃μ μ' : sh_Mem⦄ ⦃v : Int64⦄, sh_G μ → F_X12_codesTell fuel 1 i1 i2 μ = some (v, μ') → sh_G μ') := by
  induction fuel with
  | zero => intro i1 i2 μ μ' v hG h; cases h
  | succ fuel ih =>
    have ih_27 := ih
    intro i1 i2 μ μ' v hG h
    replace h : ((if sh_in (3 + i1) 6 then (if (sh_i μ 328 ((3 + i1)).toNatClampNeg) ≤ i2 then some ((sh_l μ 366 (Int32.toNatClampNeg 0)), μ) else (if sh_in (1600 + i2) 3200 then sh_let ((sh_i μ 329 ((1600 + i2)).toNatClampNeg) : Int32) (fun x39 => (if x39 < 1000 then (if x39 < 40 then (if x39 = 13 then sh_bindv (f_X12_qPuts 1 μ) (fun μ50 => F_X12_codesTell fuel 1 i1 (i2 + 1) μ50) else (if x39 = 12 then (if sh_in ((sh_i μ 291 109) - 1) 1700 then (if sh_in ((sh_i μ 291 109) - 1) 1700 then sh_let (sh_setL μ 366 (((sh_i μ 291 109) - 1)).toNatClampNeg (1 - (sh_l μ 366 (((sh_i μ 291 109) - 1)).toNatClampNeg))) (fun μ49 => F_X12_codesTell fuel 1 i1 (i2 + 1) μ49) else none) else none) else sh_bindv (f_X12_qJoins x39 μ) (fun μ44 => F_X12_codesTell fuel 1 i1 (i2 + 1) μ44))) else sh_bind (f_X12_qPartOf (x39 - 40) (sh_i μ 291 54) μ) (fun y55 μ53 => sh_bindv (f_X12_qPuts y55 μ53) (fun μ56 => F_X12_codesTell fuel 1 i1 (i2 + 1) μ56))) else sh_bindv (f_X12_qPuts ((x39 - 1000)).toInt64 μ) (fun μ59 => F_X12_codesTell fuel 1 i1 (i2 + 1) μ59))) else none)) else none) : Option (Int64 × sh_Mem)) = some (v, μ') := h
    obtain ⟨k36, h⟩ := sh_chk h
    by_cases c37 : (sh_i μ 328 ((3 + i1)).toNatClampNeg) ≤ i2
    · rw [if_pos c37] at h
      obtain ⟨e1, e2⟩ := sh_some2 h
      exact e2 ▸ hG
    · rw [if_neg c37] at h
      obtain ⟨k38, h⟩ := sh_chk h
      obtain ⟨x39, ex39⟩ : ∃ y : Int32, y = (sh_i μ 329 ((1600 + i2)).toNatClampNeg) := ⟨_, rfl⟩
      rw [sh_let_eq ex39] at h
      by_cases c40 : x39 < 1000
      · rw [if_pos c40] at h
        by_cases c41 : x39 < 40
        · rw [if_pos c41] at h
          by_cases c42 : x39 = 13
          · rw [if_pos c42] at h
            obtain ⟨μ50, hr51, h⟩ := sh_bindv_e h
            have hG50 := gp_X12_qPuts hG hr51
            exact ih_27 hG50 h
          · rw [if_neg c42] at h
            by_cases c43 : x39 = 12
            · rw [if_pos c43] at h
              obtain ⟨k47, h⟩ := sh_chk h
              obtain ⟨k48, h⟩ := sh_chk h
              obtain ⟨μ49, eμ49⟩ : ∃ y : sh_Mem, y = (sh_setL μ 366 (((sh_i μ 291 109) - 1)).toNatClampNeg (1 - (sh_l μ 366 (((sh_i μ 291 109) - 1)).toNatClampNeg))) := ⟨_, rfl⟩
              rw [sh_let_eq eμ49] at h
              have hG49 : sh_G μ49 := by rw [eμ49]; exact hG
              exact ih_27 hG49 h
            · rw [if_neg c43] at h
              obtain ⟨μ44, hr45, h⟩ := sh_bindv_e h
              have hG44 := gp_X12_qJoins hG hr45
              exact ih_27 hG44 h
        · rw [if_neg c41] at h
          obtain ⟨y55, μ53, hr54, h⟩ := sh_bind_e h
          have hG53 := gp_X12_qPartOf hG hr54
          obtain ⟨μ56, hr57, h⟩ := sh_bindv_e h
          have hG56 := gp_X12_qPuts hG53 hr57
          exact ih_27 hG56 h
      · rw [if_neg c40] at h
        obtain ⟨μ59, hr60, h⟩ := sh_bindv_e h
        have hG59 := gp_X12_qPuts hG hr60
        exact ih_27 hG59 h
theorem tl_X12_codesTell (fuel : Nat) : (∀ ⦃i1 : Int32⦄ ⦃i2 : Int32⦄ ⦃μ μ' : sh_Mem⦄ ⦃v : Int64⦄, sh_G μ → F_X12_codesTell fuel 1 i1 i2 μ = some (v, μ') → sh_V0 l B D ca 3 M_X12_codesTell 27 [(0, .ref 291), (1, .int i1), (2, .int i2)] [] μ (fun v0 μ0 => v0 = some (.long v) ∧ μ0 = μ')) := by
  induction fuel with
  | zero => intro i1 i2 μ μ' v hG h; cases h
  | succ fuel ih =>
    have ih_27 := ih
    intro i1 i2 μ μ' v hG h
    replace h : ((if sh_in (3 + i1) 6 then (if (sh_i μ 328 ((3 + i1)).toNatClampNeg) ≤ i2 then some ((sh_l μ 366 (Int32.toNatClampNeg 0)), μ) else (if sh_in (1600 + i2) 3200 then sh_let ((sh_i μ 329 ((1600 + i2)).toNatClampNeg) : Int32) (fun x39 => (if x39 < 1000 then (if x39 < 40 then (if x39 = 13 then sh_bindv (f_X12_qPuts 1 μ) (fun μ50 => F_X12_codesTell fuel 1 i1 (i2 + 1) μ50) else (if x39 = 12 then (if sh_in ((sh_i μ 291 109) - 1) 1700 then (if sh_in ((sh_i μ 291 109) - 1) 1700 then sh_let (sh_setL μ 366 (((sh_i μ 291 109) - 1)).toNatClampNeg (1 - (sh_l μ 366 (((sh_i μ 291 109) - 1)).toNatClampNeg))) (fun μ49 => F_X12_codesTell fuel 1 i1 (i2 + 1) μ49) else none) else none) else sh_bindv (f_X12_qJoins x39 μ) (fun μ44 => F_X12_codesTell fuel 1 i1 (i2 + 1) μ44))) else sh_bind (f_X12_qPartOf (x39 - 40) (sh_i μ 291 54) μ) (fun y55 μ53 => sh_bindv (f_X12_qPuts y55 μ53) (fun μ56 => F_X12_codesTell fuel 1 i1 (i2 + 1) μ56))) else sh_bindv (f_X12_qPuts ((x39 - 1000)).toInt64 μ) (fun μ59 => F_X12_codesTell fuel 1 i1 (i2 + 1) μ59))) else none)) else none) : Option (Int64 × sh_Mem)) = some (v, μ') := h
    refine vv_iload_n 27 2 dX12_codesTell_27 rfl rfl ?_
    refine vv_aload_n 28 0 dX12_codesTell_28 rfl rfl ?_
    refine vv_getR 29 dX12_codesTell_29 fl_12_124 rfl (g_l_291 hG) (g_r_291_46 hG) ?_
    refine vv_iconst 32 dX12_codesTell_32 ik_3 ?_
    refine vv_iload_n 33 1 dX12_codesTell_33 rfl rfl ?_
    refine vv_iadd 34 dX12_codesTell_34 ?_
    obtain ⟨k36, h⟩ := sh_chk h
    refine vv_iald 35 dX12_codesTell_35 (g_l_328 hG) k36 ?_
    refine vv_icmp_ge 36 153 dX12_codesTell_36 (by decide) (fun c37 => ?_) (fun c37 => ?_)
    · rw [if_pos c37] at h
      refine vv_aload_n 153 0 dX12_codesTell_153 rfl rfl ?_
      refine vv_getR 154 dX12_codesTell_154 fl_12_242 rfl (g_l_291 hG) (g_r_291_108 hG) ?_
      refine vv_iconst 157 dX12_codesTell_157 ik_0 ?_
      refine vv_lald 158 dX12_codesTell_158 (g_l_366 hG) (by unfold vp_in; decide) ?_
      obtain ⟨e1, e2⟩ := sh_some2 h
      refine vv_lret 159 dX12_codesTell_159 rfl (Nat.le_refl _) (Nat.le_refl _) ⟨by rw [e1], e2⟩
    · rw [if_neg c37] at h
      refine vv_aload_n 39 0 dX12_codesTell_39 rfl rfl ?_
      refine vv_getR 40 dX12_codesTell_40 fl_12_127 rfl (g_l_291 hG) (g_r_291_47 hG) ?_
      refine vv_sipush 43 dX12_codesTell_43 sk_1600 ?_
      refine vv_iload_n 46 2 dX12_codesTell_46 rfl rfl ?_
      refine vv_iadd 47 dX12_codesTell_47 ?_
      obtain ⟨k38, h⟩ := sh_chk h
      refine vv_iald 48 dX12_codesTell_48 (g_l_329 hG) k38 ?_
      refine vv_topi (fun x39 ex39 => ?_)
      rw [sh_let_eq ex39] at h
      refine vv_istore_n (lv' := [(3, _), (0, _), (1, _), (2, _)]) 49 3 dX12_codesTell_49 rfl (by decide) rfl ?_
      refine vv_iload_n 50 3 dX12_codesTell_50 rfl rfl ?_
      refine vv_sipush 51 dX12_codesTell_51 sk_1000 ?_
      refine vv_icmp_lt 54 70 dX12_codesTell_54 (by decide) (fun c40 => ?_) (fun c40 => ?_)
      · rw [if_pos c40] at h
        refine vv_iload_n 70 3 dX12_codesTell_70 rfl rfl ?_
        refine vv_bipush 71 dX12_codesTell_71 bk_40 ?_
        refine vv_icmp_lt 73 95 dX12_codesTell_73 (by decide) (fun c41 => ?_) (fun c41 => ?_)
        · rw [if_pos c41] at h
          refine vv_iload_n 95 3 dX12_codesTell_95 rfl rfl ?_
          refine vv_bipush 96 dX12_codesTell_96 bk_13 ?_
          refine vv_icmp_ne 98 109 dX12_codesTell_98 (by decide) (fun c42 => ?_) (fun c42 => ?_)
          · rw [if_neg c42] at h
            refine vv_iload_n 109 3 dX12_codesTell_109 rfl rfl ?_
            refine vv_bipush 110 dX12_codesTell_110 bk_12 ?_
            refine vv_icmp_ne 112 142 dX12_codesTell_112 (by decide) (fun c43 => ?_) (fun c43 => ?_)
            · rw [if_neg c43] at h
              refine vv_aload_n 142 0 dX12_codesTell_142 rfl rfl ?_
              refine vv_iload_n 143 3 dX12_codesTell_143 rfl rfl ?_
              obtain ⟨μ44, hr45, h⟩ := sh_bindv_e h
              refine v1_callV [_] 144 dX12_codesTell_144 ck_X12_434 (g_l_291 hG) ⟨by decide, rfl⟩ (t_X12_qJoins hG hr45) (Nat.le_of_ble_eq_true rfl) ⟨Nat.le_of_ble_eq_true rfl, Nat.le_of_ble_eq_true rfl⟩ rfl (Nat.le_of_ble_eq_true rfl) ?_
              have hG44 := gp_X12_qJoins hG hr45
              refine vv_iincc (lv' := [(2, _), (3, _), (0, _), (1, _)]) 147 2 dX12_codesTell_147 rfl ik_1 (by decide) rfl ?_
              refine vv_goto 150 27 dX12_codesTell_150 (by decide) ?_
              refine vv_sub [(0, _), (1, _), (2, _)] (sh_subm [2, 3, 0] rfl) ?_
              exact ih_27 hG44 h
            · rw [if_pos c43] at h
              refine vv_aload_n 115 0 dX12_codesTell_115 rfl rfl ?_
              refine vv_getR 116 dX12_codesTell_116 fl_12_242 rfl (g_l_291 hG) (g_r_291_108 hG) ?_
              refine vv_aload_n 119 0 dX12_codesTell_119 rfl rfl ?_
              refine vv_getI 120 dX12_codesTell_120 fl_12_420 rfl (g_l_291 hG) ?_
              refine vv_iconst 123 dX12_codesTell_123 ik_1 ?_
              refine vv_isub 124 dX12_codesTell_124 ?_
              refine vv_lconst 125 dX12_codesTell_125 lk_1 ?_
              refine vv_aload_n 126 0 dX12_codesTell_126 rfl rfl ?_
              refine vv_getR 127 dX12_codesTell_127 fl_12_242 rfl (g_l_291 hG) (g_r_291_108 hG) ?_
              refine vv_aload_n 130 0 dX12_codesTell_130 rfl rfl ?_
              refine vv_getI 131 dX12_codesTell_131 fl_12_420 rfl (g_l_291 hG) ?_
              refine vv_iconst 134 dX12_codesTell_134 ik_1 ?_
              refine vv_isub 135 dX12_codesTell_135 ?_
              obtain ⟨k47, h⟩ := sh_chk h
              refine vv_lald 136 dX12_codesTell_136 (g_l_366 hG) k47 ?_
              refine vv_lsub 137 dX12_codesTell_137 ?_
              obtain ⟨k48, h⟩ := sh_chk h
              refine vn_last 138 dX12_codesTell_138 (g_l_366 hG) k48 (fun μ49 eμ49 => ?_)
              rw [sh_let_eq eμ49] at h
              have hG49 : sh_G μ49 := by rw [eμ49]; exact hG
              refine vv_goto 139 147 dX12_codesTell_139 (by decide) ?_
              refine vv_iincc (lv' := [(2, _), (3, _), (0, _), (1, _)]) 147 2 dX12_codesTell_147 rfl ik_1 (by decide) rfl ?_
              refine vv_goto 150 27 dX12_codesTell_150 (by decide) ?_
              refine vv_sub [(0, _), (1, _), (2, _)] (sh_subm [2, 3, 0] rfl) ?_
              exact ih_27 hG49 h
          · rw [if_pos c42] at h
            refine vv_aload_n 101 0 dX12_codesTell_101 rfl rfl ?_
            refine vv_lconst 102 dX12_codesTell_102 lk_1 ?_
            obtain ⟨μ50, hr51, h⟩ := sh_bindv_e h
            refine v1_callV [_] 103 dX12_codesTell_103 ck_X12_423 (g_l_291 hG) ⟨by decide, rfl⟩ (t_X12_qPuts hG hr51) (Nat.le_of_ble_eq_true rfl) ⟨Nat.le_of_ble_eq_true rfl, Nat.le_of_ble_eq_true rfl⟩ rfl (Nat.le_of_ble_eq_true rfl) ?_
            have hG50 := gp_X12_qPuts hG hr51
            refine vv_goto 106 147 dX12_codesTell_106 (by decide) ?_
            refine vv_iincc (lv' := [(2, _), (3, _), (0, _), (1, _)]) 147 2 dX12_codesTell_147 rfl ik_1 (by decide) rfl ?_
            refine vv_goto 150 27 dX12_codesTell_150 (by decide) ?_
            refine vv_sub [(0, _), (1, _), (2, _)] (sh_subm [2, 3, 0] rfl) ?_
            exact ih_27 hG50 h
        · rw [if_neg c41] at h
          refine vv_aload_n 76 0 dX12_codesTell_76 rfl rfl ?_
          refine vv_aload_n 77 0 dX12_codesTell_77 rfl rfl ?_
          refine vv_iload_n 78 3 dX12_codesTell_78 rfl rfl ?_
          refine vv_bipush 79 dX12_codesTell_79 bk_40 ?_
          refine vv_isub 81 dX12_codesTell_81 ?_
          refine vv_aload_n 82 0 dX12_codesTell_82 rfl rfl ?_
          refine vv_getI 83 dX12_codesTell_83 fl_12_427 rfl (g_l_291 hG) ?_
          obtain ⟨y55, μ53, hr54, h⟩ := sh_bind_e h
          refine v1_callV [_, _] 86 dX12_codesTell_86 ck_X12_430 (g_l_291 hG) ⟨by decide, rfl⟩ (t_X12_qPartOf hG hr54) (Nat.le_of_ble_eq_true rfl) ⟨Nat.le_of_ble_eq_true rfl, Nat.le_of_ble_eq_true rfl⟩ rfl (Nat.le_of_ble_eq_true rfl) ?_
          have hG53 := gp_X12_qPartOf hG hr54
          obtain ⟨μ56, hr57, h⟩ := sh_bindv_e h
          refine v1_callV [_] 89 dX12_codesTell_89 ck_X12_423 (g_l_291 hG53) ⟨by decide, rfl⟩ (t_X12_qPuts hG53 hr57) (Nat.le_of_ble_eq_true rfl) ⟨Nat.le_of_ble_eq_true rfl, Nat.le_of_ble_eq_true rfl⟩ rfl (Nat.le_of_ble_eq_true rfl) ?_
          have hG56 := gp_X12_qPuts hG53 hr57
          refine vv_goto 92 147 dX12_codesTell_92 (by decide) ?_
          refine vv_iincc (lv' := [(2, _), (3, _), (0, _), (1, _)]) 147 2 dX12_codesTell_147 rfl ik_1 (by decide) rfl ?_
          refine vv_goto 150 27 dX12_codesTell_150 (by decide) ?_
          refine vv_sub [(0, _), (1, _), (2, _)] (sh_subm [2, 3, 0] rfl) ?_
          exact ih_27 hG56 h
      · rw [if_neg c40] at h
        refine vv_aload_n 57 0 dX12_codesTell_57 rfl rfl ?_
        refine vv_iload_n 58 3 dX12_codesTell_58 rfl rfl ?_
        refine vv_sipush 59 dX12_codesTell_59 sk_1000 ?_
        refine vv_isub 62 dX12_codesTell_62 ?_
        refine vv_i2l 63 dX12_codesTell_63 ?_
        obtain ⟨μ59, hr60, h⟩ := sh_bindv_e h
        refine v1_callV [_] 64 dX12_codesTell_64 ck_X12_423 (g_l_291 hG) ⟨by decide, rfl⟩ (t_X12_qPuts hG hr60) (Nat.le_of_ble_eq_true rfl) ⟨Nat.le_of_ble_eq_true rfl, Nat.le_of_ble_eq_true rfl⟩ rfl (Nat.le_of_ble_eq_true rfl) ?_
        have hG59 := gp_X12_qPuts hG hr60
        refine vv_goto 67 147 dX12_codesTell_67 (by decide) ?_
        refine vv_iincc (lv' := [(2, _), (3, _), (0, _), (1, _)]) 147 2 dX12_codesTell_147 rfl ik_1 (by decide) rfl ?_
        refine vv_goto 150 27 dX12_codesTell_150 (by decide) ?_
        refine vv_sub [(0, _), (1, _), (2, _)] (sh_subm [2, 3, 0] rfl) ?_
        exact ih_27 hG59 h
theorem gp_X12_codesTell {a1 : Int32} {μ μ' : sh_Mem} {v : Int64} (hG : sh_G μ) (h : f_X12_codesTell a1 μ = some (v, μ')) : sh_G μ' := by
  have ih_27 := (gpl_X12_codesTell sh_fuel)
  unfold f_X12_codesTell at h
  by_cases c62 : a1 = 0
  · rw [if_pos c62] at h
    obtain ⟨μ67, eμ67⟩ : ∃ y : sh_Mem, y = (sh_setI μ 291 51 1) := ⟨_, rfl⟩
    rw [sh_let_eq eμ67] at h
    have hG67 : sh_G μ67 := by rw [eμ67]; exact hG
    obtain ⟨μ68, eμ68⟩ : ∃ y : sh_Mem, y = (sh_setI μ67 291 109 0) := ⟨_, rfl⟩
    rw [sh_let_eq eμ68] at h
    have hG68 : sh_G μ68 := by rw [eμ68]; exact hG67
    obtain ⟨k69, h⟩ := sh_chk h
    obtain ⟨x70, ex70⟩ : ∃ y : Int32, y = (sh_i μ68 327 ((3 + a1)).toNatClampNeg) := ⟨_, rfl⟩
    rw [sh_let_eq ex70] at h
    exact ih_27 hG68 h
  · rw [if_neg c62] at h
    obtain ⟨μ63, eμ63⟩ : ∃ y : sh_Mem, y = (sh_setI μ 291 51 0) := ⟨_, rfl⟩
    rw [sh_let_eq eμ63] at h
    have hG63 : sh_G μ63 := by rw [eμ63]; exact hG
    obtain ⟨μ64, eμ64⟩ : ∃ y : sh_Mem, y = (sh_setI μ63 291 109 0) := ⟨_, rfl⟩
    rw [sh_let_eq eμ64] at h
    have hG64 : sh_G μ64 := by rw [eμ64]; exact hG63
    obtain ⟨k65, h⟩ := sh_chk h
    obtain ⟨x66, ex66⟩ : ∃ y : Int32, y = (sh_i μ64 327 ((3 + a1)).toNatClampNeg) := ⟨_, rfl⟩
    rw [sh_let_eq ex66] at h
    exact ih_27 hG64 h
theorem t_X12_codesTell {a1 : Int32} {μ μ' : sh_Mem} {v : Int64} (hG : sh_G μ) (h : f_X12_codesTell a1 μ = some (v, μ')) : sh_C0 l B D ca 3 M_X12_codesTell [.ref 291, .int a1] μ (fun v0 μ0 => v0 = some (.long v) ∧ μ0 = μ') := by
  have ih_27 := (tl_X12_codesTell (l := l) (B := B) (D := D) (ca := ca) sh_fuel)
  unfold f_X12_codesTell at h
  refine vv_aload_n 0 0 dX12_codesTell_0 rfl rfl ?_
  refine vv_iload_n 1 1 dX12_codesTell_1 rfl rfl ?_
  refine vv_if_ne 2 9 dX12_codesTell_2 (by decide) (fun c62 => ?_) (fun c62 => ?_)
  · rw [if_neg c62] at h
    refine vv_iconst 9 dX12_codesTell_9 ik_0 ?_
    refine vn_putI 10 dX12_codesTell_10 fl_12_311 (Or.inl rfl) rfl (g_l_291 hG) (fun μ63 eμ63 => ?_)
    rw [sh_let_eq eμ63] at h
    have hG63 : sh_G μ63 := by rw [eμ63]; exact hG
    refine vv_aload_n 13 0 dX12_codesTell_13 rfl rfl ?_
    refine vv_iconst 14 dX12_codesTell_14 ik_0 ?_
    refine vn_putI 15 dX12_codesTell_15 fl_12_420 (Or.inl rfl) rfl (g_l_291 hG63) (fun μ64 eμ64 => ?_)
    rw [sh_let_eq eμ64] at h
    have hG64 : sh_G μ64 := by rw [eμ64]; exact hG63
    refine vv_aload_n 18 0 dX12_codesTell_18 rfl rfl ?_
    refine vv_getR 19 dX12_codesTell_19 fl_12_121 rfl (g_l_291 hG64) (g_r_291_45 hG64) ?_
    refine vv_iconst 22 dX12_codesTell_22 ik_3 ?_
    refine vv_iload_n 23 1 dX12_codesTell_23 rfl rfl ?_
    refine vv_iadd 24 dX12_codesTell_24 ?_
    obtain ⟨k65, h⟩ := sh_chk h
    refine vv_iald 25 dX12_codesTell_25 (g_l_327 hG64) k65 ?_
    refine vv_topi (fun x66 ex66 => ?_)
    rw [sh_let_eq ex66] at h
    refine vv_istore_n (lv' := [(2, _), (0, _), (1, _)]) 26 2 dX12_codesTell_26 rfl (by decide) rfl ?_
    refine vv_sub [(0, _), (1, _), (2, _)] (sh_subm [1, 2, 0] rfl) ?_
    exact ih_27 hG64 h
  · rw [if_pos c62] at h
    refine vv_iconst 5 dX12_codesTell_5 ik_1 ?_
    refine vv_goto 6 10 dX12_codesTell_6 (by decide) ?_
    refine vn_putI 10 dX12_codesTell_10 fl_12_311 (Or.inl rfl) rfl (g_l_291 hG) (fun μ67 eμ67 => ?_)
    rw [sh_let_eq eμ67] at h
    have hG67 : sh_G μ67 := by rw [eμ67]; exact hG
    refine vv_aload_n 13 0 dX12_codesTell_13 rfl rfl ?_
    refine vv_iconst 14 dX12_codesTell_14 ik_0 ?_
    refine vn_putI 15 dX12_codesTell_15 fl_12_420 (Or.inl rfl) rfl (g_l_291 hG67) (fun μ68 eμ68 => ?_)
    rw [sh_let_eq eμ68] at h
    have hG68 : sh_G μ68 := by rw [eμ68]; exact hG67
    refine vv_aload_n 18 0 dX12_codesTell_18 rfl rfl ?_
    refine vv_getR 19 dX12_codesTell_19 fl_12_121 rfl (g_l_291 hG68) (g_r_291_45 hG68) ?_
    refine vv_iconst 22 dX12_codesTell_22 ik_3 ?_
    refine vv_iload_n 23 1 dX12_codesTell_23 rfl rfl ?_
    refine vv_iadd 24 dX12_codesTell_24 ?_
    obtain ⟨k69, h⟩ := sh_chk h
    refine vv_iald 25 dX12_codesTell_25 (g_l_327 hG68) k69 ?_
    refine vv_topi (fun x70 ex70 => ?_)
    rw [sh_let_eq ex70] at h
    refine vv_istore_n (lv' := [(2, _), (0, _), (1, _)]) 26 2 dX12_codesTell_26 rfl (by decide) rfl ?_
    refine vv_sub [(0, _), (1, _), (2, _)] (sh_subm [1, 2, 0] rfl) ?_
    exact ih_27 hG68 h
noncomputable def f_X12_wouldDo (a1 : Int32) (a2 : Int32) (μ : sh_Mem) : Option (Int32 × sh_Mem) := sh_bind (f_X12_knowsOf a1 μ) (fun y3 μ1 => (if ((y3 >>> (a2 &&& 31)) &&& 1) = 1 then some (0, μ1) else sh_let (sh_setI μ1 291 54 a1) (fun μ5 => sh_let (sh_setI μ5 291 55 a2) (fun μ6 => (if (sh_i μ6 327 (Int32.toNatClampNeg 5)) = (-1) then some (2, μ6) else sh_bind (f_X12_codesTell 2 μ6) (fun y10 μ8 => (if (lg_cmp y10 1) = 0 then some (1, μ8) else some (2, μ8))))))))
theorem gp_X12_wouldDo {a1 : Int32} {a2 : Int32} {μ μ' : sh_Mem} {v : Int32} (hG : sh_G μ) (h : f_X12_wouldDo a1 a2 μ = some (v, μ')) : sh_G μ' := by
  unfold f_X12_wouldDo at h
  obtain ⟨y3, μ1, hr2, h⟩ := sh_bind_e h
  have hG1 := gp_X12_knowsOf hG hr2
  by_cases c4 : ((y3 >>> (a2 &&& 31)) &&& 1) = 1
  · rw [if_pos c4] at h
    obtain ⟨e1, e2⟩ := sh_some2 h
    exact e2 ▸ hG1
  · rw [if_neg c4] at h
    obtain ⟨μ5, eμ5⟩ : ∃ y : sh_Mem, y = (sh_setI μ1 291 54 a1) := ⟨_, rfl⟩
    rw [sh_let_eq eμ5] at h
    have hG5 : sh_G μ5 := by rw [eμ5]; exact hG1
    obtain ⟨μ6, eμ6⟩ : ∃ y : sh_Mem, y = (sh_setI μ5 291 55 a2) := ⟨_, rfl⟩
    rw [sh_let_eq eμ6] at h
    have hG6 : sh_G μ6 := by rw [eμ6]; exact hG5
    by_cases c7 : (sh_i μ6 327 (Int32.toNatClampNeg 5)) = (-1)
    · rw [if_pos c7] at h
      obtain ⟨e1, e2⟩ := sh_some2 h
      exact e2 ▸ hG6
    · rw [if_neg c7] at h
      obtain ⟨y10, μ8, hr9, h⟩ := sh_bind_e h
      have hG8 := gp_X12_codesTell hG6 hr9
      by_cases c11 : (lg_cmp y10 1) = 0
      · rw [if_pos c11] at h
        obtain ⟨e1, e2⟩ := sh_some2 h
        exact e2 ▸ hG8
      · rw [if_neg c11] at h
        obtain ⟨e1, e2⟩ := sh_some2 h
        exact e2 ▸ hG8
theorem t_X12_wouldDo {a1 : Int32} {a2 : Int32} {μ μ' : sh_Mem} {v : Int32} (hG : sh_G μ) (h : f_X12_wouldDo a1 a2 μ = some (v, μ')) : sh_C0 l B D ca 4 M_X12_wouldDo [.ref 291, .int a1, .int a2] μ (fun v0 μ0 => v0 = some (.int v) ∧ μ0 = μ') := by
  unfold f_X12_wouldDo at h
  refine vv_aload_n 0 0 dX12_wouldDo_0 rfl rfl ?_
  refine vv_iload_n 1 1 dX12_wouldDo_1 rfl rfl ?_
  obtain ⟨y3, μ1, hr2, h⟩ := sh_bind_e h
  refine v1_callV [_] 2 dX12_wouldDo_2 ck_X12_437 (g_l_291 hG) ⟨by decide, rfl⟩ (t_X12_knowsOf hG hr2) (Nat.le_of_ble_eq_true rfl) ⟨Nat.le_of_ble_eq_true rfl, Nat.le_of_ble_eq_true rfl⟩ rfl (Nat.le_of_ble_eq_true rfl) ?_
  have hG1 := gp_X12_knowsOf hG hr2
  refine vv_iload_n 5 2 dX12_wouldDo_5 rfl rfl ?_
  refine vv_ishr 6 dX12_wouldDo_6 ?_
  refine vv_iconst 7 dX12_wouldDo_7 ik_1 ?_
  refine vv_iand 8 dX12_wouldDo_8 ?_
  refine vv_iconst 9 dX12_wouldDo_9 ik_1 ?_
  refine vv_icmp_ne 10 15 dX12_wouldDo_10 (by decide) (fun c4 => ?_) (fun c4 => ?_)
  · rw [if_neg c4] at h
    refine vv_aload_n 15 0 dX12_wouldDo_15 rfl rfl ?_
    refine vv_iload_n 16 1 dX12_wouldDo_16 rfl rfl ?_
    refine vn_putI 17 dX12_wouldDo_17 fl_12_427 (Or.inl rfl) rfl (g_l_291 hG1) (fun μ5 eμ5 => ?_)
    rw [sh_let_eq eμ5] at h
    have hG5 : sh_G μ5 := by rw [eμ5]; exact hG1
    refine vv_aload_n 20 0 dX12_wouldDo_20 rfl rfl ?_
    refine vv_iload_n 21 2 dX12_wouldDo_21 rfl rfl ?_
    refine vn_putI 22 dX12_wouldDo_22 fl_12_440 (Or.inl rfl) rfl (g_l_291 hG5) (fun μ6 eμ6 => ?_)
    rw [sh_let_eq eμ6] at h
    have hG6 : sh_G μ6 := by rw [eμ6]; exact hG5
    refine vv_aload_n 25 0 dX12_wouldDo_25 rfl rfl ?_
    refine vv_getR 26 dX12_wouldDo_26 fl_12_121 rfl (g_l_291 hG6) (g_r_291_45 hG6) ?_
    refine vv_iconst 29 dX12_wouldDo_29 ik_5 ?_
    refine vv_iald 30 dX12_wouldDo_30 (g_l_327 hG6) (by unfold vp_in; decide) ?_
    refine vv_iconst 31 dX12_wouldDo_31 ik_m1 ?_
    refine vv_icmp_eq 32 49 dX12_wouldDo_32 (by decide) (fun c7 => ?_) (fun c7 => ?_)
    · rw [if_pos c7] at h
      refine vv_iconst 49 dX12_wouldDo_49 ik_2 ?_
      obtain ⟨e1, e2⟩ := sh_some2 h
      refine vv_iret 50 dX12_wouldDo_50 rfl (Nat.le_refl _) (Nat.le_refl _) ⟨by rw [e1], e2⟩
    · rw [if_neg c7] at h
      refine vv_aload_n 35 0 dX12_wouldDo_35 rfl rfl ?_
      refine vv_iconst 36 dX12_wouldDo_36 ik_2 ?_
      obtain ⟨y10, μ8, hr9, h⟩ := sh_bind_e h
      refine v1_callV [_] 37 dX12_wouldDo_37 ck_X12_443 (g_l_291 hG6) ⟨by decide, rfl⟩ (t_X12_codesTell hG6 hr9) (Nat.le_of_ble_eq_true rfl) ⟨Nat.le_of_ble_eq_true rfl, Nat.le_of_ble_eq_true rfl⟩ rfl (Nat.le_of_ble_eq_true rfl) ?_
      have hG8 := gp_X12_codesTell hG6 hr9
      refine vv_lconst 40 dX12_wouldDo_40 lk_1 ?_
      refine vv_lcmp 41 dX12_wouldDo_41 ?_
      refine vv_if_ne 42 49 dX12_wouldDo_42 (by decide) (fun c11 => ?_) (fun c11 => ?_)
      · rw [if_neg c11] at h
        refine vv_iconst 49 dX12_wouldDo_49 ik_2 ?_
        obtain ⟨e1, e2⟩ := sh_some2 h
        refine vv_iret 50 dX12_wouldDo_50 rfl (Nat.le_refl _) (Nat.le_refl _) ⟨by rw [e1], e2⟩
      · rw [if_pos c11] at h
        refine vv_iconst 45 dX12_wouldDo_45 ik_1 ?_
        refine vv_goto 46 50 dX12_wouldDo_46 (by decide) ?_
        obtain ⟨e1, e2⟩ := sh_some2 h
        refine vv_iret 50 dX12_wouldDo_50 rfl (Nat.le_refl _) (Nat.le_refl _) ⟨by rw [e1], e2⟩
  · rw [if_pos c4] at h
    refine vv_iconst 13 dX12_wouldDo_13 ik_0 ?_
    obtain ⟨e1, e2⟩ := sh_some2 h
    refine vv_iret 14 dX12_wouldDo_14 rfl (Nat.le_refl _) (Nat.le_refl _) ⟨by rw [e1], e2⟩
end
