theorem fpl_X0_isAtRest (fuel : Nat) : (∀ ⦃i1 : Int32⦄ ⦃i2 : Int32⦄ ⦃μ μ' : sh_Mem⦄ ⦃v : Int32⦄, sh_G μ → F_X0_isAtRest fuel 1 i1 i2 μ = some (v, μ') → sh_offM μ μ') := by
  induction fuel with
  | zero => intro i1 i2 μ μ' v hG h; cases h
  | succ fuel ih =>
    have ih_2 := ih
    intro i1 i2 μ μ' v hG h
    replace h : ((if (sh_r μ 55 0 = some (sh_ref μ 55 0) ∧ ((sh_ref μ 55 0) = 8 ∨ (sh_ref μ 55 0) = 29)) then sh_let (sh_ref μ 55 0) (fun r9 => (if (sh_i μ r9 3) ≤ i2 then some (1, μ) else sh_let ((i1 ^^^ ((1 : Int32) <<< (i2 &&& 31))) : Int32) (fun x11 => (if sh_in ((x11 * 7) + i2) 896 then (if sh_in ((i1 * 7) + i2) 896 then (if (sh_i μ 217 (((x11 * 7) + i2)).toNatClampNeg) ≤ (sh_i μ 217 (((i1 * 7) + i2)).toNatClampNeg) then F_X0_isAtRest fuel 1 i1 (i2 + 1) μ else some (0, μ)) else none) else none)))) else none) : Option (Int32 × sh_Mem)) = some (v, μ') := h
    have hF : sh_offM μ μ := sh_offM.rf
    obtain ⟨k8, h⟩ := sh_chk h
    obtain ⟨r9, er9⟩ : ∃ y : Nat, y = (sh_ref μ 55 0) := ⟨_, rfl⟩
    rw [sh_let_eq er9] at h
    have k8r : sh_r μ 55 0 = some r9 ∧ (r9 = 8 ∨ r9 = 29) := by rw [er9]; exact k8
    by_cases c10 : (sh_i μ r9 3) ≤ i2
    · rw [if_pos c10] at h
      obtain ⟨e1, e2⟩ := sh_some2 h
      exact e2 ▸ hF
    · rw [if_neg c10] at h
      obtain ⟨x11, ex11⟩ : ∃ y : Int32, y = (i1 ^^^ ((1 : Int32) <<< (i2 &&& 31))) := ⟨_, rfl⟩
      rw [sh_let_eq ex11] at h
      obtain ⟨k12, h⟩ := sh_chk h
      obtain ⟨k13, h⟩ := sh_chk h
      by_cases c14 : (sh_i μ 217 (((x11 * 7) + i2)).toNatClampNeg) ≤ (sh_i μ 217 (((i1 * 7) + i2)).toNatClampNeg)
      · rw [if_pos c14] at h
        exact hF.trans (ih_2 hG h)
      · rw [if_neg c14] at h
        obtain ⟨e1, e2⟩ := sh_some2 h
        exact e2 ▸ hF
theorem fp_X0_isAtRest {a1 : Int32} {μ μ' : sh_Mem} {v : Int32} (hG : sh_G μ) (h : f_X0_isAtRest a1 μ = some (v, μ')) : sh_offM μ μ' := by
  have ih_2 := (fpl_X0_isAtRest sh_fuel)
  have hF : sh_offM μ μ := sh_offM.rf
  unfold f_X0_isAtRest at h
  exact hF.trans (ih_2 hG h)
theorem fpl_X0_mostLeft (fuel : Nat) : (∀ ⦃i1 : Int32⦄ ⦃i2 : Int32⦄ ⦃i3 : Int32⦄ ⦃i4 : Int32⦄ ⦃i5 : Int32⦄ ⦃i6 : Int32⦄ ⦃μ μ' : sh_Mem⦄ ⦃v : Int32⦄, sh_G μ → F_X0_mostLeft fuel 1 i1 i2 i3 i4 i5 i6 μ = some (v, μ') → sh_offM μ μ') ∧ (∀ ⦃i1 : Int32⦄ ⦃i2 : Int32⦄ ⦃i3 : Int32⦄ ⦃i4 : Int32⦄ ⦃i5 : Int32⦄ ⦃i6 : Int32⦄ ⦃μ μ' : sh_Mem⦄ ⦃v : Int32⦄, sh_G μ → F_X0_mostLeft fuel 2 i1 i2 i3 i4 i5 i6 μ = some (v, μ') → sh_offM μ μ') := by
  induction fuel with
  | zero => exact ⟨(by intro i1 i2 i3 i4 i5 i6 μ μ' v hG h; cases h), (by intro i1 i2 i3 i4 i5 i6 μ μ' v hG h; cases h)⟩
  | succ fuel ih =>
    obtain ⟨ih_5, ih_26⟩ := ih
    refine ⟨?_, ?_⟩
    · intro i1 i2 i3 i4 i5 i6 μ μ' v hG h
      replace h : ((if (sh_r μ 55 0 = some (sh_ref μ 55 0) ∧ ((sh_ref μ 55 0) = 8 ∨ (sh_ref μ 55 0) = 29)) then sh_let (sh_ref μ 55 0) (fun r32 => (if (sh_i μ r32 3) ≤ i4 then some (i3, μ) else F_X0_mostLeft fuel 2 i1 i2 i3 i4 0 0 μ)) else none) : Option (Int32 × sh_Mem)) = some (v, μ') := h
      have hF : sh_offM μ μ := sh_offM.rf
      obtain ⟨k31, h⟩ := sh_chk h
      obtain ⟨r32, er32⟩ : ∃ y : Nat, y = (sh_ref μ 55 0) := ⟨_, rfl⟩
      rw [sh_let_eq er32] at h
      have k31r : sh_r μ 55 0 = some r32 ∧ (r32 = 8 ∨ r32 = 29) := by rw [er32]; exact k31
      by_cases c33 : (sh_i μ r32 3) ≤ i4
      · rw [if_pos c33] at h
        obtain ⟨e1, e2⟩ := sh_some2 h
        exact e2 ▸ hF
      · rw [if_neg c33] at h
        exact hF.trans (ih_26 hG h)
    · intro i1 i2 i3 i4 i5 i6 μ μ' v hG h
      replace h : ((if (sh_r μ 55 0 = some (sh_ref μ 55 0) ∧ ((sh_ref μ 55 0) = 8 ∨ (sh_ref μ 55 0) = 29)) then sh_let (sh_ref μ 55 0) (fun r35 => (if (sh_i μ r35 3) ≤ i6 then (if i5 ≤ i3 then F_X0_mostLeft fuel 1 i1 i2 i3 (i4 + 1) 0 0 μ else F_X0_mostLeft fuel 1 i1 i2 i5 (i4 + 1) 0 0 μ) else (if ((i1 >>> (i4 &&& 31)) &&& 1) = 1 then (if ((i1 >>> (i6 &&& 31)) &&& 1) = 1 then (if sh_in i6 7 then (if sh_in i2 49 then (if sh_in i4 7 then (if sh_in i2 49 then (if (sh_i μ ((218 + 6 * i6.toNatClampNeg) + 1) i2.toNatClampNeg) = (sh_i μ ((218 + 6 * i4.toNatClampNeg) + 1) i2.toNatClampNeg) then F_X0_mostLeft fuel 2 i1 i2 i3 i4 (i5 + 1) (i6 + 1) μ else F_X0_mostLeft fuel 2 i1 i2 i3 i4 i5 (i6 + 1) μ) else none) else none) else none) else none) else F_X0_mostLeft fuel 2 i1 i2 i3 i4 i5 (i6 + 1) μ) else (if i5 ≤ i3 then F_X0_mostLeft fuel 1 i1 i2 i3 (i4 + 1) 0 0 μ else F_X0_mostLeft fuel 1 i1 i2 i5 (i4 + 1) 0 0 μ)))) else none) : Option (Int32 × sh_Mem)) = some (v, μ') := h
      have hF : sh_offM μ μ := sh_offM.rf
      obtain ⟨k34, h⟩ := sh_chk h
      obtain ⟨r35, er35⟩ : ∃ y : Nat, y = (sh_ref μ 55 0) := ⟨_, rfl⟩
      rw [sh_let_eq er35] at h
      have k34r : sh_r μ 55 0 = some r35 ∧ (r35 = 8 ∨ r35 = 29) := by rw [er35]; exact k34
      by_cases c36 : (sh_i μ r35 3) ≤ i6
      · rw [if_pos c36] at h
        by_cases c37 : i5 ≤ i3
        · rw [if_pos c37] at h
          exact hF.trans (ih_5 hG h)
        · rw [if_neg c37] at h
          exact hF.trans (ih_5 hG h)
      · rw [if_neg c36] at h
        by_cases c38 : ((i1 >>> (i4 &&& 31)) &&& 1) = 1
        · rw [if_pos c38] at h
          by_cases c40 : ((i1 >>> (i6 &&& 31)) &&& 1) = 1
          · rw [if_pos c40] at h
            obtain ⟨k41, h⟩ := sh_chk h
            obtain ⟨k42, h⟩ := sh_chk h
            obtain ⟨k43, h⟩ := sh_chk h
            obtain ⟨k44, h⟩ := sh_chk h
            by_cases c45 : (sh_i μ ((218 + 6 * i6.toNatClampNeg) + 1) i2.toNatClampNeg) = (sh_i μ ((218 + 6 * i4.toNatClampNeg) + 1) i2.toNatClampNeg)
            · rw [if_pos c45] at h
              exact hF.trans (ih_26 hG h)
            · rw [if_neg c45] at h
              exact hF.trans (ih_26 hG h)
          · rw [if_neg c40] at h
            exact hF.trans (ih_26 hG h)
        · rw [if_neg c38] at h
          by_cases c39 : i5 ≤ i3
          · rw [if_pos c39] at h
            exact hF.trans (ih_5 hG h)
          · rw [if_neg c39] at h
            exact hF.trans (ih_5 hG h)
theorem fp_X0_mostLeft {a1 : Int32} {a2 : Int32} {μ μ' : sh_Mem} {v : Int32} (hG : sh_G μ) (h : f_X0_mostLeft a1 a2 μ = some (v, μ')) : sh_offM μ μ' := by
  have ih_5 := (fpl_X0_mostLeft sh_fuel).1
  have ih_26 := (fpl_X0_mostLeft sh_fuel).2
  have hF : sh_offM μ μ := sh_offM.rf
  unfold f_X0_mostLeft at h
  exact hF.trans (ih_5 hG h)
theorem fp_X1_add {f : Nat} {a1 : Int32} {μ μ' : sh_Mem} (hG : sh_G μ) (hf : sh_isF f) (h : f_X1_add f a1 μ = some μ') : sh_offM μ μ' := by
  have hF : sh_offM μ μ := sh_offM.rf
  unfold f_X1_add at h
  by_cases c1 : (Int32.ofNat 1600) ≤ (sh_i μ f 1)
  · rw [if_pos c1] at h
    have e2 := Option.some.inj h
    exact e2 ▸ hF
  · rw [if_neg c1] at h
    obtain ⟨k2, h⟩ := sh_chk h
    obtain ⟨μ3, eμ3⟩ : ∃ y : sh_Mem, y = (sh_setI μ (f + 1) ((sh_i μ f 1)).toNatClampNeg a1) := ⟨_, rfl⟩
    rw [sh_let_eq eμ3] at h
    have hG3 : sh_G μ3 := by rw [eμ3]; exact hG
    have hF3 : sh_offM μ μ3 := by rw [eμ3]; exact sh_offM_I hF (sh_ltF hf 1 (by decide))
    obtain ⟨μ4, eμ4⟩ : ∃ y : sh_Mem, y = (sh_setI μ3 f 1 ((sh_i μ3 f 1) + 1)) := ⟨_, rfl⟩
    rw [sh_let_eq eμ4] at h
    have hG4 : sh_G μ4 := by rw [eμ4]; exact hG3
    have hF4 : sh_offM μ μ4 := by rw [eμ4]; exact sh_offM_I hF3 (sh_ltF hf 0 (by decide))
    have e2 := Option.some.inj h
    exact e2 ▸ hF4
theorem fp_X1_addWord {f : Nat} {a1 : Int32} {μ μ' : sh_Mem} (hG : sh_G μ) (hf : sh_isF f) (h : f_X1_addWord f a1 μ = some μ') : sh_offM μ μ' := by
  have hF : sh_offM μ μ := sh_offM.rf
  unfold f_X1_addWord at h
  obtain ⟨μ1, hr2, h⟩ := sh_bindv_e h
  have hG1 := gp_X1_add hG hf hr2
  have hF1 := hF.trans (fp_X1_add hG hf hr2)
  have e2 := Option.some.inj h
  exact e2 ▸ hF1
theorem fp_X1_addMark {f : Nat} {a1 : Int32} {μ μ' : sh_Mem} (hG : sh_G μ) (hf : sh_isF f) (h : f_X1_addMark f a1 μ = some μ') : sh_offM μ μ' := by
  have hF : sh_offM μ μ := sh_offM.rf
  unfold f_X1_addMark at h
  obtain ⟨μ1, hr2, h⟩ := sh_bindv_e h
  have hG1 := gp_X1_add hG hf hr2
  have hF1 := hF.trans (fp_X1_add hG hf hr2)
  have e2 := Option.some.inj h
  exact e2 ▸ hF1
theorem fpl_X1_names (fuel : Nat) : (∀ ⦃r0 : Nat⦄ ⦃i1 : Int32⦄ ⦃i2 : Int32⦄ ⦃μ μ' : sh_Mem⦄ ⦃v : Int32⦄, sh_G μ → sh_isF r0 → F_X1_names fuel 1 r0 i1 i2 μ = some (v, μ') → sh_offM μ μ') := by
  induction fuel with
  | zero => intro r0 i1 i2 μ μ' v hG hr0 h; cases h
  | succ fuel ih =>
    have ih_2 := ih
    intro r0 i1 i2 μ μ' v hG hr0 h
    replace h : ((if (sh_i μ r0 1) ≤ i2 then some (0, μ) else (if (Int32.ofNat 1600) ≤ i2 then some (0, μ) else (if sh_in i2 1600 then (if (sh_i μ (r0 + 1) i2.toNatClampNeg) = ((-1) - i1) then some (1, μ) else F_X1_names fuel 1 r0 i1 (i2 + 1) μ) else none))) : Option (Int32 × sh_Mem)) = some (v, μ') := h
    have hF : sh_offM μ μ := sh_offM.rf
    by_cases c5 : (sh_i μ r0 1) ≤ i2
    · rw [if_pos c5] at h
      obtain ⟨e1, e2⟩ := sh_some2 h
      exact e2 ▸ hF
    · rw [if_neg c5] at h
      by_cases c6 : (Int32.ofNat 1600) ≤ i2
      · rw [if_pos c6] at h
        obtain ⟨e1, e2⟩ := sh_some2 h
        exact e2 ▸ hF
      · rw [if_neg c6] at h
        obtain ⟨k7, h⟩ := sh_chk h
        by_cases c8 : (sh_i μ (r0 + 1) i2.toNatClampNeg) = ((-1) - i1)
        · rw [if_pos c8] at h
          obtain ⟨e1, e2⟩ := sh_some2 h
          exact e2 ▸ hF
        · rw [if_neg c8] at h
          exact hF.trans (ih_2 hG hr0 h)
theorem fp_X1_names {f : Nat} {a1 : Int32} {μ μ' : sh_Mem} {v : Int32} (hG : sh_G μ) (hf : sh_isF f) (h : f_X1_names f a1 μ = some (v, μ')) : sh_offM μ μ' := by
  have ih_2 := (fpl_X1_names sh_fuel)
  have hF : sh_offM μ μ := sh_offM.rf
  unfold f_X1_names at h
  exact hF.trans (ih_2 hG hf h)
theorem fp_X1_ofOne {a1 : Int32} {a2 : Int64} {g : Nat} {μ μ' : sh_Mem} {v : Int64} (hG : sh_G μ) (hg : sh_LAY[g]? = some (13, 38)) (hgl : g < 291) (h : f_X1_ofOne a1 a2 g μ = some (v, μ')) : sh_offM μ μ' := by
  have hF : sh_offM μ μ := sh_offM.rf
  unfold f_X1_ofOne at h
  by_cases c1 : a1 = 23
  · rw [if_pos c1] at h
    by_cases c7 : (lg_cmp a2 0) = 0
    · rw [if_pos c7] at h
      obtain ⟨e1, e2⟩ := sh_some2 h
      exact e2 ▸ hF
    · rw [if_neg c7] at h
      obtain ⟨e1, e2⟩ := sh_some2 h
      exact e2 ▸ hF
  · rw [if_neg c1] at h
    by_cases c2 : (lg_cmp a2 0) < 0
    · rw [if_pos c2] at h
      obtain ⟨e1, e2⟩ := sh_some2 h
      exact e2 ▸ hF
    · rw [if_neg c2] at h
      by_cases c3 : (lg_cmp a2 5) < 0
      · rw [if_pos c3] at h
        obtain ⟨x4, ex4⟩ : ∃ y : Int32, y = (a2).toInt32 := ⟨_, rfl⟩
        rw [sh_let_eq ex4] at h
        by_cases c5 : a1 = 7
        · rw [if_pos c5] at h
          obtain ⟨e1, e2⟩ := sh_some2 h
          exact e2 ▸ hF
        · rw [if_neg c5] at h
          obtain ⟨k6, h⟩ := sh_chk h
          obtain ⟨e1, e2⟩ := sh_some2 h
          exact e2 ▸ hF
      · rw [if_neg c3] at h
        obtain ⟨e1, e2⟩ := sh_some2 h
        exact e2 ▸ hF
theorem fp_X2_begin {f1 : Nat} {a2 : Int32} {μ μ' : sh_Mem} (hG : sh_G μ) (hf1 : sh_isF f1) (h : f_X2_begin f1 a2 μ = some μ') : sh_offM μ μ' := by
  have hF : sh_offM μ μ := sh_offM.rf
  unfold f_X2_begin at h
  obtain ⟨μ1, eμ1⟩ : ∃ y : sh_Mem, y = (sh_setR μ 6 1 (some f1)) := ⟨_, rfl⟩
  rw [sh_let_eq eμ1] at h
  have hG1 : sh_G μ1 := by rw [eμ1]; exact hG.setR (by decide +kernel)
  have hF1 : sh_offM μ μ1 := by rw [eμ1]; exact sh_offM_R hF (by decide)
  obtain ⟨k2, h⟩ := sh_chk h
  obtain ⟨r3, er3⟩ : ∃ y : Nat, y = (sh_ref μ1 6 1) := ⟨_, rfl⟩
  rw [sh_let_eq er3] at h
  have k2r : sh_r μ1 6 1 = some r3 ∧ r3 ∈ sh_FORMS := by rw [er3]; exact k2
  obtain ⟨μ4, eμ4⟩ : ∃ y : sh_Mem, y = (sh_setI μ1 r3 1 0) := ⟨_, rfl⟩
  rw [sh_let_eq eμ4] at h
  have hG4 : sh_G μ4 := by rw [eμ4]; exact hG1
  have hF4 : sh_offM μ μ4 := by rw [eμ4]; exact sh_offM_I hF1 (sh_ltF k2r.2 0 (by decide))
  obtain ⟨μ5, eμ5⟩ : ∃ y : sh_Mem, y = (sh_setI μ4 6 2 a2) := ⟨_, rfl⟩
  rw [sh_let_eq eμ5] at h
  have hG5 : sh_G μ5 := by rw [eμ5]; exact hG4
  have hF5 : sh_offM μ μ5 := by rw [eμ5]; exact sh_offM_I hF4 (by decide)
  have e2 := Option.some.inj h
  exact e2 ▸ hF5
theorem fp_X2_isFactHere {a1 : Int32} {μ μ' : sh_Mem} {v : Int32} (hG : sh_G μ) (h : f_X2_isFactHere a1 μ = some (v, μ')) : sh_offM μ μ' := by
  have hF : sh_offM μ μ := sh_offM.rf
  unfold f_X2_isFactHere at h
  by_cases c1 : a1 = 3
  · rw [if_pos c1] at h
    by_cases c2 : (sh_i μ 6 2) = 2
    · rw [if_pos c2] at h
      obtain ⟨e1, e2⟩ := sh_some2 h
      exact e2 ▸ hF
    · rw [if_neg c2] at h
      obtain ⟨e1, e2⟩ := sh_some2 h
      exact e2 ▸ hF
  rw [if_neg c1] at h
  by_cases c3 : a1 = 4
  · rw [if_pos c3] at h
    obtain ⟨e1, e2⟩ := sh_some2 h
    exact e2 ▸ hF
  rw [if_neg c3] at h
  by_cases c4 : a1 = 5
  · rw [if_pos c4] at h
    obtain ⟨e1, e2⟩ := sh_some2 h
    exact e2 ▸ hF
  rw [if_neg c4] at h
  by_cases c5 : a1 = 6
  · rw [if_pos c5] at h
    obtain ⟨e1, e2⟩ := sh_some2 h
    exact e2 ▸ hF
  rw [if_neg c5] at h
  by_cases c6 : a1 = 7
  · rw [if_pos c6] at h
    obtain ⟨e1, e2⟩ := sh_some2 h
    exact e2 ▸ hF
  rw [if_neg c6] at h
  by_cases c7 : a1 = 8
  · rw [if_pos c7] at h
    obtain ⟨e1, e2⟩ := sh_some2 h
    exact e2 ▸ hF
  rw [if_neg c7] at h
  by_cases c8 : a1 = 9
  · rw [if_pos c8] at h
    obtain ⟨e1, e2⟩ := sh_some2 h
    exact e2 ▸ hF
  rw [if_neg c8] at h
  by_cases c9 : a1 = 10
  · rw [if_pos c9] at h
    obtain ⟨e1, e2⟩ := sh_some2 h
    exact e2 ▸ hF
  rw [if_neg c9] at h
  by_cases c10 : a1 = 11
  · rw [if_pos c10] at h
    obtain ⟨e1, e2⟩ := sh_some2 h
    exact e2 ▸ hF
  rw [if_neg c10] at h
  by_cases c11 : a1 = 12
  · rw [if_pos c11] at h
    obtain ⟨e1, e2⟩ := sh_some2 h
    exact e2 ▸ hF
  rw [if_neg c11] at h
  by_cases c12 : a1 = 13
  · rw [if_pos c12] at h
    obtain ⟨e1, e2⟩ := sh_some2 h
    exact e2 ▸ hF
  rw [if_neg c12] at h
  by_cases c13 : a1 = 14
  · rw [if_pos c13] at h
    obtain ⟨e1, e2⟩ := sh_some2 h
    exact e2 ▸ hF
  rw [if_neg c13] at h
  by_cases c14 : a1 = 15
  · rw [if_pos c14] at h
    obtain ⟨e1, e2⟩ := sh_some2 h
    exact e2 ▸ hF
  rw [if_neg c14] at h
  by_cases c15 : a1 = 16
  · rw [if_pos c15] at h
    obtain ⟨e1, e2⟩ := sh_some2 h
    exact e2 ▸ hF
  rw [if_neg c15] at h
  by_cases c16 : a1 = 17
  · rw [if_pos c16] at h
    by_cases c17 : (sh_i μ 6 2) = 0
    · rw [if_pos c17] at h
      obtain ⟨e1, e2⟩ := sh_some2 h
      exact e2 ▸ hF
    · rw [if_neg c17] at h
      obtain ⟨e1, e2⟩ := sh_some2 h
      exact e2 ▸ hF
  rw [if_neg c16] at h
  by_cases c18 : a1 = 18
  · rw [if_pos c18] at h
    by_cases c19 : (sh_i μ 6 2) = 2
    · rw [if_pos c19] at h
      obtain ⟨e1, e2⟩ := sh_some2 h
      exact e2 ▸ hF
    · rw [if_neg c19] at h
      obtain ⟨e1, e2⟩ := sh_some2 h
      exact e2 ▸ hF
  rw [if_neg c18] at h
  by_cases c20 : a1 = 19
  · rw [if_pos c20] at h
    by_cases c21 : (sh_i μ 6 2) = 2
    · rw [if_pos c21] at h
      obtain ⟨e1, e2⟩ := sh_some2 h
      exact e2 ▸ hF
    · rw [if_neg c21] at h
      obtain ⟨e1, e2⟩ := sh_some2 h
      exact e2 ▸ hF
  rw [if_neg c20] at h
  by_cases c22 : a1 = 20
  · rw [if_pos c22] at h
    by_cases c23 : (sh_i μ 6 2) = 2
    · rw [if_pos c23] at h
      obtain ⟨e1, e2⟩ := sh_some2 h
      exact e2 ▸ hF
    · rw [if_neg c23] at h
      obtain ⟨e1, e2⟩ := sh_some2 h
      exact e2 ▸ hF
  rw [if_neg c22] at h
  obtain ⟨e1, e2⟩ := sh_some2 h
  exact e2 ▸ hF
theorem fp_X3_copyFrom {r : Nat} {q1 : Nat} {μ μ' : sh_Mem} (hG : sh_G μ) (hr : sh_isL r) (hq1 : sh_isL q1) (h : f_X3_copyFrom r q1 μ = some μ') : sh_offM μ μ' := by
  have hF : sh_offM μ μ := sh_offM.rf
  unfold f_X3_copyFrom at h
  obtain ⟨μ1, eμ1⟩ : ∃ y : sh_Mem, y = (sh_setI μ r 0 (sh_i μ q1 0)) := ⟨_, rfl⟩
  rw [sh_let_eq eμ1] at h
  have hG1 : sh_G μ1 := by rw [eμ1]; exact hG
  have hF1 : sh_offM μ μ1 := by rw [eμ1]; exact sh_offM_I hF (sh_ltL hr 0 (by decide))
  obtain ⟨μ2, eμ2⟩ : ∃ y : sh_Mem, y = (sh_rowI μ1 (r + 1) (va_cpy (sh_i μ1 (q1 + 1)) (sh_i μ1 (r + 1)) (Int32.toNatClampNeg 0) (Int32.toNatClampNeg 0) (Int32.toNatClampNeg 49))) := ⟨_, rfl⟩
  rw [sh_let_eq eμ2] at h
  have hG2 : sh_G μ2 := by rw [eμ2]; exact hG1
  have hF2 : sh_offM μ μ2 := by rw [eμ2]; exact sh_offM_row hF1 (sh_ltL hr 1 (by decide))
  obtain ⟨μ3, eμ3⟩ : ∃ y : sh_Mem, y = (sh_rowI μ2 (r + 2) (va_cpy (sh_i μ2 (q1 + 2)) (sh_i μ2 (r + 2)) (Int32.toNatClampNeg 0) (Int32.toNatClampNeg 0) (Int32.toNatClampNeg 7))) := ⟨_, rfl⟩
  rw [sh_let_eq eμ3] at h
  have hG3 : sh_G μ3 := by rw [eμ3]; exact hG2
  have hF3 : sh_offM μ μ3 := by rw [eμ3]; exact sh_offM_row hF2 (sh_ltL hr 2 (by decide))
  obtain ⟨μ4, eμ4⟩ : ∃ y : sh_Mem, y = (sh_rowI μ3 (r + 3) (va_cpy (sh_i μ3 (q1 + 3)) (sh_i μ3 (r + 3)) (Int32.toNatClampNeg 0) (Int32.toNatClampNeg 0) (Int32.toNatClampNeg 7))) := ⟨_, rfl⟩
  rw [sh_let_eq eμ4] at h
  have hG4 : sh_G μ4 := by rw [eμ4]; exact hG3
  have hF4 : sh_offM μ μ4 := by rw [eμ4]; exact sh_offM_row hF3 (sh_ltL hr 3 (by decide))
  obtain ⟨μ5, eμ5⟩ : ∃ y : sh_Mem, y = (sh_rowI μ4 (r + 4) (va_cpy (sh_i μ4 (q1 + 4)) (sh_i μ4 (r + 4)) (Int32.toNatClampNeg 0) (Int32.toNatClampNeg 0) (Int32.toNatClampNeg 7))) := ⟨_, rfl⟩
  rw [sh_let_eq eμ5] at h
  have hG5 : sh_G μ5 := by rw [eμ5]; exact hG4
  have hF5 : sh_offM μ μ5 := by rw [eμ5]; exact sh_offM_row hF4 (sh_ltL hr 4 (by decide))
  obtain ⟨μ6, eμ6⟩ : ∃ y : sh_Mem, y = (sh_rowI μ5 (r + 5) (va_cpy (sh_i μ5 (q1 + 5)) (sh_i μ5 (r + 5)) (Int32.toNatClampNeg 0) (Int32.toNatClampNeg 0) (Int32.toNatClampNeg 7))) := ⟨_, rfl⟩
  rw [sh_let_eq eμ6] at h
  have hG6 : sh_G μ6 := by rw [eμ6]; exact hG5
  have hF6 : sh_offM μ μ6 := by rw [eμ6]; exact sh_offM_row hF5 (sh_ltL hr 5 (by decide))
  have e2 := Option.some.inj h
  exact e2 ▸ hF6
theorem fpl_X3_together (fuel : Nat) : (∀ ⦃r0 : Nat⦄ ⦃i1 : Int32⦄ ⦃i2 : Int32⦄ ⦃i3 : Int32⦄ ⦃μ μ' : sh_Mem⦄ ⦃v : Int32⦄, sh_G μ → sh_isL r0 → F_X3_together fuel 1 r0 i1 i2 i3 μ = some (v, μ') → sh_offM μ μ') := by
  induction fuel with
  | zero => intro r0 i1 i2 i3 μ μ' v hG hr0 h; cases h
  | succ fuel ih =>
    have ih_4 := ih
    intro r0 i1 i2 i3 μ μ' v hG hr0 h
    replace h : ((if i1 ≤ i3 then some (i2, μ) else (if 49 ≤ i3 then some (i2, μ) else (if sh_in i3 49 then sh_let ((i2 + (sh_i μ (r0 + 1) i3.toNatClampNeg)) : Int32) (fun x8 => F_X3_together fuel 1 r0 i1 x8 (i3 + 1) μ) else none))) : Option (Int32 × sh_Mem)) = some (v, μ') := h
    have hF : sh_offM μ μ := sh_offM.rf
    by_cases c5 : i1 ≤ i3
    · rw [if_pos c5] at h
      obtain ⟨e1, e2⟩ := sh_some2 h
      exact e2 ▸ hF
    · rw [if_neg c5] at h
      by_cases c6 : 49 ≤ i3
      · rw [if_pos c6] at h
        obtain ⟨e1, e2⟩ := sh_some2 h
        exact e2 ▸ hF
      · rw [if_neg c6] at h
        obtain ⟨k7, h⟩ := sh_chk h
        obtain ⟨x8, ex8⟩ : ∃ y : Int32, y = (i2 + (sh_i μ (r0 + 1) i3.toNatClampNeg)) := ⟨_, rfl⟩
        rw [sh_let_eq ex8] at h
        exact hF.trans (ih_4 hG hr0 h)
theorem fp_X3_together {r : Nat} {a1 : Int32} {μ μ' : sh_Mem} {v : Int32} (hG : sh_G μ) (hr : sh_isL r) (h : f_X3_together r a1 μ = some (v, μ')) : sh_offM μ μ' := by
  have ih_4 := (fpl_X3_together sh_fuel)
  have hF : sh_offM μ μ := sh_offM.rf
  unfold f_X3_together at h
  exact hF.trans (ih_4 hG hr h)
theorem fpl_X3_isSomeoneAt (fuel : Nat) : (∀ ⦃r0 : Nat⦄ ⦃i1 : Int32⦄ ⦃i2 : Int32⦄ ⦃i3 : Int32⦄ ⦃i4 : Int32⦄ ⦃μ μ' : sh_Mem⦄ ⦃v : Int32⦄, sh_G μ → sh_isL r0 → F_X3_isSomeoneAt fuel 1 r0 i1 i2 i3 i4 μ = some (v, μ') → sh_offM μ μ') := by
  induction fuel with
  | zero => intro r0 i1 i2 i3 i4 μ μ' v hG hr0 h; cases h
  | succ fuel ih =>
    have ih_3 := ih
    intro r0 i1 i2 i3 i4 μ μ' v hG hr0 h
    replace h : ((if i3 ≤ i4 then some (0, μ) else (if 7 ≤ i4 then some (0, μ) else (if sh_in i4 7 then (if (sh_i μ (r0 + 2) i4.toNatClampNeg) = i1 then (if sh_in i4 7 then (if (sh_i μ (r0 + 3) i4.toNatClampNeg) = i2 then some (1, μ) else F_X3_isSomeoneAt fuel 1 r0 i1 i2 i3 (i4 + 1) μ) else none) else F_X3_isSomeoneAt fuel 1 r0 i1 i2 i3 (i4 + 1) μ) else none))) : Option (Int32 × sh_Mem)) = some (v, μ') := h
    have hF : sh_offM μ μ := sh_offM.rf
    by_cases c7 : i3 ≤ i4
    · rw [if_pos c7] at h
      obtain ⟨e1, e2⟩ := sh_some2 h
      exact e2 ▸ hF
    · rw [if_neg c7] at h
      by_cases c8 : 7 ≤ i4
      · rw [if_pos c8] at h
        obtain ⟨e1, e2⟩ := sh_some2 h
        exact e2 ▸ hF
      · rw [if_neg c8] at h
        obtain ⟨k9, h⟩ := sh_chk h
        by_cases c10 : (sh_i μ (r0 + 2) i4.toNatClampNeg) = i1
        · rw [if_pos c10] at h
          obtain ⟨k11, h⟩ := sh_chk h
          by_cases c12 : (sh_i μ (r0 + 3) i4.toNatClampNeg) = i2
          · rw [if_pos c12] at h
            obtain ⟨e1, e2⟩ := sh_some2 h
            exact e2 ▸ hF
          · rw [if_neg c12] at h
            exact hF.trans (ih_3 hG hr0 h)
        · rw [if_neg c10] at h
          exact hF.trans (ih_3 hG hr0 h)
theorem fp_X3_isSomeoneAt {r : Nat} {a1 : Int32} {a2 : Int32} {a3 : Int32} {μ μ' : sh_Mem} {v : Int32} (hG : sh_G μ) (hr : sh_isL r) (h : f_X3_isSomeoneAt r a1 a2 a3 μ = some (v, μ')) : sh_offM μ μ' := by
  have ih_3 := (fpl_X3_isSomeoneAt sh_fuel)
  have hF : sh_offM μ μ := sh_offM.rf
  unfold f_X3_isSomeoneAt at h
  exact hF.trans (ih_3 hG hr h)
theorem fp_X4_forget {μ μ' : sh_Mem} (hG : sh_G μ) (h : f_X4_forget μ = some μ') : sh_offM μ μ' := by
  have hF : sh_offM μ μ := sh_offM.rf
  unfold f_X4_forget at h
  obtain ⟨μ1, eμ1⟩ : ∃ y : sh_Mem, y = (sh_setI μ 63 1 0) := ⟨_, rfl⟩
  rw [sh_let_eq eμ1] at h
  have hG1 : sh_G μ1 := by rw [eμ1]; exact hG
  have hF1 : sh_offM μ μ1 := by rw [eμ1]; exact sh_offM_I hF (by decide)
  obtain ⟨μ2, eμ2⟩ : ∃ y : sh_Mem, y = (sh_setI μ1 63 2 0) := ⟨_, rfl⟩
  rw [sh_let_eq eμ2] at h
  have hG2 : sh_G μ2 := by rw [eμ2]; exact hG1
  have hF2 : sh_offM μ μ2 := by rw [eμ2]; exact sh_offM_I hF1 (by decide)
  have e2 := Option.some.inj h
  exact e2 ▸ hF2
theorem fp_X4_keep {a1 : Int32} {a2 : Int32} {a3 : Int32} {a4 : Int32} {μ μ' : sh_Mem} (hG : sh_G μ) (h : f_X4_keep a1 a2 a3 a4 μ = some μ') : sh_offM μ μ' := by
  have hF : sh_offM μ μ := sh_offM.rf
  unfold f_X4_keep at h
  by_cases c1 : (sh_i μ 63 1) < 40
  · rw [if_pos c1] at h
    obtain ⟨x2, ex2⟩ : ∃ y : Int32, y = ((sh_i μ 63 1) * 4) := ⟨_, rfl⟩
    rw [sh_let_eq ex2] at h
    obtain ⟨k3, h⟩ := sh_chk h
    obtain ⟨μ4, eμ4⟩ : ∃ y : sh_Mem, y = (sh_setI μ 64 x2.toNatClampNeg a1) := ⟨_, rfl⟩
    rw [sh_let_eq eμ4] at h
    have hG4 : sh_G μ4 := by rw [eμ4]; exact hG
    have hF4 : sh_offM μ μ4 := by rw [eμ4]; exact sh_offM_I hF (by decide)
    obtain ⟨k5, h⟩ := sh_chk h
    obtain ⟨μ6, eμ6⟩ : ∃ y : sh_Mem, y = (sh_setI μ4 64 ((x2 + 1)).toNatClampNeg a2) := ⟨_, rfl⟩
    rw [sh_let_eq eμ6] at h
    have hG6 : sh_G μ6 := by rw [eμ6]; exact hG4
    have hF6 : sh_offM μ μ6 := by rw [eμ6]; exact sh_offM_I hF4 (by decide)
    obtain ⟨k7, h⟩ := sh_chk h
    obtain ⟨μ8, eμ8⟩ : ∃ y : sh_Mem, y = (sh_setI μ6 64 ((x2 + 2)).toNatClampNeg a3) := ⟨_, rfl⟩
    rw [sh_let_eq eμ8] at h
    have hG8 : sh_G μ8 := by rw [eμ8]; exact hG6
    have hF8 : sh_offM μ μ8 := by rw [eμ8]; exact sh_offM_I hF6 (by decide)
    obtain ⟨k9, h⟩ := sh_chk h
    obtain ⟨μ10, eμ10⟩ : ∃ y : sh_Mem, y = (sh_setI μ8 64 ((x2 + 3)).toNatClampNeg a4) := ⟨_, rfl⟩
    rw [sh_let_eq eμ10] at h
    have hG10 : sh_G μ10 := by rw [eμ10]; exact hG8
    have hF10 : sh_offM μ μ10 := by rw [eμ10]; exact sh_offM_I hF8 (by decide)
    obtain ⟨μ11, eμ11⟩ : ∃ y : sh_Mem, y = (sh_setI μ10 63 1 ((sh_i μ10 63 1) + 1)) := ⟨_, rfl⟩
    rw [sh_let_eq eμ11] at h
    have hG11 : sh_G μ11 := by rw [eμ11]; exact hG10
    have hF11 : sh_offM μ μ11 := by rw [eμ11]; exact sh_offM_I hF10 (by decide)
    have e2 := Option.some.inj h
    exact e2 ▸ hF11
  · rw [if_neg c1] at h
    obtain ⟨k12, h⟩ := sh_chk h
    obtain ⟨k13, h⟩ := sh_chk h
    obtain ⟨k14, h⟩ := sh_chk h
    obtain ⟨μ15, eμ15⟩ : ∃ y : sh_Mem, y = (sh_rowI μ 64 (va_cpy (sh_i μ 64) (sh_i μ 64) (Int32.toNatClampNeg 4) (Int32.toNatClampNeg 0) (((Int32.ofNat 160) - 4)).toNatClampNeg)) := ⟨_, rfl⟩
    rw [sh_let_eq eμ15] at h
    have hG15 : sh_G μ15 := by rw [eμ15]; exact hG
    have hF15 : sh_offM μ μ15 := by rw [eμ15]; exact sh_offM_row hF (by decide)
    obtain ⟨μ16, eμ16⟩ : ∃ y : sh_Mem, y = (sh_setI μ15 63 1 39) := ⟨_, rfl⟩
    rw [sh_let_eq eμ16] at h
    have hG16 : sh_G μ16 := by rw [eμ16]; exact hG15
    have hF16 : sh_offM μ μ16 := by rw [eμ16]; exact sh_offM_I hF15 (by decide)
    obtain ⟨x17, ex17⟩ : ∃ y : Int32, y = ((sh_i μ16 63 1) * 4) := ⟨_, rfl⟩
    rw [sh_let_eq ex17] at h
    obtain ⟨k18, h⟩ := sh_chk h
    obtain ⟨μ19, eμ19⟩ : ∃ y : sh_Mem, y = (sh_setI μ16 64 x17.toNatClampNeg a1) := ⟨_, rfl⟩
    rw [sh_let_eq eμ19] at h
    have hG19 : sh_G μ19 := by rw [eμ19]; exact hG16
    have hF19 : sh_offM μ μ19 := by rw [eμ19]; exact sh_offM_I hF16 (by decide)
    obtain ⟨k20, h⟩ := sh_chk h
    obtain ⟨μ21, eμ21⟩ : ∃ y : sh_Mem, y = (sh_setI μ19 64 ((x17 + 1)).toNatClampNeg a2) := ⟨_, rfl⟩
    rw [sh_let_eq eμ21] at h
    have hG21 : sh_G μ21 := by rw [eμ21]; exact hG19
    have hF21 : sh_offM μ μ21 := by rw [eμ21]; exact sh_offM_I hF19 (by decide)
    obtain ⟨k22, h⟩ := sh_chk h
    obtain ⟨μ23, eμ23⟩ : ∃ y : sh_Mem, y = (sh_setI μ21 64 ((x17 + 2)).toNatClampNeg a3) := ⟨_, rfl⟩
    rw [sh_let_eq eμ23] at h
    have hG23 : sh_G μ23 := by rw [eμ23]; exact hG21
    have hF23 : sh_offM μ μ23 := by rw [eμ23]; exact sh_offM_I hF21 (by decide)
    obtain ⟨k24, h⟩ := sh_chk h
    obtain ⟨μ25, eμ25⟩ : ∃ y : sh_Mem, y = (sh_setI μ23 64 ((x17 + 3)).toNatClampNeg a4) := ⟨_, rfl⟩
    rw [sh_let_eq eμ25] at h
    have hG25 : sh_G μ25 := by rw [eμ25]; exact hG23
    have hF25 : sh_offM μ μ25 := by rw [eμ25]; exact sh_offM_I hF23 (by decide)
    obtain ⟨μ26, eμ26⟩ : ∃ y : sh_Mem, y = (sh_setI μ25 63 1 ((sh_i μ25 63 1) + 1)) := ⟨_, rfl⟩
    rw [sh_let_eq eμ26] at h
    have hG26 : sh_G μ26 := by rw [eμ26]; exact hG25
    have hF26 : sh_offM μ μ26 := by rw [eμ26]; exact sh_offM_I hF25 (by decide)
    have e2 := Option.some.inj h
    exact e2 ▸ hF26
theorem fp_X4_remember {q1 : Nat} {μ μ' : sh_Mem} (hG : sh_G μ) (hq1 : sh_isL q1) (h : f_X4_remember q1 μ = some μ') : sh_offM μ μ' := by
  have hF : sh_offM μ μ := sh_offM.rf
  unfold f_X4_remember at h
  obtain ⟨x1, ex1⟩ : ∃ y : Int32, y = (((sh_i μ 63 3) + (sh_i μ 63 2)) - ((sh_i μ 63 3) + (sh_i μ 63 2)) / 20 * 20) := ⟨_, rfl⟩
  rw [sh_let_eq ex1] at h
  obtain ⟨k2, h⟩ := sh_chk h
  obtain ⟨μ3, hr4, h⟩ := sh_bindv_e h
  have hG3 := gp_X3_copyFrom hG (gRL_65 k2) hq1 hr4
  have hF3 := hF.trans (fp_X3_copyFrom hG (gRL_65 k2) hq1 hr4)
  obtain ⟨k6, h⟩ := sh_chk h
  obtain ⟨k7, h⟩ := sh_chk h
  obtain ⟨k8, h⟩ := sh_chk h
  obtain ⟨k9, h⟩ := sh_chk h
  obtain ⟨μ10, eμ10⟩ : ∃ y : sh_Mem, y = (sh_rowI μ3 (67 + x1.toNatClampNeg) (va_cpy (sh_i μ3 64) (sh_i μ3 (67 + x1.toNatClampNeg)) (Int32.toNatClampNeg 0) (Int32.toNatClampNeg 0) ((Int32.ofNat 160)).toNatClampNeg)) := ⟨_, rfl⟩
  rw [sh_let_eq eμ10] at h
  have hG10 : sh_G μ10 := by rw [eμ10]; exact hG3
  have hF10 : sh_offM μ μ10 := by rw [eμ10]; exact sh_offM_row hF3 (sh_ltR66 k6)
  obtain ⟨k11, h⟩ := sh_chk h
  obtain ⟨μ12, eμ12⟩ : ∃ y : sh_Mem, y = (sh_setI μ10 87 x1.toNatClampNeg (sh_i μ10 63 1)) := ⟨_, rfl⟩
  rw [sh_let_eq eμ12] at h
  have hG12 : sh_G μ12 := by rw [eμ12]; exact hG10
  have hF12 : sh_offM μ μ12 := by rw [eμ12]; exact sh_offM_I hF10 (by decide)
  by_cases c13 : 20 ≤ (sh_i μ12 63 2)
  · rw [if_pos c13] at h
    obtain ⟨μ14, eμ14⟩ : ∃ y : sh_Mem, y = (sh_setI μ12 63 3 (((sh_i μ12 63 3) + 1) - ((sh_i μ12 63 3) + 1) / 20 * 20)) := ⟨_, rfl⟩
    rw [sh_let_eq eμ14] at h
    have hG14 : sh_G μ14 := by rw [eμ14]; exact hG12
    have hF14 : sh_offM μ μ14 := by rw [eμ14]; exact sh_offM_I hF12 (by decide)
    have e2 := Option.some.inj h
    exact e2 ▸ hF14
  · rw [if_neg c13] at h
    obtain ⟨μ15, eμ15⟩ : ∃ y : sh_Mem, y = (sh_setI μ12 63 2 ((sh_i μ12 63 2) + 1)) := ⟨_, rfl⟩
    rw [sh_let_eq eμ15] at h
    have hG15 : sh_G μ15 := by rw [eμ15]; exact hG12
    have hF15 : sh_offM μ μ15 := by rw [eμ15]; exact sh_offM_I hF12 (by decide)
    have e2 := Option.some.inj h
    exact e2 ▸ hF15
theorem fp_X4_goBack {q1 : Nat} {μ μ' : sh_Mem} {v : Int32} (hG : sh_G μ) (hq1 : sh_isL q1) (h : f_X4_goBack q1 μ = some (v, μ')) : sh_offM μ μ' := by
  have hF : sh_offM μ μ := sh_offM.rf
  unfold f_X4_goBack at h
  by_cases c1 : (sh_i μ 63 2) = 0
  · rw [if_pos c1] at h
    obtain ⟨e1, e2⟩ := sh_some2 h
    exact e2 ▸ hF
  · rw [if_neg c1] at h
    obtain ⟨μ2, eμ2⟩ : ∃ y : sh_Mem, y = (sh_setI μ 63 2 ((sh_i μ 63 2) - 1)) := ⟨_, rfl⟩
    rw [sh_let_eq eμ2] at h
    have hG2 : sh_G μ2 := by rw [eμ2]; exact hG
    have hF2 : sh_offM μ μ2 := by rw [eμ2]; exact sh_offM_I hF (by decide)
    obtain ⟨x3, ex3⟩ : ∃ y : Int32, y = (((sh_i μ2 63 3) + (sh_i μ2 63 2)) - ((sh_i μ2 63 3) + (sh_i μ2 63 2)) / 20 * 20) := ⟨_, rfl⟩
    rw [sh_let_eq ex3] at h
    obtain ⟨k4, h⟩ := sh_chk h
    obtain ⟨μ5, hr6, h⟩ := sh_bindv_e h
    have hG5 := gp_X3_copyFrom hG2 hq1 (gRL_65 k4) hr6
    have hF5 := hF2.trans (fp_X3_copyFrom hG2 hq1 (gRL_65 k4) hr6)
    obtain ⟨k8, h⟩ := sh_chk h
    obtain ⟨k9, h⟩ := sh_chk h
    obtain ⟨k10, h⟩ := sh_chk h
    obtain ⟨k11, h⟩ := sh_chk h
    obtain ⟨μ12, eμ12⟩ : ∃ y : sh_Mem, y = (sh_rowI μ5 64 (va_cpy (sh_i μ5 (67 + x3.toNatClampNeg)) (sh_i μ5 64) (Int32.toNatClampNeg 0) (Int32.toNatClampNeg 0) ((Int32.ofNat 160)).toNatClampNeg)) := ⟨_, rfl⟩
    rw [sh_let_eq eμ12] at h
    have hG12 : sh_G μ12 := by rw [eμ12]; exact hG5
    have hF12 : sh_offM μ μ12 := by rw [eμ12]; exact sh_offM_row hF5 (by decide)
    obtain ⟨k13, h⟩ := sh_chk h
    obtain ⟨μ14, eμ14⟩ : ∃ y : sh_Mem, y = (sh_setI μ12 63 1 (sh_i μ12 87 x3.toNatClampNeg)) := ⟨_, rfl⟩
    rw [sh_let_eq eμ14] at h
    have hG14 : sh_G μ14 := by rw [eμ14]; exact hG12
    have hF14 : sh_offM μ μ14 := by rw [eμ14]; exact sh_offM_I hF12 (by decide)
    obtain ⟨e1, e2⟩ := sh_some2 h
    exact e2 ▸ hF14
theorem fp_X5_cellOf {p : Nat} {a1 : Int32} {μ μ' : sh_Mem} {v : Int32} (hG : sh_G μ) (hp : sh_isP p) (h : f_X5_cellOf p a1 μ = some (v, μ')) : sh_offM μ μ' := by
  have hF : sh_offM μ μ := sh_offM.rf
  unfold f_X5_cellOf at h
  by_cases c1 : 0 ≤ a1
  · rw [if_pos c1] at h
    obtain ⟨e1, e2⟩ := sh_some2 h
    exact e2 ▸ hF
  · rw [if_neg c1] at h
    obtain ⟨e1, e2⟩ := sh_some2 h
    exact e2 ▸ hF
theorem fp_X5_numberOf {p : Nat} {a1 : Int32} {μ μ' : sh_Mem} {v : Int32} (hG : sh_G μ) (hp : sh_isP p) (h : f_X5_numberOf p a1 μ = some (v, μ')) : sh_offM μ μ' := by
  have hF : sh_offM μ μ := sh_offM.rf
  unfold f_X5_numberOf at h
  by_cases c1 : a1 < 0
  · rw [if_pos c1] at h
    obtain ⟨e1, e2⟩ := sh_some2 h
    exact e2 ▸ hF
  · rw [if_neg c1] at h
    by_cases c2 : 1 ≤ (sh_i μ p 0)
    · rw [if_pos c2] at h
      obtain ⟨k3, h⟩ := sh_chk h
      obtain ⟨k4, h⟩ := sh_chk h
      obtain ⟨e1, e2⟩ := sh_some2 h
      exact e2 ▸ hF
    · rw [if_neg c2] at h
      obtain ⟨e1, e2⟩ := sh_some2 h
      exact e2 ▸ hF
theorem fp_X5_nextTo {p : Nat} {a1 : Int32} {a2 : Int32} {μ μ' : sh_Mem} {v : Int32} (hG : sh_G μ) (hp : sh_isP p) (h : f_X5_nextTo p a1 a2 μ = some (v, μ')) : sh_offM μ μ' := by
  have hF : sh_offM μ μ := sh_offM.rf
  unfold f_X5_nextTo at h
  by_cases c1 : 1 ≤ (sh_i μ p 0)
  · rw [if_pos c1] at h
    obtain ⟨k2, h⟩ := sh_chk h
    obtain ⟨x3, ex3⟩ : ∃ y : Int32, y = (a1 - a1 / (sh_i μ p 0) * (sh_i μ p 0)) := ⟨_, rfl⟩
    rw [sh_let_eq ex3] at h
    by_cases c4 : a2 = 0
    · rw [if_pos c4] at h
      by_cases c5 : a1 < (sh_i μ p 0)
      · rw [if_pos c5] at h
        obtain ⟨e1, e2⟩ := sh_some2 h
        exact e2 ▸ hF
      · rw [if_neg c5] at h
        obtain ⟨e1, e2⟩ := sh_some2 h
        exact e2 ▸ hF
    rw [if_neg c4] at h
    by_cases c6 : a2 = 1
    · rw [if_pos c6] at h
      by_cases c7 : x3 ≤ 0
      · rw [if_pos c7] at h
        obtain ⟨e1, e2⟩ := sh_some2 h
        exact e2 ▸ hF
      · rw [if_neg c7] at h
        obtain ⟨e1, e2⟩ := sh_some2 h
        exact e2 ▸ hF
    rw [if_neg c6] at h
    by_cases c8 : a2 = 2
    · rw [if_pos c8] at h
      by_cases c9 : (sh_i μ p 0) ≤ (x3 + 1)
      · rw [if_pos c9] at h
        obtain ⟨e1, e2⟩ := sh_some2 h
        exact e2 ▸ hF
      · rw [if_neg c9] at h
        obtain ⟨e1, e2⟩ := sh_some2 h
        exact e2 ▸ hF
    rw [if_neg c8] at h
    by_cases c10 : (f_X5_cells μ p) ≤ (a1 + (sh_i μ p 0))
    · rw [if_pos c10] at h
      obtain ⟨e1, e2⟩ := sh_some2 h
      exact e2 ▸ hF
    · rw [if_neg c10] at h
      obtain ⟨e1, e2⟩ := sh_some2 h
      exact e2 ▸ hF
  · rw [if_neg c1] at h
    by_cases c11 : a2 = 0
    · rw [if_pos c11] at h
      by_cases c12 : a1 < (sh_i μ p 0)
      · rw [if_pos c12] at h
        obtain ⟨e1, e2⟩ := sh_some2 h
        exact e2 ▸ hF
      · rw [if_neg c12] at h
        obtain ⟨e1, e2⟩ := sh_some2 h
        exact e2 ▸ hF
    rw [if_neg c11] at h
    by_cases c13 : a2 = 1
    · rw [if_pos c13] at h
      obtain ⟨e1, e2⟩ := sh_some2 h
      exact e2 ▸ hF
    rw [if_neg c13] at h
    by_cases c14 : a2 = 2
    · rw [if_pos c14] at h
      by_cases c15 : (sh_i μ p 0) ≤ ((0 : Int32) + 1)
      · rw [if_pos c15] at h
        obtain ⟨e1, e2⟩ := sh_some2 h
        exact e2 ▸ hF
      · rw [if_neg c15] at h
        obtain ⟨e1, e2⟩ := sh_some2 h
        exact e2 ▸ hF
    rw [if_neg c14] at h
    by_cases c16 : (f_X5_cells μ p) ≤ (a1 + (sh_i μ p 0))
    · rw [if_pos c16] at h
      obtain ⟨e1, e2⟩ := sh_some2 h
      exact e2 ▸ hF
    · rw [if_neg c16] at h
      obtain ⟨e1, e2⟩ := sh_some2 h
      exact e2 ▸ hF
theorem fp_X5_rowOf {p : Nat} {a1 : Int32} {μ μ' : sh_Mem} {v : Int32} (hG : sh_G μ) (hp : sh_isP p) (h : f_X5_rowOf p a1 μ = some (v, μ')) : sh_offM μ μ' := by
  have hF : sh_offM μ μ := sh_offM.rf
  unfold f_X5_rowOf at h
  by_cases c1 : 1 ≤ (sh_i μ p 4)
  · rw [if_pos c1] at h
    obtain ⟨k2, h⟩ := sh_chk h
    obtain ⟨e1, e2⟩ := sh_some2 h
    exact e2 ▸ hF
  · rw [if_neg c1] at h
    obtain ⟨e1, e2⟩ := sh_some2 h
    exact e2 ▸ hF
theorem fpl_X5_placeOf (fuel : Nat) : (∀ ⦃n : Nat⦄ ⦃i0 : Int32⦄ ⦃r1 : Nat⦄ ⦃i2 : Int32⦄ ⦃i3 : Int32⦄ ⦃μ μ' : sh_Mem⦄ ⦃v : Int32⦄, sh_G μ → sh_LAY[r1]? = some (13, n) → r1 < 291 → F_X5_placeOf fuel 1 n i0 r1 i2 i3 μ = some (v, μ') → sh_offM μ μ') := by
  induction fuel with
  | zero => intro n i0 r1 i2 i3 μ μ' v hG hr1 hr1l h; cases h
  | succ fuel ih =>
    have ih_2 := ih
    intro n i0 r1 i2 i3 μ μ' v hG hr1 hr1l h
    replace h : ((if i2 ≤ i3 then some ((-1), μ) else (if (Int32.ofNat n) ≤ i3 then some ((-1), μ) else (if sh_in i3 n then (if (sh_i μ r1 i3.toNatClampNeg) = i0 then some (i3, μ) else F_X5_placeOf fuel 1 n i0 r1 i2 (i3 + 1) μ) else none))) : Option (Int32 × sh_Mem)) = some (v, μ') := h
    have hF : sh_offM μ μ := sh_offM.rf
    by_cases c5 : i2 ≤ i3
    · rw [if_pos c5] at h
      obtain ⟨e1, e2⟩ := sh_some2 h
      exact e2 ▸ hF
    · rw [if_neg c5] at h
      by_cases c6 : (Int32.ofNat n) ≤ i3
      · rw [if_pos c6] at h
        obtain ⟨e1, e2⟩ := sh_some2 h
        exact e2 ▸ hF
      · rw [if_neg c6] at h
        obtain ⟨k7, h⟩ := sh_chk h
        by_cases c8 : (sh_i μ r1 i3.toNatClampNeg) = i0
        · rw [if_pos c8] at h
          obtain ⟨e1, e2⟩ := sh_some2 h
          exact e2 ▸ hF
        · rw [if_neg c8] at h
          exact hF.trans (ih_2 hG hr1 hr1l h)
theorem fp_X5_placeOf {a1 : Int32} {g : Nat} {n : Nat} {a3 : Int32} {μ μ' : sh_Mem} {v : Int32} (hG : sh_G μ) (hg : sh_LAY[g]? = some (13, n)) (hgl : g < 291) (h : f_X5_placeOf a1 g n a3 μ = some (v, μ')) : sh_offM μ μ' := by
  have ih_2 := (fpl_X5_placeOf sh_fuel)
  have hF : sh_offM μ μ := sh_offM.rf
  unfold f_X5_placeOf at h
  exact hF.trans (ih_2 hG hg hgl h)
theorem fp_X5_topicCounts {p : Nat} {μ μ' : sh_Mem} {v : Int32} (hG : sh_G μ) (hp : sh_isP p) (h : f_X5_topicCounts p μ = some (v, μ')) : sh_offM μ μ' := by
  have hF : sh_offM μ μ := sh_offM.rf
  unfold f_X5_topicCounts at h
  obtain ⟨y3, μ1, hr2, h⟩ := sh_bind_e h
  have hG1 := gp_X1_names hG (gP_f10 hp) hr2
  have hF1 := hF.trans (fp_X1_names hG (gP_f10 hp) hr2)
  by_cases c4 : y3 = 0
  · rw [if_pos c4] at h
    obtain ⟨y7, μ5, hr6, h⟩ := sh_bind_e h
    have hG5 := gp_X1_names hG1 (gP_f11 hp) hr6
    have hF5 := hF1.trans (fp_X1_names hG1 (gP_f11 hp) hr6)
    by_cases c8 : y7 = 0
    · rw [if_pos c8] at h
      obtain ⟨y11, μ9, hr10, h⟩ := sh_bind_e h
      have hG9 := gp_X1_names hG5 (gP_f12 hp) hr10
      have hF9 := hF5.trans (fp_X1_names hG5 (gP_f12 hp) hr10)
      by_cases c12 : y11 = 0
      · rw [if_pos c12] at h
        obtain ⟨e1, e2⟩ := sh_some2 h
        exact e2 ▸ hF9
      · rw [if_neg c12] at h
        obtain ⟨e1, e2⟩ := sh_some2 h
        exact e2 ▸ hF9
    · rw [if_neg c8] at h
      obtain ⟨e1, e2⟩ := sh_some2 h
      exact e2 ▸ hF5
  · rw [if_neg c4] at h
    obtain ⟨e1, e2⟩ := sh_some2 h
    exact e2 ▸ hF1
theorem fp_X6_isOneTooMany {a1 : Int32} {μ μ' : sh_Mem} {v : Int32} (hG : sh_G μ) (h : f_X6_isOneTooMany a1 μ = some (v, μ')) : sh_offM μ μ' := by
  have hF : sh_offM μ μ := sh_offM.rf
  unfold f_X6_isOneTooMany at h
  by_cases c1 : a1 = 3
  · rw [if_pos c1] at h
    obtain ⟨k2, h⟩ := sh_chk h
    obtain ⟨r3, er3⟩ : ∃ y : Nat, y = (sh_ref μ 7 2) := ⟨_, rfl⟩
    rw [sh_let_eq er3] at h
    have k2r : sh_r μ 7 2 = some r3 ∧ (r3 = 8 ∨ r3 = 29) := by rw [er3]; exact k2
    by_cases c4 : (sh_i μ r3 2) < 5
    · rw [if_pos c4] at h
      obtain ⟨e1, e2⟩ := sh_some2 h
      exact e2 ▸ hF
    · rw [if_neg c4] at h
      obtain ⟨e1, e2⟩ := sh_some2 h
      exact e2 ▸ hF
  rw [if_neg c1] at h
  by_cases c5 : a1 = 4
  · rw [if_pos c5] at h
    obtain ⟨k6, h⟩ := sh_chk h
    obtain ⟨r7, er7⟩ : ∃ y : Nat, y = (sh_ref μ 7 2) := ⟨_, rfl⟩
    rw [sh_let_eq er7] at h
    have k6r : sh_r μ 7 2 = some r7 ∧ (r7 = 8 ∨ r7 = 29) := by rw [er7]; exact k6
    by_cases c8 : (sh_i μ r7 3) < 7
    · rw [if_pos c8] at h
      obtain ⟨e1, e2⟩ := sh_some2 h
      exact e2 ▸ hF
    · rw [if_neg c8] at h
      obtain ⟨e1, e2⟩ := sh_some2 h
      exact e2 ▸ hF
  rw [if_neg c5] at h
  by_cases c9 : a1 = 5
  · rw [if_pos c9] at h
    obtain ⟨e1, e2⟩ := sh_some2 h
    exact e2 ▸ hF
  rw [if_neg c9] at h
  by_cases c10 : a1 = 6
  · rw [if_pos c10] at h
    obtain ⟨e1, e2⟩ := sh_some2 h
    exact e2 ▸ hF
  rw [if_neg c10] at h
  by_cases c11 : a1 = 7
  · rw [if_pos c11] at h
    obtain ⟨e1, e2⟩ := sh_some2 h
    exact e2 ▸ hF
  rw [if_neg c11] at h
  by_cases c12 : a1 = 8
  · rw [if_pos c12] at h
    obtain ⟨e1, e2⟩ := sh_some2 h
    exact e2 ▸ hF
  rw [if_neg c12] at h
  by_cases c13 : a1 = 9
  · rw [if_pos c13] at h
    obtain ⟨k14, h⟩ := sh_chk h
    obtain ⟨r15, er15⟩ : ∃ y : Nat, y = (sh_ref μ 7 2) := ⟨_, rfl⟩
    rw [sh_let_eq er15] at h
    have k14r : sh_r μ 7 2 = some r15 ∧ (r15 = 8 ∨ r15 = 29) := by rw [er15]; exact k14
    by_cases c16 : (sh_i μ r15 4) < 12
    · rw [if_pos c16] at h
      obtain ⟨e1, e2⟩ := sh_some2 h
      exact e2 ▸ hF
    · rw [if_neg c16] at h
      obtain ⟨e1, e2⟩ := sh_some2 h
      exact e2 ▸ hF
  rw [if_neg c13] at h
  by_cases c17 : a1 = 10
  · rw [if_pos c17] at h
    obtain ⟨k18, h⟩ := sh_chk h
    obtain ⟨r19, er19⟩ : ∃ y : Nat, y = (sh_ref μ 7 2) := ⟨_, rfl⟩
    rw [sh_let_eq er19] at h
    have k18r : sh_r μ 7 2 = some r19 ∧ (r19 = 8 ∨ r19 = 29) := by rw [er19]; exact k18
    obtain ⟨k20, h⟩ := sh_chk h
    obtain ⟨e1, e2⟩ := sh_some2 h
    exact e2 ▸ hF
  rw [if_neg c17] at h
  by_cases c21 : a1 = 11
  · rw [if_pos c21] at h
    obtain ⟨k22, h⟩ := sh_chk h
    obtain ⟨r23, er23⟩ : ∃ y : Nat, y = (sh_ref μ 7 2) := ⟨_, rfl⟩
    rw [sh_let_eq er23] at h
    have k22r : sh_r μ 7 2 = some r23 ∧ (r23 = 8 ∨ r23 = 29) := by rw [er23]; exact k22
    obtain ⟨k24, h⟩ := sh_chk h
    obtain ⟨e1, e2⟩ := sh_some2 h
    exact e2 ▸ hF
  rw [if_neg c21] at h
  by_cases c25 : a1 = 12
  · rw [if_pos c25] at h
    obtain ⟨k26, h⟩ := sh_chk h
    obtain ⟨r27, er27⟩ : ∃ y : Nat, y = (sh_ref μ 7 2) := ⟨_, rfl⟩
    rw [sh_let_eq er27] at h
    have k26r : sh_r μ 7 2 = some r27 ∧ (r27 = 8 ∨ r27 = 29) := by rw [er27]; exact k26
    obtain ⟨k28, h⟩ := sh_chk h
    obtain ⟨e1, e2⟩ := sh_some2 h
    exact e2 ▸ hF
  rw [if_neg c25] at h
  obtain ⟨e1, e2⟩ := sh_some2 h
  exact e2 ▸ hF
theorem fp_X7_mayRise {q1 : Nat} {a2 : Int32} {a3 : Int32} {a4 : Int32} {a5 : Int32} {μ μ' : sh_Mem} {v : Int32} (hG : sh_G μ) (hq1 : sh_isL q1) (h : f_X7_mayRise q1 a2 a3 a4 a5 μ = some (v, μ')) : sh_offM μ μ' := by
  have hF : sh_offM μ μ := sh_offM.rf
  unfold f_X7_mayRise at h
  obtain ⟨k1, h⟩ := sh_chk h
  obtain ⟨x2, ex2⟩ : ∃ y : Int32, y = (sh_i μ (q1 + 2) a4.toNatClampNeg) := ⟨_, rfl⟩
  rw [sh_let_eq ex2] at h
  obtain ⟨k3, h⟩ := sh_chk h
  obtain ⟨x4, ex4⟩ : ∃ y : Int32, y = (sh_i μ (q1 + 3) a4.toNatClampNeg) := ⟨_, rfl⟩
  rw [sh_let_eq ex4] at h
  obtain ⟨k5, h⟩ := sh_chk h
  obtain ⟨r6, er6⟩ : ∃ y : Nat, y = (sh_ref μ 55 0) := ⟨_, rfl⟩
  rw [sh_let_eq er6] at h
  have k5r : sh_r μ 55 0 = some r6 ∧ (r6 = 8 ∨ r6 = 29) := by rw [er6]; exact k5
  by_cases c7 : (f_X5_cellAt μ r6 (x2 - 1) x4) = a2
  · rw [if_pos c7] at h
    obtain ⟨k8, h⟩ := sh_chk h
    by_cases c9 : ((sh_i μ (q1 + 1) a2.toNatClampNeg) + (9 * (a5 + 1))) < a3
    · rw [if_pos c9] at h
      obtain ⟨e1, e2⟩ := sh_some2 h
      exact e2 ▸ hF
    · rw [if_neg c9] at h
      obtain ⟨e1, e2⟩ := sh_some2 h
      exact e2 ▸ hF
  · rw [if_neg c7] at h
    obtain ⟨k10, h⟩ := sh_chk h
    obtain ⟨r11, er11⟩ : ∃ y : Nat, y = (sh_ref μ 55 0) := ⟨_, rfl⟩
    rw [sh_let_eq er11] at h
    have k10r : sh_r μ 55 0 = some r11 ∧ (r11 = 8 ∨ r11 = 29) := by rw [er11]; exact k10
    by_cases c12 : (f_X5_cellAt μ r11 (x2 + 1) x4) = a2
    · rw [if_pos c12] at h
      obtain ⟨k15, h⟩ := sh_chk h
      by_cases c16 : ((sh_i μ (q1 + 1) a2.toNatClampNeg) + (9 * (a5 + 1))) < a3
      · rw [if_pos c16] at h
        obtain ⟨e1, e2⟩ := sh_some2 h
        exact e2 ▸ hF
      · rw [if_neg c16] at h
        obtain ⟨e1, e2⟩ := sh_some2 h
        exact e2 ▸ hF
    · rw [if_neg c12] at h
      obtain ⟨k13, h⟩ := sh_chk h
      by_cases c14 : ((sh_i μ (q1 + 1) a2.toNatClampNeg) + (9 * a5)) < a3
      · rw [if_pos c14] at h
        obtain ⟨e1, e2⟩ := sh_some2 h
        exact e2 ▸ hF
      · rw [if_neg c14] at h
        obtain ⟨e1, e2⟩ := sh_some2 h
        exact e2 ▸ hF
theorem fpl_X8_takeLetters (fuel : Nat) : (∀ ⦃μ μ' : sh_Mem⦄, sh_G μ → F_X8_takeLetters fuel 1 μ = some μ' → sh_offM μ μ') := by
  induction fuel with
  | zero => intro μ μ' hG h; cases h
  | succ fuel ih =>
    have ih_5 := ih
    intro μ μ' hG h
    replace h : ((if (sh_i μ 2 1) ≤ (sh_i μ 2 2) then sh_let (sh_setI μ 2 5 ((sh_i μ 2 2) - (sh_i μ 2 4))) (fun μ19 => sh_let (sh_setI μ19 2 3 (-2)) (fun μ20 => some μ20)) else (if sh_in (sh_i μ 2 2) 1600 then (if (sh_i μ 1 ((sh_i μ 2 2)).toNatClampNeg) < 97 then sh_let (sh_setI μ 2 5 ((sh_i μ 2 2) - (sh_i μ 2 4))) (fun μ23 => sh_let (sh_setI μ23 2 3 (-2)) (fun μ24 => some μ24)) else (if sh_in (sh_i μ 2 2) 1600 then (if 122 < (sh_i μ 1 ((sh_i μ 2 2)).toNatClampNeg) then sh_let (sh_setI μ 2 5 ((sh_i μ 2 2) - (sh_i μ 2 4))) (fun μ27 => sh_let (sh_setI μ27 2 3 (-2)) (fun μ28 => some μ28)) else (if 6 ≤ ((sh_i μ 2 2) - (sh_i μ 2 4)) then sh_let (sh_setI μ 2 2 ((sh_i μ 2 2) + 1)) (fun μ30 => F_X8_takeLetters fuel 1  μ30) else (if sh_in (sh_i μ 2 2) 1600 then sh_let (sh_setI μ 2 7 ((sh_i μ 2 7) ||| ((((sh_i μ 1 ((sh_i μ 2 2)).toNatClampNeg) - 97) + 1) <<< ((5 * ((sh_i μ 2 2) - (sh_i μ 2 4))) &&& 31)))) (fun μ32 => sh_let (sh_setI μ32 2 2 ((sh_i μ32 2 2) + 1)) (fun μ33 => F_X8_takeLetters fuel 1  μ33)) else none))) else none)) else none)) : Option sh_Mem) = some μ' := h
    have hF : sh_offM μ μ := sh_offM.rf
    by_cases c18 : (sh_i μ 2 1) ≤ (sh_i μ 2 2)
    · rw [if_pos c18] at h
      obtain ⟨μ19, eμ19⟩ : ∃ y : sh_Mem, y = (sh_setI μ 2 5 ((sh_i μ 2 2) - (sh_i μ 2 4))) := ⟨_, rfl⟩
      rw [sh_let_eq eμ19] at h
      have hG19 : sh_G μ19 := by rw [eμ19]; exact hG
      have hF19 : sh_offM μ μ19 := by rw [eμ19]; exact sh_offM_I hF (by decide)
      obtain ⟨μ20, eμ20⟩ : ∃ y : sh_Mem, y = (sh_setI μ19 2 3 (-2)) := ⟨_, rfl⟩
      rw [sh_let_eq eμ20] at h
      have hG20 : sh_G μ20 := by rw [eμ20]; exact hG19
      have hF20 : sh_offM μ μ20 := by rw [eμ20]; exact sh_offM_I hF19 (by decide)
      have e2 := Option.some.inj h
      exact e2 ▸ hF20
    · rw [if_neg c18] at h
      obtain ⟨k21, h⟩ := sh_chk h
      by_cases c22 : (sh_i μ 1 ((sh_i μ 2 2)).toNatClampNeg) < 97
      · rw [if_pos c22] at h
        obtain ⟨μ23, eμ23⟩ : ∃ y : sh_Mem, y = (sh_setI μ 2 5 ((sh_i μ 2 2) - (sh_i μ 2 4))) := ⟨_, rfl⟩
        rw [sh_let_eq eμ23] at h
        have hG23 : sh_G μ23 := by rw [eμ23]; exact hG
        have hF23 : sh_offM μ μ23 := by rw [eμ23]; exact sh_offM_I hF (by decide)
        obtain ⟨μ24, eμ24⟩ : ∃ y : sh_Mem, y = (sh_setI μ23 2 3 (-2)) := ⟨_, rfl⟩
        rw [sh_let_eq eμ24] at h
        have hG24 : sh_G μ24 := by rw [eμ24]; exact hG23
        have hF24 : sh_offM μ μ24 := by rw [eμ24]; exact sh_offM_I hF23 (by decide)
        have e2 := Option.some.inj h
        exact e2 ▸ hF24
      · rw [if_neg c22] at h
        obtain ⟨k25, h⟩ := sh_chk h
        by_cases c26 : 122 < (sh_i μ 1 ((sh_i μ 2 2)).toNatClampNeg)
        · rw [if_pos c26] at h
          obtain ⟨μ27, eμ27⟩ : ∃ y : sh_Mem, y = (sh_setI μ 2 5 ((sh_i μ 2 2) - (sh_i μ 2 4))) := ⟨_, rfl⟩
          rw [sh_let_eq eμ27] at h
          have hG27 : sh_G μ27 := by rw [eμ27]; exact hG
          have hF27 : sh_offM μ μ27 := by rw [eμ27]; exact sh_offM_I hF (by decide)
          obtain ⟨μ28, eμ28⟩ : ∃ y : sh_Mem, y = (sh_setI μ27 2 3 (-2)) := ⟨_, rfl⟩
          rw [sh_let_eq eμ28] at h
          have hG28 : sh_G μ28 := by rw [eμ28]; exact hG27
          have hF28 : sh_offM μ μ28 := by rw [eμ28]; exact sh_offM_I hF27 (by decide)
          have e2 := Option.some.inj h
          exact e2 ▸ hF28
        · rw [if_neg c26] at h
          by_cases c29 : 6 ≤ ((sh_i μ 2 2) - (sh_i μ 2 4))
          · rw [if_pos c29] at h
            obtain ⟨μ30, eμ30⟩ : ∃ y : sh_Mem, y = (sh_setI μ 2 2 ((sh_i μ 2 2) + 1)) := ⟨_, rfl⟩
            rw [sh_let_eq eμ30] at h
            have hG30 : sh_G μ30 := by rw [eμ30]; exact hG
            have hF30 : sh_offM μ μ30 := by rw [eμ30]; exact sh_offM_I hF (by decide)
            exact hF30.trans (ih_5 hG30 h)
          · rw [if_neg c29] at h
            obtain ⟨k31, h⟩ := sh_chk h
            obtain ⟨μ32, eμ32⟩ : ∃ y : sh_Mem, y = (sh_setI μ 2 7 ((sh_i μ 2 7) ||| ((((sh_i μ 1 ((sh_i μ 2 2)).toNatClampNeg) - 97) + 1) <<< ((5 * ((sh_i μ 2 2) - (sh_i μ 2 4))) &&& 31)))) := ⟨_, rfl⟩
            rw [sh_let_eq eμ32] at h
            have hG32 : sh_G μ32 := by rw [eμ32]; exact hG
            have hF32 : sh_offM μ μ32 := by rw [eμ32]; exact sh_offM_I hF (by decide)
            obtain ⟨μ33, eμ33⟩ : ∃ y : sh_Mem, y = (sh_setI μ32 2 2 ((sh_i μ32 2 2) + 1)) := ⟨_, rfl⟩
            rw [sh_let_eq eμ33] at h
            have hG33 : sh_G μ33 := by rw [eμ33]; exact hG32
            have hF33 : sh_offM μ μ33 := by rw [eμ33]; exact sh_offM_I hF32 (by decide)
            exact hF33.trans (ih_5 hG33 h)
theorem fp_X8_takeLetters {μ μ' : sh_Mem} (hG : sh_G μ) (h : f_X8_takeLetters μ = some μ') : sh_offM μ μ' := by
  have ih_5 := (fpl_X8_takeLetters sh_fuel)
  have hF : sh_offM μ μ := sh_offM.rf
  unfold f_X8_takeLetters at h
  obtain ⟨μ34, eμ34⟩ : ∃ y : sh_Mem, y = (sh_setI μ 2 7 0) := ⟨_, rfl⟩
  rw [sh_let_eq eμ34] at h
  have hG34 : sh_G μ34 := by rw [eμ34]; exact hG
  have hF34 : sh_offM μ μ34 := by rw [eμ34]; exact sh_offM_I hF (by decide)
  exact hF34.trans (ih_5 hG34 h)
theorem fpl_X8_takeDigits (fuel : Nat) : (∀ ⦃μ μ' : sh_Mem⦄, sh_G μ → F_X8_takeDigits fuel 1 μ = some μ' → sh_offM μ μ') := by
  induction fuel with
  | zero => intro μ μ' hG h; cases h
  | succ fuel ih =>
    have ih_5 := ih
    intro μ μ' hG h
    replace h : ((if (sh_i μ 2 1) ≤ (sh_i μ 2 2) then sh_let (sh_setI μ 2 5 ((sh_i μ 2 2) - (sh_i μ 2 4))) (fun μ19 => sh_let (sh_setI μ19 2 3 (-3)) (fun μ20 => some μ20)) else (if sh_in (sh_i μ 2 2) 1600 then (if (sh_i μ 1 ((sh_i μ 2 2)).toNatClampNeg) < 48 then sh_let (sh_setI μ 2 5 ((sh_i μ 2 2) - (sh_i μ 2 4))) (fun μ23 => sh_let (sh_setI μ23 2 3 (-3)) (fun μ24 => some μ24)) else (if sh_in (sh_i μ 2 2) 1600 then (if 57 < (sh_i μ 1 ((sh_i μ 2 2)).toNatClampNeg) then sh_let (sh_setI μ 2 5 ((sh_i μ 2 2) - (sh_i μ 2 4))) (fun μ27 => sh_let (sh_setI μ27 2 3 (-3)) (fun μ28 => some μ28)) else (if 4 ≤ ((sh_i μ 2 2) - (sh_i μ 2 4)) then sh_let (sh_setI μ 2 2 ((sh_i μ 2 2) + 1)) (fun μ30 => F_X8_takeDigits fuel 1  μ30) else (if sh_in (sh_i μ 2 2) 1600 then sh_let (sh_setI μ 2 8 ((((sh_i μ 2 8) * 10) + (sh_i μ 1 ((sh_i μ 2 2)).toNatClampNeg)) - 48)) (fun μ32 => sh_let (sh_setI μ32 2 2 ((sh_i μ32 2 2) + 1)) (fun μ33 => F_X8_takeDigits fuel 1  μ33)) else none))) else none)) else none)) : Option sh_Mem) = some μ' := h
    have hF : sh_offM μ μ := sh_offM.rf
    by_cases c18 : (sh_i μ 2 1) ≤ (sh_i μ 2 2)
    · rw [if_pos c18] at h
      obtain ⟨μ19, eμ19⟩ : ∃ y : sh_Mem, y = (sh_setI μ 2 5 ((sh_i μ 2 2) - (sh_i μ 2 4))) := ⟨_, rfl⟩
      rw [sh_let_eq eμ19] at h
      have hG19 : sh_G μ19 := by rw [eμ19]; exact hG
      have hF19 : sh_offM μ μ19 := by rw [eμ19]; exact sh_offM_I hF (by decide)
      obtain ⟨μ20, eμ20⟩ : ∃ y : sh_Mem, y = (sh_setI μ19 2 3 (-3)) := ⟨_, rfl⟩
      rw [sh_let_eq eμ20] at h
      have hG20 : sh_G μ20 := by rw [eμ20]; exact hG19
      have hF20 : sh_offM μ μ20 := by rw [eμ20]; exact sh_offM_I hF19 (by decide)
      have e2 := Option.some.inj h
      exact e2 ▸ hF20
    · rw [if_neg c18] at h
      obtain ⟨k21, h⟩ := sh_chk h
      by_cases c22 : (sh_i μ 1 ((sh_i μ 2 2)).toNatClampNeg) < 48
      · rw [if_pos c22] at h
        obtain ⟨μ23, eμ23⟩ : ∃ y : sh_Mem, y = (sh_setI μ 2 5 ((sh_i μ 2 2) - (sh_i μ 2 4))) := ⟨_, rfl⟩
        rw [sh_let_eq eμ23] at h
        have hG23 : sh_G μ23 := by rw [eμ23]; exact hG
        have hF23 : sh_offM μ μ23 := by rw [eμ23]; exact sh_offM_I hF (by decide)
        obtain ⟨μ24, eμ24⟩ : ∃ y : sh_Mem, y = (sh_setI μ23 2 3 (-3)) := ⟨_, rfl⟩
        rw [sh_let_eq eμ24] at h
        have hG24 : sh_G μ24 := by rw [eμ24]; exact hG23
        have hF24 : sh_offM μ μ24 := by rw [eμ24]; exact sh_offM_I hF23 (by decide)
        have e2 := Option.some.inj h
        exact e2 ▸ hF24
      · rw [if_neg c22] at h
        obtain ⟨k25, h⟩ := sh_chk h
        by_cases c26 : 57 < (sh_i μ 1 ((sh_i μ 2 2)).toNatClampNeg)
        · rw [if_pos c26] at h
          obtain ⟨μ27, eμ27⟩ : ∃ y : sh_Mem, y = (sh_setI μ 2 5 ((sh_i μ 2 2) - (sh_i μ 2 4))) := ⟨_, rfl⟩
          rw [sh_let_eq eμ27] at h
          have hG27 : sh_G μ27 := by rw [eμ27]; exact hG
          have hF27 : sh_offM μ μ27 := by rw [eμ27]; exact sh_offM_I hF (by decide)
          obtain ⟨μ28, eμ28⟩ : ∃ y : sh_Mem, y = (sh_setI μ27 2 3 (-3)) := ⟨_, rfl⟩
          rw [sh_let_eq eμ28] at h
          have hG28 : sh_G μ28 := by rw [eμ28]; exact hG27
          have hF28 : sh_offM μ μ28 := by rw [eμ28]; exact sh_offM_I hF27 (by decide)
          have e2 := Option.some.inj h
          exact e2 ▸ hF28
        · rw [if_neg c26] at h
          by_cases c29 : 4 ≤ ((sh_i μ 2 2) - (sh_i μ 2 4))
          · rw [if_pos c29] at h
            obtain ⟨μ30, eμ30⟩ : ∃ y : sh_Mem, y = (sh_setI μ 2 2 ((sh_i μ 2 2) + 1)) := ⟨_, rfl⟩
            rw [sh_let_eq eμ30] at h
            have hG30 : sh_G μ30 := by rw [eμ30]; exact hG
            have hF30 : sh_offM μ μ30 := by rw [eμ30]; exact sh_offM_I hF (by decide)
            exact hF30.trans (ih_5 hG30 h)
          · rw [if_neg c29] at h
            obtain ⟨k31, h⟩ := sh_chk h
            obtain ⟨μ32, eμ32⟩ : ∃ y : sh_Mem, y = (sh_setI μ 2 8 ((((sh_i μ 2 8) * 10) + (sh_i μ 1 ((sh_i μ 2 2)).toNatClampNeg)) - 48)) := ⟨_, rfl⟩
            rw [sh_let_eq eμ32] at h
            have hG32 : sh_G μ32 := by rw [eμ32]; exact hG
            have hF32 : sh_offM μ μ32 := by rw [eμ32]; exact sh_offM_I hF (by decide)
            obtain ⟨μ33, eμ33⟩ : ∃ y : sh_Mem, y = (sh_setI μ32 2 2 ((sh_i μ32 2 2) + 1)) := ⟨_, rfl⟩
            rw [sh_let_eq eμ33] at h
            have hG33 : sh_G μ33 := by rw [eμ33]; exact hG32
            have hF33 : sh_offM μ μ33 := by rw [eμ33]; exact sh_offM_I hF32 (by decide)
            exact hF33.trans (ih_5 hG33 h)
theorem fp_X8_takeDigits {μ μ' : sh_Mem} (hG : sh_G μ) (h : f_X8_takeDigits μ = some μ') : sh_offM μ μ' := by
  have ih_5 := (fpl_X8_takeDigits sh_fuel)
  have hF : sh_offM μ μ := sh_offM.rf
  unfold f_X8_takeDigits at h
  obtain ⟨μ34, eμ34⟩ : ∃ y : sh_Mem, y = (sh_setI μ 2 8 0) := ⟨_, rfl⟩
  rw [sh_let_eq eμ34] at h
  have hG34 : sh_G μ34 := by rw [eμ34]; exact hG
  have hF34 : sh_offM μ μ34 := by rw [eμ34]; exact sh_offM_I hF (by decide)
  exact hF34.trans (ih_5 hG34 h)
theorem fpl_X8_wordOf (fuel : Nat) : (∀ ⦃i0 : Int32⦄ ⦃i1 : Int32⦄ ⦃i2 : Int32⦄ ⦃i3 : Int32⦄ ⦃i4 : Int32⦄ ⦃μ μ' : sh_Mem⦄ ⦃v : Int32⦄, sh_G μ → F_X8_wordOf fuel 1 i0 i1 i2 i3 i4 μ = some (v, μ') → sh_offM μ μ') := by
  induction fuel with
  | zero => intro i0 i1 i2 i3 i4 μ μ' v hG h; cases h
  | succ fuel ih =>
    have ih_9 := ih
    intro i0 i1 i2 i3 i4 μ μ' v hG h
    replace h : ((if 171 ≤ i4 then some ((-1), μ) else (if sh_in i4 171 then sh_let ((sh_ch i4) : Int32) (fun x9 => (if x9 = 32 then (if i3 = i0 then some (i1, μ) else F_X8_wordOf fuel 1 i0 (i1 + 1) 0 0 (i4 + 1) μ) else sh_let ((i3 ||| (((x9 - 97) + 1) <<< ((5 * i2) &&& 31))) : Int32) (fun x12 => F_X8_wordOf fuel 1 i0 i1 (i2 + 1) x12 (i4 + 1) μ))) else none)) : Option (Int32 × sh_Mem)) = some (v, μ') := h
    have hF : sh_offM μ μ := sh_offM.rf
    by_cases c7 : 171 ≤ i4
    · rw [if_pos c7] at h
      obtain ⟨e1, e2⟩ := sh_some2 h
      exact e2 ▸ hF
    · rw [if_neg c7] at h
      obtain ⟨k8, h⟩ := sh_chk h
      obtain ⟨x9, ex9⟩ : ∃ y : Int32, y = (sh_ch i4) := ⟨_, rfl⟩
      rw [sh_let_eq ex9] at h
      by_cases c10 : x9 = 32
      · rw [if_pos c10] at h
        by_cases c11 : i3 = i0
        · rw [if_pos c11] at h
          obtain ⟨e1, e2⟩ := sh_some2 h
          exact e2 ▸ hF
        · rw [if_neg c11] at h
          exact hF.trans (ih_9 hG h)
      · rw [if_neg c10] at h
        obtain ⟨x12, ex12⟩ : ∃ y : Int32, y = (i3 ||| (((x9 - 97) + 1) <<< ((5 * i2) &&& 31))) := ⟨_, rfl⟩
        rw [sh_let_eq ex12] at h
        exact hF.trans (ih_9 hG h)
theorem fp_X8_wordOf {a1 : Int32} {μ μ' : sh_Mem} {v : Int32} (hG : sh_G μ) (h : f_X8_wordOf a1 μ = some (v, μ')) : sh_offM μ μ' := by
  have ih_9 := (fpl_X8_wordOf sh_fuel)
  have hF : sh_offM μ μ := sh_offM.rf
  unfold f_X8_wordOf at h
  exact hF.trans (ih_9 hG h)
theorem fp_X8_fails {a1 : Int32} {a2 : Int32} {μ μ' : sh_Mem} {v : Int32} (hG : sh_G μ) (h : f_X8_fails a1 a2 μ = some (v, μ')) : sh_offM μ μ' := by
  have hF : sh_offM μ μ := sh_offM.rf
  unfold f_X8_fails at h
  by_cases c1 : (sh_i μ 2 10) = 0
  · rw [if_pos c1] at h
    obtain ⟨μ2, eμ2⟩ : ∃ y : sh_Mem, y = (sh_setI μ 2 10 a1) := ⟨_, rfl⟩
    rw [sh_let_eq eμ2] at h
    have hG2 : sh_G μ2 := by rw [eμ2]; exact hG
    have hF2 : sh_offM μ μ2 := by rw [eμ2]; exact sh_offM_I hF (by decide)
    obtain ⟨μ3, eμ3⟩ : ∃ y : sh_Mem, y = (sh_setI μ2 2 11 a2) := ⟨_, rfl⟩
    rw [sh_let_eq eμ3] at h
    have hG3 : sh_G μ3 := by rw [eμ3]; exact hG2
    have hF3 : sh_offM μ μ3 := by rw [eμ3]; exact sh_offM_I hF2 (by decide)
    obtain ⟨e1, e2⟩ := sh_some2 h
    exact e2 ▸ hF3
  · rw [if_neg c1] at h
    obtain ⟨e1, e2⟩ := sh_some2 h
    exact e2 ▸ hF
theorem fpl_X9_lowestFrom (fuel : Nat) : (∀ ⦃r1 : Nat⦄ ⦃r2 : Nat⦄ ⦃i3 : Int32⦄ ⦃i4 : Int32⦄ ⦃i5 : Int32⦄ ⦃i6 : Int32⦄ ⦃i7 : Int32⦄ ⦃μ μ' : sh_Mem⦄ ⦃v : Int32⦄, sh_G μ → sh_isP r1 → sh_isL r2 → F_X9_lowestFrom fuel 1 r1 r2 i3 i4 i5 i6 i7 μ = some (v, μ') → sh_offM μ μ') ∧ (∀ ⦃r1 : Nat⦄ ⦃r2 : Nat⦄ ⦃i3 : Int32⦄ ⦃i4 : Int32⦄ ⦃i5 : Int32⦄ ⦃i6 : Int32⦄ ⦃i7 : Int32⦄ ⦃μ μ' : sh_Mem⦄ ⦃v : Int32⦄, sh_G μ → sh_isP r1 → sh_isL r2 → F_X9_lowestFrom fuel 2 r1 r2 i3 i4 i5 i6 i7 μ = some (v, μ') → sh_offM μ μ') := by
  induction fuel with
  | zero => exact ⟨(by intro r1 r2 i3 i4 i5 i6 i7 μ μ' v hG hr1 hr2 h; cases h), (by intro r1 r2 i3 i4 i5 i6 i7 μ μ' v hG hr1 hr2 h; cases h)⟩
  | succ fuel ih =>
    obtain ⟨ih_6, ih_20⟩ := ih
    refine ⟨?_, ?_⟩
    · intro r1 r2 i3 i4 i5 i6 i7 μ μ' v hG hr1 hr2 h
      replace h : ((if 49 ≤ i5 then some (i4, μ) else F_X9_lowestFrom fuel 2 r1 r2 i3 i4 i5 i4 0 μ) : Option (Int32 × sh_Mem)) = some (v, μ') := h
      have hF : sh_offM μ μ := sh_offM.rf
      by_cases c21 : 49 ≤ i5
      · rw [if_pos c21] at h
        obtain ⟨e1, e2⟩ := sh_some2 h
        exact e2 ▸ hF
      · rw [if_neg c21] at h
        exact hF.trans (ih_20 hG hr1 hr2 h)
    · intro r1 r2 i3 i4 i5 i6 i7 μ μ' v hG hr1 hr2 h
      replace h : ((if 4 ≤ i7 then (if i6 = i4 then some (i4, μ) else F_X9_lowestFrom fuel 1 r1 r2 i3 i6 (i5 + 1) 0 0 μ) else sh_bind (f_X5_nextTo r1 i4 i7 μ) (fun y26 μ24 => (if y26 = (-1) then F_X9_lowestFrom fuel 2 r1 r2 i3 i4 i5 i6 (i7 + 1) μ24 else (if sh_in y26 49 then (if sh_in i6 49 then (if (sh_i μ24 (r2 + 1) i6.toNatClampNeg) ≤ (sh_i μ24 (r2 + 1) y26.toNatClampNeg) then F_X9_lowestFrom fuel 2 r1 r2 i3 i4 i5 i6 (i7 + 1) μ24 else F_X9_lowestFrom fuel 2 r1 r2 i3 i4 i5 y26 (i7 + 1) μ24) else none) else none)))) : Option (Int32 × sh_Mem)) = some (v, μ') := h
      have hF : sh_offM μ μ := sh_offM.rf
      by_cases c22 : 4 ≤ i7
      · rw [if_pos c22] at h
        by_cases c23 : i6 = i4
        · rw [if_pos c23] at h
          obtain ⟨e1, e2⟩ := sh_some2 h
          exact e2 ▸ hF
        · rw [if_neg c23] at h
          exact hF.trans (ih_6 hG hr1 hr2 h)
      · rw [if_neg c22] at h
        obtain ⟨y26, μ24, hr25, h⟩ := sh_bind_e h
        have hG24 := gp_X5_nextTo hG hr1 hr25
        have hF24 := hF.trans (fp_X5_nextTo hG hr1 hr25)
        by_cases c27 : y26 = (-1)
        · rw [if_pos c27] at h
          exact hF24.trans (ih_20 hG24 hr1 hr2 h)
        · rw [if_neg c27] at h
          obtain ⟨k28, h⟩ := sh_chk h
          obtain ⟨k29, h⟩ := sh_chk h
          by_cases c30 : (sh_i μ24 (r2 + 1) i6.toNatClampNeg) ≤ (sh_i μ24 (r2 + 1) y26.toNatClampNeg)
          · rw [if_pos c30] at h
            exact hF24.trans (ih_20 hG24 hr1 hr2 h)
          · rw [if_neg c30] at h
            exact hF24.trans (ih_20 hG24 hr1 hr2 h)
theorem fp_X9_lowestFrom {p1 : Nat} {q2 : Nat} {a3 : Int32} {μ μ' : sh_Mem} {v : Int32} (hG : sh_G μ) (hp1 : sh_isP p1) (hq2 : sh_isL q2) (h : f_X9_lowestFrom p1 q2 a3 μ = some (v, μ')) : sh_offM μ μ' := by
  have ih_6 := (fpl_X9_lowestFrom sh_fuel).1
  have ih_20 := (fpl_X9_lowestFrom sh_fuel).2
  have hF : sh_offM μ μ := sh_offM.rf
  unfold f_X9_lowestFrom at h
  exact hF.trans (ih_6 hG hp1 hq2 h)
theorem fpl_X10_findHighest (fuel : Nat) : (∀ ⦃r1 : Nat⦄ ⦃μ μ' : sh_Mem⦄ ⦃v : Int32⦄, sh_G μ → sh_isL r1 → F_X10_findHighest fuel 1 r1 μ = some (v, μ') → sh_offM μ μ') ∧ (∀ ⦃r1 : Nat⦄ ⦃μ μ' : sh_Mem⦄ ⦃v : Int32⦄, sh_G μ → sh_isL r1 → F_X10_findHighest fuel 2 r1 μ = some (v, μ') → sh_offM μ μ') := by
  induction fuel with
  | zero => exact ⟨(by intro r1 μ μ' v hG hr1 h; cases h), (by intro r1 μ μ' v hG hr1 h; cases h)⟩
  | succ fuel ih =>
    obtain ⟨ih_0, ih_7⟩ := ih
    refine ⟨?_, ?_⟩
    · intro r1 μ μ' v hG hr1 h
      replace h : ((if (sh_i μ 55 7) ≤ 0 then some (0, μ) else F_X10_findHighest fuel 2 r1 μ) : Option (Int32 × sh_Mem)) = some (v, μ') := h
      have hF : sh_offM μ μ := sh_offM.rf
      by_cases c23 : (sh_i μ 55 7) ≤ 0
      · rw [if_pos c23] at h
        obtain ⟨e1, e2⟩ := sh_some2 h
        exact e2 ▸ hF
      · rw [if_neg c23] at h
        exact hF.trans (ih_7 hG hr1 h)
    · intro r1 μ μ' v hG hr1 h
      replace h : ((if (sh_r μ 55 0 = some (sh_ref μ 55 0) ∧ ((sh_ref μ 55 0) = 8 ∨ (sh_ref μ 55 0) = 29)) then sh_let (sh_ref μ 55 0) (fun r25 => (if (f_X5_cells μ r25) ≤ (sh_i μ 55 8) then sh_let (sh_setI μ 55 8 0) (fun μ27 => sh_let (sh_setI μ27 55 7 ((sh_i μ27 55 7) - 1)) (fun μ28 => F_X10_findHighest fuel 1 r1 μ28)) else (if sh_in (sh_i μ 55 8) 49 then (if (sh_i μ (r1 + 1) ((sh_i μ 55 8)).toNatClampNeg) = (sh_i μ 55 7) then (if (f_X10_isElsewhere μ (sh_i μ 55 8)) = 0 then sh_let (sh_setI μ 55 8 ((sh_i μ 55 8) + 1)) (fun μ33 => F_X10_findHighest fuel 2 r1 μ33) else some (1, μ)) else sh_let (sh_setI μ 55 8 ((sh_i μ 55 8) + 1)) (fun μ31 => F_X10_findHighest fuel 2 r1 μ31)) else none))) else none) : Option (Int32 × sh_Mem)) = some (v, μ') := h
      have hF : sh_offM μ μ := sh_offM.rf
      obtain ⟨k24, h⟩ := sh_chk h
      obtain ⟨r25, er25⟩ : ∃ y : Nat, y = (sh_ref μ 55 0) := ⟨_, rfl⟩
      rw [sh_let_eq er25] at h
      have k24r : sh_r μ 55 0 = some r25 ∧ (r25 = 8 ∨ r25 = 29) := by rw [er25]; exact k24
      by_cases c26 : (f_X5_cells μ r25) ≤ (sh_i μ 55 8)
      · rw [if_pos c26] at h
        obtain ⟨μ27, eμ27⟩ : ∃ y : sh_Mem, y = (sh_setI μ 55 8 0) := ⟨_, rfl⟩
        rw [sh_let_eq eμ27] at h
        have hG27 : sh_G μ27 := by rw [eμ27]; exact hG
        have hF27 : sh_offM μ μ27 := by rw [eμ27]; exact sh_offM_I hF (by decide)
        obtain ⟨μ28, eμ28⟩ : ∃ y : sh_Mem, y = (sh_setI μ27 55 7 ((sh_i μ27 55 7) - 1)) := ⟨_, rfl⟩
        rw [sh_let_eq eμ28] at h
        have hG28 : sh_G μ28 := by rw [eμ28]; exact hG27
        have hF28 : sh_offM μ μ28 := by rw [eμ28]; exact sh_offM_I hF27 (by decide)
        exact hF28.trans (ih_0 hG28 hr1 h)
      · rw [if_neg c26] at h
        obtain ⟨k29, h⟩ := sh_chk h
        by_cases c30 : (sh_i μ (r1 + 1) ((sh_i μ 55 8)).toNatClampNeg) = (sh_i μ 55 7)
        · rw [if_pos c30] at h
          by_cases c32 : (f_X10_isElsewhere μ (sh_i μ 55 8)) = 0
          · rw [if_pos c32] at h
            obtain ⟨μ33, eμ33⟩ : ∃ y : sh_Mem, y = (sh_setI μ 55 8 ((sh_i μ 55 8) + 1)) := ⟨_, rfl⟩
            rw [sh_let_eq eμ33] at h
            have hG33 : sh_G μ33 := by rw [eμ33]; exact hG
            have hF33 : sh_offM μ μ33 := by rw [eμ33]; exact sh_offM_I hF (by decide)
            exact hF33.trans (ih_7 hG33 hr1 h)
          · rw [if_neg c32] at h
            obtain ⟨e1, e2⟩ := sh_some2 h
            exact e2 ▸ hF
        · rw [if_neg c30] at h
          obtain ⟨μ31, eμ31⟩ : ∃ y : sh_Mem, y = (sh_setI μ 55 8 ((sh_i μ 55 8) + 1)) := ⟨_, rfl⟩
          rw [sh_let_eq eμ31] at h
          have hG31 : sh_G μ31 := by rw [eμ31]; exact hG
          have hF31 : sh_offM μ μ31 := by rw [eμ31]; exact sh_offM_I hF (by decide)
          exact hF31.trans (ih_7 hG31 hr1 h)
theorem fp_X10_findHighest {q1 : Nat} {μ μ' : sh_Mem} {v : Int32} (hG : sh_G μ) (hq1 : sh_isL q1) (h : f_X10_findHighest q1 μ = some (v, μ')) : sh_offM μ μ' := by
  have ih_0 := (fpl_X10_findHighest sh_fuel).1
  have ih_7 := (fpl_X10_findHighest sh_fuel).2
  have hF : sh_offM μ μ := sh_offM.rf
  unfold f_X10_findHighest at h
  exact hF.trans (ih_0 hG hq1 h)
theorem fpl_X11_append (fuel : Nat) : (∀ ⦃i1 : Int32⦄ ⦃i2 : Int32⦄ ⦃μ μ' : sh_Mem⦄, sh_G μ → F_X11_append fuel 1 i1 i2 μ = some μ' → sh_offM μ μ') := by
  induction fuel with
  | zero => intro i1 i2 μ μ' hG h; cases h
  | succ fuel ih =>
    have ih_3 := ih
    intro i1 i2 μ μ' hG h
    replace h : ((if i2 < 0 then some μ else (if 1600 ≤ (sh_i μ 0 1) then some μ else (if sh_in (sh_i μ 0 1) 1600 then sh_let (sh_setI μ 1 ((sh_i μ 0 1)).toNatClampNeg ((i1 >>> (i2 &&& 31)) &&& 255)) (fun μ9 => sh_let (sh_setI μ9 0 1 ((sh_i μ9 0 1) + 1)) (fun μ10 => F_X11_append fuel 1 i1 (i2 + (-8)) μ10)) else none))) : Option sh_Mem) = some μ' := h
    have hF : sh_offM μ μ := sh_offM.rf
    by_cases c6 : i2 < 0
    · rw [if_pos c6] at h
      have e2 := Option.some.inj h
      exact e2 ▸ hF
    · rw [if_neg c6] at h
      by_cases c7 : 1600 ≤ (sh_i μ 0 1)
      · rw [if_pos c7] at h
        have e2 := Option.some.inj h
        exact e2 ▸ hF
      · rw [if_neg c7] at h
        obtain ⟨k8, h⟩ := sh_chk h
        obtain ⟨μ9, eμ9⟩ : ∃ y : sh_Mem, y = (sh_setI μ 1 ((sh_i μ 0 1)).toNatClampNeg ((i1 >>> (i2 &&& 31)) &&& 255)) := ⟨_, rfl⟩
        rw [sh_let_eq eμ9] at h
        have hG9 : sh_G μ9 := by rw [eμ9]; exact hG
        have hF9 : sh_offM μ μ9 := by rw [eμ9]; exact sh_offM_I hF (by decide)
        obtain ⟨μ10, eμ10⟩ : ∃ y : sh_Mem, y = (sh_setI μ9 0 1 ((sh_i μ9 0 1) + 1)) := ⟨_, rfl⟩
        rw [sh_let_eq eμ10] at h
        have hG10 : sh_G μ10 := by rw [eμ10]; exact hG9
        have hF10 : sh_offM μ μ10 := by rw [eμ10]; exact sh_offM_I hF9 (by decide)
        exact hF10.trans (ih_3 hG10 h)
theorem fp_X11_append {a1 : Int32} {μ μ' : sh_Mem} (hG : sh_G μ) (h : f_X11_append a1 μ = some μ') : sh_offM μ μ' := by
  have ih_3 := (fpl_X11_append sh_fuel)
  have hF : sh_offM μ μ := sh_offM.rf
  unfold f_X11_append at h
  exact hF.trans (ih_3 hG h)
theorem fp_X11_takeTape {μ μ' : sh_Mem} {v : Int32} (hG : sh_G μ) (h : f_X11_takeTape μ = some (v, μ')) : sh_offM μ μ' := by
  have hF : sh_offM μ μ := sh_offM.rf
  unfold f_X11_takeTape at h
  obtain ⟨x1, ex1⟩ : ∃ y : Int32, y = (sh_i μ 0 1) := ⟨_, rfl⟩
  rw [sh_let_eq ex1] at h
  obtain ⟨μ2, eμ2⟩ : ∃ y : sh_Mem, y = (sh_setI μ 0 1 0) := ⟨_, rfl⟩
  rw [sh_let_eq eμ2] at h
  have hG2 : sh_G μ2 := by rw [eμ2]; exact hG
  have hF2 : sh_offM μ μ2 := by rw [eμ2]; exact sh_offM_I hF (by decide)
  obtain ⟨e1, e2⟩ := sh_some2 h
  exact e2 ▸ hF2
theorem fp_X11_refuse {a1 : Int32} {μ μ' : sh_Mem} {v : Int32} (hG : sh_G μ) (h : f_X11_refuse a1 μ = some (v, μ')) : sh_offM μ μ' := by
  have hF : sh_offM μ μ := sh_offM.rf
  unfold f_X11_refuse at h
  obtain ⟨k1, h⟩ := sh_chk h
  obtain ⟨k2, h⟩ := sh_chk h
  obtain ⟨μ3, eμ3⟩ : ∃ y : sh_Mem, y = (sh_setI μ 290 a1.toNatClampNeg ((sh_i μ 290 a1.toNatClampNeg) + 1)) := ⟨_, rfl⟩
  rw [sh_let_eq eμ3] at h
  have hG3 : sh_G μ3 := by rw [eμ3]; exact hG
  have hF3 : sh_offM μ μ3 := by rw [eμ3]; exact sh_offM_I hF (by decide)
  obtain ⟨e1, e2⟩ := sh_some2 h
  exact e2 ▸ hF3
theorem fp_X11_refuseNumber {a1 : Int32} {μ μ' : sh_Mem} {v : Int32} (hG : sh_G μ) (h : f_X11_refuseNumber a1 μ = some (v, μ')) : sh_offM μ μ' := by
  have hF : sh_offM μ μ := sh_offM.rf
  unfold f_X11_refuseNumber at h
  obtain ⟨k1, h⟩ := sh_chk h
  obtain ⟨k2, h⟩ := sh_chk h
  obtain ⟨μ3, eμ3⟩ : ∃ y : sh_Mem, y = (sh_setI μ 290 a1.toNatClampNeg ((sh_i μ 290 a1.toNatClampNeg) + 1)) := ⟨_, rfl⟩
  rw [sh_let_eq eμ3] at h
  have hG3 : sh_G μ3 := by rw [eμ3]; exact hG
  have hF3 : sh_offM μ μ3 := by rw [eμ3]; exact sh_offM_I hF (by decide)
  obtain ⟨e1, e2⟩ := sh_some2 h
  exact e2 ▸ hF3
theorem fp_X11_noteFault {μ μ' : sh_Mem} (hG : sh_G μ) (h : f_X11_noteFault μ = some μ') : sh_offM μ μ' := by
  have hF : sh_offM μ μ := sh_offM.rf
  unfold f_X11_noteFault at h
  obtain ⟨μ1, eμ1⟩ : ∃ y : sh_Mem, y = (sh_setI μ 0 14 (sh_i μ 2 10)) := ⟨_, rfl⟩
  rw [sh_let_eq eμ1] at h
  have hG1 : sh_G μ1 := by rw [eμ1]; exact hG
  have hF1 : sh_offM μ μ1 := by rw [eμ1]; exact sh_offM_I hF (by decide)
  obtain ⟨μ2, eμ2⟩ : ∃ y : sh_Mem, y = (sh_setI μ1 0 15 (sh_i μ1 2 11)) := ⟨_, rfl⟩
  rw [sh_let_eq eμ2] at h
  have hG2 : sh_G μ2 := by rw [eμ2]; exact hG1
  have hF2 : sh_offM μ μ2 := by rw [eμ2]; exact sh_offM_I hF1 (by decide)
  have e2 := Option.some.inj h
  exact e2 ▸ hF2
theorem fp_X11_has {a1 : Int32} {μ μ' : sh_Mem} {v : Int32} (hG : sh_G μ) (h : f_X11_has a1 μ = some (v, μ')) : sh_offM μ μ' := by
  have hF : sh_offM μ μ := sh_offM.rf
  unfold f_X11_has at h
  by_cases c1 : a1 = 0
  · rw [if_pos c1] at h
    obtain ⟨k2, h⟩ := sh_chk h
    obtain ⟨r3, er3⟩ : ∃ y : Nat, y = (sh_ref μ 0 7) := ⟨_, rfl⟩
    rw [sh_let_eq er3] at h
    have k2r : sh_r μ 0 7 = some r3 ∧ (r3 = 8 ∨ r3 = 29) := by rw [er3]; exact k2
    obtain ⟨e1, e2⟩ := sh_some2 h
    exact e2 ▸ hF
  rw [if_neg c1] at h
  by_cases c4 : a1 = 1
  · rw [if_pos c4] at h
    obtain ⟨k5, h⟩ := sh_chk h
    obtain ⟨r6, er6⟩ : ∃ y : Nat, y = (sh_ref μ 0 7) := ⟨_, rfl⟩
    rw [sh_let_eq er6] at h
    have k5r : sh_r μ 0 7 = some r6 ∧ (r6 = 8 ∨ r6 = 29) := by rw [er6]; exact k5
    obtain ⟨e1, e2⟩ := sh_some2 h
    exact e2 ▸ hF
  rw [if_neg c4] at h
  by_cases c7 : a1 = 2
  · rw [if_pos c7] at h
    obtain ⟨k8, h⟩ := sh_chk h
    obtain ⟨r9, er9⟩ : ∃ y : Nat, y = (sh_ref μ 0 7) := ⟨_, rfl⟩
    rw [sh_let_eq er9] at h
    have k8r : sh_r μ 0 7 = some r9 ∧ (r9 = 8 ∨ r9 = 29) := by rw [er9]; exact k8
    obtain ⟨e1, e2⟩ := sh_some2 h
    exact e2 ▸ hF
  rw [if_neg c7] at h
  by_cases c10 : a1 = 3
  · rw [if_pos c10] at h
    obtain ⟨k11, h⟩ := sh_chk h
    obtain ⟨r12, er12⟩ : ∃ y : Nat, y = (sh_ref μ 0 7) := ⟨_, rfl⟩
    rw [sh_let_eq er12] at h
    have k11r : sh_r μ 0 7 = some r12 ∧ (r12 = 8 ∨ r12 = 29) := by rw [er12]; exact k11
    obtain ⟨e1, e2⟩ := sh_some2 h
    exact e2 ▸ hF
  rw [if_neg c10] at h
  by_cases c13 : a1 = 4
  · rw [if_pos c13] at h
    obtain ⟨k14, h⟩ := sh_chk h
    obtain ⟨r15, er15⟩ : ∃ y : Nat, y = (sh_ref μ 0 7) := ⟨_, rfl⟩
    rw [sh_let_eq er15] at h
    have k14r : sh_r μ 0 7 = some r15 ∧ (r15 = 8 ∨ r15 = 29) := by rw [er15]; exact k14
    obtain ⟨e1, e2⟩ := sh_some2 h
    exact e2 ▸ hF
  rw [if_neg c13] at h
  by_cases c16 : a1 = 5
  · rw [if_pos c16] at h
    obtain ⟨e1, e2⟩ := sh_some2 h
    exact e2 ▸ hF
  rw [if_neg c16] at h
  by_cases c17 : a1 = 6
  · rw [if_pos c17] at h
    obtain ⟨k18, h⟩ := sh_chk h
    obtain ⟨r19, er19⟩ : ∃ y : Nat, y = (sh_ref μ 0 7) := ⟨_, rfl⟩
    rw [sh_let_eq er19] at h
    have k18r : sh_r μ 0 7 = some r19 ∧ (r19 = 8 ∨ r19 = 29) := by rw [er19]; exact k18
    obtain ⟨y22, μ20, hr21, h⟩ := sh_bind_e h
    have hG20 := gp_X3_together hG sh_isL_49 hr21
    have hF20 := hF.trans (fp_X3_together hG sh_isL_49 hr21)
    obtain ⟨e1, e2⟩ := sh_some2 h
    exact e2 ▸ hF20
  rw [if_neg c17] at h
  by_cases c23 : a1 = 7
  · rw [if_pos c23] at h
    obtain ⟨e1, e2⟩ := sh_some2 h
    exact e2 ▸ hF
  rw [if_neg c23] at h
  by_cases c24 : a1 = 8
  · rw [if_pos c24] at h
    obtain ⟨e1, e2⟩ := sh_some2 h
    exact e2 ▸ hF
  rw [if_neg c24] at h
  by_cases c25 : a1 = 9
  · rw [if_pos c25] at h
    obtain ⟨e1, e2⟩ := sh_some2 h
    exact e2 ▸ hF
  rw [if_neg c25] at h
  obtain ⟨e1, e2⟩ := sh_some2 h
  exact e2 ▸ hF
theorem fp_X11_isPlain {μ μ' : sh_Mem} {v : Int32} (hG : sh_G μ) (h : f_X11_isPlain μ = some (v, μ')) : sh_offM μ μ' := by
  have hF : sh_offM μ μ := sh_offM.rf
  unfold f_X11_isPlain at h
  obtain ⟨k1, h⟩ := sh_chk h
  obtain ⟨r2, er2⟩ : ∃ y : Nat, y = (sh_ref μ 0 7) := ⟨_, rfl⟩
  rw [sh_let_eq er2] at h
  have k1r : sh_r μ 0 7 = some r2 ∧ (r2 = 8 ∨ r2 = 29) := by rw [er2]; exact k1
  by_cases c3 : (sh_i μ r2 0) ≤ 0
  · rw [if_pos c3] at h
    obtain ⟨e1, e2⟩ := sh_some2 h
    exact e2 ▸ hF
  · rw [if_neg c3] at h
    obtain ⟨e1, e2⟩ := sh_some2 h
    exact e2 ▸ hF
theorem fp_X11_isTopic {a1 : Int32} {μ μ' : sh_Mem} {v : Int32} (hG : sh_G μ) (h : f_X11_isTopic a1 μ = some (v, μ')) : sh_offM μ μ' := by
  have hF : sh_offM μ μ := sh_offM.rf
  unfold f_X11_isTopic at h
  by_cases c1 : a1 < 0
  · rw [if_pos c1] at h
    obtain ⟨e1, e2⟩ := sh_some2 h
    exact e2 ▸ hF
  · rw [if_neg c1] at h
    obtain ⟨k2, h⟩ := sh_chk h
    obtain ⟨r3, er3⟩ : ∃ y : Nat, y = (sh_ref μ 0 7) := ⟨_, rfl⟩
    rw [sh_let_eq er3] at h
    have k2r : sh_r μ 0 7 = some r3 ∧ (r3 = 8 ∨ r3 = 29) := by rw [er3]; exact k2
    by_cases c4 : (sh_i μ r3 2) ≤ a1
    · rw [if_pos c4] at h
      obtain ⟨e1, e2⟩ := sh_some2 h
      exact e2 ▸ hF
    · rw [if_neg c4] at h
      obtain ⟨e1, e2⟩ := sh_some2 h
      exact e2 ▸ hF
theorem fp_X11_isPerson {a1 : Int32} {μ μ' : sh_Mem} {v : Int32} (hG : sh_G μ) (h : f_X11_isPerson a1 μ = some (v, μ')) : sh_offM μ μ' := by
  have hF : sh_offM μ μ := sh_offM.rf
  unfold f_X11_isPerson at h
  by_cases c1 : a1 < 0
  · rw [if_pos c1] at h
    obtain ⟨e1, e2⟩ := sh_some2 h
    exact e2 ▸ hF
  · rw [if_neg c1] at h
    obtain ⟨k2, h⟩ := sh_chk h
    obtain ⟨r3, er3⟩ : ∃ y : Nat, y = (sh_ref μ 0 7) := ⟨_, rfl⟩
    rw [sh_let_eq er3] at h
    have k2r : sh_r μ 0 7 = some r3 ∧ (r3 = 8 ∨ r3 = 29) := by rw [er3]; exact k2
    by_cases c4 : (sh_i μ r3 3) ≤ a1
    · rw [if_pos c4] at h
      obtain ⟨e1, e2⟩ := sh_some2 h
      exact e2 ▸ hF
    · rw [if_neg c4] at h
      obtain ⟨e1, e2⟩ := sh_some2 h
      exact e2 ▸ hF
theorem fp_X11_height {a1 : Int32} {a2 : Int32} {μ μ' : sh_Mem} {v : Int32} (hG : sh_G μ) (h : f_X11_height a1 a2 μ = some (v, μ')) : sh_offM μ μ' := by
  have hF : sh_offM μ μ := sh_offM.rf
  unfold f_X11_height at h
  obtain ⟨k1, h⟩ := sh_chk h
  obtain ⟨r2, er2⟩ : ∃ y : Nat, y = (sh_ref μ 0 7) := ⟨_, rfl⟩
  rw [sh_let_eq er2] at h
  have k1r : sh_r μ 0 7 = some r2 ∧ (r2 = 8 ∨ r2 = 29) := by rw [er2]; exact k1
  obtain ⟨x3, ex3⟩ : ∃ y : Int32, y = (f_X5_cellAt μ r2 a1 a2) := ⟨_, rfl⟩
  rw [sh_let_eq ex3] at h
  by_cases c4 : x3 = (-1)
  · rw [if_pos c4] at h
    obtain ⟨e1, e2⟩ := sh_some2 h
    exact e2 ▸ hF
  · rw [if_neg c4] at h
    obtain ⟨k5, h⟩ := sh_chk h
    obtain ⟨e1, e2⟩ := sh_some2 h
    exact e2 ▸ hF
theorem fp_X11_person {a1 : Int32} {a2 : Int32} {μ μ' : sh_Mem} {v : Int32} (hG : sh_G μ) (h : f_X11_person a1 a2 μ = some (v, μ')) : sh_offM μ μ' := by
  have hF : sh_offM μ μ := sh_offM.rf
  unfold f_X11_person at h
  obtain ⟨y3, μ1, hr2, h⟩ := sh_bind_e h
  have hG1 := gp_X11_isPerson hG hr2
  have hF1 := hF.trans (fp_X11_isPerson hG hr2)
  by_cases c4 : y3 = 0
  · rw [if_pos c4] at h
    obtain ⟨e1, e2⟩ := sh_some2 h
    exact e2 ▸ hF1
  · rw [if_neg c4] at h
    by_cases c5 : a2 = 0
    · rw [if_pos c5] at h
      obtain ⟨k6, h⟩ := sh_chk h
      obtain ⟨e1, e2⟩ := sh_some2 h
      exact e2 ▸ hF1
    rw [if_neg c5] at h
    by_cases c7 : a2 = 1
    · rw [if_pos c7] at h
      obtain ⟨k8, h⟩ := sh_chk h
      obtain ⟨e1, e2⟩ := sh_some2 h
      exact e2 ▸ hF1
    rw [if_neg c7] at h
    by_cases c9 : a2 = 2
    · rw [if_pos c9] at h
      obtain ⟨k10, h⟩ := sh_chk h
      obtain ⟨e1, e2⟩ := sh_some2 h
      exact e2 ▸ hF1
    rw [if_neg c9] at h
    by_cases c11 : a2 = 3
    · rw [if_pos c11] at h
      obtain ⟨k12, h⟩ := sh_chk h
      obtain ⟨e1, e2⟩ := sh_some2 h
      exact e2 ▸ hF1
    rw [if_neg c11] at h
    obtain ⟨e1, e2⟩ := sh_some2 h
    exact e2 ▸ hF1
theorem fp_X11_list {a1 : Int32} {a2 : Int32} {μ μ' : sh_Mem} {v : Int32} (hG : sh_G μ) (h : f_X11_list a1 a2 μ = some (v, μ')) : sh_offM μ μ' := by
  have hF : sh_offM μ μ := sh_offM.rf
  unfold f_X11_list at h
  by_cases c1 : a1 < 0
  · rw [if_pos c1] at h
    obtain ⟨e1, e2⟩ := sh_some2 h
    exact e2 ▸ hF
  · rw [if_neg c1] at h
    obtain ⟨k2, h⟩ := sh_chk h
    obtain ⟨r3, er3⟩ : ∃ y : Nat, y = (sh_ref μ 0 7) := ⟨_, rfl⟩
    rw [sh_let_eq er3] at h
    have k2r : sh_r μ 0 7 = some r3 ∧ (r3 = 8 ∨ r3 = 29) := by rw [er3]; exact k2
    by_cases c4 : a1 < (sh_i μ r3 4)
    · rw [if_pos c4] at h
      by_cases c5 : a2 = 0
      · rw [if_pos c5] at h
        obtain ⟨k10, h⟩ := sh_chk h
        obtain ⟨r11, er11⟩ : ∃ y : Nat, y = (sh_ref μ 0 7) := ⟨_, rfl⟩
        rw [sh_let_eq er11] at h
        have k10r : sh_r μ 0 7 = some r11 ∧ (r11 = 8 ∨ r11 = 29) := by rw [er11]; exact k10
        obtain ⟨k12, h⟩ := sh_chk h
        obtain ⟨e1, e2⟩ := sh_some2 h
        exact e2 ▸ hF
      · rw [if_neg c5] at h
        by_cases c6 : a2 = 1
        · rw [if_pos c6] at h
          obtain ⟨k7, h⟩ := sh_chk h
          obtain ⟨r8, er8⟩ : ∃ y : Nat, y = (sh_ref μ 0 7) := ⟨_, rfl⟩
          rw [sh_let_eq er8] at h
          have k7r : sh_r μ 0 7 = some r8 ∧ (r8 = 8 ∨ r8 = 29) := by rw [er8]; exact k7
          obtain ⟨k9, h⟩ := sh_chk h
          obtain ⟨e1, e2⟩ := sh_some2 h
          exact e2 ▸ hF
        · rw [if_neg c6] at h
          obtain ⟨e1, e2⟩ := sh_some2 h
          exact e2 ▸ hF
    · rw [if_neg c4] at h
      obtain ⟨e1, e2⟩ := sh_some2 h
      exact e2 ▸ hF
theorem fp_X11_kept {a1 : Int32} {a2 : Int32} {μ μ' : sh_Mem} {v : Int32} (hG : sh_G μ) (h : f_X11_kept a1 a2 μ = some (v, μ')) : sh_offM μ μ' := by
  have hF : sh_offM μ μ := sh_offM.rf
  unfold f_X11_kept at h
  by_cases c1 : a1 < 0
  · rw [if_pos c1] at h
    obtain ⟨e1, e2⟩ := sh_some2 h
    exact e2 ▸ hF
  · rw [if_neg c1] at h
    by_cases c2 : (sh_i μ 63 1) ≤ a1
    · rw [if_pos c2] at h
      obtain ⟨e1, e2⟩ := sh_some2 h
      exact e2 ▸ hF
    · rw [if_neg c2] at h
      by_cases c3 : a2 < 0
      · rw [if_pos c3] at h
        obtain ⟨e1, e2⟩ := sh_some2 h
        exact e2 ▸ hF
      · rw [if_neg c3] at h
        by_cases c4 : a2 < 4
        · rw [if_pos c4] at h
          obtain ⟨k5, h⟩ := sh_chk h
          obtain ⟨e1, e2⟩ := sh_some2 h
          exact e2 ▸ hF
        · rw [if_neg c4] at h
          obtain ⟨e1, e2⟩ := sh_some2 h
          exact e2 ▸ hF
theorem fp_X11_isAhead {a1 : Int32} {a2 : Int32} {a3 : Int32} {μ μ' : sh_Mem} {v : Int32} (hG : sh_G μ) (h : f_X11_isAhead a1 a2 a3 μ = some (v, μ')) : sh_offM μ μ' := by
  have hF : sh_offM μ μ := sh_offM.rf
  unfold f_X11_isAhead at h
  obtain ⟨y3, μ1, hr2, h⟩ := sh_bind_e h
  have hG1 := gp_X11_isPlain hG hr2
  have hF1 := hF.trans (fp_X11_isPlain hG hr2)
  by_cases c4 : y3 = 0
  · rw [if_pos c4] at h
    obtain ⟨e1, e2⟩ := sh_some2 h
    exact e2 ▸ hF1
  · rw [if_neg c4] at h
    by_cases c5 : a1 < a2
    · rw [if_pos c5] at h
      obtain ⟨e1, e2⟩ := sh_some2 h
      exact e2 ▸ hF1
    · rw [if_neg c5] at h
      by_cases c6 : a3 < a1
      · rw [if_pos c6] at h
        obtain ⟨e1, e2⟩ := sh_some2 h
        exact e2 ▸ hF1
      · rw [if_neg c6] at h
        by_cases c7 : 999 < ((sh_i μ1 49 0) + a1)
        · rw [if_pos c7] at h
          obtain ⟨e1, e2⟩ := sh_some2 h
          exact e2 ▸ hF1
        · rw [if_neg c7] at h
          obtain ⟨e1, e2⟩ := sh_some2 h
          exact e2 ▸ hF1
theorem fp_X11_pond {a1 : Int32} {a2 : Int32} {μ μ' : sh_Mem} {v : Int32} (hG : sh_G μ) (h : f_X11_pond a1 a2 μ = some (v, μ')) : sh_offM μ μ' := by
  have hF : sh_offM μ μ := sh_offM.rf
  unfold f_X11_pond at h
  obtain ⟨k1, h⟩ := sh_chk h
  obtain ⟨r2, er2⟩ : ∃ y : Nat, y = (sh_ref μ 0 7) := ⟨_, rfl⟩
  rw [sh_let_eq er2] at h
  have k1r : sh_r μ 0 7 = some r2 ∧ (r2 = 8 ∨ r2 = 29) := by rw [er2]; exact k1
  obtain ⟨x3, ex3⟩ : ∃ y : Int32, y = (f_X5_cellAt μ r2 a1 a2) := ⟨_, rfl⟩
  rw [sh_let_eq ex3] at h
  by_cases c4 : x3 = (-1)
  · rw [if_pos c4] at h
    obtain ⟨e1, e2⟩ := sh_some2 h
    exact e2 ▸ hF
  · rw [if_neg c4] at h
    obtain ⟨k5, h⟩ := sh_chk h
    obtain ⟨r6, er6⟩ : ∃ y : Nat, y = (sh_ref μ 0 7) := ⟨_, rfl⟩
    rw [sh_let_eq er6] at h
    have k5r : sh_r μ 0 7 = some r6 ∧ (r6 = 8 ∨ r6 = 29) := by rw [er6]; exact k5
    obtain ⟨k7, h⟩ := sh_chk h
    obtain ⟨r8, er8⟩ : ∃ y : Nat, y = (sh_ref μ 0 7) := ⟨_, rfl⟩
    rw [sh_let_eq er8] at h
    have k7r : sh_r μ 0 7 = some r8 ∧ (r8 = 8 ∨ r8 = 29) := by rw [er8]; exact k7
    obtain ⟨y11, μ9, hr10, h⟩ := sh_bind_e h
    have hG9 := gp_X9_lowestFrom hG k7r.2 sh_isL_49 hr10
    have hF9 := hF.trans (fp_X9_lowestFrom hG k7r.2 sh_isL_49 hr10)
    obtain ⟨y14, μ12, hr13, h⟩ := sh_bind_e h
    have hG12 := gp_X5_numberOf hG9 k5r.2 hr13
    have hF12 := hF9.trans (fp_X5_numberOf hG9 k5r.2 hr13)
    obtain ⟨e1, e2⟩ := sh_some2 h
    exact e2 ▸ hF12
theorem fpl_X11_isSeen (fuel : Nat) : (∀ ⦃i1 : Int32⦄ ⦃i2 : Int32⦄ ⦃μ μ' : sh_Mem⦄ ⦃v : Int32⦄, sh_G μ → F_X11_isSeen fuel 1 i1 i2 μ = some (v, μ') → sh_offM μ μ') := by
  induction fuel with
  | zero => intro i1 i2 μ μ' v hG h; cases h
  | succ fuel ih =>
    have ih_21 := ih
    intro i1 i2 μ μ' v hG h
    replace h : ((if i1 < (i2 + 4) then some (1, μ) else (if sh_in i2 1600 then (if 30 < (sh_i μ 1 i2.toNatClampNeg) then some (0, μ) else (if (sh_r μ 0 7 = some (sh_ref μ 0 7) ∧ ((sh_ref μ 0 7) = 8 ∨ (sh_ref μ 0 7) = 29)) then sh_let (sh_ref μ 0 7) (fun r18 => (if sh_in (i2 + 1) 1600 then (if sh_in (i2 + 2) 1600 then (if (f_X5_cellAt μ r18 (sh_i μ 1 ((i2 + 1)).toNatClampNeg) (sh_i μ 1 ((i2 + 2)).toNatClampNeg)) = (-1) then some (0, μ) else (if sh_in (i2 + 3) 1600 then (if (sh_i μ 1 ((i2 + 3)).toNatClampNeg) ≤ 99 then F_X11_isSeen fuel 1 i1 (i2 + 4) μ else some (0, μ)) else none)) else none) else none)) else none)) else none)) : Option (Int32 × sh_Mem)) = some (v, μ') := h
    have hF : sh_offM μ μ := sh_offM.rf
    by_cases c14 : i1 < (i2 + 4)
    · rw [if_pos c14] at h
      obtain ⟨e1, e2⟩ := sh_some2 h
      exact e2 ▸ hF
    · rw [if_neg c14] at h
      obtain ⟨k15, h⟩ := sh_chk h
      by_cases c16 : 30 < (sh_i μ 1 i2.toNatClampNeg)
      · rw [if_pos c16] at h
        obtain ⟨e1, e2⟩ := sh_some2 h
        exact e2 ▸ hF
      · rw [if_neg c16] at h
        obtain ⟨k17, h⟩ := sh_chk h
        obtain ⟨r18, er18⟩ : ∃ y : Nat, y = (sh_ref μ 0 7) := ⟨_, rfl⟩
        rw [sh_let_eq er18] at h
        have k17r : sh_r μ 0 7 = some r18 ∧ (r18 = 8 ∨ r18 = 29) := by rw [er18]; exact k17
        obtain ⟨k19, h⟩ := sh_chk h
        obtain ⟨k20, h⟩ := sh_chk h
        by_cases c21 : (f_X5_cellAt μ r18 (sh_i μ 1 ((i2 + 1)).toNatClampNeg) (sh_i μ 1 ((i2 + 2)).toNatClampNeg)) = (-1)
        · rw [if_pos c21] at h
          obtain ⟨e1, e2⟩ := sh_some2 h
          exact e2 ▸ hF
        · rw [if_neg c21] at h
          obtain ⟨k22, h⟩ := sh_chk h
          by_cases c23 : (sh_i μ 1 ((i2 + 3)).toNatClampNeg) ≤ 99
          · rw [if_pos c23] at h
            exact hF.trans (ih_21 hG h)
          · rw [if_neg c23] at h
            obtain ⟨e1, e2⟩ := sh_some2 h
            exact e2 ▸ hF
theorem fp_X11_isSeen {a1 : Int32} {μ μ' : sh_Mem} {v : Int32} (hG : sh_G μ) (h : f_X11_isSeen a1 μ = some (v, μ')) : sh_offM μ μ' := by
  have ih_21 := (fpl_X11_isSeen sh_fuel)
  have hF : sh_offM μ μ := sh_offM.rf
  unfold f_X11_isSeen at h
  by_cases c24 : a1 < 4
  · rw [if_pos c24] at h
    obtain ⟨e1, e2⟩ := sh_some2 h
    exact e2 ▸ hF
  · rw [if_neg c24] at h
    by_cases c25 : 64 < a1
    · rw [if_pos c25] at h
      obtain ⟨e1, e2⟩ := sh_some2 h
      exact e2 ▸ hF
    · rw [if_neg c25] at h
      by_cases c26 : (a1 - a1 / 4 * 4) = 0
      · rw [if_pos c26] at h
        exact hF.trans (ih_21 hG h)
      · rw [if_neg c26] at h
        obtain ⟨e1, e2⟩ := sh_some2 h
        exact e2 ▸ hF
theorem fp_X11_teach {a1 : Int32} {a2 : Int32} {a3 : Int32} {μ μ' : sh_Mem} {v : Int32} (hG : sh_G μ) (h : f_X11_teach a1 a2 a3 μ = some (v, μ')) : sh_offM μ μ' := by
  have hF : sh_offM μ μ := sh_offM.rf
  unfold f_X11_teach at h
  obtain ⟨y3, μ1, hr2, h⟩ := sh_bind_e h
  have hG1 := gp_X11_isPerson hG hr2
  have hF1 := hF.trans (fp_X11_isPerson hG hr2)
  by_cases c4 : y3 = 0
  · rw [if_pos c4] at h
    obtain ⟨y7, μ5, hr6, h⟩ := sh_bind_e h
    have hG5 := gp_X11_refuse hG1 hr6
    have hF5 := hF1.trans (fp_X11_refuse hG1 hr6)
    obtain ⟨k8, h⟩ := sh_chk h
    obtain ⟨e1, e2⟩ := sh_some2 h
    exact e2 ▸ hF5
  · rw [if_neg c4] at h
    obtain ⟨y11, μ9, hr10, h⟩ := sh_bind_e h
    have hG9 := gp_X11_isTopic hG1 hr10
    have hF9 := hF1.trans (fp_X11_isTopic hG1 hr10)
    by_cases c12 : y11 = 0
    · rw [if_pos c12] at h
      obtain ⟨y15, μ13, hr14, h⟩ := sh_bind_e h
      have hG13 := gp_X11_refuse hG9 hr14
      have hF13 := hF9.trans (fp_X11_refuse hG9 hr14)
      obtain ⟨k16, h⟩ := sh_chk h
      obtain ⟨e1, e2⟩ := sh_some2 h
      exact e2 ▸ hF13
    · rw [if_neg c12] at h
      by_cases c17 : a3 < 0
      · rw [if_pos c17] at h
        obtain ⟨y20, μ18, hr19, h⟩ := sh_bind_e h
        have hG18 := gp_X11_refuse hG9 hr19
        have hF18 := hF9.trans (fp_X11_refuse hG9 hr19)
        obtain ⟨k21, h⟩ := sh_chk h
        obtain ⟨e1, e2⟩ := sh_some2 h
        exact e2 ▸ hF18
      · rw [if_neg c17] at h
        by_cases c22 : 1 < a3
        · rw [if_pos c22] at h
          obtain ⟨y25, μ23, hr24, h⟩ := sh_bind_e h
          have hG23 := gp_X11_refuse hG9 hr24
          have hF23 := hF9.trans (fp_X11_refuse hG9 hr24)
          obtain ⟨k26, h⟩ := sh_chk h
          obtain ⟨e1, e2⟩ := sh_some2 h
          exact e2 ▸ hF23
        · rw [if_neg c22] at h
          obtain ⟨k27, h⟩ := sh_chk h
          by_cases c28 : (((sh_i μ9 54 a1.toNatClampNeg) >>> (a2 &&& 31)) &&& 1) = a3
          · rw [if_pos c28] at h
            obtain ⟨y37, μ35, hr36, h⟩ := sh_bind_e h
            have hG35 := gp_X11_refuse hG9 hr36
            have hF35 := hF9.trans (fp_X11_refuse hG9 hr36)
            obtain ⟨k38, h⟩ := sh_chk h
            obtain ⟨e1, e2⟩ := sh_some2 h
            exact e2 ▸ hF35
          · rw [if_neg c28] at h
            obtain ⟨μ29, hr30, h⟩ := sh_bindv_e h
            have hG29 := gp_X4_remember hG9 sh_isL_49 hr30
            have hF29 := hF9.trans (fp_X4_remember hG9 sh_isL_49 hr30)
            obtain ⟨k32, h⟩ := sh_chk h
            obtain ⟨k33, h⟩ := sh_chk h
            obtain ⟨μ34, eμ34⟩ : ∃ y : sh_Mem, y = (sh_setI μ29 54 a1.toNatClampNeg ((sh_i μ29 54 a1.toNatClampNeg) ^^^ ((1 : Int32) <<< (a2 &&& 31)))) := ⟨_, rfl⟩
            rw [sh_let_eq eμ34] at h
            have hG34 : sh_G μ34 := by rw [eμ34]; exact hG29
            have hF34 : sh_offM μ μ34 := by rw [eμ34]; exact sh_offM_I hF29 (by decide)
            obtain ⟨e1, e2⟩ := sh_some2 h
            exact e2 ▸ hF34
theorem fp_X11_go {a1 : Int32} {a2 : Int32} {a3 : Int32} {μ μ' : sh_Mem} {v : Int32} (hG : sh_G μ) (h : f_X11_go a1 a2 a3 μ = some (v, μ')) : sh_offM μ μ' := by
  have hF : sh_offM μ μ := sh_offM.rf
  unfold f_X11_go at h
  obtain ⟨y3, μ1, hr2, h⟩ := sh_bind_e h
  have hG1 := gp_X11_isPerson hG hr2
  have hF1 := hF.trans (fp_X11_isPerson hG hr2)
  by_cases c4 : y3 = 0
  · rw [if_pos c4] at h
    obtain ⟨y7, μ5, hr6, h⟩ := sh_bind_e h
    have hG5 := gp_X11_refuse hG1 hr6
    have hF5 := hF1.trans (fp_X11_refuse hG1 hr6)
    obtain ⟨k8, h⟩ := sh_chk h
    obtain ⟨e1, e2⟩ := sh_some2 h
    exact e2 ▸ hF5
  · rw [if_neg c4] at h
    obtain ⟨k9, h⟩ := sh_chk h
    obtain ⟨r10, er10⟩ : ∃ y : Nat, y = (sh_ref μ1 0 7) := ⟨_, rfl⟩
    rw [sh_let_eq er10] at h
    have k9r : sh_r μ1 0 7 = some r10 ∧ (r10 = 8 ∨ r10 = 29) := by rw [er10]; exact k9
    by_cases c11 : (f_X5_cellAt μ1 r10 a2 a3) = (-1)
    · rw [if_pos c11] at h
      obtain ⟨y14, μ12, hr13, h⟩ := sh_bind_e h
      have hG12 := gp_X11_refuse hG1 hr13
      have hF12 := hF1.trans (fp_X11_refuse hG1 hr13)
      obtain ⟨k15, h⟩ := sh_chk h
      obtain ⟨e1, e2⟩ := sh_some2 h
      exact e2 ▸ hF12
    · rw [if_neg c11] at h
      obtain ⟨k16, h⟩ := sh_chk h
      obtain ⟨r17, er17⟩ : ∃ y : Nat, y = (sh_ref μ1 0 7) := ⟨_, rfl⟩
      rw [sh_let_eq er17] at h
      have k16r : sh_r μ1 0 7 = some r17 ∧ (r17 = 8 ∨ r17 = 29) := by rw [er17]; exact k16
      obtain ⟨y20, μ18, hr19, h⟩ := sh_bind_e h
      have hG18 := gp_X3_isSomeoneAt hG1 sh_isL_49 hr19
      have hF18 := hF1.trans (fp_X3_isSomeoneAt hG1 sh_isL_49 hr19)
      by_cases c21 : y20 = 0
      · rw [if_pos c21] at h
        obtain ⟨μ22, hr23, h⟩ := sh_bindv_e h
        have hG22 := gp_X4_remember hG18 sh_isL_49 hr23
        have hF22 := hF18.trans (fp_X4_remember hG18 sh_isL_49 hr23)
        obtain ⟨k25, h⟩ := sh_chk h
        obtain ⟨μ26, eμ26⟩ : ∃ y : sh_Mem, y = (sh_setI μ22 51 a1.toNatClampNeg a2) := ⟨_, rfl⟩
        rw [sh_let_eq eμ26] at h
        have hG26 : sh_G μ26 := by rw [eμ26]; exact hG22
        have hF26 : sh_offM μ μ26 := by rw [eμ26]; exact sh_offM_I hF22 (by decide)
        obtain ⟨k27, h⟩ := sh_chk h
        obtain ⟨μ28, eμ28⟩ : ∃ y : sh_Mem, y = (sh_setI μ26 52 a1.toNatClampNeg a3) := ⟨_, rfl⟩
        rw [sh_let_eq eμ28] at h
        have hG28 : sh_G μ28 := by rw [eμ28]; exact hG26
        have hF28 : sh_offM μ μ28 := by rw [eμ28]; exact sh_offM_I hF26 (by decide)
        obtain ⟨e1, e2⟩ := sh_some2 h
        exact e2 ▸ hF28
      · rw [if_neg c21] at h
        obtain ⟨y31, μ29, hr30, h⟩ := sh_bind_e h
        have hG29 := gp_X11_refuse hG18 hr30
        have hF29 := hF18.trans (fp_X11_refuse hG18 hr30)
        obtain ⟨k32, h⟩ := sh_chk h
        obtain ⟨e1, e2⟩ := sh_some2 h
        exact e2 ▸ hF29
theorem fp_X11_ease {a1 : Int32} {μ μ' : sh_Mem} {v : Int32} (hG : sh_G μ) (h : f_X11_ease a1 μ = some (v, μ')) : sh_offM μ μ' := by
  have hF : sh_offM μ μ := sh_offM.rf
  unfold f_X11_ease at h
  obtain ⟨y3, μ1, hr2, h⟩ := sh_bind_e h
  have hG1 := gp_X11_isPerson hG hr2
  have hF1 := hF.trans (fp_X11_isPerson hG hr2)
  by_cases c4 : y3 = 0
  · rw [if_pos c4] at h
    obtain ⟨y7, μ5, hr6, h⟩ := sh_bind_e h
    have hG5 := gp_X11_refuse hG1 hr6
    have hF5 := hF1.trans (fp_X11_refuse hG1 hr6)
    obtain ⟨k8, h⟩ := sh_chk h
    obtain ⟨e1, e2⟩ := sh_some2 h
    exact e2 ▸ hF5
  · rw [if_neg c4] at h
    obtain ⟨k9, h⟩ := sh_chk h
    by_cases c10 : (sh_i μ1 53 a1.toNatClampNeg) = 0
    · rw [if_pos c10] at h
      obtain ⟨y18, μ16, hr17, h⟩ := sh_bind_e h
      have hG16 := gp_X11_refuse hG1 hr17
      have hF16 := hF1.trans (fp_X11_refuse hG1 hr17)
      obtain ⟨k19, h⟩ := sh_chk h
      obtain ⟨e1, e2⟩ := sh_some2 h
      exact e2 ▸ hF16
    · rw [if_neg c10] at h
      obtain ⟨μ11, hr12, h⟩ := sh_bindv_e h
      have hG11 := gp_X4_remember hG1 sh_isL_49 hr12
      have hF11 := hF1.trans (fp_X4_remember hG1 sh_isL_49 hr12)
      obtain ⟨k14, h⟩ := sh_chk h
      obtain ⟨μ15, eμ15⟩ : ∃ y : sh_Mem, y = (sh_setI μ11 53 a1.toNatClampNeg 0) := ⟨_, rfl⟩
      rw [sh_let_eq eμ15] at h
      have hG15 : sh_G μ15 := by rw [eμ15]; exact hG11
      have hF15 : sh_offM μ μ15 := by rw [eμ15]; exact sh_offM_I hF11 (by decide)
      obtain ⟨e1, e2⟩ := sh_some2 h
      exact e2 ▸ hF15
theorem fp_X11_draw {a1 : Int32} {μ μ' : sh_Mem} {v : Int32} (hG : sh_G μ) (h : f_X11_draw a1 μ = some (v, μ')) : sh_offM μ μ' := by
  have hF : sh_offM μ μ := sh_offM.rf
  unfold f_X11_draw at h
  obtain ⟨μ1, eμ1⟩ : ∃ y : sh_Mem, y = (sh_setL μ 0 16 (((1103515245 * (sh_l μ 0 16)) + 12345) &&& 2147483647)) := ⟨_, rfl⟩
  rw [sh_let_eq eμ1] at h
  have hG1 : sh_G μ1 := by rw [eμ1]; exact hG
  have hF1 : sh_offM μ μ1 := by rw [eμ1]; exact sh_offM_L hF (by decide)
  by_cases c2 : a1 ≤ 0
  · rw [if_pos c2] at h
    obtain ⟨e1, e2⟩ := sh_some2 h
    exact e2 ▸ hF1
  · rw [if_neg c2] at h
    obtain ⟨k3, h⟩ := sh_chk h
    obtain ⟨e1, e2⟩ := sh_some2 h
    exact e2 ▸ hF1
theorem fp_X11_undo {μ μ' : sh_Mem} {v : Int32} (hG : sh_G μ) (h : f_X11_undo μ = some (v, μ')) : sh_offM μ μ' := by
  have hF : sh_offM μ μ := sh_offM.rf
  unfold f_X11_undo at h
  obtain ⟨y3, μ1, hr2, h⟩ := sh_bind_e h
  have hG1 := gp_X4_goBack hG sh_isL_49 hr2
  have hF1 := hF.trans (fp_X4_goBack hG sh_isL_49 hr2)
  by_cases c4 : y3 = 0
  · rw [if_pos c4] at h
    obtain ⟨y7, μ5, hr6, h⟩ := sh_bind_e h
    have hG5 := gp_X11_refuse hG1 hr6
    have hF5 := hF1.trans (fp_X11_refuse hG1 hr6)
    by_cases c8 : y7 = 0
    · rw [if_pos c8] at h
      obtain ⟨e1, e2⟩ := sh_some2 h
      exact e2 ▸ hF5
    · rw [if_neg c8] at h
      obtain ⟨e1, e2⟩ := sh_some2 h
      exact e2 ▸ hF5
  · rw [if_neg c4] at h
    obtain ⟨e1, e2⟩ := sh_some2 h
    exact e2 ▸ hF1
theorem fp_X11_seed {a1 : Int32} {μ μ' : sh_Mem} {v : Int32} (hG : sh_G μ) (h : f_X11_seed a1 μ = some (v, μ')) : sh_offM μ μ' := by
  have hF : sh_offM μ μ := sh_offM.rf
  unfold f_X11_seed at h
  by_cases c1 : 0 ≤ a1
  · rw [if_pos c1] at h
    obtain ⟨μ2, eμ2⟩ : ∃ y : sh_Mem, y = (sh_setL μ 0 16 (a1).toInt64) := ⟨_, rfl⟩
    rw [sh_let_eq eμ2] at h
    have hG2 : sh_G μ2 := by rw [eμ2]; exact hG
    have hF2 : sh_offM μ μ2 := by rw [eμ2]; exact sh_offM_L hF (by decide)
    obtain ⟨e1, e2⟩ := sh_some2 h
    exact e2 ▸ hF2
  · rw [if_neg c1] at h
    obtain ⟨y5, μ3, hr4, h⟩ := sh_bind_e h
    have hG3 := gp_X11_refuse hG hr4
    have hF3 := hF.trans (fp_X11_refuse hG hr4)
    obtain ⟨k6, h⟩ := sh_chk h
    obtain ⟨e1, e2⟩ := sh_some2 h
    exact e2 ▸ hF3
theorem fp_X11_joined {a1 : Int32} {a2 : Int64} {a3 : Int32} {a4 : Int64} {μ μ' : sh_Mem} {v : Int64} (hG : sh_G μ) (h : f_X11_joined a1 a2 a3 a4 μ = some (v, μ')) : sh_offM μ μ' := by
  have hF : sh_offM μ μ := sh_offM.rf
  unfold f_X11_joined at h
  by_cases c1 : a1 = 27
  · rw [if_pos c1] at h
    by_cases c2 : (lg_cmp a2 (-1)) = 0
    · rw [if_pos c2] at h
      by_cases c3 : (lg_cmp a4 0) = 0
      · rw [if_pos c3] at h
        obtain ⟨e1, e2⟩ := sh_some2 h
        exact e2 ▸ hF
      · rw [if_neg c3] at h
        obtain ⟨e1, e2⟩ := sh_some2 h
        exact e2 ▸ hF
    · rw [if_neg c2] at h
      obtain ⟨e1, e2⟩ := sh_some2 h
      exact e2 ▸ hF
  rw [if_neg c1] at h
  by_cases c4 : a1 = 28
  · rw [if_pos c4] at h
    by_cases c5 : (lg_cmp a4 0) = 0
    · rw [if_pos c5] at h
      obtain ⟨e1, e2⟩ := sh_some2 h
      exact e2 ▸ hF
    · rw [if_neg c5] at h
      obtain ⟨e1, e2⟩ := sh_some2 h
      exact e2 ▸ hF
  rw [if_neg c4] at h
  by_cases c6 : a1 = 29
  · rw [if_pos c6] at h
    by_cases c7 : (lg_cmp a4 0) = 0
    · rw [if_pos c7] at h
      obtain ⟨e1, e2⟩ := sh_some2 h
      exact e2 ▸ hF
    · rw [if_neg c7] at h
      obtain ⟨e1, e2⟩ := sh_some2 h
      exact e2 ▸ hF
  rw [if_neg c6] at h
  by_cases c8 : a1 = 30
  · rw [if_pos c8] at h
    obtain ⟨e1, e2⟩ := sh_some2 h
    exact e2 ▸ hF
  rw [if_neg c8] at h
  by_cases c9 : a1 = 31
  · rw [if_pos c9] at h
    by_cases c10 : a3 = 0
    · rw [if_pos c10] at h
      obtain ⟨e1, e2⟩ := sh_some2 h
      exact e2 ▸ hF
    · rw [if_neg c10] at h
      by_cases c11 : (lg_cmp a4 a2) ≤ 0
      · rw [if_pos c11] at h
        obtain ⟨e1, e2⟩ := sh_some2 h
        exact e2 ▸ hF
      · rw [if_neg c11] at h
        obtain ⟨e1, e2⟩ := sh_some2 h
        exact e2 ▸ hF
  rw [if_neg c9] at h
  by_cases c12 : a3 = 0
  · rw [if_pos c12] at h
    obtain ⟨e1, e2⟩ := sh_some2 h
    exact e2 ▸ hF
  · rw [if_neg c12] at h
    by_cases c13 : 0 ≤ (lg_cmp a4 a2)
    · rw [if_pos c13] at h
      obtain ⟨e1, e2⟩ := sh_some2 h
      exact e2 ▸ hF
    · rw [if_neg c13] at h
      obtain ⟨e1, e2⟩ := sh_some2 h
      exact e2 ▸ hF
theorem fpl_X11_checkOf (fuel : Nat) : (∀ ⦃n : Nat⦄ ⦃r0 : Nat⦄ ⦃i1 : Int32⦄ ⦃i2 : Int32⦄ ⦃i3 : Int32⦄ ⦃μ μ' : sh_Mem⦄ ⦃v : Int32⦄, sh_G μ → sh_LAY[r0]? = some (13, n) → r0 < 291 → F_X11_checkOf fuel 1 n r0 i1 i2 i3 μ = some (v, μ') → sh_offM μ μ') := by
  induction fuel with
  | zero => intro n r0 i1 i2 i3 μ μ' v hG hr0 hr0l h; cases h
  | succ fuel ih =>
    have ih_6 := ih
    intro n r0 i1 i2 i3 μ μ' v hG hr0 hr0l h
    replace h : ((if i1 ≤ i3 then some (i2, μ) else (if (Int32.ofNat n) ≤ i3 then some (i2, μ) else (if sh_in i3 n then sh_let ((((3 * i2) + (sh_i μ r0 i3.toNatClampNeg)) - ((3 * i2) + (sh_i μ r0 i3.toNatClampNeg)) / 251 * 251) : Int32) (fun x8 => F_X11_checkOf fuel 1 n r0 i1 x8 (i3 + 1) μ) else none))) : Option (Int32 × sh_Mem)) = some (v, μ') := h
    have hF : sh_offM μ μ := sh_offM.rf
    by_cases c5 : i1 ≤ i3
    · rw [if_pos c5] at h
      obtain ⟨e1, e2⟩ := sh_some2 h
      exact e2 ▸ hF
    · rw [if_neg c5] at h
      by_cases c6 : (Int32.ofNat n) ≤ i3
      · rw [if_pos c6] at h
        obtain ⟨e1, e2⟩ := sh_some2 h
        exact e2 ▸ hF
      · rw [if_neg c6] at h
        obtain ⟨k7, h⟩ := sh_chk h
        obtain ⟨x8, ex8⟩ : ∃ y : Int32, y = (((3 * i2) + (sh_i μ r0 i3.toNatClampNeg)) - ((3 * i2) + (sh_i μ r0 i3.toNatClampNeg)) / 251 * 251) := ⟨_, rfl⟩
        rw [sh_let_eq ex8] at h
        exact hF.trans (ih_6 hG hr0 hr0l h)
theorem fp_X11_checkOf {g : Nat} {n : Nat} {a2 : Int32} {μ μ' : sh_Mem} {v : Int32} (hG : sh_G μ) (hg : sh_LAY[g]? = some (13, n)) (hgl : g < 291) (h : f_X11_checkOf g n a2 μ = some (v, μ')) : sh_offM μ μ' := by
  have ih_6 := (fpl_X11_checkOf sh_fuel)
  have hF : sh_offM μ μ := sh_offM.rf
  unfold f_X11_checkOf at h
  exact hF.trans (ih_6 hG hg hgl h)
theorem fp_X11_octet {a1 : Int32} {μ μ' : sh_Mem} {v : Int32} (hG : sh_G μ) (h : f_X11_octet a1 μ = some (v, μ')) : sh_offM μ μ' := by
  have hF : sh_offM μ μ := sh_offM.rf
  unfold f_X11_octet at h
  by_cases c1 : a1 < 0
  · rw [if_pos c1] at h
    obtain ⟨e1, e2⟩ := sh_some2 h
    exact e2 ▸ hF
  · rw [if_neg c1] at h
    by_cases c2 : a1 < (sh_i μ 0 18)
    · rw [if_pos c2] at h
      obtain ⟨k3, h⟩ := sh_chk h
      obtain ⟨e1, e2⟩ := sh_some2 h
      exact e2 ▸ hF
    · rw [if_neg c2] at h
      obtain ⟨e1, e2⟩ := sh_some2 h
      exact e2 ▸ hF
theorem fpl_X11_isPersonTold (fuel : Nat) : (∀ ⦃i1 : Int32⦄ ⦃i2 : Int32⦄ ⦃i3 : Int32⦄ ⦃μ μ' : sh_Mem⦄ ⦃v : Int32⦄, sh_G μ → F_X11_isPersonTold fuel 1 i1 i2 i3 μ = some (v, μ') → sh_offM μ μ') := by
  induction fuel with
  | zero => intro i1 i2 i3 μ μ' v hG h; cases h
  | succ fuel ih =>
    have ih_62 := ih
    intro i1 i2 i3 μ μ' v hG h
    replace h : ((if i2 ≤ i3 then some (1, μ) else (if sh_in i3 1600 then (if sh_in i2 1600 then (if (sh_i μ 1 i3.toNatClampNeg) = (sh_i μ 1 i2.toNatClampNeg) then (if sh_in (i3 + 1) 1600 then (if sh_in (i2 + 1) 1600 then (if (sh_i μ 1 ((i3 + 1)).toNatClampNeg) = (sh_i μ 1 ((i2 + 1)).toNatClampNeg) then some (0, μ) else F_X11_isPersonTold fuel 1 i1 i2 (i3 + 4) μ) else none) else none) else F_X11_isPersonTold fuel 1 i1 i2 (i3 + 4) μ) else none) else none)) : Option (Int32 × sh_Mem)) = some (v, μ') := h
    have hF : sh_offM μ μ := sh_offM.rf
    by_cases c19 : i2 ≤ i3
    · rw [if_pos c19] at h
      obtain ⟨e1, e2⟩ := sh_some2 h
      exact e2 ▸ hF
    · rw [if_neg c19] at h
      obtain ⟨k20, h⟩ := sh_chk h
      obtain ⟨k21, h⟩ := sh_chk h
      by_cases c22 : (sh_i μ 1 i3.toNatClampNeg) = (sh_i μ 1 i2.toNatClampNeg)
      · rw [if_pos c22] at h
        obtain ⟨k23, h⟩ := sh_chk h
        obtain ⟨k24, h⟩ := sh_chk h
        by_cases c25 : (sh_i μ 1 ((i3 + 1)).toNatClampNeg) = (sh_i μ 1 ((i2 + 1)).toNatClampNeg)
        · rw [if_pos c25] at h
          obtain ⟨e1, e2⟩ := sh_some2 h
          exact e2 ▸ hF
        · rw [if_neg c25] at h
          exact hF.trans (ih_62 hG h)
      · rw [if_neg c22] at h
        exact hF.trans (ih_62 hG h)
theorem fp_X11_isPersonTold {a1 : Int32} {a2 : Int32} {μ μ' : sh_Mem} {v : Int32} (hG : sh_G μ) (h : f_X11_isPersonTold a1 a2 μ = some (v, μ')) : sh_offM μ μ' := by
  have ih_62 := (fpl_X11_isPersonTold sh_fuel)
  have hF : sh_offM μ μ := sh_offM.rf
  unfold f_X11_isPersonTold at h
  obtain ⟨k26, h⟩ := sh_chk h
  obtain ⟨r27, er27⟩ : ∃ y : Nat, y = (sh_ref μ 0 7) := ⟨_, rfl⟩
  rw [sh_let_eq er27] at h
  have k26r : sh_r μ 0 7 = some r27 ∧ (r27 = 8 ∨ r27 = 29) := by rw [er27]; exact k26
  obtain ⟨k28, h⟩ := sh_chk h
  obtain ⟨k29, h⟩ := sh_chk h
  by_cases c30 : (f_X5_cellAt μ r27 (sh_i μ 1 a2.toNatClampNeg) (sh_i μ 1 ((a2 + 1)).toNatClampNeg)) = (-1)
  · rw [if_pos c30] at h
    obtain ⟨e1, e2⟩ := sh_some2 h
    exact e2 ▸ hF
  · rw [if_neg c30] at h
    obtain ⟨k31, h⟩ := sh_chk h
    by_cases c32 : 9 < (sh_i μ 1 ((a2 + 2)).toNatClampNeg)
    · rw [if_pos c32] at h
      obtain ⟨e1, e2⟩ := sh_some2 h
      exact e2 ▸ hF
    · rw [if_neg c32] at h
      obtain ⟨k33, h⟩ := sh_chk h
      obtain ⟨k34, h⟩ := sh_chk h
      obtain ⟨r35, er35⟩ : ∃ y : Nat, y = (sh_ref μ 0 7) := ⟨_, rfl⟩
      rw [sh_let_eq er35] at h
      have k34r : sh_r μ 0 7 = some r35 ∧ (r35 = 8 ∨ r35 = 29) := by rw [er35]; exact k34
      by_cases c36 : (sh_i μ 1 ((a2 + 3)).toNatClampNeg) < ((1 : Int32) <<< ((sh_i μ r35 2) &&& 31))
      · rw [if_pos c36] at h
        exact hF.trans (ih_62 hG h)
      · rw [if_neg c36] at h
        obtain ⟨e1, e2⟩ := sh_some2 h
        exact e2 ▸ hF
theorem fp_X11_status {a1 : Int32} {μ μ' : sh_Mem} {v : Int32} (hG : sh_G μ) (h : f_X11_status a1 μ = some (v, μ')) : sh_offM μ μ' := by
  have hF : sh_offM μ μ := sh_offM.rf
  unfold f_X11_status at h
  by_cases c1 : a1 < 0
  · rw [if_pos c1] at h
    obtain ⟨e1, e2⟩ := sh_some2 h
    exact e2 ▸ hF
  · rw [if_neg c1] at h
    by_cases c2 : a1 < 6
    · rw [if_pos c2] at h
      obtain ⟨k3, h⟩ := sh_chk h
      obtain ⟨e1, e2⟩ := sh_some2 h
      exact e2 ▸ hF
    · rw [if_neg c2] at h
      obtain ⟨e1, e2⟩ := sh_some2 h
      exact e2 ▸ hF
theorem fp_J6_bitCount_0f7a4 {a1 : Int32} {μ μ' : sh_Mem} {v : Int32} (hG : sh_G μ) (h : f_J6_bitCount_0f7a4 a1 μ = some (v, μ')) : sh_offM μ μ' := by
  have hF : sh_offM μ μ := sh_offM.rf
  unfold f_J6_bitCount_0f7a4 at h
  obtain ⟨x1, ex1⟩ : ∃ y : Int32, y = (a1 - ((a1.toUInt32 >>> (Int32.toUInt32 1 &&& Int32.toUInt32 31)).toInt32 &&& 1431655765)) := ⟨_, rfl⟩
  rw [sh_let_eq ex1] at h
  obtain ⟨x2, ex2⟩ : ∃ y : Int32, y = ((x1 &&& 858993459) + ((x1.toUInt32 >>> (Int32.toUInt32 2 &&& Int32.toUInt32 31)).toInt32 &&& 858993459)) := ⟨_, rfl⟩
  rw [sh_let_eq ex2] at h
  obtain ⟨x3, ex3⟩ : ∃ y : Int32, y = ((x2 + (x2.toUInt32 >>> (Int32.toUInt32 4 &&& Int32.toUInt32 31)).toInt32) &&& 252645135) := ⟨_, rfl⟩
  rw [sh_let_eq ex3] at h
  obtain ⟨x4, ex4⟩ : ∃ y : Int32, y = (x3 + (x3.toUInt32 >>> (Int32.toUInt32 8 &&& Int32.toUInt32 31)).toInt32) := ⟨_, rfl⟩
  rw [sh_let_eq ex4] at h
  obtain ⟨x5, ex5⟩ : ∃ y : Int32, y = (x4 + (x4.toUInt32 >>> (Int32.toUInt32 16 &&& Int32.toUInt32 31)).toInt32) := ⟨_, rfl⟩
  rw [sh_let_eq ex5] at h
  obtain ⟨e1, e2⟩ := sh_some2 h
  exact e2 ▸ hF
theorem fp_J9_floorDiv_f86c9 {a1 : Int64} {a2 : Int64} {μ μ' : sh_Mem} {v : Int64} (hG : sh_G μ) (h : f_J9_floorDiv_f86c9 a1 a2 μ = some (v, μ')) : sh_offM μ μ' := by
  have hF : sh_offM μ μ := sh_offM.rf
  unfold f_J9_floorDiv_f86c9 at h
  obtain ⟨k1, h⟩ := sh_chk h
  obtain ⟨x2, ex2⟩ : ∃ y : Int64, y = (a1 / a2) := ⟨_, rfl⟩
  rw [sh_let_eq ex2] at h
  by_cases c3 : 0 ≤ (lg_cmp (a1 ^^^ a2) 0)
  · rw [if_pos c3] at h
    obtain ⟨e1, e2⟩ := sh_some2 h
    exact e2 ▸ hF
  · rw [if_neg c3] at h
    by_cases c4 : (lg_cmp (x2 * a2) a1) = 0
    · rw [if_pos c4] at h
      obtain ⟨e1, e2⟩ := sh_some2 h
      exact e2 ▸ hF
    · rw [if_neg c4] at h
      obtain ⟨e1, e2⟩ := sh_some2 h
      exact e2 ▸ hF
theorem fpl_J7_fill_53178 (fuel : Nat) : (∀ ⦃n : Nat⦄ ⦃r0 : Nat⦄ ⦃i1 : Int32⦄ ⦃i2 : Int32⦄ ⦃i3 : Int32⦄ ⦃μ μ' : sh_Mem⦄, sh_G μ → sh_LAY[r0]? = some (13, n) → r0 < 291 → F_J7_fill_53178 fuel 1 n r0 i1 i2 i3 μ = some μ' → sh_offM μ μ') := by
  induction fuel with
  | zero => intro n r0 i1 i2 i3 μ μ' hG hr0 hr0l h; cases h
  | succ fuel ih =>
    have ih_5 := ih
    intro n r0 i1 i2 i3 μ μ' hG hr0 hr0l h
    replace h : ((if i3 ≤ i2 then some μ else (if sh_in i2 n then sh_let (sh_setI μ r0 i2.toNatClampNeg i1) (fun μ7 => F_J7_fill_53178 fuel 1 n r0 i1 (i2 + 1) i3 μ7) else none)) : Option sh_Mem) = some μ' := h
    have hF : sh_offM μ μ := sh_offM.rf
    by_cases c5 : i3 ≤ i2
    · rw [if_pos c5] at h
      have e2 := Option.some.inj h
      exact e2 ▸ hF
    · rw [if_neg c5] at h
      obtain ⟨k6, h⟩ := sh_chk h
      obtain ⟨μ7, eμ7⟩ : ∃ y : sh_Mem, y = (sh_setI μ r0 i2.toNatClampNeg i1) := ⟨_, rfl⟩
      rw [sh_let_eq eμ7] at h
      have hG7 : sh_G μ7 := by rw [eμ7]; exact hG
      have hF7 : sh_offM μ μ7 := by rw [eμ7]; exact sh_offM_I hF hr0l
      exact hF7.trans (ih_5 hG7 hr0 hr0l h)
theorem fp_J7_fill_53178 {g : Nat} {n : Nat} {a2 : Int32} {μ μ' : sh_Mem} (hG : sh_G μ) (hg : sh_LAY[g]? = some (13, n)) (hgl : g < 291) (h : f_J7_fill_53178 g n a2 μ = some μ') : sh_offM μ μ' := by
  have ih_5 := (fpl_J7_fill_53178 sh_fuel)
  have hF : sh_offM μ μ := sh_offM.rf
  unfold f_J7_fill_53178 at h
  obtain ⟨x8, ex8⟩ : ∃ y : Int32, y = (Int32.ofNat n) := ⟨_, rfl⟩
  rw [sh_let_eq ex8] at h
  exact hF.trans (ih_5 hG hg hgl h)
theorem fpl_X0_learnOwnHeights (fuel : Nat) : (∀ ⦃r1 : Nat⦄ ⦃i2 : Int32⦄ ⦃i3 : Int32⦄ ⦃μ μ' : sh_Mem⦄, sh_G μ → sh_isL r1 → F_X0_learnOwnHeights fuel 1 r1 i2 i3 μ = some μ' → sh_offM μ μ') := by
  induction fuel with
  | zero => intro r1 i2 i3 μ μ' hG hr1 h; cases h
  | succ fuel ih =>
    have ih_2 := ih
    intro r1 i2 i3 μ μ' hG hr1 h
    replace h : ((if (sh_r μ 55 0 = some (sh_ref μ 55 0) ∧ ((sh_ref μ 55 0) = 8 ∨ (sh_ref μ 55 0) = 29)) then sh_let (sh_ref μ 55 0) (fun r16 => (if (sh_i μ r16 3) ≤ i3 then some μ else (if (sh_r μ 55 0 = some (sh_ref μ 55 0) ∧ ((sh_ref μ 55 0) = 8 ∨ (sh_ref μ 55 0) = 29)) then sh_let (sh_ref μ 55 0) (fun r19 => (if sh_in i3 7 then (if sh_in i3 7 then sh_let ((f_X5_cellAt μ r19 (sh_i μ (r1 + 2) i3.toNatClampNeg) (sh_i μ (r1 + 3) i3.toNatClampNeg)) : Int32) (fun x22 => (if x22 = (-1) then (if sh_in ((i2 * 7) + i3) 896 then sh_let (sh_setI μ 217 (((i2 * 7) + i3)).toNatClampNeg 0) (fun μ28 => F_X0_learnOwnHeights fuel 1 r1 i2 (i3 + 1) μ28) else none) else (if sh_in x22 49 then (if sh_in ((i2 * 7) + i3) 896 then sh_let (sh_setI μ 217 (((i2 * 7) + i3)).toNatClampNeg (sh_i μ (r1 + 1) x22.toNatClampNeg)) (fun μ26 => F_X0_learnOwnHeights fuel 1 r1 i2 (i3 + 1) μ26) else none) else none))) else none) else none)) else none))) else none) : Option sh_Mem) = some μ' := h
    have hF : sh_offM μ μ := sh_offM.rf
    obtain ⟨k15, h⟩ := sh_chk h
    obtain ⟨r16, er16⟩ : ∃ y : Nat, y = (sh_ref μ 55 0) := ⟨_, rfl⟩
    rw [sh_let_eq er16] at h
    have k15r : sh_r μ 55 0 = some r16 ∧ (r16 = 8 ∨ r16 = 29) := by rw [er16]; exact k15
    by_cases c17 : (sh_i μ r16 3) ≤ i3
    · rw [if_pos c17] at h
      have e2 := Option.some.inj h
      exact e2 ▸ hF
    · rw [if_neg c17] at h
      obtain ⟨k18, h⟩ := sh_chk h
      obtain ⟨r19, er19⟩ : ∃ y : Nat, y = (sh_ref μ 55 0) := ⟨_, rfl⟩
      rw [sh_let_eq er19] at h
      have k18r : sh_r μ 55 0 = some r19 ∧ (r19 = 8 ∨ r19 = 29) := by rw [er19]; exact k18
      obtain ⟨k20, h⟩ := sh_chk h
      obtain ⟨k21, h⟩ := sh_chk h
      obtain ⟨x22, ex22⟩ : ∃ y : Int32, y = (f_X5_cellAt μ r19 (sh_i μ (r1 + 2) i3.toNatClampNeg) (sh_i μ (r1 + 3) i3.toNatClampNeg)) := ⟨_, rfl⟩
      rw [sh_let_eq ex22] at h
      by_cases c23 : x22 = (-1)
      · rw [if_pos c23] at h
        obtain ⟨k27, h⟩ := sh_chk h
        obtain ⟨μ28, eμ28⟩ : ∃ y : sh_Mem, y = (sh_setI μ 217 (((i2 * 7) + i3)).toNatClampNeg 0) := ⟨_, rfl⟩
        rw [sh_let_eq eμ28] at h
        have hG28 : sh_G μ28 := by rw [eμ28]; exact hG
        have hF28 : sh_offM μ μ28 := by rw [eμ28]; exact sh_offM_I hF (by decide)
        exact hF28.trans (ih_2 hG28 hr1 h)
      · rw [if_neg c23] at h
        obtain ⟨k24, h⟩ := sh_chk h
        obtain ⟨k25, h⟩ := sh_chk h
        obtain ⟨μ26, eμ26⟩ : ∃ y : sh_Mem, y = (sh_setI μ 217 (((i2 * 7) + i3)).toNatClampNeg (sh_i μ (r1 + 1) x22.toNatClampNeg)) := ⟨_, rfl⟩
        rw [sh_let_eq eμ26] at h
        have hG26 : sh_G μ26 := by rw [eμ26]; exact hG
        have hF26 : sh_offM μ μ26 := by rw [eμ26]; exact sh_offM_I hF (by decide)
        exact hF26.trans (ih_2 hG26 hr1 h)
theorem fp_X0_learnOwnHeights {q1 : Nat} {a2 : Int32} {μ μ' : sh_Mem} (hG : sh_G μ) (hq1 : sh_isL q1) (h : f_X0_learnOwnHeights q1 a2 μ = some μ') : sh_offM μ μ' := by
  have ih_2 := (fpl_X0_learnOwnHeights sh_fuel)
  have hF : sh_offM μ μ := sh_offM.rf
  unfold f_X0_learnOwnHeights at h
  exact hF.trans (ih_2 hG hq1 h)
theorem fpl_X0_isAsSeen (fuel : Nat) : (∀ ⦃r1 : Nat⦄ ⦃i2 : Int32⦄ ⦃i3 : Int32⦄ ⦃μ μ' : sh_Mem⦄ ⦃v : Int32⦄, sh_G μ → sh_isL r1 → F_X0_isAsSeen fuel 1 r1 i2 i3 μ = some (v, μ') → sh_offM μ μ') := by
  induction fuel with
  | zero => intro r1 i2 i3 μ μ' v hG hr1 h; cases h
  | succ fuel ih =>
    have ih_2 := ih
    intro r1 i2 i3 μ μ' v hG hr1 h
    replace h : ((if ((sh_i μ 208 4) * 4) ≤ i3 then some (1, μ) else (if (Int32.ofNat 64) < (i3 + 4) then some (1, μ) else (if sh_in i3 64 then (if (sh_i μ 216 i3.toNatClampNeg) = i2 then (if (sh_r μ 55 0 = some (sh_ref μ 55 0) ∧ ((sh_ref μ 55 0) = 8 ∨ (sh_ref μ 55 0) = 29)) then sh_let (sh_ref μ 55 0) (fun r20 => (if sh_in (i3 + 1) 64 then (if sh_in (i3 + 2) 64 then sh_let ((f_X5_cellAt μ r20 (sh_i μ 216 ((i3 + 1)).toNatClampNeg) (sh_i μ 216 ((i3 + 2)).toNatClampNeg)) : Int32) (fun x23 => (if 999 < (sh_i μ r1 0) then some (0, μ) else (if x23 = (-1) then some (0, μ) else (if sh_in x23 49 then (if sh_in (i3 + 3) 64 then (if (sh_i μ (r1 + 1) x23.toNatClampNeg) = (sh_i μ 216 ((i3 + 3)).toNatClampNeg) then F_X0_isAsSeen fuel 1 r1 i2 (i3 + 4) μ else some (0, μ)) else none) else none)))) else none) else none)) else none) else F_X0_isAsSeen fuel 1 r1 i2 (i3 + 4) μ) else none))) : Option (Int32 × sh_Mem)) = some (v, μ') := h
    have hF : sh_offM μ μ := sh_offM.rf
    by_cases c15 : ((sh_i μ 208 4) * 4) ≤ i3
    · rw [if_pos c15] at h
      obtain ⟨e1, e2⟩ := sh_some2 h
      exact e2 ▸ hF
    · rw [if_neg c15] at h
      by_cases c16 : (Int32.ofNat 64) < (i3 + 4)
      · rw [if_pos c16] at h
        obtain ⟨e1, e2⟩ := sh_some2 h
        exact e2 ▸ hF
      · rw [if_neg c16] at h
        obtain ⟨k17, h⟩ := sh_chk h
        by_cases c18 : (sh_i μ 216 i3.toNatClampNeg) = i2
        · rw [if_pos c18] at h
          obtain ⟨k19, h⟩ := sh_chk h
          obtain ⟨r20, er20⟩ : ∃ y : Nat, y = (sh_ref μ 55 0) := ⟨_, rfl⟩
          rw [sh_let_eq er20] at h
          have k19r : sh_r μ 55 0 = some r20 ∧ (r20 = 8 ∨ r20 = 29) := by rw [er20]; exact k19
          obtain ⟨k21, h⟩ := sh_chk h
          obtain ⟨k22, h⟩ := sh_chk h
          obtain ⟨x23, ex23⟩ : ∃ y : Int32, y = (f_X5_cellAt μ r20 (sh_i μ 216 ((i3 + 1)).toNatClampNeg) (sh_i μ 216 ((i3 + 2)).toNatClampNeg)) := ⟨_, rfl⟩
          rw [sh_let_eq ex23] at h
          by_cases c24 : 999 < (sh_i μ r1 0)
          · rw [if_pos c24] at h
            obtain ⟨e1, e2⟩ := sh_some2 h
            exact e2 ▸ hF
          · rw [if_neg c24] at h
            by_cases c25 : x23 = (-1)
            · rw [if_pos c25] at h
              obtain ⟨e1, e2⟩ := sh_some2 h
              exact e2 ▸ hF
            · rw [if_neg c25] at h
              obtain ⟨k26, h⟩ := sh_chk h
              obtain ⟨k27, h⟩ := sh_chk h
              by_cases c28 : (sh_i μ (r1 + 1) x23.toNatClampNeg) = (sh_i μ 216 ((i3 + 3)).toNatClampNeg)
              · rw [if_pos c28] at h
                exact hF.trans (ih_2 hG hr1 h)
              · rw [if_neg c28] at h
                obtain ⟨e1, e2⟩ := sh_some2 h
                exact e2 ▸ hF
        · rw [if_neg c18] at h
          exact hF.trans (ih_2 hG hr1 h)
theorem fp_X0_isAsSeen {q1 : Nat} {a2 : Int32} {μ μ' : sh_Mem} {v : Int32} (hG : sh_G μ) (hq1 : sh_isL q1) (h : f_X0_isAsSeen q1 a2 μ = some (v, μ')) : sh_offM μ μ' := by
  have ih_2 := (fpl_X0_isAsSeen sh_fuel)
  have hF : sh_offM μ μ := sh_offM.rf
  unfold f_X0_isAsSeen at h
  exact hF.trans (ih_2 hG hq1 h)
theorem fp_X1_ofTwo {a1 : Int32} {a2 : Int64} {a3 : Int64} {μ μ' : sh_Mem} {v : Int64} (hG : sh_G μ) (h : f_X1_ofTwo a1 a2 a3 μ = some (v, μ')) : sh_offM μ μ' := by
  have hF : sh_offM μ μ := sh_offM.rf
  unfold f_X1_ofTwo at h
  by_cases c1 : a1 = (-162)
  · rw [if_pos c1] at h
    by_cases c2 : (lg_cmp a2 a3) ≤ 0
    · rw [if_pos c2] at h
      obtain ⟨e1, e2⟩ := sh_some2 h
      exact e2 ▸ hF
    · rw [if_neg c2] at h
      obtain ⟨e1, e2⟩ := sh_some2 h
      exact e2 ▸ hF
  rw [if_neg c1] at h
  by_cases c3 : a1 = (-161)
  · rw [if_pos c3] at h
    by_cases c4 : (lg_cmp a2 a3) = 0
    · rw [if_pos c4] at h
      obtain ⟨e1, e2⟩ := sh_some2 h
      exact e2 ▸ hF
    · rw [if_neg c4] at h
      obtain ⟨e1, e2⟩ := sh_some2 h
      exact e2 ▸ hF
  rw [if_neg c3] at h
  by_cases c5 : a1 = (-160)
  · rw [if_pos c5] at h
    by_cases c6 : 0 ≤ (lg_cmp a2 a3)
    · rw [if_pos c6] at h
      obtain ⟨e1, e2⟩ := sh_some2 h
      exact e2 ▸ hF
    · rw [if_neg c6] at h
      obtain ⟨e1, e2⟩ := sh_some2 h
      exact e2 ▸ hF
  rw [if_neg c5] at h
  by_cases c7 : a1 = (-147)
  · rw [if_pos c7] at h
    by_cases c8 : (lg_cmp a3 0) = 0
    · rw [if_pos c8] at h
      obtain ⟨e1, e2⟩ := sh_some2 h
      exact e2 ▸ hF
    · rw [if_neg c8] at h
      obtain ⟨y11, μ9, hr10, h⟩ := sh_bind_e h
      have hG9 := gp_J9_floorDiv_f86c9 hG hr10
      have hF9 := hF.trans (fp_J9_floorDiv_f86c9 hG hr10)
      obtain ⟨e1, e2⟩ := sh_some2 h
      exact e2 ▸ hF9
  rw [if_neg c7] at h
  by_cases c12 : a1 = (-145)
  · rw [if_pos c12] at h
    obtain ⟨e1, e2⟩ := sh_some2 h
    exact e2 ▸ hF
  rw [if_neg c12] at h
  by_cases c13 : a1 = (-143)
  · rw [if_pos c13] at h
    obtain ⟨e1, e2⟩ := sh_some2 h
    exact e2 ▸ hF
  rw [if_neg c13] at h
  by_cases c14 : a1 = (-142)
  · rw [if_pos c14] at h
    obtain ⟨e1, e2⟩ := sh_some2 h
    exact e2 ▸ hF
  rw [if_neg c14] at h
  by_cases c15 : a1 = (-26)
  · rw [if_pos c15] at h
    obtain ⟨e1, e2⟩ := sh_some2 h
    exact e2 ▸ hF
  rw [if_neg c15] at h
  by_cases c16 : a1 = (-23)
  · rw [if_pos c16] at h
    obtain ⟨e1, e2⟩ := sh_some2 h
    exact e2 ▸ hF
  rw [if_neg c16] at h
  obtain ⟨e1, e2⟩ := sh_some2 h
  exact e2 ▸ hF
theorem fp_X5_clear {p : Nat} {μ μ' : sh_Mem} (hG : sh_G μ) (hp : sh_isP p) (h : f_X5_clear p μ = some μ') : sh_offM μ μ' := by
  have hF : sh_offM μ μ := sh_offM.rf
  unfold f_X5_clear at h
  obtain ⟨μ1, eμ1⟩ : ∃ y : sh_Mem, y = (sh_setI μ p 0 0) := ⟨_, rfl⟩
  rw [sh_let_eq eμ1] at h
  have hG1 : sh_G μ1 := by rw [eμ1]; exact hG
  have hF1 : sh_offM μ μ1 := by rw [eμ1]; exact sh_offM_I hF (sh_ltP hp 0 (by decide))
  obtain ⟨μ2, eμ2⟩ : ∃ y : sh_Mem, y = (sh_setI μ1 p 1 0) := ⟨_, rfl⟩
  rw [sh_let_eq eμ2] at h
  have hG2 : sh_G μ2 := by rw [eμ2]; exact hG1
  have hF2 : sh_offM μ μ2 := by rw [eμ2]; exact sh_offM_I hF1 (sh_ltP hp 0 (by decide))
  obtain ⟨μ3, eμ3⟩ : ∃ y : sh_Mem, y = (sh_setI μ2 p 2 0) := ⟨_, rfl⟩
  rw [sh_let_eq eμ3] at h
  have hG3 : sh_G μ3 := by rw [eμ3]; exact hG2
  have hF3 : sh_offM μ μ3 := by rw [eμ3]; exact sh_offM_I hF2 (sh_ltP hp 0 (by decide))
  obtain ⟨μ4, eμ4⟩ : ∃ y : sh_Mem, y = (sh_setI μ3 p 3 0) := ⟨_, rfl⟩
  rw [sh_let_eq eμ4] at h
  have hG4 : sh_G μ4 := by rw [eμ4]; exact hG3
  have hF4 : sh_offM μ μ4 := by rw [eμ4]; exact sh_offM_I hF3 (sh_ltP hp 0 (by decide))
  obtain ⟨μ5, eμ5⟩ : ∃ y : sh_Mem, y = (sh_setI μ4 p 4 0) := ⟨_, rfl⟩
  rw [sh_let_eq eμ5] at h
  have hG5 : sh_G μ5 := by rw [eμ5]; exact hG4
  have hF5 : sh_offM μ μ5 := by rw [eμ5]; exact sh_offM_I hF4 (sh_ltP hp 0 (by decide))
  obtain ⟨μ6, eμ6⟩ : ∃ y : sh_Mem, y = (sh_setI μ5 p 5 0) := ⟨_, rfl⟩
  rw [sh_let_eq eμ6] at h
  have hG6 : sh_G μ6 := by rw [eμ6]; exact hG5
  have hF6 : sh_offM μ μ6 := by rw [eμ6]; exact sh_offM_I hF5 (sh_ltP hp 0 (by decide))
  obtain ⟨μ7, hr8, h⟩ := sh_bindv_e h
  have hG7 := gp_J7_fill_53178 hG6 (gLA1 (gP_land hp)) hr8
  have hF7 := hF6.trans (fp_J7_fill_53178 hG6 (gLA1 (gP_land hp)) (sh_ltL (gP_land hp) 1 (by decide)) hr8)
  obtain ⟨μ10, eμ10⟩ : ∃ y : sh_Mem, y = (sh_setI μ7 p 13 0) := ⟨_, rfl⟩
  rw [sh_let_eq eμ10] at h
  have hG10 : sh_G μ10 := by rw [eμ10]; exact hG7
  have hF10 : sh_offM μ μ10 := by rw [eμ10]; exact sh_offM_I hF7 (sh_ltP hp 0 (by decide))
  obtain ⟨μ11, eμ11⟩ : ∃ y : sh_Mem, y = (sh_setI μ10 p 14 0) := ⟨_, rfl⟩
  rw [sh_let_eq eμ11] at h
  have hG11 : sh_G μ11 := by rw [eμ11]; exact hG10
  have hF11 : sh_offM μ μ11 := by rw [eμ11]; exact sh_offM_I hF10 (sh_ltP hp 0 (by decide))
  obtain ⟨μ12, eμ12⟩ : ∃ y : sh_Mem, y = (sh_setI μ11 p 15 0) := ⟨_, rfl⟩
  rw [sh_let_eq eμ12] at h
  have hG12 : sh_G μ12 := by rw [eμ12]; exact hG11
  have hF12 : sh_offM μ μ12 := by rw [eμ12]; exact sh_offM_I hF11 (sh_ltP hp 0 (by decide))
  obtain ⟨μ13, eμ13⟩ : ∃ y : sh_Mem, y = (sh_setI μ12 (p + 5) 1 0) := ⟨_, rfl⟩
  rw [sh_let_eq eμ13] at h
  have hG13 : sh_G μ13 := by rw [eμ13]; exact hG12
  have hF13 : sh_offM μ μ13 := by rw [eμ13]; exact sh_offM_I hF12 (sh_ltF (gP_f10 hp) 0 (by decide))
  obtain ⟨μ14, hr15, h⟩ := sh_bindv_e h
  have hG14 := gp_X1_add hG13 (gP_f10 hp) hr15
  have hF14 := hF13.trans (fp_X1_add hG13 (gP_f10 hp) hr15)
  obtain ⟨μ17, eμ17⟩ : ∃ y : sh_Mem, y = (sh_setI μ14 (p + 8) 1 0) := ⟨_, rfl⟩
  rw [sh_let_eq eμ17] at h
  have hG17 : sh_G μ17 := by rw [eμ17]; exact hG14
  have hF17 : sh_offM μ μ17 := by rw [eμ17]; exact sh_offM_I hF14 (sh_ltF (gP_f11 hp) 0 (by decide))
  obtain ⟨μ18, hr19, h⟩ := sh_bindv_e h
  have hG18 := gp_X1_addWord hG17 (gP_f11 hp) hr19
  have hF18 := hF17.trans (fp_X1_addWord hG17 (gP_f11 hp) hr19)
  obtain ⟨μ21, hr22, h⟩ := sh_bindv_e h
  have hG21 := gp_X1_add hG18 (gP_f11 hp) hr22
  have hF21 := hF18.trans (fp_X1_add hG18 (gP_f11 hp) hr22)
  obtain ⟨μ24, hr25, h⟩ := sh_bindv_e h
  have hG24 := gp_X1_addMark hG21 (gP_f11 hp) hr25
  have hF24 := hF21.trans (fp_X1_addMark hG21 (gP_f11 hp) hr25)
  obtain ⟨μ27, eμ27⟩ : ∃ y : sh_Mem, y = (sh_setI μ24 (p + 11) 1 0) := ⟨_, rfl⟩
  rw [sh_let_eq eμ27] at h
  have hG27 : sh_G μ27 := by rw [eμ27]; exact hG24
  have hF27 : sh_offM μ μ27 := by rw [eμ27]; exact sh_offM_I hF24 (sh_ltF (gP_f12 hp) 0 (by decide))
  obtain ⟨μ28, hr29, h⟩ := sh_bindv_e h
  have hG28 := gp_X1_add hG27 (gP_f12 hp) hr29
  have hF28 := hF27.trans (fp_X1_add hG27 (gP_f12 hp) hr29)
  have e2 := Option.some.inj h
  exact e2 ▸ hF28
theorem fp_X5_topicOf {p : Nat} {a1 : Int32} {μ μ' : sh_Mem} {v : Int32} (hG : sh_G μ) (hp : sh_isP p) (h : f_X5_topicOf p a1 μ = some (v, μ')) : sh_offM μ μ' := by
  have hF : sh_offM μ μ := sh_offM.rf
  unfold f_X5_topicOf at h
  obtain ⟨y3, μ1, hr2, h⟩ := sh_bind_e h
  have hG1 := gp_X5_placeOf hG (gPA6 hp) hr2
  have hF1 := hF.trans (fp_X5_placeOf hG (gPA6 hp) (sh_ltP hp 1 (by decide)) hr2)
  obtain ⟨e1, e2⟩ := sh_some2 h
  exact e2 ▸ hF1
theorem fp_X5_personOf {p : Nat} {a1 : Int32} {μ μ' : sh_Mem} {v : Int32} (hG : sh_G μ) (hp : sh_isP p) (h : f_X5_personOf p a1 μ = some (v, μ')) : sh_offM μ μ' := by
  have hF : sh_offM μ μ := sh_offM.rf
  unfold f_X5_personOf at h
  obtain ⟨y3, μ1, hr2, h⟩ := sh_bind_e h
  have hG1 := gp_X5_placeOf hG (gPA7 hp) hr2
  have hF1 := hF.trans (fp_X5_placeOf hG (gPA7 hp) (sh_ltP hp 2 (by decide)) hr2)
  obtain ⟨e1, e2⟩ := sh_some2 h
  exact e2 ▸ hF1
theorem fp_X6_isNew {a1 : Int32} {μ μ' : sh_Mem} {v : Int32} (hG : sh_G μ) (h : f_X6_isNew a1 μ = some (v, μ')) : sh_offM μ μ' := by
  have hF : sh_offM μ μ := sh_offM.rf
  unfold f_X6_isNew at h
  by_cases c1 : a1 = (-1)
  · rw [if_pos c1] at h
    obtain ⟨e1, e2⟩ := sh_some2 h
    exact e2 ▸ hF
  · rw [if_neg c1] at h
    obtain ⟨k2, h⟩ := sh_chk h
    obtain ⟨r3, er3⟩ : ∃ y : Nat, y = (sh_ref μ 7 2) := ⟨_, rfl⟩
    rw [sh_let_eq er3] at h
    have k2r : sh_r μ 7 2 = some r3 ∧ (r3 = 8 ∨ r3 = 29) := by rw [er3]; exact k2
    obtain ⟨y6, μ4, hr5, h⟩ := sh_bind_e h
    have hG4 := gp_X5_topicOf hG k2r.2 hr5
    have hF4 := hF.trans (fp_X5_topicOf hG k2r.2 hr5)
    by_cases c7 : y6 = (-1)
    · rw [if_pos c7] at h
      obtain ⟨k12, h⟩ := sh_chk h
      obtain ⟨r13, er13⟩ : ∃ y : Nat, y = (sh_ref μ4 7 2) := ⟨_, rfl⟩
      rw [sh_let_eq er13] at h
      have k12r : sh_r μ4 7 2 = some r13 ∧ (r13 = 8 ∨ r13 = 29) := by rw [er13]; exact k12
      obtain ⟨y16, μ14, hr15, h⟩ := sh_bind_e h
      have hG14 := gp_X5_personOf hG4 k12r.2 hr15
      have hF14 := hF4.trans (fp_X5_personOf hG4 k12r.2 hr15)
      by_cases c17 : y16 = (-1)
      · rw [if_pos c17] at h
        obtain ⟨e1, e2⟩ := sh_some2 h
        exact e2 ▸ hF14
      · rw [if_neg c17] at h
        obtain ⟨y20, μ18, hr19, h⟩ := sh_bind_e h
        have hG18 := gp_X8_fails hG14 hr19
        have hF18 := hF14.trans (fp_X8_fails hG14 hr19)
        obtain ⟨k21, h⟩ := sh_chk h
        obtain ⟨e1, e2⟩ := sh_some2 h
        exact e2 ▸ hF18
    · rw [if_neg c7] at h
      obtain ⟨y10, μ8, hr9, h⟩ := sh_bind_e h
      have hG8 := gp_X8_fails hG4 hr9
      have hF8 := hF4.trans (fp_X8_fails hG4 hr9)
      obtain ⟨k11, h⟩ := sh_chk h
      obtain ⟨e1, e2⟩ := sh_some2 h
      exact e2 ▸ hF8
theorem fp_X6_asPerson {a1 : Int32} {μ μ' : sh_Mem} {v : Int32} (hG : sh_G μ) (h : f_X6_asPerson a1 μ = some (v, μ')) : sh_offM μ μ' := by
  have hF : sh_offM μ μ := sh_offM.rf
  unfold f_X6_asPerson at h
  obtain ⟨k1, h⟩ := sh_chk h
  obtain ⟨r2, er2⟩ : ∃ y : Nat, y = (sh_ref μ 7 2) := ⟨_, rfl⟩
  rw [sh_let_eq er2] at h
  have k1r : sh_r μ 7 2 = some r2 ∧ (r2 = 8 ∨ r2 = 29) := by rw [er2]; exact k1
  obtain ⟨y5, μ3, hr4, h⟩ := sh_bind_e h
  have hG3 := gp_X5_personOf hG k1r.2 hr4
  have hF3 := hF.trans (fp_X5_personOf hG k1r.2 hr4)
  by_cases c6 : y5 = (-1)
  · rw [if_pos c6] at h
    obtain ⟨y9, μ7, hr8, h⟩ := sh_bind_e h
    have hG7 := gp_X8_fails hG3 hr8
    have hF7 := hF3.trans (fp_X8_fails hG3 hr8)
    obtain ⟨e1, e2⟩ := sh_some2 h
    exact e2 ▸ hF7
  · rw [if_neg c6] at h
    obtain ⟨e1, e2⟩ := sh_some2 h
    exact e2 ▸ hF3
theorem fp_X6_asTopic {a1 : Int32} {μ μ' : sh_Mem} {v : Int32} (hG : sh_G μ) (h : f_X6_asTopic a1 μ = some (v, μ')) : sh_offM μ μ' := by
  have hF : sh_offM μ μ := sh_offM.rf
  unfold f_X6_asTopic at h
  obtain ⟨k1, h⟩ := sh_chk h
  obtain ⟨r2, er2⟩ : ∃ y : Nat, y = (sh_ref μ 7 2) := ⟨_, rfl⟩
  rw [sh_let_eq er2] at h
  have k1r : sh_r μ 7 2 = some r2 ∧ (r2 = 8 ∨ r2 = 29) := by rw [er2]; exact k1
  obtain ⟨y5, μ3, hr4, h⟩ := sh_bind_e h
  have hG3 := gp_X5_topicOf hG k1r.2 hr4
  have hF3 := hF.trans (fp_X5_topicOf hG k1r.2 hr4)
  by_cases c6 : y5 = (-1)
  · rw [if_pos c6] at h
    obtain ⟨y9, μ7, hr8, h⟩ := sh_bind_e h
    have hG7 := gp_X8_fails hG3 hr8
    have hF7 := hF3.trans (fp_X8_fails hG3 hr8)
    obtain ⟨e1, e2⟩ := sh_some2 h
    exact e2 ▸ hF7
  · rw [if_neg c6] at h
    obtain ⟨e1, e2⟩ := sh_some2 h
    exact e2 ▸ hF3
theorem fpl_X8_advance (fuel : Nat) : (∀ ⦃i1 : Int32⦄ ⦃i2 : Int32⦄ ⦃μ μ' : sh_Mem⦄, sh_G μ → F_X8_advance fuel 1 i1 i2 μ = some μ' → sh_offM μ μ') ∧ (∀ ⦃i1 : Int32⦄ ⦃i2 : Int32⦄ ⦃μ μ' : sh_Mem⦄, sh_G μ → F_X8_advance fuel 2 i1 i2 μ = some μ' → sh_offM μ μ') ∧ (∀ ⦃i1 : Int32⦄ ⦃i2 : Int32⦄ ⦃μ μ' : sh_Mem⦄, sh_G μ → F_X8_advance fuel 3 i1 i2 μ = some μ' → sh_offM μ μ') ∧ (∀ ⦃i1 : Int32⦄ ⦃i2 : Int32⦄ ⦃μ μ' : sh_Mem⦄, sh_G μ → F_X8_advance fuel 4 i1 i2 μ = some μ' → sh_offM μ μ') ∧ (∀ ⦃i1 : Int32⦄ ⦃i2 : Int32⦄ ⦃μ μ' : sh_Mem⦄, sh_G μ → F_X8_advance fuel 5 i1 i2 μ = some μ' → sh_offM μ μ') ∧ (∀ ⦃i1 : Int32⦄ ⦃i2 : Int32⦄ ⦃μ μ' : sh_Mem⦄, sh_G μ → F_X8_advance fuel 6 i1 i2 μ = some μ' → sh_offM μ μ') ∧ (∀ ⦃i1 : Int32⦄ ⦃i2 : Int32⦄ ⦃μ μ' : sh_Mem⦄, sh_G μ → F_X8_advance fuel 7 i1 i2 μ = some μ' → sh_offM μ μ') ∧ (∀ ⦃i1 : Int32⦄ ⦃i2 : Int32⦄ ⦃μ μ' : sh_Mem⦄, sh_G μ → F_X8_advance fuel 8 i1 i2 μ = some μ' → sh_offM μ μ') ∧ (∀ ⦃i1 : Int32⦄ ⦃i2 : Int32⦄ ⦃μ μ' : sh_Mem⦄, sh_G μ → F_X8_advance fuel 9 i1 i2 μ = some μ' → sh_offM μ μ') := by
  induction fuel with
  | zero => exact ⟨(by intro i1 i2 μ μ' hG h; cases h), (by intro i1 i2 μ μ' hG h; cases h), (by intro i1 i2 μ μ' hG h; cases h), (by intro i1 i2 μ μ' hG h; cases h), (by intro i1 i2 μ μ' hG h; cases h), (by intro i1 i2 μ μ' hG h; cases h), (by intro i1 i2 μ μ' hG h; cases h), (by intro i1 i2 μ μ' hG h; cases h), (by intro i1 i2 μ μ' hG h; cases h)⟩
  | succ fuel ih =>
    obtain ⟨ih_18, ih_37, ih_76, ih_89, ih_175, ih_210, ih_233, ih_263, ih_269⟩ := ih
    refine ⟨?_, ?_, ?_, ?_, ?_, ?_, ?_, ?_, ?_⟩
    · intro i1 i2 μ μ' hG h
      replace h : (sh_let ((sh_i μ 2 2) : Int32) (fun x83 => sh_let (sh_setI μ 2 9 (sh_i μ 2 4)) (fun μ84 => F_X8_advance fuel 2 1 x83 μ84)) : Option sh_Mem) = some μ' := h
      have hF : sh_offM μ μ := sh_offM.rf
      obtain ⟨x83, ex83⟩ : ∃ y : Int32, y = (sh_i μ 2 2) := ⟨_, rfl⟩
      rw [sh_let_eq ex83] at h
      obtain ⟨μ84, eμ84⟩ : ∃ y : sh_Mem, y = (sh_setI μ 2 9 (sh_i μ 2 4)) := ⟨_, rfl⟩
      rw [sh_let_eq eμ84] at h
      have hG84 : sh_G μ84 := by rw [eμ84]; exact hG
      have hF84 : sh_offM μ μ84 := by rw [eμ84]; exact sh_offM_I hF (by decide)
      exact hF84.trans (ih_37 hG84 h)
    · intro i1 i2 μ μ' hG h
      replace h : ((if (sh_i μ 2 1) ≤ (sh_i μ 2 2) then F_X8_advance fuel 4 i1 i2 μ else (if sh_in (sh_i μ 2 2) 1600 then (if (sh_i μ 1 ((sh_i μ 2 2)).toNatClampNeg) = 10 then F_X8_advance fuel 3 i1 i2 μ else (if sh_in (sh_i μ 2 2) 1600 then (if (sh_i μ 1 ((sh_i μ 2 2)).toNatClampNeg) = 32 then F_X8_advance fuel 3 i1 i2 μ else F_X8_advance fuel 4 i1 i2 μ) else none)) else none)) : Option sh_Mem) = some μ' := h
      have hF : sh_offM μ μ := sh_offM.rf
      by_cases c85 : (sh_i μ 2 1) ≤ (sh_i μ 2 2)
      · rw [if_pos c85] at h
        exact hF.trans (ih_89 hG h)
      · rw [if_neg c85] at h
        obtain ⟨k86, h⟩ := sh_chk h
        by_cases c87 : (sh_i μ 1 ((sh_i μ 2 2)).toNatClampNeg) = 10
        · rw [if_pos c87] at h
          exact hF.trans (ih_76 hG h)
        · rw [if_neg c87] at h
          obtain ⟨k88, h⟩ := sh_chk h
          by_cases c89 : (sh_i μ 1 ((sh_i μ 2 2)).toNatClampNeg) = 32
          · rw [if_pos c89] at h
            exact hF.trans (ih_76 hG h)
          · rw [if_neg c89] at h
            exact hF.trans (ih_89 hG h)
    · intro i1 i2 μ μ' hG h
      replace h : (sh_let (sh_setI μ 2 2 ((sh_i μ 2 2) + 1)) (fun μ90 => F_X8_advance fuel 2 i1 i2 μ90) : Option sh_Mem) = some μ' := h
      have hF : sh_offM μ μ := sh_offM.rf
      obtain ⟨μ90, eμ90⟩ : ∃ y : sh_Mem, y = (sh_setI μ 2 2 ((sh_i μ 2 2) + 1)) := ⟨_, rfl⟩
      rw [sh_let_eq eμ90] at h
      have hG90 : sh_G μ90 := by rw [eμ90]; exact hG
      have hF90 : sh_offM μ μ90 := by rw [eμ90]; exact sh_offM_I hF (by decide)
      exact hF90.trans (ih_37 hG90 h)
    · intro i1 i2 μ μ' hG h
      replace h : (sh_let (sh_setI μ 2 4 (sh_i μ 2 2)) (fun μ91 => (if (sh_i μ91 2 2) < (sh_i μ91 2 1) then (if sh_in (sh_i μ91 2 2) 1600 then (if (sh_i μ91 1 ((sh_i μ91 2 2)).toNatClampNeg) < 97 then F_X8_advance fuel 5 i1 i2 μ91 else (if sh_in (sh_i μ91 2 2) 1600 then (if 122 < (sh_i μ91 1 ((sh_i μ91 2 2)).toNatClampNeg) then F_X8_advance fuel 5 i1 i2 μ91 else sh_bindv (f_X8_takeLetters μ91) (fun μ97 => (if (sh_i μ97 2 5) ≤ 6 then sh_bind (f_X8_wordOf (sh_i μ97 2 7) μ97) (fun y103 μ101 => sh_let (sh_setI μ101 2 6 y103) (fun μ104 => F_X8_advance fuel 7 i1 i2 μ104)) else sh_let (sh_setI μ97 2 6 (-1)) (fun μ105 => F_X8_advance fuel 7 i1 i2 μ105)))) else none)) else none) else sh_let (sh_setI μ91 2 3 (-1)) (fun μ106 => F_X8_advance fuel 7 i1 i2 μ106))) : Option sh_Mem) = some μ' := h
      have hF : sh_offM μ μ := sh_offM.rf
      obtain ⟨μ91, eμ91⟩ : ∃ y : sh_Mem, y = (sh_setI μ 2 4 (sh_i μ 2 2)) := ⟨_, rfl⟩
      rw [sh_let_eq eμ91] at h
      have hG91 : sh_G μ91 := by rw [eμ91]; exact hG
      have hF91 : sh_offM μ μ91 := by rw [eμ91]; exact sh_offM_I hF (by decide)
      by_cases c92 : (sh_i μ91 2 2) < (sh_i μ91 2 1)
      · rw [if_pos c92] at h
        obtain ⟨k93, h⟩ := sh_chk h
        by_cases c94 : (sh_i μ91 1 ((sh_i μ91 2 2)).toNatClampNeg) < 97
        · rw [if_pos c94] at h
          exact hF91.trans (ih_175 hG91 h)
        · rw [if_neg c94] at h
          obtain ⟨k95, h⟩ := sh_chk h
          by_cases c96 : 122 < (sh_i μ91 1 ((sh_i μ91 2 2)).toNatClampNeg)
          · rw [if_pos c96] at h
            exact hF91.trans (ih_175 hG91 h)
          · rw [if_neg c96] at h
            obtain ⟨μ97, hr98, h⟩ := sh_bindv_e h
            have hG97 := gp_X8_takeLetters hG91 hr98
            have hF97 := hF91.trans (fp_X8_takeLetters hG91 hr98)
            by_cases c100 : (sh_i μ97 2 5) ≤ 6
            · rw [if_pos c100] at h
              obtain ⟨y103, μ101, hr102, h⟩ := sh_bind_e h
              have hG101 := gp_X8_wordOf hG97 hr102
              have hF101 := hF97.trans (fp_X8_wordOf hG97 hr102)
              obtain ⟨μ104, eμ104⟩ : ∃ y : sh_Mem, y = (sh_setI μ101 2 6 y103) := ⟨_, rfl⟩
              rw [sh_let_eq eμ104] at h
              have hG104 : sh_G μ104 := by rw [eμ104]; exact hG101
              have hF104 : sh_offM μ μ104 := by rw [eμ104]; exact sh_offM_I hF101 (by decide)
              exact hF104.trans (ih_233 hG104 h)
            · rw [if_neg c100] at h
              obtain ⟨μ105, eμ105⟩ : ∃ y : sh_Mem, y = (sh_setI μ97 2 6 (-1)) := ⟨_, rfl⟩
              rw [sh_let_eq eμ105] at h
              have hG105 : sh_G μ105 := by rw [eμ105]; exact hG97
              have hF105 : sh_offM μ μ105 := by rw [eμ105]; exact sh_offM_I hF97 (by decide)
              exact hF105.trans (ih_233 hG105 h)
      · rw [if_neg c92] at h
        obtain ⟨μ106, eμ106⟩ : ∃ y : sh_Mem, y = (sh_setI μ91 2 3 (-1)) := ⟨_, rfl⟩
        rw [sh_let_eq eμ106] at h
        have hG106 : sh_G μ106 := by rw [eμ106]; exact hG91
        have hF106 : sh_offM μ μ106 := by rw [eμ106]; exact sh_offM_I hF91 (by decide)
        exact hF106.trans (ih_233 hG106 h)
    · intro i1 i2 μ μ' hG h
      replace h : ((if sh_in (sh_i μ 2 2) 1600 then (if (sh_i μ 1 ((sh_i μ 2 2)).toNatClampNeg) < 48 then F_X8_advance fuel 6 i1 i2 μ else (if sh_in (sh_i μ 2 2) 1600 then (if 57 < (sh_i μ 1 ((sh_i μ 2 2)).toNatClampNeg) then F_X8_advance fuel 6 i1 i2 μ else sh_bindv (f_X8_takeDigits μ) (fun μ111 => F_X8_advance fuel 7 i1 i2 μ111)) else none)) else none) : Option sh_Mem) = some μ' := h
      have hF : sh_offM μ μ := sh_offM.rf
      obtain ⟨k107, h⟩ := sh_chk h
      by_cases c108 : (sh_i μ 1 ((sh_i μ 2 2)).toNatClampNeg) < 48
      · rw [if_pos c108] at h
        exact hF.trans (ih_210 hG h)
      · rw [if_neg c108] at h
        obtain ⟨k109, h⟩ := sh_chk h
        by_cases c110 : 57 < (sh_i μ 1 ((sh_i μ 2 2)).toNatClampNeg)
        · rw [if_pos c110] at h
          exact hF.trans (ih_210 hG h)
        · rw [if_neg c110] at h
          obtain ⟨μ111, hr112, h⟩ := sh_bindv_e h
          have hG111 := gp_X8_takeDigits hG hr112
          have hF111 := hF.trans (fp_X8_takeDigits hG hr112)
          exact hF111.trans (ih_233 hG111 h)
    · intro i1 i2 μ μ' hG h
      replace h : ((if sh_in (sh_i μ 2 2) 1600 then sh_let (sh_setI μ 2 3 (sh_i μ 1 ((sh_i μ 2 2)).toNatClampNeg)) (fun μ115 => sh_let (sh_setI μ115 2 2 ((sh_i μ115 2 2) + 1)) (fun μ116 => F_X8_advance fuel 7 i1 i2 μ116)) else none) : Option sh_Mem) = some μ' := h
      have hF : sh_offM μ μ := sh_offM.rf
      obtain ⟨k114, h⟩ := sh_chk h
      obtain ⟨μ115, eμ115⟩ : ∃ y : sh_Mem, y = (sh_setI μ 2 3 (sh_i μ 1 ((sh_i μ 2 2)).toNatClampNeg)) := ⟨_, rfl⟩
      rw [sh_let_eq eμ115] at h
      have hG115 : sh_G μ115 := by rw [eμ115]; exact hG
      have hF115 : sh_offM μ μ115 := by rw [eμ115]; exact sh_offM_I hF (by decide)
      obtain ⟨μ116, eμ116⟩ : ∃ y : sh_Mem, y = (sh_setI μ115 2 2 ((sh_i μ115 2 2) + 1)) := ⟨_, rfl⟩
      rw [sh_let_eq eμ116] at h
      have hG116 : sh_G μ116 := by rw [eμ116]; exact hG115
      have hF116 : sh_offM μ μ116 := by rw [eμ116]; exact sh_offM_I hF115 (by decide)
      exact hF116.trans (ih_233 hG116 h)
    · intro i1 i2 μ μ' hG h
      replace h : ((if i1 = 0 then F_X8_advance fuel 9 i1 i2 μ else (if (sh_i μ 2 4) = i2 then (if (sh_i μ 2 3) = (-2) then F_X8_advance fuel 8 i1 i2 μ else (if (sh_i μ 2 3) = (-3) then F_X8_advance fuel 8 i1 i2 μ else F_X8_advance fuel 9 i1 i2 μ)) else F_X8_advance fuel 9 i1 i2 μ)) : Option sh_Mem) = some μ' := h
      have hF : sh_offM μ μ := sh_offM.rf
      by_cases c117 : i1 = 0
      · rw [if_pos c117] at h
        exact hF.trans (ih_269 hG h)
      · rw [if_neg c117] at h
        by_cases c118 : (sh_i μ 2 4) = i2
        · rw [if_pos c118] at h
          by_cases c119 : (sh_i μ 2 3) = (-2)
          · rw [if_pos c119] at h
            exact hF.trans (ih_263 hG h)
          · rw [if_neg c119] at h
            by_cases c120 : (sh_i μ 2 3) = (-3)
            · rw [if_pos c120] at h
              exact hF.trans (ih_263 hG h)
            · rw [if_neg c120] at h
              exact hF.trans (ih_269 hG h)
        · rw [if_neg c118] at h
          exact hF.trans (ih_269 hG h)
    · intro i1 i2 μ μ' hG h
      replace h : (sh_let (sh_setI μ 2 3 (-4)) (fun μ121 => F_X8_advance fuel 9 i1 i2 μ121) : Option sh_Mem) = some μ' := h
      have hF : sh_offM μ μ := sh_offM.rf
      obtain ⟨μ121, eμ121⟩ : ∃ y : sh_Mem, y = (sh_setI μ 2 3 (-4)) := ⟨_, rfl⟩
      rw [sh_let_eq eμ121] at h
      have hG121 : sh_G μ121 := by rw [eμ121]; exact hG
      have hF121 : sh_offM μ μ121 := by rw [eμ121]; exact sh_offM_I hF (by decide)
      exact hF121.trans (ih_269 hG121 h)
    · intro i1 i2 μ μ' hG h
      replace h : (some μ : Option sh_Mem) = some μ' := h
      have hF : sh_offM μ μ := sh_offM.rf
      have e2 := Option.some.inj h
      exact e2 ▸ hF
theorem fp_X8_advance {μ μ' : sh_Mem} (hG : sh_G μ) (h : f_X8_advance μ = some μ') : sh_offM μ μ' := by
  have ih_18 := (fpl_X8_advance sh_fuel).1
  have ih_37 := (fpl_X8_advance sh_fuel).2.1
  have ih_76 := (fpl_X8_advance sh_fuel).2.2.1
  have ih_89 := (fpl_X8_advance sh_fuel).2.2.2.1
  have ih_175 := (fpl_X8_advance sh_fuel).2.2.2.2.1
  have ih_210 := (fpl_X8_advance sh_fuel).2.2.2.2.2.1
  have ih_233 := (fpl_X8_advance sh_fuel).2.2.2.2.2.2.1
  have ih_263 := (fpl_X8_advance sh_fuel).2.2.2.2.2.2.2.1
  have ih_269 := (fpl_X8_advance sh_fuel).2.2.2.2.2.2.2.2
  have hF : sh_offM μ μ := sh_offM.rf
  unfold f_X8_advance at h
  by_cases c122 : (sh_i μ 2 3) = (-2)
  · rw [if_pos c122] at h
    exact hF.trans (ih_18 hG h)
  · rw [if_neg c122] at h
    by_cases c123 : (sh_i μ 2 3) = (-3)
    · rw [if_pos c123] at h
      exact hF.trans (ih_18 hG h)
    · rw [if_neg c123] at h
      obtain ⟨x124, ex124⟩ : ∃ y : Int32, y = (sh_i μ 2 2) := ⟨_, rfl⟩
      rw [sh_let_eq ex124] at h
      obtain ⟨μ125, eμ125⟩ : ∃ y : sh_Mem, y = (sh_setI μ 2 9 (sh_i μ 2 4)) := ⟨_, rfl⟩
      rw [sh_let_eq eμ125] at h
      have hG125 : sh_G μ125 := by rw [eμ125]; exact hG
      have hF125 : sh_offM μ μ125 := by rw [eμ125]; exact sh_offM_I hF (by decide)
      exact hF125.trans (ih_37 hG125 h)
theorem fp_X8_takesWord {a1 : Int32} {μ μ' : sh_Mem} {v : Int32} (hG : sh_G μ) (h : f_X8_takesWord a1 μ = some (v, μ')) : sh_offM μ μ' := by
  have hF : sh_offM μ μ := sh_offM.rf
  unfold f_X8_takesWord at h
  by_cases c1 : (f_X8_isWord μ a1) = 0
  · rw [if_pos c1] at h
    obtain ⟨y7, μ5, hr6, h⟩ := sh_bind_e h
    have hG5 := gp_X8_fails hG hr6
    have hF5 := hF.trans (fp_X8_fails hG hr6)
    obtain ⟨k8, h⟩ := sh_chk h
    obtain ⟨e1, e2⟩ := sh_some2 h
    exact e2 ▸ hF5
  · rw [if_neg c1] at h
    obtain ⟨μ2, hr3, h⟩ := sh_bindv_e h
    have hG2 := gp_X8_advance hG hr3
    have hF2 := hF.trans (fp_X8_advance hG hr3)
    obtain ⟨e1, e2⟩ := sh_some2 h
    exact e2 ▸ hF2
theorem fp_X8_takesMark {a1 : Int32} {μ μ' : sh_Mem} {v : Int32} (hG : sh_G μ) (h : f_X8_takesMark a1 μ = some (v, μ')) : sh_offM μ μ' := by
  have hF : sh_offM μ μ := sh_offM.rf
  unfold f_X8_takesMark at h
  by_cases c1 : (sh_i μ 2 3) = a1
  · rw [if_pos c1] at h
    obtain ⟨μ2, hr3, h⟩ := sh_bindv_e h
    have hG2 := gp_X8_advance hG hr3
    have hF2 := hF.trans (fp_X8_advance hG hr3)
    obtain ⟨e1, e2⟩ := sh_some2 h
    exact e2 ▸ hF2
  · rw [if_neg c1] at h
    obtain ⟨y7, μ5, hr6, h⟩ := sh_bind_e h
    have hG5 := gp_X8_fails hG hr6
    have hF5 := hF.trans (fp_X8_fails hG hr6)
    obtain ⟨k8, h⟩ := sh_chk h
    obtain ⟨e1, e2⟩ := sh_some2 h
    exact e2 ▸ hF5
theorem fp_X8_takeNumber {a1 : Int32} {a2 : Int32} {μ μ' : sh_Mem} {v : Int32} (hG : sh_G μ) (h : f_X8_takeNumber a1 a2 μ = some (v, μ')) : sh_offM μ μ' := by
  have hF : sh_offM μ μ := sh_offM.rf
  unfold f_X8_takeNumber at h
  by_cases c1 : (sh_i μ 2 3) = (-3)
  · rw [if_pos c1] at h
    by_cases c2 : (sh_i μ 2 5) ≤ 4
    · rw [if_pos c2] at h
      by_cases c3 : (sh_i μ 2 8) < a1
      · rw [if_pos c3] at h
        obtain ⟨y6, μ4, hr5, h⟩ := sh_bind_e h
        have hG4 := gp_X8_fails hG hr5
        have hF4 := hF.trans (fp_X8_fails hG hr5)
        obtain ⟨e1, e2⟩ := sh_some2 h
        exact e2 ▸ hF4
      · rw [if_neg c3] at h
        by_cases c7 : (sh_i μ 2 8) ≤ a2
        · rw [if_pos c7] at h
          obtain ⟨x8, ex8⟩ : ∃ y : Int32, y = (sh_i μ 2 8) := ⟨_, rfl⟩
          rw [sh_let_eq ex8] at h
          obtain ⟨μ9, hr10, h⟩ := sh_bindv_e h
          have hG9 := gp_X8_advance hG hr10
          have hF9 := hF.trans (fp_X8_advance hG hr10)
          obtain ⟨e1, e2⟩ := sh_some2 h
          exact e2 ▸ hF9
        · rw [if_neg c7] at h
          obtain ⟨y14, μ12, hr13, h⟩ := sh_bind_e h
          have hG12 := gp_X8_fails hG hr13
          have hF12 := hF.trans (fp_X8_fails hG hr13)
          obtain ⟨e1, e2⟩ := sh_some2 h
          exact e2 ▸ hF12
    · rw [if_neg c2] at h
      obtain ⟨y17, μ15, hr16, h⟩ := sh_bind_e h
      have hG15 := gp_X8_fails hG hr16
      have hF15 := hF.trans (fp_X8_fails hG hr16)
      obtain ⟨e1, e2⟩ := sh_some2 h
      exact e2 ▸ hF15
  · rw [if_neg c1] at h
    obtain ⟨y20, μ18, hr19, h⟩ := sh_bind_e h
    have hG18 := gp_X8_fails hG hr19
    have hF18 := hF.trans (fp_X8_fails hG hr19)
    obtain ⟨e1, e2⟩ := sh_some2 h
    exact e2 ▸ hF18
theorem fp_X8_takeName {μ μ' : sh_Mem} {v : Int32} (hG : sh_G μ) (h : f_X8_takeName μ = some (v, μ')) : sh_offM μ μ' := by
  have hF : sh_offM μ μ := sh_offM.rf
  unfold f_X8_takeName at h
  by_cases c1 : (sh_i μ 2 3) = (-2)
  · rw [if_pos c1] at h
    by_cases c2 : (sh_i μ 2 5) ≤ 6
    · rw [if_pos c2] at h
      by_cases c3 : (sh_i μ 2 6) = (-1)
      · rw [if_pos c3] at h
        obtain ⟨x4, ex4⟩ : ∃ y : Int32, y = (sh_i μ 2 7) := ⟨_, rfl⟩
        rw [sh_let_eq ex4] at h
        obtain ⟨μ5, hr6, h⟩ := sh_bindv_e h
        have hG5 := gp_X8_advance hG hr6
        have hF5 := hF.trans (fp_X8_advance hG hr6)
        obtain ⟨e1, e2⟩ := sh_some2 h
        exact e2 ▸ hF5
      · rw [if_neg c3] at h
        by_cases c8 : 27 ≤ (sh_i μ 2 6)
        · rw [if_pos c8] at h
          obtain ⟨x9, ex9⟩ : ∃ y : Int32, y = (sh_i μ 2 7) := ⟨_, rfl⟩
          rw [sh_let_eq ex9] at h
          obtain ⟨μ10, hr11, h⟩ := sh_bindv_e h
          have hG10 := gp_X8_advance hG hr11
          have hF10 := hF.trans (fp_X8_advance hG hr11)
          obtain ⟨e1, e2⟩ := sh_some2 h
          exact e2 ▸ hF10
        · rw [if_neg c8] at h
          obtain ⟨y15, μ13, hr14, h⟩ := sh_bind_e h
          have hG13 := gp_X8_fails hG hr14
          have hF13 := hF.trans (fp_X8_fails hG hr14)
          obtain ⟨e1, e2⟩ := sh_some2 h
          exact e2 ▸ hF13
    · rw [if_neg c2] at h
      obtain ⟨y18, μ16, hr17, h⟩ := sh_bind_e h
      have hG16 := gp_X8_fails hG hr17
      have hF16 := hF.trans (fp_X8_fails hG hr17)
      obtain ⟨e1, e2⟩ := sh_some2 h
      exact e2 ▸ hF16
  · rw [if_neg c1] at h
    obtain ⟨y21, μ19, hr20, h⟩ := sh_bind_e h
    have hG19 := gp_X8_fails hG hr20
    have hF19 := hF.trans (fp_X8_fails hG hr20)
    obtain ⟨e1, e2⟩ := sh_some2 h
    exact e2 ▸ hF19
theorem fpl_X9_improves (fuel : Nat) : (∀ ⦃r1 : Nat⦄ ⦃r2 : Nat⦄ ⦃i3 : Int32⦄ ⦃i4 : Int32⦄ ⦃i5 : Int32⦄ ⦃μ μ' : sh_Mem⦄ ⦃v : Int32⦄, sh_G μ → sh_isP r1 → sh_isL r2 → F_X9_improves fuel 1 r1 r2 i3 i4 i5 μ = some (v, μ') → sh_offM μ μ') := by
  induction fuel with
  | zero => intro r1 r2 i3 i4 i5 μ μ' v hG hr1 hr2 h; cases h
  | succ fuel ih =>
    have ih_6 := ih
    intro r1 r2 i3 i4 i5 μ μ' v hG hr1 hr2 h
    replace h : ((if 4 ≤ i5 then (if i4 = 0 ∨ i4 = 1 then some (i4, μ) else none) else sh_bind (f_X5_nextTo r1 i3 i5 μ) (fun y19 μ17 => (if y19 = (-1) then F_X9_improves fuel 1 r1 r2 i3 i4 (i5 + 1) μ17 else (if sh_in y19 49 then (if sh_in i3 49 then (if sh_in y19 49 then sh_let ((((sh_i μ17 288 y19.toNatClampNeg) + 1) + (f_J9_abs_0f7a4 μ17 ((sh_i μ17 (r2 + 1) i3.toNatClampNeg) - (sh_i μ17 (r2 + 1) y19.toNatClampNeg)))) : Int32) (fun x24 => (if sh_in i3 49 then (if (sh_i μ17 288 i3.toNatClampNeg) ≤ x24 then F_X9_improves fuel 1 r1 r2 i3 i4 (i5 + 1) μ17 else (if sh_in i3 49 then sh_let (sh_setI μ17 288 i3.toNatClampNeg x24) (fun μ28 => F_X9_improves fuel 1 r1 r2 i3 1 (i5 + 1) μ28) else none)) else none)) else none) else none) else none)))) : Option (Int32 × sh_Mem)) = some (v, μ') := h
    have hF : sh_offM μ μ := sh_offM.rf
    by_cases c15 : 4 ≤ i5
    · rw [if_pos c15] at h
      obtain ⟨k16, h⟩ := sh_chk h
      obtain ⟨e1, e2⟩ := sh_some2 h
      exact e2 ▸ hF
    · rw [if_neg c15] at h
      obtain ⟨y19, μ17, hr18, h⟩ := sh_bind_e h
      have hG17 := gp_X5_nextTo hG hr1 hr18
      have hF17 := hF.trans (fp_X5_nextTo hG hr1 hr18)
      by_cases c20 : y19 = (-1)
      · rw [if_pos c20] at h
        exact hF17.trans (ih_6 hG17 hr1 hr2 h)
      · rw [if_neg c20] at h
        obtain ⟨k21, h⟩ := sh_chk h
        obtain ⟨k22, h⟩ := sh_chk h
        obtain ⟨k23, h⟩ := sh_chk h
        obtain ⟨x24, ex24⟩ : ∃ y : Int32, y = (((sh_i μ17 288 y19.toNatClampNeg) + 1) + (f_J9_abs_0f7a4 μ17 ((sh_i μ17 (r2 + 1) i3.toNatClampNeg) - (sh_i μ17 (r2 + 1) y19.toNatClampNeg)))) := ⟨_, rfl⟩
        rw [sh_let_eq ex24] at h
        obtain ⟨k25, h⟩ := sh_chk h
        by_cases c26 : (sh_i μ17 288 i3.toNatClampNeg) ≤ x24
        · rw [if_pos c26] at h
          exact hF17.trans (ih_6 hG17 hr1 hr2 h)
        · rw [if_neg c26] at h
          obtain ⟨k27, h⟩ := sh_chk h
          obtain ⟨μ28, eμ28⟩ : ∃ y : sh_Mem, y = (sh_setI μ17 288 i3.toNatClampNeg x24) := ⟨_, rfl⟩
          rw [sh_let_eq eμ28] at h
          have hG28 : sh_G μ28 := by rw [eμ28]; exact hG17
          have hF28 : sh_offM μ μ28 := by rw [eμ28]; exact sh_offM_I hF17 (by decide)
          exact hF28.trans (ih_6 hG28 hr1 hr2 h)
theorem fp_X9_improves {p1 : Nat} {q2 : Nat} {a3 : Int32} {μ μ' : sh_Mem} {v : Int32} (hG : sh_G μ) (hp1 : sh_isP p1) (hq2 : sh_isL q2) (h : f_X9_improves p1 q2 a3 μ = some (v, μ')) : sh_offM μ μ' := by
  have ih_6 := (fpl_X9_improves sh_fuel)
  have hF : sh_offM μ μ := sh_offM.rf
  unfold f_X9_improves at h
  exact hF.trans (ih_6 hG hp1 hq2 h)
theorem fp_X10_gather {q1 : Nat} {a2 : Int32} {g : Nat} {μ μ' : sh_Mem} (hG : sh_G μ) (hq1 : sh_isL q1) (hg : sh_LAY[g]? = some (13, 38)) (hgl : g < 291) (h : f_X10_gather q1 a2 g μ = some μ') : sh_offM μ μ' := by
  have hF : sh_offM μ μ := sh_offM.rf
  unfold f_X10_gather at h
  obtain ⟨k1, h⟩ := sh_chk h
  obtain ⟨r2, er2⟩ : ∃ y : Nat, y = (sh_ref μ 55 0) := ⟨_, rfl⟩
  rw [sh_let_eq er2] at h
  have k1r : sh_r μ 55 0 = some r2 ∧ (r2 = 8 ∨ r2 = 29) := by rw [er2]; exact k1
  obtain ⟨k3, h⟩ := sh_chk h
  obtain ⟨k4, h⟩ := sh_chk h
  obtain ⟨x5, ex5⟩ : ∃ y : Int32, y = (f_X5_cellAt μ r2 (sh_i μ (q1 + 2) a2.toNatClampNeg) (sh_i μ (q1 + 3) a2.toNatClampNeg)) := ⟨_, rfl⟩
  rw [sh_let_eq ex5] at h
  obtain ⟨k6, h⟩ := sh_chk h
  obtain ⟨μ7, eμ7⟩ : ∃ y : sh_Mem, y = (sh_setI μ g (Int32.toNatClampNeg 6) (sh_i μ (q1 + 4) a2.toNatClampNeg)) := ⟨_, rfl⟩
  rw [sh_let_eq eμ7] at h
  have hG7 : sh_G μ7 := by rw [eμ7]; exact hG
  have hF7 : sh_offM μ μ7 := by rw [eμ7]; exact sh_offM_I hF hgl
  by_cases c8 : x5 = (-1)
  · rw [if_pos c8] at h
    obtain ⟨μ17, eμ17⟩ : ∃ y : sh_Mem, y = (sh_setI μ7 g (Int32.toNatClampNeg 14) 0) := ⟨_, rfl⟩
    rw [sh_let_eq eμ17] at h
    have hG17 : sh_G μ17 := by rw [eμ17]; exact hG7
    have hF17 : sh_offM μ μ17 := by rw [eμ17]; exact sh_offM_I hF7 hgl
    obtain ⟨k18, h⟩ := sh_chk h
    obtain ⟨y21, μ19, hr20, h⟩ := sh_bind_e h
    have hG19 := gp_J6_bitCount_0f7a4 hG17 hr20
    have hF19 := hF17.trans (fp_J6_bitCount_0f7a4 hG17 hr20)
    obtain ⟨μ22, eμ22⟩ : ∃ y : sh_Mem, y = (sh_setI μ19 g (Int32.toNatClampNeg 15) y21) := ⟨_, rfl⟩
    rw [sh_let_eq eμ22] at h
    have hG22 : sh_G μ22 := by rw [eμ22]; exact hG19
    have hF22 : sh_offM μ μ22 := by rw [eμ22]; exact sh_offM_I hF19 hgl
    obtain ⟨μ23, eμ23⟩ : ∃ y : sh_Mem, y = (sh_setI μ22 g (Int32.toNatClampNeg 16) (sh_i μ22 q1 0)) := ⟨_, rfl⟩
    rw [sh_let_eq eμ23] at h
    have hG23 : sh_G μ23 := by rw [eμ23]; exact hG22
    have hF23 : sh_offM μ μ23 := by rw [eμ23]; exact sh_offM_I hF22 hgl
    have e2 := Option.some.inj h
    exact e2 ▸ hF23
  · rw [if_neg c8] at h
    obtain ⟨k9, h⟩ := sh_chk h
    obtain ⟨μ10, eμ10⟩ : ∃ y : sh_Mem, y = (sh_setI μ7 g (Int32.toNatClampNeg 14) (sh_i μ7 (q1 + 1) x5.toNatClampNeg)) := ⟨_, rfl⟩
    rw [sh_let_eq eμ10] at h
    have hG10 : sh_G μ10 := by rw [eμ10]; exact hG7
    have hF10 : sh_offM μ μ10 := by rw [eμ10]; exact sh_offM_I hF7 hgl
    obtain ⟨k11, h⟩ := sh_chk h
    obtain ⟨y14, μ12, hr13, h⟩ := sh_bind_e h
    have hG12 := gp_J6_bitCount_0f7a4 hG10 hr13
    have hF12 := hF10.trans (fp_J6_bitCount_0f7a4 hG10 hr13)
    obtain ⟨μ15, eμ15⟩ : ∃ y : sh_Mem, y = (sh_setI μ12 g (Int32.toNatClampNeg 15) y14) := ⟨_, rfl⟩
    rw [sh_let_eq eμ15] at h
    have hG15 : sh_G μ15 := by rw [eμ15]; exact hG12
    have hF15 : sh_offM μ μ15 := by rw [eμ15]; exact sh_offM_I hF12 hgl
    obtain ⟨μ16, eμ16⟩ : ∃ y : sh_Mem, y = (sh_setI μ15 g (Int32.toNatClampNeg 16) (sh_i μ15 q1 0)) := ⟨_, rfl⟩
    rw [sh_let_eq eμ16] at h
    have hG16 : sh_G μ16 := by rw [eμ16]; exact hG15
    have hF16 : sh_offM μ μ16 := by rw [eμ16]; exact sh_offM_I hF15 hgl
    have e2 := Option.some.inj h
    exact e2 ▸ hF16
theorem fpl_X10_lookAround (fuel : Nat) : (∀ ⦃r1 : Nat⦄ ⦃i2 : Int32⦄ ⦃i3 : Int32⦄ ⦃μ μ' : sh_Mem⦄, sh_G μ → sh_isL r1 → F_X10_lookAround fuel 1 r1 i2 i3 μ = some μ' → sh_offM μ μ') := by
  induction fuel with
  | zero => intro r1 i2 i3 μ μ' hG hr1 h; cases h
  | succ fuel ih =>
    have ih_85 := ih
    intro r1 i2 i3 μ μ' hG hr1 h
    replace h : ((if (sh_r μ 55 0 = some (sh_ref μ 55 0) ∧ ((sh_ref μ 55 0) = 8 ∨ (sh_ref μ 55 0) = 29)) then sh_let (sh_ref μ 55 0) (fun r27 => (if (f_X5_cells μ r27) ≤ i3 then some μ else (if (f_X10_isElsewhere μ i3) = 0 then F_X10_lookAround fuel 1 r1 i2 (i3 + 1) μ else (if sh_in i3 49 then (if (sh_i μ (r1 + 1) i3.toNatClampNeg) ≤ (sh_i μ 55 7) then F_X10_lookAround fuel 1 r1 i2 (i3 + 1) μ else (if sh_in i3 49 then sh_let (sh_setI μ 55 7 (sh_i μ (r1 + 1) i3.toNatClampNeg)) (fun μ33 => F_X10_lookAround fuel 1 r1 i2 (i3 + 1) μ33) else none)) else none)))) else none) : Option sh_Mem) = some μ' := h
    have hF : sh_offM μ μ := sh_offM.rf
    obtain ⟨k26, h⟩ := sh_chk h
    obtain ⟨r27, er27⟩ : ∃ y : Nat, y = (sh_ref μ 55 0) := ⟨_, rfl⟩
    rw [sh_let_eq er27] at h
    have k26r : sh_r μ 55 0 = some r27 ∧ (r27 = 8 ∨ r27 = 29) := by rw [er27]; exact k26
    by_cases c28 : (f_X5_cells μ r27) ≤ i3
    · rw [if_pos c28] at h
      have e2 := Option.some.inj h
      exact e2 ▸ hF
    · rw [if_neg c28] at h
      by_cases c29 : (f_X10_isElsewhere μ i3) = 0
      · rw [if_pos c29] at h
        exact hF.trans (ih_85 hG hr1 h)
      · rw [if_neg c29] at h
        obtain ⟨k30, h⟩ := sh_chk h
        by_cases c31 : (sh_i μ (r1 + 1) i3.toNatClampNeg) ≤ (sh_i μ 55 7)
        · rw [if_pos c31] at h
          exact hF.trans (ih_85 hG hr1 h)
        · rw [if_neg c31] at h
          obtain ⟨k32, h⟩ := sh_chk h
          obtain ⟨μ33, eμ33⟩ : ∃ y : sh_Mem, y = (sh_setI μ 55 7 (sh_i μ (r1 + 1) i3.toNatClampNeg)) := ⟨_, rfl⟩
          rw [sh_let_eq eμ33] at h
          have hG33 : sh_G μ33 := by rw [eμ33]; exact hG
          have hF33 : sh_offM μ μ33 := by rw [eμ33]; exact sh_offM_I hF (by decide)
          exact hF33.trans (ih_85 hG33 hr1 h)
theorem fp_X10_lookAround {q1 : Nat} {a2 : Int32} {μ μ' : sh_Mem} (hG : sh_G μ) (hq1 : sh_isL q1) (h : f_X10_lookAround q1 a2 μ = some μ') : sh_offM μ μ' := by
  have ih_85 := (fpl_X10_lookAround sh_fuel)
  have hF : sh_offM μ μ := sh_offM.rf
  unfold f_X10_lookAround at h
  obtain ⟨k34, h⟩ := sh_chk h
  obtain ⟨r35, er35⟩ : ∃ y : Nat, y = (sh_ref μ 55 0) := ⟨_, rfl⟩
  rw [sh_let_eq er35] at h
  have k34r : sh_r μ 55 0 = some r35 ∧ (r35 = 8 ∨ r35 = 29) := by rw [er35]; exact k34
  obtain ⟨k36, h⟩ := sh_chk h
  obtain ⟨k37, h⟩ := sh_chk h
  obtain ⟨μ38, eμ38⟩ : ∃ y : sh_Mem, y = (sh_setI μ 55 4 (f_X5_cellAt μ r35 (sh_i μ (q1 + 2) a2.toNatClampNeg) (sh_i μ (q1 + 3) a2.toNatClampNeg))) := ⟨_, rfl⟩
  rw [sh_let_eq eμ38] at h
  have hG38 : sh_G μ38 := by rw [eμ38]; exact hG
  have hF38 : sh_offM μ μ38 := by rw [eμ38]; exact sh_offM_I hF (by decide)
  obtain ⟨k39, h⟩ := sh_chk h
  obtain ⟨r40, er40⟩ : ∃ y : Nat, y = (sh_ref μ38 55 0) := ⟨_, rfl⟩
  rw [sh_let_eq er40] at h
  have k39r : sh_r μ38 55 0 = some r40 ∧ (r40 = 8 ∨ r40 = 29) := by rw [er40]; exact k39
  obtain ⟨k41, h⟩ := sh_chk h
  obtain ⟨k42, h⟩ := sh_chk h
  obtain ⟨μ43, eμ43⟩ : ∃ y : sh_Mem, y = (sh_setI μ38 55 5 (f_X5_cellAt μ38 r40 ((sh_i μ38 (q1 + 2) a2.toNatClampNeg) - 1) (sh_i μ38 (q1 + 3) a2.toNatClampNeg))) := ⟨_, rfl⟩
  rw [sh_let_eq eμ43] at h
  have hG43 : sh_G μ43 := by rw [eμ43]; exact hG38
  have hF43 : sh_offM μ μ43 := by rw [eμ43]; exact sh_offM_I hF38 (by decide)
  obtain ⟨k44, h⟩ := sh_chk h
  obtain ⟨r45, er45⟩ : ∃ y : Nat, y = (sh_ref μ43 55 0) := ⟨_, rfl⟩
  rw [sh_let_eq er45] at h
  have k44r : sh_r μ43 55 0 = some r45 ∧ (r45 = 8 ∨ r45 = 29) := by rw [er45]; exact k44
  obtain ⟨k46, h⟩ := sh_chk h
  obtain ⟨k47, h⟩ := sh_chk h
  obtain ⟨μ48, eμ48⟩ : ∃ y : sh_Mem, y = (sh_setI μ43 55 6 (f_X5_cellAt μ43 r45 ((sh_i μ43 (q1 + 2) a2.toNatClampNeg) + 1) (sh_i μ43 (q1 + 3) a2.toNatClampNeg))) := ⟨_, rfl⟩
  rw [sh_let_eq eμ48] at h
  have hG48 : sh_G μ48 := by rw [eμ48]; exact hG43
  have hF48 : sh_offM μ μ48 := by rw [eμ48]; exact sh_offM_I hF43 (by decide)
  obtain ⟨μ49, eμ49⟩ : ∃ y : sh_Mem, y = (sh_setI μ48 55 7 0) := ⟨_, rfl⟩
  rw [sh_let_eq eμ49] at h
  have hG49 : sh_G μ49 := by rw [eμ49]; exact hG48
  have hF49 : sh_offM μ μ49 := by rw [eμ49]; exact sh_offM_I hF48 (by decide)
  obtain ⟨μ50, eμ50⟩ : ∃ y : sh_Mem, y = (sh_setI μ49 55 8 0) := ⟨_, rfl⟩
  rw [sh_let_eq eμ50] at h
  have hG50 : sh_G μ50 := by rw [eμ50]; exact hG49
  have hF50 : sh_offM μ μ50 := by rw [eμ50]; exact sh_offM_I hF49 (by decide)
  exact hF50.trans (ih_85 hG50 hq1 h)
theorem fp_X11_feed {a1 : Int32} {a2 : Int32} {a3 : Int32} {a4 : Int32} {a5 : Int32} {μ μ' : sh_Mem} {v : Int32} (hG : sh_G μ) (h : f_X11_feed a1 a2 a3 a4 a5 μ = some (v, μ')) : sh_offM μ μ' := by
  have hF : sh_offM μ μ := sh_offM.rf
  unfold f_X11_feed at h
  by_cases c1 : ((sh_i μ 0 1) + 20) ≤ 1600
  · rw [if_pos c1] at h
    obtain ⟨μ2, hr3, h⟩ := sh_bindv_e h
    have hG2 := gp_X11_append hG hr3
    have hF2 := hF.trans (fp_X11_append hG hr3)
    obtain ⟨μ5, hr6, h⟩ := sh_bindv_e h
    have hG5 := gp_X11_append hG2 hr6
    have hF5 := hF2.trans (fp_X11_append hG2 hr6)
    obtain ⟨μ8, hr9, h⟩ := sh_bindv_e h
    have hG8 := gp_X11_append hG5 hr9
    have hF8 := hF5.trans (fp_X11_append hG5 hr9)
    obtain ⟨μ11, hr12, h⟩ := sh_bindv_e h
    have hG11 := gp_X11_append hG8 hr12
    have hF11 := hF8.trans (fp_X11_append hG8 hr12)
    obtain ⟨μ14, hr15, h⟩ := sh_bindv_e h
    have hG14 := gp_X11_append hG11 hr15
    have hF14 := hF11.trans (fp_X11_append hG11 hr15)
    obtain ⟨e1, e2⟩ := sh_some2 h
    exact e2 ▸ hF14
  · rw [if_neg c1] at h
    obtain ⟨y19, μ17, hr18, h⟩ := sh_bind_e h
    have hG17 := gp_X11_refuseNumber hG hr18
    have hF17 := hF.trans (fp_X11_refuseNumber hG hr18)
    obtain ⟨e1, e2⟩ := sh_some2 h
    exact e2 ▸ hF17
theorem fp_X11_end {a1 : Int32} {μ μ' : sh_Mem} {v : Int32} (hG : sh_G μ) (h : f_X11_end a1 μ = some (v, μ')) : sh_offM μ μ' := by
  have hF : sh_offM μ μ := sh_offM.rf
  unfold f_X11_end at h
  by_cases c1 : a1 < 0
  · rw [if_pos c1] at h
    obtain ⟨y4, μ2, hr3, h⟩ := sh_bind_e h
    have hG2 := gp_X11_refuse hG hr3
    have hF2 := hF.trans (fp_X11_refuse hG hr3)
    obtain ⟨k5, h⟩ := sh_chk h
    obtain ⟨e1, e2⟩ := sh_some2 h
    exact e2 ▸ hF2
  · rw [if_neg c1] at h
    by_cases c6 : a1 ≤ (sh_i μ 0 1)
    · rw [if_pos c6] at h
      obtain ⟨μ7, eμ7⟩ : ∃ y : sh_Mem, y = (sh_setI μ 0 1 a1) := ⟨_, rfl⟩
      rw [sh_let_eq eμ7] at h
      have hG7 : sh_G μ7 := by rw [eμ7]; exact hG
      have hF7 : sh_offM μ μ7 := by rw [eμ7]; exact sh_offM_I hF (by decide)
      obtain ⟨e1, e2⟩ := sh_some2 h
      exact e2 ▸ hF7
    · rw [if_neg c6] at h
      obtain ⟨y10, μ8, hr9, h⟩ := sh_bind_e h
      have hG8 := gp_X11_refuse hG hr9
      have hF8 := hF.trans (fp_X11_refuse hG hr9)
      obtain ⟨k11, h⟩ := sh_chk h
      obtain ⟨e1, e2⟩ := sh_some2 h
      exact e2 ▸ hF8
theorem fp_X11_letter {a1 : Int32} {a2 : Int32} {a3 : Int32} {μ μ' : sh_Mem} {v : Int32} (hG : sh_G μ) (h : f_X11_letter a1 a2 a3 μ = some (v, μ')) : sh_offM μ μ' := by
  have hF : sh_offM μ μ := sh_offM.rf
  unfold f_X11_letter at h
  by_cases c1 : a3 < 0
  · rw [if_pos c1] at h
    obtain ⟨e1, e2⟩ := sh_some2 h
    exact e2 ▸ hF
  · rw [if_neg c1] at h
    by_cases c2 : a3 < 6
    · rw [if_pos c2] at h
      by_cases c3 : a1 = 0
      · rw [if_pos c3] at h
        obtain ⟨y14, μ12, hr13, h⟩ := sh_bind_e h
        have hG12 := gp_X11_isTopic hG hr13
        have hF12 := hF.trans (fp_X11_isTopic hG hr13)
        by_cases c15 : y14 = 0
        · rw [if_pos c15] at h
          by_cases c16 : a1 = 1
          · rw [if_pos c16] at h
            obtain ⟨y19, μ17, hr18, h⟩ := sh_bind_e h
            have hG17 := gp_X11_isPerson hG12 hr18
            have hF17 := hF12.trans (fp_X11_isPerson hG12 hr18)
            by_cases c20 : y19 = 0
            · rw [if_pos c20] at h
              obtain ⟨e1, e2⟩ := sh_some2 h
              exact e2 ▸ hF17
            · rw [if_neg c20] at h
              obtain ⟨k21, h⟩ := sh_chk h
              obtain ⟨r22, er22⟩ : ∃ y : Nat, y = (sh_ref μ17 0 7) := ⟨_, rfl⟩
              rw [sh_let_eq er22] at h
              have k21r : sh_r μ17 0 7 = some r22 ∧ (r22 = 8 ∨ r22 = 29) := by rw [er22]; exact k21
              obtain ⟨k23, h⟩ := sh_chk h
              obtain ⟨e1, e2⟩ := sh_some2 h
              exact e2 ▸ hF17
          · rw [if_neg c16] at h
            obtain ⟨e1, e2⟩ := sh_some2 h
            exact e2 ▸ hF12
        · rw [if_neg c15] at h
          obtain ⟨k24, h⟩ := sh_chk h
          obtain ⟨r25, er25⟩ : ∃ y : Nat, y = (sh_ref μ12 0 7) := ⟨_, rfl⟩
          rw [sh_let_eq er25] at h
          have k24r : sh_r μ12 0 7 = some r25 ∧ (r25 = 8 ∨ r25 = 29) := by rw [er25]; exact k24
          obtain ⟨k26, h⟩ := sh_chk h
          obtain ⟨e1, e2⟩ := sh_some2 h
          exact e2 ▸ hF12
      · rw [if_neg c3] at h
        by_cases c4 : a1 = 1
        · rw [if_pos c4] at h
          obtain ⟨y7, μ5, hr6, h⟩ := sh_bind_e h
          have hG5 := gp_X11_isPerson hG hr6
          have hF5 := hF.trans (fp_X11_isPerson hG hr6)
          by_cases c8 : y7 = 0
          · rw [if_pos c8] at h
            obtain ⟨e1, e2⟩ := sh_some2 h
            exact e2 ▸ hF5
          · rw [if_neg c8] at h
            obtain ⟨k9, h⟩ := sh_chk h
            obtain ⟨r10, er10⟩ : ∃ y : Nat, y = (sh_ref μ5 0 7) := ⟨_, rfl⟩
            rw [sh_let_eq er10] at h
            have k9r : sh_r μ5 0 7 = some r10 ∧ (r10 = 8 ∨ r10 = 29) := by rw [er10]; exact k9
            obtain ⟨k11, h⟩ := sh_chk h
            obtain ⟨e1, e2⟩ := sh_some2 h
            exact e2 ▸ hF5
        · rw [if_neg c4] at h
          obtain ⟨e1, e2⟩ := sh_some2 h
          exact e2 ▸ hF
    · rw [if_neg c2] at h
      obtain ⟨e1, e2⟩ := sh_some2 h
      exact e2 ▸ hF
theorem fp_X11_see {μ μ' : sh_Mem} {v : Int32} (hG : sh_G μ) (h : f_X11_see μ = some (v, μ')) : sh_offM μ μ' := by
  have hF : sh_offM μ μ := sh_offM.rf
  unfold f_X11_see at h
  obtain ⟨y3, μ1, hr2, h⟩ := sh_bind_e h
  have hG1 := gp_X11_takeTape hG hr2
  have hF1 := hF.trans (fp_X11_takeTape hG hr2)
  obtain ⟨y6, μ4, hr5, h⟩ := sh_bind_e h
  have hG4 := gp_X11_isSeen hG1 hr5
  have hF4 := hF1.trans (fp_X11_isSeen hG1 hr5)
  by_cases c7 : y6 = 0
  · rw [if_pos c7] at h
    obtain ⟨y15, μ13, hr14, h⟩ := sh_bind_e h
    have hG13 := gp_X11_refuseNumber hG4 hr14
    have hF13 := hF4.trans (fp_X11_refuseNumber hG4 hr14)
    obtain ⟨e1, e2⟩ := sh_some2 h
    exact e2 ▸ hF13
  · rw [if_neg c7] at h
    obtain ⟨k8, h⟩ := sh_chk h
    obtain ⟨k9, h⟩ := sh_chk h
    obtain ⟨k10, h⟩ := sh_chk h
    obtain ⟨μ11, eμ11⟩ : ∃ y : sh_Mem, y = (sh_rowI μ4 216 (va_cpy (sh_i μ4 1) (sh_i μ4 216) (Int32.toNatClampNeg 0) (Int32.toNatClampNeg 0) y3.toNatClampNeg)) := ⟨_, rfl⟩
    rw [sh_let_eq eμ11] at h
    have hG11 : sh_G μ11 := by rw [eμ11]; exact hG4
    have hF11 : sh_offM μ μ11 := by rw [eμ11]; exact sh_offM_row hF4 (by decide)
    obtain ⟨μ12, eμ12⟩ : ∃ y : sh_Mem, y = (sh_setI μ11 208 4 (y3 / 4)) := ⟨_, rfl⟩
    rw [sh_let_eq eμ12] at h
    have hG12 : sh_G μ12 := by rw [eμ12]; exact hG11
    have hF12 : sh_offM μ μ12 := by rw [eμ12]; exact sh_offM_I hF11 (by decide)
    obtain ⟨e1, e2⟩ := sh_some2 h
    exact e2 ▸ hF12
theorem fpl_X11_image (fuel : Nat) : (∀ ⦃i1 : Int32⦄ ⦃i2 : Int32⦄ ⦃i3 : Int32⦄ ⦃μ μ' : sh_Mem⦄ ⦃v : Int32⦄, sh_G μ → F_X11_image fuel 1 i1 i2 i3 μ = some (v, μ') → sh_offM μ μ') := by
  induction fuel with
  | zero => intro i1 i2 i3 μ μ' v hG h; cases h
  | succ fuel ih =>
    have ih_65 := ih
    intro i1 i2 i3 μ μ' v hG h
    replace h : ((if (sh_r μ 0 7 = some (sh_ref μ 0 7) ∧ ((sh_ref μ 0 7) = 8 ∨ (sh_ref μ 0 7) = 29)) then sh_let (sh_ref μ 0 7) (fun r33 => (if (sh_i μ r33 3) ≤ i3 then sh_bind (f_X11_checkOf 289 80 i2 μ) (fun y37 μ35 => (if sh_in i2 80 then sh_let (sh_setI μ35 289 i2.toNatClampNeg y37) (fun μ39 => sh_let (sh_setI μ39 0 18 (i2 + 1)) (fun μ40 => some ((sh_i μ40 0 18), μ40))) else none)) else (if sh_in i3 7 then (if sh_in i2 80 then sh_let (sh_setI μ 289 i2.toNatClampNeg (sh_i μ 51 i3.toNatClampNeg)) (fun μ43 => (if sh_in i3 7 then (if sh_in (i2 + 1) 80 then sh_let (sh_setI μ43 289 ((i2 + 1)).toNatClampNeg (sh_i μ43 52 i3.toNatClampNeg)) (fun μ46 => (if sh_in i3 7 then (if sh_in (i2 + 2) 80 then sh_let (sh_setI μ46 289 ((i2 + 2)).toNatClampNeg (sh_i μ46 53 i3.toNatClampNeg)) (fun μ49 => (if sh_in i3 7 then (if sh_in (i2 + 3) 80 then sh_let (sh_setI μ49 289 ((i2 + 3)).toNatClampNeg (sh_i μ49 54 i3.toNatClampNeg)) (fun μ52 => F_X11_image fuel 1 i1 (i2 + 4) (i3 + 1) μ52) else none) else none)) else none) else none)) else none) else none)) else none) else none))) else none) : Option (Int32 × sh_Mem)) = some (v, μ') := h
    have hF : sh_offM μ μ := sh_offM.rf
    obtain ⟨k32, h⟩ := sh_chk h
    obtain ⟨r33, er33⟩ : ∃ y : Nat, y = (sh_ref μ 0 7) := ⟨_, rfl⟩
    rw [sh_let_eq er33] at h
    have k32r : sh_r μ 0 7 = some r33 ∧ (r33 = 8 ∨ r33 = 29) := by rw [er33]; exact k32
    by_cases c34 : (sh_i μ r33 3) ≤ i3
    · rw [if_pos c34] at h
      obtain ⟨y37, μ35, hr36, h⟩ := sh_bind_e h
      have hG35 := gp_X11_checkOf hG (sh_LAYat_289) hr36
      have hF35 := hF.trans (fp_X11_checkOf hG (sh_LAYat_289) (by decide) hr36)
      obtain ⟨k38, h⟩ := sh_chk h
      obtain ⟨μ39, eμ39⟩ : ∃ y : sh_Mem, y = (sh_setI μ35 289 i2.toNatClampNeg y37) := ⟨_, rfl⟩
      rw [sh_let_eq eμ39] at h
      have hG39 : sh_G μ39 := by rw [eμ39]; exact hG35
      have hF39 : sh_offM μ μ39 := by rw [eμ39]; exact sh_offM_I hF35 (by decide)
      obtain ⟨μ40, eμ40⟩ : ∃ y : sh_Mem, y = (sh_setI μ39 0 18 (i2 + 1)) := ⟨_, rfl⟩
      rw [sh_let_eq eμ40] at h
      have hG40 : sh_G μ40 := by rw [eμ40]; exact hG39
      have hF40 : sh_offM μ μ40 := by rw [eμ40]; exact sh_offM_I hF39 (by decide)
      obtain ⟨e1, e2⟩ := sh_some2 h
      exact e2 ▸ hF40
    · rw [if_neg c34] at h
      obtain ⟨k41, h⟩ := sh_chk h
      obtain ⟨k42, h⟩ := sh_chk h
      obtain ⟨μ43, eμ43⟩ : ∃ y : sh_Mem, y = (sh_setI μ 289 i2.toNatClampNeg (sh_i μ 51 i3.toNatClampNeg)) := ⟨_, rfl⟩
      rw [sh_let_eq eμ43] at h
      have hG43 : sh_G μ43 := by rw [eμ43]; exact hG
      have hF43 : sh_offM μ μ43 := by rw [eμ43]; exact sh_offM_I hF (by decide)
      obtain ⟨k44, h⟩ := sh_chk h
      obtain ⟨k45, h⟩ := sh_chk h
      obtain ⟨μ46, eμ46⟩ : ∃ y : sh_Mem, y = (sh_setI μ43 289 ((i2 + 1)).toNatClampNeg (sh_i μ43 52 i3.toNatClampNeg)) := ⟨_, rfl⟩
      rw [sh_let_eq eμ46] at h
      have hG46 : sh_G μ46 := by rw [eμ46]; exact hG43
      have hF46 : sh_offM μ μ46 := by rw [eμ46]; exact sh_offM_I hF43 (by decide)
      obtain ⟨k47, h⟩ := sh_chk h
      obtain ⟨k48, h⟩ := sh_chk h
      obtain ⟨μ49, eμ49⟩ : ∃ y : sh_Mem, y = (sh_setI μ46 289 ((i2 + 2)).toNatClampNeg (sh_i μ46 53 i3.toNatClampNeg)) := ⟨_, rfl⟩
      rw [sh_let_eq eμ49] at h
      have hG49 : sh_G μ49 := by rw [eμ49]; exact hG46
      have hF49 : sh_offM μ μ49 := by rw [eμ49]; exact sh_offM_I hF46 (by decide)
      obtain ⟨k50, h⟩ := sh_chk h
      obtain ⟨k51, h⟩ := sh_chk h
      obtain ⟨μ52, eμ52⟩ : ∃ y : sh_Mem, y = (sh_setI μ49 289 ((i2 + 3)).toNatClampNeg (sh_i μ49 54 i3.toNatClampNeg)) := ⟨_, rfl⟩
      rw [sh_let_eq eμ52] at h
      have hG52 : sh_G μ52 := by rw [eμ52]; exact hG49
      have hF52 : sh_offM μ μ52 := by rw [eμ52]; exact sh_offM_I hF49 (by decide)
      exact hF52.trans (ih_65 hG52 h)
theorem fp_X11_image {μ μ' : sh_Mem} {v : Int32} (hG : sh_G μ) (h : f_X11_image μ = some (v, μ')) : sh_offM μ μ' := by
  have ih_65 := (fpl_X11_image sh_fuel)
  have hF : sh_offM μ μ := sh_offM.rf
  unfold f_X11_image at h
  obtain ⟨k53, h⟩ := sh_chk h
  obtain ⟨r54, er54⟩ : ∃ y : Nat, y = (sh_ref μ 0 7) := ⟨_, rfl⟩
  rw [sh_let_eq er54] at h
  have k53r : sh_r μ 0 7 = some r54 ∧ (r54 = 8 ∨ r54 = 29) := by rw [er54]; exact k53
  obtain ⟨x55, ex55⟩ : ∃ y : Int32, y = (f_X5_cells μ r54) := ⟨_, rfl⟩
  rw [sh_let_eq ex55] at h
  obtain ⟨μ56, eμ56⟩ : ∃ y : sh_Mem, y = (sh_setI μ 289 (Int32.toNatClampNeg 0) ((sh_i μ 49 0) / 256)) := ⟨_, rfl⟩
  rw [sh_let_eq eμ56] at h
  have hG56 : sh_G μ56 := by rw [eμ56]; exact hG
  have hF56 : sh_offM μ μ56 := by rw [eμ56]; exact sh_offM_I hF (by decide)
  obtain ⟨μ57, eμ57⟩ : ∃ y : sh_Mem, y = (sh_setI μ56 289 (Int32.toNatClampNeg 1) ((sh_i μ56 49 0) - (sh_i μ56 49 0) / 256 * 256)) := ⟨_, rfl⟩
  rw [sh_let_eq eμ57] at h
  have hG57 : sh_G μ57 := by rw [eμ57]; exact hG56
  have hF57 : sh_offM μ μ57 := by rw [eμ57]; exact sh_offM_I hF56 (by decide)
  obtain ⟨k58, h⟩ := sh_chk h
  obtain ⟨k59, h⟩ := sh_chk h
  obtain ⟨k60, h⟩ := sh_chk h
  obtain ⟨μ61, eμ61⟩ : ∃ y : sh_Mem, y = (sh_rowI μ57 289 (va_cpy (sh_i μ57 50) (sh_i μ57 289) (Int32.toNatClampNeg 0) (Int32.toNatClampNeg 2) x55.toNatClampNeg)) := ⟨_, rfl⟩
  rw [sh_let_eq eμ61] at h
  have hG61 : sh_G μ61 := by rw [eμ61]; exact hG57
  have hF61 : sh_offM μ μ61 := by rw [eμ61]; exact sh_offM_row hF57 (by decide)
  obtain ⟨x62, ex62⟩ : ∃ y : Int32, y = (2 + x55) := ⟨_, rfl⟩
  rw [sh_let_eq ex62] at h
  exact hF61.trans (ih_65 hG61 h)
theorem fpl_X11_isImage (fuel : Nat) : (∀ ⦃i1 : Int32⦄ ⦃i2 : Int32⦄ ⦃i3 : Int32⦄ ⦃i4 : Int32⦄ ⦃μ μ' : sh_Mem⦄ ⦃v : Int32⦄, sh_G μ → F_X11_isImage fuel 1 i1 i2 i3 i4 μ = some (v, μ') → sh_offM μ μ') ∧ (∀ ⦃i1 : Int32⦄ ⦃i2 : Int32⦄ ⦃i3 : Int32⦄ ⦃i4 : Int32⦄ ⦃μ μ' : sh_Mem⦄ ⦃v : Int32⦄, sh_G μ → F_X11_isImage fuel 2 i1 i2 i3 i4 μ = some (v, μ') → sh_offM μ μ') := by
  induction fuel with
  | zero => exact ⟨(by intro i1 i2 i3 i4 μ μ' v hG h; cases h), (by intro i1 i2 i3 i4 μ μ' v hG h; cases h)⟩
  | succ fuel ih =>
    obtain ⟨ih_81, ih_110⟩ := ih
    refine ⟨?_, ?_⟩
    · intro i1 i2 i3 i4 μ μ' v hG h
      replace h : ((if i2 ≤ i4 then F_X11_isImage fuel 2 i1 i2 i3 i2 μ else (if sh_in i4 1600 then (if (sh_i μ 1 i4.toNatClampNeg) ≤ 99 then F_X11_isImage fuel 1 i1 i2 i3 (i4 + 1) μ else some (0, μ)) else none)) : Option (Int32 × sh_Mem)) = some (v, μ') := h
      have hF : sh_offM μ μ := sh_offM.rf
      by_cases c34 : i2 ≤ i4
      · rw [if_pos c34] at h
        exact hF.trans (ih_110 hG h)
      · rw [if_neg c34] at h
        obtain ⟨k35, h⟩ := sh_chk h
        by_cases c36 : (sh_i μ 1 i4.toNatClampNeg) ≤ 99
        · rw [if_pos c36] at h
          exact hF.trans (ih_81 hG h)
        · rw [if_neg c36] at h
          obtain ⟨e1, e2⟩ := sh_some2 h
          exact e2 ▸ hF
    · intro i1 i2 i3 i4 μ μ' v hG h
      replace h : ((if i3 ≤ i4 then some (1, μ) else sh_bind (f_X11_isPersonTold i2 i4 μ) (fun y40 μ38 => (if y40 = 0 then some (0, μ38) else F_X11_isImage fuel 2 i1 i2 i3 (i4 + 4) μ38))) : Option (Int32 × sh_Mem)) = some (v, μ') := h
      have hF : sh_offM μ μ := sh_offM.rf
      by_cases c37 : i3 ≤ i4
      · rw [if_pos c37] at h
        obtain ⟨e1, e2⟩ := sh_some2 h
        exact e2 ▸ hF
      · rw [if_neg c37] at h
        obtain ⟨y40, μ38, hr39, h⟩ := sh_bind_e h
        have hG38 := gp_X11_isPersonTold hG hr39
        have hF38 := hF.trans (fp_X11_isPersonTold hG hr39)
        by_cases c41 : y40 = 0
        · rw [if_pos c41] at h
          obtain ⟨e1, e2⟩ := sh_some2 h
          exact e2 ▸ hF38
        · rw [if_neg c41] at h
          exact hF38.trans (ih_110 hG38 h)
theorem fp_X11_isImage {a1 : Int32} {μ μ' : sh_Mem} {v : Int32} (hG : sh_G μ) (h : f_X11_isImage a1 μ = some (v, μ')) : sh_offM μ μ' := by
  have ih_81 := (fpl_X11_isImage sh_fuel).1
  have ih_110 := (fpl_X11_isImage sh_fuel).2
  have hF : sh_offM μ μ := sh_offM.rf
  unfold f_X11_isImage at h
  obtain ⟨k42, h⟩ := sh_chk h
  obtain ⟨r43, er43⟩ : ∃ y : Nat, y = (sh_ref μ 0 7) := ⟨_, rfl⟩
  rw [sh_let_eq er43] at h
  have k42r : sh_r μ 0 7 = some r43 ∧ (r43 = 8 ∨ r43 = 29) := by rw [er43]; exact k42
  obtain ⟨x44, ex44⟩ : ∃ y : Int32, y = (2 + (f_X5_cells μ r43)) := ⟨_, rfl⟩
  rw [sh_let_eq ex44] at h
  obtain ⟨k45, h⟩ := sh_chk h
  obtain ⟨r46, er46⟩ : ∃ y : Nat, y = (sh_ref μ 0 7) := ⟨_, rfl⟩
  rw [sh_let_eq er46] at h
  have k45r : sh_r μ 0 7 = some r46 ∧ (r46 = 8 ∨ r46 = 29) := by rw [er46]; exact k45
  obtain ⟨x47, ex47⟩ : ∃ y : Int32, y = (x44 + ((sh_i μ r46 3) * 4)) := ⟨_, rfl⟩
  rw [sh_let_eq ex47] at h
  obtain ⟨y50, μ48, hr49, h⟩ := sh_bind_e h
  have hG48 := gp_X11_isPlain hG hr49
  have hF48 := hF.trans (fp_X11_isPlain hG hr49)
  by_cases c51 : y50 = 0
  · rw [if_pos c51] at h
    obtain ⟨e1, e2⟩ := sh_some2 h
    exact e2 ▸ hF48
  · rw [if_neg c51] at h
    by_cases c52 : a1 = (x47 + 1)
    · rw [if_pos c52] at h
      obtain ⟨k53, h⟩ := sh_chk h
      obtain ⟨y56, μ54, hr55, h⟩ := sh_bind_e h
      have hG54 := gp_X11_checkOf hG48 (sh_LAYat_1) hr55
      have hF54 := hF48.trans (fp_X11_checkOf hG48 (sh_LAYat_1) (by decide) hr55)
      by_cases c57 : (sh_i μ48 1 x47.toNatClampNeg) = y56
      · rw [if_pos c57] at h
        by_cases c58 : (((sh_i μ54 1 (Int32.toNatClampNeg 0)) * 256) + (sh_i μ54 1 (Int32.toNatClampNeg 1))) ≤ 999
        · rw [if_pos c58] at h
          exact hF54.trans (ih_81 hG54 h)
        · rw [if_neg c58] at h
          obtain ⟨e1, e2⟩ := sh_some2 h
          exact e2 ▸ hF54
      · rw [if_neg c57] at h
        obtain ⟨e1, e2⟩ := sh_some2 h
        exact e2 ▸ hF54
    · rw [if_neg c52] at h
      obtain ⟨e1, e2⟩ := sh_some2 h
      exact e2 ▸ hF48
theorem fpl_X1_value (fuel : Nat) : (∀ ⦃r0 : Nat⦄ ⦃r1 : Nat⦄ ⦃i2 : Int32⦄ ⦃i3 : Int32⦄ ⦃μ μ' : sh_Mem⦄ ⦃v : Int64⦄, sh_G μ → sh_isF r0 → sh_LAY[r1]? = some (13, 38) → r1 < 291 → F_X1_value fuel 1 r0 r1 i2 i3 μ = some (v, μ') → sh_offM μ μ') := by
  induction fuel with
  | zero => intro r0 r1 i2 i3 μ μ' v hG hr0 hr1 hr1l h; cases h
  | succ fuel ih =>
    have ih_4 := ih
    intro r0 r1 i2 i3 μ μ' v hG hr0 hr1 hr1l h
    replace h : ((if (sh_i μ r0 1) ≤ i3 then (if i2 ≤ 0 then some (0, μ) else some ((sh_l μ (r0 + 2) (Int32.toNatClampNeg 0)), μ)) else (if (Int32.ofNat 1600) ≤ i3 then (if i2 ≤ 0 then some (0, μ) else some ((sh_l μ (r0 + 2) (Int32.toNatClampNeg 0)), μ)) else (if 64 ≤ i2 then (if i2 ≤ 0 then some (0, μ) else some ((sh_l μ (r0 + 2) (Int32.toNatClampNeg 0)), μ)) else (if sh_in i3 1600 then sh_let (((-1) - (sh_i μ (r0 + 1) i3.toNatClampNeg)) : Int32) (fun x57 => (if 0 ≤ x57 then (if (f_X1_isFact μ x57) = 0 then (if x57 = 23 then (if i2 ≤ 0 then F_X1_value fuel 1 r0 r1 i2 (i3 + 1) μ else (if sh_in (i2 - 1) 64 then sh_bind (f_X1_ofOne x57 (sh_l μ (r0 + 2) ((i2 - 1)).toNatClampNeg) r1 μ) (fun y65 μ63 => (if sh_in (i2 - 1) 64 then sh_let (sh_setL μ63 (r0 + 2) ((i2 - 1)).toNatClampNeg y65) (fun μ67 => F_X1_value fuel 1 r0 r1 i2 (i3 + 1) μ67) else none)) else none)) else (if x57 = 7 then (if i2 ≤ 0 then F_X1_value fuel 1 r0 r1 i2 (i3 + 1) μ else (if sh_in (i2 - 1) 64 then sh_bind (f_X1_ofOne x57 (sh_l μ (r0 + 2) ((i2 - 1)).toNatClampNeg) r1 μ) (fun y73 μ71 => (if sh_in (i2 - 1) 64 then sh_let (sh_setL μ71 (r0 + 2) ((i2 - 1)).toNatClampNeg y73) (fun μ75 => F_X1_value fuel 1 r0 r1 i2 (i3 + 1) μ75) else none)) else none)) else (if x57 = 10 then (if i2 ≤ 0 then F_X1_value fuel 1 r0 r1 i2 (i3 + 1) μ else (if sh_in (i2 - 1) 64 then sh_bind (f_X1_ofOne x57 (sh_l μ (r0 + 2) ((i2 - 1)).toNatClampNeg) r1 μ) (fun y90 μ88 => (if sh_in (i2 - 1) 64 then sh_let (sh_setL μ88 (r0 + 2) ((i2 - 1)).toNatClampNeg y90) (fun μ92 => F_X1_value fuel 1 r0 r1 i2 (i3 + 1) μ92) else none)) else none)) else (if i2 ≤ 1 then F_X1_value fuel 1 r0 r1 i2 (i3 + 1) μ else (if sh_in i3 1600 then (if sh_in ((i2 + (-1)) - 1) 64 then (if sh_in (i2 + (-1)) 64 then sh_bind (f_X1_ofTwo (sh_i μ (r0 + 1) i3.toNatClampNeg) (sh_l μ (r0 + 2) (((i2 + (-1)) - 1)).toNatClampNeg) (sh_l μ (r0 + 2) ((i2 + (-1))).toNatClampNeg) μ) (fun y83 μ81 => (if sh_in ((i2 + (-1)) - 1) 64 then sh_let (sh_setL μ81 (r0 + 2) (((i2 + (-1)) - 1)).toNatClampNeg y83) (fun μ85 => F_X1_value fuel 1 r0 r1 (i2 + (-1)) (i3 + 1) μ85) else none)) else none) else none) else none))))) else (if sh_in x57 38 then (if sh_in i2 64 then sh_let (sh_setL μ (r0 + 2) i2.toNatClampNeg ((sh_i μ r1 x57.toNatClampNeg)).toInt64) (fun μ95 => F_X1_value fuel 1 r0 r1 (i2 + 1) (i3 + 1) μ95) else none) else none)) else (if sh_in i3 1600 then (if sh_in i2 64 then sh_let (sh_setL μ (r0 + 2) i2.toNatClampNeg ((sh_i μ (r0 + 1) i3.toNatClampNeg)).toInt64) (fun μ98 => F_X1_value fuel 1 r0 r1 (i2 + 1) (i3 + 1) μ98) else none) else none))) else none)))) : Option (Int64 × sh_Mem)) = some (v, μ') := h
    have hF : sh_offM μ μ := sh_offM.rf
    by_cases c50 : (sh_i μ r0 1) ≤ i3
    · rw [if_pos c50] at h
      by_cases c51 : i2 ≤ 0
      · rw [if_pos c51] at h
        obtain ⟨e1, e2⟩ := sh_some2 h
        exact e2 ▸ hF
      · rw [if_neg c51] at h
        obtain ⟨e1, e2⟩ := sh_some2 h
        exact e2 ▸ hF
    · rw [if_neg c50] at h
      by_cases c52 : (Int32.ofNat 1600) ≤ i3
      · rw [if_pos c52] at h
        by_cases c53 : i2 ≤ 0
        · rw [if_pos c53] at h
          obtain ⟨e1, e2⟩ := sh_some2 h
          exact e2 ▸ hF
        · rw [if_neg c53] at h
          obtain ⟨e1, e2⟩ := sh_some2 h
          exact e2 ▸ hF
      · rw [if_neg c52] at h
        by_cases c54 : 64 ≤ i2
        · rw [if_pos c54] at h
          by_cases c55 : i2 ≤ 0
          · rw [if_pos c55] at h
            obtain ⟨e1, e2⟩ := sh_some2 h
            exact e2 ▸ hF
          · rw [if_neg c55] at h
            obtain ⟨e1, e2⟩ := sh_some2 h
            exact e2 ▸ hF
        · rw [if_neg c54] at h
          obtain ⟨k56, h⟩ := sh_chk h
          obtain ⟨x57, ex57⟩ : ∃ y : Int32, y = ((-1) - (sh_i μ (r0 + 1) i3.toNatClampNeg)) := ⟨_, rfl⟩
          rw [sh_let_eq ex57] at h
          by_cases c58 : 0 ≤ x57
          · rw [if_pos c58] at h
            by_cases c59 : (f_X1_isFact μ x57) = 0
            · rw [if_pos c59] at h
              by_cases c60 : x57 = 23
              · rw [if_pos c60] at h
                by_cases c61 : i2 ≤ 0
                · rw [if_pos c61] at h
                  exact hF.trans (ih_4 hG hr0 hr1 hr1l h)
                · rw [if_neg c61] at h
                  obtain ⟨k62, h⟩ := sh_chk h
                  obtain ⟨y65, μ63, hr64, h⟩ := sh_bind_e h
                  have hG63 := gp_X1_ofOne hG hr1 hr64
                  have hF63 := hF.trans (fp_X1_ofOne hG hr1 hr1l hr64)
                  obtain ⟨k66, h⟩ := sh_chk h
                  obtain ⟨μ67, eμ67⟩ : ∃ y : sh_Mem, y = (sh_setL μ63 (r0 + 2) ((i2 - 1)).toNatClampNeg y65) := ⟨_, rfl⟩
                  rw [sh_let_eq eμ67] at h
                  have hG67 : sh_G μ67 := by rw [eμ67]; exact hG63
                  have hF67 : sh_offM μ μ67 := by rw [eμ67]; exact sh_offM_L hF63 (sh_ltF hr0 2 (by decide))
                  exact hF67.trans (ih_4 hG67 hr0 hr1 hr1l h)
              · rw [if_neg c60] at h
                by_cases c68 : x57 = 7
                · rw [if_pos c68] at h
                  by_cases c69 : i2 ≤ 0
                  · rw [if_pos c69] at h
                    exact hF.trans (ih_4 hG hr0 hr1 hr1l h)
                  · rw [if_neg c69] at h
                    obtain ⟨k70, h⟩ := sh_chk h
                    obtain ⟨y73, μ71, hr72, h⟩ := sh_bind_e h
                    have hG71 := gp_X1_ofOne hG hr1 hr72
                    have hF71 := hF.trans (fp_X1_ofOne hG hr1 hr1l hr72)
                    obtain ⟨k74, h⟩ := sh_chk h
                    obtain ⟨μ75, eμ75⟩ : ∃ y : sh_Mem, y = (sh_setL μ71 (r0 + 2) ((i2 - 1)).toNatClampNeg y73) := ⟨_, rfl⟩
                    rw [sh_let_eq eμ75] at h
                    have hG75 : sh_G μ75 := by rw [eμ75]; exact hG71
                    have hF75 : sh_offM μ μ75 := by rw [eμ75]; exact sh_offM_L hF71 (sh_ltF hr0 2 (by decide))
                    exact hF75.trans (ih_4 hG75 hr0 hr1 hr1l h)
                · rw [if_neg c68] at h
                  by_cases c76 : x57 = 10
                  · rw [if_pos c76] at h
                    by_cases c86 : i2 ≤ 0
                    · rw [if_pos c86] at h
                      exact hF.trans (ih_4 hG hr0 hr1 hr1l h)
                    · rw [if_neg c86] at h
                      obtain ⟨k87, h⟩ := sh_chk h
                      obtain ⟨y90, μ88, hr89, h⟩ := sh_bind_e h
                      have hG88 := gp_X1_ofOne hG hr1 hr89
                      have hF88 := hF.trans (fp_X1_ofOne hG hr1 hr1l hr89)
                      obtain ⟨k91, h⟩ := sh_chk h
                      obtain ⟨μ92, eμ92⟩ : ∃ y : sh_Mem, y = (sh_setL μ88 (r0 + 2) ((i2 - 1)).toNatClampNeg y90) := ⟨_, rfl⟩
                      rw [sh_let_eq eμ92] at h
                      have hG92 : sh_G μ92 := by rw [eμ92]; exact hG88
                      have hF92 : sh_offM μ μ92 := by rw [eμ92]; exact sh_offM_L hF88 (sh_ltF hr0 2 (by decide))
                      exact hF92.trans (ih_4 hG92 hr0 hr1 hr1l h)
                  · rw [if_neg c76] at h
                    by_cases c77 : i2 ≤ 1
                    · rw [if_pos c77] at h
                      exact hF.trans (ih_4 hG hr0 hr1 hr1l h)
                    · rw [if_neg c77] at h
                      obtain ⟨k78, h⟩ := sh_chk h
                      obtain ⟨k79, h⟩ := sh_chk h
                      obtain ⟨k80, h⟩ := sh_chk h
                      obtain ⟨y83, μ81, hr82, h⟩ := sh_bind_e h
                      have hG81 := gp_X1_ofTwo hG hr82
                      have hF81 := hF.trans (fp_X1_ofTwo hG hr82)
                      obtain ⟨k84, h⟩ := sh_chk h
                      obtain ⟨μ85, eμ85⟩ : ∃ y : sh_Mem, y = (sh_setL μ81 (r0 + 2) (((i2 + (-1)) - 1)).toNatClampNeg y83) := ⟨_, rfl⟩
                      rw [sh_let_eq eμ85] at h
                      have hG85 : sh_G μ85 := by rw [eμ85]; exact hG81
                      have hF85 : sh_offM μ μ85 := by rw [eμ85]; exact sh_offM_L hF81 (sh_ltF hr0 2 (by decide))
                      exact hF85.trans (ih_4 hG85 hr0 hr1 hr1l h)
            · rw [if_neg c59] at h
              obtain ⟨k93, h⟩ := sh_chk h
              obtain ⟨k94, h⟩ := sh_chk h
              obtain ⟨μ95, eμ95⟩ : ∃ y : sh_Mem, y = (sh_setL μ (r0 + 2) i2.toNatClampNeg ((sh_i μ r1 x57.toNatClampNeg)).toInt64) := ⟨_, rfl⟩
              rw [sh_let_eq eμ95] at h
              have hG95 : sh_G μ95 := by rw [eμ95]; exact hG
              have hF95 : sh_offM μ μ95 := by rw [eμ95]; exact sh_offM_L hF (sh_ltF hr0 2 (by decide))
              exact hF95.trans (ih_4 hG95 hr0 hr1 hr1l h)
          · rw [if_neg c58] at h
            obtain ⟨k96, h⟩ := sh_chk h
            obtain ⟨k97, h⟩ := sh_chk h
            obtain ⟨μ98, eμ98⟩ : ∃ y : sh_Mem, y = (sh_setL μ (r0 + 2) i2.toNatClampNeg ((sh_i μ (r0 + 1) i3.toNatClampNeg)).toInt64) := ⟨_, rfl⟩
            rw [sh_let_eq eμ98] at h
            have hG98 : sh_G μ98 := by rw [eμ98]; exact hG
            have hF98 : sh_offM μ μ98 := by rw [eμ98]; exact sh_offM_L hF (sh_ltF hr0 2 (by decide))
            exact hF98.trans (ih_4 hG98 hr0 hr1 hr1l h)
theorem fp_X1_value {f : Nat} {g : Nat} {μ μ' : sh_Mem} {v : Int64} (hG : sh_G μ) (hf : sh_isF f) (hg : sh_LAY[g]? = some (13, 38)) (hgl : g < 291) (h : f_X1_value f g μ = some (v, μ')) : sh_offM μ μ' := by
  have ih_4 := (fpl_X1_value sh_fuel)
  have hF : sh_offM μ μ := sh_offM.rf
  unfold f_X1_value at h
  exact hF.trans (ih_4 hG hf hg hgl h)
theorem fp_X2_opens {a1 : Int32} {μ μ' : sh_Mem} {v : Int32} (hG : sh_G μ) (h : f_X2_opens a1 μ = some (v, μ')) : sh_offM μ μ' := by
  have hF : sh_offM μ μ := sh_offM.rf
  unfold f_X2_opens at h
  by_cases c1 : a1 < 6
  · rw [if_pos c1] at h
    obtain ⟨μ2, hr3, h⟩ := sh_bindv_e h
    have hG2 := gp_X8_advance hG hr3
    have hF2 := hF.trans (fp_X8_advance hG hr3)
    obtain ⟨e1, e2⟩ := sh_some2 h
    exact e2 ▸ hF2
  · rw [if_neg c1] at h
    obtain ⟨y7, μ5, hr6, h⟩ := sh_bind_e h
    have hG5 := gp_X8_fails hG hr6
    have hF5 := hF.trans (fp_X8_fails hG hr6)
    obtain ⟨k8, h⟩ := sh_chk h
    obtain ⟨e1, e2⟩ := sh_some2 h
    exact e2 ▸ hF5
theorem fp_X6_readPlain {μ μ' : sh_Mem} {v : Int32} (hG : sh_G μ) (h : f_X6_readPlain μ = some (v, μ')) : sh_offM μ μ' := by
  have hF : sh_offM μ μ := sh_offM.rf
  unfold f_X6_readPlain at h
  obtain ⟨y3, μ1, hr2, h⟩ := sh_bind_e h
  have hG1 := gp_X8_takesWord hG hr2
  have hF1 := hF.trans (fp_X8_takesWord hG hr2)
  by_cases c4 : y3 = 0
  · rw [if_pos c4] at h
    obtain ⟨e1, e2⟩ := sh_some2 h
    exact e2 ▸ hF1
  · rw [if_neg c4] at h
    obtain ⟨y7, μ5, hr6, h⟩ := sh_bind_e h
    have hG5 := gp_X8_takeNumber hG1 hr6
    have hF5 := hF1.trans (fp_X8_takeNumber hG1 hr6)
    by_cases c8 : y7 = (-1)
    · rw [if_pos c8] at h
      obtain ⟨e1, e2⟩ := sh_some2 h
      exact e2 ▸ hF5
    · rw [if_neg c8] at h
      obtain ⟨y11, μ9, hr10, h⟩ := sh_bind_e h
      have hG9 := gp_X8_takesWord hG5 hr10
      have hF9 := hF5.trans (fp_X8_takesWord hG5 hr10)
      by_cases c12 : y11 = 0
      · rw [if_pos c12] at h
        obtain ⟨e1, e2⟩ := sh_some2 h
        exact e2 ▸ hF9
      · rw [if_neg c12] at h
        obtain ⟨y15, μ13, hr14, h⟩ := sh_bind_e h
        have hG13 := gp_X8_takeNumber hG9 hr14
        have hF13 := hF9.trans (fp_X8_takeNumber hG9 hr14)
        by_cases c16 : y15 = (-1)
        · rw [if_pos c16] at h
          obtain ⟨e1, e2⟩ := sh_some2 h
          exact e2 ▸ hF13
        · rw [if_neg c16] at h
          obtain ⟨y19, μ17, hr18, h⟩ := sh_bind_e h
          have hG17 := gp_X8_takesMark hG13 hr18
          have hF17 := hF13.trans (fp_X8_takesMark hG13 hr18)
          by_cases c20 : y19 = 0
          · rw [if_pos c20] at h
            obtain ⟨e1, e2⟩ := sh_some2 h
            exact e2 ▸ hF17
          · rw [if_neg c20] at h
            obtain ⟨k21, h⟩ := sh_chk h
            obtain ⟨r22, er22⟩ : ∃ y : Nat, y = (sh_ref μ17 7 2) := ⟨_, rfl⟩
            rw [sh_let_eq er22] at h
            have k21r : sh_r μ17 7 2 = some r22 ∧ (r22 = 8 ∨ r22 = 29) := by rw [er22]; exact k21
            obtain ⟨μ23, eμ23⟩ : ∃ y : sh_Mem, y = (sh_setI μ17 r22 0 y7) := ⟨_, rfl⟩
            rw [sh_let_eq eμ23] at h
            have hG23 : sh_G μ23 := by rw [eμ23]; exact hG17
            have hF23 : sh_offM μ μ23 := by rw [eμ23]; exact sh_offM_I hF17 (sh_ltP k21r.2 0 (by decide))
            obtain ⟨k24, h⟩ := sh_chk h
            obtain ⟨r25, er25⟩ : ∃ y : Nat, y = (sh_ref μ23 7 2) := ⟨_, rfl⟩
            rw [sh_let_eq er25] at h
            have k24r : sh_r μ23 7 2 = some r25 ∧ (r25 = 8 ∨ r25 = 29) := by rw [er25]; exact k24
            obtain ⟨μ26, eμ26⟩ : ∃ y : sh_Mem, y = (sh_setI μ23 r25 1 y15) := ⟨_, rfl⟩
            rw [sh_let_eq eμ26] at h
            have hG26 : sh_G μ26 := by rw [eμ26]; exact hG23
            have hF26 : sh_offM μ μ26 := by rw [eμ26]; exact sh_offM_I hF23 (sh_ltP k24r.2 0 (by decide))
            obtain ⟨e1, e2⟩ := sh_some2 h
            exact e2 ▸ hF26
theorem fp_X6_readHigh {μ μ' : sh_Mem} {v : Int32} (hG : sh_G μ) (h : f_X6_readHigh μ = some (v, μ')) : sh_offM μ μ' := by
  have hF : sh_offM μ μ := sh_offM.rf
  unfold f_X6_readHigh at h
  obtain ⟨μ1, hr2, h⟩ := sh_bindv_e h
  have hG1 := gp_X8_advance hG hr2
  have hF1 := hF.trans (fp_X8_advance hG hr2)
  obtain ⟨k4, h⟩ := sh_chk h
  obtain ⟨r5, er5⟩ : ∃ y : Nat, y = (sh_ref μ1 7 2) := ⟨_, rfl⟩
  rw [sh_let_eq er5] at h
  have k4r : sh_r μ1 7 2 = some r5 ∧ (r5 = 8 ∨ r5 = 29) := by rw [er5]; exact k4
  obtain ⟨y8, μ6, hr7, h⟩ := sh_bind_e h
  have hG6 := gp_X8_takeNumber hG1 hr7
  have hF6 := hF1.trans (fp_X8_takeNumber hG1 hr7)
  by_cases c9 : y8 = (-1)
  · rw [if_pos c9] at h
    obtain ⟨e1, e2⟩ := sh_some2 h
    exact e2 ▸ hF6
  · rw [if_neg c9] at h
    obtain ⟨k10, h⟩ := sh_chk h
    obtain ⟨r11, er11⟩ : ∃ y : Nat, y = (sh_ref μ6 7 2) := ⟨_, rfl⟩
    rw [sh_let_eq er11] at h
    have k10r : sh_r μ6 7 2 = some r11 ∧ (r11 = 8 ∨ r11 = 29) := by rw [er11]; exact k10
    obtain ⟨y14, μ12, hr13, h⟩ := sh_bind_e h
    have hG12 := gp_X8_takeNumber hG6 hr13
    have hF12 := hF6.trans (fp_X8_takeNumber hG6 hr13)
    by_cases c15 : y14 = (-1)
    · rw [if_pos c15] at h
      obtain ⟨e1, e2⟩ := sh_some2 h
      exact e2 ▸ hF12
    · rw [if_neg c15] at h
      obtain ⟨y18, μ16, hr17, h⟩ := sh_bind_e h
      have hG16 := gp_X8_takeNumber hG12 hr17
      have hF16 := hF12.trans (fp_X8_takeNumber hG12 hr17)
      obtain ⟨k19, h⟩ := sh_chk h
      obtain ⟨r20, er20⟩ : ∃ y : Nat, y = (sh_ref μ16 7 2) := ⟨_, rfl⟩
      rw [sh_let_eq er20] at h
      have k19r : sh_r μ16 7 2 = some r20 ∧ (r20 = 8 ∨ r20 = 29) := by rw [er20]; exact k19
      obtain ⟨x21, ex21⟩ : ∃ y : Int32, y = (f_X5_cellAt μ16 r20 y8 y14) := ⟨_, rfl⟩
      rw [sh_let_eq ex21] at h
      by_cases c22 : y18 = (-1)
      · rw [if_pos c22] at h
        obtain ⟨e1, e2⟩ := sh_some2 h
        exact e2 ▸ hF16
      · rw [if_neg c22] at h
        by_cases c23 : x21 = (-1)
        · rw [if_pos c23] at h
          obtain ⟨e1, e2⟩ := sh_some2 h
          exact e2 ▸ hF16
        · rw [if_neg c23] at h
          obtain ⟨k24, h⟩ := sh_chk h
          obtain ⟨r25, er25⟩ : ∃ y : Nat, y = (sh_ref μ16 7 2) := ⟨_, rfl⟩
          rw [sh_let_eq er25] at h
          have k24r : sh_r μ16 7 2 = some r25 ∧ (r25 = 8 ∨ r25 = 29) := by rw [er25]; exact k24
          obtain ⟨k26, h⟩ := sh_chk h
          obtain ⟨μ27, eμ27⟩ : ∃ y : sh_Mem, y = (sh_setI μ16 ((r25 + 14) + 1) x21.toNatClampNeg y18) := ⟨_, rfl⟩
          rw [sh_let_eq eμ27] at h
          have hG27 : sh_G μ27 := by rw [eμ27]; exact hG16
          have hF27 : sh_offM μ μ27 := by rw [eμ27]; exact sh_offM_I hF16 (sh_ltL (gP_land k24r.2) 1 (by decide))
          obtain ⟨e1, e2⟩ := sh_some2 h
          exact e2 ▸ hF27
theorem fp_X6_readTopic {μ μ' : sh_Mem} {v : Int32} (hG : sh_G μ) (h : f_X6_readTopic μ = some (v, μ')) : sh_offM μ μ' := by
  have hF : sh_offM μ μ := sh_offM.rf
  unfold f_X6_readTopic at h
  obtain ⟨μ1, hr2, h⟩ := sh_bindv_e h
  have hG1 := gp_X8_advance hG hr2
  have hF1 := hF.trans (fp_X8_advance hG hr2)
  obtain ⟨y6, μ4, hr5, h⟩ := sh_bind_e h
  have hG4 := gp_X8_takeName hG1 hr5
  have hF4 := hF1.trans (fp_X8_takeName hG1 hr5)
  obtain ⟨y9, μ7, hr8, h⟩ := sh_bind_e h
  have hG7 := gp_X6_isNew hG4 hr8
  have hF7 := hF4.trans (fp_X6_isNew hG4 hr8)
  by_cases c10 : y9 = 0
  · rw [if_pos c10] at h
    obtain ⟨e1, e2⟩ := sh_some2 h
    exact e2 ▸ hF7
  · rw [if_neg c10] at h
    obtain ⟨k11, h⟩ := sh_chk h
    obtain ⟨r12, er12⟩ : ∃ y : Nat, y = (sh_ref μ7 7 2) := ⟨_, rfl⟩
    rw [sh_let_eq er12] at h
    have k11r : sh_r μ7 7 2 = some r12 ∧ (r12 = 8 ∨ r12 = 29) := by rw [er12]; exact k11
    obtain ⟨k13, h⟩ := sh_chk h
    obtain ⟨r14, er14⟩ : ∃ y : Nat, y = (sh_ref μ7 7 2) := ⟨_, rfl⟩
    rw [sh_let_eq er14] at h
    have k13r : sh_r μ7 7 2 = some r14 ∧ (r14 = 8 ∨ r14 = 29) := by rw [er14]; exact k13
    obtain ⟨k15, h⟩ := sh_chk h
    obtain ⟨μ16, eμ16⟩ : ∃ y : sh_Mem, y = (sh_setI μ7 (r12 + 1) ((sh_i μ7 r14 2)).toNatClampNeg y6) := ⟨_, rfl⟩
    rw [sh_let_eq eμ16] at h
    have hG16 : sh_G μ16 := by rw [eμ16]; exact hG7
    have hF16 : sh_offM μ μ16 := by rw [eμ16]; exact sh_offM_I hF7 (sh_ltP k11r.2 1 (by decide))
    obtain ⟨k17, h⟩ := sh_chk h
    obtain ⟨r18, er18⟩ : ∃ y : Nat, y = (sh_ref μ16 7 2) := ⟨_, rfl⟩
    rw [sh_let_eq er18] at h
    have k17r : sh_r μ16 7 2 = some r18 ∧ (r18 = 8 ∨ r18 = 29) := by rw [er18]; exact k17
    obtain ⟨μ19, eμ19⟩ : ∃ y : sh_Mem, y = (sh_setI μ16 r18 2 ((sh_i μ16 r18 2) + 1)) := ⟨_, rfl⟩
    rw [sh_let_eq eμ19] at h
    have hG19 : sh_G μ19 := by rw [eμ19]; exact hG16
    have hF19 : sh_offM μ μ19 := by rw [eμ19]; exact sh_offM_I hF16 (sh_ltP k17r.2 0 (by decide))
    obtain ⟨e1, e2⟩ := sh_some2 h
    exact e2 ▸ hF19
theorem fp_X6_readPerson {μ μ' : sh_Mem} {v : Int32} (hG : sh_G μ) (h : f_X6_readPerson μ = some (v, μ')) : sh_offM μ μ' := by
  have hF : sh_offM μ μ := sh_offM.rf
  unfold f_X6_readPerson at h
  obtain ⟨μ1, hr2, h⟩ := sh_bindv_e h
  have hG1 := gp_X8_advance hG hr2
  have hF1 := hF.trans (fp_X8_advance hG hr2)
  obtain ⟨y6, μ4, hr5, h⟩ := sh_bind_e h
  have hG4 := gp_X8_takeName hG1 hr5
  have hF4 := hF1.trans (fp_X8_takeName hG1 hr5)
  obtain ⟨y9, μ7, hr8, h⟩ := sh_bind_e h
  have hG7 := gp_X6_isNew hG4 hr8
  have hF7 := hF4.trans (fp_X6_isNew hG4 hr8)
  by_cases c10 : y9 = 0
  · rw [if_pos c10] at h
    obtain ⟨e1, e2⟩ := sh_some2 h
    exact e2 ▸ hF7
  · rw [if_neg c10] at h
    obtain ⟨y13, μ11, hr12, h⟩ := sh_bind_e h
    have hG11 := gp_X8_takesWord hG7 hr12
    have hF11 := hF7.trans (fp_X8_takesWord hG7 hr12)
    by_cases c14 : y13 = 0
    · rw [if_pos c14] at h
      obtain ⟨e1, e2⟩ := sh_some2 h
      exact e2 ▸ hF11
    · rw [if_neg c14] at h
      obtain ⟨k15, h⟩ := sh_chk h
      obtain ⟨r16, er16⟩ : ∃ y : Nat, y = (sh_ref μ11 7 2) := ⟨_, rfl⟩
      rw [sh_let_eq er16] at h
      have k15r : sh_r μ11 7 2 = some r16 ∧ (r16 = 8 ∨ r16 = 29) := by rw [er16]; exact k15
      obtain ⟨y19, μ17, hr18, h⟩ := sh_bind_e h
      have hG17 := gp_X8_takeNumber hG11 hr18
      have hF17 := hF11.trans (fp_X8_takeNumber hG11 hr18)
      by_cases c20 : y19 = (-1)
      · rw [if_pos c20] at h
        obtain ⟨e1, e2⟩ := sh_some2 h
        exact e2 ▸ hF17
      · rw [if_neg c20] at h
        obtain ⟨k21, h⟩ := sh_chk h
        obtain ⟨r22, er22⟩ : ∃ y : Nat, y = (sh_ref μ17 7 2) := ⟨_, rfl⟩
        rw [sh_let_eq er22] at h
        have k21r : sh_r μ17 7 2 = some r22 ∧ (r22 = 8 ∨ r22 = 29) := by rw [er22]; exact k21
        obtain ⟨y25, μ23, hr24, h⟩ := sh_bind_e h
        have hG23 := gp_X8_takeNumber hG17 hr24
        have hF23 := hF17.trans (fp_X8_takeNumber hG17 hr24)
        by_cases c26 : y25 = (-1)
        · rw [if_pos c26] at h
          obtain ⟨e1, e2⟩ := sh_some2 h
          exact e2 ▸ hF23
        · rw [if_neg c26] at h
          obtain ⟨k27, h⟩ := sh_chk h
          obtain ⟨r28, er28⟩ : ∃ y : Nat, y = (sh_ref μ23 7 2) := ⟨_, rfl⟩
          rw [sh_let_eq er28] at h
          have k27r : sh_r μ23 7 2 = some r28 ∧ (r28 = 8 ∨ r28 = 29) := by rw [er28]; exact k27
          obtain ⟨k29, h⟩ := sh_chk h
          obtain ⟨r30, er30⟩ : ∃ y : Nat, y = (sh_ref μ23 7 2) := ⟨_, rfl⟩
          rw [sh_let_eq er30] at h
          have k29r : sh_r μ23 7 2 = some r30 ∧ (r30 = 8 ∨ r30 = 29) := by rw [er30]; exact k29
          obtain ⟨y33, μ31, hr32, h⟩ := sh_bind_e h
          have hG31 := gp_X3_isSomeoneAt hG23 (gP_land k27r.2) hr32
          have hF31 := hF23.trans (fp_X3_isSomeoneAt hG23 (gP_land k27r.2) hr32)
          by_cases c34 : y33 = 0
          · rw [if_pos c34] at h
            obtain ⟨y37, μ35, hr36, h⟩ := sh_bind_e h
            have hG35 := gp_X8_takesWord hG31 hr36
            have hF35 := hF31.trans (fp_X8_takesWord hG31 hr36)
            by_cases c38 : y37 = 0
            · rw [if_pos c38] at h
              obtain ⟨e1, e2⟩ := sh_some2 h
              exact e2 ▸ hF35
            · rw [if_neg c38] at h
              obtain ⟨y41, μ39, hr40, h⟩ := sh_bind_e h
              have hG39 := gp_X8_takeNumber hG35 hr40
              have hF39 := hF35.trans (fp_X8_takeNumber hG35 hr40)
              by_cases c42 : y41 = (-1)
              · rw [if_pos c42] at h
                obtain ⟨e1, e2⟩ := sh_some2 h
                exact e2 ▸ hF39
              · rw [if_neg c42] at h
                obtain ⟨k43, h⟩ := sh_chk h
                obtain ⟨r44, er44⟩ : ∃ y : Nat, y = (sh_ref μ39 7 2) := ⟨_, rfl⟩
                rw [sh_let_eq er44] at h
                have k43r : sh_r μ39 7 2 = some r44 ∧ (r44 = 8 ∨ r44 = 29) := by rw [er44]; exact k43
                obtain ⟨k45, h⟩ := sh_chk h
                obtain ⟨r46, er46⟩ : ∃ y : Nat, y = (sh_ref μ39 7 2) := ⟨_, rfl⟩
                rw [sh_let_eq er46] at h
                have k45r : sh_r μ39 7 2 = some r46 ∧ (r46 = 8 ∨ r46 = 29) := by rw [er46]; exact k45
                obtain ⟨k47, h⟩ := sh_chk h
                obtain ⟨μ48, eμ48⟩ : ∃ y : sh_Mem, y = (sh_setI μ39 (r44 + 2) ((sh_i μ39 r46 3)).toNatClampNeg y6) := ⟨_, rfl⟩
                rw [sh_let_eq eμ48] at h
                have hG48 : sh_G μ48 := by rw [eμ48]; exact hG39
                have hF48 : sh_offM μ μ48 := by rw [eμ48]; exact sh_offM_I hF39 (sh_ltP k43r.2 2 (by decide))
                obtain ⟨k49, h⟩ := sh_chk h
                obtain ⟨r50, er50⟩ : ∃ y : Nat, y = (sh_ref μ48 7 2) := ⟨_, rfl⟩
                rw [sh_let_eq er50] at h
                have k49r : sh_r μ48 7 2 = some r50 ∧ (r50 = 8 ∨ r50 = 29) := by rw [er50]; exact k49
                obtain ⟨k51, h⟩ := sh_chk h
                obtain ⟨r52, er52⟩ : ∃ y : Nat, y = (sh_ref μ48 7 2) := ⟨_, rfl⟩
                rw [sh_let_eq er52] at h
                have k51r : sh_r μ48 7 2 = some r52 ∧ (r52 = 8 ∨ r52 = 29) := by rw [er52]; exact k51
                obtain ⟨k53, h⟩ := sh_chk h
                obtain ⟨μ54, eμ54⟩ : ∃ y : sh_Mem, y = (sh_setI μ48 ((r50 + 14) + 2) ((sh_i μ48 r52 3)).toNatClampNeg y19) := ⟨_, rfl⟩
                rw [sh_let_eq eμ54] at h
                have hG54 : sh_G μ54 := by rw [eμ54]; exact hG48
                have hF54 : sh_offM μ μ54 := by rw [eμ54]; exact sh_offM_I hF48 (sh_ltL (gP_land k49r.2) 2 (by decide))
                obtain ⟨k55, h⟩ := sh_chk h
                obtain ⟨r56, er56⟩ : ∃ y : Nat, y = (sh_ref μ54 7 2) := ⟨_, rfl⟩
                rw [sh_let_eq er56] at h
                have k55r : sh_r μ54 7 2 = some r56 ∧ (r56 = 8 ∨ r56 = 29) := by rw [er56]; exact k55
                obtain ⟨k57, h⟩ := sh_chk h
                obtain ⟨r58, er58⟩ : ∃ y : Nat, y = (sh_ref μ54 7 2) := ⟨_, rfl⟩
                rw [sh_let_eq er58] at h
                have k57r : sh_r μ54 7 2 = some r58 ∧ (r58 = 8 ∨ r58 = 29) := by rw [er58]; exact k57
                obtain ⟨k59, h⟩ := sh_chk h
                obtain ⟨μ60, eμ60⟩ : ∃ y : sh_Mem, y = (sh_setI μ54 ((r56 + 14) + 3) ((sh_i μ54 r58 3)).toNatClampNeg y25) := ⟨_, rfl⟩
                rw [sh_let_eq eμ60] at h
                have hG60 : sh_G μ60 := by rw [eμ60]; exact hG54
                have hF60 : sh_offM μ μ60 := by rw [eμ60]; exact sh_offM_I hF54 (sh_ltL (gP_land k55r.2) 3 (by decide))
                obtain ⟨k61, h⟩ := sh_chk h
                obtain ⟨r62, er62⟩ : ∃ y : Nat, y = (sh_ref μ60 7 2) := ⟨_, rfl⟩
                rw [sh_let_eq er62] at h
                have k61r : sh_r μ60 7 2 = some r62 ∧ (r62 = 8 ∨ r62 = 29) := by rw [er62]; exact k61
                obtain ⟨k63, h⟩ := sh_chk h
                obtain ⟨r64, er64⟩ : ∃ y : Nat, y = (sh_ref μ60 7 2) := ⟨_, rfl⟩
                rw [sh_let_eq er64] at h
                have k63r : sh_r μ60 7 2 = some r64 ∧ (r64 = 8 ∨ r64 = 29) := by rw [er64]; exact k63
                obtain ⟨k65, h⟩ := sh_chk h
                obtain ⟨μ66, eμ66⟩ : ∃ y : sh_Mem, y = (sh_setI μ60 ((r62 + 14) + 4) ((sh_i μ60 r64 3)).toNatClampNeg y41) := ⟨_, rfl⟩
                rw [sh_let_eq eμ66] at h
                have hG66 : sh_G μ66 := by rw [eμ66]; exact hG60
                have hF66 : sh_offM μ μ66 := by rw [eμ66]; exact sh_offM_I hF60 (sh_ltL (gP_land k61r.2) 4 (by decide))
                obtain ⟨k67, h⟩ := sh_chk h
                obtain ⟨r68, er68⟩ : ∃ y : Nat, y = (sh_ref μ66 7 2) := ⟨_, rfl⟩
                rw [sh_let_eq er68] at h
                have k67r : sh_r μ66 7 2 = some r68 ∧ (r68 = 8 ∨ r68 = 29) := by rw [er68]; exact k67
                obtain ⟨k69, h⟩ := sh_chk h
                obtain ⟨r70, er70⟩ : ∃ y : Nat, y = (sh_ref μ66 7 2) := ⟨_, rfl⟩
                rw [sh_let_eq er70] at h
                have k69r : sh_r μ66 7 2 = some r70 ∧ (r70 = 8 ∨ r70 = 29) := by rw [er70]; exact k69
                obtain ⟨k71, h⟩ := sh_chk h
                obtain ⟨μ72, eμ72⟩ : ∃ y : sh_Mem, y = (sh_setI μ66 ((r68 + 14) + 5) ((sh_i μ66 r70 3)).toNatClampNeg 0) := ⟨_, rfl⟩
                rw [sh_let_eq eμ72] at h
                have hG72 : sh_G μ72 := by rw [eμ72]; exact hG66
                have hF72 : sh_offM μ μ72 := by rw [eμ72]; exact sh_offM_I hF66 (sh_ltL (gP_land k67r.2) 5 (by decide))
                obtain ⟨k73, h⟩ := sh_chk h
                obtain ⟨r74, er74⟩ : ∃ y : Nat, y = (sh_ref μ72 7 2) := ⟨_, rfl⟩
                rw [sh_let_eq er74] at h
                have k73r : sh_r μ72 7 2 = some r74 ∧ (r74 = 8 ∨ r74 = 29) := by rw [er74]; exact k73
                obtain ⟨μ75, eμ75⟩ : ∃ y : sh_Mem, y = (sh_setI μ72 r74 3 ((sh_i μ72 r74 3) + 1)) := ⟨_, rfl⟩
                rw [sh_let_eq eμ75] at h
                have hG75 : sh_G μ75 := by rw [eμ75]; exact hG72
                have hF75 : sh_offM μ μ75 := by rw [eμ75]; exact sh_offM_I hF72 (sh_ltP k73r.2 0 (by decide))
                obtain ⟨e1, e2⟩ := sh_some2 h
                exact e2 ▸ hF75
          · rw [if_neg c34] at h
            obtain ⟨y78, μ76, hr77, h⟩ := sh_bind_e h
            have hG76 := gp_X8_fails hG31 hr77
            have hF76 := hF31.trans (fp_X8_fails hG31 hr77)
            obtain ⟨k79, h⟩ := sh_chk h
            obtain ⟨e1, e2⟩ := sh_some2 h
            exact e2 ▸ hF76
