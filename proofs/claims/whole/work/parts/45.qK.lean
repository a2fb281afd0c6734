theorem fpl_X12_feed (fuel : Nat) : (∀ ⦃i1 : Int32⦄ ⦃i2 : Int32⦄ ⦃i3 : Int32⦄ ⦃i4 : Int32⦄ ⦃i5 : Int32⦄ ⦃i6 : Int32⦄ ⦃μ μ' : sh_Mem⦄ ⦃v : Int32⦄, sh_G μ → F_X12_feed fuel 1 i1 i2 i3 i4 i5 i6 μ = some (v, μ') → sh_offX μ μ') := by
  induction fuel with
  | zero => intro i1 i2 i3 i4 i5 i6 μ μ' v hG h; cases h
  | succ fuel ih =>
    have ih_28 := ih
    intro i1 i2 i3 i4 i5 i6 μ μ' v hG h
    replace h : ((if 20 ≤ i6 then some ((sh_i μ 291 1), μ) else (if 4 ≤ i6 then (if 8 ≤ i6 then (if 12 ≤ i6 then (if 16 ≤ i6 then (if sh_in (sh_i μ 291 1) 1600 then sh_let (sh_setI μ 292 ((sh_i μ 291 1)).toNatClampNeg ((i5 >>> ((8 * (3 - (i6 - i6 / 4 * 4))) &&& 31)) &&& 255)) (fun μ29 => sh_let (sh_setI μ29 291 1 ((sh_i μ29 291 1) + 1)) (fun μ30 => F_X12_feed fuel 1 i1 i2 i3 i4 i5 (i6 + 1) μ30)) else none) else (if sh_in (sh_i μ 291 1) 1600 then sh_let (sh_setI μ 292 ((sh_i μ 291 1)).toNatClampNeg ((i4 >>> ((8 * (3 - (i6 - i6 / 4 * 4))) &&& 31)) &&& 255)) (fun μ32 => sh_let (sh_setI μ32 291 1 ((sh_i μ32 291 1) + 1)) (fun μ33 => F_X12_feed fuel 1 i1 i2 i3 i4 i5 (i6 + 1) μ33)) else none)) else (if sh_in (sh_i μ 291 1) 1600 then sh_let (sh_setI μ 292 ((sh_i μ 291 1)).toNatClampNeg ((i3 >>> ((8 * (3 - (i6 - i6 / 4 * 4))) &&& 31)) &&& 255)) (fun μ35 => sh_let (sh_setI μ35 291 1 ((sh_i μ35 291 1) + 1)) (fun μ36 => F_X12_feed fuel 1 i1 i2 i3 i4 i5 (i6 + 1) μ36)) else none)) else (if sh_in (sh_i μ 291 1) 1600 then sh_let (sh_setI μ 292 ((sh_i μ 291 1)).toNatClampNeg ((i2 >>> ((8 * (3 - (i6 - i6 / 4 * 4))) &&& 31)) &&& 255)) (fun μ38 => sh_let (sh_setI μ38 291 1 ((sh_i μ38 291 1) + 1)) (fun μ39 => F_X12_feed fuel 1 i1 i2 i3 i4 i5 (i6 + 1) μ39)) else none)) else (if sh_in (sh_i μ 291 1) 1600 then sh_let (sh_setI μ 292 ((sh_i μ 291 1)).toNatClampNeg ((i1 >>> ((8 * (3 - (i6 - i6 / 4 * 4))) &&& 31)) &&& 255)) (fun μ41 => sh_let (sh_setI μ41 291 1 ((sh_i μ41 291 1) + 1)) (fun μ42 => F_X12_feed fuel 1 i1 i2 i3 i4 i5 (i6 + 1) μ42)) else none))) : Option (Int32 × sh_Mem)) = some (v, μ') := h
    have hF : sh_offX μ μ := sh_offX.rf
    by_cases c23 : 20 ≤ i6
    · rw [if_pos c23] at h
      obtain ⟨e1, e2⟩ := sh_some2 h
      exact e2 ▸ hF
    · rw [if_neg c23] at h
      by_cases c24 : 4 ≤ i6
      · rw [if_pos c24] at h
        by_cases c25 : 8 ≤ i6
        · rw [if_pos c25] at h
          by_cases c26 : 12 ≤ i6
          · rw [if_pos c26] at h
            by_cases c27 : 16 ≤ i6
            · rw [if_pos c27] at h
              obtain ⟨k28, h⟩ := sh_chk h
              obtain ⟨μ29, eμ29⟩ : ∃ y : sh_Mem, y = (sh_setI μ 292 ((sh_i μ 291 1)).toNatClampNeg ((i5 >>> ((8 * (3 - (i6 - i6 / 4 * 4))) &&& 31)) &&& 255)) := ⟨_, rfl⟩
              rw [sh_let_eq eμ29] at h
              have hG29 : sh_G μ29 := by rw [eμ29]; exact hG
              have hF29 : sh_offX μ μ29 := by rw [eμ29]; exact sh_offX_I hF (by decide)
              obtain ⟨μ30, eμ30⟩ : ∃ y : sh_Mem, y = (sh_setI μ29 291 1 ((sh_i μ29 291 1) + 1)) := ⟨_, rfl⟩
              rw [sh_let_eq eμ30] at h
              have hG30 : sh_G μ30 := by rw [eμ30]; exact hG29
              have hF30 : sh_offX μ μ30 := by rw [eμ30]; exact sh_offX_I hF29 (by decide)
              exact hF30.trans (ih_28 hG30 h)
            · rw [if_neg c27] at h
              obtain ⟨k31, h⟩ := sh_chk h
              obtain ⟨μ32, eμ32⟩ : ∃ y : sh_Mem, y = (sh_setI μ 292 ((sh_i μ 291 1)).toNatClampNeg ((i4 >>> ((8 * (3 - (i6 - i6 / 4 * 4))) &&& 31)) &&& 255)) := ⟨_, rfl⟩
              rw [sh_let_eq eμ32] at h
              have hG32 : sh_G μ32 := by rw [eμ32]; exact hG
              have hF32 : sh_offX μ μ32 := by rw [eμ32]; exact sh_offX_I hF (by decide)
              obtain ⟨μ33, eμ33⟩ : ∃ y : sh_Mem, y = (sh_setI μ32 291 1 ((sh_i μ32 291 1) + 1)) := ⟨_, rfl⟩
              rw [sh_let_eq eμ33] at h
              have hG33 : sh_G μ33 := by rw [eμ33]; exact hG32
              have hF33 : sh_offX μ μ33 := by rw [eμ33]; exact sh_offX_I hF32 (by decide)
              exact hF33.trans (ih_28 hG33 h)
          · rw [if_neg c26] at h
            obtain ⟨k34, h⟩ := sh_chk h
            obtain ⟨μ35, eμ35⟩ : ∃ y : sh_Mem, y = (sh_setI μ 292 ((sh_i μ 291 1)).toNatClampNeg ((i3 >>> ((8 * (3 - (i6 - i6 / 4 * 4))) &&& 31)) &&& 255)) := ⟨_, rfl⟩
            rw [sh_let_eq eμ35] at h
            have hG35 : sh_G μ35 := by rw [eμ35]; exact hG
            have hF35 : sh_offX μ μ35 := by rw [eμ35]; exact sh_offX_I hF (by decide)
            obtain ⟨μ36, eμ36⟩ : ∃ y : sh_Mem, y = (sh_setI μ35 291 1 ((sh_i μ35 291 1) + 1)) := ⟨_, rfl⟩
            rw [sh_let_eq eμ36] at h
            have hG36 : sh_G μ36 := by rw [eμ36]; exact hG35
            have hF36 : sh_offX μ μ36 := by rw [eμ36]; exact sh_offX_I hF35 (by decide)
            exact hF36.trans (ih_28 hG36 h)
        · rw [if_neg c25] at h
          obtain ⟨k37, h⟩ := sh_chk h
          obtain ⟨μ38, eμ38⟩ : ∃ y : sh_Mem, y = (sh_setI μ 292 ((sh_i μ 291 1)).toNatClampNeg ((i2 >>> ((8 * (3 - (i6 - i6 / 4 * 4))) &&& 31)) &&& 255)) := ⟨_, rfl⟩
          rw [sh_let_eq eμ38] at h
          have hG38 : sh_G μ38 := by rw [eμ38]; exact hG
          have hF38 : sh_offX μ μ38 := by rw [eμ38]; exact sh_offX_I hF (by decide)
          obtain ⟨μ39, eμ39⟩ : ∃ y : sh_Mem, y = (sh_setI μ38 291 1 ((sh_i μ38 291 1) + 1)) := ⟨_, rfl⟩
          rw [sh_let_eq eμ39] at h
          have hG39 : sh_G μ39 := by rw [eμ39]; exact hG38
          have hF39 : sh_offX μ μ39 := by rw [eμ39]; exact sh_offX_I hF38 (by decide)
          exact hF39.trans (ih_28 hG39 h)
      · rw [if_neg c24] at h
        obtain ⟨k40, h⟩ := sh_chk h
        obtain ⟨μ41, eμ41⟩ : ∃ y : sh_Mem, y = (sh_setI μ 292 ((sh_i μ 291 1)).toNatClampNeg ((i1 >>> ((8 * (3 - (i6 - i6 / 4 * 4))) &&& 31)) &&& 255)) := ⟨_, rfl⟩
        rw [sh_let_eq eμ41] at h
        have hG41 : sh_G μ41 := by rw [eμ41]; exact hG
        have hF41 : sh_offX μ μ41 := by rw [eμ41]; exact sh_offX_I hF (by decide)
        obtain ⟨μ42, eμ42⟩ : ∃ y : sh_Mem, y = (sh_setI μ41 291 1 ((sh_i μ41 291 1) + 1)) := ⟨_, rfl⟩
        rw [sh_let_eq eμ42] at h
        have hG42 : sh_G μ42 := by rw [eμ42]; exact hG41
        have hF42 : sh_offX μ μ42 := by rw [eμ42]; exact sh_offX_I hF41 (by decide)
        exact hF42.trans (ih_28 hG42 h)
theorem fp_X12_feed {a1 : Int32} {a2 : Int32} {a3 : Int32} {a4 : Int32} {a5 : Int32} {μ μ' : sh_Mem} {v : Int32} (hG : sh_G μ) (h : f_X12_feed a1 a2 a3 a4 a5 μ = some (v, μ')) : sh_offX μ μ' := by
  have ih_28 := (fpl_X12_feed sh_fuel)
  have hF : sh_offX μ μ := sh_offX.rf
  unfold f_X12_feed at h
  by_cases c43 : ((sh_i μ 291 1) + 20) ≤ 1600
  · rw [if_pos c43] at h
    exact hF.trans (ih_28 hG h)
  · rw [if_neg c43] at h
    obtain ⟨μ44, eμ44⟩ : ∃ y : sh_Mem, y = (sh_setI μ 293 (Int32.toNatClampNeg 0) ((sh_i μ 293 (Int32.toNatClampNeg 0)) + 1)) := ⟨_, rfl⟩
    rw [sh_let_eq eμ44] at h
    have hG44 : sh_G μ44 := by rw [eμ44]; exact hG
    have hF44 : sh_offX μ μ44 := by rw [eμ44]; exact sh_offX_I hF (by decide)
    obtain ⟨e1, e2⟩ := sh_some2 h
    exact e2 ▸ hF44
theorem fp_X12_end {a1 : Int32} {μ μ' : sh_Mem} {v : Int32} (hG : sh_G μ) (h : f_X12_end a1 μ = some (v, μ')) : sh_offX μ μ' := by
  have hF : sh_offX μ μ := sh_offX.rf
  unfold f_X12_end at h
  by_cases c1 : a1 < 0
  · rw [if_pos c1] at h
    obtain ⟨μ2, eμ2⟩ : ∃ y : sh_Mem, y = (sh_setI μ 293 (Int32.toNatClampNeg 0) ((sh_i μ 293 (Int32.toNatClampNeg 0)) + 1)) := ⟨_, rfl⟩
    rw [sh_let_eq eμ2] at h
    have hG2 : sh_G μ2 := by rw [eμ2]; exact hG
    have hF2 : sh_offX μ μ2 := by rw [eμ2]; exact sh_offX_I hF (by decide)
    obtain ⟨e1, e2⟩ := sh_some2 h
    exact e2 ▸ hF2
  · rw [if_neg c1] at h
    by_cases c3 : a1 ≤ (sh_i μ 291 1)
    · rw [if_pos c3] at h
      obtain ⟨μ4, eμ4⟩ : ∃ y : sh_Mem, y = (sh_setI μ 291 1 a1) := ⟨_, rfl⟩
      rw [sh_let_eq eμ4] at h
      have hG4 : sh_G μ4 := by rw [eμ4]; exact hG
      have hF4 : sh_offX μ μ4 := by rw [eμ4]; exact sh_offX_I hF (by decide)
      obtain ⟨e1, e2⟩ := sh_some2 h
      exact e2 ▸ hF4
    · rw [if_neg c3] at h
      obtain ⟨μ5, eμ5⟩ : ∃ y : sh_Mem, y = (sh_setI μ 293 (Int32.toNatClampNeg 0) ((sh_i μ 293 (Int32.toNatClampNeg 0)) + 1)) := ⟨_, rfl⟩
      rw [sh_let_eq eμ5] at h
      have hG5 : sh_G μ5 := by rw [eμ5]; exact hG
      have hF5 : sh_offX μ μ5 := by rw [eμ5]; exact sh_offX_I hF (by decide)
      obtain ⟨e1, e2⟩ := sh_some2 h
      exact e2 ▸ hF5
theorem fp_X12_fail {a1 : Int32} {a2 : Int32} {μ μ' : sh_Mem} (hG : sh_G μ) (h : f_X12_fail a1 a2 μ = some μ') : sh_offX μ μ' := by
  have hF : sh_offX μ μ := sh_offX.rf
  unfold f_X12_fail at h
  by_cases c1 : (sh_i μ 291 5) = 0
  · rw [if_pos c1] at h
    obtain ⟨μ2, eμ2⟩ : ∃ y : sh_Mem, y = (sh_setI μ 291 5 a1) := ⟨_, rfl⟩
    rw [sh_let_eq eμ2] at h
    have hG2 : sh_G μ2 := by rw [eμ2]; exact hG
    have hF2 : sh_offX μ μ2 := by rw [eμ2]; exact sh_offX_I hF (by decide)
    obtain ⟨μ3, eμ3⟩ : ∃ y : sh_Mem, y = (sh_setI μ2 291 6 a2) := ⟨_, rfl⟩
    rw [sh_let_eq eμ3] at h
    have hG3 : sh_G μ3 := by rw [eμ3]; exact hG2
    have hF3 : sh_offX μ μ3 := by rw [eμ3]; exact sh_offX_I hF2 (by decide)
    have e2 := Option.some.inj h
    exact e2 ▸ hF3
  · rw [if_neg c1] at h
    have e2 := Option.some.inj h
    exact e2 ▸ hF
theorem fpl_X12_look (fuel : Nat) : (∀ ⦃μ μ' : sh_Mem⦄ ⦃v : Int32⦄, sh_G μ → F_X12_look fuel 1 μ = some (v, μ') → sh_offX μ μ') := by
  induction fuel with
  | zero => intro μ μ' v hG h; cases h
  | succ fuel ih =>
    have ih_0 := ih
    intro μ μ' v hG h
    replace h : ((if (sh_i μ 291 3) ≤ (sh_i μ 291 2) then (if (sh_i μ 291 3) ≤ (sh_i μ 291 2) then some ((-1), μ) else (if sh_in (sh_i μ 291 2) 1600 then some ((sh_i μ 292 ((sh_i μ 291 2)).toNatClampNeg), μ) else none)) else (if sh_in (sh_i μ 291 2) 1600 then (if (sh_i μ 292 ((sh_i μ 291 2)).toNatClampNeg) = 10 then sh_let (sh_setI μ 291 2 ((sh_i μ 291 2) + 1)) (fun μ17 => F_X12_look fuel 1  μ17) else (if sh_in (sh_i μ 291 2) 1600 then (if (sh_i μ 292 ((sh_i μ 291 2)).toNatClampNeg) = 32 then sh_let (sh_setI μ 291 2 ((sh_i μ 291 2) + 1)) (fun μ22 => F_X12_look fuel 1  μ22) else (if (sh_i μ 291 3) ≤ (sh_i μ 291 2) then some ((-1), μ) else (if sh_in (sh_i μ 291 2) 1600 then some ((sh_i μ 292 ((sh_i μ 291 2)).toNatClampNeg), μ) else none))) else none)) else none)) : Option (Int32 × sh_Mem)) = some (v, μ') := h
    have hF : sh_offX μ μ := sh_offX.rf
    by_cases c12 : (sh_i μ 291 3) ≤ (sh_i μ 291 2)
    · rw [if_pos c12] at h
      by_cases c13 : (sh_i μ 291 3) ≤ (sh_i μ 291 2)
      · rw [if_pos c13] at h
        obtain ⟨e1, e2⟩ := sh_some2 h
        exact e2 ▸ hF
      · rw [if_neg c13] at h
        obtain ⟨k14, h⟩ := sh_chk h
        obtain ⟨e1, e2⟩ := sh_some2 h
        exact e2 ▸ hF
    · rw [if_neg c12] at h
      obtain ⟨k15, h⟩ := sh_chk h
      by_cases c16 : (sh_i μ 292 ((sh_i μ 291 2)).toNatClampNeg) = 10
      · rw [if_pos c16] at h
        obtain ⟨μ17, eμ17⟩ : ∃ y : sh_Mem, y = (sh_setI μ 291 2 ((sh_i μ 291 2) + 1)) := ⟨_, rfl⟩
        rw [sh_let_eq eμ17] at h
        have hG17 : sh_G μ17 := by rw [eμ17]; exact hG
        have hF17 : sh_offX μ μ17 := by rw [eμ17]; exact sh_offX_I hF (by decide)
        exact hF17.trans (ih_0 hG17 h)
      · rw [if_neg c16] at h
        obtain ⟨k18, h⟩ := sh_chk h
        by_cases c19 : (sh_i μ 292 ((sh_i μ 291 2)).toNatClampNeg) = 32
        · rw [if_pos c19] at h
          obtain ⟨μ22, eμ22⟩ : ∃ y : sh_Mem, y = (sh_setI μ 291 2 ((sh_i μ 291 2) + 1)) := ⟨_, rfl⟩
          rw [sh_let_eq eμ22] at h
          have hG22 : sh_G μ22 := by rw [eμ22]; exact hG
          have hF22 : sh_offX μ μ22 := by rw [eμ22]; exact sh_offX_I hF (by decide)
          exact hF22.trans (ih_0 hG22 h)
        · rw [if_neg c19] at h
          by_cases c20 : (sh_i μ 291 3) ≤ (sh_i μ 291 2)
          · rw [if_pos c20] at h
            obtain ⟨e1, e2⟩ := sh_some2 h
            exact e2 ▸ hF
          · rw [if_neg c20] at h
            obtain ⟨k21, h⟩ := sh_chk h
            obtain ⟨e1, e2⟩ := sh_some2 h
            exact e2 ▸ hF
theorem fp_X12_look {μ μ' : sh_Mem} {v : Int32} (hG : sh_G μ) (h : f_X12_look μ = some (v, μ')) : sh_offX μ μ' := by
  have ih_0 := (fpl_X12_look sh_fuel)
  have hF : sh_offX μ μ := sh_offX.rf
  unfold f_X12_look at h
  exact hF.trans (ih_0 hG h)
theorem fpl_X12_isHere (fuel : Nat) : (∀ ⦃n : Nat⦄ ⦃r1 : Nat⦄ ⦃i2 : Int32⦄ ⦃i3 : Int32⦄ ⦃μ μ' : sh_Mem⦄ ⦃v : Int32⦄, sh_G μ → sh_LAY[r1]? = some (15, n) → 291 ≤ r1 → F_X12_isHere fuel 1 n r1 i2 i3 μ = some (v, μ') → sh_offX μ μ') ∧ (∀ ⦃n : Nat⦄ ⦃r1 : Nat⦄ ⦃i2 : Int32⦄ ⦃i3 : Int32⦄ ⦃μ μ' : sh_Mem⦄ ⦃v : Int32⦄, sh_G μ → sh_LAY[r1]? = some (15, n) → 291 ≤ r1 → F_X12_isHere fuel 2 n r1 i2 i3 μ = some (v, μ') → sh_offX μ μ') := by
  induction fuel with
  | zero => exact ⟨(by intro n r1 i2 i3 μ μ' v hG hr1 hr1l h; cases h), (by intro n r1 i2 i3 μ μ' v hG hr1 hr1l h; cases h)⟩
  | succ fuel ih =>
    obtain ⟨ih_35, ih_76⟩ := ih
    refine ⟨?_, ?_⟩
    · intro n r1 i2 i3 μ μ' v hG hr1 hr1l h
      replace h : ((if (sh_i μ 291 3) ≤ i2 then (if (i2 - (sh_i μ 291 2)) = (Int32.ofNat n) then F_X12_isHere fuel 2 n r1 i2 0 μ else some (0, μ)) else (if sh_in i2 1600 then (if (f_X12_isLetter μ (sh_i μ 292 i2.toNatClampNeg)) = 0 then (if (i2 - (sh_i μ 291 2)) = (Int32.ofNat n) then F_X12_isHere fuel 2 n r1 i2 0 μ else some (0, μ)) else F_X12_isHere fuel 1 n r1 (i2 + 1) 0 μ) else none)) : Option (Int32 × sh_Mem)) = some (v, μ') := h
      have hF : sh_offX μ μ := sh_offX.rf
      by_cases c26 : (sh_i μ 291 3) ≤ i2
      · rw [if_pos c26] at h
        by_cases c27 : (i2 - (sh_i μ 291 2)) = (Int32.ofNat n)
        · rw [if_pos c27] at h
          exact hF.trans (ih_76 hG hr1 hr1l h)
        · rw [if_neg c27] at h
          obtain ⟨e1, e2⟩ := sh_some2 h
          exact e2 ▸ hF
      · rw [if_neg c26] at h
        obtain ⟨k28, h⟩ := sh_chk h
        by_cases c29 : (f_X12_isLetter μ (sh_i μ 292 i2.toNatClampNeg)) = 0
        · rw [if_pos c29] at h
          by_cases c30 : (i2 - (sh_i μ 291 2)) = (Int32.ofNat n)
          · rw [if_pos c30] at h
            exact hF.trans (ih_76 hG hr1 hr1l h)
          · rw [if_neg c30] at h
            obtain ⟨e1, e2⟩ := sh_some2 h
            exact e2 ▸ hF
        · rw [if_neg c29] at h
          exact hF.trans (ih_35 hG hr1 hr1l h)
    · intro n r1 i2 i3 μ μ' v hG hr1 hr1l h
      replace h : ((if (Int32.ofNat n) ≤ i3 then some (1, μ) else (if sh_in ((sh_i μ 291 2) + i3) 1600 then (if sh_in i3 n then (if (sh_i μ 292 (((sh_i μ 291 2) + i3)).toNatClampNeg) = (sh_i μ r1 i3.toNatClampNeg) then F_X12_isHere fuel 2 n r1 i2 (i3 + 1) μ else some (0, μ)) else none) else none)) : Option (Int32 × sh_Mem)) = some (v, μ') := h
      have hF : sh_offX μ μ := sh_offX.rf
      by_cases c31 : (Int32.ofNat n) ≤ i3
      · rw [if_pos c31] at h
        obtain ⟨e1, e2⟩ := sh_some2 h
        exact e2 ▸ hF
      · rw [if_neg c31] at h
        obtain ⟨k32, h⟩ := sh_chk h
        obtain ⟨k33, h⟩ := sh_chk h
        by_cases c34 : (sh_i μ 292 (((sh_i μ 291 2) + i3)).toNatClampNeg) = (sh_i μ r1 i3.toNatClampNeg)
        · rw [if_pos c34] at h
          exact hF.trans (ih_76 hG hr1 hr1l h)
        · rw [if_neg c34] at h
          obtain ⟨e1, e2⟩ := sh_some2 h
          exact e2 ▸ hF
theorem fp_X12_isHere {g : Nat} {n : Nat} {μ μ' : sh_Mem} {v : Int32} (hG : sh_G μ) (hg : sh_LAY[g]? = some (15, n)) (hgl : 291 ≤ g) (h : f_X12_isHere g n μ = some (v, μ')) : sh_offX μ μ' := by
  have ih_35 := (fpl_X12_isHere sh_fuel).1
  have ih_76 := (fpl_X12_isHere sh_fuel).2
  have hF : sh_offX μ μ := sh_offX.rf
  unfold f_X12_isHere at h
  by_cases c35 : (sh_i μ 291 5) = 0
  · rw [if_pos c35] at h
    obtain ⟨y38, μ36, hr37, h⟩ := sh_bind_e h
    have hG36 := gp_X12_look hG hr37
    have hF36 := hF.trans (fp_X12_look hG hr37)
    by_cases c39 : (f_X12_isLetter μ36 y38) = 0
    · rw [if_pos c39] at h
      obtain ⟨e1, e2⟩ := sh_some2 h
      exact e2 ▸ hF36
    · rw [if_neg c39] at h
      by_cases c40 : (sh_i μ36 291 2) = (sh_i μ36 291 4)
      · rw [if_pos c40] at h
        obtain ⟨e1, e2⟩ := sh_some2 h
        exact e2 ▸ hF36
      · rw [if_neg c40] at h
        obtain ⟨x41, ex41⟩ : ∃ y : Int32, y = (sh_i μ36 291 2) := ⟨_, rfl⟩
        rw [sh_let_eq ex41] at h
        exact hF36.trans (ih_35 hG36 hg hgl h)
  · rw [if_neg c35] at h
    obtain ⟨e1, e2⟩ := sh_some2 h
    exact e2 ▸ hF
theorem fp_X12_takes {g : Nat} {n : Nat} {μ μ' : sh_Mem} {v : Int32} (hG : sh_G μ) (hg : sh_LAY[g]? = some (15, n)) (hgl : 291 ≤ g) (h : f_X12_takes g n μ = some (v, μ')) : sh_offX μ μ' := by
  have hF : sh_offX μ μ := sh_offX.rf
  unfold f_X12_takes at h
  obtain ⟨y3, μ1, hr2, h⟩ := sh_bind_e h
  have hG1 := gp_X12_isHere hG hg hr2
  have hF1 := hF.trans (fp_X12_isHere hG hg hgl hr2)
  by_cases c4 : y3 = 0
  · rw [if_pos c4] at h
    obtain ⟨e1, e2⟩ := sh_some2 h
    exact e2 ▸ hF1
  · rw [if_neg c4] at h
    obtain ⟨μ5, eμ5⟩ : ∃ y : sh_Mem, y = (sh_setI μ1 291 2 ((sh_i μ1 291 2) + (Int32.ofNat n))) := ⟨_, rfl⟩
    rw [sh_let_eq eμ5] at h
    have hG5 : sh_G μ5 := by rw [eμ5]; exact hG1
    have hF5 : sh_offX μ μ5 := by rw [eμ5]; exact sh_offX_I hF1 (by decide)
    obtain ⟨μ6, eμ6⟩ : ∃ y : sh_Mem, y = (sh_setI μ5 291 4 (sh_i μ5 291 2)) := ⟨_, rfl⟩
    rw [sh_let_eq eμ6] at h
    have hG6 : sh_G μ6 := by rw [eμ6]; exact hG5
    have hF6 : sh_offX μ μ6 := by rw [eμ6]; exact sh_offX_I hF5 (by decide)
    obtain ⟨e1, e2⟩ := sh_some2 h
    exact e2 ▸ hF6
theorem fp_X12_needs {g : Nat} {n : Nat} {μ μ' : sh_Mem} (hG : sh_G μ) (hg : sh_LAY[g]? = some (15, n)) (hgl : 291 ≤ g) (h : f_X12_needs g n μ = some μ') : sh_offX μ μ' := by
  have hF : sh_offX μ μ := sh_offX.rf
  unfold f_X12_needs at h
  by_cases c1 : (sh_i μ 291 5) = 0
  · rw [if_pos c1] at h
    obtain ⟨y4, μ2, hr3, h⟩ := sh_bind_e h
    have hG2 := gp_X12_takes hG hg hr3
    have hF2 := hF.trans (fp_X12_takes hG hg hgl hr3)
    by_cases c5 : y4 = 0
    · rw [if_pos c5] at h
      obtain ⟨μ6, hr7, h⟩ := sh_bindv_e h
      have hG6 := gp_X12_fail hG2 hr7
      have hF6 := hF2.trans (fp_X12_fail hG2 hr7)
      have e2 := Option.some.inj h
      exact e2 ▸ hF6
    · rw [if_neg c5] at h
      have e2 := Option.some.inj h
      exact e2 ▸ hF2
  · rw [if_neg c1] at h
    have e2 := Option.some.inj h
    exact e2 ▸ hF
theorem fp_X12_takesSign {a1 : Int32} {μ μ' : sh_Mem} {v : Int32} (hG : sh_G μ) (h : f_X12_takesSign a1 μ = some (v, μ')) : sh_offX μ μ' := by
  have hF : sh_offX μ μ := sh_offX.rf
  unfold f_X12_takesSign at h
  by_cases c1 : (sh_i μ 291 5) = 0
  · rw [if_pos c1] at h
    obtain ⟨y4, μ2, hr3, h⟩ := sh_bind_e h
    have hG2 := gp_X12_look hG hr3
    have hF2 := hF.trans (fp_X12_look hG hr3)
    by_cases c5 : y4 = a1
    · rw [if_pos c5] at h
      obtain ⟨μ6, eμ6⟩ : ∃ y : sh_Mem, y = (sh_setI μ2 291 2 ((sh_i μ2 291 2) + 1)) := ⟨_, rfl⟩
      rw [sh_let_eq eμ6] at h
      have hG6 : sh_G μ6 := by rw [eμ6]; exact hG2
      have hF6 : sh_offX μ μ6 := by rw [eμ6]; exact sh_offX_I hF2 (by decide)
      obtain ⟨e1, e2⟩ := sh_some2 h
      exact e2 ▸ hF6
    · rw [if_neg c5] at h
      obtain ⟨e1, e2⟩ := sh_some2 h
      exact e2 ▸ hF2
  · rw [if_neg c1] at h
    obtain ⟨e1, e2⟩ := sh_some2 h
    exact e2 ▸ hF
theorem fp_X12_asksSign {a1 : Int32} {μ μ' : sh_Mem} (hG : sh_G μ) (h : f_X12_asksSign a1 μ = some μ') : sh_offX μ μ' := by
  have hF : sh_offX μ μ := sh_offX.rf
  unfold f_X12_asksSign at h
  by_cases c1 : (sh_i μ 291 5) = 0
  · rw [if_pos c1] at h
    obtain ⟨y4, μ2, hr3, h⟩ := sh_bind_e h
    have hG2 := gp_X12_takesSign hG hr3
    have hF2 := hF.trans (fp_X12_takesSign hG hr3)
    by_cases c5 : y4 = 0
    · rw [if_pos c5] at h
      obtain ⟨μ6, hr7, h⟩ := sh_bindv_e h
      have hG6 := gp_X12_fail hG2 hr7
      have hF6 := hF2.trans (fp_X12_fail hG2 hr7)
      have e2 := Option.some.inj h
      exact e2 ▸ hF6
    · rw [if_neg c5] at h
      have e2 := Option.some.inj h
      exact e2 ▸ hF2
  · rw [if_neg c1] at h
    have e2 := Option.some.inj h
    exact e2 ▸ hF
theorem fpl_X12_number (fuel : Nat) : (∀ ⦃i1 : Int32⦄ ⦃i2 : Int32⦄ ⦃i3 : Int32⦄ ⦃i4 : Int32⦄ ⦃μ μ' : sh_Mem⦄ ⦃v : Int32⦄, sh_G μ → F_X12_number fuel 1 i1 i2 i3 i4 μ = some (v, μ') → sh_offX μ μ') := by
  induction fuel with
  | zero => intro i1 i2 i3 i4 μ μ' v hG h; cases h
  | succ fuel ih =>
    have ih_49 := ih
    intro i1 i2 i3 i4 μ μ' v hG h
    replace h : ((if (sh_i μ 291 3) ≤ (sh_i μ 291 2) then sh_let (sh_setI μ 291 4 (sh_i μ 291 2)) (fun μ37 => sh_let (sh_setI μ37 291 10 i3) (fun μ38 => (if (f_X12_isIn μ38 (i4).toInt64 (i1).toInt64 (i2).toInt64) = 0 then sh_bindv (f_X12_fail 2 (sh_i μ38 291 10) μ38) (fun μ40 => some (i4, μ40)) else some (i4, μ38)))) else (if sh_in (sh_i μ 291 2) 1600 then (if (f_X12_isDigit μ (sh_i μ 292 ((sh_i μ 291 2)).toNatClampNeg)) = 0 then sh_let (sh_setI μ 291 4 (sh_i μ 291 2)) (fun μ45 => sh_let (sh_setI μ45 291 10 i3) (fun μ46 => (if (f_X12_isIn μ46 (i4).toInt64 (i1).toInt64 (i2).toInt64) = 0 then sh_bindv (f_X12_fail 2 (sh_i μ46 291 10) μ46) (fun μ48 => some (i4, μ48)) else some (i4, μ46)))) else (if ((sh_i μ 291 2) - i3) = 4 then sh_bindv (f_X12_fail 1 (sh_i μ 291 2) μ) (fun μ55 => some (0, μ55)) else (if sh_in (sh_i μ 291 2) 1600 then sh_let ((((10 * i4) + (sh_i μ 292 ((sh_i μ 291 2)).toNatClampNeg)) - 48) : Int32) (fun x53 => sh_let (sh_setI μ 291 2 ((sh_i μ 291 2) + 1)) (fun μ54 => F_X12_number fuel 1 i1 i2 i3 x53 μ54)) else none))) else none)) : Option (Int32 × sh_Mem)) = some (v, μ') := h
    have hF : sh_offX μ μ := sh_offX.rf
    by_cases c36 : (sh_i μ 291 3) ≤ (sh_i μ 291 2)
    · rw [if_pos c36] at h
      obtain ⟨μ37, eμ37⟩ : ∃ y : sh_Mem, y = (sh_setI μ 291 4 (sh_i μ 291 2)) := ⟨_, rfl⟩
      rw [sh_let_eq eμ37] at h
      have hG37 : sh_G μ37 := by rw [eμ37]; exact hG
      have hF37 : sh_offX μ μ37 := by rw [eμ37]; exact sh_offX_I hF (by decide)
      obtain ⟨μ38, eμ38⟩ : ∃ y : sh_Mem, y = (sh_setI μ37 291 10 i3) := ⟨_, rfl⟩
      rw [sh_let_eq eμ38] at h
      have hG38 : sh_G μ38 := by rw [eμ38]; exact hG37
      have hF38 : sh_offX μ μ38 := by rw [eμ38]; exact sh_offX_I hF37 (by decide)
      by_cases c39 : (f_X12_isIn μ38 (i4).toInt64 (i1).toInt64 (i2).toInt64) = 0
      · rw [if_pos c39] at h
        obtain ⟨μ40, hr41, h⟩ := sh_bindv_e h
        have hG40 := gp_X12_fail hG38 hr41
        have hF40 := hF38.trans (fp_X12_fail hG38 hr41)
        obtain ⟨e1, e2⟩ := sh_some2 h
        exact e2 ▸ hF40
      · rw [if_neg c39] at h
        obtain ⟨e1, e2⟩ := sh_some2 h
        exact e2 ▸ hF38
    · rw [if_neg c36] at h
      obtain ⟨k43, h⟩ := sh_chk h
      by_cases c44 : (f_X12_isDigit μ (sh_i μ 292 ((sh_i μ 291 2)).toNatClampNeg)) = 0
      · rw [if_pos c44] at h
        obtain ⟨μ45, eμ45⟩ : ∃ y : sh_Mem, y = (sh_setI μ 291 4 (sh_i μ 291 2)) := ⟨_, rfl⟩
        rw [sh_let_eq eμ45] at h
        have hG45 : sh_G μ45 := by rw [eμ45]; exact hG
        have hF45 : sh_offX μ μ45 := by rw [eμ45]; exact sh_offX_I hF (by decide)
        obtain ⟨μ46, eμ46⟩ : ∃ y : sh_Mem, y = (sh_setI μ45 291 10 i3) := ⟨_, rfl⟩
        rw [sh_let_eq eμ46] at h
        have hG46 : sh_G μ46 := by rw [eμ46]; exact hG45
        have hF46 : sh_offX μ μ46 := by rw [eμ46]; exact sh_offX_I hF45 (by decide)
        by_cases c47 : (f_X12_isIn μ46 (i4).toInt64 (i1).toInt64 (i2).toInt64) = 0
        · rw [if_pos c47] at h
          obtain ⟨μ48, hr49, h⟩ := sh_bindv_e h
          have hG48 := gp_X12_fail hG46 hr49
          have hF48 := hF46.trans (fp_X12_fail hG46 hr49)
          obtain ⟨e1, e2⟩ := sh_some2 h
          exact e2 ▸ hF48
        · rw [if_neg c47] at h
          obtain ⟨e1, e2⟩ := sh_some2 h
          exact e2 ▸ hF46
      · rw [if_neg c44] at h
        by_cases c51 : ((sh_i μ 291 2) - i3) = 4
        · rw [if_pos c51] at h
          obtain ⟨μ55, hr56, h⟩ := sh_bindv_e h
          have hG55 := gp_X12_fail hG hr56
          have hF55 := hF.trans (fp_X12_fail hG hr56)
          obtain ⟨e1, e2⟩ := sh_some2 h
          exact e2 ▸ hF55
        · rw [if_neg c51] at h
          obtain ⟨k52, h⟩ := sh_chk h
          obtain ⟨x53, ex53⟩ : ∃ y : Int32, y = (((10 * i4) + (sh_i μ 292 ((sh_i μ 291 2)).toNatClampNeg)) - 48) := ⟨_, rfl⟩
          rw [sh_let_eq ex53] at h
          obtain ⟨μ54, eμ54⟩ : ∃ y : sh_Mem, y = (sh_setI μ 291 2 ((sh_i μ 291 2) + 1)) := ⟨_, rfl⟩
          rw [sh_let_eq eμ54] at h
          have hG54 : sh_G μ54 := by rw [eμ54]; exact hG
          have hF54 : sh_offX μ μ54 := by rw [eμ54]; exact sh_offX_I hF (by decide)
          exact hF54.trans (ih_49 hG54 h)
theorem fp_X12_number {a1 : Int32} {a2 : Int32} {μ μ' : sh_Mem} {v : Int32} (hG : sh_G μ) (h : f_X12_number a1 a2 μ = some (v, μ')) : sh_offX μ μ' := by
  have ih_49 := (fpl_X12_number sh_fuel)
  have hF : sh_offX μ μ := sh_offX.rf
  unfold f_X12_number at h
  by_cases c58 : (sh_i μ 291 5) = 0
  · rw [if_pos c58] at h
    obtain ⟨y61, μ59, hr60, h⟩ := sh_bind_e h
    have hG59 := gp_X12_look hG hr60
    have hF59 := hF.trans (fp_X12_look hG hr60)
    by_cases c62 : (f_X12_isDigit μ59 y61) = 0
    · rw [if_pos c62] at h
      obtain ⟨μ63, hr64, h⟩ := sh_bindv_e h
      have hG63 := gp_X12_fail hG59 hr64
      have hF63 := hF59.trans (fp_X12_fail hG59 hr64)
      obtain ⟨e1, e2⟩ := sh_some2 h
      exact e2 ▸ hF63
    · rw [if_neg c62] at h
      by_cases c66 : (sh_i μ59 291 2) = (sh_i μ59 291 4)
      · rw [if_pos c66] at h
        obtain ⟨μ68, hr69, h⟩ := sh_bindv_e h
        have hG68 := gp_X12_fail hG59 hr69
        have hF68 := hF59.trans (fp_X12_fail hG59 hr69)
        obtain ⟨e1, e2⟩ := sh_some2 h
        exact e2 ▸ hF68
      · rw [if_neg c66] at h
        obtain ⟨x67, ex67⟩ : ∃ y : Int32, y = (sh_i μ59 291 2) := ⟨_, rfl⟩
        rw [sh_let_eq ex67] at h
        exact hF59.trans (ih_49 hG59 h)
  · rw [if_neg c58] at h
    obtain ⟨e1, e2⟩ := sh_some2 h
    exact e2 ▸ hF
theorem fpl_X12_isOwnHere (fuel : Nat) : (∀ ⦃i1 : Int32⦄ ⦃μ μ' : sh_Mem⦄ ⦃v : Int32⦄, sh_G μ → F_X12_isOwnHere fuel 1 i1 μ = some (v, μ') → sh_offX μ μ') ∧ (∀ ⦃i1 : Int32⦄ ⦃μ μ' : sh_Mem⦄ ⦃v : Int32⦄, sh_G μ → F_X12_isOwnHere fuel 2 i1 μ = some (v, μ') → sh_offX μ μ') ∧ (∀ ⦃i1 : Int32⦄ ⦃μ μ' : sh_Mem⦄ ⦃v : Int32⦄, sh_G μ → F_X12_isOwnHere fuel 3 i1 μ = some (v, μ') → sh_offX μ μ') ∧ (∀ ⦃i1 : Int32⦄ ⦃μ μ' : sh_Mem⦄ ⦃v : Int32⦄, sh_G μ → F_X12_isOwnHere fuel 4 i1 μ = some (v, μ') → sh_offX μ μ') ∧ (∀ ⦃i1 : Int32⦄ ⦃μ μ' : sh_Mem⦄ ⦃v : Int32⦄, sh_G μ → F_X12_isOwnHere fuel 5 i1 μ = some (v, μ') → sh_offX μ μ') := by
  induction fuel with
  | zero => exact ⟨(by intro i1 μ μ' v hG h; cases h), (by intro i1 μ μ' v hG h; cases h), (by intro i1 μ μ' v hG h; cases h), (by intro i1 μ μ' v hG h; cases h), (by intro i1 μ μ' v hG h; cases h)⟩
  | succ fuel ih =>
    obtain ⟨ih_66, ih_142, ih_218, ih_294, ih_337⟩ := ih
    refine ⟨?_, ?_, ?_, ?_, ?_⟩
    · intro i1 μ μ' v hG h
      replace h : (F_X12_isOwnHere fuel 2 1 μ : Option (Int32 × sh_Mem)) = some (v, μ') := h
      have hF : sh_offX μ μ := sh_offX.rf
      exact hF.trans (ih_142 hG h)
    · intro i1 μ μ' v hG h
      replace h : (F_X12_isOwnHere fuel 3 1 μ : Option (Int32 × sh_Mem)) = some (v, μ') := h
      have hF : sh_offX μ μ := sh_offX.rf
      exact hF.trans (ih_218 hG h)
    · intro i1 μ μ' v hG h
      replace h : (F_X12_isOwnHere fuel 4 1 μ : Option (Int32 × sh_Mem)) = some (v, μ') := h
      have hF : sh_offX μ μ := sh_offX.rf
      exact hF.trans (ih_294 hG h)
    · intro i1 μ μ' v hG h
      replace h : (F_X12_isOwnHere fuel 5 1 μ : Option (Int32 × sh_Mem)) = some (v, μ') := h
      have hF : sh_offX μ μ := sh_offX.rf
      exact hF.trans (ih_337 hG h)
    · intro i1 μ μ' v hG h
      replace h : (some (1, μ) : Option (Int32 × sh_Mem)) = some (v, μ') := h
      have hF : sh_offX μ μ := sh_offX.rf
      obtain ⟨e1, e2⟩ := sh_some2 h
      exact e2 ▸ hF
theorem fp_X12_isOwnHere {μ μ' : sh_Mem} {v : Int32} (hG : sh_G μ) (h : f_X12_isOwnHere μ = some (v, μ')) : sh_offX μ μ' := by
  have ih_66 := (fpl_X12_isOwnHere sh_fuel).1
  have ih_142 := (fpl_X12_isOwnHere sh_fuel).2.1
  have ih_218 := (fpl_X12_isOwnHere sh_fuel).2.2.1
  have ih_294 := (fpl_X12_isOwnHere sh_fuel).2.2.2.1
  have ih_337 := (fpl_X12_isOwnHere sh_fuel).2.2.2.2
  have hF : sh_offX μ μ := sh_offX.rf
  unfold f_X12_isOwnHere at h
  obtain ⟨y111, μ109, hr110, h⟩ := sh_bind_e h
  have hG109 := gp_X12_isHere hG (sh_LAYat_294) hr110
  have hF109 := hF.trans (fp_X12_isHere hG (sh_LAYat_294) (by decide) hr110)
  by_cases c112 : y111 = 0
  · rw [if_pos c112] at h
    obtain ⟨y115, μ113, hr114, h⟩ := sh_bind_e h
    have hG113 := gp_X12_isHere hG109 (sh_LAYat_295) hr114
    have hF113 := hF109.trans (fp_X12_isHere hG109 (sh_LAYat_295) (by decide) hr114)
    by_cases c116 : y115 = 0
    · rw [if_pos c116] at h
      obtain ⟨y119, μ117, hr118, h⟩ := sh_bind_e h
      have hG117 := gp_X12_isHere hG113 (sh_LAYat_296) hr118
      have hF117 := hF113.trans (fp_X12_isHere hG113 (sh_LAYat_296) (by decide) hr118)
      by_cases c120 : y119 = 0
      · rw [if_pos c120] at h
        obtain ⟨y123, μ121, hr122, h⟩ := sh_bind_e h
        have hG121 := gp_X12_isHere hG117 (sh_LAYat_297) hr122
        have hF121 := hF117.trans (fp_X12_isHere hG117 (sh_LAYat_297) (by decide) hr122)
        by_cases c124 : y123 = 0
        · rw [if_pos c124] at h
          obtain ⟨y127, μ125, hr126, h⟩ := sh_bind_e h
          have hG125 := gp_X12_isHere hG121 (sh_LAYat_298) hr126
          have hF125 := hF121.trans (fp_X12_isHere hG121 (sh_LAYat_298) (by decide) hr126)
          by_cases c128 : y127 = 0
          · rw [if_pos c128] at h
            obtain ⟨y131, μ129, hr130, h⟩ := sh_bind_e h
            have hG129 := gp_X12_isHere hG125 (sh_LAYat_299) hr130
            have hF129 := hF125.trans (fp_X12_isHere hG125 (sh_LAYat_299) (by decide) hr130)
            by_cases c132 : y131 = 0
            · rw [if_pos c132] at h
              obtain ⟨y135, μ133, hr134, h⟩ := sh_bind_e h
              have hG133 := gp_X12_isHere hG129 (sh_LAYat_300) hr134
              have hF133 := hF129.trans (fp_X12_isHere hG129 (sh_LAYat_300) (by decide) hr134)
              by_cases c136 : y135 = 0
              · rw [if_pos c136] at h
                obtain ⟨y139, μ137, hr138, h⟩ := sh_bind_e h
                have hG137 := gp_X12_isHere hG133 (sh_LAYat_301) hr138
                have hF137 := hF133.trans (fp_X12_isHere hG133 (sh_LAYat_301) (by decide) hr138)
                by_cases c140 : y139 = 0
                · rw [if_pos c140] at h
                  obtain ⟨y143, μ141, hr142, h⟩ := sh_bind_e h
                  have hG141 := gp_X12_isHere hG137 (sh_LAYat_302) hr142
                  have hF141 := hF137.trans (fp_X12_isHere hG137 (sh_LAYat_302) (by decide) hr142)
                  by_cases c144 : y143 = 0
                  · rw [if_pos c144] at h
                    obtain ⟨y147, μ145, hr146, h⟩ := sh_bind_e h
                    have hG145 := gp_X12_isHere hG141 (sh_LAYat_303) hr146
                    have hF145 := hF141.trans (fp_X12_isHere hG141 (sh_LAYat_303) (by decide) hr146)
                    by_cases c148 : y147 = 0
                    · rw [if_pos c148] at h
                      obtain ⟨y151, μ149, hr150, h⟩ := sh_bind_e h
                      have hG149 := gp_X12_isHere hG145 (sh_LAYat_304) hr150
                      have hF149 := hF145.trans (fp_X12_isHere hG145 (sh_LAYat_304) (by decide) hr150)
                      by_cases c152 : y151 = 0
                      · rw [if_pos c152] at h
                        obtain ⟨y155, μ153, hr154, h⟩ := sh_bind_e h
                        have hG153 := gp_X12_isHere hG149 (sh_LAYat_305) hr154
                        have hF153 := hF149.trans (fp_X12_isHere hG149 (sh_LAYat_305) (by decide) hr154)
                        by_cases c156 : y155 = 0
                        · rw [if_pos c156] at h
                          obtain ⟨y159, μ157, hr158, h⟩ := sh_bind_e h
                          have hG157 := gp_X12_isHere hG153 (sh_LAYat_306) hr158
                          have hF157 := hF153.trans (fp_X12_isHere hG153 (sh_LAYat_306) (by decide) hr158)
                          by_cases c160 : y159 = 0
                          · rw [if_pos c160] at h
                            obtain ⟨y163, μ161, hr162, h⟩ := sh_bind_e h
                            have hG161 := gp_X12_isHere hG157 (sh_LAYat_307) hr162
                            have hF161 := hF157.trans (fp_X12_isHere hG157 (sh_LAYat_307) (by decide) hr162)
                            by_cases c164 : y163 = 0
                            · rw [if_pos c164] at h
                              obtain ⟨y167, μ165, hr166, h⟩ := sh_bind_e h
                              have hG165 := gp_X12_isHere hG161 (sh_LAYat_308) hr166
                              have hF165 := hF161.trans (fp_X12_isHere hG161 (sh_LAYat_308) (by decide) hr166)
                              by_cases c168 : y167 = 0
                              · rw [if_pos c168] at h
                                obtain ⟨y171, μ169, hr170, h⟩ := sh_bind_e h
                                have hG169 := gp_X12_isHere hG165 (sh_LAYat_309) hr170
                                have hF169 := hF165.trans (fp_X12_isHere hG165 (sh_LAYat_309) (by decide) hr170)
                                by_cases c172 : y171 = 0
                                · rw [if_pos c172] at h
                                  obtain ⟨y175, μ173, hr174, h⟩ := sh_bind_e h
                                  have hG173 := gp_X12_isHere hG169 (sh_LAYat_310) hr174
                                  have hF173 := hF169.trans (fp_X12_isHere hG169 (sh_LAYat_310) (by decide) hr174)
                                  by_cases c176 : y175 = 0
                                  · rw [if_pos c176] at h
                                    obtain ⟨y179, μ177, hr178, h⟩ := sh_bind_e h
                                    have hG177 := gp_X12_isHere hG173 (sh_LAYat_311) hr178
                                    have hF177 := hF173.trans (fp_X12_isHere hG173 (sh_LAYat_311) (by decide) hr178)
                                    by_cases c180 : y179 = 0
                                    · rw [if_pos c180] at h
                                      obtain ⟨y183, μ181, hr182, h⟩ := sh_bind_e h
                                      have hG181 := gp_X12_isHere hG177 (sh_LAYat_312) hr182
                                      have hF181 := hF177.trans (fp_X12_isHere hG177 (sh_LAYat_312) (by decide) hr182)
                                      by_cases c184 : y183 = 0
                                      · rw [if_pos c184] at h
                                        obtain ⟨y187, μ185, hr186, h⟩ := sh_bind_e h
                                        have hG185 := gp_X12_isHere hG181 (sh_LAYat_313) hr186
                                        have hF185 := hF181.trans (fp_X12_isHere hG181 (sh_LAYat_313) (by decide) hr186)
                                        by_cases c188 : y187 = 0
                                        · rw [if_pos c188] at h
                                          obtain ⟨y191, μ189, hr190, h⟩ := sh_bind_e h
                                          have hG189 := gp_X12_isHere hG185 (sh_LAYat_314) hr190
                                          have hF189 := hF185.trans (fp_X12_isHere hG185 (sh_LAYat_314) (by decide) hr190)
                                          by_cases c192 : y191 = 0
                                          · rw [if_pos c192] at h
                                            obtain ⟨y195, μ193, hr194, h⟩ := sh_bind_e h
                                            have hG193 := gp_X12_isHere hG189 (sh_LAYat_315) hr194
                                            have hF193 := hF189.trans (fp_X12_isHere hG189 (sh_LAYat_315) (by decide) hr194)
                                            by_cases c196 : y195 = 0
                                            · rw [if_pos c196] at h
                                              obtain ⟨y199, μ197, hr198, h⟩ := sh_bind_e h
                                              have hG197 := gp_X12_isHere hG193 (sh_LAYat_316) hr198
                                              have hF197 := hF193.trans (fp_X12_isHere hG193 (sh_LAYat_316) (by decide) hr198)
                                              by_cases c200 : y199 = 0
                                              · rw [if_pos c200] at h
                                                obtain ⟨y203, μ201, hr202, h⟩ := sh_bind_e h
                                                have hG201 := gp_X12_isHere hG197 (sh_LAYat_317) hr202
                                                have hF201 := hF197.trans (fp_X12_isHere hG197 (sh_LAYat_317) (by decide) hr202)
                                                by_cases c204 : y203 = 0
                                                · rw [if_pos c204] at h
                                                  obtain ⟨y207, μ205, hr206, h⟩ := sh_bind_e h
                                                  have hG205 := gp_X12_isHere hG201 (sh_LAYat_318) hr206
                                                  have hF205 := hF201.trans (fp_X12_isHere hG201 (sh_LAYat_318) (by decide) hr206)
                                                  by_cases c208 : y207 = 0
                                                  · rw [if_pos c208] at h
                                                    obtain ⟨y211, μ209, hr210, h⟩ := sh_bind_e h
                                                    have hG209 := gp_X12_isHere hG205 (sh_LAYat_319) hr210
                                                    have hF209 := hF205.trans (fp_X12_isHere hG205 (sh_LAYat_319) (by decide) hr210)
                                                    by_cases c212 : y211 = 0
                                                    · rw [if_pos c212] at h
                                                      obtain ⟨y215, μ213, hr214, h⟩ := sh_bind_e h
                                                      have hG213 := gp_X12_isHere hG209 (sh_LAYat_320) hr214
                                                      have hF213 := hF209.trans (fp_X12_isHere hG209 (sh_LAYat_320) (by decide) hr214)
                                                      by_cases c216 : y215 = 0
                                                      · rw [if_pos c216] at h
                                                        obtain ⟨e1, e2⟩ := sh_some2 h
                                                        exact e2 ▸ hF213
                                                      · rw [if_neg c216] at h
                                                        exact hF213.trans (ih_337 hG213 h)
                                                    · rw [if_neg c212] at h
                                                      exact hF209.trans (ih_337 hG209 h)
                                                  · rw [if_neg c208] at h
                                                    exact hF205.trans (ih_337 hG205 h)
                                                · rw [if_neg c204] at h
                                                  exact hF201.trans (ih_294 hG201 h)
                                              · rw [if_neg c200] at h
                                                exact hF197.trans (ih_294 hG197 h)
                                            · rw [if_neg c196] at h
                                              exact hF193.trans (ih_294 hG193 h)
                                          · rw [if_neg c192] at h
                                            exact hF189.trans (ih_294 hG189 h)
                                        · rw [if_neg c188] at h
                                          exact hF185.trans (ih_294 hG185 h)
                                      · rw [if_neg c184] at h
                                        exact hF181.trans (ih_294 hG181 h)
                                    · rw [if_neg c180] at h
                                      exact hF177.trans (ih_218 hG177 h)
                                  · rw [if_neg c176] at h
                                    exact hF173.trans (ih_218 hG173 h)
                                · rw [if_neg c172] at h
                                  exact hF169.trans (ih_218 hG169 h)
                              · rw [if_neg c168] at h
                                exact hF165.trans (ih_218 hG165 h)
                            · rw [if_neg c164] at h
                              exact hF161.trans (ih_218 hG161 h)
                          · rw [if_neg c160] at h
                            exact hF157.trans (ih_218 hG157 h)
                        · rw [if_neg c156] at h
                          exact hF153.trans (ih_142 hG153 h)
                      · rw [if_neg c152] at h
                        exact hF149.trans (ih_142 hG149 h)
                    · rw [if_neg c148] at h
                      exact hF145.trans (ih_142 hG145 h)
                  · rw [if_neg c144] at h
                    exact hF141.trans (ih_142 hG141 h)
                · rw [if_neg c140] at h
                  exact hF137.trans (ih_142 hG137 h)
              · rw [if_neg c136] at h
                exact hF133.trans (ih_142 hG133 h)
            · rw [if_neg c132] at h
              exact hF129.trans (ih_66 hG129 h)
          · rw [if_neg c128] at h
            exact hF125.trans (ih_66 hG125 h)
        · rw [if_neg c124] at h
          exact hF121.trans (ih_66 hG121 h)
      · rw [if_neg c120] at h
        exact hF117.trans (ih_66 hG117 h)
    · rw [if_neg c116] at h
      exact hF113.trans (ih_66 hG113 h)
  · rw [if_neg c112] at h
    exact hF109.trans (ih_66 hG109 h)
theorem fpl_X12_name (fuel : Nat) : (∀ ⦃l1 : Int64⦄ ⦃μ μ' : sh_Mem⦄ ⦃v : Int64⦄, sh_G μ → F_X12_name fuel 1 l1 μ = some (v, μ') → sh_offX μ μ') := by
  induction fuel with
  | zero => intro l1 μ μ' v hG h; cases h
  | succ fuel ih =>
    have ih_58 := ih
    intro l1 μ μ' v hG h
    replace h : ((if (sh_i μ 291 3) ≤ (sh_i μ 291 2) then sh_let (sh_setI μ 291 4 (sh_i μ 291 2)) (fun μ34 => some (l1, μ34)) else (if sh_in (sh_i μ 291 2) 1600 then (if (f_X12_isLetter μ (sh_i μ 292 ((sh_i μ 291 2)).toNatClampNeg)) = 0 then sh_let (sh_setI μ 291 4 (sh_i μ 291 2)) (fun μ37 => some (l1, μ37)) else (if ((sh_i μ 291 2) - (sh_i μ 291 38)) = 6 then sh_bindv (f_X12_fail 1 (sh_i μ 291 2) μ) (fun μ42 => some (0, μ42)) else (if sh_in (sh_i μ 291 2) 1600 then sh_let (((((27 * l1) + ((sh_i μ 292 ((sh_i μ 291 2)).toNatClampNeg)).toInt64) - 97) + 1) : Int64) (fun x40 => sh_let (sh_setI μ 291 2 ((sh_i μ 291 2) + 1)) (fun μ41 => F_X12_name fuel 1 x40 μ41)) else none))) else none)) : Option (Int64 × sh_Mem)) = some (v, μ') := h
    have hF : sh_offX μ μ := sh_offX.rf
    by_cases c33 : (sh_i μ 291 3) ≤ (sh_i μ 291 2)
    · rw [if_pos c33] at h
      obtain ⟨μ34, eμ34⟩ : ∃ y : sh_Mem, y = (sh_setI μ 291 4 (sh_i μ 291 2)) := ⟨_, rfl⟩
      rw [sh_let_eq eμ34] at h
      have hG34 : sh_G μ34 := by rw [eμ34]; exact hG
      have hF34 : sh_offX μ μ34 := by rw [eμ34]; exact sh_offX_I hF (by decide)
      obtain ⟨e1, e2⟩ := sh_some2 h
      exact e2 ▸ hF34
    · rw [if_neg c33] at h
      obtain ⟨k35, h⟩ := sh_chk h
      by_cases c36 : (f_X12_isLetter μ (sh_i μ 292 ((sh_i μ 291 2)).toNatClampNeg)) = 0
      · rw [if_pos c36] at h
        obtain ⟨μ37, eμ37⟩ : ∃ y : sh_Mem, y = (sh_setI μ 291 4 (sh_i μ 291 2)) := ⟨_, rfl⟩
        rw [sh_let_eq eμ37] at h
        have hG37 : sh_G μ37 := by rw [eμ37]; exact hG
        have hF37 : sh_offX μ μ37 := by rw [eμ37]; exact sh_offX_I hF (by decide)
        obtain ⟨e1, e2⟩ := sh_some2 h
        exact e2 ▸ hF37
      · rw [if_neg c36] at h
        by_cases c38 : ((sh_i μ 291 2) - (sh_i μ 291 38)) = 6
        · rw [if_pos c38] at h
          obtain ⟨μ42, hr43, h⟩ := sh_bindv_e h
          have hG42 := gp_X12_fail hG hr43
          have hF42 := hF.trans (fp_X12_fail hG hr43)
          obtain ⟨e1, e2⟩ := sh_some2 h
          exact e2 ▸ hF42
        · rw [if_neg c38] at h
          obtain ⟨k39, h⟩ := sh_chk h
          obtain ⟨x40, ex40⟩ : ∃ y : Int64, y = ((((27 * l1) + ((sh_i μ 292 ((sh_i μ 291 2)).toNatClampNeg)).toInt64) - 97) + 1) := ⟨_, rfl⟩
          rw [sh_let_eq ex40] at h
          obtain ⟨μ41, eμ41⟩ : ∃ y : sh_Mem, y = (sh_setI μ 291 2 ((sh_i μ 291 2) + 1)) := ⟨_, rfl⟩
          rw [sh_let_eq eμ41] at h
          have hG41 : sh_G μ41 := by rw [eμ41]; exact hG
          have hF41 : sh_offX μ μ41 := by rw [eμ41]; exact sh_offX_I hF (by decide)
          exact hF41.trans (ih_58 hG41 h)
theorem fp_X12_name {μ μ' : sh_Mem} {v : Int64} (hG : sh_G μ) (h : f_X12_name μ = some (v, μ')) : sh_offX μ μ' := by
  have ih_58 := (fpl_X12_name sh_fuel)
  have hF : sh_offX μ μ := sh_offX.rf
  unfold f_X12_name at h
  by_cases c45 : (sh_i μ 291 5) = 0
  · rw [if_pos c45] at h
    obtain ⟨y48, μ46, hr47, h⟩ := sh_bind_e h
    have hG46 := gp_X12_look hG hr47
    have hF46 := hF.trans (fp_X12_look hG hr47)
    by_cases c49 : (f_X12_isLetter μ46 y48) = 0
    · rw [if_pos c49] at h
      obtain ⟨μ50, hr51, h⟩ := sh_bindv_e h
      have hG50 := gp_X12_fail hG46 hr51
      have hF50 := hF46.trans (fp_X12_fail hG46 hr51)
      obtain ⟨e1, e2⟩ := sh_some2 h
      exact e2 ▸ hF50
    · rw [if_neg c49] at h
      by_cases c53 : (sh_i μ46 291 2) = (sh_i μ46 291 4)
      · rw [if_pos c53] at h
        obtain ⟨μ54, hr55, h⟩ := sh_bindv_e h
        have hG54 := gp_X12_fail hG46 hr55
        have hF54 := hF46.trans (fp_X12_fail hG46 hr55)
        obtain ⟨e1, e2⟩ := sh_some2 h
        exact e2 ▸ hF54
      · rw [if_neg c53] at h
        obtain ⟨y59, μ57, hr58, h⟩ := sh_bind_e h
        have hG57 := gp_X12_isOwnHere hG46 hr58
        have hF57 := hF46.trans (fp_X12_isOwnHere hG46 hr58)
        by_cases c60 : y59 = 0
        · rw [if_pos c60] at h
          obtain ⟨μ61, eμ61⟩ : ∃ y : sh_Mem, y = (sh_setI μ57 291 38 (sh_i μ57 291 2)) := ⟨_, rfl⟩
          rw [sh_let_eq eμ61] at h
          have hG61 : sh_G μ61 := by rw [eμ61]; exact hG57
          have hF61 : sh_offX μ μ61 := by rw [eμ61]; exact sh_offX_I hF57 (by decide)
          exact hF61.trans (ih_58 hG61 h)
        · rw [if_neg c60] at h
          obtain ⟨μ62, hr63, h⟩ := sh_bindv_e h
          have hG62 := gp_X12_fail hG57 hr63
          have hF62 := hF57.trans (fp_X12_fail hG57 hr63)
          obtain ⟨e1, e2⟩ := sh_some2 h
          exact e2 ▸ hF62
  · rw [if_neg c45] at h
    obtain ⟨e1, e2⟩ := sh_some2 h
    exact e2 ▸ hF
theorem fp_X12_isFull {a1 : Int32} {a2 : Int32} {a3 : Int32} {μ μ' : sh_Mem} {v : Int32} (hG : sh_G μ) (h : f_X12_isFull a1 a2 a3 μ = some (v, μ')) : sh_offX μ μ' := by
  have hF : sh_offX μ μ := sh_offX.rf
  unfold f_X12_isFull at h
  by_cases c1 : (sh_i μ 291 5) = 0
  · rw [if_pos c1] at h
    obtain ⟨k3, h⟩ := sh_chk h
    by_cases c4 : (sh_i μ 322 a1.toNatClampNeg) = a2
    · rw [if_pos c4] at h
      obtain ⟨μ6, hr7, h⟩ := sh_bindv_e h
      have hG6 := gp_X12_fail hG hr7
      have hF6 := hF.trans (fp_X12_fail hG hr7)
      by_cases c9 : (sh_i μ6 291 5) = 0
      · rw [if_pos c9] at h
        obtain ⟨e1, e2⟩ := sh_some2 h
        exact e2 ▸ hF6
      · rw [if_neg c9] at h
        obtain ⟨e1, e2⟩ := sh_some2 h
        exact e2 ▸ hF6
    · rw [if_neg c4] at h
      by_cases c5 : (sh_i μ 291 5) = 0
      · rw [if_pos c5] at h
        obtain ⟨e1, e2⟩ := sh_some2 h
        exact e2 ▸ hF
      · rw [if_neg c5] at h
        obtain ⟨e1, e2⟩ := sh_some2 h
        exact e2 ▸ hF
  · rw [if_neg c1] at h
    by_cases c2 : (sh_i μ 291 5) = 0
    · rw [if_pos c2] at h
      obtain ⟨e1, e2⟩ := sh_some2 h
      exact e2 ▸ hF
    · rw [if_neg c2] at h
      obtain ⟨e1, e2⟩ := sh_some2 h
      exact e2 ▸ hF
theorem fpl_X12_newName (fuel : Nat) : (∀ ⦃l1 : Int64⦄ ⦃i3 : Int32⦄ ⦃i4 : Int32⦄ ⦃μ μ' : sh_Mem⦄ ⦃v : Int64⦄, sh_G μ → F_X12_newName fuel 1 l1 i3 i4 μ = some (v, μ') → sh_offX μ μ') ∧ (∀ ⦃l1 : Int64⦄ ⦃i3 : Int32⦄ ⦃i4 : Int32⦄ ⦃μ μ' : sh_Mem⦄ ⦃v : Int64⦄, sh_G μ → F_X12_newName fuel 2 l1 i3 i4 μ = some (v, μ') → sh_offX μ μ') := by
  induction fuel with
  | zero => exact ⟨(by intro l1 i3 i4 μ μ' v hG h; cases h), (by intro l1 i3 i4 μ μ' v hG h; cases h)⟩
  | succ fuel ih =>
    obtain ⟨ih_7, ih_15⟩ := ih
    refine ⟨?_, ?_⟩
    · intro l1 i3 i4 μ μ' v hG h
      replace h : ((if 2 ≤ i3 then some (l1, μ) else F_X12_newName fuel 2 l1 i3 0 μ) : Option (Int64 × sh_Mem)) = some (v, μ') := h
      have hF : sh_offX μ μ := sh_offX.rf
      by_cases c22 : 2 ≤ i3
      · rw [if_pos c22] at h
        obtain ⟨e1, e2⟩ := sh_some2 h
        exact e2 ▸ hF
      · rw [if_neg c22] at h
        exact hF.trans (ih_15 hG h)
    · intro l1 i3 i4 μ μ' v hG h
      replace h : ((if sh_in i3 6 then (if (sh_i μ 322 i3.toNatClampNeg) ≤ i4 then F_X12_newName fuel 1 l1 (i3 + 1) 0 μ else (if (sh_i μ 291 5) = 0 then (if sh_in ((8 * i3) + i4) 32 then (if (lg_cmp (sh_l μ 323 (((8 * i3) + i4)).toNatClampNeg) l1) = 0 then sh_bindv (f_X12_fail 3 (sh_i μ 291 38) μ) (fun μ28 => F_X12_newName fuel 2 l1 i3 (i4 + 1) μ28) else F_X12_newName fuel 2 l1 i3 (i4 + 1) μ) else none) else F_X12_newName fuel 2 l1 i3 (i4 + 1) μ)) else none) : Option (Int64 × sh_Mem)) = some (v, μ') := h
      have hF : sh_offX μ μ := sh_offX.rf
      obtain ⟨k23, h⟩ := sh_chk h
      by_cases c24 : (sh_i μ 322 i3.toNatClampNeg) ≤ i4
      · rw [if_pos c24] at h
        exact hF.trans (ih_7 hG h)
      · rw [if_neg c24] at h
        by_cases c25 : (sh_i μ 291 5) = 0
        · rw [if_pos c25] at h
          obtain ⟨k26, h⟩ := sh_chk h
          by_cases c27 : (lg_cmp (sh_l μ 323 (((8 * i3) + i4)).toNatClampNeg) l1) = 0
          · rw [if_pos c27] at h
            obtain ⟨μ28, hr29, h⟩ := sh_bindv_e h
            have hG28 := gp_X12_fail hG hr29
            have hF28 := hF.trans (fp_X12_fail hG hr29)
            exact hF28.trans (ih_15 hG28 h)
          · rw [if_neg c27] at h
            exact hF.trans (ih_15 hG h)
        · rw [if_neg c25] at h
          exact hF.trans (ih_15 hG h)
theorem fp_X12_newName {μ μ' : sh_Mem} {v : Int64} (hG : sh_G μ) (h : f_X12_newName μ = some (v, μ')) : sh_offX μ μ' := by
  have ih_7 := (fpl_X12_newName sh_fuel).1
  have ih_15 := (fpl_X12_newName sh_fuel).2
  have hF : sh_offX μ μ := sh_offX.rf
  unfold f_X12_newName at h
  obtain ⟨y33, μ31, hr32, h⟩ := sh_bind_e h
  have hG31 := gp_X12_name hG hr32
  have hF31 := hF.trans (fp_X12_name hG hr32)
  exact hF31.trans (ih_7 hG31 h)
theorem fpl_X12_named (fuel : Nat) : (∀ ⦃i1 : Int32⦄ ⦃l2 : Int64⦄ ⦃i4 : Int32⦄ ⦃μ μ' : sh_Mem⦄ ⦃v : Int32⦄, sh_G μ → F_X12_named fuel 1 i1 l2 i4 μ = some (v, μ') → sh_offX μ μ') := by
  induction fuel with
  | zero => intro i1 l2 i4 μ μ' v hG h; cases h
  | succ fuel ih =>
    have ih_8 := ih
    intro i1 l2 i4 μ μ' v hG h
    replace h : ((if sh_in i1 6 then (if (sh_i μ 322 i1.toNatClampNeg) ≤ i4 then (if (sh_i μ 291 5) = 0 then sh_bindv (f_X12_fail 3 (sh_i μ 291 38) μ) (fun μ15 => some (0, μ15)) else some (0, μ)) else (if sh_in ((8 * i1) + i4) 32 then (if (lg_cmp (sh_l μ 323 (((8 * i1) + i4)).toNatClampNeg) l2) = 0 then some (i4, μ) else F_X12_named fuel 1 i1 l2 (i4 + 1) μ) else none)) else none) : Option (Int32 × sh_Mem)) = some (v, μ') := h
    have hF : sh_offX μ μ := sh_offX.rf
    obtain ⟨k12, h⟩ := sh_chk h
    by_cases c13 : (sh_i μ 322 i1.toNatClampNeg) ≤ i4
    · rw [if_pos c13] at h
      by_cases c14 : (sh_i μ 291 5) = 0
      · rw [if_pos c14] at h
        obtain ⟨μ15, hr16, h⟩ := sh_bindv_e h
        have hG15 := gp_X12_fail hG hr16
        have hF15 := hF.trans (fp_X12_fail hG hr16)
        obtain ⟨e1, e2⟩ := sh_some2 h
        exact e2 ▸ hF15
      · rw [if_neg c14] at h
        obtain ⟨e1, e2⟩ := sh_some2 h
        exact e2 ▸ hF
    · rw [if_neg c13] at h
      obtain ⟨k18, h⟩ := sh_chk h
      by_cases c19 : (lg_cmp (sh_l μ 323 (((8 * i1) + i4)).toNatClampNeg) l2) = 0
      · rw [if_pos c19] at h
        obtain ⟨e1, e2⟩ := sh_some2 h
        exact e2 ▸ hF
      · rw [if_neg c19] at h
        exact hF.trans (ih_8 hG h)
theorem fp_X12_named {a1 : Int32} {μ μ' : sh_Mem} {v : Int32} (hG : sh_G μ) (h : f_X12_named a1 μ = some (v, μ')) : sh_offX μ μ' := by
  have ih_8 := (fpl_X12_named sh_fuel)
  have hF : sh_offX μ μ := sh_offX.rf
  unfold f_X12_named at h
  obtain ⟨y22, μ20, hr21, h⟩ := sh_bind_e h
  have hG20 := gp_X12_name hG hr21
  have hF20 := hF.trans (fp_X12_name hG hr21)
  exact hF20.trans (ih_8 hG20 h)
theorem fp_X12_plainTold {μ μ' : sh_Mem} (hG : sh_G μ) (h : f_X12_plainTold μ = some μ') : sh_offX μ μ' := by
  have hF : sh_offX μ μ := sh_offX.rf
  unfold f_X12_plainTold at h
  obtain ⟨μ1, hr2, h⟩ := sh_bindv_e h
  have hG1 := gp_X12_needs hG (sh_LAYat_294) hr2
  have hF1 := hF.trans (fp_X12_needs hG (sh_LAYat_294) (by decide) hr2)
  obtain ⟨y6, μ4, hr5, h⟩ := sh_bind_e h
  have hG4 := gp_X12_number hG1 hr5
  have hF4 := hF1.trans (fp_X12_number hG1 hr5)
  obtain ⟨μ7, eμ7⟩ : ∃ y : sh_Mem, y = (sh_setI μ4 321 (Int32.toNatClampNeg 0) y6) := ⟨_, rfl⟩
  rw [sh_let_eq eμ7] at h
  have hG7 : sh_G μ7 := by rw [eμ7]; exact hG4
  have hF7 : sh_offX μ μ7 := by rw [eμ7]; exact sh_offX_I hF4 (by decide)
  obtain ⟨μ8, hr9, h⟩ := sh_bindv_e h
  have hG8 := gp_X12_needs hG7 (sh_LAYat_295) hr9
  have hF8 := hF7.trans (fp_X12_needs hG7 (sh_LAYat_295) (by decide) hr9)
  obtain ⟨y13, μ11, hr12, h⟩ := sh_bind_e h
  have hG11 := gp_X12_number hG8 hr12
  have hF11 := hF8.trans (fp_X12_number hG8 hr12)
  obtain ⟨μ14, eμ14⟩ : ∃ y : sh_Mem, y = (sh_setI μ11 321 (Int32.toNatClampNeg 1) y13) := ⟨_, rfl⟩
  rw [sh_let_eq eμ14] at h
  have hG14 : sh_G μ14 := by rw [eμ14]; exact hG11
  have hF14 : sh_offX μ μ14 := by rw [eμ14]; exact sh_offX_I hF11 (by decide)
  obtain ⟨μ15, hr16, h⟩ := sh_bindv_e h
  have hG15 := gp_X12_asksSign hG14 hr16
  have hF15 := hF14.trans (fp_X12_asksSign hG14 hr16)
  have e2 := Option.some.inj h
  exact e2 ▸ hF15
theorem fp_X12_cellTold {μ μ' : sh_Mem} {v : Int32} (hG : sh_G μ) (h : f_X12_cellTold μ = some (v, μ')) : sh_offX μ μ' := by
  have hF : sh_offX μ μ := sh_offX.rf
  unfold f_X12_cellTold at h
  obtain ⟨y3, μ1, hr2, h⟩ := sh_bind_e h
  have hG1 := gp_X12_number hG hr2
  have hF1 := hF.trans (fp_X12_number hG hr2)
  obtain ⟨y6, μ4, hr5, h⟩ := sh_bind_e h
  have hG4 := gp_X12_number hG1 hr5
  have hF4 := hF1.trans (fp_X12_number hG1 hr5)
  by_cases c7 : (sh_i μ4 291 5) = 0
  · rw [if_pos c7] at h
    obtain ⟨e1, e2⟩ := sh_some2 h
    exact e2 ▸ hF4
  · rw [if_neg c7] at h
    obtain ⟨e1, e2⟩ := sh_some2 h
    exact e2 ▸ hF4
theorem fp_X12_highTold {μ μ' : sh_Mem} (hG : sh_G μ) (h : f_X12_highTold μ = some μ') : sh_offX μ μ' := by
  have hF : sh_offX μ μ := sh_offX.rf
  unfold f_X12_highTold at h
  obtain ⟨y3, μ1, hr2, h⟩ := sh_bind_e h
  have hG1 := gp_X12_cellTold hG hr2
  have hF1 := hF.trans (fp_X12_cellTold hG hr2)
  obtain ⟨y6, μ4, hr5, h⟩ := sh_bind_e h
  have hG4 := gp_X12_number hG1 hr5
  have hF4 := hF1.trans (fp_X12_number hG1 hr5)
  by_cases c7 : (sh_i μ4 291 5) = 0
  · rw [if_pos c7] at h
    obtain ⟨k8, h⟩ := sh_chk h
    obtain ⟨μ9, eμ9⟩ : ∃ y : sh_Mem, y = (sh_setI μ4 324 y3.toNatClampNeg y6) := ⟨_, rfl⟩
    rw [sh_let_eq eμ9] at h
    have hG9 : sh_G μ9 := by rw [eμ9]; exact hG4
    have hF9 : sh_offX μ μ9 := by rw [eμ9]; exact sh_offX_I hF4 (by decide)
    have e2 := Option.some.inj h
    exact e2 ▸ hF9
  · rw [if_neg c7] at h
    have e2 := Option.some.inj h
    exact e2 ▸ hF4
theorem fp_X12_topicTold {a1 : Int32} {μ μ' : sh_Mem} (hG : sh_G μ) (h : f_X12_topicTold a1 μ = some μ') : sh_offX μ μ' := by
  have hF : sh_offX μ μ := sh_offX.rf
  unfold f_X12_topicTold at h
  obtain ⟨y3, μ1, hr2, h⟩ := sh_bind_e h
  have hG1 := gp_X12_isFull hG hr2
  have hF1 := hF.trans (fp_X12_isFull hG hr2)
  by_cases c4 : y3 = 0
  · rw [if_pos c4] at h
    obtain ⟨y7, μ5, hr6, h⟩ := sh_bind_e h
    have hG5 := gp_X12_newName hG1 hr6
    have hF5 := hF1.trans (fp_X12_newName hG1 hr6)
    by_cases c8 : (sh_i μ5 291 5) = 0
    · rw [if_pos c8] at h
      obtain ⟨k9, h⟩ := sh_chk h
      obtain ⟨μ10, eμ10⟩ : ∃ y : sh_Mem, y = (sh_setL μ5 323 ((sh_i μ5 322 (Int32.toNatClampNeg 0))).toNatClampNeg y7) := ⟨_, rfl⟩
      rw [sh_let_eq eμ10] at h
      have hG10 : sh_G μ10 := by rw [eμ10]; exact hG5
      have hF10 : sh_offX μ μ10 := by rw [eμ10]; exact sh_offX_L hF5 (by decide)
      obtain ⟨μ11, eμ11⟩ : ∃ y : sh_Mem, y = (sh_setI μ10 322 (Int32.toNatClampNeg 0) ((sh_i μ10 322 (Int32.toNatClampNeg 0)) + 1)) := ⟨_, rfl⟩
      rw [sh_let_eq eμ11] at h
      have hG11 : sh_G μ11 := by rw [eμ11]; exact hG10
      have hF11 : sh_offX μ μ11 := by rw [eμ11]; exact sh_offX_I hF10 (by decide)
      have e2 := Option.some.inj h
      exact e2 ▸ hF11
    · rw [if_neg c8] at h
      have e2 := Option.some.inj h
      exact e2 ▸ hF5
  · rw [if_neg c4] at h
    have e2 := Option.some.inj h
    exact e2 ▸ hF1
theorem fpl_X12_personTold (fuel : Nat) : (∀ ⦃i1 : Int32⦄ ⦃l2 : Int64⦄ ⦃i4 : Int32⦄ ⦃i5 : Int32⦄ ⦃μ μ' : sh_Mem⦄, sh_G μ → F_X12_personTold fuel 1 i1 l2 i4 i5 μ = some μ' → sh_offX μ μ') := by
  induction fuel with
  | zero => intro i1 l2 i4 i5 μ μ' hG h; cases h
  | succ fuel ih =>
    have ih_34 := ih
    intro i1 l2 i4 i5 μ μ' hG h
    replace h : ((if (sh_i μ 322 (Int32.toNatClampNeg 1)) ≤ i5 then sh_bindv (f_X12_needs 300 5 μ) (fun μ39 => sh_bind (f_X12_number 0 9 μ39) (fun y44 μ42 => (if (sh_i μ42 291 5) = 0 then sh_let ((3 * (sh_i μ42 322 (Int32.toNatClampNeg 1))) : Int32) (fun x46 => (if sh_in (8 + (sh_i μ42 322 (Int32.toNatClampNeg 1))) 32 then sh_let (sh_setL μ42 323 ((8 + (sh_i μ42 322 (Int32.toNatClampNeg 1)))).toNatClampNeg l2) (fun μ48 => (if sh_in x46 21 then sh_let (sh_setI μ48 325 x46.toNatClampNeg i4) (fun μ50 => (if sh_in (x46 + 1) 21 then sh_let (sh_setI μ50 325 ((x46 + 1)).toNatClampNeg y44) (fun μ52 => (if sh_in (x46 + 2) 21 then sh_let (sh_setI μ52 325 ((x46 + 2)).toNatClampNeg 0) (fun μ54 => sh_let (sh_setI μ54 322 (Int32.toNatClampNeg 1) ((sh_i μ54 322 (Int32.toNatClampNeg 1)) + 1)) (fun μ55 => some μ55)) else none)) else none)) else none)) else none)) else some μ42))) else (if (sh_i μ 291 5) = 0 then (if sh_in (3 * i5) 21 then (if (sh_i μ 325 ((3 * i5)).toNatClampNeg) = i4 then sh_bindv (f_X12_fail 2 (sh_i μ 291 10) μ) (fun μ59 => F_X12_personTold fuel 1 i1 l2 i4 (i5 + 1) μ59) else F_X12_personTold fuel 1 i1 l2 i4 (i5 + 1) μ) else none) else F_X12_personTold fuel 1 i1 l2 i4 (i5 + 1) μ)) : Option sh_Mem) = some μ' := h
    have hF : sh_offX μ μ := sh_offX.rf
    by_cases c38 : (sh_i μ 322 (Int32.toNatClampNeg 1)) ≤ i5
    · rw [if_pos c38] at h
      obtain ⟨μ39, hr40, h⟩ := sh_bindv_e h
      have hG39 := gp_X12_needs hG (sh_LAYat_300) hr40
      have hF39 := hF.trans (fp_X12_needs hG (sh_LAYat_300) (by decide) hr40)
      obtain ⟨y44, μ42, hr43, h⟩ := sh_bind_e h
      have hG42 := gp_X12_number hG39 hr43
      have hF42 := hF39.trans (fp_X12_number hG39 hr43)
      by_cases c45 : (sh_i μ42 291 5) = 0
      · rw [if_pos c45] at h
        obtain ⟨x46, ex46⟩ : ∃ y : Int32, y = (3 * (sh_i μ42 322 (Int32.toNatClampNeg 1))) := ⟨_, rfl⟩
        rw [sh_let_eq ex46] at h
        obtain ⟨k47, h⟩ := sh_chk h
        obtain ⟨μ48, eμ48⟩ : ∃ y : sh_Mem, y = (sh_setL μ42 323 ((8 + (sh_i μ42 322 (Int32.toNatClampNeg 1)))).toNatClampNeg l2) := ⟨_, rfl⟩
        rw [sh_let_eq eμ48] at h
        have hG48 : sh_G μ48 := by rw [eμ48]; exact hG42
        have hF48 : sh_offX μ μ48 := by rw [eμ48]; exact sh_offX_L hF42 (by decide)
        obtain ⟨k49, h⟩ := sh_chk h
        obtain ⟨μ50, eμ50⟩ : ∃ y : sh_Mem, y = (sh_setI μ48 325 x46.toNatClampNeg i4) := ⟨_, rfl⟩
        rw [sh_let_eq eμ50] at h
        have hG50 : sh_G μ50 := by rw [eμ50]; exact hG48
        have hF50 : sh_offX μ μ50 := by rw [eμ50]; exact sh_offX_I hF48 (by decide)
        obtain ⟨k51, h⟩ := sh_chk h
        obtain ⟨μ52, eμ52⟩ : ∃ y : sh_Mem, y = (sh_setI μ50 325 ((x46 + 1)).toNatClampNeg y44) := ⟨_, rfl⟩
        rw [sh_let_eq eμ52] at h
        have hG52 : sh_G μ52 := by rw [eμ52]; exact hG50
        have hF52 : sh_offX μ μ52 := by rw [eμ52]; exact sh_offX_I hF50 (by decide)
        obtain ⟨k53, h⟩ := sh_chk h
        obtain ⟨μ54, eμ54⟩ : ∃ y : sh_Mem, y = (sh_setI μ52 325 ((x46 + 2)).toNatClampNeg 0) := ⟨_, rfl⟩
        rw [sh_let_eq eμ54] at h
        have hG54 : sh_G μ54 := by rw [eμ54]; exact hG52
        have hF54 : sh_offX μ μ54 := by rw [eμ54]; exact sh_offX_I hF52 (by decide)
        obtain ⟨μ55, eμ55⟩ : ∃ y : sh_Mem, y = (sh_setI μ54 322 (Int32.toNatClampNeg 1) ((sh_i μ54 322 (Int32.toNatClampNeg 1)) + 1)) := ⟨_, rfl⟩
        rw [sh_let_eq eμ55] at h
        have hG55 : sh_G μ55 := by rw [eμ55]; exact hG54
        have hF55 : sh_offX μ μ55 := by rw [eμ55]; exact sh_offX_I hF54 (by decide)
        have e2 := Option.some.inj h
        exact e2 ▸ hF55
      · rw [if_neg c45] at h
        have e2 := Option.some.inj h
        exact e2 ▸ hF42
    · rw [if_neg c38] at h
      by_cases c56 : (sh_i μ 291 5) = 0
      · rw [if_pos c56] at h
        obtain ⟨k57, h⟩ := sh_chk h
        by_cases c58 : (sh_i μ 325 ((3 * i5)).toNatClampNeg) = i4
        · rw [if_pos c58] at h
          obtain ⟨μ59, hr60, h⟩ := sh_bindv_e h
          have hG59 := gp_X12_fail hG hr60
          have hF59 := hF.trans (fp_X12_fail hG hr60)
          exact hF59.trans (ih_34 hG59 h)
        · rw [if_neg c58] at h
          exact hF.trans (ih_34 hG h)
      · rw [if_neg c56] at h
        exact hF.trans (ih_34 hG h)
theorem fp_X12_personTold {a1 : Int32} {μ μ' : sh_Mem} (hG : sh_G μ) (h : f_X12_personTold a1 μ = some μ') : sh_offX μ μ' := by
  have ih_34 := (fpl_X12_personTold sh_fuel)
  have hF : sh_offX μ μ := sh_offX.rf
  unfold f_X12_personTold at h
  obtain ⟨y64, μ62, hr63, h⟩ := sh_bind_e h
  have hG62 := gp_X12_isFull hG hr63
  have hF62 := hF.trans (fp_X12_isFull hG hr63)
  by_cases c65 : y64 = 0
  · rw [if_pos c65] at h
    obtain ⟨y68, μ66, hr67, h⟩ := sh_bind_e h
    have hG66 := gp_X12_newName hG62 hr67
    have hF66 := hF62.trans (fp_X12_newName hG62 hr67)
    obtain ⟨μ69, hr70, h⟩ := sh_bindv_e h
    have hG69 := gp_X12_needs hG66 (sh_LAYat_299) hr70
    have hF69 := hF66.trans (fp_X12_needs hG66 (sh_LAYat_299) (by decide) hr70)
    obtain ⟨y74, μ72, hr73, h⟩ := sh_bind_e h
    have hG72 := gp_X12_cellTold hG69 hr73
    have hF72 := hF69.trans (fp_X12_cellTold hG69 hr73)
    exact hF72.trans (ih_34 hG72 h)
  · rw [if_neg c65] at h
    have e2 := Option.some.inj h
    exact e2 ▸ hF62
theorem fp_X12_knowsTold {μ μ' : sh_Mem} (hG : sh_G μ) (h : f_X12_knowsTold μ = some μ') : sh_offX μ μ' := by
  have hF : sh_offX μ μ := sh_offX.rf
  unfold f_X12_knowsTold at h
  obtain ⟨y3, μ1, hr2, h⟩ := sh_bind_e h
  have hG1 := gp_X12_named hG hr2
  have hF1 := hF.trans (fp_X12_named hG hr2)
  obtain ⟨μ4, hr5, h⟩ := sh_bindv_e h
  have hG4 := gp_X12_needs hG1 (sh_LAYat_302) hr5
  have hF4 := hF1.trans (fp_X12_needs hG1 (sh_LAYat_302) (by decide) hr5)
  obtain ⟨y9, μ7, hr8, h⟩ := sh_bind_e h
  have hG7 := gp_X12_named hG4 hr8
  have hF7 := hF4.trans (fp_X12_named hG4 hr8)
  by_cases c10 : (sh_i μ7 291 5) = 0
  · rw [if_pos c10] at h
    obtain ⟨k15, h⟩ := sh_chk h
    by_cases c16 : (((sh_i μ7 325 (((3 * y3) + 2)).toNatClampNeg) >>> (y9 &&& 31)) &&& 1) = 1
    · rw [if_pos c16] at h
      obtain ⟨μ21, hr22, h⟩ := sh_bindv_e h
      have hG21 := gp_X12_fail hG7 hr22
      have hF21 := hF7.trans (fp_X12_fail hG7 hr22)
      by_cases c24 : (sh_i μ21 291 5) = 0
      · rw [if_pos c24] at h
        obtain ⟨k25, h⟩ := sh_chk h
        obtain ⟨k26, h⟩ := sh_chk h
        obtain ⟨μ27, eμ27⟩ : ∃ y : sh_Mem, y = (sh_setI μ21 325 (((3 * y3) + 2)).toNatClampNeg ((sh_i μ21 325 (((3 * y3) + 2)).toNatClampNeg) ||| ((1 : Int32) <<< (y9 &&& 31)))) := ⟨_, rfl⟩
        rw [sh_let_eq eμ27] at h
        have hG27 : sh_G μ27 := by rw [eμ27]; exact hG21
        have hF27 : sh_offX μ μ27 := by rw [eμ27]; exact sh_offX_I hF21 (by decide)
        have e2 := Option.some.inj h
        exact e2 ▸ hF27
      · rw [if_neg c24] at h
        have e2 := Option.some.inj h
        exact e2 ▸ hF21
    · rw [if_neg c16] at h
      by_cases c17 : (sh_i μ7 291 5) = 0
      · rw [if_pos c17] at h
        obtain ⟨k18, h⟩ := sh_chk h
        obtain ⟨k19, h⟩ := sh_chk h
        obtain ⟨μ20, eμ20⟩ : ∃ y : sh_Mem, y = (sh_setI μ7 325 (((3 * y3) + 2)).toNatClampNeg ((sh_i μ7 325 (((3 * y3) + 2)).toNatClampNeg) ||| ((1 : Int32) <<< (y9 &&& 31)))) := ⟨_, rfl⟩
        rw [sh_let_eq eμ20] at h
        have hG20 : sh_G μ20 := by rw [eμ20]; exact hG7
        have hF20 : sh_offX μ μ20 := by rw [eμ20]; exact sh_offX_I hF7 (by decide)
        have e2 := Option.some.inj h
        exact e2 ▸ hF20
      · rw [if_neg c17] at h
        have e2 := Option.some.inj h
        exact e2 ▸ hF7
  · rw [if_neg c10] at h
    by_cases c11 : (sh_i μ7 291 5) = 0
    · rw [if_pos c11] at h
      obtain ⟨k12, h⟩ := sh_chk h
      obtain ⟨k13, h⟩ := sh_chk h
      obtain ⟨μ14, eμ14⟩ : ∃ y : sh_Mem, y = (sh_setI μ7 325 (((3 * y3) + 2)).toNatClampNeg ((sh_i μ7 325 (((3 * y3) + 2)).toNatClampNeg) ||| ((1 : Int32) <<< (y9 &&& 31)))) := ⟨_, rfl⟩
      rw [sh_let_eq eμ14] at h
      have hG14 : sh_G μ14 := by rw [eμ14]; exact hG7
      have hF14 : sh_offX μ μ14 := by rw [eμ14]; exact sh_offX_I hF7 (by decide)
      have e2 := Option.some.inj h
      exact e2 ▸ hF14
    · rw [if_neg c11] at h
      have e2 := Option.some.inj h
      exact e2 ▸ hF7
theorem fp_X12_listTold {a1 : Int32} {μ μ' : sh_Mem} (hG : sh_G μ) (h : f_X12_listTold a1 μ = some μ') : sh_offX μ μ' := by
  have hF : sh_offX μ μ := sh_offX.rf
  unfold f_X12_listTold at h
  obtain ⟨y3, μ1, hr2, h⟩ := sh_bind_e h
  have hG1 := gp_X12_isFull hG hr2
  have hF1 := hF.trans (fp_X12_isFull hG hr2)
  by_cases c4 : y3 = 0
  · rw [if_pos c4] at h
    obtain ⟨y7, μ5, hr6, h⟩ := sh_bind_e h
    have hG5 := gp_X12_named hG1 hr6
    have hF5 := hF1.trans (fp_X12_named hG1 hr6)
    obtain ⟨μ8, hr9, h⟩ := sh_bindv_e h
    have hG8 := gp_X12_needs hG5 (sh_LAYat_302) hr9
    have hF8 := hF5.trans (fp_X12_needs hG5 (sh_LAYat_302) (by decide) hr9)
    obtain ⟨y13, μ11, hr12, h⟩ := sh_bind_e h
    have hG11 := gp_X12_named hG8 hr12
    have hF11 := hF8.trans (fp_X12_named hG8 hr12)
    by_cases c14 : (sh_i μ11 291 5) = 0
    · rw [if_pos c14] at h
      obtain ⟨k15, h⟩ := sh_chk h
      obtain ⟨μ16, eμ16⟩ : ∃ y : sh_Mem, y = (sh_setI μ11 326 ((2 * (sh_i μ11 322 (Int32.toNatClampNeg 2)))).toNatClampNeg y7) := ⟨_, rfl⟩
      rw [sh_let_eq eμ16] at h
      have hG16 : sh_G μ16 := by rw [eμ16]; exact hG11
      have hF16 : sh_offX μ μ16 := by rw [eμ16]; exact sh_offX_I hF11 (by decide)
      obtain ⟨k17, h⟩ := sh_chk h
      obtain ⟨μ18, eμ18⟩ : ∃ y : sh_Mem, y = (sh_setI μ16 326 (((2 * (sh_i μ16 322 (Int32.toNatClampNeg 2))) + 1)).toNatClampNeg y13) := ⟨_, rfl⟩
      rw [sh_let_eq eμ18] at h
      have hG18 : sh_G μ18 := by rw [eμ18]; exact hG16
      have hF18 : sh_offX μ μ18 := by rw [eμ18]; exact sh_offX_I hF16 (by decide)
      obtain ⟨μ19, eμ19⟩ : ∃ y : sh_Mem, y = (sh_setI μ18 322 (Int32.toNatClampNeg 2) ((sh_i μ18 322 (Int32.toNatClampNeg 2)) + 1)) := ⟨_, rfl⟩
      rw [sh_let_eq eμ19] at h
      have hG19 : sh_G μ19 := by rw [eμ19]; exact hG18
      have hF19 : sh_offX μ μ19 := by rw [eμ19]; exact sh_offX_I hF18 (by decide)
      have e2 := Option.some.inj h
      exact e2 ▸ hF19
    · rw [if_neg c14] at h
      have e2 := Option.some.inj h
      exact e2 ▸ hF11
  · rw [if_neg c4] at h
    have e2 := Option.some.inj h
    exact e2 ▸ hF1
theorem fpl_X12_stands (fuel : Nat) : (∀ ⦃i1 : Int32⦄ ⦃μ μ' : sh_Mem⦄, sh_G μ → F_X12_stands fuel 1 i1 μ = some μ' → sh_offX μ μ') ∧ (∀ ⦃i1 : Int32⦄ ⦃μ μ' : sh_Mem⦄, sh_G μ → F_X12_stands fuel 2 i1 μ = some μ' → sh_offX μ μ') ∧ (∀ ⦃i1 : Int32⦄ ⦃μ μ' : sh_Mem⦄, sh_G μ → F_X12_stands fuel 3 i1 μ = some μ' → sh_offX μ μ') ∧ (∀ ⦃i1 : Int32⦄ ⦃μ μ' : sh_Mem⦄, sh_G μ → F_X12_stands fuel 4 i1 μ = some μ' → sh_offX μ μ') ∧ (∀ ⦃i1 : Int32⦄ ⦃μ μ' : sh_Mem⦄, sh_G μ → F_X12_stands fuel 5 i1 μ = some μ' → sh_offX μ μ') ∧ (∀ ⦃i1 : Int32⦄ ⦃μ μ' : sh_Mem⦄, sh_G μ → F_X12_stands fuel 6 i1 μ = some μ' → sh_offX μ μ') ∧ (∀ ⦃i1 : Int32⦄ ⦃μ μ' : sh_Mem⦄, sh_G μ → F_X12_stands fuel 7 i1 μ = some μ' → sh_offX μ μ') := by
  induction fuel with
  | zero => exact ⟨(by intro i1 μ μ' hG h; cases h), (by intro i1 μ μ' hG h; cases h), (by intro i1 μ μ' hG h; cases h), (by intro i1 μ μ' hG h; cases h), (by intro i1 μ μ' hG h; cases h), (by intro i1 μ μ' hG h; cases h), (by intro i1 μ μ' hG h; cases h)⟩
  | succ fuel ih =>
    obtain ⟨ih_7, ih_76, ih_105, ih_134, ih_166, ih_188, ih_216⟩ := ih
    refine ⟨?_, ?_, ?_, ?_, ?_, ?_, ?_⟩
    · intro i1 μ μ' hG h
      replace h : ((if 3 ≤ i1 then F_X12_stands fuel 2 0 μ else (if sh_in i1 6 then (if sh_in (3 + i1) 6 then sh_let (sh_setI μ 321 ((3 + i1)).toNatClampNeg (sh_i μ 321 i1.toNatClampNeg)) (fun μ81 => (if sh_in i1 6 then (if sh_in (3 + i1) 6 then sh_let (sh_setI μ81 322 ((3 + i1)).toNatClampNeg (sh_i μ81 322 i1.toNatClampNeg)) (fun μ84 => (if sh_in i1 6 then (if sh_in (3 + i1) 6 then sh_let (sh_setI μ84 327 ((3 + i1)).toNatClampNeg (sh_i μ84 327 i1.toNatClampNeg)) (fun μ87 => (if sh_in i1 6 then (if sh_in (3 + i1) 6 then sh_let (sh_setI μ87 328 ((3 + i1)).toNatClampNeg (sh_i μ87 328 i1.toNatClampNeg)) (fun μ90 => F_X12_stands fuel 1 (i1 + 1) μ90) else none) else none)) else none) else none)) else none) else none)) else none) else none)) : Option sh_Mem) = some μ' := h
      have hF : sh_offX μ μ := sh_offX.rf
      by_cases c78 : 3 ≤ i1
      · rw [if_pos c78] at h
        exact hF.trans (ih_76 hG h)
      · rw [if_neg c78] at h
        obtain ⟨k79, h⟩ := sh_chk h
        obtain ⟨k80, h⟩ := sh_chk h
        obtain ⟨μ81, eμ81⟩ : ∃ y : sh_Mem, y = (sh_setI μ 321 ((3 + i1)).toNatClampNeg (sh_i μ 321 i1.toNatClampNeg)) := ⟨_, rfl⟩
        rw [sh_let_eq eμ81] at h
        have hG81 : sh_G μ81 := by rw [eμ81]; exact hG
        have hF81 : sh_offX μ μ81 := by rw [eμ81]; exact sh_offX_I hF (by decide)
        obtain ⟨k82, h⟩ := sh_chk h
        obtain ⟨k83, h⟩ := sh_chk h
        obtain ⟨μ84, eμ84⟩ : ∃ y : sh_Mem, y = (sh_setI μ81 322 ((3 + i1)).toNatClampNeg (sh_i μ81 322 i1.toNatClampNeg)) := ⟨_, rfl⟩
        rw [sh_let_eq eμ84] at h
        have hG84 : sh_G μ84 := by rw [eμ84]; exact hG81
        have hF84 : sh_offX μ μ84 := by rw [eμ84]; exact sh_offX_I hF81 (by decide)
        obtain ⟨k85, h⟩ := sh_chk h
        obtain ⟨k86, h⟩ := sh_chk h
        obtain ⟨μ87, eμ87⟩ : ∃ y : sh_Mem, y = (sh_setI μ84 327 ((3 + i1)).toNatClampNeg (sh_i μ84 327 i1.toNatClampNeg)) := ⟨_, rfl⟩
        rw [sh_let_eq eμ87] at h
        have hG87 : sh_G μ87 := by rw [eμ87]; exact hG84
        have hF87 : sh_offX μ μ87 := by rw [eμ87]; exact sh_offX_I hF84 (by decide)
        obtain ⟨k88, h⟩ := sh_chk h
        obtain ⟨k89, h⟩ := sh_chk h
        obtain ⟨μ90, eμ90⟩ : ∃ y : sh_Mem, y = (sh_setI μ87 328 ((3 + i1)).toNatClampNeg (sh_i μ87 328 i1.toNatClampNeg)) := ⟨_, rfl⟩
        rw [sh_let_eq eμ90] at h
        have hG90 : sh_G μ90 := by rw [eμ90]; exact hG87
        have hF90 : sh_offX μ μ90 := by rw [eμ90]; exact sh_offX_I hF87 (by decide)
        exact hF90.trans (ih_7 hG90 h)
    · intro i1 μ μ' hG h
      replace h : ((if 16 ≤ i1 then F_X12_stands fuel 3 0 μ else (if sh_in i1 32 then (if sh_in (16 + i1) 32 then sh_let (sh_setL μ 323 ((16 + i1)).toNatClampNeg (sh_l μ 323 i1.toNatClampNeg)) (fun μ94 => F_X12_stands fuel 2 (i1 + 1) μ94) else none) else none)) : Option sh_Mem) = some μ' := h
      have hF : sh_offX μ μ := sh_offX.rf
      by_cases c91 : 16 ≤ i1
      · rw [if_pos c91] at h
        exact hF.trans (ih_105 hG h)
      · rw [if_neg c91] at h
        obtain ⟨k92, h⟩ := sh_chk h
        obtain ⟨k93, h⟩ := sh_chk h
        obtain ⟨μ94, eμ94⟩ : ∃ y : sh_Mem, y = (sh_setL μ 323 ((16 + i1)).toNatClampNeg (sh_l μ 323 i1.toNatClampNeg)) := ⟨_, rfl⟩
        rw [sh_let_eq eμ94] at h
        have hG94 : sh_G μ94 := by rw [eμ94]; exact hG
        have hF94 : sh_offX μ μ94 := by rw [eμ94]; exact sh_offX_L hF (by decide)
        exact hF94.trans (ih_76 hG94 h)
    · intro i1 μ μ' hG h
      replace h : ((if 24 ≤ i1 then F_X12_stands fuel 4 0 μ else (if sh_in i1 48 then (if sh_in (24 + i1) 48 then sh_let (sh_setI μ 326 ((24 + i1)).toNatClampNeg (sh_i μ 326 i1.toNatClampNeg)) (fun μ98 => F_X12_stands fuel 3 (i1 + 1) μ98) else none) else none)) : Option sh_Mem) = some μ' := h
      have hF : sh_offX μ μ := sh_offX.rf
      by_cases c95 : 24 ≤ i1
      · rw [if_pos c95] at h
        exact hF.trans (ih_134 hG h)
      · rw [if_neg c95] at h
        obtain ⟨k96, h⟩ := sh_chk h
        obtain ⟨k97, h⟩ := sh_chk h
        obtain ⟨μ98, eμ98⟩ : ∃ y : sh_Mem, y = (sh_setI μ 326 ((24 + i1)).toNatClampNeg (sh_i μ 326 i1.toNatClampNeg)) := ⟨_, rfl⟩
        rw [sh_let_eq eμ98] at h
        have hG98 : sh_G μ98 := by rw [eμ98]; exact hG
        have hF98 : sh_offX μ μ98 := by rw [eμ98]; exact sh_offX_I hF (by decide)
        exact hF98.trans (ih_105 hG98 h)
    · intro i1 μ μ' hG h
      replace h : ((if (sh_i μ 291 48) ≤ i1 then F_X12_stands fuel 5 0 μ else (if sh_in i1 3200 then (if sh_in (1600 + i1) 3200 then sh_let (sh_setI μ 329 ((1600 + i1)).toNatClampNeg (sh_i μ 329 i1.toNatClampNeg)) (fun μ102 => F_X12_stands fuel 4 (i1 + 1) μ102) else none) else none)) : Option sh_Mem) = some μ' := h
      have hF : sh_offX μ μ := sh_offX.rf
      by_cases c99 : (sh_i μ 291 48) ≤ i1
      · rw [if_pos c99] at h
        exact hF.trans (ih_166 hG h)
      · rw [if_neg c99] at h
        obtain ⟨k100, h⟩ := sh_chk h
        obtain ⟨k101, h⟩ := sh_chk h
        obtain ⟨μ102, eμ102⟩ : ∃ y : sh_Mem, y = (sh_setI μ 329 ((1600 + i1)).toNatClampNeg (sh_i μ 329 i1.toNatClampNeg)) := ⟨_, rfl⟩
        rw [sh_let_eq eμ102] at h
        have hG102 : sh_G μ102 := by rw [eμ102]; exact hG
        have hF102 : sh_offX μ μ102 := by rw [eμ102]; exact sh_offX_I hF (by decide)
        exact hF102.trans (ih_134 hG102 h)
    · intro i1 μ μ' hG h
      replace h : ((if 232 ≤ i1 then F_X12_stands fuel 6 0 μ else (if sh_in i1 232 then sh_let (sh_setI μ 330 i1.toNatClampNeg 0) (fun μ105 => F_X12_stands fuel 5 (i1 + 1) μ105) else none)) : Option sh_Mem) = some μ' := h
      have hF : sh_offX μ μ := sh_offX.rf
      by_cases c103 : 232 ≤ i1
      · rw [if_pos c103] at h
        exact hF.trans (ih_188 hG h)
      · rw [if_neg c103] at h
        obtain ⟨k104, h⟩ := sh_chk h
        obtain ⟨μ105, eμ105⟩ : ∃ y : sh_Mem, y = (sh_setI μ 330 i1.toNatClampNeg 0) := ⟨_, rfl⟩
        rw [sh_let_eq eμ105] at h
        have hG105 : sh_G μ105 := by rw [eμ105]; exact hG
        have hF105 : sh_offX μ μ105 := by rw [eμ105]; exact sh_offX_I hF (by decide)
        exact hF105.trans (ih_166 hG105 h)
    · intro i1 μ μ' hG h
      replace h : ((if 49 ≤ i1 then F_X12_stands fuel 7 0 μ else (if sh_in i1 49 then (if sh_in (1 + i1) 232 then sh_let (sh_setI μ 330 ((1 + i1)).toNatClampNeg (sh_i μ 324 i1.toNatClampNeg)) (fun μ109 => F_X12_stands fuel 6 (i1 + 1) μ109) else none) else none)) : Option sh_Mem) = some μ' := h
      have hF : sh_offX μ μ := sh_offX.rf
      by_cases c106 : 49 ≤ i1
      · rw [if_pos c106] at h
        exact hF.trans (ih_216 hG h)
      · rw [if_neg c106] at h
        obtain ⟨k107, h⟩ := sh_chk h
        obtain ⟨k108, h⟩ := sh_chk h
        obtain ⟨μ109, eμ109⟩ : ∃ y : sh_Mem, y = (sh_setI μ 330 ((1 + i1)).toNatClampNeg (sh_i μ 324 i1.toNatClampNeg)) := ⟨_, rfl⟩
        rw [sh_let_eq eμ109] at h
        have hG109 : sh_G μ109 := by rw [eμ109]; exact hG
        have hF109 : sh_offX μ μ109 := by rw [eμ109]; exact sh_offX_I hF (by decide)
        exact hF109.trans (ih_188 hG109 h)
    · intro i1 μ μ' hG h
      replace h : ((if (3 * (sh_i μ 322 (Int32.toNatClampNeg 1))) ≤ i1 then sh_let (sh_setI μ 291 76 0) (fun μ111 => sh_let (sh_setI μ111 291 71 0) (fun μ112 => some μ112)) else (if sh_in i1 21 then (if sh_in (50 + i1) 232 then sh_let (sh_setI μ 330 ((50 + i1)).toNatClampNeg (sh_i μ 325 i1.toNatClampNeg)) (fun μ115 => F_X12_stands fuel 7 (i1 + 1) μ115) else none) else none)) : Option sh_Mem) = some μ' := h
      have hF : sh_offX μ μ := sh_offX.rf
      by_cases c110 : (3 * (sh_i μ 322 (Int32.toNatClampNeg 1))) ≤ i1
      · rw [if_pos c110] at h
        obtain ⟨μ111, eμ111⟩ : ∃ y : sh_Mem, y = (sh_setI μ 291 76 0) := ⟨_, rfl⟩
        rw [sh_let_eq eμ111] at h
        have hG111 : sh_G μ111 := by rw [eμ111]; exact hG
        have hF111 : sh_offX μ μ111 := by rw [eμ111]; exact sh_offX_I hF (by decide)
        obtain ⟨μ112, eμ112⟩ : ∃ y : sh_Mem, y = (sh_setI μ111 291 71 0) := ⟨_, rfl⟩
        rw [sh_let_eq eμ112] at h
        have hG112 : sh_G μ112 := by rw [eμ112]; exact hG111
        have hF112 : sh_offX μ μ112 := by rw [eμ112]; exact sh_offX_I hF111 (by decide)
        have e2 := Option.some.inj h
        exact e2 ▸ hF112
      · rw [if_neg c110] at h
        obtain ⟨k113, h⟩ := sh_chk h
        obtain ⟨k114, h⟩ := sh_chk h
        obtain ⟨μ115, eμ115⟩ : ∃ y : sh_Mem, y = (sh_setI μ 330 ((50 + i1)).toNatClampNeg (sh_i μ 325 i1.toNatClampNeg)) := ⟨_, rfl⟩
        rw [sh_let_eq eμ115] at h
        have hG115 : sh_G μ115 := by rw [eμ115]; exact hG
        have hF115 : sh_offX μ μ115 := by rw [eμ115]; exact sh_offX_I hF (by decide)
        exact hF115.trans (ih_216 hG115 h)
theorem fp_X12_stands {μ μ' : sh_Mem} (hG : sh_G μ) (h : f_X12_stands μ = some μ') : sh_offX μ μ' := by
  have ih_7 := (fpl_X12_stands sh_fuel).1
  have ih_76 := (fpl_X12_stands sh_fuel).2.1
  have ih_105 := (fpl_X12_stands sh_fuel).2.2.1
  have ih_134 := (fpl_X12_stands sh_fuel).2.2.2.1
  have ih_166 := (fpl_X12_stands sh_fuel).2.2.2.2.1
  have ih_188 := (fpl_X12_stands sh_fuel).2.2.2.2.2.1
  have ih_216 := (fpl_X12_stands sh_fuel).2.2.2.2.2.2
  have hF : sh_offX μ μ := sh_offX.rf
  unfold f_X12_stands at h
  obtain ⟨μ116, eμ116⟩ : ∃ y : sh_Mem, y = (sh_setI μ 291 50 1) := ⟨_, rfl⟩
  rw [sh_let_eq eμ116] at h
  have hG116 : sh_G μ116 := by rw [eμ116]; exact hG
  have hF116 : sh_offX μ μ116 := by rw [eμ116]; exact sh_offX_I hF (by decide)
  exact hF116.trans (ih_7 hG116 h)
theorem fp_X12_topicMany {μ μ' : sh_Mem} {v : Int32} (hG : sh_G μ) (h : f_X12_topicMany μ = some (v, μ')) : sh_offX μ μ' := by
  have hF : sh_offX μ μ := sh_offX.rf
  unfold f_X12_topicMany at h
  obtain ⟨e1, e2⟩ := sh_some2 h
  exact e2 ▸ hF
theorem fp_X12_personMany {μ μ' : sh_Mem} {v : Int32} (hG : sh_G μ) (h : f_X12_personMany μ = some (v, μ')) : sh_offX μ μ' := by
  have hF : sh_offX μ μ := sh_offX.rf
  unfold f_X12_personMany at h
  obtain ⟨e1, e2⟩ := sh_some2 h
  exact e2 ▸ hF
theorem fp_X12_listMany {μ μ' : sh_Mem} {v : Int32} (hG : sh_G μ) (h : f_X12_listMany μ = some (v, μ')) : sh_offX μ μ' := by
  have hF : sh_offX μ μ := sh_offX.rf
  unfold f_X12_listMany at h
  obtain ⟨e1, e2⟩ := sh_some2 h
  exact e2 ▸ hF
theorem fp_X12_isTopic {a1 : Int64} {μ μ' : sh_Mem} {v : Int32} (hG : sh_G μ) (h : f_X12_isTopic a1 μ = some (v, μ')) : sh_offX μ μ' := by
  have hF : sh_offX μ μ := sh_offX.rf
  unfold f_X12_isTopic at h
  obtain ⟨y3, μ1, hr2, h⟩ := sh_bind_e h
  have hG1 := gp_X12_topicMany hG hr2
  have hF1 := hF.trans (fp_X12_topicMany hG hr2)
  obtain ⟨k4, h⟩ := sh_chk h
  obtain ⟨e1, e2⟩ := sh_some2 h
  exact e2 ▸ hF1
theorem fp_X12_isPerson {a1 : Int32} {μ μ' : sh_Mem} {v : Int32} (hG : sh_G μ) (h : f_X12_isPerson a1 μ = some (v, μ')) : sh_offX μ μ' := by
  have hF : sh_offX μ μ := sh_offX.rf
  unfold f_X12_isPerson at h
  obtain ⟨y3, μ1, hr2, h⟩ := sh_bind_e h
  have hG1 := gp_X12_personMany hG hr2
  have hF1 := hF.trans (fp_X12_personMany hG hr2)
  obtain ⟨k4, h⟩ := sh_chk h
  obtain ⟨e1, e2⟩ := sh_some2 h
  exact e2 ▸ hF1
theorem fp_X12_cellAt {a1 : Int32} {a2 : Int32} {μ μ' : sh_Mem} {v : Int32} (hG : sh_G μ) (h : f_X12_cellAt a1 a2 μ = some (v, μ')) : sh_offX μ μ' := by
  have hF : sh_offX μ μ := sh_offX.rf
  unfold f_X12_cellAt at h
  by_cases c1 : (sh_i μ 291 50) = 0
  · rw [if_pos c1] at h
    obtain ⟨e1, e2⟩ := sh_some2 h
    exact e2 ▸ hF
  · rw [if_neg c1] at h
    by_cases c2 : (f_X12_isIn μ (a1).toInt64 0 (((sh_i μ 321 (Int32.toNatClampNeg 3)) - 1)).toInt64) = 0
    · rw [if_pos c2] at h
      obtain ⟨e1, e2⟩ := sh_some2 h
      exact e2 ▸ hF
    · rw [if_neg c2] at h
      by_cases c3 : (f_X12_isIn μ (a2).toInt64 0 (((sh_i μ 321 (Int32.toNatClampNeg 4)) - 1)).toInt64) = 0
      · rw [if_pos c3] at h
        obtain ⟨e1, e2⟩ := sh_some2 h
        exact e2 ▸ hF
      · rw [if_neg c3] at h
        obtain ⟨e1, e2⟩ := sh_some2 h
        exact e2 ▸ hF
theorem fp_X12_cellNumbered {a1 : Int32} {μ μ' : sh_Mem} {v : Int32} (hG : sh_G μ) (h : f_X12_cellNumbered a1 μ = some (v, μ')) : sh_offX μ μ' := by
  have hF : sh_offX μ μ := sh_offX.rf
  unfold f_X12_cellNumbered at h
  by_cases c1 : 0 ≤ a1
  · rw [if_pos c1] at h
    obtain ⟨y4, μ2, hr3, h⟩ := sh_bind_e h
    have hG2 := gp_X12_cellAt hG hr3
    have hF2 := hF.trans (fp_X12_cellAt hG hr3)
    obtain ⟨e1, e2⟩ := sh_some2 h
    exact e2 ▸ hF2
  · rw [if_neg c1] at h
    obtain ⟨e1, e2⟩ := sh_some2 h
    exact e2 ▸ hF
theorem fp_X12_numberOf {a1 : Int32} {μ μ' : sh_Mem} {v : Int32} (hG : sh_G μ) (h : f_X12_numberOf a1 μ = some (v, μ')) : sh_offX μ μ' := by
  have hF : sh_offX μ μ := sh_offX.rf
  unfold f_X12_numberOf at h
  obtain ⟨e1, e2⟩ := sh_some2 h
  exact e2 ▸ hF
theorem fp_X12_cellMany {μ μ' : sh_Mem} {v : Int32} (hG : sh_G μ) (h : f_X12_cellMany μ = some (v, μ')) : sh_offX μ μ' := by
  have hF : sh_offX μ μ := sh_offX.rf
  unfold f_X12_cellMany at h
  obtain ⟨e1, e2⟩ := sh_some2 h
  exact e2 ▸ hF
theorem fp_X12_cellOrder {a1 : Int32} {μ μ' : sh_Mem} {v : Int32} (hG : sh_G μ) (h : f_X12_cellOrder a1 μ = some (v, μ')) : sh_offX μ μ' := by
  have hF : sh_offX μ μ := sh_offX.rf
  unfold f_X12_cellOrder at h
  obtain ⟨k1, h⟩ := sh_chk h
  obtain ⟨k2, h⟩ := sh_chk h
  obtain ⟨e1, e2⟩ := sh_some2 h
  exact e2 ▸ hF
theorem fp_X12_heightOf {a1 : Int32} {μ μ' : sh_Mem} {v : Int32} (hG : sh_G μ) (h : f_X12_heightOf a1 μ = some (v, μ')) : sh_offX μ μ' := by
  have hF : sh_offX μ μ := sh_offX.rf
  unfold f_X12_heightOf at h
  obtain ⟨k1, h⟩ := sh_chk h
  obtain ⟨e1, e2⟩ := sh_some2 h
  exact e2 ▸ hF
theorem fp_X12_cellOf {a1 : Int32} {μ μ' : sh_Mem} {v : Int32} (hG : sh_G μ) (h : f_X12_cellOf a1 μ = some (v, μ')) : sh_offX μ μ' := by
  have hF : sh_offX μ μ := sh_offX.rf
  unfold f_X12_cellOf at h
  obtain ⟨k1, h⟩ := sh_chk h
  obtain ⟨e1, e2⟩ := sh_some2 h
  exact e2 ▸ hF
theorem fp_X12_tiredOf {a1 : Int32} {μ μ' : sh_Mem} {v : Int32} (hG : sh_G μ) (h : f_X12_tiredOf a1 μ = some (v, μ')) : sh_offX μ μ' := by
  have hF : sh_offX μ μ := sh_offX.rf
  unfold f_X12_tiredOf at h
  obtain ⟨k1, h⟩ := sh_chk h
  obtain ⟨e1, e2⟩ := sh_some2 h
  exact e2 ▸ hF
theorem fp_X12_knowsOf {a1 : Int32} {μ μ' : sh_Mem} {v : Int32} (hG : sh_G μ) (h : f_X12_knowsOf a1 μ = some (v, μ')) : sh_offX μ μ' := by
  have hF : sh_offX μ μ := sh_offX.rf
  unfold f_X12_knowsOf at h
  obtain ⟨k1, h⟩ := sh_chk h
  obtain ⟨e1, e2⟩ := sh_some2 h
  exact e2 ▸ hF
theorem fpl_X12_isTaken (fuel : Nat) : (∀ ⦃i1 : Int32⦄ ⦃i2 : Int32⦄ ⦃μ μ' : sh_Mem⦄ ⦃v : Int32⦄, sh_G μ → F_X12_isTaken fuel 1 i1 i2 μ = some (v, μ') → sh_offX μ μ') := by
  induction fuel with
  | zero => intro i1 i2 μ μ' v hG h; cases h
  | succ fuel ih =>
    have ih_2 := ih
    intro i1 i2 μ μ' v hG h
    replace h : (sh_bind (f_X12_personMany μ) (fun y11 μ9 => (if y11 ≤ i2 then some (0, μ9) else sh_bind (f_X12_cellOf i2 μ9) (fun y15 μ13 => (if y15 = i1 then some (1, μ13) else F_X12_isTaken fuel 1 i1 (i2 + 1) μ13)))) : Option (Int32 × sh_Mem)) = some (v, μ') := h
    have hF : sh_offX μ μ := sh_offX.rf
    obtain ⟨y11, μ9, hr10, h⟩ := sh_bind_e h
    have hG9 := gp_X12_personMany hG hr10
    have hF9 := hF.trans (fp_X12_personMany hG hr10)
    by_cases c12 : y11 ≤ i2
    · rw [if_pos c12] at h
      obtain ⟨e1, e2⟩ := sh_some2 h
      exact e2 ▸ hF9
    · rw [if_neg c12] at h
      obtain ⟨y15, μ13, hr14, h⟩ := sh_bind_e h
      have hG13 := gp_X12_cellOf hG9 hr14
      have hF13 := hF9.trans (fp_X12_cellOf hG9 hr14)
      by_cases c16 : y15 = i1
      · rw [if_pos c16] at h
        obtain ⟨e1, e2⟩ := sh_some2 h
        exact e2 ▸ hF13
      · rw [if_neg c16] at h
        exact hF13.trans (ih_2 hG13 h)
theorem fp_X12_isTaken {a1 : Int32} {μ μ' : sh_Mem} {v : Int32} (hG : sh_G μ) (h : f_X12_isTaken a1 μ = some (v, μ')) : sh_offX μ μ' := by
  have ih_2 := (fpl_X12_isTaken sh_fuel)
  have hF : sh_offX μ μ := sh_offX.rf
  unfold f_X12_isTaken at h
  exact hF.trans (ih_2 hG h)
theorem fpl_X12_bits (fuel : Nat) : (∀ ⦃i0 : Int32⦄ ⦃i1 : Int32⦄ ⦃i2 : Int32⦄ ⦃μ μ' : sh_Mem⦄ ⦃v : Int32⦄, sh_G μ → F_X12_bits fuel 1 i0 i1 i2 μ = some (v, μ') → sh_offX μ μ') := by
  induction fuel with
  | zero => intro i0 i1 i2 μ μ' v hG h; cases h
  | succ fuel ih =>
    have ih_4 := ih
    intro i0 i1 i2 μ μ' v hG h
    replace h : ((if i2 = 0 then some (i1, μ) else sh_let ((i2 &&& (i2 - 1)) : Int32) (fun x4 => F_X12_bits fuel 1 i0 (i1 + 1) x4 μ)) : Option (Int32 × sh_Mem)) = some (v, μ') := h
    have hF : sh_offX μ μ := sh_offX.rf
    by_cases c3 : i2 = 0
    · rw [if_pos c3] at h
      obtain ⟨e1, e2⟩ := sh_some2 h
      exact e2 ▸ hF
    · rw [if_neg c3] at h
      obtain ⟨x4, ex4⟩ : ∃ y : Int32, y = (i2 &&& (i2 - 1)) := ⟨_, rfl⟩
      rw [sh_let_eq ex4] at h
      exact hF.trans (ih_4 hG h)
theorem fp_X12_bits {a1 : Int32} {μ μ' : sh_Mem} {v : Int32} (hG : sh_G μ) (h : f_X12_bits a1 μ = some (v, μ')) : sh_offX μ μ' := by
  have ih_4 := (fpl_X12_bits sh_fuel)
  have hF : sh_offX μ μ := sh_offX.rf
  unfold f_X12_bits at h
  exact hF.trans (ih_4 hG h)
theorem fpl_X12_highestBut (fuel : Nat) : (∀ ⦃i1 : Int32⦄ ⦃i2 : Int32⦄ ⦃i3 : Int32⦄ ⦃i4 : Int32⦄ ⦃i5 : Int32⦄ ⦃μ μ' : sh_Mem⦄ ⦃v : Int32⦄, sh_G μ → F_X12_highestBut fuel 1 i1 i2 i3 i4 i5 μ = some (v, μ') → sh_offX μ μ') := by
  induction fuel with
  | zero => intro i1 i2 i3 i4 i5 μ μ' v hG h; cases h
  | succ fuel ih =>
    have ih_6 := ih
    intro i1 i2 i3 i4 i5 μ μ' v hG h
    replace h : (sh_bind (f_X12_cellMany μ) (fun y21 μ19 => (if y21 ≤ i5 then some (i4, μ19) else sh_bind (f_X12_cellOrder i5 μ19) (fun y25 μ23 => (if y25 = i1 then F_X12_highestBut fuel 1 i1 i2 i3 i4 (i5 + 1) μ23 else (if y25 = i2 then F_X12_highestBut fuel 1 i1 i2 i3 i4 (i5 + 1) μ23 else (if y25 = i3 then F_X12_highestBut fuel 1 i1 i2 i3 i4 (i5 + 1) μ23 else (if i4 = (-1) then F_X12_highestBut fuel 1 i1 i2 i3 y25 (i5 + 1) μ23 else sh_bind (f_X12_heightOf y25 μ23) (fun y32 μ30 => sh_bind (f_X12_heightOf i4 μ30) (fun y35 μ33 => (if y32 ≤ y35 then F_X12_highestBut fuel 1 i1 i2 i3 i4 (i5 + 1) μ33 else F_X12_highestBut fuel 1 i1 i2 i3 y25 (i5 + 1) μ33)))))))))) : Option (Int32 × sh_Mem)) = some (v, μ') := h
    have hF : sh_offX μ μ := sh_offX.rf
    obtain ⟨y21, μ19, hr20, h⟩ := sh_bind_e h
    have hG19 := gp_X12_cellMany hG hr20
    have hF19 := hF.trans (fp_X12_cellMany hG hr20)
    by_cases c22 : y21 ≤ i5
    · rw [if_pos c22] at h
      obtain ⟨e1, e2⟩ := sh_some2 h
      exact e2 ▸ hF19
    · rw [if_neg c22] at h
      obtain ⟨y25, μ23, hr24, h⟩ := sh_bind_e h
      have hG23 := gp_X12_cellOrder hG19 hr24
      have hF23 := hF19.trans (fp_X12_cellOrder hG19 hr24)
      by_cases c26 : y25 = i1
      · rw [if_pos c26] at h
        exact hF23.trans (ih_6 hG23 h)
      · rw [if_neg c26] at h
        by_cases c27 : y25 = i2
        · rw [if_pos c27] at h
          exact hF23.trans (ih_6 hG23 h)
        · rw [if_neg c27] at h
          by_cases c28 : y25 = i3
          · rw [if_pos c28] at h
            exact hF23.trans (ih_6 hG23 h)
          · rw [if_neg c28] at h
            by_cases c29 : i4 = (-1)
            · rw [if_pos c29] at h
              exact hF23.trans (ih_6 hG23 h)
            · rw [if_neg c29] at h
              obtain ⟨y32, μ30, hr31, h⟩ := sh_bind_e h
              have hG30 := gp_X12_heightOf hG23 hr31
              have hF30 := hF23.trans (fp_X12_heightOf hG23 hr31)
              obtain ⟨y35, μ33, hr34, h⟩ := sh_bind_e h
              have hG33 := gp_X12_heightOf hG30 hr34
              have hF33 := hF30.trans (fp_X12_heightOf hG30 hr34)
              by_cases c36 : y32 ≤ y35
              · rw [if_pos c36] at h
                exact hF33.trans (ih_6 hG33 h)
              · rw [if_neg c36] at h
                exact hF33.trans (ih_6 hG33 h)
theorem fp_X12_highestBut {a1 : Int32} {a2 : Int32} {a3 : Int32} {μ μ' : sh_Mem} {v : Int32} (hG : sh_G μ) (h : f_X12_highestBut a1 a2 a3 μ = some (v, μ')) : sh_offX μ μ' := by
  have ih_6 := (fpl_X12_highestBut sh_fuel)
  have hF : sh_offX μ μ := sh_offX.rf
  unfold f_X12_highestBut at h
  exact hF.trans (ih_6 hG h)
theorem fpl_X12_isKept (fuel : Nat) : (∀ ⦃i1 : Int32⦄ ⦃i2 : Int32⦄ ⦃i3 : Int32⦄ ⦃μ μ' : sh_Mem⦄, sh_G μ → F_X12_isKept fuel 1 i1 i2 i3 μ = some μ' → sh_offX μ μ') := by
  induction fuel with
  | zero => intro i1 i2 i3 μ μ' hG h; cases h
  | succ fuel ih =>
    have ih_23 := ih
    intro i1 i2 i3 μ μ' hG h
    replace h : ((if 228 ≤ i3 then sh_let (((72 + (4 * (sh_i μ 330 (Int32.toNatClampNeg 71)))) - 4) : Int32) (fun x27 => (if sh_in x27 232 then sh_let (sh_setI μ 330 x27.toNatClampNeg (sh_i μ 330 (Int32.toNatClampNeg 0))) (fun μ29 => (if sh_in (x27 + 1) 232 then sh_let (sh_setI μ29 330 ((x27 + 1)).toNatClampNeg i1) (fun μ31 => (if sh_in (x27 + 2) 232 then sh_let (sh_setI μ31 330 ((x27 + 2)).toNatClampNeg i2) (fun μ33 => (if sh_in (x27 + 3) 232 then sh_let (sh_setI μ33 330 ((x27 + 3)).toNatClampNeg (sh_i μ33 291 59)) (fun μ35 => some μ35) else none)) else none)) else none)) else none)) else (if sh_in (i3 + 4) 232 then (if sh_in i3 232 then sh_let (sh_setI μ 330 i3.toNatClampNeg (sh_i μ 330 ((i3 + 4)).toNatClampNeg)) (fun μ38 => F_X12_isKept fuel 1 i1 i2 (i3 + 1) μ38) else none) else none)) : Option sh_Mem) = some μ' := h
    have hF : sh_offX μ μ := sh_offX.rf
    by_cases c26 : 228 ≤ i3
    · rw [if_pos c26] at h
      obtain ⟨x27, ex27⟩ : ∃ y : Int32, y = ((72 + (4 * (sh_i μ 330 (Int32.toNatClampNeg 71)))) - 4) := ⟨_, rfl⟩
      rw [sh_let_eq ex27] at h
      obtain ⟨k28, h⟩ := sh_chk h
      obtain ⟨μ29, eμ29⟩ : ∃ y : sh_Mem, y = (sh_setI μ 330 x27.toNatClampNeg (sh_i μ 330 (Int32.toNatClampNeg 0))) := ⟨_, rfl⟩
      rw [sh_let_eq eμ29] at h
      have hG29 : sh_G μ29 := by rw [eμ29]; exact hG
      have hF29 : sh_offX μ μ29 := by rw [eμ29]; exact sh_offX_I hF (by decide)
      obtain ⟨k30, h⟩ := sh_chk h
      obtain ⟨μ31, eμ31⟩ : ∃ y : sh_Mem, y = (sh_setI μ29 330 ((x27 + 1)).toNatClampNeg i1) := ⟨_, rfl⟩
      rw [sh_let_eq eμ31] at h
      have hG31 : sh_G μ31 := by rw [eμ31]; exact hG29
      have hF31 : sh_offX μ μ31 := by rw [eμ31]; exact sh_offX_I hF29 (by decide)
      obtain ⟨k32, h⟩ := sh_chk h
      obtain ⟨μ33, eμ33⟩ : ∃ y : sh_Mem, y = (sh_setI μ31 330 ((x27 + 2)).toNatClampNeg i2) := ⟨_, rfl⟩
      rw [sh_let_eq eμ33] at h
      have hG33 : sh_G μ33 := by rw [eμ33]; exact hG31
      have hF33 : sh_offX μ μ33 := by rw [eμ33]; exact sh_offX_I hF31 (by decide)
      obtain ⟨k34, h⟩ := sh_chk h
      obtain ⟨μ35, eμ35⟩ : ∃ y : sh_Mem, y = (sh_setI μ33 330 ((x27 + 3)).toNatClampNeg (sh_i μ33 291 59)) := ⟨_, rfl⟩
      rw [sh_let_eq eμ35] at h
      have hG35 : sh_G μ35 := by rw [eμ35]; exact hG33
      have hF35 : sh_offX μ μ35 := by rw [eμ35]; exact sh_offX_I hF33 (by decide)
      have e2 := Option.some.inj h
      exact e2 ▸ hF35
    · rw [if_neg c26] at h
      obtain ⟨k36, h⟩ := sh_chk h
      obtain ⟨k37, h⟩ := sh_chk h
      obtain ⟨μ38, eμ38⟩ : ∃ y : sh_Mem, y = (sh_setI μ 330 i3.toNatClampNeg (sh_i μ 330 ((i3 + 4)).toNatClampNeg)) := ⟨_, rfl⟩
      rw [sh_let_eq eμ38] at h
      have hG38 : sh_G μ38 := by rw [eμ38]; exact hG
      have hF38 : sh_offX μ μ38 := by rw [eμ38]; exact sh_offX_I hF (by decide)
      exact hF38.trans (ih_23 hG38 h)
theorem fp_X12_isKept {a1 : Int32} {a2 : Int32} {μ μ' : sh_Mem} (hG : sh_G μ) (h : f_X12_isKept a1 a2 μ = some μ') : sh_offX μ μ' := by
  have ih_23 := (fpl_X12_isKept sh_fuel)
  have hF : sh_offX μ μ := sh_offX.rf
  unfold f_X12_isKept at h
  by_cases c39 : (sh_i μ 291 57) = 0
  · rw [if_pos c39] at h
    by_cases c40 : (sh_i μ 330 (Int32.toNatClampNeg 71)) = 40
    · rw [if_pos c40] at h
      exact hF.trans (ih_23 hG h)
    · rw [if_neg c40] at h
      obtain ⟨μ41, eμ41⟩ : ∃ y : sh_Mem, y = (sh_setI μ 330 (Int32.toNatClampNeg 71) ((sh_i μ 330 (Int32.toNatClampNeg 71)) + 1)) := ⟨_, rfl⟩
      rw [sh_let_eq eμ41] at h
      have hG41 : sh_G μ41 := by rw [eμ41]; exact hG
      have hF41 : sh_offX μ μ41 := by rw [eμ41]; exact sh_offX_I hF (by decide)
      obtain ⟨x42, ex42⟩ : ∃ y : Int32, y = ((72 + (4 * (sh_i μ41 330 (Int32.toNatClampNeg 71)))) - 4) := ⟨_, rfl⟩
      rw [sh_let_eq ex42] at h
      obtain ⟨k43, h⟩ := sh_chk h
      obtain ⟨μ44, eμ44⟩ : ∃ y : sh_Mem, y = (sh_setI μ41 330 x42.toNatClampNeg (sh_i μ41 330 (Int32.toNatClampNeg 0))) := ⟨_, rfl⟩
      rw [sh_let_eq eμ44] at h
      have hG44 : sh_G μ44 := by rw [eμ44]; exact hG41
      have hF44 : sh_offX μ μ44 := by rw [eμ44]; exact sh_offX_I hF41 (by decide)
      obtain ⟨k45, h⟩ := sh_chk h
      obtain ⟨μ46, eμ46⟩ : ∃ y : sh_Mem, y = (sh_setI μ44 330 ((x42 + 1)).toNatClampNeg a1) := ⟨_, rfl⟩
      rw [sh_let_eq eμ46] at h
      have hG46 : sh_G μ46 := by rw [eμ46]; exact hG44
      have hF46 : sh_offX μ μ46 := by rw [eμ46]; exact sh_offX_I hF44 (by decide)
      obtain ⟨k47, h⟩ := sh_chk h
      obtain ⟨μ48, eμ48⟩ : ∃ y : sh_Mem, y = (sh_setI μ46 330 ((x42 + 2)).toNatClampNeg a2) := ⟨_, rfl⟩
      rw [sh_let_eq eμ48] at h
      have hG48 : sh_G μ48 := by rw [eμ48]; exact hG46
      have hF48 : sh_offX μ μ48 := by rw [eμ48]; exact sh_offX_I hF46 (by decide)
      obtain ⟨k49, h⟩ := sh_chk h
      obtain ⟨μ50, eμ50⟩ : ∃ y : sh_Mem, y = (sh_setI μ48 330 ((x42 + 3)).toNatClampNeg (sh_i μ48 291 59)) := ⟨_, rfl⟩
      rw [sh_let_eq eμ50] at h
      have hG50 : sh_G μ50 := by rw [eμ50]; exact hG48
      have hF50 : sh_offX μ μ50 := by rw [eμ50]; exact sh_offX_I hF48 (by decide)
      have e2 := Option.some.inj h
      exact e2 ▸ hF50
  · rw [if_neg c39] at h
    have e2 := Option.some.inj h
    exact e2 ▸ hF
theorem fpl_X12_putsAside (fuel : Nat) : (∀ ⦃i1 : Int32⦄ ⦃μ μ' : sh_Mem⦄, sh_G μ → F_X12_putsAside fuel 1 i1 μ = some μ' → sh_offX μ μ') := by
  induction fuel with
  | zero => intro i1 μ μ' hG h; cases h
  | succ fuel ih =>
    have ih_7 := ih
    intro i1 μ μ' hG h
    replace h : ((if 71 ≤ i1 then some μ else (if sh_in i1 232 then (if sh_in i1 71 then sh_let (sh_setI μ 331 i1.toNatClampNeg (sh_i μ 330 i1.toNatClampNeg)) (fun μ9 => F_X12_putsAside fuel 1 (i1 + 1) μ9) else none) else none)) : Option sh_Mem) = some μ' := h
    have hF : sh_offX μ μ := sh_offX.rf
    by_cases c6 : 71 ≤ i1
    · rw [if_pos c6] at h
      have e2 := Option.some.inj h
      exact e2 ▸ hF
    · rw [if_neg c6] at h
      obtain ⟨k7, h⟩ := sh_chk h
      obtain ⟨k8, h⟩ := sh_chk h
      obtain ⟨μ9, eμ9⟩ : ∃ y : sh_Mem, y = (sh_setI μ 331 i1.toNatClampNeg (sh_i μ 330 i1.toNatClampNeg)) := ⟨_, rfl⟩
      rw [sh_let_eq eμ9] at h
      have hG9 : sh_G μ9 := by rw [eμ9]; exact hG
      have hF9 : sh_offX μ μ9 := by rw [eμ9]; exact sh_offX_I hF (by decide)
      exact hF9.trans (ih_7 hG9 h)
theorem fp_X12_putsAside {μ μ' : sh_Mem} (hG : sh_G μ) (h : f_X12_putsAside μ = some μ') : sh_offX μ μ' := by
  have ih_7 := (fpl_X12_putsAside sh_fuel)
  have hF : sh_offX μ μ := sh_offX.rf
  unfold f_X12_putsAside at h
  obtain ⟨μ10, eμ10⟩ : ∃ y : sh_Mem, y = (sh_setI μ 291 57 1) := ⟨_, rfl⟩
  rw [sh_let_eq eμ10] at h
  have hG10 : sh_G μ10 := by rw [eμ10]; exact hG
  have hF10 : sh_offX μ μ10 := by rw [eμ10]; exact sh_offX_I hF (by decide)
  exact hF10.trans (ih_7 hG10 h)
theorem fpl_X12_triesAnew (fuel : Nat) : (∀ ⦃i1 : Int32⦄ ⦃μ μ' : sh_Mem⦄, sh_G μ → F_X12_triesAnew fuel 1 i1 μ = some μ' → sh_offX μ μ') := by
  induction fuel with
  | zero => intro i1 μ μ' hG h; cases h
  | succ fuel ih =>
    have ih_2 := ih
    intro i1 μ μ' hG h
    replace h : ((if 71 ≤ i1 then some μ else (if sh_in i1 71 then (if sh_in i1 232 then sh_let (sh_setI μ 330 i1.toNatClampNeg (sh_i μ 331 i1.toNatClampNeg)) (fun μ8 => F_X12_triesAnew fuel 1 (i1 + 1) μ8) else none) else none)) : Option sh_Mem) = some μ' := h
    have hF : sh_offX μ μ := sh_offX.rf
    by_cases c5 : 71 ≤ i1
    · rw [if_pos c5] at h
      have e2 := Option.some.inj h
      exact e2 ▸ hF
    · rw [if_neg c5] at h
      obtain ⟨k6, h⟩ := sh_chk h
      obtain ⟨k7, h⟩ := sh_chk h
      obtain ⟨μ8, eμ8⟩ : ∃ y : sh_Mem, y = (sh_setI μ 330 i1.toNatClampNeg (sh_i μ 331 i1.toNatClampNeg)) := ⟨_, rfl⟩
      rw [sh_let_eq eμ8] at h
      have hG8 : sh_G μ8 := by rw [eμ8]; exact hG
      have hF8 : sh_offX μ μ8 := by rw [eμ8]; exact sh_offX_I hF (by decide)
      exact hF8.trans (ih_2 hG8 h)
theorem fp_X12_triesAnew {μ μ' : sh_Mem} (hG : sh_G μ) (h : f_X12_triesAnew μ = some μ') : sh_offX μ μ' := by
  have ih_2 := (fpl_X12_triesAnew sh_fuel)
  have hF : sh_offX μ μ := sh_offX.rf
  unfold f_X12_triesAnew at h
  exact hF.trans (ih_2 hG h)
theorem fp_X12_takesBack {μ μ' : sh_Mem} (hG : sh_G μ) (h : f_X12_takesBack μ = some μ') : sh_offX μ μ' := by
  have hF : sh_offX μ μ := sh_offX.rf
  unfold f_X12_takesBack at h
  obtain ⟨μ1, hr2, h⟩ := sh_bindv_e h
  have hG1 := gp_X12_triesAnew hG hr2
  have hF1 := hF.trans (fp_X12_triesAnew hG hr2)
  obtain ⟨μ4, eμ4⟩ : ∃ y : sh_Mem, y = (sh_setI μ1 291 60 0) := ⟨_, rfl⟩
  rw [sh_let_eq eμ4] at h
  have hG4 : sh_G μ4 := by rw [eμ4]; exact hG1
  have hF4 : sh_offX μ μ4 := by rw [eμ4]; exact sh_offX_I hF1 (by decide)
  obtain ⟨μ5, eμ5⟩ : ∃ y : sh_Mem, y = (sh_setI μ4 291 57 0) := ⟨_, rfl⟩
  rw [sh_let_eq eμ5] at h
  have hG5 : sh_G μ5 := by rw [eμ5]; exact hG4
  have hF5 : sh_offX μ μ5 := by rw [eμ5]; exact sh_offX_I hF4 (by decide)
  have e2 := Option.some.inj h
  exact e2 ▸ hF5
theorem fp_X12_isAhead {a1 : Int32} {a2 : Int32} {a3 : Int32} {μ μ' : sh_Mem} {v : Int32} (hG : sh_G μ) (h : f_X12_isAhead a1 a2 a3 μ = some (v, μ')) : sh_offX μ μ' := by
  have hF : sh_offX μ μ := sh_offX.rf
  unfold f_X12_isAhead at h
  by_cases c1 : (sh_i μ 291 50) = 0
  · rw [if_pos c1] at h
    obtain ⟨e1, e2⟩ := sh_some2 h
    exact e2 ▸ hF
  · rw [if_neg c1] at h
    by_cases c2 : (f_X12_isIn μ (a1).toInt64 (a2).toInt64 (a3).toInt64) = 0
    · rw [if_pos c2] at h
      obtain ⟨e1, e2⟩ := sh_some2 h
      exact e2 ▸ hF
    · rw [if_neg c2] at h
      by_cases c3 : 999 < ((sh_i μ 330 (Int32.toNatClampNeg 0)) + a1)
      · rw [if_pos c3] at h
        obtain ⟨e1, e2⟩ := sh_some2 h
        exact e2 ▸ hF
      · rw [if_neg c3] at h
        obtain ⟨e1, e2⟩ := sh_some2 h
        exact e2 ▸ hF
theorem fpl_X12_heightsAll (fuel : Nat) : (∀ ⦃i1 : Int32⦄ ⦃i2 : Int32⦄ ⦃μ μ' : sh_Mem⦄ ⦃v : Int32⦄, sh_G μ → F_X12_heightsAll fuel 1 i1 i2 μ = some (v, μ') → sh_offX μ μ') := by
  induction fuel with
  | zero => intro i1 i2 μ μ' v hG h; cases h
  | succ fuel ih =>
    have ih_4 := ih
    intro i1 i2 μ μ' v hG h
    replace h : (sh_bind (f_X12_cellMany μ) (fun y14 μ12 => (if y14 ≤ i2 then some (i1, μ12) else sh_bind (f_X12_cellOrder i2 μ12) (fun y18 μ16 => sh_bind (f_X12_heightOf y18 μ16) (fun y21 μ19 => sh_let ((i1 + y21) : Int32) (fun x22 => F_X12_heightsAll fuel 1 x22 (i2 + 1) μ19))))) : Option (Int32 × sh_Mem)) = some (v, μ') := h
    have hF : sh_offX μ μ := sh_offX.rf
    obtain ⟨y14, μ12, hr13, h⟩ := sh_bind_e h
    have hG12 := gp_X12_cellMany hG hr13
    have hF12 := hF.trans (fp_X12_cellMany hG hr13)
    by_cases c15 : y14 ≤ i2
    · rw [if_pos c15] at h
      obtain ⟨e1, e2⟩ := sh_some2 h
      exact e2 ▸ hF12
    · rw [if_neg c15] at h
      obtain ⟨y18, μ16, hr17, h⟩ := sh_bind_e h
      have hG16 := gp_X12_cellOrder hG12 hr17
      have hF16 := hF12.trans (fp_X12_cellOrder hG12 hr17)
      obtain ⟨y21, μ19, hr20, h⟩ := sh_bind_e h
      have hG19 := gp_X12_heightOf hG16 hr20
      have hF19 := hF16.trans (fp_X12_heightOf hG16 hr20)
      obtain ⟨x22, ex22⟩ : ∃ y : Int32, y = (i1 + y21) := ⟨_, rfl⟩
      rw [sh_let_eq ex22] at h
      exact hF19.trans (ih_4 hG19 h)
theorem fp_X12_heightsAll {μ μ' : sh_Mem} {v : Int32} (hG : sh_G μ) (h : f_X12_heightsAll μ = some (v, μ')) : sh_offX μ μ' := by
  have ih_4 := (fpl_X12_heightsAll sh_fuel)
  have hF : sh_offX μ μ := sh_offX.rf
  unfold f_X12_heightsAll at h
  exact hF.trans (ih_4 hG h)
theorem fp_X12_has {a1 : Int32} {μ μ' : sh_Mem} {v : Int32} (hG : sh_G μ) (h : f_X12_has a1 μ = some (v, μ')) : sh_offX μ μ' := by
  have hF : sh_offX μ μ := sh_offX.rf
  unfold f_X12_has at h
  by_cases c1 : a1 = 0
  · rw [if_pos c1] at h
    obtain ⟨k2, h⟩ := sh_chk h
    obtain ⟨e1, e2⟩ := sh_some2 h
    exact e2 ▸ hF
  rw [if_neg c1] at h
  by_cases c3 : a1 = 1
  · rw [if_pos c3] at h
    obtain ⟨k4, h⟩ := sh_chk h
    obtain ⟨e1, e2⟩ := sh_some2 h
    exact e2 ▸ hF
  rw [if_neg c3] at h
  by_cases c5 : a1 = 2
  · rw [if_pos c5] at h
    obtain ⟨y8, μ6, hr7, h⟩ := sh_bind_e h
    have hG6 := gp_X12_topicMany hG hr7
    have hF6 := hF.trans (fp_X12_topicMany hG hr7)
    obtain ⟨e1, e2⟩ := sh_some2 h
    exact e2 ▸ hF6
  rw [if_neg c5] at h
  by_cases c9 : a1 = 3
  · rw [if_pos c9] at h
    obtain ⟨y12, μ10, hr11, h⟩ := sh_bind_e h
    have hG10 := gp_X12_personMany hG hr11
    have hF10 := hF.trans (fp_X12_personMany hG hr11)
    obtain ⟨e1, e2⟩ := sh_some2 h
    exact e2 ▸ hF10
  rw [if_neg c9] at h
  by_cases c13 : a1 = 4
  · rw [if_pos c13] at h
    obtain ⟨y16, μ14, hr15, h⟩ := sh_bind_e h
    have hG14 := gp_X12_listMany hG hr15
    have hF14 := hF.trans (fp_X12_listMany hG hr15)
    obtain ⟨e1, e2⟩ := sh_some2 h
    exact e2 ▸ hF14
  rw [if_neg c13] at h
  by_cases c17 : a1 = 5
  · rw [if_pos c17] at h
    obtain ⟨e1, e2⟩ := sh_some2 h
    exact e2 ▸ hF
  rw [if_neg c17] at h
  by_cases c18 : a1 = 6
  · rw [if_pos c18] at h
    obtain ⟨y21, μ19, hr20, h⟩ := sh_bind_e h
    have hG19 := gp_X12_heightsAll hG hr20
    have hF19 := hF.trans (fp_X12_heightsAll hG hr20)
    obtain ⟨e1, e2⟩ := sh_some2 h
    exact e2 ▸ hF19
  rw [if_neg c18] at h
  by_cases c22 : a1 = 7
  · rw [if_pos c22] at h
    obtain ⟨e1, e2⟩ := sh_some2 h
    exact e2 ▸ hF
  rw [if_neg c22] at h
  by_cases c23 : a1 = 8
  · rw [if_pos c23] at h
    obtain ⟨e1, e2⟩ := sh_some2 h
    exact e2 ▸ hF
  rw [if_neg c23] at h
  by_cases c24 : a1 = 9
  · rw [if_pos c24] at h
    obtain ⟨e1, e2⟩ := sh_some2 h
    exact e2 ▸ hF
  rw [if_neg c24] at h
  obtain ⟨e1, e2⟩ := sh_some2 h
  exact e2 ▸ hF
theorem fpl_X12_letter (fuel : Nat) : (∀ ⦃i1 : Int32⦄ ⦃i2 : Int32⦄ ⦃i3 : Int32⦄ ⦃l4 : Int64⦄ ⦃i6 : Int32⦄ ⦃i7 : Int32⦄ ⦃l7 : Int64⦄ ⦃μ μ' : sh_Mem⦄ ⦃v : Int32⦄, sh_G μ → F_X12_letter fuel 1 i1 i2 i3 l4 i6 i7 l7 μ = some (v, μ') → sh_offX μ μ') ∧ (∀ ⦃i1 : Int32⦄ ⦃i2 : Int32⦄ ⦃i3 : Int32⦄ ⦃l4 : Int64⦄ ⦃i6 : Int32⦄ ⦃i7 : Int32⦄ ⦃l7 : Int64⦄ ⦃μ μ' : sh_Mem⦄ ⦃v : Int32⦄, sh_G μ → F_X12_letter fuel 2 i1 i2 i3 l4 i6 i7 l7 μ = some (v, μ') → sh_offX μ μ') := by
  induction fuel with
  | zero => exact ⟨(by intro i1 i2 i3 l4 i6 i7 l7 μ μ' v hG h; cases h), (by intro i1 i2 i3 l4 i6 i7 l7 μ μ' v hG h; cases h)⟩
  | succ fuel ih =>
    obtain ⟨ih_67, ih_102⟩ := ih
    refine ⟨?_, ?_⟩
    · intro i1 i2 i3 l4 i6 i7 l7 μ μ' v hG h
      replace h : ((if (lg_cmp l7 0) ≤ 0 then (if i3 < i6 then sh_let ((i6 - 1) : Int32) (fun x21 => F_X12_letter fuel 2 i1 i2 i3 l4 i6 x21 0 μ) else some (0, μ)) else sh_let ((l7 / 27) : Int64) (fun x22 => F_X12_letter fuel 1 i1 i2 i3 l4 (i6 + 1) 0 x22 μ)) : Option (Int32 × sh_Mem)) = some (v, μ') := h
      have hF : sh_offX μ μ := sh_offX.rf
      by_cases c19 : (lg_cmp l7 0) ≤ 0
      · rw [if_pos c19] at h
        by_cases c20 : i3 < i6
        · rw [if_pos c20] at h
          obtain ⟨x21, ex21⟩ : ∃ y : Int32, y = (i6 - 1) := ⟨_, rfl⟩
          rw [sh_let_eq ex21] at h
          exact hF.trans (ih_102 hG h)
        · rw [if_neg c20] at h
          obtain ⟨e1, e2⟩ := sh_some2 h
          exact e2 ▸ hF
      · rw [if_neg c19] at h
        obtain ⟨x22, ex22⟩ : ∃ y : Int64, y = (l7 / 27) := ⟨_, rfl⟩
        rw [sh_let_eq ex22] at h
        exact hF.trans (ih_67 hG h)
    · intro i1 i2 i3 l4 i6 i7 l7 μ μ' v hG h
      replace h : ((if i7 ≤ i3 then some (((l4 - l4 / 27 * 27)).toInt32, μ) else sh_let ((l4 / 27) : Int64) (fun x24 => F_X12_letter fuel 2 i1 i2 i3 x24 i6 (i7 + (-1)) 0 μ)) : Option (Int32 × sh_Mem)) = some (v, μ') := h
      have hF : sh_offX μ μ := sh_offX.rf
      by_cases c23 : i7 ≤ i3
      · rw [if_pos c23] at h
        obtain ⟨e1, e2⟩ := sh_some2 h
        exact e2 ▸ hF
      · rw [if_neg c23] at h
        obtain ⟨x24, ex24⟩ : ∃ y : Int64, y = (l4 / 27) := ⟨_, rfl⟩
        rw [sh_let_eq ex24] at h
        exact hF.trans (ih_102 hG h)
theorem fp_X12_letter {a1 : Int32} {a2 : Int32} {a3 : Int32} {μ μ' : sh_Mem} {v : Int32} (hG : sh_G μ) (h : f_X12_letter a1 a2 a3 μ = some (v, μ')) : sh_offX μ μ' := by
  have ih_67 := (fpl_X12_letter sh_fuel).1
  have ih_102 := (fpl_X12_letter sh_fuel).2
  have hF : sh_offX μ μ := sh_offX.rf
  unfold f_X12_letter at h
  by_cases c25 : (f_X12_isIn μ (a1).toInt64 0 1) = 0
  · rw [if_pos c25] at h
    obtain ⟨e1, e2⟩ := sh_some2 h
    exact e2 ▸ hF
  · rw [if_neg c25] at h
    obtain ⟨k26, h⟩ := sh_chk h
    by_cases c27 : (f_X12_isIn μ (a2).toInt64 0 (((sh_i μ 322 ((3 + a1)).toNatClampNeg) - 1)).toInt64) = 0
    · rw [if_pos c27] at h
      obtain ⟨e1, e2⟩ := sh_some2 h
      exact e2 ▸ hF
    · rw [if_neg c27] at h
      by_cases c28 : (f_X12_isIn μ (a3).toInt64 0 5) = 0
      · rw [if_pos c28] at h
        obtain ⟨e1, e2⟩ := sh_some2 h
        exact e2 ▸ hF
      · rw [if_neg c28] at h
        obtain ⟨k29, h⟩ := sh_chk h
        obtain ⟨x30, ex30⟩ : ∃ y : Int64, y = (sh_l μ 323 (((16 + (8 * a1)) + a2)).toNatClampNeg) := ⟨_, rfl⟩
        rw [sh_let_eq ex30] at h
        exact hF.trans (ih_67 hG h)
theorem fp_X12_height {a1 : Int32} {a2 : Int32} {μ μ' : sh_Mem} {v : Int32} (hG : sh_G μ) (h : f_X12_height a1 a2 μ = some (v, μ')) : sh_offX μ μ' := by
  have hF : sh_offX μ μ := sh_offX.rf
  unfold f_X12_height at h
  obtain ⟨y3, μ1, hr2, h⟩ := sh_bind_e h
  have hG1 := gp_X12_cellAt hG hr2
  have hF1 := hF.trans (fp_X12_cellAt hG hr2)
  by_cases c4 : y3 = (-1)
  · rw [if_pos c4] at h
    obtain ⟨e1, e2⟩ := sh_some2 h
    exact e2 ▸ hF1
  · rw [if_neg c4] at h
    obtain ⟨y7, μ5, hr6, h⟩ := sh_bind_e h
    have hG5 := gp_X12_heightOf hG1 hr6
    have hF5 := hF1.trans (fp_X12_heightOf hG1 hr6)
    obtain ⟨e1, e2⟩ := sh_some2 h
    exact e2 ▸ hF5
theorem fp_X12_person {a1 : Int32} {a2 : Int32} {μ μ' : sh_Mem} {v : Int32} (hG : sh_G μ) (h : f_X12_person a1 a2 μ = some (v, μ')) : sh_offX μ μ' := by
  have hF : sh_offX μ μ := sh_offX.rf
  unfold f_X12_person at h
  obtain ⟨y3, μ1, hr2, h⟩ := sh_bind_e h
  have hG1 := gp_X12_isPerson hG hr2
  have hF1 := hF.trans (fp_X12_isPerson hG hr2)
  by_cases c4 : y3 = 0
  · rw [if_pos c4] at h
    obtain ⟨e1, e2⟩ := sh_some2 h
    exact e2 ▸ hF1
  · rw [if_neg c4] at h
    by_cases c5 : a2 = 0
    · rw [if_pos c5] at h
      obtain ⟨y8, μ6, hr7, h⟩ := sh_bind_e h
      have hG6 := gp_X12_cellOf hG1 hr7
      have hF6 := hF1.trans (fp_X12_cellOf hG1 hr7)
      obtain ⟨e1, e2⟩ := sh_some2 h
      exact e2 ▸ hF6
    rw [if_neg c5] at h
    by_cases c9 : a2 = 1
    · rw [if_pos c9] at h
      obtain ⟨y12, μ10, hr11, h⟩ := sh_bind_e h
      have hG10 := gp_X12_cellOf hG1 hr11
      have hF10 := hF1.trans (fp_X12_cellOf hG1 hr11)
      obtain ⟨e1, e2⟩ := sh_some2 h
      exact e2 ▸ hF10
    rw [if_neg c9] at h
    by_cases c13 : a2 = 2
    · rw [if_pos c13] at h
      obtain ⟨y16, μ14, hr15, h⟩ := sh_bind_e h
      have hG14 := gp_X12_tiredOf hG1 hr15
      have hF14 := hF1.trans (fp_X12_tiredOf hG1 hr15)
      obtain ⟨e1, e2⟩ := sh_some2 h
      exact e2 ▸ hF14
    rw [if_neg c13] at h
    by_cases c17 : a2 = 3
    · rw [if_pos c17] at h
      obtain ⟨y20, μ18, hr19, h⟩ := sh_bind_e h
      have hG18 := gp_X12_knowsOf hG1 hr19
      have hF18 := hF1.trans (fp_X12_knowsOf hG1 hr19)
      obtain ⟨e1, e2⟩ := sh_some2 h
      exact e2 ▸ hF18
    rw [if_neg c17] at h
    obtain ⟨e1, e2⟩ := sh_some2 h
    exact e2 ▸ hF1
theorem fp_X12_list {a1 : Int32} {a2 : Int32} {μ μ' : sh_Mem} {v : Int32} (hG : sh_G μ) (h : f_X12_list a1 a2 μ = some (v, μ')) : sh_offX μ μ' := by
  have hF : sh_offX μ μ := sh_offX.rf
  unfold f_X12_list at h
  obtain ⟨y3, μ1, hr2, h⟩ := sh_bind_e h
  have hG1 := gp_X12_listMany hG hr2
  have hF1 := hF.trans (fp_X12_listMany hG hr2)
  by_cases c4 : (f_X12_isIn μ1 (a1).toInt64 0 ((y3 - 1)).toInt64) = 0
  · rw [if_pos c4] at h
    obtain ⟨e1, e2⟩ := sh_some2 h
    exact e2 ▸ hF1
  · rw [if_neg c4] at h
    by_cases c5 : (f_X12_isIn μ1 (a2).toInt64 0 1) = 0
    · rw [if_pos c5] at h
      obtain ⟨e1, e2⟩ := sh_some2 h
      exact e2 ▸ hF1
    · rw [if_neg c5] at h
      obtain ⟨k6, h⟩ := sh_chk h
      obtain ⟨e1, e2⟩ := sh_some2 h
      exact e2 ▸ hF1
theorem fp_X12_kept {a1 : Int32} {a2 : Int32} {μ μ' : sh_Mem} {v : Int32} (hG : sh_G μ) (h : f_X12_kept a1 a2 μ = some (v, μ')) : sh_offX μ μ' := by
  have hF : sh_offX μ μ := sh_offX.rf
  unfold f_X12_kept at h
  by_cases c1 : (f_X12_isIn μ (a1).toInt64 0 (((sh_i μ 330 (Int32.toNatClampNeg 71)) - 1)).toInt64) = 0
  · rw [if_pos c1] at h
    obtain ⟨e1, e2⟩ := sh_some2 h
    exact e2 ▸ hF
  · rw [if_neg c1] at h
    by_cases c2 : (f_X12_isIn μ (a2).toInt64 0 3) = 0
    · rw [if_pos c2] at h
      obtain ⟨e1, e2⟩ := sh_some2 h
      exact e2 ▸ hF
    · rw [if_neg c2] at h
      obtain ⟨k3, h⟩ := sh_chk h
      obtain ⟨e1, e2⟩ := sh_some2 h
      exact e2 ▸ hF
theorem fp_X12_isSo {μ μ' : sh_Mem} {v : Int32} (hG : sh_G μ) (h : f_X12_isSo μ = some (v, μ')) : sh_offX μ μ' := by
  have hF : sh_offX μ μ := sh_offX.rf
  unfold f_X12_isSo at h
  obtain ⟨y3, μ1, hr2, h⟩ := sh_bind_e h
  have hG1 := gp_X12_heightOf hG hr2
  have hF1 := hF.trans (fp_X12_heightOf hG hr2)
  by_cases c4 : y3 < (sh_i μ1 291 66)
  · rw [if_pos c4] at h
    obtain ⟨e1, e2⟩ := sh_some2 h
    exact e2 ▸ hF1
  · rw [if_neg c4] at h
    obtain ⟨y7, μ5, hr6, h⟩ := sh_bind_e h
    have hG5 := gp_X12_heightOf hG1 hr6
    have hF5 := hF1.trans (fp_X12_heightOf hG1 hr6)
    by_cases c8 : y7 = (sh_i μ5 291 68)
    · rw [if_pos c8] at h
      obtain ⟨e1, e2⟩ := sh_some2 h
      exact e2 ▸ hF5
    · rw [if_neg c8] at h
      obtain ⟨e1, e2⟩ := sh_some2 h
      exact e2 ▸ hF5
theorem fp_X12_askingMany {μ μ' : sh_Mem} {v : Int32} (hG : sh_G μ) (h : f_X12_askingMany μ = some (v, μ')) : sh_offX μ μ' := by
  have hF : sh_offX μ μ := sh_offX.rf
  unfold f_X12_askingMany at h
  obtain ⟨y3, μ1, hr2, h⟩ := sh_bind_e h
  have hG1 := gp_X12_personMany hG hr2
  have hF1 := hF.trans (fp_X12_personMany hG hr2)
  obtain ⟨y6, μ4, hr5, h⟩ := sh_bind_e h
  have hG4 := gp_X12_topicMany hG1 hr5
  have hF4 := hF1.trans (fp_X12_topicMany hG1 hr5)
  obtain ⟨e1, e2⟩ := sh_some2 h
  exact e2 ▸ hF4
theorem fp_X12_beside {a1 : Int32} {a2 : Int32} {μ μ' : sh_Mem} {v : Int32} (hG : sh_G μ) (h : f_X12_beside a1 a2 μ = some (v, μ')) : sh_offX μ μ' := by
  have hF : sh_offX μ μ := sh_offX.rf
  unfold f_X12_beside at h
  by_cases c1 : a2 = 1
  · rw [if_pos c1] at h
    obtain ⟨x33, ex33⟩ : ∃ y : Int32, y = ((a1 - a1 / 7 * 7) + (-1)) := ⟨_, rfl⟩
    rw [sh_let_eq ex33] at h
    by_cases c34 : a2 = 0
    · rw [if_pos c34] at h
      obtain ⟨x44, ex44⟩ : ∃ y : Int32, y = ((a1 / 7) + (-1)) := ⟨_, rfl⟩
      rw [sh_let_eq ex44] at h
      obtain ⟨y47, μ45, hr46, h⟩ := sh_bind_e h
      have hG45 := gp_X12_cellAt hG hr46
      have hF45 := hF.trans (fp_X12_cellAt hG hr46)
      obtain ⟨e1, e2⟩ := sh_some2 h
      exact e2 ▸ hF45
    · rw [if_neg c34] at h
      by_cases c35 : a2 = 3
      · rw [if_pos c35] at h
        obtain ⟨x40, ex40⟩ : ∃ y : Int32, y = ((a1 / 7) + 1) := ⟨_, rfl⟩
        rw [sh_let_eq ex40] at h
        obtain ⟨y43, μ41, hr42, h⟩ := sh_bind_e h
        have hG41 := gp_X12_cellAt hG hr42
        have hF41 := hF.trans (fp_X12_cellAt hG hr42)
        obtain ⟨e1, e2⟩ := sh_some2 h
        exact e2 ▸ hF41
      · rw [if_neg c35] at h
        obtain ⟨x36, ex36⟩ : ∃ y : Int32, y = ((a1 / 7) + 0) := ⟨_, rfl⟩
        rw [sh_let_eq ex36] at h
        obtain ⟨y39, μ37, hr38, h⟩ := sh_bind_e h
        have hG37 := gp_X12_cellAt hG hr38
        have hF37 := hF.trans (fp_X12_cellAt hG hr38)
        obtain ⟨e1, e2⟩ := sh_some2 h
        exact e2 ▸ hF37
  · rw [if_neg c1] at h
    by_cases c2 : a2 = 2
    · rw [if_pos c2] at h
      obtain ⟨x18, ex18⟩ : ∃ y : Int32, y = ((a1 - a1 / 7 * 7) + 1) := ⟨_, rfl⟩
      rw [sh_let_eq ex18] at h
      by_cases c19 : a2 = 0
      · rw [if_pos c19] at h
        obtain ⟨x29, ex29⟩ : ∃ y : Int32, y = ((a1 / 7) + (-1)) := ⟨_, rfl⟩
        rw [sh_let_eq ex29] at h
        obtain ⟨y32, μ30, hr31, h⟩ := sh_bind_e h
        have hG30 := gp_X12_cellAt hG hr31
        have hF30 := hF.trans (fp_X12_cellAt hG hr31)
        obtain ⟨e1, e2⟩ := sh_some2 h
        exact e2 ▸ hF30
      · rw [if_neg c19] at h
        by_cases c20 : a2 = 3
        · rw [if_pos c20] at h
          obtain ⟨x25, ex25⟩ : ∃ y : Int32, y = ((a1 / 7) + 1) := ⟨_, rfl⟩
          rw [sh_let_eq ex25] at h
          obtain ⟨y28, μ26, hr27, h⟩ := sh_bind_e h
          have hG26 := gp_X12_cellAt hG hr27
          have hF26 := hF.trans (fp_X12_cellAt hG hr27)
          obtain ⟨e1, e2⟩ := sh_some2 h
          exact e2 ▸ hF26
        · rw [if_neg c20] at h
          obtain ⟨x21, ex21⟩ : ∃ y : Int32, y = ((a1 / 7) + 0) := ⟨_, rfl⟩
          rw [sh_let_eq ex21] at h
          obtain ⟨y24, μ22, hr23, h⟩ := sh_bind_e h
          have hG22 := gp_X12_cellAt hG hr23
          have hF22 := hF.trans (fp_X12_cellAt hG hr23)
          obtain ⟨e1, e2⟩ := sh_some2 h
          exact e2 ▸ hF22
    · rw [if_neg c2] at h
      obtain ⟨x3, ex3⟩ : ∃ y : Int32, y = ((a1 - a1 / 7 * 7) + 0) := ⟨_, rfl⟩
      rw [sh_let_eq ex3] at h
      by_cases c4 : a2 = 0
      · rw [if_pos c4] at h
        obtain ⟨x14, ex14⟩ : ∃ y : Int32, y = ((a1 / 7) + (-1)) := ⟨_, rfl⟩
        rw [sh_let_eq ex14] at h
        obtain ⟨y17, μ15, hr16, h⟩ := sh_bind_e h
        have hG15 := gp_X12_cellAt hG hr16
        have hF15 := hF.trans (fp_X12_cellAt hG hr16)
        obtain ⟨e1, e2⟩ := sh_some2 h
        exact e2 ▸ hF15
      · rw [if_neg c4] at h
        by_cases c5 : a2 = 3
        · rw [if_pos c5] at h
          obtain ⟨x10, ex10⟩ : ∃ y : Int32, y = ((a1 / 7) + 1) := ⟨_, rfl⟩
          rw [sh_let_eq ex10] at h
          obtain ⟨y13, μ11, hr12, h⟩ := sh_bind_e h
          have hG11 := gp_X12_cellAt hG hr12
          have hF11 := hF.trans (fp_X12_cellAt hG hr12)
          obtain ⟨e1, e2⟩ := sh_some2 h
          exact e2 ▸ hF11
        · rw [if_neg c5] at h
          obtain ⟨x6, ex6⟩ : ∃ y : Int32, y = ((a1 / 7) + 0) := ⟨_, rfl⟩
          rw [sh_let_eq ex6] at h
          obtain ⟨y9, μ7, hr8, h⟩ := sh_bind_e h
          have hG7 := gp_X12_cellAt hG hr8
          have hF7 := hF.trans (fp_X12_cellAt hG hr8)
          obtain ⟨e1, e2⟩ := sh_some2 h
          exact e2 ▸ hF7
theorem fpl_X12_isCheaper (fuel : Nat) : (∀ ⦃i1 : Int32⦄ ⦃i2 : Int32⦄ ⦃i3 : Int32⦄ ⦃μ μ' : sh_Mem⦄ ⦃v : Int32⦄, sh_G μ → F_X12_isCheaper fuel 1 i1 i2 i3 μ = some (v, μ') → sh_offX μ μ') := by
  induction fuel with
  | zero => intro i1 i2 i3 μ μ' v hG h; cases h
  | succ fuel ih =>
    have ih_4 := ih
    intro i1 i2 i3 μ μ' v hG h
    replace h : ((if 4 ≤ i3 then (if i2 = 0 ∨ i2 = 1 then some (i2, μ) else none) else sh_bind (f_X12_beside i1 i3 μ) (fun y40 μ38 => (if y40 = (-1) then F_X12_isCheaper fuel 1 i1 i2 (i3 + 1) μ38 else (if sh_in y40 49 then (if (sh_i μ38 336 y40.toNatClampNeg) = (-1) then F_X12_isCheaper fuel 1 i1 i2 (i3 + 1) μ38 else sh_bind (f_X12_heightOf i1 μ38) (fun y46 μ44 => sh_bind (f_X12_heightOf y40 μ44) (fun y49 μ47 => sh_let ((y46 - y49) : Int32) (fun x50 => (if sh_in y40 49 then (if 0 ≤ x50 then sh_let ((((sh_i μ47 336 y40.toNatClampNeg) + 1) + x50) : Int32) (fun x53 => (if sh_in i1 49 then (if (sh_i μ47 336 i1.toNatClampNeg) = (-1) then (if sh_in i1 49 then sh_let (sh_setI μ47 336 i1.toNatClampNeg x53) (fun μ57 => F_X12_isCheaper fuel 1 i1 1 (i3 + 1) μ57) else none) else (if sh_in i1 49 then (if x53 < (sh_i μ47 336 i1.toNatClampNeg) then (if sh_in i1 49 then sh_let (sh_setI μ47 336 i1.toNatClampNeg x53) (fun μ61 => F_X12_isCheaper fuel 1 i1 1 (i3 + 1) μ61) else none) else F_X12_isCheaper fuel 1 i1 i2 (i3 + 1) μ47) else none)) else none)) else sh_let ((((sh_i μ47 336 y40.toNatClampNeg) + 1) + (-x50)) : Int32) (fun x62 => (if sh_in i1 49 then (if (sh_i μ47 336 i1.toNatClampNeg) = (-1) then (if sh_in i1 49 then sh_let (sh_setI μ47 336 i1.toNatClampNeg x62) (fun μ66 => F_X12_isCheaper fuel 1 i1 1 (i3 + 1) μ66) else none) else (if sh_in i1 49 then (if x62 < (sh_i μ47 336 i1.toNatClampNeg) then (if sh_in i1 49 then sh_let (sh_setI μ47 336 i1.toNatClampNeg x62) (fun μ70 => F_X12_isCheaper fuel 1 i1 1 (i3 + 1) μ70) else none) else F_X12_isCheaper fuel 1 i1 i2 (i3 + 1) μ47) else none)) else none))) else none))))) else none)))) : Option (Int32 × sh_Mem)) = some (v, μ') := h
    have hF : sh_offX μ μ := sh_offX.rf
    by_cases c36 : 4 ≤ i3
    · rw [if_pos c36] at h
      obtain ⟨k37, h⟩ := sh_chk h
      obtain ⟨e1, e2⟩ := sh_some2 h
      exact e2 ▸ hF
    · rw [if_neg c36] at h
      obtain ⟨y40, μ38, hr39, h⟩ := sh_bind_e h
      have hG38 := gp_X12_beside hG hr39
      have hF38 := hF.trans (fp_X12_beside hG hr39)
      by_cases c41 : y40 = (-1)
      · rw [if_pos c41] at h
        exact hF38.trans (ih_4 hG38 h)
      · rw [if_neg c41] at h
        obtain ⟨k42, h⟩ := sh_chk h
        by_cases c43 : (sh_i μ38 336 y40.toNatClampNeg) = (-1)
        · rw [if_pos c43] at h
          exact hF38.trans (ih_4 hG38 h)
        · rw [if_neg c43] at h
          obtain ⟨y46, μ44, hr45, h⟩ := sh_bind_e h
          have hG44 := gp_X12_heightOf hG38 hr45
          have hF44 := hF38.trans (fp_X12_heightOf hG38 hr45)
          obtain ⟨y49, μ47, hr48, h⟩ := sh_bind_e h
          have hG47 := gp_X12_heightOf hG44 hr48
          have hF47 := hF44.trans (fp_X12_heightOf hG44 hr48)
          obtain ⟨x50, ex50⟩ : ∃ y : Int32, y = (y46 - y49) := ⟨_, rfl⟩
          rw [sh_let_eq ex50] at h
          obtain ⟨k51, h⟩ := sh_chk h
          by_cases c52 : 0 ≤ x50
          · rw [if_pos c52] at h
            obtain ⟨x53, ex53⟩ : ∃ y : Int32, y = (((sh_i μ47 336 y40.toNatClampNeg) + 1) + x50) := ⟨_, rfl⟩
            rw [sh_let_eq ex53] at h
            obtain ⟨k54, h⟩ := sh_chk h
            by_cases c55 : (sh_i μ47 336 i1.toNatClampNeg) = (-1)
            · rw [if_pos c55] at h
              obtain ⟨k56, h⟩ := sh_chk h
              obtain ⟨μ57, eμ57⟩ : ∃ y : sh_Mem, y = (sh_setI μ47 336 i1.toNatClampNeg x53) := ⟨_, rfl⟩
              rw [sh_let_eq eμ57] at h
              have hG57 : sh_G μ57 := by rw [eμ57]; exact hG47
              have hF57 : sh_offX μ μ57 := by rw [eμ57]; exact sh_offX_I hF47 (by decide)
              exact hF57.trans (ih_4 hG57 h)
            · rw [if_neg c55] at h
              obtain ⟨k58, h⟩ := sh_chk h
              by_cases c59 : x53 < (sh_i μ47 336 i1.toNatClampNeg)
              · rw [if_pos c59] at h
                obtain ⟨k60, h⟩ := sh_chk h
                obtain ⟨μ61, eμ61⟩ : ∃ y : sh_Mem, y = (sh_setI μ47 336 i1.toNatClampNeg x53) := ⟨_, rfl⟩
                rw [sh_let_eq eμ61] at h
                have hG61 : sh_G μ61 := by rw [eμ61]; exact hG47
                have hF61 : sh_offX μ μ61 := by rw [eμ61]; exact sh_offX_I hF47 (by decide)
                exact hF61.trans (ih_4 hG61 h)
              · rw [if_neg c59] at h
                exact hF47.trans (ih_4 hG47 h)
          · rw [if_neg c52] at h
            obtain ⟨x62, ex62⟩ : ∃ y : Int32, y = (((sh_i μ47 336 y40.toNatClampNeg) + 1) + (-x50)) := ⟨_, rfl⟩
            rw [sh_let_eq ex62] at h
            obtain ⟨k63, h⟩ := sh_chk h
            by_cases c64 : (sh_i μ47 336 i1.toNatClampNeg) = (-1)
            · rw [if_pos c64] at h
              obtain ⟨k65, h⟩ := sh_chk h
              obtain ⟨μ66, eμ66⟩ : ∃ y : sh_Mem, y = (sh_setI μ47 336 i1.toNatClampNeg x62) := ⟨_, rfl⟩
              rw [sh_let_eq eμ66] at h
              have hG66 : sh_G μ66 := by rw [eμ66]; exact hG47
              have hF66 : sh_offX μ μ66 := by rw [eμ66]; exact sh_offX_I hF47 (by decide)
              exact hF66.trans (ih_4 hG66 h)
            · rw [if_neg c64] at h
              obtain ⟨k67, h⟩ := sh_chk h
              by_cases c68 : x62 < (sh_i μ47 336 i1.toNatClampNeg)
              · rw [if_pos c68] at h
                obtain ⟨k69, h⟩ := sh_chk h
                obtain ⟨μ70, eμ70⟩ : ∃ y : sh_Mem, y = (sh_setI μ47 336 i1.toNatClampNeg x62) := ⟨_, rfl⟩
                rw [sh_let_eq eμ70] at h
                have hG70 : sh_G μ70 := by rw [eμ70]; exact hG47
                have hF70 : sh_offX μ μ70 := by rw [eμ70]; exact sh_offX_I hF47 (by decide)
                exact hF70.trans (ih_4 hG70 h)
              · rw [if_neg c68] at h
                exact hF47.trans (ih_4 hG47 h)
theorem fp_X12_isCheaper {a1 : Int32} {μ μ' : sh_Mem} {v : Int32} (hG : sh_G μ) (h : f_X12_isCheaper a1 μ = some (v, μ')) : sh_offX μ μ' := by
  have ih_4 := (fpl_X12_isCheaper sh_fuel)
  have hF : sh_offX μ μ := sh_offX.rf
  unfold f_X12_isCheaper at h
  exact hF.trans (ih_4 hG h)
theorem fpl_X12_wayCost (fuel : Nat) : (∀ ⦃i1 : Int32⦄ ⦃i2 : Int32⦄ ⦃i3 : Int32⦄ ⦃i4 : Int32⦄ ⦃μ μ' : sh_Mem⦄ ⦃v : Int32⦄, sh_G μ → F_X12_wayCost fuel 1 i1 i2 i3 i4 μ = some (v, μ') → sh_offX μ μ') ∧ (∀ ⦃i1 : Int32⦄ ⦃i2 : Int32⦄ ⦃i3 : Int32⦄ ⦃i4 : Int32⦄ ⦃μ μ' : sh_Mem⦄ ⦃v : Int32⦄, sh_G μ → F_X12_wayCost fuel 2 i1 i2 i3 i4 μ = some (v, μ') → sh_offX μ μ') ∧ (∀ ⦃i1 : Int32⦄ ⦃i2 : Int32⦄ ⦃i3 : Int32⦄ ⦃i4 : Int32⦄ ⦃μ μ' : sh_Mem⦄ ⦃v : Int32⦄, sh_G μ → F_X12_wayCost fuel 3 i1 i2 i3 i4 μ = some (v, μ') → sh_offX μ μ') := by
  induction fuel with
  | zero => exact ⟨(by intro i1 i2 i3 i4 μ μ' v hG h; cases h), (by intro i1 i2 i3 i4 μ μ' v hG h; cases h), (by intro i1 i2 i3 i4 μ μ' v hG h; cases h)⟩
  | succ fuel ih =>
    obtain ⟨ih_2, ih_32, ih_41⟩ := ih
    refine ⟨?_, ?_, ?_⟩
    · intro i1 i2 i3 i4 μ μ' v hG h
      replace h : ((if 49 ≤ i3 then F_X12_wayCost fuel 2 i1 i2 1 0 μ else (if i3 = i1 then (if sh_in i3 49 then sh_let (sh_setI μ 336 i3.toNatClampNeg 0) (fun μ44 => F_X12_wayCost fuel 1 i1 i2 (i3 + 1) 0 μ44) else none) else (if sh_in i3 49 then sh_let (sh_setI μ 336 i3.toNatClampNeg (-1)) (fun μ42 => F_X12_wayCost fuel 1 i1 i2 (i3 + 1) 0 μ42) else none))) : Option (Int32 × sh_Mem)) = some (v, μ') := h
      have hF : sh_offX μ μ := sh_offX.rf
      by_cases c39 : 49 ≤ i3
      · rw [if_pos c39] at h
        exact hF.trans (ih_32 hG h)
      · rw [if_neg c39] at h
        by_cases c40 : i3 = i1
        · rw [if_pos c40] at h
          obtain ⟨k43, h⟩ := sh_chk h
          obtain ⟨μ44, eμ44⟩ : ∃ y : sh_Mem, y = (sh_setI μ 336 i3.toNatClampNeg 0) := ⟨_, rfl⟩
          rw [sh_let_eq eμ44] at h
          have hG44 : sh_G μ44 := by rw [eμ44]; exact hG
          have hF44 : sh_offX μ μ44 := by rw [eμ44]; exact sh_offX_I hF (by decide)
          exact hF44.trans (ih_2 hG44 h)
        · rw [if_neg c40] at h
          obtain ⟨k41, h⟩ := sh_chk h
          obtain ⟨μ42, eμ42⟩ : ∃ y : sh_Mem, y = (sh_setI μ 336 i3.toNatClampNeg (-1)) := ⟨_, rfl⟩
          rw [sh_let_eq eμ42] at h
          have hG42 : sh_G μ42 := by rw [eμ42]; exact hG
          have hF42 : sh_offX μ μ42 := by rw [eμ42]; exact sh_offX_I hF (by decide)
          exact hF42.trans (ih_2 hG42 h)
    · intro i1 i2 i3 i4 μ μ' v hG h
      replace h : ((if i3 = 0 then (if sh_in i2 49 then some ((sh_i μ 336 i2.toNatClampNeg), μ) else none) else F_X12_wayCost fuel 3 i1 i2 0 0 μ) : Option (Int32 × sh_Mem)) = some (v, μ') := h
      have hF : sh_offX μ μ := sh_offX.rf
      by_cases c45 : i3 = 0
      · rw [if_pos c45] at h
        obtain ⟨k46, h⟩ := sh_chk h
        obtain ⟨e1, e2⟩ := sh_some2 h
        exact e2 ▸ hF
      · rw [if_neg c45] at h
        exact hF.trans (ih_41 hG h)
    · intro i1 i2 i3 i4 μ μ' v hG h
      replace h : (sh_bind (f_X12_cellMany μ) (fun y49 μ47 => (if y49 ≤ i4 then F_X12_wayCost fuel 2 i1 i2 i3 0 μ47 else sh_bind (f_X12_cellOrder i4 μ47) (fun y53 μ51 => sh_bind (f_X12_isCheaper y53 μ51) (fun y56 μ54 => (if y56 = 0 then F_X12_wayCost fuel 3 i1 i2 i3 (i4 + 1) μ54 else F_X12_wayCost fuel 3 i1 i2 1 (i4 + 1) μ54))))) : Option (Int32 × sh_Mem)) = some (v, μ') := h
      have hF : sh_offX μ μ := sh_offX.rf
      obtain ⟨y49, μ47, hr48, h⟩ := sh_bind_e h
      have hG47 := gp_X12_cellMany hG hr48
      have hF47 := hF.trans (fp_X12_cellMany hG hr48)
      by_cases c50 : y49 ≤ i4
      · rw [if_pos c50] at h
        exact hF47.trans (ih_32 hG47 h)
      · rw [if_neg c50] at h
        obtain ⟨y53, μ51, hr52, h⟩ := sh_bind_e h
        have hG51 := gp_X12_cellOrder hG47 hr52
        have hF51 := hF47.trans (fp_X12_cellOrder hG47 hr52)
        obtain ⟨y56, μ54, hr55, h⟩ := sh_bind_e h
        have hG54 := gp_X12_isCheaper hG51 hr55
        have hF54 := hF51.trans (fp_X12_isCheaper hG51 hr55)
        by_cases c57 : y56 = 0
        · rw [if_pos c57] at h
          exact hF54.trans (ih_41 hG54 h)
        · rw [if_neg c57] at h
          exact hF54.trans (ih_41 hG54 h)
theorem fp_X12_wayCost {a1 : Int32} {a2 : Int32} {μ μ' : sh_Mem} {v : Int32} (hG : sh_G μ) (h : f_X12_wayCost a1 a2 μ = some (v, μ')) : sh_offX μ μ' := by
  have ih_2 := (fpl_X12_wayCost sh_fuel).1
  have ih_32 := (fpl_X12_wayCost sh_fuel).2.1
  have ih_41 := (fpl_X12_wayCost sh_fuel).2.2
  have hF : sh_offX μ μ := sh_offX.rf
  unfold f_X12_wayCost at h
  exact hF.trans (ih_2 hG h)
theorem fp_X12_way {a1 : Int32} {a2 : Int32} {μ μ' : sh_Mem} {v : Int32} (hG : sh_G μ) (h : f_X12_way a1 a2 μ = some (v, μ')) : sh_offX μ μ' := by
  have hF : sh_offX μ μ := sh_offX.rf
  unfold f_X12_way at h
  obtain ⟨y3, μ1, hr2, h⟩ := sh_bind_e h
  have hG1 := gp_X12_cellNumbered hG hr2
  have hF1 := hF.trans (fp_X12_cellNumbered hG hr2)
  obtain ⟨y6, μ4, hr5, h⟩ := sh_bind_e h
  have hG4 := gp_X12_cellNumbered hG1 hr5
  have hF4 := hF1.trans (fp_X12_cellNumbered hG1 hr5)
  by_cases c7 : y3 = (-1)
  · rw [if_pos c7] at h
    obtain ⟨e1, e2⟩ := sh_some2 h
    exact e2 ▸ hF4
  · rw [if_neg c7] at h
    by_cases c8 : y6 = (-1)
    · rw [if_pos c8] at h
      obtain ⟨e1, e2⟩ := sh_some2 h
      exact e2 ▸ hF4
    · rw [if_neg c8] at h
      obtain ⟨y11, μ9, hr10, h⟩ := sh_bind_e h
      have hG9 := gp_X12_wayCost hG4 hr10
      have hF9 := hF4.trans (fp_X12_wayCost hG4 hr10)
      obtain ⟨e1, e2⟩ := sh_some2 h
      exact e2 ▸ hF9
theorem fpl_X12_lowerOf (fuel : Nat) : (∀ ⦃i1 : Int32⦄ ⦃i2 : Int32⦄ ⦃i3 : Int32⦄ ⦃μ μ' : sh_Mem⦄ ⦃v : Int32⦄, sh_G μ → F_X12_lowerOf fuel 1 i1 i2 i3 μ = some (v, μ') → sh_offX μ μ') := by
  induction fuel with
  | zero => intro i1 i2 i3 μ μ' v hG h; cases h
  | succ fuel ih =>
    have ih_4 := ih
    intro i1 i2 i3 μ μ' v hG h
    replace h : ((if 4 ≤ i3 then some (i2, μ) else sh_bind (f_X12_beside i1 i3 μ) (fun y16 μ14 => (if y16 = (-1) then F_X12_lowerOf fuel 1 i1 i2 (i3 + 1) μ14 else sh_bind (f_X12_heightOf y16 μ14) (fun y20 μ18 => sh_bind (f_X12_heightOf i2 μ18) (fun y23 μ21 => (if y23 ≤ y20 then F_X12_lowerOf fuel 1 i1 i2 (i3 + 1) μ21 else F_X12_lowerOf fuel 1 i1 y16 (i3 + 1) μ21)))))) : Option (Int32 × sh_Mem)) = some (v, μ') := h
    have hF : sh_offX μ μ := sh_offX.rf
    by_cases c13 : 4 ≤ i3
    · rw [if_pos c13] at h
      obtain ⟨e1, e2⟩ := sh_some2 h
      exact e2 ▸ hF
    · rw [if_neg c13] at h
      obtain ⟨y16, μ14, hr15, h⟩ := sh_bind_e h
      have hG14 := gp_X12_beside hG hr15
      have hF14 := hF.trans (fp_X12_beside hG hr15)
      by_cases c17 : y16 = (-1)
      · rw [if_pos c17] at h
        exact hF14.trans (ih_4 hG14 h)
      · rw [if_neg c17] at h
        obtain ⟨y20, μ18, hr19, h⟩ := sh_bind_e h
        have hG18 := gp_X12_heightOf hG14 hr19
        have hF18 := hF14.trans (fp_X12_heightOf hG14 hr19)
        obtain ⟨y23, μ21, hr22, h⟩ := sh_bind_e h
        have hG21 := gp_X12_heightOf hG18 hr22
        have hF21 := hF18.trans (fp_X12_heightOf hG18 hr22)
        by_cases c24 : y23 ≤ y20
        · rw [if_pos c24] at h
          exact hF21.trans (ih_4 hG21 h)
        · rw [if_neg c24] at h
          exact hF21.trans (ih_4 hG21 h)
theorem fp_X12_lowerOf {a1 : Int32} {μ μ' : sh_Mem} {v : Int32} (hG : sh_G μ) (h : f_X12_lowerOf a1 μ = some (v, μ')) : sh_offX μ μ' := by
  have ih_4 := (fpl_X12_lowerOf sh_fuel)
  have hF : sh_offX μ μ := sh_offX.rf
  unfold f_X12_lowerOf at h
  exact hF.trans (ih_4 hG h)
theorem fpl_X12_pond (fuel : Nat) : (∀ ⦃i1 : Int32⦄ ⦃i2 : Int32⦄ ⦃i3 : Int32⦄ ⦃i4 : Int32⦄ ⦃μ μ' : sh_Mem⦄ ⦃v : Int32⦄, sh_G μ → F_X12_pond fuel 1 i1 i2 i3 i4 μ = some (v, μ') → sh_offX μ μ') := by
  induction fuel with
  | zero => intro i1 i2 i3 i4 μ μ' v hG h; cases h
  | succ fuel ih =>
    have ih_21 := ih
    intro i1 i2 i3 i4 μ μ' v hG h
    replace h : ((if i4 = i3 then sh_bind (f_X12_numberOf i3 μ) (fun y18 μ16 => some (y18, μ16)) else sh_bind (f_X12_lowerOf i4 μ) (fun y21 μ19 => F_X12_pond fuel 1 i1 i2 i4 y21 μ19)) : Option (Int32 × sh_Mem)) = some (v, μ') := h
    have hF : sh_offX μ μ := sh_offX.rf
    by_cases c15 : i4 = i3
    · rw [if_pos c15] at h
      obtain ⟨y18, μ16, hr17, h⟩ := sh_bind_e h
      have hG16 := gp_X12_numberOf hG hr17
      have hF16 := hF.trans (fp_X12_numberOf hG hr17)
      obtain ⟨e1, e2⟩ := sh_some2 h
      exact e2 ▸ hF16
    · rw [if_neg c15] at h
      obtain ⟨y21, μ19, hr20, h⟩ := sh_bind_e h
      have hG19 := gp_X12_lowerOf hG hr20
      have hF19 := hF.trans (fp_X12_lowerOf hG hr20)
      exact hF19.trans (ih_21 hG19 h)
theorem fp_X12_pond {a1 : Int32} {a2 : Int32} {μ μ' : sh_Mem} {v : Int32} (hG : sh_G μ) (h : f_X12_pond a1 a2 μ = some (v, μ')) : sh_offX μ μ' := by
  have ih_21 := (fpl_X12_pond sh_fuel)
  have hF : sh_offX μ μ := sh_offX.rf
  unfold f_X12_pond at h
  obtain ⟨y24, μ22, hr23, h⟩ := sh_bind_e h
  have hG22 := gp_X12_cellAt hG hr23
  have hF22 := hF.trans (fp_X12_cellAt hG hr23)
  by_cases c25 : y24 = (-1)
  · rw [if_pos c25] at h
    obtain ⟨e1, e2⟩ := sh_some2 h
    exact e2 ▸ hF22
  · rw [if_neg c25] at h
    obtain ⟨y28, μ26, hr27, h⟩ := sh_bind_e h
    have hG26 := gp_X12_lowerOf hG22 hr27
    have hF26 := hF22.trans (fp_X12_lowerOf hG22 hr27)
    exact hF26.trans (ih_21 hG26 h)
theorem fpl_X12_isRest (fuel : Nat) : (∀ ⦃i1 : Int32⦄ ⦃i2 : Int32⦄ ⦃μ μ' : sh_Mem⦄ ⦃v : Int32⦄, sh_G μ → F_X12_isRest fuel 1 i1 i2 μ = some (v, μ') → sh_offX μ μ') := by
  induction fuel with
  | zero => intro i1 i2 μ μ' v hG h; cases h
  | succ fuel ih =>
    have ih_2 := ih
    intro i1 i2 μ μ' v hG h
    replace h : (sh_bind (f_X12_personMany μ) (fun y10 μ8 => (if y10 ≤ i2 then some (1, μ8) else (if sh_in ((7 * (i1 ^^^ ((1 : Int32) <<< (i2 &&& 31)))) + i2) 896 then (if sh_in ((7 * i1) + i2) 896 then (if (sh_i μ8 337 (((7 * (i1 ^^^ ((1 : Int32) <<< (i2 &&& 31)))) + i2)).toNatClampNeg) ≤ (sh_i μ8 337 (((7 * i1) + i2)).toNatClampNeg) then F_X12_isRest fuel 1 i1 (i2 + 1) μ8 else some (0, μ8)) else none) else none))) : Option (Int32 × sh_Mem)) = some (v, μ') := h
    have hF : sh_offX μ μ := sh_offX.rf
    obtain ⟨y10, μ8, hr9, h⟩ := sh_bind_e h
    have hG8 := gp_X12_personMany hG hr9
    have hF8 := hF.trans (fp_X12_personMany hG hr9)
    by_cases c11 : y10 ≤ i2
    · rw [if_pos c11] at h
      obtain ⟨e1, e2⟩ := sh_some2 h
      exact e2 ▸ hF8
    · rw [if_neg c11] at h
      obtain ⟨k12, h⟩ := sh_chk h
      obtain ⟨k13, h⟩ := sh_chk h
      by_cases c14 : (sh_i μ8 337 (((7 * (i1 ^^^ ((1 : Int32) <<< (i2 &&& 31)))) + i2)).toNatClampNeg) ≤ (sh_i μ8 337 (((7 * i1) + i2)).toNatClampNeg)
      · rw [if_pos c14] at h
        exact hF8.trans (ih_2 hG8 h)
      · rw [if_neg c14] at h
        obtain ⟨e1, e2⟩ := sh_some2 h
        exact e2 ▸ hF8
theorem fp_X12_isRest {a1 : Int32} {μ μ' : sh_Mem} {v : Int32} (hG : sh_G μ) (h : f_X12_isRest a1 μ = some (v, μ')) : sh_offX μ μ' := by
  have ih_2 := (fpl_X12_isRest sh_fuel)
  have hF : sh_offX μ μ := sh_offX.rf
  unfold f_X12_isRest at h
  exact hF.trans (ih_2 hG h)
theorem fp_X12_refuses {a1 : Int32} {μ μ' : sh_Mem} {v : Int32} (hG : sh_G μ) (h : f_X12_refuses a1 μ = some (v, μ')) : sh_offX μ μ' := by
  have hF : sh_offX μ μ := sh_offX.rf
  unfold f_X12_refuses at h
  obtain ⟨k1, h⟩ := sh_chk h
  obtain ⟨k2, h⟩ := sh_chk h
  obtain ⟨μ3, eμ3⟩ : ∃ y : sh_Mem, y = (sh_setI μ 293 a1.toNatClampNeg ((sh_i μ 293 a1.toNatClampNeg) + 1)) := ⟨_, rfl⟩
  rw [sh_let_eq eμ3] at h
  have hG3 : sh_G μ3 := by rw [eμ3]; exact hG
  have hF3 : sh_offX μ μ3 := by rw [eμ3]; exact sh_offX_I hF (by decide)
  obtain ⟨e1, e2⟩ := sh_some2 h
  exact e2 ▸ hF3
theorem fpl_X12_see (fuel : Nat) : (∀ ⦃i1 : Int32⦄ ⦃i2 : Int32⦄ ⦃i3 : Int32⦄ ⦃μ μ' : sh_Mem⦄ ⦃v : Int32⦄, sh_G μ → F_X12_see fuel 1 i1 i2 i3 μ = some (v, μ') → sh_offX μ μ') ∧ (∀ ⦃i1 : Int32⦄ ⦃i2 : Int32⦄ ⦃i3 : Int32⦄ ⦃μ μ' : sh_Mem⦄ ⦃v : Int32⦄, sh_G μ → F_X12_see fuel 2 i1 i2 i3 μ = some (v, μ') → sh_offX μ μ') := by
  induction fuel with
  | zero => exact ⟨(by intro i1 i2 i3 μ μ' v hG h; cases h), (by intro i1 i2 i3 μ μ' v hG h; cases h)⟩
  | succ fuel ih =>
    obtain ⟨ih_36, ih_124⟩ := ih
    refine ⟨?_, ?_⟩
    · intro i1 i2 i3 μ μ' v hG h
      replace h : ((if i1 ≤ i3 then (if i2 = 0 then sh_bind (f_X12_refuses 1 μ) (fun y83 μ81 => some (y83, μ81)) else sh_let (sh_setI μ 291 71 (i1 / 4)) (fun μ80 => F_X12_see fuel 2 i1 i2 0 μ80)) else (if i2 = 0 then (if i2 = 0 then sh_bind (f_X12_refuses 1 μ) (fun y89 μ87 => some (y89, μ87)) else sh_let (sh_setI μ 291 71 (i1 / 4)) (fun μ86 => F_X12_see fuel 2 i1 i2 0 μ86)) else (if sh_in i3 1600 then (if 30 < (sh_i μ 292 i3.toNatClampNeg) then F_X12_see fuel 1 i1 0 (i3 + 4) μ else (if sh_in (i3 + 1) 1600 then (if sh_in (i3 + 2) 1600 then sh_bind (f_X12_cellAt (sh_i μ 292 ((i3 + 1)).toNatClampNeg) (sh_i μ 292 ((i3 + 2)).toNatClampNeg) μ) (fun y96 μ94 => (if y96 = (-1) then F_X12_see fuel 1 i1 0 (i3 + 4) μ94 else (if sh_in (i3 + 3) 1600 then (if 99 < (sh_i μ94 292 ((i3 + 3)).toNatClampNeg) then F_X12_see fuel 1 i1 0 (i3 + 4) μ94 else F_X12_see fuel 1 i1 1 (i3 + 4) μ94) else none))) else none) else none)) else none))) : Option (Int32 × sh_Mem)) = some (v, μ') := h
      have hF : sh_offX μ μ := sh_offX.rf
      by_cases c78 : i1 ≤ i3
      · rw [if_pos c78] at h
        by_cases c79 : i2 = 0
        · rw [if_pos c79] at h
          obtain ⟨y83, μ81, hr82, h⟩ := sh_bind_e h
          have hG81 := gp_X12_refuses hG hr82
          have hF81 := hF.trans (fp_X12_refuses hG hr82)
          obtain ⟨e1, e2⟩ := sh_some2 h
          exact e2 ▸ hF81
        · rw [if_neg c79] at h
          obtain ⟨μ80, eμ80⟩ : ∃ y : sh_Mem, y = (sh_setI μ 291 71 (i1 / 4)) := ⟨_, rfl⟩
          rw [sh_let_eq eμ80] at h
          have hG80 : sh_G μ80 := by rw [eμ80]; exact hG
          have hF80 : sh_offX μ μ80 := by rw [eμ80]; exact sh_offX_I hF (by decide)
          exact hF80.trans (ih_124 hG80 h)
      · rw [if_neg c78] at h
        by_cases c84 : i2 = 0
        · rw [if_pos c84] at h
          by_cases c85 : i2 = 0
          · rw [if_pos c85] at h
            obtain ⟨y89, μ87, hr88, h⟩ := sh_bind_e h
            have hG87 := gp_X12_refuses hG hr88
            have hF87 := hF.trans (fp_X12_refuses hG hr88)
            obtain ⟨e1, e2⟩ := sh_some2 h
            exact e2 ▸ hF87
          · rw [if_neg c85] at h
            obtain ⟨μ86, eμ86⟩ : ∃ y : sh_Mem, y = (sh_setI μ 291 71 (i1 / 4)) := ⟨_, rfl⟩
            rw [sh_let_eq eμ86] at h
            have hG86 : sh_G μ86 := by rw [eμ86]; exact hG
            have hF86 : sh_offX μ μ86 := by rw [eμ86]; exact sh_offX_I hF (by decide)
            exact hF86.trans (ih_124 hG86 h)
        · rw [if_neg c84] at h
          obtain ⟨k90, h⟩ := sh_chk h
          by_cases c91 : 30 < (sh_i μ 292 i3.toNatClampNeg)
          · rw [if_pos c91] at h
            exact hF.trans (ih_36 hG h)
          · rw [if_neg c91] at h
            obtain ⟨k92, h⟩ := sh_chk h
            obtain ⟨k93, h⟩ := sh_chk h
            obtain ⟨y96, μ94, hr95, h⟩ := sh_bind_e h
            have hG94 := gp_X12_cellAt hG hr95
            have hF94 := hF.trans (fp_X12_cellAt hG hr95)
            by_cases c97 : y96 = (-1)
            · rw [if_pos c97] at h
              exact hF94.trans (ih_36 hG94 h)
            · rw [if_neg c97] at h
              obtain ⟨k98, h⟩ := sh_chk h
              by_cases c99 : 99 < (sh_i μ94 292 ((i3 + 3)).toNatClampNeg)
              · rw [if_pos c99] at h
                exact hF94.trans (ih_36 hG94 h)
              · rw [if_neg c99] at h
                exact hF94.trans (ih_36 hG94 h)
    · intro i1 i2 i3 μ μ' v hG h
      replace h : ((if (sh_i μ 291 71) ≤ i3 then some ((sh_i μ 291 71), μ) else (if sh_in (4 * i3) 1600 then (if sh_in (3 * i3) 48 then sh_let (sh_setI μ 338 ((3 * i3)).toNatClampNeg (sh_i μ 292 ((4 * i3)).toNatClampNeg)) (fun μ103 => (if sh_in ((4 * i3) + 1) 1600 then (if sh_in ((4 * i3) + 2) 1600 then sh_bind (f_X12_cellAt (sh_i μ103 292 (((4 * i3) + 1)).toNatClampNeg) (sh_i μ103 292 (((4 * i3) + 2)).toNatClampNeg) μ103) (fun y108 μ106 => (if sh_in ((3 * i3) + 1) 48 then sh_let (sh_setI μ106 338 (((3 * i3) + 1)).toNatClampNeg y108) (fun μ110 => (if sh_in ((4 * i3) + 3) 1600 then (if sh_in ((3 * i3) + 2) 48 then sh_let (sh_setI μ110 338 (((3 * i3) + 2)).toNatClampNeg (sh_i μ110 292 (((4 * i3) + 3)).toNatClampNeg)) (fun μ113 => F_X12_see fuel 2 i1 i2 (i3 + 1) μ113) else none) else none)) else none)) else none) else none)) else none) else none)) : Option (Int32 × sh_Mem)) = some (v, μ') := h
      have hF : sh_offX μ μ := sh_offX.rf
      by_cases c100 : (sh_i μ 291 71) ≤ i3
      · rw [if_pos c100] at h
        obtain ⟨e1, e2⟩ := sh_some2 h
        exact e2 ▸ hF
      · rw [if_neg c100] at h
        obtain ⟨k101, h⟩ := sh_chk h
        obtain ⟨k102, h⟩ := sh_chk h
        obtain ⟨μ103, eμ103⟩ : ∃ y : sh_Mem, y = (sh_setI μ 338 ((3 * i3)).toNatClampNeg (sh_i μ 292 ((4 * i3)).toNatClampNeg)) := ⟨_, rfl⟩
        rw [sh_let_eq eμ103] at h
        have hG103 : sh_G μ103 := by rw [eμ103]; exact hG
        have hF103 : sh_offX μ μ103 := by rw [eμ103]; exact sh_offX_I hF (by decide)
        obtain ⟨k104, h⟩ := sh_chk h
        obtain ⟨k105, h⟩ := sh_chk h
        obtain ⟨y108, μ106, hr107, h⟩ := sh_bind_e h
        have hG106 := gp_X12_cellAt hG103 hr107
        have hF106 := hF103.trans (fp_X12_cellAt hG103 hr107)
        obtain ⟨k109, h⟩ := sh_chk h
        obtain ⟨μ110, eμ110⟩ : ∃ y : sh_Mem, y = (sh_setI μ106 338 (((3 * i3) + 1)).toNatClampNeg y108) := ⟨_, rfl⟩
        rw [sh_let_eq eμ110] at h
        have hG110 : sh_G μ110 := by rw [eμ110]; exact hG106
        have hF110 : sh_offX μ μ110 := by rw [eμ110]; exact sh_offX_I hF106 (by decide)
        obtain ⟨k111, h⟩ := sh_chk h
        obtain ⟨k112, h⟩ := sh_chk h
        obtain ⟨μ113, eμ113⟩ : ∃ y : sh_Mem, y = (sh_setI μ110 338 (((3 * i3) + 2)).toNatClampNeg (sh_i μ110 292 (((4 * i3) + 3)).toNatClampNeg)) := ⟨_, rfl⟩
        rw [sh_let_eq eμ113] at h
        have hG113 : sh_G μ113 := by rw [eμ113]; exact hG110
        have hF113 : sh_offX μ μ113 := by rw [eμ113]; exact sh_offX_I hF110 (by decide)
        exact hF113.trans (ih_124 hG113 h)
theorem fp_X12_see {μ μ' : sh_Mem} {v : Int32} (hG : sh_G μ) (h : f_X12_see μ = some (v, μ')) : sh_offX μ μ' := by
  have ih_36 := (fpl_X12_see sh_fuel).1
  have ih_124 := (fpl_X12_see sh_fuel).2
  have hF : sh_offX μ μ := sh_offX.rf
  unfold f_X12_see at h
  obtain ⟨x114, ex114⟩ : ∃ y : Int32, y = (sh_i μ 291 1) := ⟨_, rfl⟩
  rw [sh_let_eq ex114] at h
  obtain ⟨μ115, eμ115⟩ : ∃ y : sh_Mem, y = (sh_setI μ 291 1 0) := ⟨_, rfl⟩
  rw [sh_let_eq eμ115] at h
  have hG115 : sh_G μ115 := by rw [eμ115]; exact hG
  have hF115 : sh_offX μ μ115 := by rw [eμ115]; exact sh_offX_I hF (by decide)
  by_cases c116 : x114 ≤ 0
  · rw [if_pos c116] at h
    exact hF115.trans (ih_36 hG115 h)
  · rw [if_neg c116] at h
    by_cases c117 : (x114 - x114 / 4 * 4) = 0
    · rw [if_pos c117] at h
      by_cases c118 : 16 < (x114 / 4)
      · rw [if_pos c118] at h
        exact hF115.trans (ih_36 hG115 h)
      · rw [if_neg c118] at h
        exact hF115.trans (ih_36 hG115 h)
    · rw [if_neg c117] at h
      exact hF115.trans (ih_36 hG115 h)
theorem fpl_X12_isAsSeen (fuel : Nat) : (∀ ⦃i1 : Int32⦄ ⦃i2 : Int32⦄ ⦃μ μ' : sh_Mem⦄ ⦃v : Int32⦄, sh_G μ → F_X12_isAsSeen fuel 1 i1 i2 μ = some (v, μ') → sh_offX μ μ') := by
  induction fuel with
  | zero => intro i1 i2 μ μ' v hG h; cases h
  | succ fuel ih =>
    have ih_2 := ih
    intro i1 i2 μ μ' v hG h
    replace h : ((if (sh_i μ 291 71) ≤ i2 then some (1, μ) else (if sh_in (3 * i2) 48 then (if (sh_i μ 338 ((3 * i2)).toNatClampNeg) = i1 then (if 999 < (sh_i μ 330 (Int32.toNatClampNeg 0)) then some (0, μ) else (if sh_in ((3 * i2) + 1) 48 then sh_bind (f_X12_heightOf (sh_i μ 338 (((3 * i2) + 1)).toNatClampNeg) μ) (fun y18 μ16 => (if sh_in ((3 * i2) + 2) 48 then (if y18 = (sh_i μ16 338 (((3 * i2) + 2)).toNatClampNeg) then F_X12_isAsSeen fuel 1 i1 (i2 + 1) μ16 else some (0, μ16)) else none)) else none)) else F_X12_isAsSeen fuel 1 i1 (i2 + 1) μ) else none)) : Option (Int32 × sh_Mem)) = some (v, μ') := h
    have hF : sh_offX μ μ := sh_offX.rf
    by_cases c11 : (sh_i μ 291 71) ≤ i2
    · rw [if_pos c11] at h
      obtain ⟨e1, e2⟩ := sh_some2 h
      exact e2 ▸ hF
    · rw [if_neg c11] at h
      obtain ⟨k12, h⟩ := sh_chk h
      by_cases c13 : (sh_i μ 338 ((3 * i2)).toNatClampNeg) = i1
      · rw [if_pos c13] at h
        by_cases c14 : 999 < (sh_i μ 330 (Int32.toNatClampNeg 0))
        · rw [if_pos c14] at h
          obtain ⟨e1, e2⟩ := sh_some2 h
          exact e2 ▸ hF
        · rw [if_neg c14] at h
          obtain ⟨k15, h⟩ := sh_chk h
          obtain ⟨y18, μ16, hr17, h⟩ := sh_bind_e h
          have hG16 := gp_X12_heightOf hG hr17
          have hF16 := hF.trans (fp_X12_heightOf hG hr17)
          obtain ⟨k19, h⟩ := sh_chk h
          by_cases c20 : y18 = (sh_i μ16 338 (((3 * i2) + 2)).toNatClampNeg)
          · rw [if_pos c20] at h
            exact hF16.trans (ih_2 hG16 h)
          · rw [if_neg c20] at h
            obtain ⟨e1, e2⟩ := sh_some2 h
            exact e2 ▸ hF16
      · rw [if_neg c13] at h
        exact hF.trans (ih_2 hG h)
theorem fp_X12_isAsSeen {a1 : Int32} {μ μ' : sh_Mem} {v : Int32} (hG : sh_G μ) (h : f_X12_isAsSeen a1 μ = some (v, μ')) : sh_offX μ μ' := by
  have ih_2 := (fpl_X12_isAsSeen sh_fuel)
  have hF : sh_offX μ μ := sh_offX.rf
  unfold f_X12_isAsSeen at h
  exact hF.trans (ih_2 hG h)
theorem fpl_X12_mostAlike (fuel : Nat) : (∀ ⦃i1 : Int32⦄ ⦃i2 : Int32⦄ ⦃i3 : Int32⦄ ⦃i4 : Int32⦄ ⦃i5 : Int32⦄ ⦃μ μ' : sh_Mem⦄ ⦃v : Int32⦄, sh_G μ → F_X12_mostAlike fuel 1 i1 i2 i3 i4 i5 μ = some (v, μ') → sh_offX μ μ') ∧ (∀ ⦃i1 : Int32⦄ ⦃i2 : Int32⦄ ⦃i3 : Int32⦄ ⦃i4 : Int32⦄ ⦃i5 : Int32⦄ ⦃μ μ' : sh_Mem⦄ ⦃v : Int32⦄, sh_G μ → F_X12_mostAlike fuel 2 i1 i2 i3 i4 i5 μ = some (v, μ') → sh_offX μ μ') := by
  induction fuel with
  | zero => exact ⟨(by intro i1 i2 i3 i4 i5 μ μ' v hG h; cases h), (by intro i1 i2 i3 i4 i5 μ μ' v hG h; cases h)⟩
  | succ fuel ih =>
    obtain ⟨ih_4, ih_32⟩ := ih
    refine ⟨?_, ?_⟩
    · intro i1 i2 i3 i4 i5 μ μ' v hG h
      replace h : (sh_bind (f_X12_personMany μ) (fun y31 μ29 => (if y31 ≤ i3 then some (i2, μ29) else (if (((sh_i μ29 291 74) >>> (i3 &&& 31)) &&& 1) = 0 then F_X12_mostAlike fuel 1 i1 i2 (i3 + 1) 0 0 μ29 else F_X12_mostAlike fuel 2 i1 i2 i3 0 0 μ29))) : Option (Int32 × sh_Mem)) = some (v, μ') := h
      have hF : sh_offX μ μ := sh_offX.rf
      obtain ⟨y31, μ29, hr30, h⟩ := sh_bind_e h
      have hG29 := gp_X12_personMany hG hr30
      have hF29 := hF.trans (fp_X12_personMany hG hr30)
      by_cases c32 : y31 ≤ i3
      · rw [if_pos c32] at h
        obtain ⟨e1, e2⟩ := sh_some2 h
        exact e2 ▸ hF29
      · rw [if_neg c32] at h
        by_cases c33 : (((sh_i μ29 291 74) >>> (i3 &&& 31)) &&& 1) = 0
        · rw [if_pos c33] at h
          exact hF29.trans (ih_4 hG29 h)
        · rw [if_neg c33] at h
          exact hF29.trans (ih_32 hG29 h)
    · intro i1 i2 i3 i4 i5 μ μ' v hG h
      replace h : (sh_bind (f_X12_personMany μ) (fun y36 μ34 => (if y36 ≤ i5 then (if i4 ≤ i2 then F_X12_mostAlike fuel 1 i1 i2 (i3 + 1) 0 0 μ34 else F_X12_mostAlike fuel 1 i1 i4 (i3 + 1) 0 0 μ34) else (if (((sh_i μ34 291 74) >>> (i5 &&& 31)) &&& 1) = 1 then (if sh_in ((1519 * i3) + i1) 10633 then (if sh_in ((1519 * i5) + i1) 10633 then (if (sh_i μ34 339 (((1519 * i3) + i1)).toNatClampNeg) = (sh_i μ34 339 (((1519 * i5) + i1)).toNatClampNeg) then F_X12_mostAlike fuel 2 i1 i2 i3 (i4 + 1) (i5 + 1) μ34 else F_X12_mostAlike fuel 2 i1 i2 i3 i4 (i5 + 1) μ34) else none) else none) else F_X12_mostAlike fuel 2 i1 i2 i3 i4 (i5 + 1) μ34))) : Option (Int32 × sh_Mem)) = some (v, μ') := h
      have hF : sh_offX μ μ := sh_offX.rf
      obtain ⟨y36, μ34, hr35, h⟩ := sh_bind_e h
      have hG34 := gp_X12_personMany hG hr35
      have hF34 := hF.trans (fp_X12_personMany hG hr35)
      by_cases c37 : y36 ≤ i5
      · rw [if_pos c37] at h
        by_cases c38 : i4 ≤ i2
        · rw [if_pos c38] at h
          exact hF34.trans (ih_4 hG34 h)
        · rw [if_neg c38] at h
          exact hF34.trans (ih_4 hG34 h)
      · rw [if_neg c37] at h
        by_cases c39 : (((sh_i μ34 291 74) >>> (i5 &&& 31)) &&& 1) = 1
        · rw [if_pos c39] at h
          obtain ⟨k40, h⟩ := sh_chk h
          obtain ⟨k41, h⟩ := sh_chk h
          by_cases c42 : (sh_i μ34 339 (((1519 * i3) + i1)).toNatClampNeg) = (sh_i μ34 339 (((1519 * i5) + i1)).toNatClampNeg)
          · rw [if_pos c42] at h
            exact hF34.trans (ih_32 hG34 h)
          · rw [if_neg c42] at h
            exact hF34.trans (ih_32 hG34 h)
        · rw [if_neg c39] at h
          exact hF34.trans (ih_32 hG34 h)
theorem fp_X12_mostAlike {a1 : Int32} {μ μ' : sh_Mem} {v : Int32} (hG : sh_G μ) (h : f_X12_mostAlike a1 μ = some (v, μ')) : sh_offX μ μ' := by
  have ih_4 := (fpl_X12_mostAlike sh_fuel).1
  have ih_32 := (fpl_X12_mostAlike sh_fuel).2
  have hF : sh_offX μ μ := sh_offX.rf
  unfold f_X12_mostAlike at h
  exact hF.trans (ih_4 hG h)
theorem fpl_X12_stores (fuel : Nat) : (∀ ⦃i1 : Int32⦄ ⦃μ μ' : sh_Mem⦄, sh_G μ → F_X12_stores fuel 1 i1 μ = some μ' → sh_offX μ μ') := by
  induction fuel with
  | zero => intro i1 μ μ' hG h; cases h
  | succ fuel ih =>
    have ih_15 := ih
    intro i1 μ μ' hG h
    replace h : ((if 232 ≤ i1 then (if 20 ≤ (sh_i μ 291 76) then some μ else sh_let (sh_setI μ 291 76 ((sh_i μ 291 76) + 1)) (fun μ10 => some μ10)) else (if sh_in i1 232 then (if sh_in ((232 * (sh_i μ 291 77)) + i1) 4640 then sh_let (sh_setI μ 340 (((232 * (sh_i μ 291 77)) + i1)).toNatClampNeg (sh_i μ 330 i1.toNatClampNeg)) (fun μ13 => F_X12_stores fuel 1 (i1 + 1) μ13) else none) else none)) : Option sh_Mem) = some μ' := h
    have hF : sh_offX μ μ := sh_offX.rf
    by_cases c8 : 232 ≤ i1
    · rw [if_pos c8] at h
      by_cases c9 : 20 ≤ (sh_i μ 291 76)
      · rw [if_pos c9] at h
        have e2 := Option.some.inj h
        exact e2 ▸ hF
      · rw [if_neg c9] at h
        obtain ⟨μ10, eμ10⟩ : ∃ y : sh_Mem, y = (sh_setI μ 291 76 ((sh_i μ 291 76) + 1)) := ⟨_, rfl⟩
        rw [sh_let_eq eμ10] at h
        have hG10 : sh_G μ10 := by rw [eμ10]; exact hG
        have hF10 : sh_offX μ μ10 := by rw [eμ10]; exact sh_offX_I hF (by decide)
        have e2 := Option.some.inj h
        exact e2 ▸ hF10
    · rw [if_neg c8] at h
      obtain ⟨k11, h⟩ := sh_chk h
      obtain ⟨k12, h⟩ := sh_chk h
      obtain ⟨μ13, eμ13⟩ : ∃ y : sh_Mem, y = (sh_setI μ 340 (((232 * (sh_i μ 291 77)) + i1)).toNatClampNeg (sh_i μ 330 i1.toNatClampNeg)) := ⟨_, rfl⟩
      rw [sh_let_eq eμ13] at h
      have hG13 : sh_G μ13 := by rw [eμ13]; exact hG
      have hF13 : sh_offX μ μ13 := by rw [eμ13]; exact sh_offX_I hF (by decide)
      exact hF13.trans (ih_15 hG13 h)
theorem fp_X12_stores {μ μ' : sh_Mem} (hG : sh_G μ) (h : f_X12_stores μ = some μ') : sh_offX μ μ' := by
  have ih_15 := (fpl_X12_stores sh_fuel)
  have hF : sh_offX μ μ := sh_offX.rf
  unfold f_X12_stores at h
  obtain ⟨μ14, eμ14⟩ : ∃ y : sh_Mem, y = (sh_setI μ 291 77 (((sh_i μ 291 77) + 1) - ((sh_i μ 291 77) + 1) / 20 * 20)) := ⟨_, rfl⟩
  rw [sh_let_eq eμ14] at h
  have hG14 : sh_G μ14 := by rw [eμ14]; exact hG
  have hF14 : sh_offX μ μ14 := by rw [eμ14]; exact sh_offX_I hF (by decide)
  exact hF14.trans (ih_15 hG14 h)
theorem fpl_X12_undo (fuel : Nat) : (∀ ⦃i1 : Int32⦄ ⦃μ μ' : sh_Mem⦄ ⦃v : Int32⦄, sh_G μ → F_X12_undo fuel 1 i1 μ = some (v, μ') → sh_offX μ μ') := by
  induction fuel with
  | zero => intro i1 μ μ' v hG h; cases h
  | succ fuel ih =>
    have ih_21 := ih
    intro i1 μ μ' v hG h
    replace h : ((if 232 ≤ i1 then sh_let (sh_setI μ 291 77 ((((sh_i μ 291 77) + 20) - 1) - (((sh_i μ 291 77) + 20) - 1) / 20 * 20)) (fun μ10 => sh_let (sh_setI μ10 291 76 ((sh_i μ10 291 76) - 1)) (fun μ11 => some (1, μ11))) else (if sh_in ((232 * (sh_i μ 291 77)) + i1) 4640 then (if sh_in i1 232 then sh_let (sh_setI μ 330 i1.toNatClampNeg (sh_i μ 340 (((232 * (sh_i μ 291 77)) + i1)).toNatClampNeg)) (fun μ14 => F_X12_undo fuel 1 (i1 + 1) μ14) else none) else none)) : Option (Int32 × sh_Mem)) = some (v, μ') := h
    have hF : sh_offX μ μ := sh_offX.rf
    by_cases c9 : 232 ≤ i1
    · rw [if_pos c9] at h
      obtain ⟨μ10, eμ10⟩ : ∃ y : sh_Mem, y = (sh_setI μ 291 77 ((((sh_i μ 291 77) + 20) - 1) - (((sh_i μ 291 77) + 20) - 1) / 20 * 20)) := ⟨_, rfl⟩
      rw [sh_let_eq eμ10] at h
      have hG10 : sh_G μ10 := by rw [eμ10]; exact hG
      have hF10 : sh_offX μ μ10 := by rw [eμ10]; exact sh_offX_I hF (by decide)
      obtain ⟨μ11, eμ11⟩ : ∃ y : sh_Mem, y = (sh_setI μ10 291 76 ((sh_i μ10 291 76) - 1)) := ⟨_, rfl⟩
      rw [sh_let_eq eμ11] at h
      have hG11 : sh_G μ11 := by rw [eμ11]; exact hG10
      have hF11 : sh_offX μ μ11 := by rw [eμ11]; exact sh_offX_I hF10 (by decide)
      obtain ⟨e1, e2⟩ := sh_some2 h
      exact e2 ▸ hF11
    · rw [if_neg c9] at h
      obtain ⟨k12, h⟩ := sh_chk h
      obtain ⟨k13, h⟩ := sh_chk h
      obtain ⟨μ14, eμ14⟩ : ∃ y : sh_Mem, y = (sh_setI μ 330 i1.toNatClampNeg (sh_i μ 340 (((232 * (sh_i μ 291 77)) + i1)).toNatClampNeg)) := ⟨_, rfl⟩
      rw [sh_let_eq eμ14] at h
      have hG14 : sh_G μ14 := by rw [eμ14]; exact hG
      have hF14 : sh_offX μ μ14 := by rw [eμ14]; exact sh_offX_I hF (by decide)
      exact hF14.trans (ih_21 hG14 h)
theorem fp_X12_undo {μ μ' : sh_Mem} {v : Int32} (hG : sh_G μ) (h : f_X12_undo μ = some (v, μ')) : sh_offX μ μ' := by
  have ih_21 := (fpl_X12_undo sh_fuel)
  have hF : sh_offX μ μ := sh_offX.rf
  unfold f_X12_undo at h
  by_cases c15 : (sh_i μ 291 76) = 0
  · rw [if_pos c15] at h
    obtain ⟨μ16, eμ16⟩ : ∃ y : sh_Mem, y = (sh_setI μ 293 (Int32.toNatClampNeg 4) ((sh_i μ 293 (Int32.toNatClampNeg 4)) + 1)) := ⟨_, rfl⟩
    rw [sh_let_eq eμ16] at h
    have hG16 : sh_G μ16 := by rw [eμ16]; exact hG
    have hF16 : sh_offX μ μ16 := by rw [eμ16]; exact sh_offX_I hF (by decide)
    obtain ⟨e1, e2⟩ := sh_some2 h
    exact e2 ▸ hF16
  · rw [if_neg c15] at h
    exact hF.trans (ih_21 hG h)
theorem fp_X12_isRefused {μ μ' : sh_Mem} {v : Int32} (hG : sh_G μ) (h : f_X12_isRefused μ = some (v, μ')) : sh_offX μ μ' := by
  have hF : sh_offX μ μ := sh_offX.rf
  unfold f_X12_isRefused at h
  obtain ⟨μ1, eμ1⟩ : ∃ y : sh_Mem, y = (sh_setI μ 293 (Int32.toNatClampNeg 2) ((sh_i μ 293 (Int32.toNatClampNeg 2)) + 1)) := ⟨_, rfl⟩
  rw [sh_let_eq eμ1] at h
  have hG1 : sh_G μ1 := by rw [eμ1]; exact hG
  have hF1 : sh_offX μ μ1 := by rw [eμ1]; exact sh_offX_I hF (by decide)
  obtain ⟨e1, e2⟩ := sh_some2 h
  exact e2 ▸ hF1
theorem fp_X12_teach {a1 : Int32} {a2 : Int32} {a3 : Int32} {μ μ' : sh_Mem} {v : Int32} (hG : sh_G μ) (h : f_X12_teach a1 a2 a3 μ = some (v, μ')) : sh_offX μ μ' := by
  have hF : sh_offX μ μ := sh_offX.rf
  unfold f_X12_teach at h
  obtain ⟨y3, μ1, hr2, h⟩ := sh_bind_e h
  have hG1 := gp_X12_isPerson hG hr2
  have hF1 := hF.trans (fp_X12_isPerson hG hr2)
  by_cases c4 : y3 = 0
  · rw [if_pos c4] at h
    obtain ⟨y7, μ5, hr6, h⟩ := sh_bind_e h
    have hG5 := gp_X12_isRefused hG1 hr6
    have hF5 := hF1.trans (fp_X12_isRefused hG1 hr6)
    obtain ⟨k8, h⟩ := sh_chk h
    obtain ⟨e1, e2⟩ := sh_some2 h
    exact e2 ▸ hF5
  · rw [if_neg c4] at h
    obtain ⟨y11, μ9, hr10, h⟩ := sh_bind_e h
    have hG9 := gp_X12_isTopic hG1 hr10
    have hF9 := hF1.trans (fp_X12_isTopic hG1 hr10)
    by_cases c12 : y11 = 0
    · rw [if_pos c12] at h
      obtain ⟨y15, μ13, hr14, h⟩ := sh_bind_e h
      have hG13 := gp_X12_isRefused hG9 hr14
      have hF13 := hF9.trans (fp_X12_isRefused hG9 hr14)
      obtain ⟨k16, h⟩ := sh_chk h
      obtain ⟨e1, e2⟩ := sh_some2 h
      exact e2 ▸ hF13
    · rw [if_neg c12] at h
      by_cases c17 : (f_X12_isIn μ9 (a3).toInt64 0 1) = 0
      · rw [if_pos c17] at h
        obtain ⟨y20, μ18, hr19, h⟩ := sh_bind_e h
        have hG18 := gp_X12_isRefused hG9 hr19
        have hF18 := hF9.trans (fp_X12_isRefused hG9 hr19)
        obtain ⟨k21, h⟩ := sh_chk h
        obtain ⟨e1, e2⟩ := sh_some2 h
        exact e2 ▸ hF18
      · rw [if_neg c17] at h
        obtain ⟨y24, μ22, hr23, h⟩ := sh_bind_e h
        have hG22 := gp_X12_knowsOf hG9 hr23
        have hF22 := hF9.trans (fp_X12_knowsOf hG9 hr23)
        by_cases c25 : ((y24 >>> (a2 &&& 31)) &&& 1) = a3
        · rw [if_pos c25] at h
          obtain ⟨y34, μ32, hr33, h⟩ := sh_bind_e h
          have hG32 := gp_X12_isRefused hG22 hr33
          have hF32 := hF22.trans (fp_X12_isRefused hG22 hr33)
          obtain ⟨k35, h⟩ := sh_chk h
          obtain ⟨e1, e2⟩ := sh_some2 h
          exact e2 ▸ hF32
        · rw [if_neg c25] at h
          obtain ⟨μ26, hr27, h⟩ := sh_bindv_e h
          have hG26 := gp_X12_stores hG22 hr27
          have hF26 := hF22.trans (fp_X12_stores hG22 hr27)
          obtain ⟨k29, h⟩ := sh_chk h
          obtain ⟨k30, h⟩ := sh_chk h
          obtain ⟨μ31, eμ31⟩ : ∃ y : sh_Mem, y = (sh_setI μ26 330 ((52 + (3 * a1))).toNatClampNeg ((sh_i μ26 330 ((52 + (3 * a1))).toNatClampNeg) ^^^ ((1 : Int32) <<< (a2 &&& 31)))) := ⟨_, rfl⟩
          rw [sh_let_eq eμ31] at h
          have hG31 : sh_G μ31 := by rw [eμ31]; exact hG26
          have hF31 : sh_offX μ μ31 := by rw [eμ31]; exact sh_offX_I hF26 (by decide)
          obtain ⟨e1, e2⟩ := sh_some2 h
          exact e2 ▸ hF31
theorem fp_X12_go {a1 : Int32} {a2 : Int32} {a3 : Int32} {μ μ' : sh_Mem} {v : Int32} (hG : sh_G μ) (h : f_X12_go a1 a2 a3 μ = some (v, μ')) : sh_offX μ μ' := by
  have hF : sh_offX μ μ := sh_offX.rf
  unfold f_X12_go at h
  obtain ⟨y3, μ1, hr2, h⟩ := sh_bind_e h
  have hG1 := gp_X12_cellAt hG hr2
  have hF1 := hF.trans (fp_X12_cellAt hG hr2)
  by_cases c4 : y3 = (-1)
  · rw [if_pos c4] at h
    obtain ⟨y7, μ5, hr6, h⟩ := sh_bind_e h
    have hG5 := gp_X12_isRefused hG1 hr6
    have hF5 := hF1.trans (fp_X12_isRefused hG1 hr6)
    obtain ⟨k8, h⟩ := sh_chk h
    obtain ⟨e1, e2⟩ := sh_some2 h
    exact e2 ▸ hF5
  · rw [if_neg c4] at h
    obtain ⟨y11, μ9, hr10, h⟩ := sh_bind_e h
    have hG9 := gp_X12_isPerson hG1 hr10
    have hF9 := hF1.trans (fp_X12_isPerson hG1 hr10)
    by_cases c12 : y11 = 0
    · rw [if_pos c12] at h
      obtain ⟨y15, μ13, hr14, h⟩ := sh_bind_e h
      have hG13 := gp_X12_isRefused hG9 hr14
      have hF13 := hF9.trans (fp_X12_isRefused hG9 hr14)
      obtain ⟨k16, h⟩ := sh_chk h
      obtain ⟨e1, e2⟩ := sh_some2 h
      exact e2 ▸ hF13
    · rw [if_neg c12] at h
      obtain ⟨y19, μ17, hr18, h⟩ := sh_bind_e h
      have hG17 := gp_X12_isTaken hG9 hr18
      have hF17 := hF9.trans (fp_X12_isTaken hG9 hr18)
      by_cases c20 : y19 = 0
      · rw [if_pos c20] at h
        obtain ⟨μ21, hr22, h⟩ := sh_bindv_e h
        have hG21 := gp_X12_stores hG17 hr22
        have hF21 := hF17.trans (fp_X12_stores hG17 hr22)
        obtain ⟨k24, h⟩ := sh_chk h
        obtain ⟨μ25, eμ25⟩ : ∃ y : sh_Mem, y = (sh_setI μ21 330 ((50 + (3 * a1))).toNatClampNeg y3) := ⟨_, rfl⟩
        rw [sh_let_eq eμ25] at h
        have hG25 : sh_G μ25 := by rw [eμ25]; exact hG21
        have hF25 : sh_offX μ μ25 := by rw [eμ25]; exact sh_offX_I hF21 (by decide)
        obtain ⟨e1, e2⟩ := sh_some2 h
        exact e2 ▸ hF25
      · rw [if_neg c20] at h
        obtain ⟨y28, μ26, hr27, h⟩ := sh_bind_e h
        have hG26 := gp_X12_isRefused hG17 hr27
        have hF26 := hF17.trans (fp_X12_isRefused hG17 hr27)
        obtain ⟨k29, h⟩ := sh_chk h
        obtain ⟨e1, e2⟩ := sh_some2 h
        exact e2 ▸ hF26
theorem fp_X12_ease {a1 : Int32} {μ μ' : sh_Mem} {v : Int32} (hG : sh_G μ) (h : f_X12_ease a1 μ = some (v, μ')) : sh_offX μ μ' := by
  have hF : sh_offX μ μ := sh_offX.rf
  unfold f_X12_ease at h
  obtain ⟨y3, μ1, hr2, h⟩ := sh_bind_e h
  have hG1 := gp_X12_isPerson hG hr2
  have hF1 := hF.trans (fp_X12_isPerson hG hr2)
  by_cases c4 : y3 = 0
  · rw [if_pos c4] at h
    obtain ⟨y7, μ5, hr6, h⟩ := sh_bind_e h
    have hG5 := gp_X12_isRefused hG1 hr6
    have hF5 := hF1.trans (fp_X12_isRefused hG1 hr6)
    obtain ⟨k8, h⟩ := sh_chk h
    obtain ⟨e1, e2⟩ := sh_some2 h
    exact e2 ▸ hF5
  · rw [if_neg c4] at h
    obtain ⟨y11, μ9, hr10, h⟩ := sh_bind_e h
    have hG9 := gp_X12_tiredOf hG1 hr10
    have hF9 := hF1.trans (fp_X12_tiredOf hG1 hr10)
    by_cases c12 : y11 = 0
    · rw [if_pos c12] at h
      obtain ⟨y20, μ18, hr19, h⟩ := sh_bind_e h
      have hG18 := gp_X12_isRefused hG9 hr19
      have hF18 := hF9.trans (fp_X12_isRefused hG9 hr19)
      obtain ⟨k21, h⟩ := sh_chk h
      obtain ⟨e1, e2⟩ := sh_some2 h
      exact e2 ▸ hF18
    · rw [if_neg c12] at h
      obtain ⟨μ13, hr14, h⟩ := sh_bindv_e h
      have hG13 := gp_X12_stores hG9 hr14
      have hF13 := hF9.trans (fp_X12_stores hG9 hr14)
      obtain ⟨k16, h⟩ := sh_chk h
      obtain ⟨μ17, eμ17⟩ : ∃ y : sh_Mem, y = (sh_setI μ13 330 ((51 + (3 * a1))).toNatClampNeg 0) := ⟨_, rfl⟩
      rw [sh_let_eq eμ17] at h
      have hG17 : sh_G μ17 := by rw [eμ17]; exact hG13
      have hF17 : sh_offX μ μ17 := by rw [eμ17]; exact sh_offX_I hF13 (by decide)
      obtain ⟨e1, e2⟩ := sh_some2 h
      exact e2 ▸ hF17
theorem fp_X12_seed {a1 : Int32} {μ μ' : sh_Mem} {v : Int32} (hG : sh_G μ) (h : f_X12_seed a1 μ = some (v, μ')) : sh_offX μ μ' := by
  have hF : sh_offX μ μ := sh_offX.rf
  unfold f_X12_seed at h
  by_cases c1 : 0 ≤ a1
  · rw [if_pos c1] at h
    obtain ⟨μ2, eμ2⟩ : ∃ y : sh_Mem, y = (sh_setL μ 291 78 (a1).toInt64) := ⟨_, rfl⟩
    rw [sh_let_eq eμ2] at h
    have hG2 : sh_G μ2 := by rw [eμ2]; exact hG
    have hF2 : sh_offX μ μ2 := by rw [eμ2]; exact sh_offX_L hF (by decide)
    obtain ⟨e1, e2⟩ := sh_some2 h
    exact e2 ▸ hF2
  · rw [if_neg c1] at h
    obtain ⟨μ3, eμ3⟩ : ∃ y : sh_Mem, y = (sh_setI μ 293 (Int32.toNatClampNeg 5) ((sh_i μ 293 (Int32.toNatClampNeg 5)) + 1)) := ⟨_, rfl⟩
    rw [sh_let_eq eμ3] at h
    have hG3 : sh_G μ3 := by rw [eμ3]; exact hG
    have hF3 : sh_offX μ μ3 := by rw [eμ3]; exact sh_offX_I hF (by decide)
    obtain ⟨e1, e2⟩ := sh_some2 h
    exact e2 ▸ hF3
theorem fp_X12_drawOf {a1 : Int32} {μ μ' : sh_Mem} {v : Int32} (hG : sh_G μ) (h : f_X12_drawOf a1 μ = some (v, μ')) : sh_offX μ μ' := by
  have hF : sh_offX μ μ := sh_offX.rf
  unfold f_X12_drawOf at h
  obtain ⟨μ1, eμ1⟩ : ∃ y : sh_Mem, y = (sh_setL μ 291 78 (((1103515245 * (sh_l μ 291 78)) + 12345) - ((1103515245 * (sh_l μ 291 78)) + 12345) / 2147483648 * 2147483648)) := ⟨_, rfl⟩
  rw [sh_let_eq eμ1] at h
  have hG1 : sh_G μ1 := by rw [eμ1]; exact hG
  have hF1 : sh_offX μ μ1 := by rw [eμ1]; exact sh_offX_L hF (by decide)
  obtain ⟨k2, h⟩ := sh_chk h
  obtain ⟨e1, e2⟩ := sh_some2 h
  exact e2 ▸ hF1
theorem fp_X12_qCode {a1 : Int32} {μ μ' : sh_Mem} (hG : sh_G μ) (h : f_X12_qCode a1 μ = some μ') : sh_offX μ μ' := by
  have hF : sh_offX μ μ := sh_offX.rf
  unfold f_X12_qCode at h
  obtain ⟨k1, h⟩ := sh_chk h
  obtain ⟨μ2, eμ2⟩ : ∃ y : sh_Mem, y = (sh_setI μ 364 ((sh_i μ 291 103)).toNatClampNeg a1) := ⟨_, rfl⟩
  rw [sh_let_eq eμ2] at h
  have hG2 : sh_G μ2 := by rw [eμ2]; exact hG
  have hF2 : sh_offX μ μ2 := by rw [eμ2]; exact sh_offX_I hF (by decide)
  obtain ⟨μ3, eμ3⟩ : ∃ y : sh_Mem, y = (sh_setI μ2 291 103 ((sh_i μ2 291 103) + 1)) := ⟨_, rfl⟩
  rw [sh_let_eq eμ3] at h
  have hG3 : sh_G μ3 := by rw [eμ3]; exact hG2
  have hF3 : sh_offX μ μ3 := by rw [eμ3]; exact sh_offX_I hF2 (by decide)
  have e2 := Option.some.inj h
  exact e2 ▸ hF3
theorem fp_X12_qOpens {a1 : Int32} {a2 : Int32} {μ μ' : sh_Mem} (hG : sh_G μ) (h : f_X12_qOpens a1 a2 μ = some μ') : sh_offX μ μ' := by
  have hF : sh_offX μ μ := sh_offX.rf
  unfold f_X12_qOpens at h
  by_cases c1 : (sh_i μ 291 5) = 0
  · rw [if_pos c1] at h
    by_cases c2 : (sh_i μ 291 106) = 6
    · rw [if_pos c2] at h
      obtain ⟨μ7, hr8, h⟩ := sh_bindv_e h
      have hG7 := gp_X12_fail hG hr8
      have hF7 := hF.trans (fp_X12_fail hG hr8)
      have e2 := Option.some.inj h
      exact e2 ▸ hF7
    · rw [if_neg c2] at h
      obtain ⟨μ3, eμ3⟩ : ∃ y : sh_Mem, y = (sh_setI μ 291 106 ((sh_i μ 291 106) + 1)) := ⟨_, rfl⟩
      rw [sh_let_eq eμ3] at h
      have hG3 : sh_G μ3 := by rw [eμ3]; exact hG
      have hF3 : sh_offX μ μ3 := by rw [eμ3]; exact sh_offX_I hF (by decide)
      obtain ⟨k4, h⟩ := sh_chk h
      obtain ⟨μ5, eμ5⟩ : ∃ y : sh_Mem, y = (sh_setI μ3 365 ((sh_i μ3 291 105)).toNatClampNeg a1) := ⟨_, rfl⟩
      rw [sh_let_eq eμ5] at h
      have hG5 : sh_G μ5 := by rw [eμ5]; exact hG3
      have hF5 : sh_offX μ μ5 := by rw [eμ5]; exact sh_offX_I hF3 (by decide)
      obtain ⟨μ6, eμ6⟩ : ∃ y : sh_Mem, y = (sh_setI μ5 291 105 ((sh_i μ5 291 105) + 1)) := ⟨_, rfl⟩
      rw [sh_let_eq eμ6] at h
      have hG6 : sh_G μ6 := by rw [eμ6]; exact hG5
      have hF6 : sh_offX μ μ6 := by rw [eμ6]; exact sh_offX_I hF5 (by decide)
      have e2 := Option.some.inj h
      exact e2 ▸ hF6
  · rw [if_neg c1] at h
    have e2 := Option.some.inj h
    exact e2 ▸ hF
theorem fp_X12_qIsOn {a1 : Int32} {μ μ' : sh_Mem} {v : Int32} (hG : sh_G μ) (h : f_X12_qIsOn a1 μ = some (v, μ')) : sh_offX μ μ' := by
  have hF : sh_offX μ μ := sh_offX.rf
  unfold f_X12_qIsOn at h
  by_cases c1 : (sh_i μ 291 105) ≤ 0
  · rw [if_pos c1] at h
    obtain ⟨e1, e2⟩ := sh_some2 h
    exact e2 ▸ hF
  · rw [if_neg c1] at h
    obtain ⟨k2, h⟩ := sh_chk h
    by_cases c3 : (sh_i μ 365 (((sh_i μ 291 105) - 1)).toNatClampNeg) = a1
    · rw [if_pos c3] at h
      obtain ⟨e1, e2⟩ := sh_some2 h
      exact e2 ▸ hF
    · rw [if_neg c3] at h
      obtain ⟨e1, e2⟩ := sh_some2 h
      exact e2 ▸ hF
theorem fp_X12_qDrops {μ μ' : sh_Mem} (hG : sh_G μ) (h : f_X12_qDrops μ = some μ') : sh_offX μ μ' := by
  have hF : sh_offX μ μ := sh_offX.rf
  unfold f_X12_qDrops at h
  obtain ⟨μ1, eμ1⟩ : ∃ y : sh_Mem, y = (sh_setI μ 291 105 ((sh_i μ 291 105) - 1)) := ⟨_, rfl⟩
  rw [sh_let_eq eμ1] at h
  have hG1 : sh_G μ1 := by rw [eμ1]; exact hG
  have hF1 : sh_offX μ μ1 := by rw [eμ1]; exact sh_offX_I hF (by decide)
  obtain ⟨k2, h⟩ := sh_chk h
  obtain ⟨μ3, hr4, h⟩ := sh_bindv_e h
  have hG3 := gp_X12_qCode hG1 hr4
  have hF3 := hF1.trans (fp_X12_qCode hG1 hr4)
  have e2 := Option.some.inj h
  exact e2 ▸ hF3
theorem fpl_X12_qBracket (fuel : Nat) : (∀ ⦃i1 : Int32⦄ ⦃μ μ' : sh_Mem⦄ ⦃v : Int32⦄, sh_G μ → F_X12_qBracket fuel 1 i1 μ = some (v, μ') → sh_offX μ μ') := by
  induction fuel with
  | zero => intro i1 μ μ' v hG h; cases h
  | succ fuel ih =>
    have ih_7 := ih
    intro i1 μ μ' v hG h
    replace h : ((if i1 < (sh_i μ 291 107) then (if i1 < (sh_i μ 291 107) then some ((-1), μ) else (if sh_in i1 1700 then some ((sh_i μ 365 i1.toNatClampNeg), μ) else none)) else (if sh_in i1 1700 then (if (f_X12_qIsBracket μ (sh_i μ 365 i1.toNatClampNeg)) = 0 then F_X12_qBracket fuel 1 (i1 + (-1)) μ else (if i1 < (sh_i μ 291 107) then some ((-1), μ) else (if sh_in i1 1700 then some ((sh_i μ 365 i1.toNatClampNeg), μ) else none))) else none)) : Option (Int32 × sh_Mem)) = some (v, μ') := h
    have hF : sh_offX μ μ := sh_offX.rf
    by_cases c9 : i1 < (sh_i μ 291 107)
    · rw [if_pos c9] at h
      by_cases c10 : i1 < (sh_i μ 291 107)
      · rw [if_pos c10] at h
        obtain ⟨e1, e2⟩ := sh_some2 h
        exact e2 ▸ hF
      · rw [if_neg c10] at h
        obtain ⟨k11, h⟩ := sh_chk h
        obtain ⟨e1, e2⟩ := sh_some2 h
        exact e2 ▸ hF
    · rw [if_neg c9] at h
      obtain ⟨k12, h⟩ := sh_chk h
      by_cases c13 : (f_X12_qIsBracket μ (sh_i μ 365 i1.toNatClampNeg)) = 0
      · rw [if_pos c13] at h
        exact hF.trans (ih_7 hG h)
      · rw [if_neg c13] at h
        by_cases c14 : i1 < (sh_i μ 291 107)
        · rw [if_pos c14] at h
          obtain ⟨e1, e2⟩ := sh_some2 h
          exact e2 ▸ hF
        · rw [if_neg c14] at h
          obtain ⟨k15, h⟩ := sh_chk h
          obtain ⟨e1, e2⟩ := sh_some2 h
          exact e2 ▸ hF
theorem fp_X12_qBracket {μ μ' : sh_Mem} {v : Int32} (hG : sh_G μ) (h : f_X12_qBracket μ = some (v, μ')) : sh_offX μ μ' := by
  have ih_7 := (fpl_X12_qBracket sh_fuel)
  have hF : sh_offX μ μ := sh_offX.rf
  unfold f_X12_qBracket at h
  obtain ⟨x16, ex16⟩ : ∃ y : Int32, y = ((sh_i μ 291 105) - 1) := ⟨_, rfl⟩
  rw [sh_let_eq ex16] at h
  exact hF.trans (ih_7 hG h)
theorem fpl_X12_qDropsToBracket (fuel : Nat) : (∀ ⦃μ μ' : sh_Mem⦄, sh_G μ → F_X12_qDropsToBracket fuel 1 μ = some μ' → sh_offX μ μ') := by
  induction fuel with
  | zero => intro μ μ' hG h; cases h
  | succ fuel ih =>
    have ih_0 := ih
    intro μ μ' hG h
    replace h : ((if (sh_i μ 291 105) ≤ (sh_i μ 291 107) then some μ else (if sh_in ((sh_i μ 291 105) - 1) 1700 then (if (f_X12_qIsBracket μ (sh_i μ 365 (((sh_i μ 291 105) - 1)).toNatClampNeg)) = 0 then sh_bindv (f_X12_qDrops μ) (fun μ10 => F_X12_qDropsToBracket fuel 1  μ10) else some μ) else none)) : Option sh_Mem) = some μ' := h
    have hF : sh_offX μ μ := sh_offX.rf
    by_cases c7 : (sh_i μ 291 105) ≤ (sh_i μ 291 107)
    · rw [if_pos c7] at h
      have e2 := Option.some.inj h
      exact e2 ▸ hF
    · rw [if_neg c7] at h
      obtain ⟨k8, h⟩ := sh_chk h
      by_cases c9 : (f_X12_qIsBracket μ (sh_i μ 365 (((sh_i μ 291 105) - 1)).toNatClampNeg)) = 0
      · rw [if_pos c9] at h
        obtain ⟨μ10, hr11, h⟩ := sh_bindv_e h
        have hG10 := gp_X12_qDrops hG hr11
        have hF10 := hF.trans (fp_X12_qDrops hG hr11)
        exact hF10.trans (ih_0 hG10 h)
      · rw [if_neg c9] at h
        have e2 := Option.some.inj h
        exact e2 ▸ hF
theorem fp_X12_qDropsToBracket {μ μ' : sh_Mem} (hG : sh_G μ) (h : f_X12_qDropsToBracket μ = some μ') : sh_offX μ μ' := by
  have ih_0 := (fpl_X12_qDropsToBracket sh_fuel)
  have hF : sh_offX μ μ := sh_offX.rf
  unfold f_X12_qDropsToBracket at h
  exact hF.trans (ih_0 hG h)
theorem fp_X12_qWordHere {μ μ' : sh_Mem} {v : Int32} (hG : sh_G μ) (h : f_X12_qWordHere μ = some (v, μ')) : sh_offX μ μ' := by
  have hF : sh_offX μ μ := sh_offX.rf
  unfold f_X12_qWordHere at h
  obtain ⟨y3, μ1, hr2, h⟩ := sh_bind_e h
  have hG1 := gp_X12_isHere hG (sh_LAYat_353) hr2
  have hF1 := hF.trans (fp_X12_isHere hG (sh_LAYat_353) (by decide) hr2)
  by_cases c4 : y3 = 0
  · rw [if_pos c4] at h
    obtain ⟨y7, μ5, hr6, h⟩ := sh_bind_e h
    have hG5 := gp_X12_isHere hG1 (sh_LAYat_354) hr6
    have hF5 := hF1.trans (fp_X12_isHere hG1 (sh_LAYat_354) (by decide) hr6)
    by_cases c8 : y7 = 0
    · rw [if_pos c8] at h
      obtain ⟨y11, μ9, hr10, h⟩ := sh_bind_e h
      have hG9 := gp_X12_isHere hG5 (sh_LAYat_355) hr10
      have hF9 := hF5.trans (fp_X12_isHere hG5 (sh_LAYat_355) (by decide) hr10)
      by_cases c12 : y11 = 0
      · rw [if_pos c12] at h
        obtain ⟨y15, μ13, hr14, h⟩ := sh_bind_e h
        have hG13 := gp_X12_isHere hG9 (sh_LAYat_356) hr14
        have hF13 := hF9.trans (fp_X12_isHere hG9 (sh_LAYat_356) (by decide) hr14)
        by_cases c16 : y15 = 0
        · rw [if_pos c16] at h
          obtain ⟨y19, μ17, hr18, h⟩ := sh_bind_e h
          have hG17 := gp_X12_isHere hG13 (sh_LAYat_357) hr18
          have hF17 := hF13.trans (fp_X12_isHere hG13 (sh_LAYat_357) (by decide) hr18)
          by_cases c20 : y19 = 0
          · rw [if_pos c20] at h
            obtain ⟨y23, μ21, hr22, h⟩ := sh_bind_e h
            have hG21 := gp_X12_isHere hG17 (sh_LAYat_358) hr22
            have hF21 := hF17.trans (fp_X12_isHere hG17 (sh_LAYat_358) (by decide) hr22)
            by_cases c24 : y23 = 0
            · rw [if_pos c24] at h
              obtain ⟨y27, μ25, hr26, h⟩ := sh_bind_e h
              have hG25 := gp_X12_isHere hG21 (sh_LAYat_359) hr26
              have hF25 := hF21.trans (fp_X12_isHere hG21 (sh_LAYat_359) (by decide) hr26)
              by_cases c28 : y27 = 0
              · rw [if_pos c28] at h
                obtain ⟨y31, μ29, hr30, h⟩ := sh_bind_e h
                have hG29 := gp_X12_isHere hG25 (sh_LAYat_360) hr30
                have hF29 := hF25.trans (fp_X12_isHere hG25 (sh_LAYat_360) (by decide) hr30)
                by_cases c32 : y31 = 0
                · rw [if_pos c32] at h
                  obtain ⟨y35, μ33, hr34, h⟩ := sh_bind_e h
                  have hG33 := gp_X12_isHere hG29 (sh_LAYat_361) hr34
                  have hF33 := hF29.trans (fp_X12_isHere hG29 (sh_LAYat_361) (by decide) hr34)
                  by_cases c36 : y35 = 0
                  · rw [if_pos c36] at h
                    obtain ⟨y39, μ37, hr38, h⟩ := sh_bind_e h
                    have hG37 := gp_X12_isHere hG33 (sh_LAYat_362) hr38
                    have hF37 := hF33.trans (fp_X12_isHere hG33 (sh_LAYat_362) (by decide) hr38)
                    by_cases c40 : y39 = 0
                    · rw [if_pos c40] at h
                      obtain ⟨y43, μ41, hr42, h⟩ := sh_bind_e h
                      have hG41 := gp_X12_isHere hG37 (sh_LAYat_363) hr42
                      have hF41 := hF37.trans (fp_X12_isHere hG37 (sh_LAYat_363) (by decide) hr42)
                      by_cases c44 : y43 = 0
                      · rw [if_pos c44] at h
                        obtain ⟨e1, e2⟩ := sh_some2 h
                        exact e2 ▸ hF41
                      · rw [if_neg c44] at h
                        obtain ⟨e1, e2⟩ := sh_some2 h
                        exact e2 ▸ hF41
                    · rw [if_neg c40] at h
                      obtain ⟨e1, e2⟩ := sh_some2 h
                      exact e2 ▸ hF37
                  · rw [if_neg c36] at h
                    obtain ⟨e1, e2⟩ := sh_some2 h
                    exact e2 ▸ hF33
                · rw [if_neg c32] at h
                  obtain ⟨e1, e2⟩ := sh_some2 h
                  exact e2 ▸ hF29
              · rw [if_neg c28] at h
                obtain ⟨e1, e2⟩ := sh_some2 h
                exact e2 ▸ hF25
            · rw [if_neg c24] at h
              obtain ⟨e1, e2⟩ := sh_some2 h
              exact e2 ▸ hF21
          · rw [if_neg c20] at h
            obtain ⟨e1, e2⟩ := sh_some2 h
            exact e2 ▸ hF17
        · rw [if_neg c16] at h
          obtain ⟨e1, e2⟩ := sh_some2 h
          exact e2 ▸ hF13
      · rw [if_neg c12] at h
        obtain ⟨e1, e2⟩ := sh_some2 h
        exact e2 ▸ hF9
    · rw [if_neg c8] at h
      obtain ⟨e1, e2⟩ := sh_some2 h
      exact e2 ▸ hF5
  · rw [if_neg c4] at h
    obtain ⟨e1, e2⟩ := sh_some2 h
    exact e2 ▸ hF1
theorem fp_X12_qWordOf {a1 : Int32} {a2 : Int32} {μ μ' : sh_Mem} {v : Int32} (hG : sh_G μ) (h : f_X12_qWordOf a1 a2 μ = some (v, μ')) : sh_offX μ μ' := by
  have hF : sh_offX μ μ := sh_offX.rf
  unfold f_X12_qWordOf at h
  obtain ⟨y3, μ1, hr2, h⟩ := sh_bind_e h
  have hG1 := gp_X12_qWordHere hG hr2
  have hF1 := hF.trans (fp_X12_qWordHere hG hr2)
  by_cases c4 : y3 < a1
  · rw [if_pos c4] at h
    obtain ⟨e1, e2⟩ := sh_some2 h
    exact e2 ▸ hF1
  · rw [if_neg c4] at h
    by_cases c5 : a2 ≤ y3
    · rw [if_pos c5] at h
      obtain ⟨e1, e2⟩ := sh_some2 h
      exact e2 ▸ hF1
    · rw [if_neg c5] at h
      by_cases c6 : (f_X12_isAllowed μ1 y3) = 0
      · rw [if_pos c6] at h
        obtain ⟨e1, e2⟩ := sh_some2 h
        exact e2 ▸ hF1
      · rw [if_neg c6] at h
        obtain ⟨e1, e2⟩ := sh_some2 h
        exact e2 ▸ hF1
theorem fp_X12_qAsksWord {a1 : Int32} {μ μ' : sh_Mem} (hG : sh_G μ) (h : f_X12_qAsksWord a1 μ = some μ') : sh_offX μ μ' := by
  have hF : sh_offX μ μ := sh_offX.rf
  unfold f_X12_qAsksWord at h
  by_cases c1 : a1 = 0
  · rw [if_pos c1] at h
    obtain ⟨μ2, hr3, h⟩ := sh_bindv_e h
    have hG2 := gp_X12_needs hG (sh_LAYat_353) hr3
    have hF2 := hF.trans (fp_X12_needs hG (sh_LAYat_353) (by decide) hr3)
    have e2 := Option.some.inj h
    exact e2 ▸ hF2
  rw [if_neg c1] at h
  by_cases c5 : a1 = 1
  · rw [if_pos c5] at h
    obtain ⟨μ6, hr7, h⟩ := sh_bindv_e h
    have hG6 := gp_X12_needs hG (sh_LAYat_354) hr7
    have hF6 := hF.trans (fp_X12_needs hG (sh_LAYat_354) (by decide) hr7)
    have e2 := Option.some.inj h
    exact e2 ▸ hF6
  rw [if_neg c5] at h
  by_cases c9 : a1 = 2
  · rw [if_pos c9] at h
    obtain ⟨μ10, hr11, h⟩ := sh_bindv_e h
    have hG10 := gp_X12_needs hG (sh_LAYat_355) hr11
    have hF10 := hF.trans (fp_X12_needs hG (sh_LAYat_355) (by decide) hr11)
    have e2 := Option.some.inj h
    exact e2 ▸ hF10
  rw [if_neg c9] at h
  by_cases c13 : a1 = 3
  · rw [if_pos c13] at h
    obtain ⟨μ14, hr15, h⟩ := sh_bindv_e h
    have hG14 := gp_X12_needs hG (sh_LAYat_356) hr15
    have hF14 := hF.trans (fp_X12_needs hG (sh_LAYat_356) (by decide) hr15)
    have e2 := Option.some.inj h
    exact e2 ▸ hF14
  rw [if_neg c13] at h
  by_cases c17 : a1 = 4
  · rw [if_pos c17] at h
    obtain ⟨μ18, hr19, h⟩ := sh_bindv_e h
    have hG18 := gp_X12_needs hG (sh_LAYat_357) hr19
    have hF18 := hF.trans (fp_X12_needs hG (sh_LAYat_357) (by decide) hr19)
    have e2 := Option.some.inj h
    exact e2 ▸ hF18
  rw [if_neg c17] at h
  by_cases c21 : a1 = 5
  · rw [if_pos c21] at h
    obtain ⟨μ22, hr23, h⟩ := sh_bindv_e h
    have hG22 := gp_X12_needs hG (sh_LAYat_358) hr23
    have hF22 := hF.trans (fp_X12_needs hG (sh_LAYat_358) (by decide) hr23)
    have e2 := Option.some.inj h
    exact e2 ▸ hF22
  rw [if_neg c21] at h
  by_cases c25 : a1 = 6
  · rw [if_pos c25] at h
    obtain ⟨μ26, hr27, h⟩ := sh_bindv_e h
    have hG26 := gp_X12_needs hG (sh_LAYat_359) hr27
    have hF26 := hF.trans (fp_X12_needs hG (sh_LAYat_359) (by decide) hr27)
    have e2 := Option.some.inj h
    exact e2 ▸ hF26
  rw [if_neg c25] at h
  by_cases c29 : a1 = 7
  · rw [if_pos c29] at h
    obtain ⟨μ30, hr31, h⟩ := sh_bindv_e h
    have hG30 := gp_X12_needs hG (sh_LAYat_360) hr31
    have hF30 := hF.trans (fp_X12_needs hG (sh_LAYat_360) (by decide) hr31)
    have e2 := Option.some.inj h
    exact e2 ▸ hF30
  rw [if_neg c29] at h
  by_cases c33 : a1 = 8
  · rw [if_pos c33] at h
    obtain ⟨μ34, hr35, h⟩ := sh_bindv_e h
    have hG34 := gp_X12_needs hG (sh_LAYat_361) hr35
    have hF34 := hF.trans (fp_X12_needs hG (sh_LAYat_361) (by decide) hr35)
    have e2 := Option.some.inj h
    exact e2 ▸ hF34
  rw [if_neg c33] at h
  by_cases c37 : a1 = 9
  · rw [if_pos c37] at h
    obtain ⟨μ38, hr39, h⟩ := sh_bindv_e h
    have hG38 := gp_X12_needs hG (sh_LAYat_362) hr39
    have hF38 := hF.trans (fp_X12_needs hG (sh_LAYat_362) (by decide) hr39)
    have e2 := Option.some.inj h
    exact e2 ▸ hF38
  rw [if_neg c37] at h
  obtain ⟨μ41, hr42, h⟩ := sh_bindv_e h
  have hG41 := gp_X12_needs hG (sh_LAYat_363) hr42
  have hF41 := hF.trans (fp_X12_needs hG (sh_LAYat_363) (by decide) hr42)
  have e2 := Option.some.inj h
  exact e2 ▸ hF41
theorem fpl_X12_qEndsPart (fuel : Nat) : (∀ ⦃μ μ' : sh_Mem⦄, sh_G μ → F_X12_qEndsPart fuel 1 μ = some μ' → sh_offX μ μ') := by
  induction fuel with
  | zero => intro μ μ' hG h; cases h
  | succ fuel ih =>
    have ih_0 := ih
    intro μ μ' hG h
    replace h : ((if (sh_i μ 291 5) = 0 then (if (sh_i μ 291 105) ≤ (sh_i μ 291 107) then some μ else (if sh_in ((sh_i μ 291 105) - 1) 1700 then (if (sh_i μ 365 (((sh_i μ 291 105) - 1)).toNatClampNeg) < 60 then some μ else sh_let (sh_setI μ 291 106 ((sh_i μ 291 106) - 1)) (fun μ13 => sh_bindv (f_X12_qDrops μ13) (fun μ14 => F_X12_qEndsPart fuel 1  μ14))) else none)) else some μ) : Option sh_Mem) = some μ' := h
    have hF : sh_offX μ μ := sh_offX.rf
    by_cases c9 : (sh_i μ 291 5) = 0
    · rw [if_pos c9] at h
      by_cases c10 : (sh_i μ 291 105) ≤ (sh_i μ 291 107)
      · rw [if_pos c10] at h
        have e2 := Option.some.inj h
        exact e2 ▸ hF
      · rw [if_neg c10] at h
        obtain ⟨k11, h⟩ := sh_chk h
        by_cases c12 : (sh_i μ 365 (((sh_i μ 291 105) - 1)).toNatClampNeg) < 60
        · rw [if_pos c12] at h
          have e2 := Option.some.inj h
          exact e2 ▸ hF
        · rw [if_neg c12] at h
          obtain ⟨μ13, eμ13⟩ : ∃ y : sh_Mem, y = (sh_setI μ 291 106 ((sh_i μ 291 106) - 1)) := ⟨_, rfl⟩
          rw [sh_let_eq eμ13] at h
          have hG13 : sh_G μ13 := by rw [eμ13]; exact hG
          have hF13 : sh_offX μ μ13 := by rw [eμ13]; exact sh_offX_I hF (by decide)
          obtain ⟨μ14, hr15, h⟩ := sh_bindv_e h
          have hG14 := gp_X12_qDrops hG13 hr15
          have hF14 := hF13.trans (fp_X12_qDrops hG13 hr15)
          exact hF14.trans (ih_0 hG14 h)
    · rw [if_neg c9] at h
      have e2 := Option.some.inj h
      exact e2 ▸ hF
theorem fp_X12_qEndsPart {μ μ' : sh_Mem} (hG : sh_G μ) (h : f_X12_qEndsPart μ = some μ') : sh_offX μ μ' := by
  have ih_0 := (fpl_X12_qEndsPart sh_fuel)
  have hF : sh_offX μ μ := sh_offX.rf
  unfold f_X12_qEndsPart at h
  exact hF.trans (ih_0 hG h)
theorem fpl_X12_qPartTold (fuel : Nat) : (∀ ⦃i1 : Int32⦄ ⦃μ μ' : sh_Mem⦄, sh_G μ → F_X12_qPartTold fuel 1 i1 μ = some μ' → sh_offX μ μ') := by
  induction fuel with
  | zero => intro i1 μ μ' hG h; cases h
  | succ fuel ih =>
    have ih_2 := ih
    intro i1 μ μ' hG h
    replace h : ((if i1 = 0 then (if (sh_i μ 291 5) = 0 then sh_bind (f_X12_qWordOf 0 9 μ) (fun y227 μ225 => (if y227 = (-1) then (if y227 = (-1) then sh_bind (f_X12_number 0 9999 μ225) (fun y232 μ230 => sh_bindv (f_X12_qCode (1000 + y232) μ230) (fun μ233 => sh_bindv (f_X12_qEndsPart μ233) (fun μ236 => some μ236))) else sh_bindv (f_X12_qCode (40 + y227) μ225) (fun μ239 => sh_bindv (f_X12_qEndsPart μ239) (fun μ242 => some μ242))) else sh_bindv (f_X12_qAsksWord y227 μ225) (fun μ245 => (if y227 = (-1) then sh_bind (f_X12_number 0 9999 μ245) (fun y251 μ249 => sh_bindv (f_X12_qCode (1000 + y251) μ249) (fun μ252 => sh_bindv (f_X12_qEndsPart μ252) (fun μ255 => some μ255))) else sh_bindv (f_X12_qCode (40 + y227) μ245) (fun μ258 => sh_bindv (f_X12_qEndsPart μ258) (fun μ261 => some μ261)))))) else some μ) else (if (sh_i μ 291 5) = 0 then sh_bind (f_X12_look μ) (fun y307 μ305 => sh_bind (f_X12_qWordOf 9 11 μ305) (fun y310 μ308 => (if y307 = 40 then sh_bindv (f_X12_qOpens 20 (sh_i μ308 291 2) μ308) (fun μ441 => sh_let (sh_setI μ441 291 2 ((sh_i μ441 291 2) + 1)) (fun μ444 => F_X12_qPartTold fuel 1 i1 μ444)) else sh_bind (f_X12_isHere 351 3 μ308) (fun y314 μ312 => (if y314 = 0 then sh_bind (f_X12_isHere 352 3 μ312) (fun y375 μ373 => (if y375 = 0 then (if y310 = (-1) then F_X12_qPartTold fuel 1 0 μ373 else sh_bindv (f_X12_qOpens ((60 + y310) - 9) (sh_i μ373 291 2) μ373) (fun μ378 => sh_bindv (f_X12_qAsksWord y310 μ378) (fun μ381 => F_X12_qPartTold fuel 1 i1 μ381))) else sh_bind (f_X12_takes 351 3 μ373) (fun y386 μ384 => (if y386 = 0 then sh_bindv (f_X12_needs 352 3 μ384) (fun μ413 => sh_bind (f_X12_look μ413) (fun y418 μ416 => (if y418 = 40 then sh_let ((sh_i μ416 291 2) : Int32) (fun x423 => (if x423 = (-1) then sh_bindv (f_X12_asksSign 40 μ416) (fun μ425 => F_X12_qPartTold fuel 1 i1 μ425) else (if y386 = 0 then sh_bindv (f_X12_qOpens 22 x423 μ416) (fun μ429 => sh_bindv (f_X12_asksSign 40 μ429) (fun μ432 => F_X12_qPartTold fuel 1 i1 μ432)) else sh_bindv (f_X12_qOpens 21 x423 μ416) (fun μ435 => sh_bindv (f_X12_asksSign 40 μ435) (fun μ438 => F_X12_qPartTold fuel 1 i1 μ438))))) else sh_bindv (f_X12_asksSign 40 μ416) (fun μ420 => F_X12_qPartTold fuel 1 i1 μ420)))) else sh_bind (f_X12_look μ384) (fun y390 μ388 => (if y390 = 40 then sh_let ((sh_i μ388 291 2) : Int32) (fun x395 => (if x395 = (-1) then sh_bindv (f_X12_asksSign 40 μ388) (fun μ397 => F_X12_qPartTold fuel 1 i1 μ397) else (if y386 = 0 then sh_bindv (f_X12_qOpens 22 x395 μ388) (fun μ401 => sh_bindv (f_X12_asksSign 40 μ401) (fun μ404 => F_X12_qPartTold fuel 1 i1 μ404)) else sh_bindv (f_X12_qOpens 21 x395 μ388) (fun μ407 => sh_bindv (f_X12_asksSign 40 μ407) (fun μ410 => F_X12_qPartTold fuel 1 i1 μ410))))) else sh_bindv (f_X12_asksSign 40 μ388) (fun μ392 => F_X12_qPartTold fuel 1 i1 μ392))))))) else sh_bind (f_X12_takes 351 3 μ312) (fun y318 μ316 => (if y318 = 0 then sh_bindv (f_X12_needs 352 3 μ316) (fun μ345 => sh_bind (f_X12_look μ345) (fun y350 μ348 => (if y350 = 40 then sh_let ((sh_i μ348 291 2) : Int32) (fun x355 => (if x355 = (-1) then sh_bindv (f_X12_asksSign 40 μ348) (fun μ357 => F_X12_qPartTold fuel 1 i1 μ357) else (if y318 = 0 then sh_bindv (f_X12_qOpens 22 x355 μ348) (fun μ361 => sh_bindv (f_X12_asksSign 40 μ361) (fun μ364 => F_X12_qPartTold fuel 1 i1 μ364)) else sh_bindv (f_X12_qOpens 21 x355 μ348) (fun μ367 => sh_bindv (f_X12_asksSign 40 μ367) (fun μ370 => F_X12_qPartTold fuel 1 i1 μ370))))) else sh_bindv (f_X12_asksSign 40 μ348) (fun μ352 => F_X12_qPartTold fuel 1 i1 μ352)))) else sh_bind (f_X12_look μ316) (fun y322 μ320 => (if y322 = 40 then sh_let ((sh_i μ320 291 2) : Int32) (fun x327 => (if x327 = (-1) then sh_bindv (f_X12_asksSign 40 μ320) (fun μ329 => F_X12_qPartTold fuel 1 i1 μ329) else (if y318 = 0 then sh_bindv (f_X12_qOpens 22 x327 μ320) (fun μ333 => sh_bindv (f_X12_asksSign 40 μ333) (fun μ336 => F_X12_qPartTold fuel 1 i1 μ336)) else sh_bindv (f_X12_qOpens 21 x327 μ320) (fun μ339 => sh_bindv (f_X12_asksSign 40 μ339) (fun μ342 => F_X12_qPartTold fuel 1 i1 μ342))))) else sh_bindv (f_X12_asksSign 40 μ320) (fun μ324 => F_X12_qPartTold fuel 1 i1 μ324)))))))))) else (if (sh_i μ 291 5) = 0 then sh_bind (f_X12_qWordOf 0 9 μ) (fun y268 μ266 => (if y268 = (-1) then (if y268 = (-1) then sh_bind (f_X12_number 0 9999 μ266) (fun y273 μ271 => sh_bindv (f_X12_qCode (1000 + y273) μ271) (fun μ274 => sh_bindv (f_X12_qEndsPart μ274) (fun μ277 => some μ277))) else sh_bindv (f_X12_qCode (40 + y268) μ266) (fun μ280 => sh_bindv (f_X12_qEndsPart μ280) (fun μ283 => some μ283))) else sh_bindv (f_X12_qAsksWord y268 μ266) (fun μ286 => (if y268 = (-1) then sh_bind (f_X12_number 0 9999 μ286) (fun y292 μ290 => sh_bindv (f_X12_qCode (1000 + y292) μ290) (fun μ293 => sh_bindv (f_X12_qEndsPart μ293) (fun μ296 => some μ296))) else sh_bindv (f_X12_qCode (40 + y268) μ286) (fun μ299 => sh_bindv (f_X12_qEndsPart μ299) (fun μ302 => some μ302)))))) else some μ))) : Option sh_Mem) = some μ' := h
    have hF : sh_offX μ μ := sh_offX.rf
    by_cases c223 : i1 = 0
    · rw [if_pos c223] at h
      by_cases c224 : (sh_i μ 291 5) = 0
      · rw [if_pos c224] at h
        obtain ⟨y227, μ225, hr226, h⟩ := sh_bind_e h
        have hG225 := gp_X12_qWordOf hG hr226
        have hF225 := hF.trans (fp_X12_qWordOf hG hr226)
        by_cases c228 : y227 = (-1)
        · rw [if_pos c228] at h
          by_cases c229 : y227 = (-1)
          · rw [if_pos c229] at h
            obtain ⟨y232, μ230, hr231, h⟩ := sh_bind_e h
            have hG230 := gp_X12_number hG225 hr231
            have hF230 := hF225.trans (fp_X12_number hG225 hr231)
            obtain ⟨μ233, hr234, h⟩ := sh_bindv_e h
            have hG233 := gp_X12_qCode hG230 hr234
            have hF233 := hF230.trans (fp_X12_qCode hG230 hr234)
            obtain ⟨μ236, hr237, h⟩ := sh_bindv_e h
            have hG236 := gp_X12_qEndsPart hG233 hr237
            have hF236 := hF233.trans (fp_X12_qEndsPart hG233 hr237)
            have e2 := Option.some.inj h
            exact e2 ▸ hF236
          · rw [if_neg c229] at h
            obtain ⟨μ239, hr240, h⟩ := sh_bindv_e h
            have hG239 := gp_X12_qCode hG225 hr240
            have hF239 := hF225.trans (fp_X12_qCode hG225 hr240)
            obtain ⟨μ242, hr243, h⟩ := sh_bindv_e h
            have hG242 := gp_X12_qEndsPart hG239 hr243
            have hF242 := hF239.trans (fp_X12_qEndsPart hG239 hr243)
            have e2 := Option.some.inj h
            exact e2 ▸ hF242
        · rw [if_neg c228] at h
          obtain ⟨μ245, hr246, h⟩ := sh_bindv_e h
          have hG245 := gp_X12_qAsksWord hG225 hr246
          have hF245 := hF225.trans (fp_X12_qAsksWord hG225 hr246)
          by_cases c248 : y227 = (-1)
          · rw [if_pos c248] at h
            obtain ⟨y251, μ249, hr250, h⟩ := sh_bind_e h
            have hG249 := gp_X12_number hG245 hr250
            have hF249 := hF245.trans (fp_X12_number hG245 hr250)
            obtain ⟨μ252, hr253, h⟩ := sh_bindv_e h
            have hG252 := gp_X12_qCode hG249 hr253
            have hF252 := hF249.trans (fp_X12_qCode hG249 hr253)
            obtain ⟨μ255, hr256, h⟩ := sh_bindv_e h
            have hG255 := gp_X12_qEndsPart hG252 hr256
            have hF255 := hF252.trans (fp_X12_qEndsPart hG252 hr256)
            have e2 := Option.some.inj h
            exact e2 ▸ hF255
          · rw [if_neg c248] at h
            obtain ⟨μ258, hr259, h⟩ := sh_bindv_e h
            have hG258 := gp_X12_qCode hG245 hr259
            have hF258 := hF245.trans (fp_X12_qCode hG245 hr259)
            obtain ⟨μ261, hr262, h⟩ := sh_bindv_e h
            have hG261 := gp_X12_qEndsPart hG258 hr262
            have hF261 := hF258.trans (fp_X12_qEndsPart hG258 hr262)
            have e2 := Option.some.inj h
            exact e2 ▸ hF261
      · rw [if_neg c224] at h
        have e2 := Option.some.inj h
        exact e2 ▸ hF
    · rw [if_neg c223] at h
      by_cases c264 : (sh_i μ 291 5) = 0
      · rw [if_pos c264] at h
        obtain ⟨y307, μ305, hr306, h⟩ := sh_bind_e h
        have hG305 := gp_X12_look hG hr306
        have hF305 := hF.trans (fp_X12_look hG hr306)
        obtain ⟨y310, μ308, hr309, h⟩ := sh_bind_e h
        have hG308 := gp_X12_qWordOf hG305 hr309
        have hF308 := hF305.trans (fp_X12_qWordOf hG305 hr309)
        by_cases c311 : y307 = 40
        · rw [if_pos c311] at h
          obtain ⟨μ441, hr442, h⟩ := sh_bindv_e h
          have hG441 := gp_X12_qOpens hG308 hr442
          have hF441 := hF308.trans (fp_X12_qOpens hG308 hr442)
          obtain ⟨μ444, eμ444⟩ : ∃ y : sh_Mem, y = (sh_setI μ441 291 2 ((sh_i μ441 291 2) + 1)) := ⟨_, rfl⟩
          rw [sh_let_eq eμ444] at h
          have hG444 : sh_G μ444 := by rw [eμ444]; exact hG441
          have hF444 : sh_offX μ μ444 := by rw [eμ444]; exact sh_offX_I hF441 (by decide)
          exact hF444.trans (ih_2 hG444 h)
        · rw [if_neg c311] at h
          obtain ⟨y314, μ312, hr313, h⟩ := sh_bind_e h
          have hG312 := gp_X12_isHere hG308 (sh_LAYat_351) hr313
          have hF312 := hF308.trans (fp_X12_isHere hG308 (sh_LAYat_351) (by decide) hr313)
          by_cases c315 : y314 = 0
          · rw [if_pos c315] at h
            obtain ⟨y375, μ373, hr374, h⟩ := sh_bind_e h
            have hG373 := gp_X12_isHere hG312 (sh_LAYat_352) hr374
            have hF373 := hF312.trans (fp_X12_isHere hG312 (sh_LAYat_352) (by decide) hr374)
            by_cases c376 : y375 = 0
            · rw [if_pos c376] at h
              by_cases c377 : y310 = (-1)
              · rw [if_pos c377] at h
                exact hF373.trans (ih_2 hG373 h)
              · rw [if_neg c377] at h
                obtain ⟨μ378, hr379, h⟩ := sh_bindv_e h
                have hG378 := gp_X12_qOpens hG373 hr379
                have hF378 := hF373.trans (fp_X12_qOpens hG373 hr379)
                obtain ⟨μ381, hr382, h⟩ := sh_bindv_e h
                have hG381 := gp_X12_qAsksWord hG378 hr382
                have hF381 := hF378.trans (fp_X12_qAsksWord hG378 hr382)
                exact hF381.trans (ih_2 hG381 h)
            · rw [if_neg c376] at h
              obtain ⟨y386, μ384, hr385, h⟩ := sh_bind_e h
              have hG384 := gp_X12_takes hG373 (sh_LAYat_351) hr385
              have hF384 := hF373.trans (fp_X12_takes hG373 (sh_LAYat_351) (by decide) hr385)
              by_cases c387 : y386 = 0
              · rw [if_pos c387] at h
                obtain ⟨μ413, hr414, h⟩ := sh_bindv_e h
                have hG413 := gp_X12_needs hG384 (sh_LAYat_352) hr414
                have hF413 := hF384.trans (fp_X12_needs hG384 (sh_LAYat_352) (by decide) hr414)
                obtain ⟨y418, μ416, hr417, h⟩ := sh_bind_e h
                have hG416 := gp_X12_look hG413 hr417
                have hF416 := hF413.trans (fp_X12_look hG413 hr417)
                by_cases c419 : y418 = 40
                · rw [if_pos c419] at h
                  obtain ⟨x423, ex423⟩ : ∃ y : Int32, y = (sh_i μ416 291 2) := ⟨_, rfl⟩
                  rw [sh_let_eq ex423] at h
                  by_cases c424 : x423 = (-1)
                  · rw [if_pos c424] at h
                    obtain ⟨μ425, hr426, h⟩ := sh_bindv_e h
                    have hG425 := gp_X12_asksSign hG416 hr426
                    have hF425 := hF416.trans (fp_X12_asksSign hG416 hr426)
                    exact hF425.trans (ih_2 hG425 h)
                  · rw [if_neg c424] at h
                    by_cases c428 : y386 = 0
                    · rw [if_pos c428] at h
                      obtain ⟨μ429, hr430, h⟩ := sh_bindv_e h
                      have hG429 := gp_X12_qOpens hG416 hr430
                      have hF429 := hF416.trans (fp_X12_qOpens hG416 hr430)
                      obtain ⟨μ432, hr433, h⟩ := sh_bindv_e h
                      have hG432 := gp_X12_asksSign hG429 hr433
                      have hF432 := hF429.trans (fp_X12_asksSign hG429 hr433)
                      exact hF432.trans (ih_2 hG432 h)
                    · rw [if_neg c428] at h
                      obtain ⟨μ435, hr436, h⟩ := sh_bindv_e h
                      have hG435 := gp_X12_qOpens hG416 hr436
                      have hF435 := hF416.trans (fp_X12_qOpens hG416 hr436)
                      obtain ⟨μ438, hr439, h⟩ := sh_bindv_e h
                      have hG438 := gp_X12_asksSign hG435 hr439
                      have hF438 := hF435.trans (fp_X12_asksSign hG435 hr439)
                      exact hF438.trans (ih_2 hG438 h)
                · rw [if_neg c419] at h
                  obtain ⟨μ420, hr421, h⟩ := sh_bindv_e h
                  have hG420 := gp_X12_asksSign hG416 hr421
                  have hF420 := hF416.trans (fp_X12_asksSign hG416 hr421)
                  exact hF420.trans (ih_2 hG420 h)
              · rw [if_neg c387] at h
                obtain ⟨y390, μ388, hr389, h⟩ := sh_bind_e h
                have hG388 := gp_X12_look hG384 hr389
                have hF388 := hF384.trans (fp_X12_look hG384 hr389)
                by_cases c391 : y390 = 40
                · rw [if_pos c391] at h
                  obtain ⟨x395, ex395⟩ : ∃ y : Int32, y = (sh_i μ388 291 2) := ⟨_, rfl⟩
                  rw [sh_let_eq ex395] at h
                  by_cases c396 : x395 = (-1)
                  · rw [if_pos c396] at h
                    obtain ⟨μ397, hr398, h⟩ := sh_bindv_e h
                    have hG397 := gp_X12_asksSign hG388 hr398
                    have hF397 := hF388.trans (fp_X12_asksSign hG388 hr398)
                    exact hF397.trans (ih_2 hG397 h)
                  · rw [if_neg c396] at h
                    by_cases c400 : y386 = 0
                    · rw [if_pos c400] at h
                      obtain ⟨μ401, hr402, h⟩ := sh_bindv_e h
                      have hG401 := gp_X12_qOpens hG388 hr402
                      have hF401 := hF388.trans (fp_X12_qOpens hG388 hr402)
                      obtain ⟨μ404, hr405, h⟩ := sh_bindv_e h
                      have hG404 := gp_X12_asksSign hG401 hr405
                      have hF404 := hF401.trans (fp_X12_asksSign hG401 hr405)
                      exact hF404.trans (ih_2 hG404 h)
                    · rw [if_neg c400] at h
                      obtain ⟨μ407, hr408, h⟩ := sh_bindv_e h
                      have hG407 := gp_X12_qOpens hG388 hr408
                      have hF407 := hF388.trans (fp_X12_qOpens hG388 hr408)
                      obtain ⟨μ410, hr411, h⟩ := sh_bindv_e h
                      have hG410 := gp_X12_asksSign hG407 hr411
                      have hF410 := hF407.trans (fp_X12_asksSign hG407 hr411)
                      exact hF410.trans (ih_2 hG410 h)
                · rw [if_neg c391] at h
                  obtain ⟨μ392, hr393, h⟩ := sh_bindv_e h
                  have hG392 := gp_X12_asksSign hG388 hr393
                  have hF392 := hF388.trans (fp_X12_asksSign hG388 hr393)
                  exact hF392.trans (ih_2 hG392 h)
          · rw [if_neg c315] at h
            obtain ⟨y318, μ316, hr317, h⟩ := sh_bind_e h
            have hG316 := gp_X12_takes hG312 (sh_LAYat_351) hr317
            have hF316 := hF312.trans (fp_X12_takes hG312 (sh_LAYat_351) (by decide) hr317)
            by_cases c319 : y318 = 0
            · rw [if_pos c319] at h
              obtain ⟨μ345, hr346, h⟩ := sh_bindv_e h
              have hG345 := gp_X12_needs hG316 (sh_LAYat_352) hr346
              have hF345 := hF316.trans (fp_X12_needs hG316 (sh_LAYat_352) (by decide) hr346)
              obtain ⟨y350, μ348, hr349, h⟩ := sh_bind_e h
              have hG348 := gp_X12_look hG345 hr349
              have hF348 := hF345.trans (fp_X12_look hG345 hr349)
              by_cases c351 : y350 = 40
              · rw [if_pos c351] at h
                obtain ⟨x355, ex355⟩ : ∃ y : Int32, y = (sh_i μ348 291 2) := ⟨_, rfl⟩
                rw [sh_let_eq ex355] at h
                by_cases c356 : x355 = (-1)
                · rw [if_pos c356] at h
                  obtain ⟨μ357, hr358, h⟩ := sh_bindv_e h
                  have hG357 := gp_X12_asksSign hG348 hr358
                  have hF357 := hF348.trans (fp_X12_asksSign hG348 hr358)
                  exact hF357.trans (ih_2 hG357 h)
                · rw [if_neg c356] at h
                  by_cases c360 : y318 = 0
                  · rw [if_pos c360] at h
                    obtain ⟨μ361, hr362, h⟩ := sh_bindv_e h
                    have hG361 := gp_X12_qOpens hG348 hr362
                    have hF361 := hF348.trans (fp_X12_qOpens hG348 hr362)
                    obtain ⟨μ364, hr365, h⟩ := sh_bindv_e h
                    have hG364 := gp_X12_asksSign hG361 hr365
                    have hF364 := hF361.trans (fp_X12_asksSign hG361 hr365)
                    exact hF364.trans (ih_2 hG364 h)
                  · rw [if_neg c360] at h
                    obtain ⟨μ367, hr368, h⟩ := sh_bindv_e h
                    have hG367 := gp_X12_qOpens hG348 hr368
                    have hF367 := hF348.trans (fp_X12_qOpens hG348 hr368)
                    obtain ⟨μ370, hr371, h⟩ := sh_bindv_e h
                    have hG370 := gp_X12_asksSign hG367 hr371
                    have hF370 := hF367.trans (fp_X12_asksSign hG367 hr371)
                    exact hF370.trans (ih_2 hG370 h)
              · rw [if_neg c351] at h
                obtain ⟨μ352, hr353, h⟩ := sh_bindv_e h
                have hG352 := gp_X12_asksSign hG348 hr353
                have hF352 := hF348.trans (fp_X12_asksSign hG348 hr353)
                exact hF352.trans (ih_2 hG352 h)
            · rw [if_neg c319] at h
              obtain ⟨y322, μ320, hr321, h⟩ := sh_bind_e h
              have hG320 := gp_X12_look hG316 hr321
              have hF320 := hF316.trans (fp_X12_look hG316 hr321)
              by_cases c323 : y322 = 40
              · rw [if_pos c323] at h
                obtain ⟨x327, ex327⟩ : ∃ y : Int32, y = (sh_i μ320 291 2) := ⟨_, rfl⟩
                rw [sh_let_eq ex327] at h
                by_cases c328 : x327 = (-1)
                · rw [if_pos c328] at h
                  obtain ⟨μ329, hr330, h⟩ := sh_bindv_e h
                  have hG329 := gp_X12_asksSign hG320 hr330
                  have hF329 := hF320.trans (fp_X12_asksSign hG320 hr330)
                  exact hF329.trans (ih_2 hG329 h)
                · rw [if_neg c328] at h
                  by_cases c332 : y318 = 0
                  · rw [if_pos c332] at h
                    obtain ⟨μ333, hr334, h⟩ := sh_bindv_e h
                    have hG333 := gp_X12_qOpens hG320 hr334
                    have hF333 := hF320.trans (fp_X12_qOpens hG320 hr334)
                    obtain ⟨μ336, hr337, h⟩ := sh_bindv_e h
                    have hG336 := gp_X12_asksSign hG333 hr337
                    have hF336 := hF333.trans (fp_X12_asksSign hG333 hr337)
                    exact hF336.trans (ih_2 hG336 h)
                  · rw [if_neg c332] at h
                    obtain ⟨μ339, hr340, h⟩ := sh_bindv_e h
                    have hG339 := gp_X12_qOpens hG320 hr340
                    have hF339 := hF320.trans (fp_X12_qOpens hG320 hr340)
                    obtain ⟨μ342, hr343, h⟩ := sh_bindv_e h
                    have hG342 := gp_X12_asksSign hG339 hr343
                    have hF342 := hF339.trans (fp_X12_asksSign hG339 hr343)
                    exact hF342.trans (ih_2 hG342 h)
              · rw [if_neg c323] at h
                obtain ⟨μ324, hr325, h⟩ := sh_bindv_e h
                have hG324 := gp_X12_asksSign hG320 hr325
                have hF324 := hF320.trans (fp_X12_asksSign hG320 hr325)
                exact hF324.trans (ih_2 hG324 h)
      · rw [if_neg c264] at h
        by_cases c265 : (sh_i μ 291 5) = 0
        · rw [if_pos c265] at h
          obtain ⟨y268, μ266, hr267, h⟩ := sh_bind_e h
          have hG266 := gp_X12_qWordOf hG hr267
          have hF266 := hF.trans (fp_X12_qWordOf hG hr267)
          by_cases c269 : y268 = (-1)
          · rw [if_pos c269] at h
            by_cases c270 : y268 = (-1)
            · rw [if_pos c270] at h
              obtain ⟨y273, μ271, hr272, h⟩ := sh_bind_e h
              have hG271 := gp_X12_number hG266 hr272
              have hF271 := hF266.trans (fp_X12_number hG266 hr272)
              obtain ⟨μ274, hr275, h⟩ := sh_bindv_e h
              have hG274 := gp_X12_qCode hG271 hr275
              have hF274 := hF271.trans (fp_X12_qCode hG271 hr275)
              obtain ⟨μ277, hr278, h⟩ := sh_bindv_e h
              have hG277 := gp_X12_qEndsPart hG274 hr278
              have hF277 := hF274.trans (fp_X12_qEndsPart hG274 hr278)
              have e2 := Option.some.inj h
              exact e2 ▸ hF277
            · rw [if_neg c270] at h
              obtain ⟨μ280, hr281, h⟩ := sh_bindv_e h
              have hG280 := gp_X12_qCode hG266 hr281
              have hF280 := hF266.trans (fp_X12_qCode hG266 hr281)
              obtain ⟨μ283, hr284, h⟩ := sh_bindv_e h
              have hG283 := gp_X12_qEndsPart hG280 hr284
              have hF283 := hF280.trans (fp_X12_qEndsPart hG280 hr284)
              have e2 := Option.some.inj h
              exact e2 ▸ hF283
          · rw [if_neg c269] at h
            obtain ⟨μ286, hr287, h⟩ := sh_bindv_e h
            have hG286 := gp_X12_qAsksWord hG266 hr287
            have hF286 := hF266.trans (fp_X12_qAsksWord hG266 hr287)
            by_cases c289 : y268 = (-1)
            · rw [if_pos c289] at h
              obtain ⟨y292, μ290, hr291, h⟩ := sh_bind_e h
              have hG290 := gp_X12_number hG286 hr291
              have hF290 := hF286.trans (fp_X12_number hG286 hr291)
              obtain ⟨μ293, hr294, h⟩ := sh_bindv_e h
              have hG293 := gp_X12_qCode hG290 hr294
              have hF293 := hF290.trans (fp_X12_qCode hG290 hr294)
              obtain ⟨μ296, hr297, h⟩ := sh_bindv_e h
              have hG296 := gp_X12_qEndsPart hG293 hr297
              have hF296 := hF293.trans (fp_X12_qEndsPart hG293 hr297)
              have e2 := Option.some.inj h
              exact e2 ▸ hF296
            · rw [if_neg c289] at h
              obtain ⟨μ299, hr300, h⟩ := sh_bindv_e h
              have hG299 := gp_X12_qCode hG286 hr300
              have hF299 := hF286.trans (fp_X12_qCode hG286 hr300)
              obtain ⟨μ302, hr303, h⟩ := sh_bindv_e h
              have hG302 := gp_X12_qEndsPart hG299 hr303
              have hF302 := hF299.trans (fp_X12_qEndsPart hG299 hr303)
              have e2 := Option.some.inj h
              exact e2 ▸ hF302
        · rw [if_neg c265] at h
          have e2 := Option.some.inj h
          exact e2 ▸ hF
theorem fp_X12_qPartTold {μ μ' : sh_Mem} (hG : sh_G μ) (h : f_X12_qPartTold μ = some μ') : sh_offX μ μ' := by
  have ih_2 := (fpl_X12_qPartTold sh_fuel)
  have hF : sh_offX μ μ := sh_offX.rf
  unfold f_X12_qPartTold at h
  exact hF.trans (ih_2 hG h)
theorem fpl_X12_qGoesOn (fuel : Nat) : (∀ ⦃i1 : Int32⦄ ⦃μ μ' : sh_Mem⦄ ⦃v : Int32⦄, sh_G μ → F_X12_qGoesOn fuel 1 i1 μ = some (v, μ') → sh_offX μ μ') ∧ (∀ ⦃i1 : Int32⦄ ⦃μ μ' : sh_Mem⦄ ⦃v : Int32⦄, sh_G μ → F_X12_qGoesOn fuel 2 i1 μ = some (v, μ') → sh_offX μ μ') ∧ (∀ ⦃i1 : Int32⦄ ⦃μ μ' : sh_Mem⦄ ⦃v : Int32⦄, sh_G μ → F_X12_qGoesOn fuel 3 i1 μ = some (v, μ') → sh_offX μ μ') ∧ (∀ ⦃i1 : Int32⦄ ⦃μ μ' : sh_Mem⦄ ⦃v : Int32⦄, sh_G μ → F_X12_qGoesOn fuel 4 i1 μ = some (v, μ') → sh_offX μ μ') ∧ (∀ ⦃i1 : Int32⦄ ⦃μ μ' : sh_Mem⦄ ⦃v : Int32⦄, sh_G μ → F_X12_qGoesOn fuel 5 i1 μ = some (v, μ') → sh_offX μ μ') ∧ (∀ ⦃i1 : Int32⦄ ⦃μ μ' : sh_Mem⦄ ⦃v : Int32⦄, sh_G μ → F_X12_qGoesOn fuel 6 i1 μ = some (v, μ') → sh_offX μ μ') ∧ (∀ ⦃i1 : Int32⦄ ⦃μ μ' : sh_Mem⦄ ⦃v : Int32⦄, sh_G μ → F_X12_qGoesOn fuel 7 i1 μ = some (v, μ') → sh_offX μ μ') ∧ (∀ ⦃i1 : Int32⦄ ⦃μ μ' : sh_Mem⦄ ⦃v : Int32⦄, sh_G μ → F_X12_qGoesOn fuel 8 i1 μ = some (v, μ') → sh_offX μ μ') ∧ (∀ ⦃i1 : Int32⦄ ⦃μ μ' : sh_Mem⦄ ⦃v : Int32⦄, sh_G μ → F_X12_qGoesOn fuel 9 i1 μ = some (v, μ') → sh_offX μ μ') ∧ (∀ ⦃i1 : Int32⦄ ⦃μ μ' : sh_Mem⦄ ⦃v : Int32⦄, sh_G μ → F_X12_qGoesOn fuel 10 i1 μ = some (v, μ') → sh_offX μ μ') ∧ (∀ ⦃i1 : Int32⦄ ⦃μ μ' : sh_Mem⦄ ⦃v : Int32⦄, sh_G μ → F_X12_qGoesOn fuel 11 i1 μ = some (v, μ') → sh_offX μ μ') ∧ (∀ ⦃i1 : Int32⦄ ⦃μ μ' : sh_Mem⦄ ⦃v : Int32⦄, sh_G μ → F_X12_qGoesOn fuel 12 i1 μ = some (v, μ') → sh_offX μ μ') := by
  induction fuel with
  | zero => exact ⟨(by intro i1 μ μ' v hG h; cases h), (by intro i1 μ μ' v hG h; cases h), (by intro i1 μ μ' v hG h; cases h), (by intro i1 μ μ' v hG h; cases h), (by intro i1 μ μ' v hG h; cases h), (by intro i1 μ μ' v hG h; cases h), (by intro i1 μ μ' v hG h; cases h), (by intro i1 μ μ' v hG h; cases h), (by intro i1 μ μ' v hG h; cases h), (by intro i1 μ μ' v hG h; cases h), (by intro i1 μ μ' v hG h; cases h), (by intro i1 μ μ' v hG h; cases h)⟩
  | succ fuel ih =>
    obtain ⟨ih_0, ih_43, ih_115, ih_122, ih_140, ih_162, ih_178, ih_225, ih_247, ih_279, ih_326, ih_386⟩ := ih
    refine ⟨?_, ?_, ?_, ?_, ?_, ?_, ?_, ?_, ?_, ?_, ?_, ?_⟩
    · intro i1 μ μ' v hG h
      replace h : ((if (sh_i μ 291 5) = 0 then sh_bind (f_X12_look μ) (fun y240 μ238 => (if y240 = 41 then sh_bind (f_X12_qBracket μ238) (fun y244 μ242 => (if y244 = 20 then F_X12_qGoesOn fuel 2 0 μ242 else sh_bind (f_X12_qBracket μ242) (fun y248 μ246 => (if y248 = 23 then F_X12_qGoesOn fuel 2 0 μ246 else sh_bind (f_X12_qBracket μ246) (fun y252 μ250 => (if y252 = 24 then F_X12_qGoesOn fuel 2 0 μ250 else F_X12_qGoesOn fuel 4 0 μ250)))))) else F_X12_qGoesOn fuel 4 0 μ238)) else F_X12_qGoesOn fuel 4 0 μ) : Option (Int32 × sh_Mem)) = some (v, μ') := h
      have hF : sh_offX μ μ := sh_offX.rf
      by_cases c237 : (sh_i μ 291 5) = 0
      · rw [if_pos c237] at h
        obtain ⟨y240, μ238, hr239, h⟩ := sh_bind_e h
        have hG238 := gp_X12_look hG hr239
        have hF238 := hF.trans (fp_X12_look hG hr239)
        by_cases c241 : y240 = 41
        · rw [if_pos c241] at h
          obtain ⟨y244, μ242, hr243, h⟩ := sh_bind_e h
          have hG242 := gp_X12_qBracket hG238 hr243
          have hF242 := hF238.trans (fp_X12_qBracket hG238 hr243)
          by_cases c245 : y244 = 20
          · rw [if_pos c245] at h
            exact hF242.trans (ih_43 hG242 h)
          · rw [if_neg c245] at h
            obtain ⟨y248, μ246, hr247, h⟩ := sh_bind_e h
            have hG246 := gp_X12_qBracket hG242 hr247
            have hF246 := hF242.trans (fp_X12_qBracket hG242 hr247)
            by_cases c249 : y248 = 23
            · rw [if_pos c249] at h
              exact hF246.trans (ih_43 hG246 h)
            · rw [if_neg c249] at h
              obtain ⟨y252, μ250, hr251, h⟩ := sh_bind_e h
              have hG250 := gp_X12_qBracket hG246 hr251
              have hF250 := hF246.trans (fp_X12_qBracket hG246 hr251)
              by_cases c253 : y252 = 24
              · rw [if_pos c253] at h
                exact hF250.trans (ih_43 hG250 h)
              · rw [if_neg c253] at h
                exact hF250.trans (ih_122 hG250 h)
        · rw [if_neg c241] at h
          exact hF238.trans (ih_122 hG238 h)
      · rw [if_neg c237] at h
        exact hF.trans (ih_122 hG h)
    · intro i1 μ μ' v hG h
      replace h : (sh_let (sh_setI μ 291 2 ((sh_i μ 291 2) + 1)) (fun μ254 => sh_bindv (f_X12_qDropsToBracket μ254) (fun μ255 => sh_let (sh_setI μ255 291 105 ((sh_i μ255 291 105) - 1)) (fun μ258 => sh_let (sh_setI μ258 291 106 ((sh_i μ258 291 106) - 1)) (fun μ259 => (if sh_in (sh_i μ259 291 105) 1700 then (if (sh_i μ259 365 ((sh_i μ259 291 105)).toNatClampNeg) = 20 then F_X12_qGoesOn fuel 3 0 μ259 else (if sh_in (sh_i μ259 291 105) 1700 then (if (sh_i μ259 365 ((sh_i μ259 291 105)).toNatClampNeg) = 23 then sh_bindv (f_X12_qCode 5 μ259) (fun μ267 => F_X12_qGoesOn fuel 3 0 μ267) else sh_bindv (f_X12_qCode 6 μ259) (fun μ264 => F_X12_qGoesOn fuel 3 0 μ264)) else none)) else none))))) : Option (Int32 × sh_Mem)) = some (v, μ') := h
      have hF : sh_offX μ μ := sh_offX.rf
      obtain ⟨μ254, eμ254⟩ : ∃ y : sh_Mem, y = (sh_setI μ 291 2 ((sh_i μ 291 2) + 1)) := ⟨_, rfl⟩
      rw [sh_let_eq eμ254] at h
      have hG254 : sh_G μ254 := by rw [eμ254]; exact hG
      have hF254 : sh_offX μ μ254 := by rw [eμ254]; exact sh_offX_I hF (by decide)
      obtain ⟨μ255, hr256, h⟩ := sh_bindv_e h
      have hG255 := gp_X12_qDropsToBracket hG254 hr256
      have hF255 := hF254.trans (fp_X12_qDropsToBracket hG254 hr256)
      obtain ⟨μ258, eμ258⟩ : ∃ y : sh_Mem, y = (sh_setI μ255 291 105 ((sh_i μ255 291 105) - 1)) := ⟨_, rfl⟩
      rw [sh_let_eq eμ258] at h
      have hG258 : sh_G μ258 := by rw [eμ258]; exact hG255
      have hF258 : sh_offX μ μ258 := by rw [eμ258]; exact sh_offX_I hF255 (by decide)
      obtain ⟨μ259, eμ259⟩ : ∃ y : sh_Mem, y = (sh_setI μ258 291 106 ((sh_i μ258 291 106) - 1)) := ⟨_, rfl⟩
      rw [sh_let_eq eμ259] at h
      have hG259 : sh_G μ259 := by rw [eμ259]; exact hG258
      have hF259 : sh_offX μ μ259 := by rw [eμ259]; exact sh_offX_I hF258 (by decide)
      obtain ⟨k260, h⟩ := sh_chk h
      by_cases c261 : (sh_i μ259 365 ((sh_i μ259 291 105)).toNatClampNeg) = 20
      · rw [if_pos c261] at h
        exact hF259.trans (ih_115 hG259 h)
      · rw [if_neg c261] at h
        obtain ⟨k262, h⟩ := sh_chk h
        by_cases c263 : (sh_i μ259 365 ((sh_i μ259 291 105)).toNatClampNeg) = 23
        · rw [if_pos c263] at h
          obtain ⟨μ267, hr268, h⟩ := sh_bindv_e h
          have hG267 := gp_X12_qCode hG259 hr268
          have hF267 := hF259.trans (fp_X12_qCode hG259 hr268)
          exact hF267.trans (ih_115 hG267 h)
        · rw [if_neg c263] at h
          obtain ⟨μ264, hr265, h⟩ := sh_bindv_e h
          have hG264 := gp_X12_qCode hG259 hr265
          have hF264 := hF259.trans (fp_X12_qCode hG259 hr265)
          exact hF264.trans (ih_115 hG264 h)
    · intro i1 μ μ' v hG h
      replace h : (sh_bindv (f_X12_qEndsPart μ) (fun μ270 => F_X12_qGoesOn fuel 1 0 μ270) : Option (Int32 × sh_Mem)) = some (v, μ') := h
      have hF : sh_offX μ μ := sh_offX.rf
      obtain ⟨μ270, hr271, h⟩ := sh_bindv_e h
      have hG270 := gp_X12_qEndsPart hG hr271
      have hF270 := hF.trans (fp_X12_qEndsPart hG hr271)
      exact hF270.trans (ih_0 hG270 h)
    · intro i1 μ μ' v hG h
      replace h : (sh_bind (f_X12_takesSign 42 μ) (fun y275 μ273 => (if y275 = 0 then sh_bind (f_X12_takesSign 47 μ273) (fun y279 μ277 => (if y279 = 0 then sh_bind (f_X12_takesSign 43 μ277) (fun y283 μ281 => (if y283 = 0 then sh_bind (f_X12_takesSign 45 μ281) (fun y287 μ285 => (if y287 = 0 then sh_bind (f_X12_qBracket μ285) (fun y291 μ289 => (if y291 = 21 then F_X12_qGoesOn fuel 11 0 μ289 else sh_bind (f_X12_qBracket μ289) (fun y295 μ293 => (if y295 = 22 then F_X12_qGoesOn fuel 11 0 μ293 else sh_bind (f_X12_qBracket μ293) (fun y299 μ297 => (if y299 = (-1) then F_X12_qGoesOn fuel 12 0 μ297 else (if (sh_i μ297 291 5) = 0 then sh_bindv (f_X12_fail 1 (sh_i μ297 291 2) μ297) (fun μ302 => F_X12_qGoesOn fuel 12 0 μ302) else F_X12_qGoesOn fuel 12 0 μ297))))))) else F_X12_qGoesOn fuel 8 0 μ285)) else F_X12_qGoesOn fuel 8 0 μ281)) else F_X12_qGoesOn fuel 5 0 μ277)) else F_X12_qGoesOn fuel 5 0 μ273)) : Option (Int32 × sh_Mem)) = some (v, μ') := h
      have hF : sh_offX μ μ := sh_offX.rf
      obtain ⟨y275, μ273, hr274, h⟩ := sh_bind_e h
      have hG273 := gp_X12_takesSign hG hr274
      have hF273 := hF.trans (fp_X12_takesSign hG hr274)
      by_cases c276 : y275 = 0
      · rw [if_pos c276] at h
        obtain ⟨y279, μ277, hr278, h⟩ := sh_bind_e h
        have hG277 := gp_X12_takesSign hG273 hr278
        have hF277 := hF273.trans (fp_X12_takesSign hG273 hr278)
        by_cases c280 : y279 = 0
        · rw [if_pos c280] at h
          obtain ⟨y283, μ281, hr282, h⟩ := sh_bind_e h
          have hG281 := gp_X12_takesSign hG277 hr282
          have hF281 := hF277.trans (fp_X12_takesSign hG277 hr282)
          by_cases c284 : y283 = 0
          · rw [if_pos c284] at h
            obtain ⟨y287, μ285, hr286, h⟩ := sh_bind_e h
            have hG285 := gp_X12_takesSign hG281 hr286
            have hF285 := hF281.trans (fp_X12_takesSign hG281 hr286)
            by_cases c288 : y287 = 0
            · rw [if_pos c288] at h
              obtain ⟨y291, μ289, hr290, h⟩ := sh_bind_e h
              have hG289 := gp_X12_qBracket hG285 hr290
              have hF289 := hF285.trans (fp_X12_qBracket hG285 hr290)
              by_cases c292 : y291 = 21
              · rw [if_pos c292] at h
                exact hF289.trans (ih_326 hG289 h)
              · rw [if_neg c292] at h
                obtain ⟨y295, μ293, hr294, h⟩ := sh_bind_e h
                have hG293 := gp_X12_qBracket hG289 hr294
                have hF293 := hF289.trans (fp_X12_qBracket hG289 hr294)
                by_cases c296 : y295 = 22
                · rw [if_pos c296] at h
                  exact hF293.trans (ih_326 hG293 h)
                · rw [if_neg c296] at h
                  obtain ⟨y299, μ297, hr298, h⟩ := sh_bind_e h
                  have hG297 := gp_X12_qBracket hG293 hr298
                  have hF297 := hF293.trans (fp_X12_qBracket hG293 hr298)
                  by_cases c300 : y299 = (-1)
                  · rw [if_pos c300] at h
                    exact hF297.trans (ih_386 hG297 h)
                  · rw [if_neg c300] at h
                    by_cases c301 : (sh_i μ297 291 5) = 0
                    · rw [if_pos c301] at h
                      obtain ⟨μ302, hr303, h⟩ := sh_bindv_e h
                      have hG302 := gp_X12_fail hG297 hr303
                      have hF302 := hF297.trans (fp_X12_fail hG297 hr303)
                      exact hF302.trans (ih_386 hG302 h)
                    · rw [if_neg c301] at h
                      exact hF297.trans (ih_386 hG297 h)
            · rw [if_neg c288] at h
              exact hF285.trans (ih_225 hG285 h)
          · rw [if_neg c284] at h
            exact hF281.trans (ih_225 hG281 h)
        · rw [if_neg c280] at h
          exact hF277.trans (ih_140 hG277 h)
      · rw [if_neg c276] at h
        exact hF273.trans (ih_140 hG273 h)
    · intro i1 μ μ' v hG h
      replace h : ((if sh_in ((sh_i μ 291 2) - 1) 1600 then (if (sh_i μ 292 (((sh_i μ 291 2) - 1)).toNatClampNeg) = 42 then F_X12_qGoesOn fuel 6 3 μ else F_X12_qGoesOn fuel 6 4 μ) else none) : Option (Int32 × sh_Mem)) = some (v, μ') := h
      have hF : sh_offX μ μ := sh_offX.rf
      obtain ⟨k305, h⟩ := sh_chk h
      by_cases c306 : (sh_i μ 292 (((sh_i μ 291 2) - 1)).toNatClampNeg) = 42
      · rw [if_pos c306] at h
        exact hF.trans (ih_162 hG h)
      · rw [if_neg c306] at h
        exact hF.trans (ih_162 hG h)
    · intro i1 μ μ' v hG h
      replace h : (sh_bind (f_X12_qIsOn 3 μ) (fun y309 μ307 => (if y309 = 0 then sh_bind (f_X12_qIsOn 4 μ307) (fun y313 μ311 => (if y313 = 0 then (if sh_in (sh_i μ311 291 105) 1700 then sh_let (sh_setI μ311 365 ((sh_i μ311 291 105)).toNatClampNeg i1) (fun μ316 => sh_let (sh_setI μ316 291 105 ((sh_i μ316 291 105) + 1)) (fun μ317 => some (1, μ317))) else none) else F_X12_qGoesOn fuel 7 i1 μ311)) else F_X12_qGoesOn fuel 7 i1 μ307)) : Option (Int32 × sh_Mem)) = some (v, μ') := h
      have hF : sh_offX μ μ := sh_offX.rf
      obtain ⟨y309, μ307, hr308, h⟩ := sh_bind_e h
      have hG307 := gp_X12_qIsOn hG hr308
      have hF307 := hF.trans (fp_X12_qIsOn hG hr308)
      by_cases c310 : y309 = 0
      · rw [if_pos c310] at h
        obtain ⟨y313, μ311, hr312, h⟩ := sh_bind_e h
        have hG311 := gp_X12_qIsOn hG307 hr312
        have hF311 := hF307.trans (fp_X12_qIsOn hG307 hr312)
        by_cases c314 : y313 = 0
        · rw [if_pos c314] at h
          obtain ⟨k315, h⟩ := sh_chk h
          obtain ⟨μ316, eμ316⟩ : ∃ y : sh_Mem, y = (sh_setI μ311 365 ((sh_i μ311 291 105)).toNatClampNeg i1) := ⟨_, rfl⟩
          rw [sh_let_eq eμ316] at h
          have hG316 : sh_G μ316 := by rw [eμ316]; exact hG311
          have hF316 : sh_offX μ μ316 := by rw [eμ316]; exact sh_offX_I hF311 (by decide)
          obtain ⟨μ317, eμ317⟩ : ∃ y : sh_Mem, y = (sh_setI μ316 291 105 ((sh_i μ316 291 105) + 1)) := ⟨_, rfl⟩
          rw [sh_let_eq eμ317] at h
          have hG317 : sh_G μ317 := by rw [eμ317]; exact hG316
          have hF317 : sh_offX μ μ317 := by rw [eμ317]; exact sh_offX_I hF316 (by decide)
          obtain ⟨e1, e2⟩ := sh_some2 h
          exact e2 ▸ hF317
        · rw [if_neg c314] at h
          exact hF311.trans (ih_178 hG311 h)
      · rw [if_neg c310] at h
        exact hF307.trans (ih_178 hG307 h)
    · intro i1 μ μ' v hG h
      replace h : (sh_bindv (f_X12_qDrops μ) (fun μ318 => F_X12_qGoesOn fuel 6 i1 μ318) : Option (Int32 × sh_Mem)) = some (v, μ') := h
      have hF : sh_offX μ μ := sh_offX.rf
      obtain ⟨μ318, hr319, h⟩ := sh_bindv_e h
      have hG318 := gp_X12_qDrops hG hr319
      have hF318 := hF.trans (fp_X12_qDrops hG hr319)
      exact hF318.trans (ih_162 hG318 h)
    · intro i1 μ μ' v hG h
      replace h : ((if sh_in ((sh_i μ 291 2) - 1) 1600 then (if (sh_i μ 292 (((sh_i μ 291 2) - 1)).toNatClampNeg) = 43 then F_X12_qGoesOn fuel 9 1 μ else F_X12_qGoesOn fuel 9 2 μ) else none) : Option (Int32 × sh_Mem)) = some (v, μ') := h
      have hF : sh_offX μ μ := sh_offX.rf
      obtain ⟨k321, h⟩ := sh_chk h
      by_cases c322 : (sh_i μ 292 (((sh_i μ 291 2) - 1)).toNatClampNeg) = 43
      · rw [if_pos c322] at h
        exact hF.trans (ih_247 hG h)
      · rw [if_neg c322] at h
        exact hF.trans (ih_247 hG h)
    · intro i1 μ μ' v hG h
      replace h : (sh_bind (f_X12_qIsOn 3 μ) (fun y325 μ323 => (if y325 = 0 then sh_bind (f_X12_qIsOn 4 μ323) (fun y329 μ327 => (if y329 = 0 then sh_bind (f_X12_qIsOn 1 μ327) (fun y333 μ331 => (if y333 = 0 then sh_bind (f_X12_qIsOn 2 μ331) (fun y337 μ335 => (if y337 = 0 then (if sh_in (sh_i μ335 291 105) 1700 then sh_let (sh_setI μ335 365 ((sh_i μ335 291 105)).toNatClampNeg i1) (fun μ340 => sh_let (sh_setI μ340 291 105 ((sh_i μ340 291 105) + 1)) (fun μ341 => some (1, μ341))) else none) else F_X12_qGoesOn fuel 10 i1 μ335)) else F_X12_qGoesOn fuel 10 i1 μ331)) else F_X12_qGoesOn fuel 10 i1 μ327)) else F_X12_qGoesOn fuel 10 i1 μ323)) : Option (Int32 × sh_Mem)) = some (v, μ') := h
      have hF : sh_offX μ μ := sh_offX.rf
      obtain ⟨y325, μ323, hr324, h⟩ := sh_bind_e h
      have hG323 := gp_X12_qIsOn hG hr324
      have hF323 := hF.trans (fp_X12_qIsOn hG hr324)
      by_cases c326 : y325 = 0
      · rw [if_pos c326] at h
        obtain ⟨y329, μ327, hr328, h⟩ := sh_bind_e h
        have hG327 := gp_X12_qIsOn hG323 hr328
        have hF327 := hF323.trans (fp_X12_qIsOn hG323 hr328)
        by_cases c330 : y329 = 0
        · rw [if_pos c330] at h
          obtain ⟨y333, μ331, hr332, h⟩ := sh_bind_e h
          have hG331 := gp_X12_qIsOn hG327 hr332
          have hF331 := hF327.trans (fp_X12_qIsOn hG327 hr332)
          by_cases c334 : y333 = 0
          · rw [if_pos c334] at h
            obtain ⟨y337, μ335, hr336, h⟩ := sh_bind_e h
            have hG335 := gp_X12_qIsOn hG331 hr336
            have hF335 := hF331.trans (fp_X12_qIsOn hG331 hr336)
            by_cases c338 : y337 = 0
            · rw [if_pos c338] at h
              obtain ⟨k339, h⟩ := sh_chk h
              obtain ⟨μ340, eμ340⟩ : ∃ y : sh_Mem, y = (sh_setI μ335 365 ((sh_i μ335 291 105)).toNatClampNeg i1) := ⟨_, rfl⟩
              rw [sh_let_eq eμ340] at h
              have hG340 : sh_G μ340 := by rw [eμ340]; exact hG335
              have hF340 : sh_offX μ μ340 := by rw [eμ340]; exact sh_offX_I hF335 (by decide)
              obtain ⟨μ341, eμ341⟩ : ∃ y : sh_Mem, y = (sh_setI μ340 291 105 ((sh_i μ340 291 105) + 1)) := ⟨_, rfl⟩
              rw [sh_let_eq eμ341] at h
              have hG341 : sh_G μ341 := by rw [eμ341]; exact hG340
              have hF341 : sh_offX μ μ341 := by rw [eμ341]; exact sh_offX_I hF340 (by decide)
              obtain ⟨e1, e2⟩ := sh_some2 h
              exact e2 ▸ hF341
            · rw [if_neg c338] at h
              exact hF335.trans (ih_279 hG335 h)
          · rw [if_neg c334] at h
            exact hF331.trans (ih_279 hG331 h)
        · rw [if_neg c330] at h
          exact hF327.trans (ih_279 hG327 h)
      · rw [if_neg c326] at h
        exact hF323.trans (ih_279 hG323 h)
    · intro i1 μ μ' v hG h
      replace h : (sh_bindv (f_X12_qDrops μ) (fun μ342 => F_X12_qGoesOn fuel 9 i1 μ342) : Option (Int32 × sh_Mem)) = some (v, μ') := h
      have hF : sh_offX μ μ := sh_offX.rf
      obtain ⟨μ342, hr343, h⟩ := sh_bindv_e h
      have hG342 := gp_X12_qDrops hG hr343
      have hF342 := hF.trans (fp_X12_qDrops hG hr343)
      exact hF342.trans (ih_247 hG342 h)
    · intro i1 μ μ' v hG h
      replace h : (sh_bindv (f_X12_asksSign 44 μ) (fun μ345 => (if (sh_i μ345 291 5) = 0 then sh_bindv (f_X12_qDropsToBracket μ345) (fun μ349 => (if sh_in ((sh_i μ349 291 105) - 1) 1700 then (if sh_in ((sh_i μ349 291 105) - 1) 1700 then sh_let (sh_setI μ349 365 (((sh_i μ349 291 105) - 1)).toNatClampNeg ((sh_i μ349 365 (((sh_i μ349 291 105) - 1)).toNatClampNeg) + 2)) (fun μ354 => some (1, μ354)) else none) else none)) else some (0, μ345))) : Option (Int32 × sh_Mem)) = some (v, μ') := h
      have hF : sh_offX μ μ := sh_offX.rf
      obtain ⟨μ345, hr346, h⟩ := sh_bindv_e h
      have hG345 := gp_X12_asksSign hG hr346
      have hF345 := hF.trans (fp_X12_asksSign hG hr346)
      by_cases c348 : (sh_i μ345 291 5) = 0
      · rw [if_pos c348] at h
        obtain ⟨μ349, hr350, h⟩ := sh_bindv_e h
        have hG349 := gp_X12_qDropsToBracket hG345 hr350
        have hF349 := hF345.trans (fp_X12_qDropsToBracket hG345 hr350)
        obtain ⟨k352, h⟩ := sh_chk h
        obtain ⟨k353, h⟩ := sh_chk h
        obtain ⟨μ354, eμ354⟩ : ∃ y : sh_Mem, y = (sh_setI μ349 365 (((sh_i μ349 291 105) - 1)).toNatClampNeg ((sh_i μ349 365 (((sh_i μ349 291 105) - 1)).toNatClampNeg) + 2)) := ⟨_, rfl⟩
        rw [sh_let_eq eμ354] at h
        have hG354 : sh_G μ354 := by rw [eμ354]; exact hG349
        have hF354 : sh_offX μ μ354 := by rw [eμ354]; exact sh_offX_I hF349 (by decide)
        obtain ⟨e1, e2⟩ := sh_some2 h
        exact e2 ▸ hF354
      · rw [if_neg c348] at h
        obtain ⟨e1, e2⟩ := sh_some2 h
        exact e2 ▸ hF345
    · intro i1 μ μ' v hG h
      replace h : (some (0, μ) : Option (Int32 × sh_Mem)) = some (v, μ') := h
      have hF : sh_offX μ μ := sh_offX.rf
      obtain ⟨e1, e2⟩ := sh_some2 h
      exact e2 ▸ hF
theorem fp_X12_qGoesOn {μ μ' : sh_Mem} {v : Int32} (hG : sh_G μ) (h : f_X12_qGoesOn μ = some (v, μ')) : sh_offX μ μ' := by
  have ih_0 := (fpl_X12_qGoesOn sh_fuel).1
  have ih_43 := (fpl_X12_qGoesOn sh_fuel).2.1
  have ih_115 := (fpl_X12_qGoesOn sh_fuel).2.2.1
  have ih_122 := (fpl_X12_qGoesOn sh_fuel).2.2.2.1
  have ih_140 := (fpl_X12_qGoesOn sh_fuel).2.2.2.2.1
  have ih_162 := (fpl_X12_qGoesOn sh_fuel).2.2.2.2.2.1
  have ih_178 := (fpl_X12_qGoesOn sh_fuel).2.2.2.2.2.2.1
  have ih_225 := (fpl_X12_qGoesOn sh_fuel).2.2.2.2.2.2.2.1
  have ih_247 := (fpl_X12_qGoesOn sh_fuel).2.2.2.2.2.2.2.2.1
  have ih_279 := (fpl_X12_qGoesOn sh_fuel).2.2.2.2.2.2.2.2.2.1
  have ih_326 := (fpl_X12_qGoesOn sh_fuel).2.2.2.2.2.2.2.2.2.2.1
  have ih_386 := (fpl_X12_qGoesOn sh_fuel).2.2.2.2.2.2.2.2.2.2.2
  have hF : sh_offX μ μ := sh_offX.rf
  unfold f_X12_qGoesOn at h
  exact hF.trans (ih_0 hG h)
