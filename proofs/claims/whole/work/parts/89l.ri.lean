/-! THE REFERENCE: without a fault there is no place of one -/
def rI (μ μ' : sh_Mem) : Prop := (sh_i μ 291 5 = 0 → sh_i μ 291 6 = -1) → (sh_i μ' 291 5 = 0 → sh_i μ' 291 6 = -1)
theorem rI.rf {μ : sh_Mem} : rI μ μ := fun h => h
theorem rI.trans {a b c : sh_Mem} (h : rI a b) (g : rI b c) : rI a c := fun z => g (h z)
theorem rI_I {a μ : sh_Mem} {r k : Nat} {x : Int32} (h : rI a μ) (q : ¬ r = 291 ∨ (¬ k = 5 ∧ ¬ k = 6)) : rI a (sh_setI μ r k x) := fun z => by
  rw [sh_i_set, if_neg (by omega), sh_i_set, if_neg (by omega)]
  exact h z
theorem rI_L {a μ : sh_Mem} {r k : Nat} {x : Int64} (h : rI a μ) : rI a (sh_setL μ r k x) := h
theorem ri_X12_fail {a1 a2 : Int32} {μ μ' : sh_Mem} (h : f_X12_fail a1 a2 μ = some μ') (hn : ¬ a1 = 0) : rI μ μ' := fun z => by
  unfold f_X12_fail at h
  by_cases c : sh_i μ 291 5 = 0
  · rw [if_pos c, shl_ap, shl_ap] at h
    have e := Option.some.inj h
    rw [← e, ir_set_k (by omega), ir_set]
    exact fun q => absurd q hn
  · rw [if_neg c] at h
    rw [← Option.some.inj h]
    exact z
theorem ril_X12_look (fuel : Nat) : (∀ ⦃μ μ' : sh_Mem⦄ ⦃v : Int32⦄, sh_G μ → F_X12_look fuel 1 μ = some (v, μ') → rI μ μ') := by
  induction fuel with
  | zero => intro μ μ' v hG h; cases h
  | succ fuel ih =>
    have ih_0 := ih
    intro μ μ' v hG h
    replace h : ((if (sh_i μ 291 3) ≤ (sh_i μ 291 2) then (if (sh_i μ 291 3) ≤ (sh_i μ 291 2) then some ((-1), μ) else (if sh_in (sh_i μ 291 2) 1600 then some ((sh_i μ 292 ((sh_i μ 291 2)).toNatClampNeg), μ) else none)) else (if sh_in (sh_i μ 291 2) 1600 then (if (sh_i μ 292 ((sh_i μ 291 2)).toNatClampNeg) = 10 then sh_let (sh_setI μ 291 2 ((sh_i μ 291 2) + 1)) (fun μ17 => F_X12_look fuel 1  μ17) else (if sh_in (sh_i μ 291 2) 1600 then (if (sh_i μ 292 ((sh_i μ 291 2)).toNatClampNeg) = 32 then sh_let (sh_setI μ 291 2 ((sh_i μ 291 2) + 1)) (fun μ22 => F_X12_look fuel 1  μ22) else (if (sh_i μ 291 3) ≤ (sh_i μ 291 2) then some ((-1), μ) else (if sh_in (sh_i μ 291 2) 1600 then some ((sh_i μ 292 ((sh_i μ 291 2)).toNatClampNeg), μ) else none))) else none)) else none)) : Option (Int32 × sh_Mem)) = some (v, μ') := h
    have hF : rI μ μ := rI.rf
    by_cases c12 : (sh_i μ 291 3) ≤ (sh_i μ 291 2)
    · rw [if_pos c12] at h
      by_cases c13 : (sh_i μ 291 3) ≤ (sh_i μ 291 2)
      · rw [if_pos c13] at h
        obtain ⟨e1, e2⟩ := sh_some2 h
        exact e2 ▸ hF
      · rw [if_neg c13] at h
        obtain ⟨k14, h⟩ := sh_chk h
        obtain ⟨e1, e2⟩ := sh_some2 h
        exact e2 ▸ hF
    · rw [if_neg c12] at h
      obtain ⟨k15, h⟩ := sh_chk h
      by_cases c16 : (sh_i μ 292 ((sh_i μ 291 2)).toNatClampNeg) = 10
      · rw [if_pos c16] at h
        obtain ⟨μ17, eμ17⟩ : ∃ y : sh_Mem, y = (sh_setI μ 291 2 ((sh_i μ 291 2) + 1)) := ⟨_, rfl⟩
        rw [sh_let_eq eμ17] at h
        have hG17 : sh_G μ17 := by rw [eμ17]; exact hG
        have hF17 : rI μ μ17 := by rw [eμ17]; exact rI_I hF (by first | exact Or.inl (by decide) | exact Or.inr (by decide))
        exact hF17.trans (ih_0 hG17 h)
      · rw [if_neg c16] at h
        obtain ⟨k18, h⟩ := sh_chk h
        by_cases c19 : (sh_i μ 292 ((sh_i μ 291 2)).toNatClampNeg) = 32
        · rw [if_pos c19] at h
          obtain ⟨μ22, eμ22⟩ : ∃ y : sh_Mem, y = (sh_setI μ 291 2 ((sh_i μ 291 2) + 1)) := ⟨_, rfl⟩
          rw [sh_let_eq eμ22] at h
          have hG22 : sh_G μ22 := by rw [eμ22]; exact hG
          have hF22 : rI μ μ22 := by rw [eμ22]; exact rI_I hF (by first | exact Or.inl (by decide) | exact Or.inr (by decide))
          exact hF22.trans (ih_0 hG22 h)
        · rw [if_neg c19] at h
          by_cases c20 : (sh_i μ 291 3) ≤ (sh_i μ 291 2)
          · rw [if_pos c20] at h
            obtain ⟨e1, e2⟩ := sh_some2 h
            exact e2 ▸ hF
          · rw [if_neg c20] at h
            obtain ⟨k21, h⟩ := sh_chk h
            obtain ⟨e1, e2⟩ := sh_some2 h
            exact e2 ▸ hF
theorem ri_X12_look {μ μ' : sh_Mem} {v : Int32} (hG : sh_G μ) (h : f_X12_look μ = some (v, μ')) : rI μ μ' := by
  have ih_0 := (ril_X12_look sh_fuel)
  have hF : rI μ μ := rI.rf
  unfold f_X12_look at h
  exact hF.trans (ih_0 hG h)
theorem ril_X12_isHere (fuel : Nat) : (∀ ⦃n : Nat⦄ ⦃r1 : Nat⦄ ⦃i2 : Int32⦄ ⦃i3 : Int32⦄ ⦃μ μ' : sh_Mem⦄ ⦃v : Int32⦄, sh_G μ → sh_LAY[r1]? = some (15, n) → 291 ≤ r1 → F_X12_isHere fuel 1 n r1 i2 i3 μ = some (v, μ') → rI μ μ') ∧ (∀ ⦃n : Nat⦄ ⦃r1 : Nat⦄ ⦃i2 : Int32⦄ ⦃i3 : Int32⦄ ⦃μ μ' : sh_Mem⦄ ⦃v : Int32⦄, sh_G μ → sh_LAY[r1]? = some (15, n) → 291 ≤ r1 → F_X12_isHere fuel 2 n r1 i2 i3 μ = some (v, μ') → rI μ μ') := by
  induction fuel with
  | zero => exact ⟨(by intro n r1 i2 i3 μ μ' v hG hr1 hr1l h; cases h), (by intro n r1 i2 i3 μ μ' v hG hr1 hr1l h; cases h)⟩
  | succ fuel ih =>
    obtain ⟨ih_35, ih_76⟩ := ih
    refine ⟨?_, ?_⟩
    · intro n r1 i2 i3 μ μ' v hG hr1 hr1l h
      replace h : ((if (sh_i μ 291 3) ≤ i2 then (if (i2 - (sh_i μ 291 2)) = (Int32.ofNat n) then F_X12_isHere fuel 2 n r1 i2 0 μ else some (0, μ)) else (if sh_in i2 1600 then (if (f_X12_isLetter μ (sh_i μ 292 i2.toNatClampNeg)) = 0 then (if (i2 - (sh_i μ 291 2)) = (Int32.ofNat n) then F_X12_isHere fuel 2 n r1 i2 0 μ else some (0, μ)) else F_X12_isHere fuel 1 n r1 (i2 + 1) 0 μ) else none)) : Option (Int32 × sh_Mem)) = some (v, μ') := h
      have hF : rI μ μ := rI.rf
      by_cases c26 : (sh_i μ 291 3) ≤ i2
      · rw [if_pos c26] at h
        by_cases c27 : (i2 - (sh_i μ 291 2)) = (Int32.ofNat n)
        · rw [if_pos c27] at h
          exact hF.trans (ih_76 hG hr1 hr1l h)
        · rw [if_neg c27] at h
          obtain ⟨e1, e2⟩ := sh_some2 h
          exact e2 ▸ hF
      · rw [if_neg c26] at h
        obtain ⟨k28, h⟩ := sh_chk h
        by_cases c29 : (f_X12_isLetter μ (sh_i μ 292 i2.toNatClampNeg)) = 0
        · rw [if_pos c29] at h
          by_cases c30 : (i2 - (sh_i μ 291 2)) = (Int32.ofNat n)
          · rw [if_pos c30] at h
            exact hF.trans (ih_76 hG hr1 hr1l h)
          · rw [if_neg c30] at h
            obtain ⟨e1, e2⟩ := sh_some2 h
            exact e2 ▸ hF
        · rw [if_neg c29] at h
          exact hF.trans (ih_35 hG hr1 hr1l h)
    · intro n r1 i2 i3 μ μ' v hG hr1 hr1l h
      replace h : ((if (Int32.ofNat n) ≤ i3 then some (1, μ) else (if sh_in ((sh_i μ 291 2) + i3) 1600 then (if sh_in i3 n then (if (sh_i μ 292 (((sh_i μ 291 2) + i3)).toNatClampNeg) = (sh_i μ r1 i3.toNatClampNeg) then F_X12_isHere fuel 2 n r1 i2 (i3 + 1) μ else some (0, μ)) else none) else none)) : Option (Int32 × sh_Mem)) = some (v, μ') := h
      have hF : rI μ μ := rI.rf
      by_cases c31 : (Int32.ofNat n) ≤ i3
      · rw [if_pos c31] at h
        obtain ⟨e1, e2⟩ := sh_some2 h
        exact e2 ▸ hF
      · rw [if_neg c31] at h
        obtain ⟨k32, h⟩ := sh_chk h
        obtain ⟨k33, h⟩ := sh_chk h
        by_cases c34 : (sh_i μ 292 (((sh_i μ 291 2) + i3)).toNatClampNeg) = (sh_i μ r1 i3.toNatClampNeg)
        · rw [if_pos c34] at h
          exact hF.trans (ih_76 hG hr1 hr1l h)
        · rw [if_neg c34] at h
          obtain ⟨e1, e2⟩ := sh_some2 h
          exact e2 ▸ hF
theorem ri_X12_isHere {g : Nat} {n : Nat} {μ μ' : sh_Mem} {v : Int32} (hG : sh_G μ) (hg : sh_LAY[g]? = some (15, n)) (hgl : 291 ≤ g) (h : f_X12_isHere g n μ = some (v, μ')) : rI μ μ' := by
  have ih_35 := (ril_X12_isHere sh_fuel).1
  have ih_76 := (ril_X12_isHere sh_fuel).2
  have hF : rI μ μ := rI.rf
  unfold f_X12_isHere at h
  by_cases c35 : (sh_i μ 291 5) = 0
  · rw [if_pos c35] at h
    obtain ⟨y38, μ36, hr37, h⟩ := sh_bind_e h
    have hG36 := gp_X12_look hG hr37
    have hF36 := hF.trans (ri_X12_look hG hr37)
    by_cases c39 : (f_X12_isLetter μ36 y38) = 0
    · rw [if_pos c39] at h
      obtain ⟨e1, e2⟩ := sh_some2 h
      exact e2 ▸ hF36
    · rw [if_neg c39] at h
      by_cases c40 : (sh_i μ36 291 2) = (sh_i μ36 291 4)
      · rw [if_pos c40] at h
        obtain ⟨e1, e2⟩ := sh_some2 h
        exact e2 ▸ hF36
      · rw [if_neg c40] at h
        obtain ⟨x41, ex41⟩ : ∃ y : Int32, y = (sh_i μ36 291 2) := ⟨_, rfl⟩
        rw [sh_let_eq ex41] at h
        exact hF36.trans (ih_35 hG36 hg hgl h)
  · rw [if_neg c35] at h
    obtain ⟨e1, e2⟩ := sh_some2 h
    exact e2 ▸ hF
theorem ri_X12_takes {g : Nat} {n : Nat} {μ μ' : sh_Mem} {v : Int32} (hG : sh_G μ) (hg : sh_LAY[g]? = some (15, n)) (hgl : 291 ≤ g) (h : f_X12_takes g n μ = some (v, μ')) : rI μ μ' := by
  have hF : rI μ μ := rI.rf
  unfold f_X12_takes at h
  obtain ⟨y3, μ1, hr2, h⟩ := sh_bind_e h
  have hG1 := gp_X12_isHere hG hg hr2
  have hF1 := hF.trans (ri_X12_isHere hG hg hgl hr2)
  by_cases c4 : y3 = 0
  · rw [if_pos c4] at h
    obtain ⟨e1, e2⟩ := sh_some2 h
    exact e2 ▸ hF1
  · rw [if_neg c4] at h
    obtain ⟨μ5, eμ5⟩ : ∃ y : sh_Mem, y = (sh_setI μ1 291 2 ((sh_i μ1 291 2) + (Int32.ofNat n))) := ⟨_, rfl⟩
    rw [sh_let_eq eμ5] at h
    have hG5 : sh_G μ5 := by rw [eμ5]; exact hG1
    have hF5 : rI μ μ5 := by rw [eμ5]; exact rI_I hF1 (by first | exact Or.inl (by decide) | exact Or.inr (by decide))
    obtain ⟨μ6, eμ6⟩ : ∃ y : sh_Mem, y = (sh_setI μ5 291 4 (sh_i μ5 291 2)) := ⟨_, rfl⟩
    rw [sh_let_eq eμ6] at h
    have hG6 : sh_G μ6 := by rw [eμ6]; exact hG5
    have hF6 : rI μ μ6 := by rw [eμ6]; exact rI_I hF5 (by first | exact Or.inl (by decide) | exact Or.inr (by decide))
    obtain ⟨e1, e2⟩ := sh_some2 h
    exact e2 ▸ hF6
theorem ri_X12_needs {g : Nat} {n : Nat} {μ μ' : sh_Mem} (hG : sh_G μ) (hg : sh_LAY[g]? = some (15, n)) (hgl : 291 ≤ g) (h : f_X12_needs g n μ = some μ') : rI μ μ' := by
  have hF : rI μ μ := rI.rf
  unfold f_X12_needs at h
  by_cases c1 : (sh_i μ 291 5) = 0
  · rw [if_pos c1] at h
    obtain ⟨y4, μ2, hr3, h⟩ := sh_bind_e h
    have hG2 := gp_X12_takes hG hg hr3
    have hF2 := hF.trans (ri_X12_takes hG hg hgl hr3)
    by_cases c5 : y4 = 0
    · rw [if_pos c5] at h
      obtain ⟨μ6, hr7, h⟩ := sh_bindv_e h
      have hG6 := gp_X12_fail hG2 hr7
      have hF6 := hF2.trans (ri_X12_fail hr7 (by decide))
      have e2 := Option.some.inj h
      exact e2 ▸ hF6
    · rw [if_neg c5] at h
      have e2 := Option.some.inj h
      exact e2 ▸ hF2
  · rw [if_neg c1] at h
    have e2 := Option.some.inj h
    exact e2 ▸ hF
theorem ri_X12_takesSign {a1 : Int32} {μ μ' : sh_Mem} {v : Int32} (hG : sh_G μ) (h : f_X12_takesSign a1 μ = some (v, μ')) : rI μ μ' := by
  have hF : rI μ μ := rI.rf
  unfold f_X12_takesSign at h
  by_cases c1 : (sh_i μ 291 5) = 0
  · rw [if_pos c1] at h
    obtain ⟨y4, μ2, hr3, h⟩ := sh_bind_e h
    have hG2 := gp_X12_look hG hr3
    have hF2 := hF.trans (ri_X12_look hG hr3)
    by_cases c5 : y4 = a1
    · rw [if_pos c5] at h
      obtain ⟨μ6, eμ6⟩ : ∃ y : sh_Mem, y = (sh_setI μ2 291 2 ((sh_i μ2 291 2) + 1)) := ⟨_, rfl⟩
      rw [sh_let_eq eμ6] at h
      have hG6 : sh_G μ6 := by rw [eμ6]; exact hG2
      have hF6 : rI μ μ6 := by rw [eμ6]; exact rI_I hF2 (by first | exact Or.inl (by decide) | exact Or.inr (by decide))
      obtain ⟨e1, e2⟩ := sh_some2 h
      exact e2 ▸ hF6
    · rw [if_neg c5] at h
      obtain ⟨e1, e2⟩ := sh_some2 h
      exact e2 ▸ hF2
  · rw [if_neg c1] at h
    obtain ⟨e1, e2⟩ := sh_some2 h
    exact e2 ▸ hF
theorem ri_X12_asksSign {a1 : Int32} {μ μ' : sh_Mem} (hG : sh_G μ) (h : f_X12_asksSign a1 μ = some μ') : rI μ μ' := by
  have hF : rI μ μ := rI.rf
  unfold f_X12_asksSign at h
  by_cases c1 : (sh_i μ 291 5) = 0
  · rw [if_pos c1] at h
    obtain ⟨y4, μ2, hr3, h⟩ := sh_bind_e h
    have hG2 := gp_X12_takesSign hG hr3
    have hF2 := hF.trans (ri_X12_takesSign hG hr3)
    by_cases c5 : y4 = 0
    · rw [if_pos c5] at h
      obtain ⟨μ6, hr7, h⟩ := sh_bindv_e h
      have hG6 := gp_X12_fail hG2 hr7
      have hF6 := hF2.trans (ri_X12_fail hr7 (by decide))
      have e2 := Option.some.inj h
      exact e2 ▸ hF6
    · rw [if_neg c5] at h
      have e2 := Option.some.inj h
      exact e2 ▸ hF2
  · rw [if_neg c1] at h
    have e2 := Option.some.inj h
    exact e2 ▸ hF
theorem ril_X12_number (fuel : Nat) : (∀ ⦃i1 : Int32⦄ ⦃i2 : Int32⦄ ⦃i3 : Int32⦄ ⦃i4 : Int32⦄ ⦃μ μ' : sh_Mem⦄ ⦃v : Int32⦄, sh_G μ → F_X12_number fuel 1 i1 i2 i3 i4 μ = some (v, μ') → rI μ μ') := by
  induction fuel with
  | zero => intro i1 i2 i3 i4 μ μ' v hG h; cases h
  | succ fuel ih =>
    have ih_49 := ih
    intro i1 i2 i3 i4 μ μ' v hG h
    replace h : ((if (sh_i μ 291 3) ≤ (sh_i μ 291 2) then sh_let (sh_setI μ 291 4 (sh_i μ 291 2)) (fun μ37 => sh_let (sh_setI μ37 291 10 i3) (fun μ38 => (if (f_X12_isIn μ38 (i4).toInt64 (i1).toInt64 (i2).toInt64) = 0 then sh_bindv (f_X12_fail 2 (sh_i μ38 291 10) μ38) (fun μ40 => some (i4, μ40)) else some (i4, μ38)))) else (if sh_in (sh_i μ 291 2) 1600 then (if (f_X12_isDigit μ (sh_i μ 292 ((sh_i μ 291 2)).toNatClampNeg)) = 0 then sh_let (sh_setI μ 291 4 (sh_i μ 291 2)) (fun μ45 => sh_let (sh_setI μ45 291 10 i3) (fun μ46 => (if (f_X12_isIn μ46 (i4).toInt64 (i1).toInt64 (i2).toInt64) = 0 then sh_bindv (f_X12_fail 2 (sh_i μ46 291 10) μ46) (fun μ48 => some (i4, μ48)) else some (i4, μ46)))) else (if ((sh_i μ 291 2) - i3) = 4 then sh_bindv (f_X12_fail 1 (sh_i μ 291 2) μ) (fun μ55 => some (0, μ55)) else (if sh_in (sh_i μ 291 2) 1600 then sh_let ((((10 * i4) + (sh_i μ 292 ((sh_i μ 291 2)).toNatClampNeg)) - 48) : Int32) (fun x53 => sh_let (sh_setI μ 291 2 ((sh_i μ 291 2) + 1)) (fun μ54 => F_X12_number fuel 1 i1 i2 i3 x53 μ54)) else none))) else none)) : Option (Int32 × sh_Mem)) = some (v, μ') := h
    have hF : rI μ μ := rI.rf
    by_cases c36 : (sh_i μ 291 3) ≤ (sh_i μ 291 2)
    · rw [if_pos c36] at h
      obtain ⟨μ37, eμ37⟩ : ∃ y : sh_Mem, y = (sh_setI μ 291 4 (sh_i μ 291 2)) := ⟨_, rfl⟩
      rw [sh_let_eq eμ37] at h
      have hG37 : sh_G μ37 := by rw [eμ37]; exact hG
      have hF37 : rI μ μ37 := by rw [eμ37]; exact rI_I hF (by first | exact Or.inl (by decide) | exact Or.inr (by decide))
      obtain ⟨μ38, eμ38⟩ : ∃ y : sh_Mem, y = (sh_setI μ37 291 10 i3) := ⟨_, rfl⟩
      rw [sh_let_eq eμ38] at h
      have hG38 : sh_G μ38 := by rw [eμ38]; exact hG37
      have hF38 : rI μ μ38 := by rw [eμ38]; exact rI_I hF37 (by first | exact Or.inl (by decide) | exact Or.inr (by decide))
      by_cases c39 : (f_X12_isIn μ38 (i4).toInt64 (i1).toInt64 (i2).toInt64) = 0
      · rw [if_pos c39] at h
        obtain ⟨μ40, hr41, h⟩ := sh_bindv_e h
        have hG40 := gp_X12_fail hG38 hr41
        have hF40 := hF38.trans (ri_X12_fail hr41 (by decide))
        obtain ⟨e1, e2⟩ := sh_some2 h
        exact e2 ▸ hF40
      · rw [if_neg c39] at h
        obtain ⟨e1, e2⟩ := sh_some2 h
        exact e2 ▸ hF38
    · rw [if_neg c36] at h
      obtain ⟨k43, h⟩ := sh_chk h
      by_cases c44 : (f_X12_isDigit μ (sh_i μ 292 ((sh_i μ 291 2)).toNatClampNeg)) = 0
      · rw [if_pos c44] at h
        obtain ⟨μ45, eμ45⟩ : ∃ y : sh_Mem, y = (sh_setI μ 291 4 (sh_i μ 291 2)) := ⟨_, rfl⟩
        rw [sh_let_eq eμ45] at h
        have hG45 : sh_G μ45 := by rw [eμ45]; exact hG
        have hF45 : rI μ μ45 := by rw [eμ45]; exact rI_I hF (by first | exact Or.inl (by decide) | exact Or.inr (by decide))
        obtain ⟨μ46, eμ46⟩ : ∃ y : sh_Mem, y = (sh_setI μ45 291 10 i3) := ⟨_, rfl⟩
        rw [sh_let_eq eμ46] at h
        have hG46 : sh_G μ46 := by rw [eμ46]; exact hG45
        have hF46 : rI μ μ46 := by rw [eμ46]; exact rI_I hF45 (by first | exact Or.inl (by decide) | exact Or.inr (by decide))
        by_cases c47 : (f_X12_isIn μ46 (i4).toInt64 (i1).toInt64 (i2).toInt64) = 0
        · rw [if_pos c47] at h
          obtain ⟨μ48, hr49, h⟩ := sh_bindv_e h
          have hG48 := gp_X12_fail hG46 hr49
          have hF48 := hF46.trans (ri_X12_fail hr49 (by decide))
          obtain ⟨e1, e2⟩ := sh_some2 h
          exact e2 ▸ hF48
        · rw [if_neg c47] at h
          obtain ⟨e1, e2⟩ := sh_some2 h
          exact e2 ▸ hF46
      · rw [if_neg c44] at h
        by_cases c51 : ((sh_i μ 291 2) - i3) = 4
        · rw [if_pos c51] at h
          obtain ⟨μ55, hr56, h⟩ := sh_bindv_e h
          have hG55 := gp_X12_fail hG hr56
          have hF55 := hF.trans (ri_X12_fail hr56 (by decide))
          obtain ⟨e1, e2⟩ := sh_some2 h
          exact e2 ▸ hF55
        · rw [if_neg c51] at h
          obtain ⟨k52, h⟩ := sh_chk h
          obtain ⟨x53, ex53⟩ : ∃ y : Int32, y = (((10 * i4) + (sh_i μ 292 ((sh_i μ 291 2)).toNatClampNeg)) - 48) := ⟨_, rfl⟩
          rw [sh_let_eq ex53] at h
          obtain ⟨μ54, eμ54⟩ : ∃ y : sh_Mem, y = (sh_setI μ 291 2 ((sh_i μ 291 2) + 1)) := ⟨_, rfl⟩
          rw [sh_let_eq eμ54] at h
          have hG54 : sh_G μ54 := by rw [eμ54]; exact hG
          have hF54 : rI μ μ54 := by rw [eμ54]; exact rI_I hF (by first | exact Or.inl (by decide) | exact Or.inr (by decide))
          exact hF54.trans (ih_49 hG54 h)
theorem ri_X12_number {a1 : Int32} {a2 : Int32} {μ μ' : sh_Mem} {v : Int32} (hG : sh_G μ) (h : f_X12_number a1 a2 μ = some (v, μ')) : rI μ μ' := by
  have ih_49 := (ril_X12_number sh_fuel)
  have hF : rI μ μ := rI.rf
  unfold f_X12_number at h
  by_cases c58 : (sh_i μ 291 5) = 0
  · rw [if_pos c58] at h
    obtain ⟨y61, μ59, hr60, h⟩ := sh_bind_e h
    have hG59 := gp_X12_look hG hr60
    have hF59 := hF.trans (ri_X12_look hG hr60)
    by_cases c62 : (f_X12_isDigit μ59 y61) = 0
    · rw [if_pos c62] at h
      obtain ⟨μ63, hr64, h⟩ := sh_bindv_e h
      have hG63 := gp_X12_fail hG59 hr64
      have hF63 := hF59.trans (ri_X12_fail hr64 (by decide))
      obtain ⟨e1, e2⟩ := sh_some2 h
      exact e2 ▸ hF63
    · rw [if_neg c62] at h
      by_cases c66 : (sh_i μ59 291 2) = (sh_i μ59 291 4)
      · rw [if_pos c66] at h
        obtain ⟨μ68, hr69, h⟩ := sh_bindv_e h
        have hG68 := gp_X12_fail hG59 hr69
        have hF68 := hF59.trans (ri_X12_fail hr69 (by decide))
        obtain ⟨e1, e2⟩ := sh_some2 h
        exact e2 ▸ hF68
      · rw [if_neg c66] at h
        obtain ⟨x67, ex67⟩ : ∃ y : Int32, y = (sh_i μ59 291 2) := ⟨_, rfl⟩
        rw [sh_let_eq ex67] at h
        exact hF59.trans (ih_49 hG59 h)
  · rw [if_neg c58] at h
    obtain ⟨e1, e2⟩ := sh_some2 h
    exact e2 ▸ hF
theorem ril_X12_isOwnHere (fuel : Nat) : (∀ ⦃i1 : Int32⦄ ⦃μ μ' : sh_Mem⦄ ⦃v : Int32⦄, sh_G μ → F_X12_isOwnHere fuel 1 i1 μ = some (v, μ') → rI μ μ') ∧ (∀ ⦃i1 : Int32⦄ ⦃μ μ' : sh_Mem⦄ ⦃v : Int32⦄, sh_G μ → F_X12_isOwnHere fuel 2 i1 μ = some (v, μ') → rI μ μ') ∧ (∀ ⦃i1 : Int32⦄ ⦃μ μ' : sh_Mem⦄ ⦃v : Int32⦄, sh_G μ → F_X12_isOwnHere fuel 3 i1 μ = some (v, μ') → rI μ μ') ∧ (∀ ⦃i1 : Int32⦄ ⦃μ μ' : sh_Mem⦄ ⦃v : Int32⦄, sh_G μ → F_X12_isOwnHere fuel 4 i1 μ = some (v, μ') → rI μ μ') ∧ (∀ ⦃i1 : Int32⦄ ⦃μ μ' : sh_Mem⦄ ⦃v : Int32⦄, sh_G μ → F_X12_isOwnHere fuel 5 i1 μ = some (v, μ') → rI μ μ') := by
  induction fuel with
  | zero => exact ⟨(by intro i1 μ μ' v hG h; cases h), (by intro i1 μ μ' v hG h; cases h), (by intro i1 μ μ' v hG h; cases h), (by intro i1 μ μ' v hG h; cases h), (by intro i1 μ μ' v hG h; cases h)⟩
  | succ fuel ih =>
    obtain ⟨ih_66, ih_142, ih_218, ih_294, ih_337⟩ := ih
    refine ⟨?_, ?_, ?_, ?_, ?_⟩
    · intro i1 μ μ' v hG h
      replace h : (F_X12_isOwnHere fuel 2 1 μ : Option (Int32 × sh_Mem)) = some (v, μ') := h
      have hF : rI μ μ := rI.rf
      exact hF.trans (ih_142 hG h)
    · intro i1 μ μ' v hG h
      replace h : (F_X12_isOwnHere fuel 3 1 μ : Option (Int32 × sh_Mem)) = some (v, μ') := h
      have hF : rI μ μ := rI.rf
      exact hF.trans (ih_218 hG h)
    · intro i1 μ μ' v hG h
      replace h : (F_X12_isOwnHere fuel 4 1 μ : Option (Int32 × sh_Mem)) = some (v, μ') := h
      have hF : rI μ μ := rI.rf
      exact hF.trans (ih_294 hG h)
    · intro i1 μ μ' v hG h
      replace h : (F_X12_isOwnHere fuel 5 1 μ : Option (Int32 × sh_Mem)) = some (v, μ') := h
      have hF : rI μ μ := rI.rf
      exact hF.trans (ih_337 hG h)
    · intro i1 μ μ' v hG h
      replace h : (some (1, μ) : Option (Int32 × sh_Mem)) = some (v, μ') := h
      have hF : rI μ μ := rI.rf
      obtain ⟨e1, e2⟩ := sh_some2 h
      exact e2 ▸ hF
theorem ri_X12_isOwnHere {μ μ' : sh_Mem} {v : Int32} (hG : sh_G μ) (h : f_X12_isOwnHere μ = some (v, μ')) : rI μ μ' := by
  have ih_66 := (ril_X12_isOwnHere sh_fuel).1
  have ih_142 := (ril_X12_isOwnHere sh_fuel).2.1
  have ih_218 := (ril_X12_isOwnHere sh_fuel).2.2.1
  have ih_294 := (ril_X12_isOwnHere sh_fuel).2.2.2.1
  have ih_337 := (ril_X12_isOwnHere sh_fuel).2.2.2.2
  have hF : rI μ μ := rI.rf
  unfold f_X12_isOwnHere at h
  obtain ⟨y111, μ109, hr110, h⟩ := sh_bind_e h
  have hG109 := gp_X12_isHere hG (sh_LAYat_294) hr110
  have hF109 := hF.trans (ri_X12_isHere hG (sh_LAYat_294) (by decide) hr110)
  by_cases c112 : y111 = 0
  · rw [if_pos c112] at h
    obtain ⟨y115, μ113, hr114, h⟩ := sh_bind_e h
    have hG113 := gp_X12_isHere hG109 (sh_LAYat_295) hr114
    have hF113 := hF109.trans (ri_X12_isHere hG109 (sh_LAYat_295) (by decide) hr114)
    by_cases c116 : y115 = 0
    · rw [if_pos c116] at h
      obtain ⟨y119, μ117, hr118, h⟩ := sh_bind_e h
      have hG117 := gp_X12_isHere hG113 (sh_LAYat_296) hr118
      have hF117 := hF113.trans (ri_X12_isHere hG113 (sh_LAYat_296) (by decide) hr118)
      by_cases c120 : y119 = 0
      · rw [if_pos c120] at h
        obtain ⟨y123, μ121, hr122, h⟩ := sh_bind_e h
        have hG121 := gp_X12_isHere hG117 (sh_LAYat_297) hr122
        have hF121 := hF117.trans (ri_X12_isHere hG117 (sh_LAYat_297) (by decide) hr122)
        by_cases c124 : y123 = 0
        · rw [if_pos c124] at h
          obtain ⟨y127, μ125, hr126, h⟩ := sh_bind_e h
          have hG125 := gp_X12_isHere hG121 (sh_LAYat_298) hr126
          have hF125 := hF121.trans (ri_X12_isHere hG121 (sh_LAYat_298) (by decide) hr126)
          by_cases c128 : y127 = 0
          · rw [if_pos c128] at h
            obtain ⟨y131, μ129, hr130, h⟩ := sh_bind_e h
            have hG129 := gp_X12_isHere hG125 (sh_LAYat_299) hr130
            have hF129 := hF125.trans (ri_X12_isHere hG125 (sh_LAYat_299) (by decide) hr130)
            by_cases c132 : y131 = 0
            · rw [if_pos c132] at h
              obtain ⟨y135, μ133, hr134, h⟩ := sh_bind_e h
              have hG133 := gp_X12_isHere hG129 (sh_LAYat_300) hr134
              have hF133 := hF129.trans (ri_X12_isHere hG129 (sh_LAYat_300) (by decide) hr134)
              by_cases c136 : y135 = 0
              · rw [if_pos c136] at h
                obtain ⟨y139, μ137, hr138, h⟩ := sh_bind_e h
                have hG137 := gp_X12_isHere hG133 (sh_LAYat_301) hr138
                have hF137 := hF133.trans (ri_X12_isHere hG133 (sh_LAYat_301) (by decide) hr138)
                by_cases c140 : y139 = 0
                · rw [if_pos c140] at h
                  obtain ⟨y143, μ141, hr142, h⟩ := sh_bind_e h
                  have hG141 := gp_X12_isHere hG137 (sh_LAYat_302) hr142
                  have hF141 := hF137.trans (ri_X12_isHere hG137 (sh_LAYat_302) (by decide) hr142)
                  by_cases c144 : y143 = 0
                  · rw [if_pos c144] at h
                    obtain ⟨y147, μ145, hr146, h⟩ := sh_bind_e h
                    have hG145 := gp_X12_isHere hG141 (sh_LAYat_303) hr146
                    have hF145 := hF141.trans (ri_X12_isHere hG141 (sh_LAYat_303) (by decide) hr146)
                    by_cases c148 : y147 = 0
                    · rw [if_pos c148] at h
                      obtain ⟨y151, μ149, hr150, h⟩ := sh_bind_e h
                      have hG149 := gp_X12_isHere hG145 (sh_LAYat_304) hr150
                      have hF149 := hF145.trans (ri_X12_isHere hG145 (sh_LAYat_304) (by decide) hr150)
                      by_cases c152 : y151 = 0
                      · rw [if_pos c152] at h
                        obtain ⟨y155, μ153, hr154, h⟩ := sh_bind_e h
                        have hG153 := gp_X12_isHere hG149 (sh_LAYat_305) hr154
                        have hF153 := hF149.trans (ri_X12_isHere hG149 (sh_LAYat_305) (by decide) hr154)
                        by_cases c156 : y155 = 0
                        · rw [if_pos c156] at h
                          obtain ⟨y159, μ157, hr158, h⟩ := sh_bind_e h
                          have hG157 := gp_X12_isHere hG153 (sh_LAYat_306) hr158
                          have hF157 := hF153.trans (ri_X12_isHere hG153 (sh_LAYat_306) (by decide) hr158)
                          by_cases c160 : y159 = 0
                          · rw [if_pos c160] at h
                            obtain ⟨y163, μ161, hr162, h⟩ := sh_bind_e h
                            have hG161 := gp_X12_isHere hG157 (sh_LAYat_307) hr162
                            have hF161 := hF157.trans (ri_X12_isHere hG157 (sh_LAYat_307) (by decide) hr162)
                            by_cases c164 : y163 = 0
                            · rw [if_pos c164] at h
                              obtain ⟨y167, μ165, hr166, h⟩ := sh_bind_e h
                              have hG165 := gp_X12_isHere hG161 (sh_LAYat_308) hr166
                              have hF165 := hF161.trans (ri_X12_isHere hG161 (sh_LAYat_308) (by decide) hr166)
                              by_cases c168 : y167 = 0
                              · rw [if_pos c168] at h
                                obtain ⟨y171, μ169, hr170, h⟩ := sh_bind_e h
                                have hG169 := gp_X12_isHere hG165 (sh_LAYat_309) hr170
                                have hF169 := hF165.trans (ri_X12_isHere hG165 (sh_LAYat_309) (by decide) hr170)
                                by_cases c172 : y171 = 0
                                · rw [if_pos c172] at h
                                  obtain ⟨y175, μ173, hr174, h⟩ := sh_bind_e h
                                  have hG173 := gp_X12_isHere hG169 (sh_LAYat_310) hr174
                                  have hF173 := hF169.trans (ri_X12_isHere hG169 (sh_LAYat_310) (by decide) hr174)
                                  by_cases c176 : y175 = 0
                                  · rw [if_pos c176] at h
                                    obtain ⟨y179, μ177, hr178, h⟩ := sh_bind_e h
                                    have hG177 := gp_X12_isHere hG173 (sh_LAYat_311) hr178
                                    have hF177 := hF173.trans (ri_X12_isHere hG173 (sh_LAYat_311) (by decide) hr178)
                                    by_cases c180 : y179 = 0
                                    · rw [if_pos c180] at h
                                      obtain ⟨y183, μ181, hr182, h⟩ := sh_bind_e h
                                      have hG181 := gp_X12_isHere hG177 (sh_LAYat_312) hr182
                                      have hF181 := hF177.trans (ri_X12_isHere hG177 (sh_LAYat_312) (by decide) hr182)
                                      by_cases c184 : y183 = 0
                                      · rw [if_pos c184] at h
                                        obtain ⟨y187, μ185, hr186, h⟩ := sh_bind_e h
                                        have hG185 := gp_X12_isHere hG181 (sh_LAYat_313) hr186
                                        have hF185 := hF181.trans (ri_X12_isHere hG181 (sh_LAYat_313) (by decide) hr186)
                                        by_cases c188 : y187 = 0
                                        · rw [if_pos c188] at h
                                          obtain ⟨y191, μ189, hr190, h⟩ := sh_bind_e h
                                          have hG189 := gp_X12_isHere hG185 (sh_LAYat_314) hr190
                                          have hF189 := hF185.trans (ri_X12_isHere hG185 (sh_LAYat_314) (by decide) hr190)
                                          by_cases c192 : y191 = 0
                                          · rw [if_pos c192] at h
                                            obtain ⟨y195, μ193, hr194, h⟩ := sh_bind_e h
                                            have hG193 := gp_X12_isHere hG189 (sh_LAYat_315) hr194
                                            have hF193 := hF189.trans (ri_X12_isHere hG189 (sh_LAYat_315) (by decide) hr194)
                                            by_cases c196 : y195 = 0
                                            · rw [if_pos c196] at h
                                              obtain ⟨y199, μ197, hr198, h⟩ := sh_bind_e h
                                              have hG197 := gp_X12_isHere hG193 (sh_LAYat_316) hr198
                                              have hF197 := hF193.trans (ri_X12_isHere hG193 (sh_LAYat_316) (by decide) hr198)
                                              by_cases c200 : y199 = 0
                                              · rw [if_pos c200] at h
                                                obtain ⟨y203, μ201, hr202, h⟩ := sh_bind_e h
                                                have hG201 := gp_X12_isHere hG197 (sh_LAYat_317) hr202
                                                have hF201 := hF197.trans (ri_X12_isHere hG197 (sh_LAYat_317) (by decide) hr202)
                                                by_cases c204 : y203 = 0
                                                · rw [if_pos c204] at h
                                                  obtain ⟨y207, μ205, hr206, h⟩ := sh_bind_e h
                                                  have hG205 := gp_X12_isHere hG201 (sh_LAYat_318) hr206
                                                  have hF205 := hF201.trans (ri_X12_isHere hG201 (sh_LAYat_318) (by decide) hr206)
                                                  by_cases c208 : y207 = 0
                                                  · rw [if_pos c208] at h
                                                    obtain ⟨y211, μ209, hr210, h⟩ := sh_bind_e h
                                                    have hG209 := gp_X12_isHere hG205 (sh_LAYat_319) hr210
                                                    have hF209 := hF205.trans (ri_X12_isHere hG205 (sh_LAYat_319) (by decide) hr210)
                                                    by_cases c212 : y211 = 0
                                                    · rw [if_pos c212] at h
                                                      obtain ⟨y215, μ213, hr214, h⟩ := sh_bind_e h
                                                      have hG213 := gp_X12_isHere hG209 (sh_LAYat_320) hr214
                                                      have hF213 := hF209.trans (ri_X12_isHere hG209 (sh_LAYat_320) (by decide) hr214)
                                                      by_cases c216 : y215 = 0
                                                      · rw [if_pos c216] at h
                                                        obtain ⟨e1, e2⟩ := sh_some2 h
                                                        exact e2 ▸ hF213
                                                      · rw [if_neg c216] at h
                                                        exact hF213.trans (ih_337 hG213 h)
                                                    · rw [if_neg c212] at h
                                                      exact hF209.trans (ih_337 hG209 h)
                                                  · rw [if_neg c208] at h
                                                    exact hF205.trans (ih_337 hG205 h)
                                                · rw [if_neg c204] at h
                                                  exact hF201.trans (ih_294 hG201 h)
                                              · rw [if_neg c200] at h
                                                exact hF197.trans (ih_294 hG197 h)
                                            · rw [if_neg c196] at h
                                              exact hF193.trans (ih_294 hG193 h)
                                          · rw [if_neg c192] at h
                                            exact hF189.trans (ih_294 hG189 h)
                                        · rw [if_neg c188] at h
                                          exact hF185.trans (ih_294 hG185 h)
                                      · rw [if_neg c184] at h
                                        exact hF181.trans (ih_294 hG181 h)
                                    · rw [if_neg c180] at h
                                      exact hF177.trans (ih_218 hG177 h)
                                  · rw [if_neg c176] at h
                                    exact hF173.trans (ih_218 hG173 h)
                                · rw [if_neg c172] at h
                                  exact hF169.trans (ih_218 hG169 h)
                              · rw [if_neg c168] at h
                                exact hF165.trans (ih_218 hG165 h)
                            · rw [if_neg c164] at h
                              exact hF161.trans (ih_218 hG161 h)
                          · rw [if_neg c160] at h
                            exact hF157.trans (ih_218 hG157 h)
                        · rw [if_neg c156] at h
                          exact hF153.trans (ih_142 hG153 h)
                      · rw [if_neg c152] at h
                        exact hF149.trans (ih_142 hG149 h)
                    · rw [if_neg c148] at h
                      exact hF145.trans (ih_142 hG145 h)
                  · rw [if_neg c144] at h
                    exact hF141.trans (ih_142 hG141 h)
                · rw [if_neg c140] at h
                  exact hF137.trans (ih_142 hG137 h)
              · rw [if_neg c136] at h
                exact hF133.trans (ih_142 hG133 h)
            · rw [if_neg c132] at h
              exact hF129.trans (ih_66 hG129 h)
          · rw [if_neg c128] at h
            exact hF125.trans (ih_66 hG125 h)
        · rw [if_neg c124] at h
          exact hF121.trans (ih_66 hG121 h)
      · rw [if_neg c120] at h
        exact hF117.trans (ih_66 hG117 h)
    · rw [if_neg c116] at h
      exact hF113.trans (ih_66 hG113 h)
  · rw [if_neg c112] at h
    exact hF109.trans (ih_66 hG109 h)
theorem ril_X12_name (fuel : Nat) : (∀ ⦃l1 : Int64⦄ ⦃μ μ' : sh_Mem⦄ ⦃v : Int64⦄, sh_G μ → F_X12_name fuel 1 l1 μ = some (v, μ') → rI μ μ') := by
  induction fuel with
  | zero => intro l1 μ μ' v hG h; cases h
  | succ fuel ih =>
    have ih_58 := ih
    intro l1 μ μ' v hG h
    replace h : ((if (sh_i μ 291 3) ≤ (sh_i μ 291 2) then sh_let (sh_setI μ 291 4 (sh_i μ 291 2)) (fun μ34 => some (l1, μ34)) else (if sh_in (sh_i μ 291 2) 1600 then (if (f_X12_isLetter μ (sh_i μ 292 ((sh_i μ 291 2)).toNatClampNeg)) = 0 then sh_let (sh_setI μ 291 4 (sh_i μ 291 2)) (fun μ37 => some (l1, μ37)) else (if ((sh_i μ 291 2) - (sh_i μ 291 38)) = 6 then sh_bindv (f_X12_fail 1 (sh_i μ 291 2) μ) (fun μ42 => some (0, μ42)) else (if sh_in (sh_i μ 291 2) 1600 then sh_let (((((27 * l1) + ((sh_i μ 292 ((sh_i μ 291 2)).toNatClampNeg)).toInt64) - 97) + 1) : Int64) (fun x40 => sh_let (sh_setI μ 291 2 ((sh_i μ 291 2) + 1)) (fun μ41 => F_X12_name fuel 1 x40 μ41)) else none))) else none)) : Option (Int64 × sh_Mem)) = some (v, μ') := h
    have hF : rI μ μ := rI.rf
    by_cases c33 : (sh_i μ 291 3) ≤ (sh_i μ 291 2)
    · rw [if_pos c33] at h
      obtain ⟨μ34, eμ34⟩ : ∃ y : sh_Mem, y = (sh_setI μ 291 4 (sh_i μ 291 2)) := ⟨_, rfl⟩
      rw [sh_let_eq eμ34] at h
      have hG34 : sh_G μ34 := by rw [eμ34]; exact hG
      have hF34 : rI μ μ34 := by rw [eμ34]; exact rI_I hF (by first | exact Or.inl (by decide) | exact Or.inr (by decide))
      obtain ⟨e1, e2⟩ := sh_some2 h
      exact e2 ▸ hF34
    · rw [if_neg c33] at h
      obtain ⟨k35, h⟩ := sh_chk h
      by_cases c36 : (f_X12_isLetter μ (sh_i μ 292 ((sh_i μ 291 2)).toNatClampNeg)) = 0
      · rw [if_pos c36] at h
        obtain ⟨μ37, eμ37⟩ : ∃ y : sh_Mem, y = (sh_setI μ 291 4 (sh_i μ 291 2)) := ⟨_, rfl⟩
        rw [sh_let_eq eμ37] at h
        have hG37 : sh_G μ37 := by rw [eμ37]; exact hG
        have hF37 : rI μ μ37 := by rw [eμ37]; exact rI_I hF (by first | exact Or.inl (by decide) | exact Or.inr (by decide))
        obtain ⟨e1, e2⟩ := sh_some2 h
        exact e2 ▸ hF37
      · rw [if_neg c36] at h
        by_cases c38 : ((sh_i μ 291 2) - (sh_i μ 291 38)) = 6
        · rw [if_pos c38] at h
          obtain ⟨μ42, hr43, h⟩ := sh_bindv_e h
          have hG42 := gp_X12_fail hG hr43
          have hF42 := hF.trans (ri_X12_fail hr43 (by decide))
          obtain ⟨e1, e2⟩ := sh_some2 h
          exact e2 ▸ hF42
        · rw [if_neg c38] at h
          obtain ⟨k39, h⟩ := sh_chk h
          obtain ⟨x40, ex40⟩ : ∃ y : Int64, y = ((((27 * l1) + ((sh_i μ 292 ((sh_i μ 291 2)).toNatClampNeg)).toInt64) - 97) + 1) := ⟨_, rfl⟩
          rw [sh_let_eq ex40] at h
          obtain ⟨μ41, eμ41⟩ : ∃ y : sh_Mem, y = (sh_setI μ 291 2 ((sh_i μ 291 2) + 1)) := ⟨_, rfl⟩
          rw [sh_let_eq eμ41] at h
          have hG41 : sh_G μ41 := by rw [eμ41]; exact hG
          have hF41 : rI μ μ41 := by rw [eμ41]; exact rI_I hF (by first | exact Or.inl (by decide) | exact Or.inr (by decide))
          exact hF41.trans (ih_58 hG41 h)
theorem ri_X12_name {μ μ' : sh_Mem} {v : Int64} (hG : sh_G μ) (h : f_X12_name μ = some (v, μ')) : rI μ μ' := by
  have ih_58 := (ril_X12_name sh_fuel)
  have hF : rI μ μ := rI.rf
  unfold f_X12_name at h
  by_cases c45 : (sh_i μ 291 5) = 0
  · rw [if_pos c45] at h
    obtain ⟨y48, μ46, hr47, h⟩ := sh_bind_e h
    have hG46 := gp_X12_look hG hr47
    have hF46 := hF.trans (ri_X12_look hG hr47)
    by_cases c49 : (f_X12_isLetter μ46 y48) = 0
    · rw [if_pos c49] at h
      obtain ⟨μ50, hr51, h⟩ := sh_bindv_e h
      have hG50 := gp_X12_fail hG46 hr51
      have hF50 := hF46.trans (ri_X12_fail hr51 (by decide))
      obtain ⟨e1, e2⟩ := sh_some2 h
      exact e2 ▸ hF50
    · rw [if_neg c49] at h
      by_cases c53 : (sh_i μ46 291 2) = (sh_i μ46 291 4)
      · rw [if_pos c53] at h
        obtain ⟨μ54, hr55, h⟩ := sh_bindv_e h
        have hG54 := gp_X12_fail hG46 hr55
        have hF54 := hF46.trans (ri_X12_fail hr55 (by decide))
        obtain ⟨e1, e2⟩ := sh_some2 h
        exact e2 ▸ hF54
      · rw [if_neg c53] at h
        obtain ⟨y59, μ57, hr58, h⟩ := sh_bind_e h
        have hG57 := gp_X12_isOwnHere hG46 hr58
        have hF57 := hF46.trans (ri_X12_isOwnHere hG46 hr58)
        by_cases c60 : y59 = 0
        · rw [if_pos c60] at h
          obtain ⟨μ61, eμ61⟩ : ∃ y : sh_Mem, y = (sh_setI μ57 291 38 (sh_i μ57 291 2)) := ⟨_, rfl⟩
          rw [sh_let_eq eμ61] at h
          have hG61 : sh_G μ61 := by rw [eμ61]; exact hG57
          have hF61 : rI μ μ61 := by rw [eμ61]; exact rI_I hF57 (by first | exact Or.inl (by decide) | exact Or.inr (by decide))
          exact hF61.trans (ih_58 hG61 h)
        · rw [if_neg c60] at h
          obtain ⟨μ62, hr63, h⟩ := sh_bindv_e h
          have hG62 := gp_X12_fail hG57 hr63
          have hF62 := hF57.trans (ri_X12_fail hr63 (by decide))
          obtain ⟨e1, e2⟩ := sh_some2 h
          exact e2 ▸ hF62
  · rw [if_neg c45] at h
    obtain ⟨e1, e2⟩ := sh_some2 h
    exact e2 ▸ hF
theorem ri_X12_isFull {a1 : Int32} {a2 : Int32} {a3 : Int32} {μ μ' : sh_Mem} {v : Int32} (hG : sh_G μ) (h : f_X12_isFull a1 a2 a3 μ = some (v, μ')) : rI μ μ' := by
  have hF : rI μ μ := rI.rf
  unfold f_X12_isFull at h
  by_cases c1 : (sh_i μ 291 5) = 0
  · rw [if_pos c1] at h
    obtain ⟨k3, h⟩ := sh_chk h
    by_cases c4 : (sh_i μ 322 a1.toNatClampNeg) = a2
    · rw [if_pos c4] at h
      obtain ⟨μ6, hr7, h⟩ := sh_bindv_e h
      have hG6 := gp_X12_fail hG hr7
      have hF6 := hF.trans (ri_X12_fail hr7 (by decide))
      by_cases c9 : (sh_i μ6 291 5) = 0
      · rw [if_pos c9] at h
        obtain ⟨e1, e2⟩ := sh_some2 h
        exact e2 ▸ hF6
      · rw [if_neg c9] at h
        obtain ⟨e1, e2⟩ := sh_some2 h
        exact e2 ▸ hF6
    · rw [if_neg c4] at h
      by_cases c5 : (sh_i μ 291 5) = 0
      · rw [if_pos c5] at h
        obtain ⟨e1, e2⟩ := sh_some2 h
        exact e2 ▸ hF
      · rw [if_neg c5] at h
        obtain ⟨e1, e2⟩ := sh_some2 h
        exact e2 ▸ hF
  · rw [if_neg c1] at h
    by_cases c2 : (sh_i μ 291 5) = 0
    · rw [if_pos c2] at h
      obtain ⟨e1, e2⟩ := sh_some2 h
      exact e2 ▸ hF
    · rw [if_neg c2] at h
      obtain ⟨e1, e2⟩ := sh_some2 h
      exact e2 ▸ hF
theorem ril_X12_newName (fuel : Nat) : (∀ ⦃l1 : Int64⦄ ⦃i3 : Int32⦄ ⦃i4 : Int32⦄ ⦃μ μ' : sh_Mem⦄ ⦃v : Int64⦄, sh_G μ → F_X12_newName fuel 1 l1 i3 i4 μ = some (v, μ') → rI μ μ') ∧ (∀ ⦃l1 : Int64⦄ ⦃i3 : Int32⦄ ⦃i4 : Int32⦄ ⦃μ μ' : sh_Mem⦄ ⦃v : Int64⦄, sh_G μ → F_X12_newName fuel 2 l1 i3 i4 μ = some (v, μ') → rI μ μ') := by
  induction fuel with
  | zero => exact ⟨(by intro l1 i3 i4 μ μ' v hG h; cases h), (by intro l1 i3 i4 μ μ' v hG h; cases h)⟩
  | succ fuel ih =>
    obtain ⟨ih_7, ih_15⟩ := ih
    refine ⟨?_, ?_⟩
    · intro l1 i3 i4 μ μ' v hG h
      replace h : ((if 2 ≤ i3 then some (l1, μ) else F_X12_newName fuel 2 l1 i3 0 μ) : Option (Int64 × sh_Mem)) = some (v, μ') := h
      have hF : rI μ μ := rI.rf
      by_cases c22 : 2 ≤ i3
      · rw [if_pos c22] at h
        obtain ⟨e1, e2⟩ := sh_some2 h
        exact e2 ▸ hF
      · rw [if_neg c22] at h
        exact hF.trans (ih_15 hG h)
    · intro l1 i3 i4 μ μ' v hG h
      replace h : ((if sh_in i3 6 then (if (sh_i μ 322 i3.toNatClampNeg) ≤ i4 then F_X12_newName fuel 1 l1 (i3 + 1) 0 μ else (if (sh_i μ 291 5) = 0 then (if sh_in ((8 * i3) + i4) 32 then (if (lg_cmp (sh_l μ 323 (((8 * i3) + i4)).toNatClampNeg) l1) = 0 then sh_bindv (f_X12_fail 3 (sh_i μ 291 38) μ) (fun μ28 => F_X12_newName fuel 2 l1 i3 (i4 + 1) μ28) else F_X12_newName fuel 2 l1 i3 (i4 + 1) μ) else none) else F_X12_newName fuel 2 l1 i3 (i4 + 1) μ)) else none) : Option (Int64 × sh_Mem)) = some (v, μ') := h
      have hF : rI μ μ := rI.rf
      obtain ⟨k23, h⟩ := sh_chk h
      by_cases c24 : (sh_i μ 322 i3.toNatClampNeg) ≤ i4
      · rw [if_pos c24] at h
        exact hF.trans (ih_7 hG h)
      · rw [if_neg c24] at h
        by_cases c25 : (sh_i μ 291 5) = 0
        · rw [if_pos c25] at h
          obtain ⟨k26, h⟩ := sh_chk h
          by_cases c27 : (lg_cmp (sh_l μ 323 (((8 * i3) + i4)).toNatClampNeg) l1) = 0
          · rw [if_pos c27] at h
            obtain ⟨μ28, hr29, h⟩ := sh_bindv_e h
            have hG28 := gp_X12_fail hG hr29
            have hF28 := hF.trans (ri_X12_fail hr29 (by decide))
            exact hF28.trans (ih_15 hG28 h)
          · rw [if_neg c27] at h
            exact hF.trans (ih_15 hG h)
        · rw [if_neg c25] at h
          exact hF.trans (ih_15 hG h)
theorem ri_X12_newName {μ μ' : sh_Mem} {v : Int64} (hG : sh_G μ) (h : f_X12_newName μ = some (v, μ')) : rI μ μ' := by
  have ih_7 := (ril_X12_newName sh_fuel).1
  have ih_15 := (ril_X12_newName sh_fuel).2
  have hF : rI μ μ := rI.rf
  unfold f_X12_newName at h
  obtain ⟨y33, μ31, hr32, h⟩ := sh_bind_e h
  have hG31 := gp_X12_name hG hr32
  have hF31 := hF.trans (ri_X12_name hG hr32)
  exact hF31.trans (ih_7 hG31 h)
theorem ril_X12_named (fuel : Nat) : (∀ ⦃i1 : Int32⦄ ⦃l2 : Int64⦄ ⦃i4 : Int32⦄ ⦃μ μ' : sh_Mem⦄ ⦃v : Int32⦄, sh_G μ → F_X12_named fuel 1 i1 l2 i4 μ = some (v, μ') → rI μ μ') := by
  induction fuel with
  | zero => intro i1 l2 i4 μ μ' v hG h; cases h
  | succ fuel ih =>
    have ih_8 := ih
    intro i1 l2 i4 μ μ' v hG h
    replace h : ((if sh_in i1 6 then (if (sh_i μ 322 i1.toNatClampNeg) ≤ i4 then (if (sh_i μ 291 5) = 0 then sh_bindv (f_X12_fail 3 (sh_i μ 291 38) μ) (fun μ15 => some (0, μ15)) else some (0, μ)) else (if sh_in ((8 * i1) + i4) 32 then (if (lg_cmp (sh_l μ 323 (((8 * i1) + i4)).toNatClampNeg) l2) = 0 then some (i4, μ) else F_X12_named fuel 1 i1 l2 (i4 + 1) μ) else none)) else none) : Option (Int32 × sh_Mem)) = some (v, μ') := h
    have hF : rI μ μ := rI.rf
    obtain ⟨k12, h⟩ := sh_chk h
    by_cases c13 : (sh_i μ 322 i1.toNatClampNeg) ≤ i4
    · rw [if_pos c13] at h
      by_cases c14 : (sh_i μ 291 5) = 0
      · rw [if_pos c14] at h
        obtain ⟨μ15, hr16, h⟩ := sh_bindv_e h
        have hG15 := gp_X12_fail hG hr16
        have hF15 := hF.trans (ri_X12_fail hr16 (by decide))
        obtain ⟨e1, e2⟩ := sh_some2 h
        exact e2 ▸ hF15
      · rw [if_neg c14] at h
        obtain ⟨e1, e2⟩ := sh_some2 h
        exact e2 ▸ hF
    · rw [if_neg c13] at h
      obtain ⟨k18, h⟩ := sh_chk h
      by_cases c19 : (lg_cmp (sh_l μ 323 (((8 * i1) + i4)).toNatClampNeg) l2) = 0
      · rw [if_pos c19] at h
        obtain ⟨e1, e2⟩ := sh_some2 h
        exact e2 ▸ hF
      · rw [if_neg c19] at h
        exact hF.trans (ih_8 hG h)
theorem ri_X12_named {a1 : Int32} {μ μ' : sh_Mem} {v : Int32} (hG : sh_G μ) (h : f_X12_named a1 μ = some (v, μ')) : rI μ μ' := by
  have ih_8 := (ril_X12_named sh_fuel)
  have hF : rI μ μ := rI.rf
  unfold f_X12_named at h
  obtain ⟨y22, μ20, hr21, h⟩ := sh_bind_e h
  have hG20 := gp_X12_name hG hr21
  have hF20 := hF.trans (ri_X12_name hG hr21)
  exact hF20.trans (ih_8 hG20 h)
theorem ri_X12_plainTold {μ μ' : sh_Mem} (hG : sh_G μ) (h : f_X12_plainTold μ = some μ') : rI μ μ' := by
  have hF : rI μ μ := rI.rf
  unfold f_X12_plainTold at h
  obtain ⟨μ1, hr2, h⟩ := sh_bindv_e h
  have hG1 := gp_X12_needs hG (sh_LAYat_294) hr2
  have hF1 := hF.trans (ri_X12_needs hG (sh_LAYat_294) (by decide) hr2)
  obtain ⟨y6, μ4, hr5, h⟩ := sh_bind_e h
  have hG4 := gp_X12_number hG1 hr5
  have hF4 := hF1.trans (ri_X12_number hG1 hr5)
  obtain ⟨μ7, eμ7⟩ : ∃ y : sh_Mem, y = (sh_setI μ4 321 (Int32.toNatClampNeg 0) y6) := ⟨_, rfl⟩
  rw [sh_let_eq eμ7] at h
  have hG7 : sh_G μ7 := by rw [eμ7]; exact hG4
  have hF7 : rI μ μ7 := by rw [eμ7]; exact rI_I hF4 (by first | exact Or.inl (by decide) | exact Or.inr (by decide))
  obtain ⟨μ8, hr9, h⟩ := sh_bindv_e h
  have hG8 := gp_X12_needs hG7 (sh_LAYat_295) hr9
  have hF8 := hF7.trans (ri_X12_needs hG7 (sh_LAYat_295) (by decide) hr9)
  obtain ⟨y13, μ11, hr12, h⟩ := sh_bind_e h
  have hG11 := gp_X12_number hG8 hr12
  have hF11 := hF8.trans (ri_X12_number hG8 hr12)
  obtain ⟨μ14, eμ14⟩ : ∃ y : sh_Mem, y = (sh_setI μ11 321 (Int32.toNatClampNeg 1) y13) := ⟨_, rfl⟩
  rw [sh_let_eq eμ14] at h
  have hG14 : sh_G μ14 := by rw [eμ14]; exact hG11
  have hF14 : rI μ μ14 := by rw [eμ14]; exact rI_I hF11 (by first | exact Or.inl (by decide) | exact Or.inr (by decide))
  obtain ⟨μ15, hr16, h⟩ := sh_bindv_e h
  have hG15 := gp_X12_asksSign hG14 hr16
  have hF15 := hF14.trans (ri_X12_asksSign hG14 hr16)
  have e2 := Option.some.inj h
  exact e2 ▸ hF15
theorem ri_X12_cellTold {μ μ' : sh_Mem} {v : Int32} (hG : sh_G μ) (h : f_X12_cellTold μ = some (v, μ')) : rI μ μ' := by
  have hF : rI μ μ := rI.rf
  unfold f_X12_cellTold at h
  obtain ⟨y3, μ1, hr2, h⟩ := sh_bind_e h
  have hG1 := gp_X12_number hG hr2
  have hF1 := hF.trans (ri_X12_number hG hr2)
  obtain ⟨y6, μ4, hr5, h⟩ := sh_bind_e h
  have hG4 := gp_X12_number hG1 hr5
  have hF4 := hF1.trans (ri_X12_number hG1 hr5)
  by_cases c7 : (sh_i μ4 291 5) = 0
  · rw [if_pos c7] at h
    obtain ⟨e1, e2⟩ := sh_some2 h
    exact e2 ▸ hF4
  · rw [if_neg c7] at h
    obtain ⟨e1, e2⟩ := sh_some2 h
    exact e2 ▸ hF4
theorem ri_X12_highTold {μ μ' : sh_Mem} (hG : sh_G μ) (h : f_X12_highTold μ = some μ') : rI μ μ' := by
  have hF : rI μ μ := rI.rf
  unfold f_X12_highTold at h
  obtain ⟨y3, μ1, hr2, h⟩ := sh_bind_e h
  have hG1 := gp_X12_cellTold hG hr2
  have hF1 := hF.trans (ri_X12_cellTold hG hr2)
  obtain ⟨y6, μ4, hr5, h⟩ := sh_bind_e h
  have hG4 := gp_X12_number hG1 hr5
  have hF4 := hF1.trans (ri_X12_number hG1 hr5)
  by_cases c7 : (sh_i μ4 291 5) = 0
  · rw [if_pos c7] at h
    obtain ⟨k8, h⟩ := sh_chk h
    obtain ⟨μ9, eμ9⟩ : ∃ y : sh_Mem, y = (sh_setI μ4 324 y3.toNatClampNeg y6) := ⟨_, rfl⟩
    rw [sh_let_eq eμ9] at h
    have hG9 : sh_G μ9 := by rw [eμ9]; exact hG4
    have hF9 : rI μ μ9 := by rw [eμ9]; exact rI_I hF4 (by first | exact Or.inl (by decide) | exact Or.inr (by decide))
    have e2 := Option.some.inj h
    exact e2 ▸ hF9
  · rw [if_neg c7] at h
    have e2 := Option.some.inj h
    exact e2 ▸ hF4
theorem ri_X12_topicTold {a1 : Int32} {μ μ' : sh_Mem} (hG : sh_G μ) (h : f_X12_topicTold a1 μ = some μ') : rI μ μ' := by
  have hF : rI μ μ := rI.rf
  unfold f_X12_topicTold at h
  obtain ⟨y3, μ1, hr2, h⟩ := sh_bind_e h
  have hG1 := gp_X12_isFull hG hr2
  have hF1 := hF.trans (ri_X12_isFull hG hr2)
  by_cases c4 : y3 = 0
  · rw [if_pos c4] at h
    obtain ⟨y7, μ5, hr6, h⟩ := sh_bind_e h
    have hG5 := gp_X12_newName hG1 hr6
    have hF5 := hF1.trans (ri_X12_newName hG1 hr6)
    by_cases c8 : (sh_i μ5 291 5) = 0
    · rw [if_pos c8] at h
      obtain ⟨k9, h⟩ := sh_chk h
      obtain ⟨μ10, eμ10⟩ : ∃ y : sh_Mem, y = (sh_setL μ5 323 ((sh_i μ5 322 (Int32.toNatClampNeg 0))).toNatClampNeg y7) := ⟨_, rfl⟩
      rw [sh_let_eq eμ10] at h
      have hG10 : sh_G μ10 := by rw [eμ10]; exact hG5
      have hF10 : rI μ μ10 := by rw [eμ10]; exact rI_L hF5
      obtain ⟨μ11, eμ11⟩ : ∃ y : sh_Mem, y = (sh_setI μ10 322 (Int32.toNatClampNeg 0) ((sh_i μ10 322 (Int32.toNatClampNeg 0)) + 1)) := ⟨_, rfl⟩
      rw [sh_let_eq eμ11] at h
      have hG11 : sh_G μ11 := by rw [eμ11]; exact hG10
      have hF11 : rI μ μ11 := by rw [eμ11]; exact rI_I hF10 (by first | exact Or.inl (by decide) | exact Or.inr (by decide))
      have e2 := Option.some.inj h
      exact e2 ▸ hF11
    · rw [if_neg c8] at h
      have e2 := Option.some.inj h
      exact e2 ▸ hF5
  · rw [if_neg c4] at h
    have e2 := Option.some.inj h
    exact e2 ▸ hF1
theorem ril_X12_personTold (fuel : Nat) : (∀ ⦃i1 : Int32⦄ ⦃l2 : Int64⦄ ⦃i4 : Int32⦄ ⦃i5 : Int32⦄ ⦃μ μ' : sh_Mem⦄, sh_G μ → F_X12_personTold fuel 1 i1 l2 i4 i5 μ = some μ' → rI μ μ') := by
  induction fuel with
  | zero => intro i1 l2 i4 i5 μ μ' hG h; cases h
  | succ fuel ih =>
    have ih_34 := ih
    intro i1 l2 i4 i5 μ μ' hG h
    replace h : ((if (sh_i μ 322 (Int32.toNatClampNeg 1)) ≤ i5 then sh_bindv (f_X12_needs 300 5 μ) (fun μ39 => sh_bind (f_X12_number 0 9 μ39) (fun y44 μ42 => (if (sh_i μ42 291 5) = 0 then sh_let ((3 * (sh_i μ42 322 (Int32.toNatClampNeg 1))) : Int32) (fun x46 => (if sh_in (8 + (sh_i μ42 322 (Int32.toNatClampNeg 1))) 32 then sh_let (sh_setL μ42 323 ((8 + (sh_i μ42 322 (Int32.toNatClampNeg 1)))).toNatClampNeg l2) (fun μ48 => (if sh_in x46 21 then sh_let (sh_setI μ48 325 x46.toNatClampNeg i4) (fun μ50 => (if sh_in (x46 + 1) 21 then sh_let (sh_setI μ50 325 ((x46 + 1)).toNatClampNeg y44) (fun μ52 => (if sh_in (x46 + 2) 21 then sh_let (sh_setI μ52 325 ((x46 + 2)).toNatClampNeg 0) (fun μ54 => sh_let (sh_setI μ54 322 (Int32.toNatClampNeg 1) ((sh_i μ54 322 (Int32.toNatClampNeg 1)) + 1)) (fun μ55 => some μ55)) else none)) else none)) else none)) else none)) else some μ42))) else (if (sh_i μ 291 5) = 0 then (if sh_in (3 * i5) 21 then (if (sh_i μ 325 ((3 * i5)).toNatClampNeg) = i4 then sh_bindv (f_X12_fail 2 (sh_i μ 291 10) μ) (fun μ59 => F_X12_personTold fuel 1 i1 l2 i4 (i5 + 1) μ59) else F_X12_personTold fuel 1 i1 l2 i4 (i5 + 1) μ) else none) else F_X12_personTold fuel 1 i1 l2 i4 (i5 + 1) μ)) : Option sh_Mem) = some μ' := h
    have hF : rI μ μ := rI.rf
    by_cases c38 : (sh_i μ 322 (Int32.toNatClampNeg 1)) ≤ i5
    · rw [if_pos c38] at h
      obtain ⟨μ39, hr40, h⟩ := sh_bindv_e h
      have hG39 := gp_X12_needs hG (sh_LAYat_300) hr40
      have hF39 := hF.trans (ri_X12_needs hG (sh_LAYat_300) (by decide) hr40)
      obtain ⟨y44, μ42, hr43, h⟩ := sh_bind_e h
      have hG42 := gp_X12_number hG39 hr43
      have hF42 := hF39.trans (ri_X12_number hG39 hr43)
      by_cases c45 : (sh_i μ42 291 5) = 0
      · rw [if_pos c45] at h
        obtain ⟨x46, ex46⟩ : ∃ y : Int32, y = (3 * (sh_i μ42 322 (Int32.toNatClampNeg 1))) := ⟨_, rfl⟩
        rw [sh_let_eq ex46] at h
        obtain ⟨k47, h⟩ := sh_chk h
        obtain ⟨μ48, eμ48⟩ : ∃ y : sh_Mem, y = (sh_setL μ42 323 ((8 + (sh_i μ42 322 (Int32.toNatClampNeg 1)))).toNatClampNeg l2) := ⟨_, rfl⟩
        rw [sh_let_eq eμ48] at h
        have hG48 : sh_G μ48 := by rw [eμ48]; exact hG42
        have hF48 : rI μ μ48 := by rw [eμ48]; exact rI_L hF42
        obtain ⟨k49, h⟩ := sh_chk h
        obtain ⟨μ50, eμ50⟩ : ∃ y : sh_Mem, y = (sh_setI μ48 325 x46.toNatClampNeg i4) := ⟨_, rfl⟩
        rw [sh_let_eq eμ50] at h
        have hG50 : sh_G μ50 := by rw [eμ50]; exact hG48
        have hF50 : rI μ μ50 := by rw [eμ50]; exact rI_I hF48 (by first | exact Or.inl (by decide) | exact Or.inr (by decide))
        obtain ⟨k51, h⟩ := sh_chk h
        obtain ⟨μ52, eμ52⟩ : ∃ y : sh_Mem, y = (sh_setI μ50 325 ((x46 + 1)).toNatClampNeg y44) := ⟨_, rfl⟩
        rw [sh_let_eq eμ52] at h
        have hG52 : sh_G μ52 := by rw [eμ52]; exact hG50
        have hF52 : rI μ μ52 := by rw [eμ52]; exact rI_I hF50 (by first | exact Or.inl (by decide) | exact Or.inr (by decide))
        obtain ⟨k53, h⟩ := sh_chk h
        obtain ⟨μ54, eμ54⟩ : ∃ y : sh_Mem, y = (sh_setI μ52 325 ((x46 + 2)).toNatClampNeg 0) := ⟨_, rfl⟩
        rw [sh_let_eq eμ54] at h
        have hG54 : sh_G μ54 := by rw [eμ54]; exact hG52
        have hF54 : rI μ μ54 := by rw [eμ54]; exact rI_I hF52 (by first | exact Or.inl (by decide) | exact Or.inr (by decide))
        obtain ⟨μ55, eμ55⟩ : ∃ y : sh_Mem, y = (sh_setI μ54 322 (Int32.toNatClampNeg 1) ((sh_i μ54 322 (Int32.toNatClampNeg 1)) + 1)) := ⟨_, rfl⟩
        rw [sh_let_eq eμ55] at h
        have hG55 : sh_G μ55 := by rw [eμ55]; exact hG54
        have hF55 : rI μ μ55 := by rw [eμ55]; exact rI_I hF54 (by first | exact Or.inl (by decide) | exact Or.inr (by decide))
        have e2 := Option.some.inj h
        exact e2 ▸ hF55
      · rw [if_neg c45] at h
        have e2 := Option.some.inj h
        exact e2 ▸ hF42
    · rw [if_neg c38] at h
      by_cases c56 : (sh_i μ 291 5) = 0
      · rw [if_pos c56] at h
        obtain ⟨k57, h⟩ := sh_chk h
        by_cases c58 : (sh_i μ 325 ((3 * i5)).toNatClampNeg) = i4
        · rw [if_pos c58] at h
          obtain ⟨μ59, hr60, h⟩ := sh_bindv_e h
          have hG59 := gp_X12_fail hG hr60
          have hF59 := hF.trans (ri_X12_fail hr60 (by decide))
          exact hF59.trans (ih_34 hG59 h)
        · rw [if_neg c58] at h
          exact hF.trans (ih_34 hG h)
      · rw [if_neg c56] at h
        exact hF.trans (ih_34 hG h)
theorem ri_X12_personTold {a1 : Int32} {μ μ' : sh_Mem} (hG : sh_G μ) (h : f_X12_personTold a1 μ = some μ') : rI μ μ' := by
  have ih_34 := (ril_X12_personTold sh_fuel)
  have hF : rI μ μ := rI.rf
  unfold f_X12_personTold at h
  obtain ⟨y64, μ62, hr63, h⟩ := sh_bind_e h
  have hG62 := gp_X12_isFull hG hr63
  have hF62 := hF.trans (ri_X12_isFull hG hr63)
  by_cases c65 : y64 = 0
  · rw [if_pos c65] at h
    obtain ⟨y68, μ66, hr67, h⟩ := sh_bind_e h
    have hG66 := gp_X12_newName hG62 hr67
    have hF66 := hF62.trans (ri_X12_newName hG62 hr67)
    obtain ⟨μ69, hr70, h⟩ := sh_bindv_e h
    have hG69 := gp_X12_needs hG66 (sh_LAYat_299) hr70
    have hF69 := hF66.trans (ri_X12_needs hG66 (sh_LAYat_299) (by decide) hr70)
    obtain ⟨y74, μ72, hr73, h⟩ := sh_bind_e h
    have hG72 := gp_X12_cellTold hG69 hr73
    have hF72 := hF69.trans (ri_X12_cellTold hG69 hr73)
    exact hF72.trans (ih_34 hG72 h)
  · rw [if_neg c65] at h
    have e2 := Option.some.inj h
    exact e2 ▸ hF62
theorem ri_X12_knowsTold {μ μ' : sh_Mem} (hG : sh_G μ) (h : f_X12_knowsTold μ = some μ') : rI μ μ' := by
  have hF : rI μ μ := rI.rf
  unfold f_X12_knowsTold at h
  obtain ⟨y3, μ1, hr2, h⟩ := sh_bind_e h
  have hG1 := gp_X12_named hG hr2
  have hF1 := hF.trans (ri_X12_named hG hr2)
  obtain ⟨μ4, hr5, h⟩ := sh_bindv_e h
  have hG4 := gp_X12_needs hG1 (sh_LAYat_302) hr5
  have hF4 := hF1.trans (ri_X12_needs hG1 (sh_LAYat_302) (by decide) hr5)
  obtain ⟨y9, μ7, hr8, h⟩ := sh_bind_e h
  have hG7 := gp_X12_named hG4 hr8
  have hF7 := hF4.trans (ri_X12_named hG4 hr8)
  by_cases c10 : (sh_i μ7 291 5) = 0
  · rw [if_pos c10] at h
    obtain ⟨k15, h⟩ := sh_chk h
    by_cases c16 : (((sh_i μ7 325 (((3 * y3) + 2)).toNatClampNeg) >>> (y9 &&& 31)) &&& 1) = 1
    · rw [if_pos c16] at h
      obtain ⟨μ21, hr22, h⟩ := sh_bindv_e h
      have hG21 := gp_X12_fail hG7 hr22
      have hF21 := hF7.trans (ri_X12_fail hr22 (by decide))
      by_cases c24 : (sh_i μ21 291 5) = 0
      · rw [if_pos c24] at h
        obtain ⟨k25, h⟩ := sh_chk h
        obtain ⟨k26, h⟩ := sh_chk h
        obtain ⟨μ27, eμ27⟩ : ∃ y : sh_Mem, y = (sh_setI μ21 325 (((3 * y3) + 2)).toNatClampNeg ((sh_i μ21 325 (((3 * y3) + 2)).toNatClampNeg) ||| ((1 : Int32) <<< (y9 &&& 31)))) := ⟨_, rfl⟩
        rw [sh_let_eq eμ27] at h
        have hG27 : sh_G μ27 := by rw [eμ27]; exact hG21
        have hF27 : rI μ μ27 := by rw [eμ27]; exact rI_I hF21 (by first | exact Or.inl (by decide) | exact Or.inr (by decide))
        have e2 := Option.some.inj h
        exact e2 ▸ hF27
      · rw [if_neg c24] at h
        have e2 := Option.some.inj h
        exact e2 ▸ hF21
    · rw [if_neg c16] at h
      by_cases c17 : (sh_i μ7 291 5) = 0
      · rw [if_pos c17] at h
        obtain ⟨k18, h⟩ := sh_chk h
        obtain ⟨k19, h⟩ := sh_chk h
        obtain ⟨μ20, eμ20⟩ : ∃ y : sh_Mem, y = (sh_setI μ7 325 (((3 * y3) + 2)).toNatClampNeg ((sh_i μ7 325 (((3 * y3) + 2)).toNatClampNeg) ||| ((1 : Int32) <<< (y9 &&& 31)))) := ⟨_, rfl⟩
        rw [sh_let_eq eμ20] at h
        have hG20 : sh_G μ20 := by rw [eμ20]; exact hG7
        have hF20 : rI μ μ20 := by rw [eμ20]; exact rI_I hF7 (by first | exact Or.inl (by decide) | exact Or.inr (by decide))
        have e2 := Option.some.inj h
        exact e2 ▸ hF20
      · rw [if_neg c17] at h
        have e2 := Option.some.inj h
        exact e2 ▸ hF7
  · rw [if_neg c10] at h
    by_cases c11 : (sh_i μ7 291 5) = 0
    · rw [if_pos c11] at h
      obtain ⟨k12, h⟩ := sh_chk h
      obtain ⟨k13, h⟩ := sh_chk h
      obtain ⟨μ14, eμ14⟩ : ∃ y : sh_Mem, y = (sh_setI μ7 325 (((3 * y3) + 2)).toNatClampNeg ((sh_i μ7 325 (((3 * y3) + 2)).toNatClampNeg) ||| ((1 : Int32) <<< (y9 &&& 31)))) := ⟨_, rfl⟩
      rw [sh_let_eq eμ14] at h
      have hG14 : sh_G μ14 := by rw [eμ14]; exact hG7
      have hF14 : rI μ μ14 := by rw [eμ14]; exact rI_I hF7 (by first | exact Or.inl (by decide) | exact Or.inr (by decide))
      have e2 := Option.some.inj h
      exact e2 ▸ hF14
    · rw [if_neg c11] at h
      have e2 := Option.some.inj h
      exact e2 ▸ hF7
theorem ri_X12_listTold {a1 : Int32} {μ μ' : sh_Mem} (hG : sh_G μ) (h : f_X12_listTold a1 μ = some μ') : rI μ μ' := by
  have hF : rI μ μ := rI.rf
  unfold f_X12_listTold at h
  obtain ⟨y3, μ1, hr2, h⟩ := sh_bind_e h
  have hG1 := gp_X12_isFull hG hr2
  have hF1 := hF.trans (ri_X12_isFull hG hr2)
  by_cases c4 : y3 = 0
  · rw [if_pos c4] at h
    obtain ⟨y7, μ5, hr6, h⟩ := sh_bind_e h
    have hG5 := gp_X12_named hG1 hr6
    have hF5 := hF1.trans (ri_X12_named hG1 hr6)
    obtain ⟨μ8, hr9, h⟩ := sh_bindv_e h
    have hG8 := gp_X12_needs hG5 (sh_LAYat_302) hr9
    have hF8 := hF5.trans (ri_X12_needs hG5 (sh_LAYat_302) (by decide) hr9)
    obtain ⟨y13, μ11, hr12, h⟩ := sh_bind_e h
    have hG11 := gp_X12_named hG8 hr12
    have hF11 := hF8.trans (ri_X12_named hG8 hr12)
    by_cases c14 : (sh_i μ11 291 5) = 0
    · rw [if_pos c14] at h
      obtain ⟨k15, h⟩ := sh_chk h
      obtain ⟨μ16, eμ16⟩ : ∃ y : sh_Mem, y = (sh_setI μ11 326 ((2 * (sh_i μ11 322 (Int32.toNatClampNeg 2)))).toNatClampNeg y7) := ⟨_, rfl⟩
      rw [sh_let_eq eμ16] at h
      have hG16 : sh_G μ16 := by rw [eμ16]; exact hG11
      have hF16 : rI μ μ16 := by rw [eμ16]; exact rI_I hF11 (by first | exact Or.inl (by decide) | exact Or.inr (by decide))
      obtain ⟨k17, h⟩ := sh_chk h
      obtain ⟨μ18, eμ18⟩ : ∃ y : sh_Mem, y = (sh_setI μ16 326 (((2 * (sh_i μ16 322 (Int32.toNatClampNeg 2))) + 1)).toNatClampNeg y13) := ⟨_, rfl⟩
      rw [sh_let_eq eμ18] at h
      have hG18 : sh_G μ18 := by rw [eμ18]; exact hG16
      have hF18 : rI μ μ18 := by rw [eμ18]; exact rI_I hF16 (by first | exact Or.inl (by decide) | exact Or.inr (by decide))
      obtain ⟨μ19, eμ19⟩ : ∃ y : sh_Mem, y = (sh_setI μ18 322 (Int32.toNatClampNeg 2) ((sh_i μ18 322 (Int32.toNatClampNeg 2)) + 1)) := ⟨_, rfl⟩
      rw [sh_let_eq eμ19] at h
      have hG19 : sh_G μ19 := by rw [eμ19]; exact hG18
      have hF19 : rI μ μ19 := by rw [eμ19]; exact rI_I hF18 (by first | exact Or.inl (by decide) | exact Or.inr (by decide))
      have e2 := Option.some.inj h
      exact e2 ▸ hF19
    · rw [if_neg c14] at h
      have e2 := Option.some.inj h
      exact e2 ▸ hF11
  · rw [if_neg c4] at h
    have e2 := Option.some.inj h
    exact e2 ▸ hF1
theorem ri_X12_qCode {a1 : Int32} {μ μ' : sh_Mem} (hG : sh_G μ) (h : f_X12_qCode a1 μ = some μ') : rI μ μ' := by
  have hF : rI μ μ := rI.rf
  unfold f_X12_qCode at h
  obtain ⟨k1, h⟩ := sh_chk h
  obtain ⟨μ2, eμ2⟩ : ∃ y : sh_Mem, y = (sh_setI μ 364 ((sh_i μ 291 103)).toNatClampNeg a1) := ⟨_, rfl⟩
  rw [sh_let_eq eμ2] at h
  have hG2 : sh_G μ2 := by rw [eμ2]; exact hG
  have hF2 : rI μ μ2 := by rw [eμ2]; exact rI_I hF (by first | exact Or.inl (by decide) | exact Or.inr (by decide))
  obtain ⟨μ3, eμ3⟩ : ∃ y : sh_Mem, y = (sh_setI μ2 291 103 ((sh_i μ2 291 103) + 1)) := ⟨_, rfl⟩
  rw [sh_let_eq eμ3] at h
  have hG3 : sh_G μ3 := by rw [eμ3]; exact hG2
  have hF3 : rI μ μ3 := by rw [eμ3]; exact rI_I hF2 (by first | exact Or.inl (by decide) | exact Or.inr (by decide))
  have e2 := Option.some.inj h
  exact e2 ▸ hF3
theorem ri_X12_qOpens {a1 : Int32} {a2 : Int32} {μ μ' : sh_Mem} (hG : sh_G μ) (h : f_X12_qOpens a1 a2 μ = some μ') : rI μ μ' := by
  have hF : rI μ μ := rI.rf
  unfold f_X12_qOpens at h
  by_cases c1 : (sh_i μ 291 5) = 0
  · rw [if_pos c1] at h
    by_cases c2 : (sh_i μ 291 106) = 6
    · rw [if_pos c2] at h
      obtain ⟨μ7, hr8, h⟩ := sh_bindv_e h
      have hG7 := gp_X12_fail hG hr8
      have hF7 := hF.trans (ri_X12_fail hr8 (by decide))
      have e2 := Option.some.inj h
      exact e2 ▸ hF7
    · rw [if_neg c2] at h
      obtain ⟨μ3, eμ3⟩ : ∃ y : sh_Mem, y = (sh_setI μ 291 106 ((sh_i μ 291 106) + 1)) := ⟨_, rfl⟩
      rw [sh_let_eq eμ3] at h
      have hG3 : sh_G μ3 := by rw [eμ3]; exact hG
      have hF3 : rI μ μ3 := by rw [eμ3]; exact rI_I hF (by first | exact Or.inl (by decide) | exact Or.inr (by decide))
      obtain ⟨k4, h⟩ := sh_chk h
      obtain ⟨μ5, eμ5⟩ : ∃ y : sh_Mem, y = (sh_setI μ3 365 ((sh_i μ3 291 105)).toNatClampNeg a1) := ⟨_, rfl⟩
      rw [sh_let_eq eμ5] at h
      have hG5 : sh_G μ5 := by rw [eμ5]; exact hG3
      have hF5 : rI μ μ5 := by rw [eμ5]; exact rI_I hF3 (by first | exact Or.inl (by decide) | exact Or.inr (by decide))
      obtain ⟨μ6, eμ6⟩ : ∃ y : sh_Mem, y = (sh_setI μ5 291 105 ((sh_i μ5 291 105) + 1)) := ⟨_, rfl⟩
      rw [sh_let_eq eμ6] at h
      have hG6 : sh_G μ6 := by rw [eμ6]; exact hG5
      have hF6 : rI μ μ6 := by rw [eμ6]; exact rI_I hF5 (by first | exact Or.inl (by decide) | exact Or.inr (by decide))
      have e2 := Option.some.inj h
      exact e2 ▸ hF6
  · rw [if_neg c1] at h
    have e2 := Option.some.inj h
    exact e2 ▸ hF
theorem ri_X12_qIsOn {a1 : Int32} {μ μ' : sh_Mem} {v : Int32} (hG : sh_G μ) (h : f_X12_qIsOn a1 μ = some (v, μ')) : rI μ μ' := by
  have hF : rI μ μ := rI.rf
  unfold f_X12_qIsOn at h
  by_cases c1 : (sh_i μ 291 105) ≤ 0
  · rw [if_pos c1] at h
    obtain ⟨e1, e2⟩ := sh_some2 h
    exact e2 ▸ hF
  · rw [if_neg c1] at h
    obtain ⟨k2, h⟩ := sh_chk h
    by_cases c3 : (sh_i μ 365 (((sh_i μ 291 105) - 1)).toNatClampNeg) = a1
    · rw [if_pos c3] at h
      obtain ⟨e1, e2⟩ := sh_some2 h
      exact e2 ▸ hF
    · rw [if_neg c3] at h
      obtain ⟨e1, e2⟩ := sh_some2 h
      exact e2 ▸ hF
theorem ri_X12_qDrops {μ μ' : sh_Mem} (hG : sh_G μ) (h : f_X12_qDrops μ = some μ') : rI μ μ' := by
  have hF : rI μ μ := rI.rf
  unfold f_X12_qDrops at h
  obtain ⟨μ1, eμ1⟩ : ∃ y : sh_Mem, y = (sh_setI μ 291 105 ((sh_i μ 291 105) - 1)) := ⟨_, rfl⟩
  rw [sh_let_eq eμ1] at h
  have hG1 : sh_G μ1 := by rw [eμ1]; exact hG
  have hF1 : rI μ μ1 := by rw [eμ1]; exact rI_I hF (by first | exact Or.inl (by decide) | exact Or.inr (by decide))
  obtain ⟨k2, h⟩ := sh_chk h
  obtain ⟨μ3, hr4, h⟩ := sh_bindv_e h
  have hG3 := gp_X12_qCode hG1 hr4
  have hF3 := hF1.trans (ri_X12_qCode hG1 hr4)
  have e2 := Option.some.inj h
  exact e2 ▸ hF3
theorem ril_X12_qBracket (fuel : Nat) : (∀ ⦃i1 : Int32⦄ ⦃μ μ' : sh_Mem⦄ ⦃v : Int32⦄, sh_G μ → F_X12_qBracket fuel 1 i1 μ = some (v, μ') → rI μ μ') := by
  induction fuel with
  | zero => intro i1 μ μ' v hG h; cases h
  | succ fuel ih =>
    have ih_7 := ih
    intro i1 μ μ' v hG h
    replace h : ((if i1 < (sh_i μ 291 107) then (if i1 < (sh_i μ 291 107) then some ((-1), μ) else (if sh_in i1 1700 then some ((sh_i μ 365 i1.toNatClampNeg), μ) else none)) else (if sh_in i1 1700 then (if (f_X12_qIsBracket μ (sh_i μ 365 i1.toNatClampNeg)) = 0 then F_X12_qBracket fuel 1 (i1 + (-1)) μ else (if i1 < (sh_i μ 291 107) then some ((-1), μ) else (if sh_in i1 1700 then some ((sh_i μ 365 i1.toNatClampNeg), μ) else none))) else none)) : Option (Int32 × sh_Mem)) = some (v, μ') := h
    have hF : rI μ μ := rI.rf
    by_cases c9 : i1 < (sh_i μ 291 107)
    · rw [if_pos c9] at h
      by_cases c10 : i1 < (sh_i μ 291 107)
      · rw [if_pos c10] at h
        obtain ⟨e1, e2⟩ := sh_some2 h
        exact e2 ▸ hF
      · rw [if_neg c10] at h
        obtain ⟨k11, h⟩ := sh_chk h
        obtain ⟨e1, e2⟩ := sh_some2 h
        exact e2 ▸ hF
    · rw [if_neg c9] at h
      obtain ⟨k12, h⟩ := sh_chk h
      by_cases c13 : (f_X12_qIsBracket μ (sh_i μ 365 i1.toNatClampNeg)) = 0
      · rw [if_pos c13] at h
        exact hF.trans (ih_7 hG h)
      · rw [if_neg c13] at h
        by_cases c14 : i1 < (sh_i μ 291 107)
        · rw [if_pos c14] at h
          obtain ⟨e1, e2⟩ := sh_some2 h
          exact e2 ▸ hF
        · rw [if_neg c14] at h
          obtain ⟨k15, h⟩ := sh_chk h
          obtain ⟨e1, e2⟩ := sh_some2 h
          exact e2 ▸ hF
theorem ri_X12_qBracket {μ μ' : sh_Mem} {v : Int32} (hG : sh_G μ) (h : f_X12_qBracket μ = some (v, μ')) : rI μ μ' := by
  have ih_7 := (ril_X12_qBracket sh_fuel)
  have hF : rI μ μ := rI.rf
  unfold f_X12_qBracket at h
  obtain ⟨x16, ex16⟩ : ∃ y : Int32, y = ((sh_i μ 291 105) - 1) := ⟨_, rfl⟩
  rw [sh_let_eq ex16] at h
  exact hF.trans (ih_7 hG h)
theorem ril_X12_qDropsToBracket (fuel : Nat) : (∀ ⦃μ μ' : sh_Mem⦄, sh_G μ → F_X12_qDropsToBracket fuel 1 μ = some μ' → rI μ μ') := by
  induction fuel with
  | zero => intro μ μ' hG h; cases h
  | succ fuel ih =>
    have ih_0 := ih
    intro μ μ' hG h
    replace h : ((if (sh_i μ 291 105) ≤ (sh_i μ 291 107) then some μ else (if sh_in ((sh_i μ 291 105) - 1) 1700 then (if (f_X12_qIsBracket μ (sh_i μ 365 (((sh_i μ 291 105) - 1)).toNatClampNeg)) = 0 then sh_bindv (f_X12_qDrops μ) (fun μ10 => F_X12_qDropsToBracket fuel 1  μ10) else some μ) else none)) : Option sh_Mem) = some μ' := h
    have hF : rI μ μ := rI.rf
    by_cases c7 : (sh_i μ 291 105) ≤ (sh_i μ 291 107)
    · rw [if_pos c7] at h
      have e2 := Option.some.inj h
      exact e2 ▸ hF
    · rw [if_neg c7] at h
      obtain ⟨k8, h⟩ := sh_chk h
      by_cases c9 : (f_X12_qIsBracket μ (sh_i μ 365 (((sh_i μ 291 105) - 1)).toNatClampNeg)) = 0
      · rw [if_pos c9] at h
        obtain ⟨μ10, hr11, h⟩ := sh_bindv_e h
        have hG10 := gp_X12_qDrops hG hr11
        have hF10 := hF.trans (ri_X12_qDrops hG hr11)
        exact hF10.trans (ih_0 hG10 h)
      · rw [if_neg c9] at h
        have e2 := Option.some.inj h
        exact e2 ▸ hF
theorem ri_X12_qDropsToBracket {μ μ' : sh_Mem} (hG : sh_G μ) (h : f_X12_qDropsToBracket μ = some μ') : rI μ μ' := by
  have ih_0 := (ril_X12_qDropsToBracket sh_fuel)
  have hF : rI μ μ := rI.rf
  unfold f_X12_qDropsToBracket at h
  exact hF.trans (ih_0 hG h)
theorem ri_X12_qWordHere {μ μ' : sh_Mem} {v : Int32} (hG : sh_G μ) (h : f_X12_qWordHere μ = some (v, μ')) : rI μ μ' := by
  have hF : rI μ μ := rI.rf
  unfold f_X12_qWordHere at h
  obtain ⟨y3, μ1, hr2, h⟩ := sh_bind_e h
  have hG1 := gp_X12_isHere hG (sh_LAYat_353) hr2
  have hF1 := hF.trans (ri_X12_isHere hG (sh_LAYat_353) (by decide) hr2)
  by_cases c4 : y3 = 0
  · rw [if_pos c4] at h
    obtain ⟨y7, μ5, hr6, h⟩ := sh_bind_e h
    have hG5 := gp_X12_isHere hG1 (sh_LAYat_354) hr6
    have hF5 := hF1.trans (ri_X12_isHere hG1 (sh_LAYat_354) (by decide) hr6)
    by_cases c8 : y7 = 0
    · rw [if_pos c8] at h
      obtain ⟨y11, μ9, hr10, h⟩ := sh_bind_e h
      have hG9 := gp_X12_isHere hG5 (sh_LAYat_355) hr10
      have hF9 := hF5.trans (ri_X12_isHere hG5 (sh_LAYat_355) (by decide) hr10)
      by_cases c12 : y11 = 0
      · rw [if_pos c12] at h
        obtain ⟨y15, μ13, hr14, h⟩ := sh_bind_e h
        have hG13 := gp_X12_isHere hG9 (sh_LAYat_356) hr14
        have hF13 := hF9.trans (ri_X12_isHere hG9 (sh_LAYat_356) (by decide) hr14)
        by_cases c16 : y15 = 0
        · rw [if_pos c16] at h
          obtain ⟨y19, μ17, hr18, h⟩ := sh_bind_e h
          have hG17 := gp_X12_isHere hG13 (sh_LAYat_357) hr18
          have hF17 := hF13.trans (ri_X12_isHere hG13 (sh_LAYat_357) (by decide) hr18)
          by_cases c20 : y19 = 0
          · rw [if_pos c20] at h
            obtain ⟨y23, μ21, hr22, h⟩ := sh_bind_e h
            have hG21 := gp_X12_isHere hG17 (sh_LAYat_358) hr22
            have hF21 := hF17.trans (ri_X12_isHere hG17 (sh_LAYat_358) (by decide) hr22)
            by_cases c24 : y23 = 0
            · rw [if_pos c24] at h
              obtain ⟨y27, μ25, hr26, h⟩ := sh_bind_e h
              have hG25 := gp_X12_isHere hG21 (sh_LAYat_359) hr26
              have hF25 := hF21.trans (ri_X12_isHere hG21 (sh_LAYat_359) (by decide) hr26)
              by_cases c28 : y27 = 0
              · rw [if_pos c28] at h
                obtain ⟨y31, μ29, hr30, h⟩ := sh_bind_e h
                have hG29 := gp_X12_isHere hG25 (sh_LAYat_360) hr30
                have hF29 := hF25.trans (ri_X12_isHere hG25 (sh_LAYat_360) (by decide) hr30)
                by_cases c32 : y31 = 0
                · rw [if_pos c32] at h
                  obtain ⟨y35, μ33, hr34, h⟩ := sh_bind_e h
                  have hG33 := gp_X12_isHere hG29 (sh_LAYat_361) hr34
                  have hF33 := hF29.trans (ri_X12_isHere hG29 (sh_LAYat_361) (by decide) hr34)
                  by_cases c36 : y35 = 0
                  · rw [if_pos c36] at h
                    obtain ⟨y39, μ37, hr38, h⟩ := sh_bind_e h
                    have hG37 := gp_X12_isHere hG33 (sh_LAYat_362) hr38
                    have hF37 := hF33.trans (ri_X12_isHere hG33 (sh_LAYat_362) (by decide) hr38)
                    by_cases c40 : y39 = 0
                    · rw [if_pos c40] at h
                      obtain ⟨y43, μ41, hr42, h⟩ := sh_bind_e h
                      have hG41 := gp_X12_isHere hG37 (sh_LAYat_363) hr42
                      have hF41 := hF37.trans (ri_X12_isHere hG37 (sh_LAYat_363) (by decide) hr42)
                      by_cases c44 : y43 = 0
                      · rw [if_pos c44] at h
                        obtain ⟨e1, e2⟩ := sh_some2 h
                        exact e2 ▸ hF41
                      · rw [if_neg c44] at h
                        obtain ⟨e1, e2⟩ := sh_some2 h
                        exact e2 ▸ hF41
                    · rw [if_neg c40] at h
                      obtain ⟨e1, e2⟩ := sh_some2 h
                      exact e2 ▸ hF37
                  · rw [if_neg c36] at h
                    obtain ⟨e1, e2⟩ := sh_some2 h
                    exact e2 ▸ hF33
                · rw [if_neg c32] at h
                  obtain ⟨e1, e2⟩ := sh_some2 h
                  exact e2 ▸ hF29
              · rw [if_neg c28] at h
                obtain ⟨e1, e2⟩ := sh_some2 h
                exact e2 ▸ hF25
            · rw [if_neg c24] at h
              obtain ⟨e1, e2⟩ := sh_some2 h
              exact e2 ▸ hF21
          · rw [if_neg c20] at h
            obtain ⟨e1, e2⟩ := sh_some2 h
            exact e2 ▸ hF17
        · rw [if_neg c16] at h
          obtain ⟨e1, e2⟩ := sh_some2 h
          exact e2 ▸ hF13
      · rw [if_neg c12] at h
        obtain ⟨e1, e2⟩ := sh_some2 h
        exact e2 ▸ hF9
    · rw [if_neg c8] at h
      obtain ⟨e1, e2⟩ := sh_some2 h
      exact e2 ▸ hF5
  · rw [if_neg c4] at h
    obtain ⟨e1, e2⟩ := sh_some2 h
    exact e2 ▸ hF1
theorem ri_X12_qWordOf {a1 : Int32} {a2 : Int32} {μ μ' : sh_Mem} {v : Int32} (hG : sh_G μ) (h : f_X12_qWordOf a1 a2 μ = some (v, μ')) : rI μ μ' := by
  have hF : rI μ μ := rI.rf
  unfold f_X12_qWordOf at h
  obtain ⟨y3, μ1, hr2, h⟩ := sh_bind_e h
  have hG1 := gp_X12_qWordHere hG hr2
  have hF1 := hF.trans (ri_X12_qWordHere hG hr2)
  by_cases c4 : y3 < a1
  · rw [if_pos c4] at h
    obtain ⟨e1, e2⟩ := sh_some2 h
    exact e2 ▸ hF1
  · rw [if_neg c4] at h
    by_cases c5 : a2 ≤ y3
    · rw [if_pos c5] at h
      obtain ⟨e1, e2⟩ := sh_some2 h
      exact e2 ▸ hF1
    · rw [if_neg c5] at h
      by_cases c6 : (f_X12_isAllowed μ1 y3) = 0
      · rw [if_pos c6] at h
        obtain ⟨e1, e2⟩ := sh_some2 h
        exact e2 ▸ hF1
      · rw [if_neg c6] at h
        obtain ⟨e1, e2⟩ := sh_some2 h
        exact e2 ▸ hF1
theorem ri_X12_qAsksWord {a1 : Int32} {μ μ' : sh_Mem} (hG : sh_G μ) (h : f_X12_qAsksWord a1 μ = some μ') : rI μ μ' := by
  have hF : rI μ μ := rI.rf
  unfold f_X12_qAsksWord at h
  by_cases c1 : a1 = 0
  · rw [if_pos c1] at h
    obtain ⟨μ2, hr3, h⟩ := sh_bindv_e h
    have hG2 := gp_X12_needs hG (sh_LAYat_353) hr3
    have hF2 := hF.trans (ri_X12_needs hG (sh_LAYat_353) (by decide) hr3)
    have e2 := Option.some.inj h
    exact e2 ▸ hF2
  rw [if_neg c1] at h
  by_cases c5 : a1 = 1
  · rw [if_pos c5] at h
    obtain ⟨μ6, hr7, h⟩ := sh_bindv_e h
    have hG6 := gp_X12_needs hG (sh_LAYat_354) hr7
    have hF6 := hF.trans (ri_X12_needs hG (sh_LAYat_354) (by decide) hr7)
    have e2 := Option.some.inj h
    exact e2 ▸ hF6
  rw [if_neg c5] at h
  by_cases c9 : a1 = 2
  · rw [if_pos c9] at h
    obtain ⟨μ10, hr11, h⟩ := sh_bindv_e h
    have hG10 := gp_X12_needs hG (sh_LAYat_355) hr11
    have hF10 := hF.trans (ri_X12_needs hG (sh_LAYat_355) (by decide) hr11)
    have e2 := Option.some.inj h
    exact e2 ▸ hF10
  rw [if_neg c9] at h
  by_cases c13 : a1 = 3
  · rw [if_pos c13] at h
    obtain ⟨μ14, hr15, h⟩ := sh_bindv_e h
    have hG14 := gp_X12_needs hG (sh_LAYat_356) hr15
    have hF14 := hF.trans (ri_X12_needs hG (sh_LAYat_356) (by decide) hr15)
    have e2 := Option.some.inj h
    exact e2 ▸ hF14
  rw [if_neg c13] at h
  by_cases c17 : a1 = 4
  · rw [if_pos c17] at h
    obtain ⟨μ18, hr19, h⟩ := sh_bindv_e h
    have hG18 := gp_X12_needs hG (sh_LAYat_357) hr19
    have hF18 := hF.trans (ri_X12_needs hG (sh_LAYat_357) (by decide) hr19)
    have e2 := Option.some.inj h
    exact e2 ▸ hF18
  rw [if_neg c17] at h
  by_cases c21 : a1 = 5
  · rw [if_pos c21] at h
    obtain ⟨μ22, hr23, h⟩ := sh_bindv_e h
    have hG22 := gp_X12_needs hG (sh_LAYat_358) hr23
    have hF22 := hF.trans (ri_X12_needs hG (sh_LAYat_358) (by decide) hr23)
    have e2 := Option.some.inj h
    exact e2 ▸ hF22
  rw [if_neg c21] at h
  by_cases c25 : a1 = 6
  · rw [if_pos c25] at h
    obtain ⟨μ26, hr27, h⟩ := sh_bindv_e h
    have hG26 := gp_X12_needs hG (sh_LAYat_359) hr27
    have hF26 := hF.trans (ri_X12_needs hG (sh_LAYat_359) (by decide) hr27)
    have e2 := Option.some.inj h
    exact e2 ▸ hF26
  rw [if_neg c25] at h
  by_cases c29 : a1 = 7
  · rw [if_pos c29] at h
    obtain ⟨μ30, hr31, h⟩ := sh_bindv_e h
    have hG30 := gp_X12_needs hG (sh_LAYat_360) hr31
    have hF30 := hF.trans (ri_X12_needs hG (sh_LAYat_360) (by decide) hr31)
    have e2 := Option.some.inj h
    exact e2 ▸ hF30
  rw [if_neg c29] at h
  by_cases c33 : a1 = 8
  · rw [if_pos c33] at h
    obtain ⟨μ34, hr35, h⟩ := sh_bindv_e h
    have hG34 := gp_X12_needs hG (sh_LAYat_361) hr35
    have hF34 := hF.trans (ri_X12_needs hG (sh_LAYat_361) (by decide) hr35)
    have e2 := Option.some.inj h
    exact e2 ▸ hF34
  rw [if_neg c33] at h
  by_cases c37 : a1 = 9
  · rw [if_pos c37] at h
    obtain ⟨μ38, hr39, h⟩ := sh_bindv_e h
    have hG38 := gp_X12_needs hG (sh_LAYat_362) hr39
    have hF38 := hF.trans (ri_X12_needs hG (sh_LAYat_362) (by decide) hr39)
    have e2 := Option.some.inj h
    exact e2 ▸ hF38
  rw [if_neg c37] at h
  obtain ⟨μ41, hr42, h⟩ := sh_bindv_e h
  have hG41 := gp_X12_needs hG (sh_LAYat_363) hr42
  have hF41 := hF.trans (ri_X12_needs hG (sh_LAYat_363) (by decide) hr42)
  have e2 := Option.some.inj h
  exact e2 ▸ hF41
theorem ril_X12_qEndsPart (fuel : Nat) : (∀ ⦃μ μ' : sh_Mem⦄, sh_G μ → F_X12_qEndsPart fuel 1 μ = some μ' → rI μ μ') := by
  induction fuel with
  | zero => intro μ μ' hG h; cases h
  | succ fuel ih =>
    have ih_0 := ih
    intro μ μ' hG h
    replace h : ((if (sh_i μ 291 5) = 0 then (if (sh_i μ 291 105) ≤ (sh_i μ 291 107) then some μ else (if sh_in ((sh_i μ 291 105) - 1) 1700 then (if (sh_i μ 365 (((sh_i μ 291 105) - 1)).toNatClampNeg) < 60 then some μ else sh_let (sh_setI μ 291 106 ((sh_i μ 291 106) - 1)) (fun μ13 => sh_bindv (f_X12_qDrops μ13) (fun μ14 => F_X12_qEndsPart fuel 1  μ14))) else none)) else some μ) : Option sh_Mem) = some μ' := h
    have hF : rI μ μ := rI.rf
    by_cases c9 : (sh_i μ 291 5) = 0
    · rw [if_pos c9] at h
      by_cases c10 : (sh_i μ 291 105) ≤ (sh_i μ 291 107)
      · rw [if_pos c10] at h
        have e2 := Option.some.inj h
        exact e2 ▸ hF
      · rw [if_neg c10] at h
        obtain ⟨k11, h⟩ := sh_chk h
        by_cases c12 : (sh_i μ 365 (((sh_i μ 291 105) - 1)).toNatClampNeg) < 60
        · rw [if_pos c12] at h
          have e2 := Option.some.inj h
          exact e2 ▸ hF
        · rw [if_neg c12] at h
          obtain ⟨μ13, eμ13⟩ : ∃ y : sh_Mem, y = (sh_setI μ 291 106 ((sh_i μ 291 106) - 1)) := ⟨_, rfl⟩
          rw [sh_let_eq eμ13] at h
          have hG13 : sh_G μ13 := by rw [eμ13]; exact hG
          have hF13 : rI μ μ13 := by rw [eμ13]; exact rI_I hF (by first | exact Or.inl (by decide) | exact Or.inr (by decide))
          obtain ⟨μ14, hr15, h⟩ := sh_bindv_e h
          have hG14 := gp_X12_qDrops hG13 hr15
          have hF14 := hF13.trans (ri_X12_qDrops hG13 hr15)
          exact hF14.trans (ih_0 hG14 h)
    · rw [if_neg c9] at h
      have e2 := Option.some.inj h
      exact e2 ▸ hF
theorem ri_X12_qEndsPart {μ μ' : sh_Mem} (hG : sh_G μ) (h : f_X12_qEndsPart μ = some μ') : rI μ μ' := by
  have ih_0 := (ril_X12_qEndsPart sh_fuel)
  have hF : rI μ μ := rI.rf
  unfold f_X12_qEndsPart at h
  exact hF.trans (ih_0 hG h)
theorem ril_X12_qPartTold (fuel : Nat) : (∀ ⦃i1 : Int32⦄ ⦃μ μ' : sh_Mem⦄, sh_G μ → F_X12_qPartTold fuel 1 i1 μ = some μ' → rI μ μ') := by
  induction fuel with
  | zero => intro i1 μ μ' hG h; cases h
  | succ fuel ih =>
    have ih_2 := ih
    intro i1 μ μ' hG h
    replace h : ((if i1 = 0 then (if (sh_i μ 291 5) = 0 then sh_bind (f_X12_qWordOf 0 9 μ) (fun y227 μ225 => (if y227 = (-1) then (if y227 = (-1) then sh_bind (f_X12_number 0 9999 μ225) (fun y232 μ230 => sh_bindv (f_X12_qCode (1000 + y232) μ230) (fun μ233 => sh_bindv (f_X12_qEndsPart μ233) (fun μ236 => some μ236))) else sh_bindv (f_X12_qCode (40 + y227) μ225) (fun μ239 => sh_bindv (f_X12_qEndsPart μ239) (fun μ242 => some μ242))) else sh_bindv (f_X12_qAsksWord y227 μ225) (fun μ245 => (if y227 = (-1) then sh_bind (f_X12_number 0 9999 μ245) (fun y251 μ249 => sh_bindv (f_X12_qCode (1000 + y251) μ249) (fun μ252 => sh_bindv (f_X12_qEndsPart μ252) (fun μ255 => some μ255))) else sh_bindv (f_X12_qCode (40 + y227) μ245) (fun μ258 => sh_bindv (f_X12_qEndsPart μ258) (fun μ261 => some μ261)))))) else some μ) else (if (sh_i μ 291 5) = 0 then sh_bind (f_X12_look μ) (fun y307 μ305 => sh_bind (f_X12_qWordOf 9 11 μ305) (fun y310 μ308 => (if y307 = 40 then sh_bindv (f_X12_qOpens 20 (sh_i μ308 291 2) μ308) (fun μ441 => sh_let (sh_setI μ441 291 2 ((sh_i μ441 291 2) + 1)) (fun μ444 => F_X12_qPartTold fuel 1 i1 μ444)) else sh_bind (f_X12_isHere 351 3 μ308) (fun y314 μ312 => (if y314 = 0 then sh_bind (f_X12_isHere 352 3 μ312) (fun y375 μ373 => (if y375 = 0 then (if y310 = (-1) then F_X12_qPartTold fuel 1 0 μ373 else sh_bindv (f_X12_qOpens ((60 + y310) - 9) (sh_i μ373 291 2) μ373) (fun μ378 => sh_bindv (f_X12_qAsksWord y310 μ378) (fun μ381 => F_X12_qPartTold fuel 1 i1 μ381))) else sh_bind (f_X12_takes 351 3 μ373) (fun y386 μ384 => (if y386 = 0 then sh_bindv (f_X12_needs 352 3 μ384) (fun μ413 => sh_bind (f_X12_look μ413) (fun y418 μ416 => (if y418 = 40 then sh_let ((sh_i μ416 291 2) : Int32) (fun x423 => (if x423 = (-1) then sh_bindv (f_X12_asksSign 40 μ416) (fun μ425 => F_X12_qPartTold fuel 1 i1 μ425) else (if y386 = 0 then sh_bindv (f_X12_qOpens 22 x423 μ416) (fun μ429 => sh_bindv (f_X12_asksSign 40 μ429) (fun μ432 => F_X12_qPartTold fuel 1 i1 μ432)) else sh_bindv (f_X12_qOpens 21 x423 μ416) (fun μ435 => sh_bindv (f_X12_asksSign 40 μ435) (fun μ438 => F_X12_qPartTold fuel 1 i1 μ438))))) else sh_bindv (f_X12_asksSign 40 μ416) (fun μ420 => F_X12_qPartTold fuel 1 i1 μ420)))) else sh_bind (f_X12_look μ384) (fun y390 μ388 => (if y390 = 40 then sh_let ((sh_i μ388 291 2) : Int32) (fun x395 => (if x395 = (-1) then sh_bindv (f_X12_asksSign 40 μ388) (fun μ397 => F_X12_qPartTold fuel 1 i1 μ397) else (if y386 = 0 then sh_bindv (f_X12_qOpens 22 x395 μ388) (fun μ401 => sh_bindv (f_X12_asksSign 40 μ401) (fun μ404 => F_X12_qPartTold fuel 1 i1 μ404)) else sh_bindv (f_X12_qOpens 21 x395 μ388) (fun μ407 => sh_bindv (f_X12_asksSign 40 μ407) (fun μ410 => F_X12_qPartTold fuel 1 i1 μ410))))) else sh_bindv (f_X12_asksSign 40 μ388) (fun μ392 => F_X12_qPartTold fuel 1 i1 μ392))))))) else sh_bind (f_X12_takes 351 3 μ312) (fun y318 μ316 => (if y318 = 0 then sh_bindv (f_X12_needs 352 3 μ316) (fun μ345 => sh_bind (f_X12_look μ345) (fun y350 μ348 => (if y350 = 40 then sh_let ((sh_i μ348 291 2) : Int32) (fun x355 => (if x355 = (-1) then sh_bindv (f_X12_asksSign 40 μ348) (fun μ357 => F_X12_qPartTold fuel 1 i1 μ357) else (if y318 = 0 then sh_bindv (f_X12_qOpens 22 x355 μ348) (fun μ361 => sh_bindv (f_X12_asksSign 40 μ361) (fun μ364 => F_X12_qPartTold fuel 1 i1 μ364)) else sh_bindv (f_X12_qOpens 21 x355 μ348) (fun μ367 => sh_bindv (f_X12_asksSign 40 μ367) (fun μ370 => F_X12_qPartTold fuel 1 i1 μ370))))) else sh_bindv (f_X12_asksSign 40 μ348) (fun μ352 => F_X12_qPartTold fuel 1 i1 μ352)))) else sh_bind (f_X12_look μ316) (fun y322 μ320 => (if y322 = 40 then sh_let ((sh_i μ320 291 2) : Int32) (fun x327 => (if x327 = (-1) then sh_bindv (f_X12_asksSign 40 μ320) (fun μ329 => F_X12_qPartTold fuel 1 i1 μ329) else (if y318 = 0 then sh_bindv (f_X12_qOpens 22 x327 μ320) (fun μ333 => sh_bindv (f_X12_asksSign 40 μ333) (fun μ336 => F_X12_qPartTold fuel 1 i1 μ336)) else sh_bindv (f_X12_qOpens 21 x327 μ320) (fun μ339 => sh_bindv (f_X12_asksSign 40 μ339) (fun μ342 => F_X12_qPartTold fuel 1 i1 μ342))))) else sh_bindv (f_X12_asksSign 40 μ320) (fun μ324 => F_X12_qPartTold fuel 1 i1 μ324)))))))))) else (if (sh_i μ 291 5) = 0 then sh_bind (f_X12_qWordOf 0 9 μ) (fun y268 μ266 => (if y268 = (-1) then (if y268 = (-1) then sh_bind (f_X12_number 0 9999 μ266) (fun y273 μ271 => sh_bindv (f_X12_qCode (1000 + y273) μ271) (fun μ274 => sh_bindv (f_X12_qEndsPart μ274) (fun μ277 => some μ277))) else sh_bindv (f_X12_qCode (40 + y268) μ266) (fun μ280 => sh_bindv (f_X12_qEndsPart μ280) (fun μ283 => some μ283))) else sh_bindv (f_X12_qAsksWord y268 μ266) (fun μ286 => (if y268 = (-1) then sh_bind (f_X12_number 0 9999 μ286) (fun y292 μ290 => sh_bindv (f_X12_qCode (1000 + y292) μ290) (fun μ293 => sh_bindv (f_X12_qEndsPart μ293) (fun μ296 => some μ296))) else sh_bindv (f_X12_qCode (40 + y268) μ286) (fun μ299 => sh_bindv (f_X12_qEndsPart μ299) (fun μ302 => some μ302)))))) else some μ))) : Option sh_Mem) = some μ' := h
    have hF : rI μ μ := rI.rf
    by_cases c223 : i1 = 0
    · rw [if_pos c223] at h
      by_cases c224 : (sh_i μ 291 5) = 0
      · rw [if_pos c224] at h
        obtain ⟨y227, μ225, hr226, h⟩ := sh_bind_e h
        have hG225 := gp_X12_qWordOf hG hr226
        have hF225 := hF.trans (ri_X12_qWordOf hG hr226)
        by_cases c228 : y227 = (-1)
        · rw [if_pos c228] at h
          by_cases c229 : y227 = (-1)
          · rw [if_pos c229] at h
            obtain ⟨y232, μ230, hr231, h⟩ := sh_bind_e h
            have hG230 := gp_X12_number hG225 hr231
            have hF230 := hF225.trans (ri_X12_number hG225 hr231)
            obtain ⟨μ233, hr234, h⟩ := sh_bindv_e h
            have hG233 := gp_X12_qCode hG230 hr234
            have hF233 := hF230.trans (ri_X12_qCode hG230 hr234)
            obtain ⟨μ236, hr237, h⟩ := sh_bindv_e h
            have hG236 := gp_X12_qEndsPart hG233 hr237
            have hF236 := hF233.trans (ri_X12_qEndsPart hG233 hr237)
            have e2 := Option.some.inj h
            exact e2 ▸ hF236
          · rw [if_neg c229] at h
            obtain ⟨μ239, hr240, h⟩ := sh_bindv_e h
            have hG239 := gp_X12_qCode hG225 hr240
            have hF239 := hF225.trans (ri_X12_qCode hG225 hr240)
            obtain ⟨μ242, hr243, h⟩ := sh_bindv_e h
            have hG242 := gp_X12_qEndsPart hG239 hr243
            have hF242 := hF239.trans (ri_X12_qEndsPart hG239 hr243)
            have e2 := Option.some.inj h
            exact e2 ▸ hF242
        · rw [if_neg c228] at h
          obtain ⟨μ245, hr246, h⟩ := sh_bindv_e h
          have hG245 := gp_X12_qAsksWord hG225 hr246
          have hF245 := hF225.trans (ri_X12_qAsksWord hG225 hr246)
          by_cases c248 : y227 = (-1)
          · rw [if_pos c248] at h
            obtain ⟨y251, μ249, hr250, h⟩ := sh_bind_e h
            have hG249 := gp_X12_number hG245 hr250
            have hF249 := hF245.trans (ri_X12_number hG245 hr250)
            obtain ⟨μ252, hr253, h⟩ := sh_bindv_e h
            have hG252 := gp_X12_qCode hG249 hr253
            have hF252 := hF249.trans (ri_X12_qCode hG249 hr253)
            obtain ⟨μ255, hr256, h⟩ := sh_bindv_e h
            have hG255 := gp_X12_qEndsPart hG252 hr256
            have hF255 := hF252.trans (ri_X12_qEndsPart hG252 hr256)
            have e2 := Option.some.inj h
            exact e2 ▸ hF255
          · rw [if_neg c248] at h
            obtain ⟨μ258, hr259, h⟩ := sh_bindv_e h
            have hG258 := gp_X12_qCode hG245 hr259
            have hF258 := hF245.trans (ri_X12_qCode hG245 hr259)
            obtain ⟨μ261, hr262, h⟩ := sh_bindv_e h
            have hG261 := gp_X12_qEndsPart hG258 hr262
            have hF261 := hF258.trans (ri_X12_qEndsPart hG258 hr262)
            have e2 := Option.some.inj h
            exact e2 ▸ hF261
      · rw [if_neg c224] at h
        have e2 := Option.some.inj h
        exact e2 ▸ hF
    · rw [if_neg c223] at h
      by_cases c264 : (sh_i μ 291 5) = 0
      · rw [if_pos c264] at h
        obtain ⟨y307, μ305, hr306, h⟩ := sh_bind_e h
        have hG305 := gp_X12_look hG hr306
        have hF305 := hF.trans (ri_X12_look hG hr306)
        obtain ⟨y310, μ308, hr309, h⟩ := sh_bind_e h
        have hG308 := gp_X12_qWordOf hG305 hr309
        have hF308 := hF305.trans (ri_X12_qWordOf hG305 hr309)
        by_cases c311 : y307 = 40
        · rw [if_pos c311] at h
          obtain ⟨μ441, hr442, h⟩ := sh_bindv_e h
          have hG441 := gp_X12_qOpens hG308 hr442
          have hF441 := hF308.trans (ri_X12_qOpens hG308 hr442)
          obtain ⟨μ444, eμ444⟩ : ∃ y : sh_Mem, y = (sh_setI μ441 291 2 ((sh_i μ441 291 2) + 1)) := ⟨_, rfl⟩
          rw [sh_let_eq eμ444] at h
          have hG444 : sh_G μ444 := by rw [eμ444]; exact hG441
          have hF444 : rI μ μ444 := by rw [eμ444]; exact rI_I hF441 (by first | exact Or.inl (by decide) | exact Or.inr (by decide))
          exact hF444.trans (ih_2 hG444 h)
        · rw [if_neg c311] at h
          obtain ⟨y314, μ312, hr313, h⟩ := sh_bind_e h
          have hG312 := gp_X12_isHere hG308 (sh_LAYat_351) hr313
          have hF312 := hF308.trans (ri_X12_isHere hG308 (sh_LAYat_351) (by decide) hr313)
          by_cases c315 : y314 = 0
          · rw [if_pos c315] at h
            obtain ⟨y375, μ373, hr374, h⟩ := sh_bind_e h
            have hG373 := gp_X12_isHere hG312 (sh_LAYat_352) hr374
            have hF373 := hF312.trans (ri_X12_isHere hG312 (sh_LAYat_352) (by decide) hr374)
            by_cases c376 : y375 = 0
            · rw [if_pos c376] at h
              by_cases c377 : y310 = (-1)
              · rw [if_pos c377] at h
                exact hF373.trans (ih_2 hG373 h)
              · rw [if_neg c377] at h
                obtain ⟨μ378, hr379, h⟩ := sh_bindv_e h
                have hG378 := gp_X12_qOpens hG373 hr379
                have hF378 := hF373.trans (ri_X12_qOpens hG373 hr379)
                obtain ⟨μ381, hr382, h⟩ := sh_bindv_e h
                have hG381 := gp_X12_qAsksWord hG378 hr382
                have hF381 := hF378.trans (ri_X12_qAsksWord hG378 hr382)
                exact hF381.trans (ih_2 hG381 h)
            · rw [if_neg c376] at h
              obtain ⟨y386, μ384, hr385, h⟩ := sh_bind_e h
              have hG384 := gp_X12_takes hG373 (sh_LAYat_351) hr385
              have hF384 := hF373.trans (ri_X12_takes hG373 (sh_LAYat_351) (by decide) hr385)
              by_cases c387 : y386 = 0
              · rw [if_pos c387] at h
                obtain ⟨μ413, hr414, h⟩ := sh_bindv_e h
                have hG413 := gp_X12_needs hG384 (sh_LAYat_352) hr414
                have hF413 := hF384.trans (ri_X12_needs hG384 (sh_LAYat_352) (by decide) hr414)
                obtain ⟨y418, μ416, hr417, h⟩ := sh_bind_e h
                have hG416 := gp_X12_look hG413 hr417
                have hF416 := hF413.trans (ri_X12_look hG413 hr417)
                by_cases c419 : y418 = 40
                · rw [if_pos c419] at h
                  obtain ⟨x423, ex423⟩ : ∃ y : Int32, y = (sh_i μ416 291 2) := ⟨_, rfl⟩
                  rw [sh_let_eq ex423] at h
                  by_cases c424 : x423 = (-1)
                  · rw [if_pos c424] at h
                    obtain ⟨μ425, hr426, h⟩ := sh_bindv_e h
                    have hG425 := gp_X12_asksSign hG416 hr426
                    have hF425 := hF416.trans (ri_X12_asksSign hG416 hr426)
                    exact hF425.trans (ih_2 hG425 h)
                  · rw [if_neg c424] at h
                    by_cases c428 : y386 = 0
                    · rw [if_pos c428] at h
                      obtain ⟨μ429, hr430, h⟩ := sh_bindv_e h
                      have hG429 := gp_X12_qOpens hG416 hr430
                      have hF429 := hF416.trans (ri_X12_qOpens hG416 hr430)
                      obtain ⟨μ432, hr433, h⟩ := sh_bindv_e h
                      have hG432 := gp_X12_asksSign hG429 hr433
                      have hF432 := hF429.trans (ri_X12_asksSign hG429 hr433)
                      exact hF432.trans (ih_2 hG432 h)
                    · rw [if_neg c428] at h
                      obtain ⟨μ435, hr436, h⟩ := sh_bindv_e h
                      have hG435 := gp_X12_qOpens hG416 hr436
                      have hF435 := hF416.trans (ri_X12_qOpens hG416 hr436)
                      obtain ⟨μ438, hr439, h⟩ := sh_bindv_e h
                      have hG438 := gp_X12_asksSign hG435 hr439
                      have hF438 := hF435.trans (ri_X12_asksSign hG435 hr439)
                      exact hF438.trans (ih_2 hG438 h)
                · rw [if_neg c419] at h
                  obtain ⟨μ420, hr421, h⟩ := sh_bindv_e h
                  have hG420 := gp_X12_asksSign hG416 hr421
                  have hF420 := hF416.trans (ri_X12_asksSign hG416 hr421)
                  exact hF420.trans (ih_2 hG420 h)
              · rw [if_neg c387] at h
                obtain ⟨y390, μ388, hr389, h⟩ := sh_bind_e h
                have hG388 := gp_X12_look hG384 hr389
                have hF388 := hF384.trans (ri_X12_look hG384 hr389)
                by_cases c391 : y390 = 40
                · rw [if_pos c391] at h
                  obtain ⟨x395, ex395⟩ : ∃ y : Int32, y = (sh_i μ388 291 2) := ⟨_, rfl⟩
                  rw [sh_let_eq ex395] at h
                  by_cases c396 : x395 = (-1)
                  · rw [if_pos c396] at h
                    obtain ⟨μ397, hr398, h⟩ := sh_bindv_e h
                    have hG397 := gp_X12_asksSign hG388 hr398
                    have hF397 := hF388.trans (ri_X12_asksSign hG388 hr398)
                    exact hF397.trans (ih_2 hG397 h)
                  · rw [if_neg c396] at h
                    by_cases c400 : y386 = 0
                    · rw [if_pos c400] at h
                      obtain ⟨μ401, hr402, h⟩ := sh_bindv_e h
                      have hG401 := gp_X12_qOpens hG388 hr402
                      have hF401 := hF388.trans (ri_X12_qOpens hG388 hr402)
                      obtain ⟨μ404, hr405, h⟩ := sh_bindv_e h
                      have hG404 := gp_X12_asksSign hG401 hr405
                      have hF404 := hF401.trans (ri_X12_asksSign hG401 hr405)
                      exact hF404.trans (ih_2 hG404 h)
                    · rw [if_neg c400] at h
                      obtain ⟨μ407, hr408, h⟩ := sh_bindv_e h
                      have hG407 := gp_X12_qOpens hG388 hr408
                      have hF407 := hF388.trans (ri_X12_qOpens hG388 hr408)
                      obtain ⟨μ410, hr411, h⟩ := sh_bindv_e h
                      have hG410 := gp_X12_asksSign hG407 hr411
                      have hF410 := hF407.trans (ri_X12_asksSign hG407 hr411)
                      exact hF410.trans (ih_2 hG410 h)
                · rw [if_neg c391] at h
                  obtain ⟨μ392, hr393, h⟩ := sh_bindv_e h
                  have hG392 := gp_X12_asksSign hG388 hr393
                  have hF392 := hF388.trans (ri_X12_asksSign hG388 hr393)
                  exact hF392.trans (ih_2 hG392 h)
          · rw [if_neg c315] at h
            obtain ⟨y318, μ316, hr317, h⟩ := sh_bind_e h
            have hG316 := gp_X12_takes hG312 (sh_LAYat_351) hr317
            have hF316 := hF312.trans (ri_X12_takes hG312 (sh_LAYat_351) (by decide) hr317)
            by_cases c319 : y318 = 0
            · rw [if_pos c319] at h
              obtain ⟨μ345, hr346, h⟩ := sh_bindv_e h
              have hG345 := gp_X12_needs hG316 (sh_LAYat_352) hr346
              have hF345 := hF316.trans (ri_X12_needs hG316 (sh_LAYat_352) (by decide) hr346)
              obtain ⟨y350, μ348, hr349, h⟩ := sh_bind_e h
              have hG348 := gp_X12_look hG345 hr349
              have hF348 := hF345.trans (ri_X12_look hG345 hr349)
              by_cases c351 : y350 = 40
              · rw [if_pos c351] at h
                obtain ⟨x355, ex355⟩ : ∃ y : Int32, y = (sh_i μ348 291 2) := ⟨_, rfl⟩
                rw [sh_let_eq ex355] at h
                by_cases c356 : x355 = (-1)
                · rw [if_pos c356] at h
                  obtain ⟨μ357, hr358, h⟩ := sh_bindv_e h
                  have hG357 := gp_X12_asksSign hG348 hr358
                  have hF357 := hF348.trans (ri_X12_asksSign hG348 hr358)
                  exact hF357.trans (ih_2 hG357 h)
                · rw [if_neg c356] at h
                  by_cases c360 : y318 = 0
                  · rw [if_pos c360] at h
                    obtain ⟨μ361, hr362, h⟩ := sh_bindv_e h
                    have hG361 := gp_X12_qOpens hG348 hr362
                    have hF361 := hF348.trans (ri_X12_qOpens hG348 hr362)
                    obtain ⟨μ364, hr365, h⟩ := sh_bindv_e h
                    have hG364 := gp_X12_asksSign hG361 hr365
                    have hF364 := hF361.trans (ri_X12_asksSign hG361 hr365)
                    exact hF364.trans (ih_2 hG364 h)
                  · rw [if_neg c360] at h
                    obtain ⟨μ367, hr368, h⟩ := sh_bindv_e h
                    have hG367 := gp_X12_qOpens hG348 hr368
                    have hF367 := hF348.trans (ri_X12_qOpens hG348 hr368)
                    obtain ⟨μ370, hr371, h⟩ := sh_bindv_e h
                    have hG370 := gp_X12_asksSign hG367 hr371
                    have hF370 := hF367.trans (ri_X12_asksSign hG367 hr371)
                    exact hF370.trans (ih_2 hG370 h)
              · rw [if_neg c351] at h
                obtain ⟨μ352, hr353, h⟩ := sh_bindv_e h
                have hG352 := gp_X12_asksSign hG348 hr353
                have hF352 := hF348.trans (ri_X12_asksSign hG348 hr353)
                exact hF352.trans (ih_2 hG352 h)
            · rw [if_neg c319] at h
              obtain ⟨y322, μ320, hr321, h⟩ := sh_bind_e h
              have hG320 := gp_X12_look hG316 hr321
              have hF320 := hF316.trans (ri_X12_look hG316 hr321)
              by_cases c323 : y322 = 40
              · rw [if_pos c323] at h
                obtain ⟨x327, ex327⟩ : ∃ y : Int32, y = (sh_i μ320 291 2) := ⟨_, rfl⟩
                rw [sh_let_eq ex327] at h
                by_cases c328 : x327 = (-1)
                · rw [if_pos c328] at h
                  obtain ⟨μ329, hr330, h⟩ := sh_bindv_e h
                  have hG329 := gp_X12_asksSign hG320 hr330
                  have hF329 := hF320.trans (ri_X12_asksSign hG320 hr330)
                  exact hF329.trans (ih_2 hG329 h)
                · rw [if_neg c328] at h
                  by_cases c332 : y318 = 0
                  · rw [if_pos c332] at h
                    obtain ⟨μ333, hr334, h⟩ := sh_bindv_e h
                    have hG333 := gp_X12_qOpens hG320 hr334
                    have hF333 := hF320.trans (ri_X12_qOpens hG320 hr334)
                    obtain ⟨μ336, hr337, h⟩ := sh_bindv_e h
                    have hG336 := gp_X12_asksSign hG333 hr337
                    have hF336 := hF333.trans (ri_X12_asksSign hG333 hr337)
                    exact hF336.trans (ih_2 hG336 h)
                  · rw [if_neg c332] at h
                    obtain ⟨μ339, hr340, h⟩ := sh_bindv_e h
                    have hG339 := gp_X12_qOpens hG320 hr340
                    have hF339 := hF320.trans (ri_X12_qOpens hG320 hr340)
                    obtain ⟨μ342, hr343, h⟩ := sh_bindv_e h
                    have hG342 := gp_X12_asksSign hG339 hr343
                    have hF342 := hF339.trans (ri_X12_asksSign hG339 hr343)
                    exact hF342.trans (ih_2 hG342 h)
              · rw [if_neg c323] at h
                obtain ⟨μ324, hr325, h⟩ := sh_bindv_e h
                have hG324 := gp_X12_asksSign hG320 hr325
                have hF324 := hF320.trans (ri_X12_asksSign hG320 hr325)
                exact hF324.trans (ih_2 hG324 h)
      · rw [if_neg c264] at h
        by_cases c265 : (sh_i μ 291 5) = 0
        · rw [if_pos c265] at h
          obtain ⟨y268, μ266, hr267, h⟩ := sh_bind_e h
          have hG266 := gp_X12_qWordOf hG hr267
          have hF266 := hF.trans (ri_X12_qWordOf hG hr267)
          by_cases c269 : y268 = (-1)
          · rw [if_pos c269] at h
            by_cases c270 : y268 = (-1)
            · rw [if_pos c270] at h
              obtain ⟨y273, μ271, hr272, h⟩ := sh_bind_e h
              have hG271 := gp_X12_number hG266 hr272
              have hF271 := hF266.trans (ri_X12_number hG266 hr272)
              obtain ⟨μ274, hr275, h⟩ := sh_bindv_e h
              have hG274 := gp_X12_qCode hG271 hr275
              have hF274 := hF271.trans (ri_X12_qCode hG271 hr275)
              obtain ⟨μ277, hr278, h⟩ := sh_bindv_e h
              have hG277 := gp_X12_qEndsPart hG274 hr278
              have hF277 := hF274.trans (ri_X12_qEndsPart hG274 hr278)
              have e2 := Option.some.inj h
              exact e2 ▸ hF277
            · rw [if_neg c270] at h
              obtain ⟨μ280, hr281, h⟩ := sh_bindv_e h
              have hG280 := gp_X12_qCode hG266 hr281
              have hF280 := hF266.trans (ri_X12_qCode hG266 hr281)
              obtain ⟨μ283, hr284, h⟩ := sh_bindv_e h
              have hG283 := gp_X12_qEndsPart hG280 hr284
              have hF283 := hF280.trans (ri_X12_qEndsPart hG280 hr284)
              have e2 := Option.some.inj h
              exact e2 ▸ hF283
          · rw [if_neg c269] at h
            obtain ⟨μ286, hr287, h⟩ := sh_bindv_e h
            have hG286 := gp_X12_qAsksWord hG266 hr287
            have hF286 := hF266.trans (ri_X12_qAsksWord hG266 hr287)
            by_cases c289 : y268 = (-1)
            · rw [if_pos c289] at h
              obtain ⟨y292, μ290, hr291, h⟩ := sh_bind_e h
              have hG290 := gp_X12_number hG286 hr291
              have hF290 := hF286.trans (ri_X12_number hG286 hr291)
              obtain ⟨μ293, hr294, h⟩ := sh_bindv_e h
              have hG293 := gp_X12_qCode hG290 hr294
              have hF293 := hF290.trans (ri_X12_qCode hG290 hr294)
              obtain ⟨μ296, hr297, h⟩ := sh_bindv_e h
              have hG296 := gp_X12_qEndsPart hG293 hr297
              have hF296 := hF293.trans (ri_X12_qEndsPart hG293 hr297)
              have e2 := Option.some.inj h
              exact e2 ▸ hF296
            · rw [if_neg c289] at h
              obtain ⟨μ299, hr300, h⟩ := sh_bindv_e h
              have hG299 := gp_X12_qCode hG286 hr300
              have hF299 := hF286.trans (ri_X12_qCode hG286 hr300)
              obtain ⟨μ302, hr303, h⟩ := sh_bindv_e h
              have hG302 := gp_X12_qEndsPart hG299 hr303
              have hF302 := hF299.trans (ri_X12_qEndsPart hG299 hr303)
              have e2 := Option.some.inj h
              exact e2 ▸ hF302
        · rw [if_neg c265] at h
          have e2 := Option.some.inj h
          exact e2 ▸ hF
theorem ri_X12_qPartTold {μ μ' : sh_Mem} (hG : sh_G μ) (h : f_X12_qPartTold μ = some μ') : rI μ μ' := by
  have ih_2 := (ril_X12_qPartTold sh_fuel)
  have hF : rI μ μ := rI.rf
  unfold f_X12_qPartTold at h
  exact hF.trans (ih_2 hG h)
theorem ril_X12_qGoesOn (fuel : Nat) : (∀ ⦃i1 : Int32⦄ ⦃μ μ' : sh_Mem⦄ ⦃v : Int32⦄, sh_G μ → F_X12_qGoesOn fuel 1 i1 μ = some (v, μ') → rI μ μ') ∧ (∀ ⦃i1 : Int32⦄ ⦃μ μ' : sh_Mem⦄ ⦃v : Int32⦄, sh_G μ → F_X12_qGoesOn fuel 2 i1 μ = some (v, μ') → rI μ μ') ∧ (∀ ⦃i1 : Int32⦄ ⦃μ μ' : sh_Mem⦄ ⦃v : Int32⦄, sh_G μ → F_X12_qGoesOn fuel 3 i1 μ = some (v, μ') → rI μ μ') ∧ (∀ ⦃i1 : Int32⦄ ⦃μ μ' : sh_Mem⦄ ⦃v : Int32⦄, sh_G μ → F_X12_qGoesOn fuel 4 i1 μ = some (v, μ') → rI μ μ') ∧ (∀ ⦃i1 : Int32⦄ ⦃μ μ' : sh_Mem⦄ ⦃v : Int32⦄, sh_G μ → F_X12_qGoesOn fuel 5 i1 μ = some (v, μ') → rI μ μ') ∧ (∀ ⦃i1 : Int32⦄ ⦃μ μ' : sh_Mem⦄ ⦃v : Int32⦄, sh_G μ → F_X12_qGoesOn fuel 6 i1 μ = some (v, μ') → rI μ μ') ∧ (∀ ⦃i1 : Int32⦄ ⦃μ μ' : sh_Mem⦄ ⦃v : Int32⦄, sh_G μ → F_X12_qGoesOn fuel 7 i1 μ = some (v, μ') → rI μ μ') ∧ (∀ ⦃i1 : Int32⦄ ⦃μ μ' : sh_Mem⦄ ⦃v : Int32⦄, sh_G μ → F_X12_qGoesOn fuel 8 i1 μ = some (v, μ') → rI μ μ') ∧ (∀ ⦃i1 : Int32⦄ ⦃μ μ' : sh_Mem⦄ ⦃v : Int32⦄, sh_G μ → F_X12_qGoesOn fuel 9 i1 μ = some (v, μ') → rI μ μ') ∧ (∀ ⦃i1 : Int32⦄ ⦃μ μ' : sh_Mem⦄ ⦃v : Int32⦄, sh_G μ → F_X12_qGoesOn fuel 10 i1 μ = some (v, μ') → rI μ μ') ∧ (∀ ⦃i1 : Int32⦄ ⦃μ μ' : sh_Mem⦄ ⦃v : Int32⦄, sh_G μ → F_X12_qGoesOn fuel 11 i1 μ = some (v, μ') → rI μ μ') ∧ (∀ ⦃i1 : Int32⦄ ⦃μ μ' : sh_Mem⦄ ⦃v : Int32⦄, sh_G μ → F_X12_qGoesOn fuel 12 i1 μ = some (v, μ') → rI μ μ') := by
  induction fuel with
  | zero => exact ⟨(by intro i1 μ μ' v hG h; cases h), (by intro i1 μ μ' v hG h; cases h), (by intro i1 μ μ' v hG h; cases h), (by intro i1 μ μ' v hG h; cases h), (by intro i1 μ μ' v hG h; cases h), (by intro i1 μ μ' v hG h; cases h), (by intro i1 μ μ' v hG h; cases h), (by intro i1 μ μ' v hG h; cases h), (by intro i1 μ μ' v hG h; cases h), (by intro i1 μ μ' v hG h; cases h), (by intro i1 μ μ' v hG h; cases h), (by intro i1 μ μ' v hG h; cases h)⟩
  | succ fuel ih =>
    obtain ⟨ih_0, ih_43, ih_115, ih_122, ih_140, ih_162, ih_178, ih_225, ih_247, ih_279, ih_326, ih_386⟩ := ih
    refine ⟨?_, ?_, ?_, ?_, ?_, ?_, ?_, ?_, ?_, ?_, ?_, ?_⟩
    · intro i1 μ μ' v hG h
      replace h : ((if (sh_i μ 291 5) = 0 then sh_bind (f_X12_look μ) (fun y240 μ238 => (if y240 = 41 then sh_bind (f_X12_qBracket μ238) (fun y244 μ242 => (if y244 = 20 then F_X12_qGoesOn fuel 2 0 μ242 else sh_bind (f_X12_qBracket μ242) (fun y248 μ246 => (if y248 = 23 then F_X12_qGoesOn fuel 2 0 μ246 else sh_bind (f_X12_qBracket μ246) (fun y252 μ250 => (if y252 = 24 then F_X12_qGoesOn fuel 2 0 μ250 else F_X12_qGoesOn fuel 4 0 μ250)))))) else F_X12_qGoesOn fuel 4 0 μ238)) else F_X12_qGoesOn fuel 4 0 μ) : Option (Int32 × sh_Mem)) = some (v, μ') := h
      have hF : rI μ μ := rI.rf
      by_cases c237 : (sh_i μ 291 5) = 0
      · rw [if_pos c237] at h
        obtain ⟨y240, μ238, hr239, h⟩ := sh_bind_e h
        have hG238 := gp_X12_look hG hr239
        have hF238 := hF.trans (ri_X12_look hG hr239)
        by_cases c241 : y240 = 41
        · rw [if_pos c241] at h
          obtain ⟨y244, μ242, hr243, h⟩ := sh_bind_e h
          have hG242 := gp_X12_qBracket hG238 hr243
          have hF242 := hF238.trans (ri_X12_qBracket hG238 hr243)
          by_cases c245 : y244 = 20
          · rw [if_pos c245] at h
            exact hF242.trans (ih_43 hG242 h)
          · rw [if_neg c245] at h
            obtain ⟨y248, μ246, hr247, h⟩ := sh_bind_e h
            have hG246 := gp_X12_qBracket hG242 hr247
            have hF246 := hF242.trans (ri_X12_qBracket hG242 hr247)
            by_cases c249 : y248 = 23
            · rw [if_pos c249] at h
              exact hF246.trans (ih_43 hG246 h)
            · rw [if_neg c249] at h
              obtain ⟨y252, μ250, hr251, h⟩ := sh_bind_e h
              have hG250 := gp_X12_qBracket hG246 hr251
              have hF250 := hF246.trans (ri_X12_qBracket hG246 hr251)
              by_cases c253 : y252 = 24
              · rw [if_pos c253] at h
                exact hF250.trans (ih_43 hG250 h)
              · rw [if_neg c253] at h
                exact hF250.trans (ih_122 hG250 h)
        · rw [if_neg c241] at h
          exact hF238.trans (ih_122 hG238 h)
      · rw [if_neg c237] at h
        exact hF.trans (ih_122 hG h)
    · intro i1 μ μ' v hG h
      replace h : (sh_let (sh_setI μ 291 2 ((sh_i μ 291 2) + 1)) (fun μ254 => sh_bindv (f_X12_qDropsToBracket μ254) (fun μ255 => sh_let (sh_setI μ255 291 105 ((sh_i μ255 291 105) - 1)) (fun μ258 => sh_let (sh_setI μ258 291 106 ((sh_i μ258 291 106) - 1)) (fun μ259 => (if sh_in (sh_i μ259 291 105) 1700 then (if (sh_i μ259 365 ((sh_i μ259 291 105)).toNatClampNeg) = 20 then F_X12_qGoesOn fuel 3 0 μ259 else (if sh_in (sh_i μ259 291 105) 1700 then (if (sh_i μ259 365 ((sh_i μ259 291 105)).toNatClampNeg) = 23 then sh_bindv (f_X12_qCode 5 μ259) (fun μ267 => F_X12_qGoesOn fuel 3 0 μ267) else sh_bindv (f_X12_qCode 6 μ259) (fun μ264 => F_X12_qGoesOn fuel 3 0 μ264)) else none)) else none))))) : Option (Int32 × sh_Mem)) = some (v, μ') := h
      have hF : rI μ μ := rI.rf
      obtain ⟨μ254, eμ254⟩ : ∃ y : sh_Mem, y = (sh_setI μ 291 2 ((sh_i μ 291 2) + 1)) := ⟨_, rfl⟩
      rw [sh_let_eq eμ254] at h
      have hG254 : sh_G μ254 := by rw [eμ254]; exact hG
      have hF254 : rI μ μ254 := by rw [eμ254]; exact rI_I hF (by first | exact Or.inl (by decide) | exact Or.inr (by decide))
      obtain ⟨μ255, hr256, h⟩ := sh_bindv_e h
      have hG255 := gp_X12_qDropsToBracket hG254 hr256
      have hF255 := hF254.trans (ri_X12_qDropsToBracket hG254 hr256)
      obtain ⟨μ258, eμ258⟩ : ∃ y : sh_Mem, y = (sh_setI μ255 291 105 ((sh_i μ255 291 105) - 1)) := ⟨_, rfl⟩
      rw [sh_let_eq eμ258] at h
      have hG258 : sh_G μ258 := by rw [eμ258]; exact hG255
      have hF258 : rI μ μ258 := by rw [eμ258]; exact rI_I hF255 (by first | exact Or.inl (by decide) | exact Or.inr (by decide))
      obtain ⟨μ259, eμ259⟩ : ∃ y : sh_Mem, y = (sh_setI μ258 291 106 ((sh_i μ258 291 106) - 1)) := ⟨_, rfl⟩
      rw [sh_let_eq eμ259] at h
      have hG259 : sh_G μ259 := by rw [eμ259]; exact hG258
      have hF259 : rI μ μ259 := by rw [eμ259]; exact rI_I hF258 (by first | exact Or.inl (by decide) | exact Or.inr (by decide))
      obtain ⟨k260, h⟩ := sh_chk h
      by_cases c261 : (sh_i μ259 365 ((sh_i μ259 291 105)).toNatClampNeg) = 20
      · rw [if_pos c261] at h
        exact hF259.trans (ih_115 hG259 h)
      · rw [if_neg c261] at h
        obtain ⟨k262, h⟩ := sh_chk h
        by_cases c263 : (sh_i μ259 365 ((sh_i μ259 291 105)).toNatClampNeg) = 23
        · rw [if_pos c263] at h
          obtain ⟨μ267, hr268, h⟩ := sh_bindv_e h
          have hG267 := gp_X12_qCode hG259 hr268
          have hF267 := hF259.trans (ri_X12_qCode hG259 hr268)
          exact hF267.trans (ih_115 hG267 h)
        · rw [if_neg c263] at h
          obtain ⟨μ264, hr265, h⟩ := sh_bindv_e h
          have hG264 := gp_X12_qCode hG259 hr265
          have hF264 := hF259.trans (ri_X12_qCode hG259 hr265)
          exact hF264.trans (ih_115 hG264 h)
    · intro i1 μ μ' v hG h
      replace h : (sh_bindv (f_X12_qEndsPart μ) (fun μ270 => F_X12_qGoesOn fuel 1 0 μ270) : Option (Int32 × sh_Mem)) = some (v, μ') := h
      have hF : rI μ μ := rI.rf
      obtain ⟨μ270, hr271, h⟩ := sh_bindv_e h
      have hG270 := gp_X12_qEndsPart hG hr271
      have hF270 := hF.trans (ri_X12_qEndsPart hG hr271)
      exact hF270.trans (ih_0 hG270 h)
    · intro i1 μ μ' v hG h
      replace h : (sh_bind (f_X12_takesSign 42 μ) (fun y275 μ273 => (if y275 = 0 then sh_bind (f_X12_takesSign 47 μ273) (fun y279 μ277 => (if y279 = 0 then sh_bind (f_X12_takesSign 43 μ277) (fun y283 μ281 => (if y283 = 0 then sh_bind (f_X12_takesSign 45 μ281) (fun y287 μ285 => (if y287 = 0 then sh_bind (f_X12_qBracket μ285) (fun y291 μ289 => (if y291 = 21 then F_X12_qGoesOn fuel 11 0 μ289 else sh_bind (f_X12_qBracket μ289) (fun y295 μ293 => (if y295 = 22 then F_X12_qGoesOn fuel 11 0 μ293 else sh_bind (f_X12_qBracket μ293) (fun y299 μ297 => (if y299 = (-1) then F_X12_qGoesOn fuel 12 0 μ297 else (if (sh_i μ297 291 5) = 0 then sh_bindv (f_X12_fail 1 (sh_i μ297 291 2) μ297) (fun μ302 => F_X12_qGoesOn fuel 12 0 μ302) else F_X12_qGoesOn fuel 12 0 μ297))))))) else F_X12_qGoesOn fuel 8 0 μ285)) else F_X12_qGoesOn fuel 8 0 μ281)) else F_X12_qGoesOn fuel 5 0 μ277)) else F_X12_qGoesOn fuel 5 0 μ273)) : Option (Int32 × sh_Mem)) = some (v, μ') := h
      have hF : rI μ μ := rI.rf
      obtain ⟨y275, μ273, hr274, h⟩ := sh_bind_e h
      have hG273 := gp_X12_takesSign hG hr274
      have hF273 := hF.trans (ri_X12_takesSign hG hr274)
      by_cases c276 : y275 = 0
      · rw [if_pos c276] at h
        obtain ⟨y279, μ277, hr278, h⟩ := sh_bind_e h
        have hG277 := gp_X12_takesSign hG273 hr278
        have hF277 := hF273.trans (ri_X12_takesSign hG273 hr278)
        by_cases c280 : y279 = 0
        · rw [if_pos c280] at h
          obtain ⟨y283, μ281, hr282, h⟩ := sh_bind_e h
          have hG281 := gp_X12_takesSign hG277 hr282
          have hF281 := hF277.trans (ri_X12_takesSign hG277 hr282)
          by_cases c284 : y283 = 0
          · rw [if_pos c284] at h
            obtain ⟨y287, μ285, hr286, h⟩ := sh_bind_e h
            have hG285 := gp_X12_takesSign hG281 hr286
            have hF285 := hF281.trans (ri_X12_takesSign hG281 hr286)
            by_cases c288 : y287 = 0
            · rw [if_pos c288] at h
              obtain ⟨y291, μ289, hr290, h⟩ := sh_bind_e h
              have hG289 := gp_X12_qBracket hG285 hr290
              have hF289 := hF285.trans (ri_X12_qBracket hG285 hr290)
              by_cases c292 : y291 = 21
              · rw [if_pos c292] at h
                exact hF289.trans (ih_326 hG289 h)
              · rw [if_neg c292] at h
                obtain ⟨y295, μ293, hr294, h⟩ := sh_bind_e h
                have hG293 := gp_X12_qBracket hG289 hr294
                have hF293 := hF289.trans (ri_X12_qBracket hG289 hr294)
                by_cases c296 : y295 = 22
                · rw [if_pos c296] at h
                  exact hF293.trans (ih_326 hG293 h)
                · rw [if_neg c296] at h
                  obtain ⟨y299, μ297, hr298, h⟩ := sh_bind_e h
                  have hG297 := gp_X12_qBracket hG293 hr298
                  have hF297 := hF293.trans (ri_X12_qBracket hG293 hr298)
                  by_cases c300 : y299 = (-1)
                  · rw [if_pos c300] at h
                    exact hF297.trans (ih_386 hG297 h)
                  · rw [if_neg c300] at h
                    by_cases c301 : (sh_i μ297 291 5) = 0
                    · rw [if_pos c301] at h
                      obtain ⟨μ302, hr303, h⟩ := sh_bindv_e h
                      have hG302 := gp_X12_fail hG297 hr303
                      have hF302 := hF297.trans (ri_X12_fail hr303 (by decide))
                      exact hF302.trans (ih_386 hG302 h)
                    · rw [if_neg c301] at h
                      exact hF297.trans (ih_386 hG297 h)
            · rw [if_neg c288] at h
              exact hF285.trans (ih_225 hG285 h)
          · rw [if_neg c284] at h
            exact hF281.trans (ih_225 hG281 h)
        · rw [if_neg c280] at h
          exact hF277.trans (ih_140 hG277 h)
      · rw [if_neg c276] at h
        exact hF273.trans (ih_140 hG273 h)
    · intro i1 μ μ' v hG h
      replace h : ((if sh_in ((sh_i μ 291 2) - 1) 1600 then (if (sh_i μ 292 (((sh_i μ 291 2) - 1)).toNatClampNeg) = 42 then F_X12_qGoesOn fuel 6 3 μ else F_X12_qGoesOn fuel 6 4 μ) else none) : Option (Int32 × sh_Mem)) = some (v, μ') := h
      have hF : rI μ μ := rI.rf
      obtain ⟨k305, h⟩ := sh_chk h
      by_cases c306 : (sh_i μ 292 (((sh_i μ 291 2) - 1)).toNatClampNeg) = 42
      · rw [if_pos c306] at h
        exact hF.trans (ih_162 hG h)
      · rw [if_neg c306] at h
        exact hF.trans (ih_162 hG h)
    · intro i1 μ μ' v hG h
      replace h : (sh_bind (f_X12_qIsOn 3 μ) (fun y309 μ307 => (if y309 = 0 then sh_bind (f_X12_qIsOn 4 μ307) (fun y313 μ311 => (if y313 = 0 then (if sh_in (sh_i μ311 291 105) 1700 then sh_let (sh_setI μ311 365 ((sh_i μ311 291 105)).toNatClampNeg i1) (fun μ316 => sh_let (sh_setI μ316 291 105 ((sh_i μ316 291 105) + 1)) (fun μ317 => some (1, μ317))) else none) else F_X12_qGoesOn fuel 7 i1 μ311)) else F_X12_qGoesOn fuel 7 i1 μ307)) : Option (Int32 × sh_Mem)) = some (v, μ') := h
      have hF : rI μ μ := rI.rf
      obtain ⟨y309, μ307, hr308, h⟩ := sh_bind_e h
      have hG307 := gp_X12_qIsOn hG hr308
      have hF307 := hF.trans (ri_X12_qIsOn hG hr308)
      by_cases c310 : y309 = 0
      · rw [if_pos c310] at h
        obtain ⟨y313, μ311, hr312, h⟩ := sh_bind_e h
        have hG311 := gp_X12_qIsOn hG307 hr312
        have hF311 := hF307.trans (ri_X12_qIsOn hG307 hr312)
        by_cases c314 : y313 = 0
        · rw [if_pos c314] at h
          obtain ⟨k315, h⟩ := sh_chk h
          obtain ⟨μ316, eμ316⟩ : ∃ y : sh_Mem, y = (sh_setI μ311 365 ((sh_i μ311 291 105)).toNatClampNeg i1) := ⟨_, rfl⟩
          rw [sh_let_eq eμ316] at h
          have hG316 : sh_G μ316 := by rw [eμ316]; exact hG311
          have hF316 : rI μ μ316 := by rw [eμ316]; exact rI_I hF311 (by first | exact Or.inl (by decide) | exact Or.inr (by decide))
          obtain ⟨μ317, eμ317⟩ : ∃ y : sh_Mem, y = (sh_setI μ316 291 105 ((sh_i μ316 291 105) + 1)) := ⟨_, rfl⟩
          rw [sh_let_eq eμ317] at h
          have hG317 : sh_G μ317 := by rw [eμ317]; exact hG316
          have hF317 : rI μ μ317 := by rw [eμ317]; exact rI_I hF316 (by first | exact Or.inl (by decide) | exact Or.inr (by decide))
          obtain ⟨e1, e2⟩ := sh_some2 h
          exact e2 ▸ hF317
        · rw [if_neg c314] at h
          exact hF311.trans (ih_178 hG311 h)
      · rw [if_neg c310] at h
        exact hF307.trans (ih_178 hG307 h)
    · intro i1 μ μ' v hG h
      replace h : (sh_bindv (f_X12_qDrops μ) (fun μ318 => F_X12_qGoesOn fuel 6 i1 μ318) : Option (Int32 × sh_Mem)) = some (v, μ') := h
      have hF : rI μ μ := rI.rf
      obtain ⟨μ318, hr319, h⟩ := sh_bindv_e h
      have hG318 := gp_X12_qDrops hG hr319
      have hF318 := hF.trans (ri_X12_qDrops hG hr319)
      exact hF318.trans (ih_162 hG318 h)
    · intro i1 μ μ' v hG h
      replace h : ((if sh_in ((sh_i μ 291 2) - 1) 1600 then (if (sh_i μ 292 (((sh_i μ 291 2) - 1)).toNatClampNeg) = 43 then F_X12_qGoesOn fuel 9 1 μ else F_X12_qGoesOn fuel 9 2 μ) else none) : Option (Int32 × sh_Mem)) = some (v, μ') := h
      have hF : rI μ μ := rI.rf
      obtain ⟨k321, h⟩ := sh_chk h
      by_cases c322 : (sh_i μ 292 (((sh_i μ 291 2) - 1)).toNatClampNeg) = 43
      · rw [if_pos c322] at h
        exact hF.trans (ih_247 hG h)
      · rw [if_neg c322] at h
        exact hF.trans (ih_247 hG h)
    · intro i1 μ μ' v hG h
      replace h : (sh_bind (f_X12_qIsOn 3 μ) (fun y325 μ323 => (if y325 = 0 then sh_bind (f_X12_qIsOn 4 μ323) (fun y329 μ327 => (if y329 = 0 then sh_bind (f_X12_qIsOn 1 μ327) (fun y333 μ331 => (if y333 = 0 then sh_bind (f_X12_qIsOn 2 μ331) (fun y337 μ335 => (if y337 = 0 then (if sh_in (sh_i μ335 291 105) 1700 then sh_let (sh_setI μ335 365 ((sh_i μ335 291 105)).toNatClampNeg i1) (fun μ340 => sh_let (sh_setI μ340 291 105 ((sh_i μ340 291 105) + 1)) (fun μ341 => some (1, μ341))) else none) else F_X12_qGoesOn fuel 10 i1 μ335)) else F_X12_qGoesOn fuel 10 i1 μ331)) else F_X12_qGoesOn fuel 10 i1 μ327)) else F_X12_qGoesOn fuel 10 i1 μ323)) : Option (Int32 × sh_Mem)) = some (v, μ') := h
      have hF : rI μ μ := rI.rf
      obtain ⟨y325, μ323, hr324, h⟩ := sh_bind_e h
      have hG323 := gp_X12_qIsOn hG hr324
      have hF323 := hF.trans (ri_X12_qIsOn hG hr324)
      by_cases c326 : y325 = 0
      · rw [if_pos c326] at h
        obtain ⟨y329, μ327, hr328, h⟩ := sh_bind_e h
        have hG327 := gp_X12_qIsOn hG323 hr328
        have hF327 := hF323.trans (ri_X12_qIsOn hG323 hr328)
        by_cases c330 : y329 = 0
        · rw [if_pos c330] at h
          obtain ⟨y333, μ331, hr332, h⟩ := sh_bind_e h
          have hG331 := gp_X12_qIsOn hG327 hr332
          have hF331 := hF327.trans (ri_X12_qIsOn hG327 hr332)
          by_cases c334 : y333 = 0
          · rw [if_pos c334] at h
            obtain ⟨y337, μ335, hr336, h⟩ := sh_bind_e h
            have hG335 := gp_X12_qIsOn hG331 hr336
            have hF335 := hF331.trans (ri_X12_qIsOn hG331 hr336)
            by_cases c338 : y337 = 0
            · rw [if_pos c338] at h
              obtain ⟨k339, h⟩ := sh_chk h
              obtain ⟨μ340, eμ340⟩ : ∃ y : sh_Mem, y = (sh_setI μ335 365 ((sh_i μ335 291 105)).toNatClampNeg i1) := ⟨_, rfl⟩
              rw [sh_let_eq eμ340] at h
              have hG340 : sh_G μ340 := by rw [eμ340]; exact hG335
              have hF340 : rI μ μ340 := by rw [eμ340]; exact rI_I hF335 (by first | exact Or.inl (by decide) | exact Or.inr (by decide))
              obtain ⟨μ341, eμ341⟩ : ∃ y : sh_Mem, y = (sh_setI μ340 291 105 ((sh_i μ340 291 105) + 1)) := ⟨_, rfl⟩
              rw [sh_let_eq eμ341] at h
              have hG341 : sh_G μ341 := by rw [eμ341]; exact hG340
              have hF341 : rI μ μ341 := by rw [eμ341]; exact rI_I hF340 (by first | exact Or.inl (by decide) | exact Or.inr (by decide))
              obtain ⟨e1, e2⟩ := sh_some2 h
              exact e2 ▸ hF341
            · rw [if_neg c338] at h
              exact hF335.trans (ih_279 hG335 h)
          · rw [if_neg c334] at h
            exact hF331.trans (ih_279 hG331 h)
        · rw [if_neg c330] at h
          exact hF327.trans (ih_279 hG327 h)
      · rw [if_neg c326] at h
        exact hF323.trans (ih_279 hG323 h)
    · intro i1 μ μ' v hG h
      replace h : (sh_bindv (f_X12_qDrops μ) (fun μ342 => F_X12_qGoesOn fuel 9 i1 μ342) : Option (Int32 × sh_Mem)) = some (v, μ') := h
      have hF : rI μ μ := rI.rf
      obtain ⟨μ342, hr343, h⟩ := sh_bindv_e h
      have hG342 := gp_X12_qDrops hG hr343
      have hF342 := hF.trans (ri_X12_qDrops hG hr343)
      exact hF342.trans (ih_247 hG342 h)
    · intro i1 μ μ' v hG h
      replace h : (sh_bindv (f_X12_asksSign 44 μ) (fun μ345 => (if (sh_i μ345 291 5) = 0 then sh_bindv (f_X12_qDropsToBracket μ345) (fun μ349 => (if sh_in ((sh_i μ349 291 105) - 1) 1700 then (if sh_in ((sh_i μ349 291 105) - 1) 1700 then sh_let (sh_setI μ349 365 (((sh_i μ349 291 105) - 1)).toNatClampNeg ((sh_i μ349 365 (((sh_i μ349 291 105) - 1)).toNatClampNeg) + 2)) (fun μ354 => some (1, μ354)) else none) else none)) else some (0, μ345))) : Option (Int32 × sh_Mem)) = some (v, μ') := h
      have hF : rI μ μ := rI.rf
      obtain ⟨μ345, hr346, h⟩ := sh_bindv_e h
      have hG345 := gp_X12_asksSign hG hr346
      have hF345 := hF.trans (ri_X12_asksSign hG hr346)
      by_cases c348 : (sh_i μ345 291 5) = 0
      · rw [if_pos c348] at h
        obtain ⟨μ349, hr350, h⟩ := sh_bindv_e h
        have hG349 := gp_X12_qDropsToBracket hG345 hr350
        have hF349 := hF345.trans (ri_X12_qDropsToBracket hG345 hr350)
        obtain ⟨k352, h⟩ := sh_chk h
        obtain ⟨k353, h⟩ := sh_chk h
        obtain ⟨μ354, eμ354⟩ : ∃ y : sh_Mem, y = (sh_setI μ349 365 (((sh_i μ349 291 105) - 1)).toNatClampNeg ((sh_i μ349 365 (((sh_i μ349 291 105) - 1)).toNatClampNeg) + 2)) := ⟨_, rfl⟩
        rw [sh_let_eq eμ354] at h
        have hG354 : sh_G μ354 := by rw [eμ354]; exact hG349
        have hF354 : rI μ μ354 := by rw [eμ354]; exact rI_I hF349 (by first | exact Or.inl (by decide) | exact Or.inr (by decide))
        obtain ⟨e1, e2⟩ := sh_some2 h
        exact e2 ▸ hF354
      · rw [if_neg c348] at h
        obtain ⟨e1, e2⟩ := sh_some2 h
        exact e2 ▸ hF345
    · intro i1 μ μ' v hG h
      replace h : (some (0, μ) : Option (Int32 × sh_Mem)) = some (v, μ') := h
      have hF : rI μ μ := rI.rf
      obtain ⟨e1, e2⟩ := sh_some2 h
      exact e2 ▸ hF
theorem ri_X12_qGoesOn {μ μ' : sh_Mem} {v : Int32} (hG : sh_G μ) (h : f_X12_qGoesOn μ = some (v, μ')) : rI μ μ' := by
  have ih_0 := (ril_X12_qGoesOn sh_fuel).1
  have ih_43 := (ril_X12_qGoesOn sh_fuel).2.1
  have ih_115 := (ril_X12_qGoesOn sh_fuel).2.2.1
  have ih_122 := (ril_X12_qGoesOn sh_fuel).2.2.2.1
  have ih_140 := (ril_X12_qGoesOn sh_fuel).2.2.2.2.1
  have ih_162 := (ril_X12_qGoesOn sh_fuel).2.2.2.2.2.1
  have ih_178 := (ril_X12_qGoesOn sh_fuel).2.2.2.2.2.2.1
  have ih_225 := (ril_X12_qGoesOn sh_fuel).2.2.2.2.2.2.2.1
  have ih_247 := (ril_X12_qGoesOn sh_fuel).2.2.2.2.2.2.2.2.1
  have ih_279 := (ril_X12_qGoesOn sh_fuel).2.2.2.2.2.2.2.2.2.1
  have ih_326 := (ril_X12_qGoesOn sh_fuel).2.2.2.2.2.2.2.2.2.2.1
  have ih_386 := (ril_X12_qGoesOn sh_fuel).2.2.2.2.2.2.2.2.2.2.2
  have hF : rI μ μ := rI.rf
  unfold f_X12_qGoesOn at h
  exact hF.trans (ih_0 hG h)
theorem ril_X12_qSums (fuel : Nat) : (∀ ⦃i1 : Int32⦄ ⦃i2 : Int32⦄ ⦃μ μ' : sh_Mem⦄, sh_G μ → F_X12_qSums fuel 1 i1 i2 μ = some μ' → rI μ μ') ∧ (∀ ⦃i1 : Int32⦄ ⦃i2 : Int32⦄ ⦃μ μ' : sh_Mem⦄, sh_G μ → F_X12_qSums fuel 2 i1 i2 μ = some μ' → rI μ μ') := by
  induction fuel with
  | zero => exact ⟨(by intro i1 i2 μ μ' hG h; cases h), (by intro i1 i2 μ μ' hG h; cases h)⟩
  | succ fuel ih =>
    obtain ⟨ih_15, ih_53⟩ := ih
    refine ⟨?_, ?_⟩
    · intro i1 i2 μ μ' hG h
      replace h : ((if i2 = 0 then F_X12_qSums fuel 2 i1 i2 μ else (if (sh_i μ 291 5) = 0 then sh_bindv (f_X12_qPartTold μ) (fun μ39 => (if (sh_i μ39 291 5) = 0 then sh_bind (f_X12_qGoesOn μ39) (fun y45 μ43 => (if y45 = 0 then F_X12_qSums fuel 1 i1 0 μ43 else F_X12_qSums fuel 1 i1 1 μ43)) else F_X12_qSums fuel 1 i1 0 μ39)) else F_X12_qSums fuel 2 i1 i2 μ)) : Option sh_Mem) = some μ' := h
      have hF : rI μ μ := rI.rf
      by_cases c37 : i2 = 0
      · rw [if_pos c37] at h
        exact hF.trans (ih_53 hG h)
      · rw [if_neg c37] at h
        by_cases c38 : (sh_i μ 291 5) = 0
        · rw [if_pos c38] at h
          obtain ⟨μ39, hr40, h⟩ := sh_bindv_e h
          have hG39 := gp_X12_qPartTold hG hr40
          have hF39 := hF.trans (ri_X12_qPartTold hG hr40)
          by_cases c42 : (sh_i μ39 291 5) = 0
          · rw [if_pos c42] at h
            obtain ⟨y45, μ43, hr44, h⟩ := sh_bind_e h
            have hG43 := gp_X12_qGoesOn hG39 hr44
            have hF43 := hF39.trans (ri_X12_qGoesOn hG39 hr44)
            by_cases c46 : y45 = 0
            · rw [if_pos c46] at h
              exact hF43.trans (ih_15 hG43 h)
            · rw [if_neg c46] at h
              exact hF43.trans (ih_15 hG43 h)
          · rw [if_neg c42] at h
            exact hF39.trans (ih_15 hG39 h)
        · rw [if_neg c38] at h
          exact hF.trans (ih_53 hG h)
    · intro i1 i2 μ μ' hG h
      replace h : ((if (sh_i μ 291 5) = 0 then (if (sh_i μ 291 105) ≤ (sh_i μ 291 107) then sh_let (sh_setI μ 291 107 i1) (fun μ50 => some μ50) else sh_bindv (f_X12_qDrops μ) (fun μ51 => F_X12_qSums fuel 2 i1 i2 μ51)) else sh_let (sh_setI μ 291 107 i1) (fun μ48 => some μ48)) : Option sh_Mem) = some μ' := h
      have hF : rI μ μ := rI.rf
      by_cases c47 : (sh_i μ 291 5) = 0
      · rw [if_pos c47] at h
        by_cases c49 : (sh_i μ 291 105) ≤ (sh_i μ 291 107)
        · rw [if_pos c49] at h
          obtain ⟨μ50, eμ50⟩ : ∃ y : sh_Mem, y = (sh_setI μ 291 107 i1) := ⟨_, rfl⟩
          rw [sh_let_eq eμ50] at h
          have hG50 : sh_G μ50 := by rw [eμ50]; exact hG
          have hF50 : rI μ μ50 := by rw [eμ50]; exact rI_I hF (by first | exact Or.inl (by decide) | exact Or.inr (by decide))
          have e2 := Option.some.inj h
          exact e2 ▸ hF50
        · rw [if_neg c49] at h
          obtain ⟨μ51, hr52, h⟩ := sh_bindv_e h
          have hG51 := gp_X12_qDrops hG hr52
          have hF51 := hF.trans (ri_X12_qDrops hG hr52)
          exact hF51.trans (ih_53 hG51 h)
      · rw [if_neg c47] at h
        obtain ⟨μ48, eμ48⟩ : ∃ y : sh_Mem, y = (sh_setI μ 291 107 i1) := ⟨_, rfl⟩
        rw [sh_let_eq eμ48] at h
        have hG48 : sh_G μ48 := by rw [eμ48]; exact hG
        have hF48 : rI μ μ48 := by rw [eμ48]; exact rI_I hF (by first | exact Or.inl (by decide) | exact Or.inr (by decide))
        have e2 := Option.some.inj h
        exact e2 ▸ hF48
theorem ri_X12_qSums {μ μ' : sh_Mem} (hG : sh_G μ) (h : f_X12_qSums μ = some μ') : rI μ μ' := by
  have ih_15 := (ril_X12_qSums sh_fuel).1
  have ih_53 := (ril_X12_qSums sh_fuel).2
  have hF : rI μ μ := rI.rf
  unfold f_X12_qSums at h
  obtain ⟨x54, ex54⟩ : ∃ y : Int32, y = (sh_i μ 291 107) := ⟨_, rfl⟩
  rw [sh_let_eq ex54] at h
  obtain ⟨μ55, eμ55⟩ : ∃ y : sh_Mem, y = (sh_setI μ 291 107 (sh_i μ 291 105)) := ⟨_, rfl⟩
  rw [sh_let_eq eμ55] at h
  have hG55 : sh_G μ55 := by rw [eμ55]; exact hG
  have hF55 : rI μ μ55 := by rw [eμ55]; exact rI_I hF (by first | exact Or.inl (by decide) | exact Or.inr (by decide))
  exact hF55.trans (ih_15 hG55 h)
theorem ri_X12_qFact {μ μ' : sh_Mem} (hG : sh_G μ) (h : f_X12_qFact μ = some μ') : rI μ μ' := by
  have hF : rI μ μ := rI.rf
  unfold f_X12_qFact at h
  obtain ⟨y3, μ1, hr2, h⟩ := sh_bind_e h
  have hG1 := gp_X12_takes hG (sh_LAYat_350) hr2
  have hF1 := hF.trans (ri_X12_takes hG (sh_LAYat_350) (by decide) hr2)
  by_cases c4 : y3 = 0
  · rw [if_pos c4] at h
    obtain ⟨μ5, hr6, h⟩ := sh_bindv_e h
    have hG5 := gp_X12_qSums hG1 hr6
    have hF5 := hF1.trans (ri_X12_qSums hG1 hr6)
    by_cases c8 : (sh_i μ5 291 5) = 0
    · rw [if_pos c8] at h
      obtain ⟨y11, μ9, hr10, h⟩ := sh_bind_e h
      have hG9 := gp_X12_look hG5 hr10
      have hF9 := hF5.trans (ri_X12_look hG5 hr10)
      by_cases c12 : y11 = 60
      · rw [if_pos c12] at h
        obtain ⟨μ13, eμ13⟩ : ∃ y : sh_Mem, y = (sh_setI μ9 291 2 ((sh_i μ9 291 2) + 1)) := ⟨_, rfl⟩
        rw [sh_let_eq eμ13] at h
        have hG13 : sh_G μ13 := by rw [eμ13]; exact hG9
        have hF13 : rI μ μ13 := by rw [eμ13]; exact rI_I hF9 (by first | exact Or.inl (by decide) | exact Or.inr (by decide))
        obtain ⟨μ14, hr15, h⟩ := sh_bindv_e h
        have hG14 := gp_X12_qSums hG13 hr15
        have hF14 := hF13.trans (ri_X12_qSums hG13 hr15)
        by_cases c17 : y11 = 60
        · rw [if_pos c17] at h
          obtain ⟨μ25, hr26, h⟩ := sh_bindv_e h
          have hG25 := gp_X12_qCode hG14 hr26
          have hF25 := hF14.trans (ri_X12_qCode hG14 hr26)
          have e2 := Option.some.inj h
          exact e2 ▸ hF25
        · rw [if_neg c17] at h
          by_cases c18 : y11 = 62
          · rw [if_pos c18] at h
            obtain ⟨μ22, hr23, h⟩ := sh_bindv_e h
            have hG22 := gp_X12_qCode hG14 hr23
            have hF22 := hF14.trans (ri_X12_qCode hG14 hr23)
            have e2 := Option.some.inj h
            exact e2 ▸ hF22
          · rw [if_neg c18] at h
            obtain ⟨μ19, hr20, h⟩ := sh_bindv_e h
            have hG19 := gp_X12_qCode hG14 hr20
            have hF19 := hF14.trans (ri_X12_qCode hG14 hr20)
            have e2 := Option.some.inj h
            exact e2 ▸ hF19
      · rw [if_neg c12] at h
        by_cases c28 : y11 = 62
        · rw [if_pos c28] at h
          obtain ⟨μ29, eμ29⟩ : ∃ y : sh_Mem, y = (sh_setI μ9 291 2 ((sh_i μ9 291 2) + 1)) := ⟨_, rfl⟩
          rw [sh_let_eq eμ29] at h
          have hG29 : sh_G μ29 := by rw [eμ29]; exact hG9
          have hF29 : rI μ μ29 := by rw [eμ29]; exact rI_I hF9 (by first | exact Or.inl (by decide) | exact Or.inr (by decide))
          obtain ⟨μ30, hr31, h⟩ := sh_bindv_e h
          have hG30 := gp_X12_qSums hG29 hr31
          have hF30 := hF29.trans (ri_X12_qSums hG29 hr31)
          by_cases c33 : y11 = 60
          · rw [if_pos c33] at h
            obtain ⟨μ41, hr42, h⟩ := sh_bindv_e h
            have hG41 := gp_X12_qCode hG30 hr42
            have hF41 := hF30.trans (ri_X12_qCode hG30 hr42)
            have e2 := Option.some.inj h
            exact e2 ▸ hF41
          · rw [if_neg c33] at h
            by_cases c34 : y11 = 62
            · rw [if_pos c34] at h
              obtain ⟨μ38, hr39, h⟩ := sh_bindv_e h
              have hG38 := gp_X12_qCode hG30 hr39
              have hF38 := hF30.trans (ri_X12_qCode hG30 hr39)
              have e2 := Option.some.inj h
              exact e2 ▸ hF38
            · rw [if_neg c34] at h
              obtain ⟨μ35, hr36, h⟩ := sh_bindv_e h
              have hG35 := gp_X12_qCode hG30 hr36
              have hF35 := hF30.trans (ri_X12_qCode hG30 hr36)
              have e2 := Option.some.inj h
              exact e2 ▸ hF35
        · rw [if_neg c28] at h
          by_cases c44 : y11 = 61
          · rw [if_pos c44] at h
            obtain ⟨μ45, eμ45⟩ : ∃ y : sh_Mem, y = (sh_setI μ9 291 2 ((sh_i μ9 291 2) + 1)) := ⟨_, rfl⟩
            rw [sh_let_eq eμ45] at h
            have hG45 : sh_G μ45 := by rw [eμ45]; exact hG9
            have hF45 : rI μ μ45 := by rw [eμ45]; exact rI_I hF9 (by first | exact Or.inl (by decide) | exact Or.inr (by decide))
            obtain ⟨μ46, hr47, h⟩ := sh_bindv_e h
            have hG46 := gp_X12_qSums hG45 hr47
            have hF46 := hF45.trans (ri_X12_qSums hG45 hr47)
            by_cases c49 : y11 = 60
            · rw [if_pos c49] at h
              obtain ⟨μ57, hr58, h⟩ := sh_bindv_e h
              have hG57 := gp_X12_qCode hG46 hr58
              have hF57 := hF46.trans (ri_X12_qCode hG46 hr58)
              have e2 := Option.some.inj h
              exact e2 ▸ hF57
            · rw [if_neg c49] at h
              by_cases c50 : y11 = 62
              · rw [if_pos c50] at h
                obtain ⟨μ54, hr55, h⟩ := sh_bindv_e h
                have hG54 := gp_X12_qCode hG46 hr55
                have hF54 := hF46.trans (ri_X12_qCode hG46 hr55)
                have e2 := Option.some.inj h
                exact e2 ▸ hF54
              · rw [if_neg c50] at h
                obtain ⟨μ51, hr52, h⟩ := sh_bindv_e h
                have hG51 := gp_X12_qCode hG46 hr52
                have hF51 := hF46.trans (ri_X12_qCode hG46 hr52)
                have e2 := Option.some.inj h
                exact e2 ▸ hF51
          · rw [if_neg c44] at h
            obtain ⟨μ60, hr61, h⟩ := sh_bindv_e h
            have hG60 := gp_X12_fail hG9 hr61
            have hF60 := hF9.trans (ri_X12_fail hr61 (by decide))
            have e2 := Option.some.inj h
            exact e2 ▸ hF60
    · rw [if_neg c8] at h
      have e2 := Option.some.inj h
      exact e2 ▸ hF5
  · rw [if_neg c4] at h
    obtain ⟨μ63, hr64, h⟩ := sh_bindv_e h
    have hG63 := gp_X12_qCode hG1 hr64
    have hF63 := hF1.trans (ri_X12_qCode hG1 hr64)
    have e2 := Option.some.inj h
    exact e2 ▸ hF63
theorem ril_X12_qHasSquare (fuel : Nat) : (∀ ⦃i1 : Int32⦄ ⦃μ μ' : sh_Mem⦄ ⦃v : Int32⦄, sh_G μ → F_X12_qHasSquare fuel 1 i1 μ = some (v, μ') → rI μ μ') := by
  induction fuel with
  | zero => intro i1 μ μ' v hG h; cases h
  | succ fuel ih =>
    have ih_2 := ih
    intro i1 μ μ' v hG h
    replace h : ((if (sh_i μ 291 105) ≤ i1 then some (0, μ) else (if sh_in i1 1700 then (if (sh_i μ 365 i1.toNatClampNeg) = 25 then some (1, μ) else F_X12_qHasSquare fuel 1 (i1 + 1) μ) else none)) : Option (Int32 × sh_Mem)) = some (v, μ') := h
    have hF : rI μ μ := rI.rf
    by_cases c4 : (sh_i μ 291 105) ≤ i1
    · rw [if_pos c4] at h
      obtain ⟨e1, e2⟩ := sh_some2 h
      exact e2 ▸ hF
    · rw [if_neg c4] at h
      obtain ⟨k5, h⟩ := sh_chk h
      by_cases c6 : (sh_i μ 365 i1.toNatClampNeg) = 25
      · rw [if_pos c6] at h
        obtain ⟨e1, e2⟩ := sh_some2 h
        exact e2 ▸ hF
      · rw [if_neg c6] at h
        exact hF.trans (ih_2 hG h)
theorem ri_X12_qHasSquare {μ μ' : sh_Mem} {v : Int32} (hG : sh_G μ) (h : f_X12_qHasSquare μ = some (v, μ')) : rI μ μ' := by
  have ih_2 := (ril_X12_qHasSquare sh_fuel)
  have hF : rI μ μ := rI.rf
  unfold f_X12_qHasSquare at h
  exact hF.trans (ih_2 hG h)
theorem ril_X12_qDropsNots (fuel : Nat) : (∀ ⦃μ μ' : sh_Mem⦄, sh_G μ → F_X12_qDropsNots fuel 1 μ = some μ' → rI μ μ') := by
  induction fuel with
  | zero => intro μ μ' hG h; cases h
  | succ fuel ih =>
    have ih_0 := ih
    intro μ μ' hG h
    replace h : ((if (sh_i μ 291 5) = 0 then sh_bind (f_X12_qIsOn 12 μ) (fun y13 μ11 => (if y13 = 0 then some μ11 else sh_let (sh_setI μ11 291 106 ((sh_i μ11 291 106) - 1)) (fun μ15 => sh_bindv (f_X12_qDrops μ15) (fun μ16 => F_X12_qDropsNots fuel 1  μ16)))) else some μ) : Option sh_Mem) = some μ' := h
    have hF : rI μ μ := rI.rf
    by_cases c10 : (sh_i μ 291 5) = 0
    · rw [if_pos c10] at h
      obtain ⟨y13, μ11, hr12, h⟩ := sh_bind_e h
      have hG11 := gp_X12_qIsOn hG hr12
      have hF11 := hF.trans (ri_X12_qIsOn hG hr12)
      by_cases c14 : y13 = 0
      · rw [if_pos c14] at h
        have e2 := Option.some.inj h
        exact e2 ▸ hF11
      · rw [if_neg c14] at h
        obtain ⟨μ15, eμ15⟩ : ∃ y : sh_Mem, y = (sh_setI μ11 291 106 ((sh_i μ11 291 106) - 1)) := ⟨_, rfl⟩
        rw [sh_let_eq eμ15] at h
        have hG15 : sh_G μ15 := by rw [eμ15]; exact hG11
        have hF15 : rI μ μ15 := by rw [eμ15]; exact rI_I hF11 (by first | exact Or.inl (by decide) | exact Or.inr (by decide))
        obtain ⟨μ16, hr17, h⟩ := sh_bindv_e h
        have hG16 := gp_X12_qDrops hG15 hr17
        have hF16 := hF15.trans (ri_X12_qDrops hG15 hr17)
        exact hF16.trans (ih_0 hG16 h)
    · rw [if_neg c10] at h
      have e2 := Option.some.inj h
      exact e2 ▸ hF
theorem ri_X12_qDropsNots {μ μ' : sh_Mem} (hG : sh_G μ) (h : f_X12_qDropsNots μ = some μ') : rI μ μ' := by
  have ih_0 := (ril_X12_qDropsNots sh_fuel)
  have hF : rI μ μ := rI.rf
  unfold f_X12_qDropsNots at h
  exact hF.trans (ih_0 hG h)
theorem ril_X12_qGoesOnTest (fuel : Nat) : (∀ ⦃μ μ' : sh_Mem⦄ ⦃v : Int32⦄, sh_G μ → F_X12_qGoesOnTest fuel 1 μ = some (v, μ') → rI μ μ') ∧ (∀ ⦃μ μ' : sh_Mem⦄ ⦃v : Int32⦄, sh_G μ → F_X12_qGoesOnTest fuel 2 μ = some (v, μ') → rI μ μ') ∧ (∀ ⦃μ μ' : sh_Mem⦄ ⦃v : Int32⦄, sh_G μ → F_X12_qGoesOnTest fuel 3 μ = some (v, μ') → rI μ μ') ∧ (∀ ⦃μ μ' : sh_Mem⦄ ⦃v : Int32⦄, sh_G μ → F_X12_qGoesOnTest fuel 4 μ = some (v, μ') → rI μ μ') := by
  induction fuel with
  | zero => exact ⟨(by intro μ μ' v hG h; cases h), (by intro μ μ' v hG h; cases h), (by intro μ μ' v hG h; cases h), (by intro μ μ' v hG h; cases h)⟩
  | succ fuel ih =>
    obtain ⟨ih_0, ih_33, ih_87, ih_137⟩ := ih
    refine ⟨?_, ?_, ?_, ?_⟩
    · intro μ μ' v hG h
      replace h : ((if (sh_i μ 291 5) = 0 then sh_bind (f_X12_look μ) (fun y214 μ212 => (if y214 = 93 then sh_bind (f_X12_qHasSquare μ212) (fun y234 μ232 => (if y234 = 0 then sh_bind (f_X12_takes 348 3 μ232) (fun y238 μ236 => (if y238 = 0 then sh_bind (f_X12_takes 349 2 μ236) (fun y242 μ240 => (if y242 = 0 then (if (sh_i μ240 291 5) = 0 then sh_bind (f_X12_qHasSquare μ240) (fun y247 μ245 => (if y247 = 0 then some (0, μ245) else sh_bindv (f_X12_fail 1 (sh_i μ245 291 2) μ245) (fun μ249 => some (0, μ249)))) else some (0, μ240)) else F_X12_qGoesOnTest fuel 4  μ240)) else F_X12_qGoesOnTest fuel 3  μ236)) else sh_let (sh_setI μ232 291 2 ((sh_i μ232 291 2) + 1)) (fun μ252 => F_X12_qGoesOnTest fuel 2  μ252))) else sh_bind (f_X12_takes 348 3 μ212) (fun y218 μ216 => (if y218 = 0 then sh_bind (f_X12_takes 349 2 μ216) (fun y222 μ220 => (if y222 = 0 then (if (sh_i μ220 291 5) = 0 then sh_bind (f_X12_qHasSquare μ220) (fun y227 μ225 => (if y227 = 0 then some (0, μ225) else sh_bindv (f_X12_fail 1 (sh_i μ225 291 2) μ225) (fun μ229 => some (0, μ229)))) else some (0, μ220)) else F_X12_qGoesOnTest fuel 4  μ220)) else F_X12_qGoesOnTest fuel 3  μ216)))) else sh_bind (f_X12_takes 348 3 μ) (fun y198 μ196 => (if y198 = 0 then sh_bind (f_X12_takes 349 2 μ196) (fun y202 μ200 => (if y202 = 0 then (if (sh_i μ200 291 5) = 0 then sh_bind (f_X12_qHasSquare μ200) (fun y207 μ205 => (if y207 = 0 then some (0, μ205) else sh_bindv (f_X12_fail 1 (sh_i μ205 291 2) μ205) (fun μ209 => some (0, μ209)))) else some (0, μ200)) else F_X12_qGoesOnTest fuel 4  μ200)) else F_X12_qGoesOnTest fuel 3  μ196))) : Option (Int32 × sh_Mem)) = some (v, μ') := h
      have hF : rI μ μ := rI.rf
      by_cases c195 : (sh_i μ 291 5) = 0
      · rw [if_pos c195] at h
        obtain ⟨y214, μ212, hr213, h⟩ := sh_bind_e h
        have hG212 := gp_X12_look hG hr213
        have hF212 := hF.trans (ri_X12_look hG hr213)
        by_cases c215 : y214 = 93
        · rw [if_pos c215] at h
          obtain ⟨y234, μ232, hr233, h⟩ := sh_bind_e h
          have hG232 := gp_X12_qHasSquare hG212 hr233
          have hF232 := hF212.trans (ri_X12_qHasSquare hG212 hr233)
          by_cases c235 : y234 = 0
          · rw [if_pos c235] at h
            obtain ⟨y238, μ236, hr237, h⟩ := sh_bind_e h
            have hG236 := gp_X12_takes hG232 (sh_LAYat_348) hr237
            have hF236 := hF232.trans (ri_X12_takes hG232 (sh_LAYat_348) (by decide) hr237)
            by_cases c239 : y238 = 0
            · rw [if_pos c239] at h
              obtain ⟨y242, μ240, hr241, h⟩ := sh_bind_e h
              have hG240 := gp_X12_takes hG236 (sh_LAYat_349) hr241
              have hF240 := hF236.trans (ri_X12_takes hG236 (sh_LAYat_349) (by decide) hr241)
              by_cases c243 : y242 = 0
              · rw [if_pos c243] at h
                by_cases c244 : (sh_i μ240 291 5) = 0
                · rw [if_pos c244] at h
                  obtain ⟨y247, μ245, hr246, h⟩ := sh_bind_e h
                  have hG245 := gp_X12_qHasSquare hG240 hr246
                  have hF245 := hF240.trans (ri_X12_qHasSquare hG240 hr246)
                  by_cases c248 : y247 = 0
                  · rw [if_pos c248] at h
                    obtain ⟨e1, e2⟩ := sh_some2 h
                    exact e2 ▸ hF245
                  · rw [if_neg c248] at h
                    obtain ⟨μ249, hr250, h⟩ := sh_bindv_e h
                    have hG249 := gp_X12_fail hG245 hr250
                    have hF249 := hF245.trans (ri_X12_fail hr250 (by decide))
                    obtain ⟨e1, e2⟩ := sh_some2 h
                    exact e2 ▸ hF249
                · rw [if_neg c244] at h
                  obtain ⟨e1, e2⟩ := sh_some2 h
                  exact e2 ▸ hF240
              · rw [if_neg c243] at h
                exact hF240.trans (ih_137 hG240 h)
            · rw [if_neg c239] at h
              exact hF236.trans (ih_87 hG236 h)
          · rw [if_neg c235] at h
            obtain ⟨μ252, eμ252⟩ : ∃ y : sh_Mem, y = (sh_setI μ232 291 2 ((sh_i μ232 291 2) + 1)) := ⟨_, rfl⟩
            rw [sh_let_eq eμ252] at h
            have hG252 : sh_G μ252 := by rw [eμ252]; exact hG232
            have hF252 : rI μ μ252 := by rw [eμ252]; exact rI_I hF232 (by first | exact Or.inl (by decide) | exact Or.inr (by decide))
            exact hF252.trans (ih_33 hG252 h)
        · rw [if_neg c215] at h
          obtain ⟨y218, μ216, hr217, h⟩ := sh_bind_e h
          have hG216 := gp_X12_takes hG212 (sh_LAYat_348) hr217
          have hF216 := hF212.trans (ri_X12_takes hG212 (sh_LAYat_348) (by decide) hr217)
          by_cases c219 : y218 = 0
          · rw [if_pos c219] at h
            obtain ⟨y222, μ220, hr221, h⟩ := sh_bind_e h
            have hG220 := gp_X12_takes hG216 (sh_LAYat_349) hr221
            have hF220 := hF216.trans (ri_X12_takes hG216 (sh_LAYat_349) (by decide) hr221)
            by_cases c223 : y222 = 0
            · rw [if_pos c223] at h
              by_cases c224 : (sh_i μ220 291 5) = 0
              · rw [if_pos c224] at h
                obtain ⟨y227, μ225, hr226, h⟩ := sh_bind_e h
                have hG225 := gp_X12_qHasSquare hG220 hr226
                have hF225 := hF220.trans (ri_X12_qHasSquare hG220 hr226)
                by_cases c228 : y227 = 0
                · rw [if_pos c228] at h
                  obtain ⟨e1, e2⟩ := sh_some2 h
                  exact e2 ▸ hF225
                · rw [if_neg c228] at h
                  obtain ⟨μ229, hr230, h⟩ := sh_bindv_e h
                  have hG229 := gp_X12_fail hG225 hr230
                  have hF229 := hF225.trans (ri_X12_fail hr230 (by decide))
                  obtain ⟨e1, e2⟩ := sh_some2 h
                  exact e2 ▸ hF229
              · rw [if_neg c224] at h
                obtain ⟨e1, e2⟩ := sh_some2 h
                exact e2 ▸ hF220
            · rw [if_neg c223] at h
              exact hF220.trans (ih_137 hG220 h)
          · rw [if_neg c219] at h
            exact hF216.trans (ih_87 hG216 h)
      · rw [if_neg c195] at h
        obtain ⟨y198, μ196, hr197, h⟩ := sh_bind_e h
        have hG196 := gp_X12_takes hG (sh_LAYat_348) hr197
        have hF196 := hF.trans (ri_X12_takes hG (sh_LAYat_348) (by decide) hr197)
        by_cases c199 : y198 = 0
        · rw [if_pos c199] at h
          obtain ⟨y202, μ200, hr201, h⟩ := sh_bind_e h
          have hG200 := gp_X12_takes hG196 (sh_LAYat_349) hr201
          have hF200 := hF196.trans (ri_X12_takes hG196 (sh_LAYat_349) (by decide) hr201)
          by_cases c203 : y202 = 0
          · rw [if_pos c203] at h
            by_cases c204 : (sh_i μ200 291 5) = 0
            · rw [if_pos c204] at h
              obtain ⟨y207, μ205, hr206, h⟩ := sh_bind_e h
              have hG205 := gp_X12_qHasSquare hG200 hr206
              have hF205 := hF200.trans (ri_X12_qHasSquare hG200 hr206)
              by_cases c208 : y207 = 0
              · rw [if_pos c208] at h
                obtain ⟨e1, e2⟩ := sh_some2 h
                exact e2 ▸ hF205
              · rw [if_neg c208] at h
                obtain ⟨μ209, hr210, h⟩ := sh_bindv_e h
                have hG209 := gp_X12_fail hG205 hr210
                have hF209 := hF205.trans (ri_X12_fail hr210 (by decide))
                obtain ⟨e1, e2⟩ := sh_some2 h
                exact e2 ▸ hF209
            · rw [if_neg c204] at h
              obtain ⟨e1, e2⟩ := sh_some2 h
              exact e2 ▸ hF200
          · rw [if_neg c203] at h
            exact hF200.trans (ih_137 hG200 h)
        · rw [if_neg c199] at h
          exact hF196.trans (ih_87 hG196 h)
    · intro μ μ' v hG h
      replace h : (sh_bind (f_X12_qIsOn 25 μ) (fun y255 μ253 => (if y255 = 0 then sh_bindv (f_X12_qDrops μ253) (fun μ262 => F_X12_qGoesOnTest fuel 2  μ262) else sh_let (sh_setI μ253 291 105 ((sh_i μ253 291 105) - 1)) (fun μ257 => sh_let (sh_setI μ257 291 106 ((sh_i μ257 291 106) - 1)) (fun μ258 => sh_bindv (f_X12_qDropsNots μ258) (fun μ259 => F_X12_qGoesOnTest fuel 1  μ259))))) : Option (Int32 × sh_Mem)) = some (v, μ') := h
      have hF : rI μ μ := rI.rf
      obtain ⟨y255, μ253, hr254, h⟩ := sh_bind_e h
      have hG253 := gp_X12_qIsOn hG hr254
      have hF253 := hF.trans (ri_X12_qIsOn hG hr254)
      by_cases c256 : y255 = 0
      · rw [if_pos c256] at h
        obtain ⟨μ262, hr263, h⟩ := sh_bindv_e h
        have hG262 := gp_X12_qDrops hG253 hr263
        have hF262 := hF253.trans (ri_X12_qDrops hG253 hr263)
        exact hF262.trans (ih_33 hG262 h)
      · rw [if_neg c256] at h
        obtain ⟨μ257, eμ257⟩ : ∃ y : sh_Mem, y = (sh_setI μ253 291 105 ((sh_i μ253 291 105) - 1)) := ⟨_, rfl⟩
        rw [sh_let_eq eμ257] at h
        have hG257 : sh_G μ257 := by rw [eμ257]; exact hG253
        have hF257 : rI μ μ257 := by rw [eμ257]; exact rI_I hF253 (by first | exact Or.inl (by decide) | exact Or.inr (by decide))
        obtain ⟨μ258, eμ258⟩ : ∃ y : sh_Mem, y = (sh_setI μ257 291 106 ((sh_i μ257 291 106) - 1)) := ⟨_, rfl⟩
        rw [sh_let_eq eμ258] at h
        have hG258 : sh_G μ258 := by rw [eμ258]; exact hG257
        have hF258 : rI μ μ258 := by rw [eμ258]; exact rI_I hF257 (by first | exact Or.inl (by decide) | exact Or.inr (by decide))
        obtain ⟨μ259, hr260, h⟩ := sh_bindv_e h
        have hG259 := gp_X12_qDropsNots hG258 hr260
        have hF259 := hF258.trans (ri_X12_qDropsNots hG258 hr260)
        exact hF259.trans (ih_0 hG259 h)
    · intro μ μ' v hG h
      replace h : (sh_bind (f_X12_qIsOn 10 μ) (fun y267 μ265 => (if y267 = 0 then (if sh_in (sh_i μ265 291 105) 1700 then sh_let (sh_setI μ265 365 ((sh_i μ265 291 105)).toNatClampNeg 10) (fun μ270 => sh_let (sh_setI μ270 291 105 ((sh_i μ270 291 105) + 1)) (fun μ271 => some (1, μ271))) else none) else sh_bindv (f_X12_qDrops μ265) (fun μ272 => F_X12_qGoesOnTest fuel 3  μ272))) : Option (Int32 × sh_Mem)) = some (v, μ') := h
      have hF : rI μ μ := rI.rf
      obtain ⟨y267, μ265, hr266, h⟩ := sh_bind_e h
      have hG265 := gp_X12_qIsOn hG hr266
      have hF265 := hF.trans (ri_X12_qIsOn hG hr266)
      by_cases c268 : y267 = 0
      · rw [if_pos c268] at h
        obtain ⟨k269, h⟩ := sh_chk h
        obtain ⟨μ270, eμ270⟩ : ∃ y : sh_Mem, y = (sh_setI μ265 365 ((sh_i μ265 291 105)).toNatClampNeg 10) := ⟨_, rfl⟩
        rw [sh_let_eq eμ270] at h
        have hG270 : sh_G μ270 := by rw [eμ270]; exact hG265
        have hF270 : rI μ μ270 := by rw [eμ270]; exact rI_I hF265 (by first | exact Or.inl (by decide) | exact Or.inr (by decide))
        obtain ⟨μ271, eμ271⟩ : ∃ y : sh_Mem, y = (sh_setI μ270 291 105 ((sh_i μ270 291 105) + 1)) := ⟨_, rfl⟩
        rw [sh_let_eq eμ271] at h
        have hG271 : sh_G μ271 := by rw [eμ271]; exact hG270
        have hF271 : rI μ μ271 := by rw [eμ271]; exact rI_I hF270 (by first | exact Or.inl (by decide) | exact Or.inr (by decide))
        obtain ⟨e1, e2⟩ := sh_some2 h
        exact e2 ▸ hF271
      · rw [if_neg c268] at h
        obtain ⟨μ272, hr273, h⟩ := sh_bindv_e h
        have hG272 := gp_X12_qDrops hG265 hr273
        have hF272 := hF265.trans (ri_X12_qDrops hG265 hr273)
        exact hF272.trans (ih_87 hG272 h)
    · intro μ μ' v hG h
      replace h : (sh_bind (f_X12_qIsOn 10 μ) (fun y277 μ275 => (if y277 = 0 then sh_bind (f_X12_qIsOn 11 μ275) (fun y284 μ282 => (if y284 = 0 then (if sh_in (sh_i μ282 291 105) 1700 then sh_let (sh_setI μ282 365 ((sh_i μ282 291 105)).toNatClampNeg 11) (fun μ287 => sh_let (sh_setI μ287 291 105 ((sh_i μ287 291 105) + 1)) (fun μ288 => some (1, μ288))) else none) else sh_bindv (f_X12_qDrops μ282) (fun μ289 => F_X12_qGoesOnTest fuel 4  μ289))) else sh_bindv (f_X12_qDrops μ275) (fun μ279 => F_X12_qGoesOnTest fuel 4  μ279))) : Option (Int32 × sh_Mem)) = some (v, μ') := h
      have hF : rI μ μ := rI.rf
      obtain ⟨y277, μ275, hr276, h⟩ := sh_bind_e h
      have hG275 := gp_X12_qIsOn hG hr276
      have hF275 := hF.trans (ri_X12_qIsOn hG hr276)
      by_cases c278 : y277 = 0
      · rw [if_pos c278] at h
        obtain ⟨y284, μ282, hr283, h⟩ := sh_bind_e h
        have hG282 := gp_X12_qIsOn hG275 hr283
        have hF282 := hF275.trans (ri_X12_qIsOn hG275 hr283)
        by_cases c285 : y284 = 0
        · rw [if_pos c285] at h
          obtain ⟨k286, h⟩ := sh_chk h
          obtain ⟨μ287, eμ287⟩ : ∃ y : sh_Mem, y = (sh_setI μ282 365 ((sh_i μ282 291 105)).toNatClampNeg 11) := ⟨_, rfl⟩
          rw [sh_let_eq eμ287] at h
          have hG287 : sh_G μ287 := by rw [eμ287]; exact hG282
          have hF287 : rI μ μ287 := by rw [eμ287]; exact rI_I hF282 (by first | exact Or.inl (by decide) | exact Or.inr (by decide))
          obtain ⟨μ288, eμ288⟩ : ∃ y : sh_Mem, y = (sh_setI μ287 291 105 ((sh_i μ287 291 105) + 1)) := ⟨_, rfl⟩
          rw [sh_let_eq eμ288] at h
          have hG288 : sh_G μ288 := by rw [eμ288]; exact hG287
          have hF288 : rI μ μ288 := by rw [eμ288]; exact rI_I hF287 (by first | exact Or.inl (by decide) | exact Or.inr (by decide))
          obtain ⟨e1, e2⟩ := sh_some2 h
          exact e2 ▸ hF288
        · rw [if_neg c285] at h
          obtain ⟨μ289, hr290, h⟩ := sh_bindv_e h
          have hG289 := gp_X12_qDrops hG282 hr290
          have hF289 := hF282.trans (ri_X12_qDrops hG282 hr290)
          exact hF289.trans (ih_137 hG289 h)
      · rw [if_neg c278] at h
        obtain ⟨μ279, hr280, h⟩ := sh_bindv_e h
        have hG279 := gp_X12_qDrops hG275 hr280
        have hF279 := hF275.trans (ri_X12_qDrops hG275 hr280)
        exact hF279.trans (ih_137 hG279 h)
theorem ri_X12_qGoesOnTest {μ μ' : sh_Mem} {v : Int32} (hG : sh_G μ) (h : f_X12_qGoesOnTest μ = some (v, μ')) : rI μ μ' := by
  have ih_0 := (ril_X12_qGoesOnTest sh_fuel).1
  have ih_33 := (ril_X12_qGoesOnTest sh_fuel).2.1
  have ih_87 := (ril_X12_qGoesOnTest sh_fuel).2.2.1
  have ih_137 := (ril_X12_qGoesOnTest sh_fuel).2.2.2
  have hF : rI μ μ := rI.rf
  unfold f_X12_qGoesOnTest at h
  exact hF.trans (ih_0 hG h)
theorem ril_X12_qTest (fuel : Nat) : (∀ ⦃i1 : Int32⦄ ⦃μ μ' : sh_Mem⦄, sh_G μ → F_X12_qTest fuel 1 i1 μ = some μ' → rI μ μ') ∧ (∀ ⦃i1 : Int32⦄ ⦃μ μ' : sh_Mem⦄, sh_G μ → F_X12_qTest fuel 2 i1 μ = some μ' → rI μ μ') := by
  induction fuel with
  | zero => exact ⟨(by intro i1 μ μ' hG h; cases h), (by intro i1 μ μ' hG h; cases h)⟩
  | succ fuel ih =>
    obtain ⟨ih_2, ih_110⟩ := ih
    refine ⟨?_, ?_⟩
    · intro i1 μ μ' hG h
      replace h : ((if i1 = 0 then F_X12_qTest fuel 2 i1 μ else (if (sh_i μ 291 5) = 0 then sh_bind (f_X12_look μ) (fun y77 μ75 => (if y77 = 91 then sh_bindv (f_X12_qOpens 25 (sh_i μ75 291 2) μ75) (fun μ100 => sh_let (sh_setI μ100 291 2 ((sh_i μ100 291 2) + 1)) (fun μ103 => F_X12_qTest fuel 1 i1 μ103)) else sh_bind (f_X12_isHere 347 3 μ75) (fun y81 μ79 => (if y81 = 0 then sh_bindv (f_X12_qFact μ79) (fun μ83 => sh_bindv (f_X12_qDropsNots μ83) (fun μ86 => (if (sh_i μ86 291 5) = 0 then sh_bind (f_X12_qGoesOnTest μ86) (fun y92 μ90 => (if y92 = 0 then F_X12_qTest fuel 1 0 μ90 else F_X12_qTest fuel 1 1 μ90)) else F_X12_qTest fuel 1 0 μ86))) else sh_bindv (f_X12_qOpens 12 (sh_i μ79 291 2) μ79) (fun μ94 => sh_bindv (f_X12_needs 347 3 μ94) (fun μ97 => F_X12_qTest fuel 1 i1 μ97)))))) else F_X12_qTest fuel 2 i1 μ)) : Option sh_Mem) = some μ' := h
      have hF : rI μ μ := rI.rf
      by_cases c73 : i1 = 0
      · rw [if_pos c73] at h
        exact hF.trans (ih_110 hG h)
      · rw [if_neg c73] at h
        by_cases c74 : (sh_i μ 291 5) = 0
        · rw [if_pos c74] at h
          obtain ⟨y77, μ75, hr76, h⟩ := sh_bind_e h
          have hG75 := gp_X12_look hG hr76
          have hF75 := hF.trans (ri_X12_look hG hr76)
          by_cases c78 : y77 = 91
          · rw [if_pos c78] at h
            obtain ⟨μ100, hr101, h⟩ := sh_bindv_e h
            have hG100 := gp_X12_qOpens hG75 hr101
            have hF100 := hF75.trans (ri_X12_qOpens hG75 hr101)
            obtain ⟨μ103, eμ103⟩ : ∃ y : sh_Mem, y = (sh_setI μ100 291 2 ((sh_i μ100 291 2) + 1)) := ⟨_, rfl⟩
            rw [sh_let_eq eμ103] at h
            have hG103 : sh_G μ103 := by rw [eμ103]; exact hG100
            have hF103 : rI μ μ103 := by rw [eμ103]; exact rI_I hF100 (by first | exact Or.inl (by decide) | exact Or.inr (by decide))
            exact hF103.trans (ih_2 hG103 h)
          · rw [if_neg c78] at h
            obtain ⟨y81, μ79, hr80, h⟩ := sh_bind_e h
            have hG79 := gp_X12_isHere hG75 (sh_LAYat_347) hr80
            have hF79 := hF75.trans (ri_X12_isHere hG75 (sh_LAYat_347) (by decide) hr80)
            by_cases c82 : y81 = 0
            · rw [if_pos c82] at h
              obtain ⟨μ83, hr84, h⟩ := sh_bindv_e h
              have hG83 := gp_X12_qFact hG79 hr84
              have hF83 := hF79.trans (ri_X12_qFact hG79 hr84)
              obtain ⟨μ86, hr87, h⟩ := sh_bindv_e h
              have hG86 := gp_X12_qDropsNots hG83 hr87
              have hF86 := hF83.trans (ri_X12_qDropsNots hG83 hr87)
              by_cases c89 : (sh_i μ86 291 5) = 0
              · rw [if_pos c89] at h
                obtain ⟨y92, μ90, hr91, h⟩ := sh_bind_e h
                have hG90 := gp_X12_qGoesOnTest hG86 hr91
                have hF90 := hF86.trans (ri_X12_qGoesOnTest hG86 hr91)
                by_cases c93 : y92 = 0
                · rw [if_pos c93] at h
                  exact hF90.trans (ih_2 hG90 h)
                · rw [if_neg c93] at h
                  exact hF90.trans (ih_2 hG90 h)
              · rw [if_neg c89] at h
                exact hF86.trans (ih_2 hG86 h)
            · rw [if_neg c82] at h
              obtain ⟨μ94, hr95, h⟩ := sh_bindv_e h
              have hG94 := gp_X12_qOpens hG79 hr95
              have hF94 := hF79.trans (ri_X12_qOpens hG79 hr95)
              obtain ⟨μ97, hr98, h⟩ := sh_bindv_e h
              have hG97 := gp_X12_needs hG94 (sh_LAYat_347) hr98
              have hF97 := hF94.trans (ri_X12_needs hG94 (sh_LAYat_347) (by decide) hr98)
              exact hF97.trans (ih_2 hG97 h)
        · rw [if_neg c74] at h
          exact hF.trans (ih_110 hG h)
    · intro i1 μ μ' hG h
      replace h : ((if (sh_i μ 291 5) = 0 then (if (sh_i μ 291 105) ≤ 0 then some μ else sh_bindv (f_X12_qDrops μ) (fun μ106 => F_X12_qTest fuel 2 i1 μ106)) else some μ) : Option sh_Mem) = some μ' := h
      have hF : rI μ μ := rI.rf
      by_cases c104 : (sh_i μ 291 5) = 0
      · rw [if_pos c104] at h
        by_cases c105 : (sh_i μ 291 105) ≤ 0
        · rw [if_pos c105] at h
          have e2 := Option.some.inj h
          exact e2 ▸ hF
        · rw [if_neg c105] at h
          obtain ⟨μ106, hr107, h⟩ := sh_bindv_e h
          have hG106 := gp_X12_qDrops hG hr107
          have hF106 := hF.trans (ri_X12_qDrops hG hr107)
          exact hF106.trans (ih_110 hG106 h)
      · rw [if_neg c104] at h
        have e2 := Option.some.inj h
        exact e2 ▸ hF
theorem ri_X12_qTest {μ μ' : sh_Mem} (hG : sh_G μ) (h : f_X12_qTest μ = some μ') : rI μ μ' := by
  have ih_2 := (ril_X12_qTest sh_fuel).1
  have ih_110 := (ril_X12_qTest sh_fuel).2
  have hF : rI μ μ := rI.rf
  unfold f_X12_qTest at h
  exact hF.trans (ih_2 hG h)
theorem ril_X12_codesTold (fuel : Nat) : (∀ ⦃i1 : Int32⦄ ⦃i2 : Int32⦄ ⦃i3 : Int32⦄ ⦃μ μ' : sh_Mem⦄, sh_G μ → F_X12_codesTold fuel 1 i1 i2 i3 μ = some μ' → rI μ μ') := by
  induction fuel with
  | zero => intro i1 i2 i3 μ μ' hG h; cases h
  | succ fuel ih =>
    have ih_100 := ih
    intro i1 i2 i3 μ μ' hG h
    replace h : ((if (sh_i μ 291 103) ≤ i3 then (if sh_in i1 6 then sh_let (sh_setI μ 328 i1.toNatClampNeg (sh_i μ 291 48)) (fun μ130 => some μ130) else none) else (if sh_in i3 1700 then (if sh_in (sh_i μ 291 48) 3200 then sh_let (sh_setI μ 329 ((sh_i μ 291 48)).toNatClampNeg (sh_i μ 364 i3.toNatClampNeg)) (fun μ133 => sh_let (sh_setI μ133 291 48 ((sh_i μ133 291 48) + 1)) (fun μ134 => F_X12_codesTold fuel 1 i1 i2 (i3 + 1) μ134)) else none) else none)) : Option sh_Mem) = some μ' := h
    have hF : rI μ μ := rI.rf
    by_cases c128 : (sh_i μ 291 103) ≤ i3
    · rw [if_pos c128] at h
      obtain ⟨k129, h⟩ := sh_chk h
      obtain ⟨μ130, eμ130⟩ : ∃ y : sh_Mem, y = (sh_setI μ 328 i1.toNatClampNeg (sh_i μ 291 48)) := ⟨_, rfl⟩
      rw [sh_let_eq eμ130] at h
      have hG130 : sh_G μ130 := by rw [eμ130]; exact hG
      have hF130 : rI μ μ130 := by rw [eμ130]; exact rI_I hF (by first | exact Or.inl (by decide) | exact Or.inr (by decide))
      have e2 := Option.some.inj h
      exact e2 ▸ hF130
    · rw [if_neg c128] at h
      obtain ⟨k131, h⟩ := sh_chk h
      obtain ⟨k132, h⟩ := sh_chk h
      obtain ⟨μ133, eμ133⟩ : ∃ y : sh_Mem, y = (sh_setI μ 329 ((sh_i μ 291 48)).toNatClampNeg (sh_i μ 364 i3.toNatClampNeg)) := ⟨_, rfl⟩
      rw [sh_let_eq eμ133] at h
      have hG133 : sh_G μ133 := by rw [eμ133]; exact hG
      have hF133 : rI μ μ133 := by rw [eμ133]; exact rI_I hF (by first | exact Or.inl (by decide) | exact Or.inr (by decide))
      obtain ⟨μ134, eμ134⟩ : ∃ y : sh_Mem, y = (sh_setI μ133 291 48 ((sh_i μ133 291 48) + 1)) := ⟨_, rfl⟩
      rw [sh_let_eq eμ134] at h
      have hG134 : sh_G μ134 := by rw [eμ134]; exact hG133
      have hF134 : rI μ μ134 := by rw [eμ134]; exact rI_I hF133 (by first | exact Or.inl (by decide) | exact Or.inr (by decide))
      exact hF134.trans (ih_100 hG134 h)
theorem ri_X12_codesTold {a1 : Int32} {a2 : Int32} {μ μ' : sh_Mem} (hG : sh_G μ) (h : f_X12_codesTold a1 a2 μ = some μ') : rI μ μ' := by
  have ih_100 := (ril_X12_codesTold sh_fuel)
  have hF : rI μ μ := rI.rf
  unfold f_X12_codesTold at h
  by_cases c135 : (sh_i μ 291 5) = 0
  · rw [if_pos c135] at h
    obtain ⟨k174, h⟩ := sh_chk h
    by_cases c175 : (sh_i μ 327 a1.toNatClampNeg) = (-1)
    · rw [if_pos c175] at h
      by_cases c176 : (sh_i μ 291 5) = 0
      · rw [if_pos c176] at h
        by_cases c177 : a1 = 0
        · rw [if_pos c177] at h
          obtain ⟨μ196, eμ196⟩ : ∃ y : sh_Mem, y = (sh_setI μ 291 51 1) := ⟨_, rfl⟩
          rw [sh_let_eq eμ196] at h
          have hG196 : sh_G μ196 := by rw [eμ196]; exact hG
          have hF196 : rI μ μ196 := by rw [eμ196]; exact rI_I hF (by first | exact Or.inl (by decide) | exact Or.inr (by decide))
          obtain ⟨μ197, eμ197⟩ : ∃ y : sh_Mem, y = (sh_setI μ196 291 103 0) := ⟨_, rfl⟩
          rw [sh_let_eq eμ197] at h
          have hG197 : sh_G μ197 := by rw [eμ197]; exact hG196
          have hF197 : rI μ μ197 := by rw [eμ197]; exact rI_I hF196 (by first | exact Or.inl (by decide) | exact Or.inr (by decide))
          obtain ⟨μ198, eμ198⟩ : ∃ y : sh_Mem, y = (sh_setI μ197 291 105 0) := ⟨_, rfl⟩
          rw [sh_let_eq eμ198] at h
          have hG198 : sh_G μ198 := by rw [eμ198]; exact hG197
          have hF198 : rI μ μ198 := by rw [eμ198]; exact rI_I hF197 (by first | exact Or.inl (by decide) | exact Or.inr (by decide))
          obtain ⟨μ199, eμ199⟩ : ∃ y : sh_Mem, y = (sh_setI μ198 291 106 0) := ⟨_, rfl⟩
          rw [sh_let_eq eμ199] at h
          have hG199 : sh_G μ199 := by rw [eμ199]; exact hG198
          have hF199 : rI μ μ199 := by rw [eμ199]; exact rI_I hF198 (by first | exact Or.inl (by decide) | exact Or.inr (by decide))
          obtain ⟨μ200, eμ200⟩ : ∃ y : sh_Mem, y = (sh_setI μ199 291 107 0) := ⟨_, rfl⟩
          rw [sh_let_eq eμ200] at h
          have hG200 : sh_G μ200 := by rw [eμ200]; exact hG199
          have hF200 : rI μ μ200 := by rw [eμ200]; exact rI_I hF199 (by first | exact Or.inl (by decide) | exact Or.inr (by decide))
          by_cases c201 : a1 = 2
          · rw [if_pos c201] at h
            obtain ⟨μ208, hr209, h⟩ := sh_bindv_e h
            have hG208 := gp_X12_qTest hG200 hr209
            have hF208 := hF200.trans (ri_X12_qTest hG200 hr209)
            by_cases c211 : (sh_i μ208 291 5) = 0
            · rw [if_pos c211] at h
              obtain ⟨k212, h⟩ := sh_chk h
              obtain ⟨μ213, eμ213⟩ : ∃ y : sh_Mem, y = (sh_setI μ208 327 a1.toNatClampNeg (sh_i μ208 291 48)) := ⟨_, rfl⟩
              rw [sh_let_eq eμ213] at h
              have hG213 : sh_G μ213 := by rw [eμ213]; exact hG208
              have hF213 : rI μ μ213 := by rw [eμ213]; exact rI_I hF208 (by first | exact Or.inl (by decide) | exact Or.inr (by decide))
              exact hF213.trans (ih_100 hG213 h)
            · rw [if_neg c211] at h
              have e2 := Option.some.inj h
              exact e2 ▸ hF208
          · rw [if_neg c201] at h
            obtain ⟨μ202, hr203, h⟩ := sh_bindv_e h
            have hG202 := gp_X12_qSums hG200 hr203
            have hF202 := hF200.trans (ri_X12_qSums hG200 hr203)
            by_cases c205 : (sh_i μ202 291 5) = 0
            · rw [if_pos c205] at h
              obtain ⟨k206, h⟩ := sh_chk h
              obtain ⟨μ207, eμ207⟩ : ∃ y : sh_Mem, y = (sh_setI μ202 327 a1.toNatClampNeg (sh_i μ202 291 48)) := ⟨_, rfl⟩
              rw [sh_let_eq eμ207] at h
              have hG207 : sh_G μ207 := by rw [eμ207]; exact hG202
              have hF207 : rI μ μ207 := by rw [eμ207]; exact rI_I hF202 (by first | exact Or.inl (by decide) | exact Or.inr (by decide))
              exact hF207.trans (ih_100 hG207 h)
            · rw [if_neg c205] at h
              have e2 := Option.some.inj h
              exact e2 ▸ hF202
        · rw [if_neg c177] at h
          obtain ⟨μ178, eμ178⟩ : ∃ y : sh_Mem, y = (sh_setI μ 291 51 0) := ⟨_, rfl⟩
          rw [sh_let_eq eμ178] at h
          have hG178 : sh_G μ178 := by rw [eμ178]; exact hG
          have hF178 : rI μ μ178 := by rw [eμ178]; exact rI_I hF (by first | exact Or.inl (by decide) | exact Or.inr (by decide))
          obtain ⟨μ179, eμ179⟩ : ∃ y : sh_Mem, y = (sh_setI μ178 291 103 0) := ⟨_, rfl⟩
          rw [sh_let_eq eμ179] at h
          have hG179 : sh_G μ179 := by rw [eμ179]; exact hG178
          have hF179 : rI μ μ179 := by rw [eμ179]; exact rI_I hF178 (by first | exact Or.inl (by decide) | exact Or.inr (by decide))
          obtain ⟨μ180, eμ180⟩ : ∃ y : sh_Mem, y = (sh_setI μ179 291 105 0) := ⟨_, rfl⟩
          rw [sh_let_eq eμ180] at h
          have hG180 : sh_G μ180 := by rw [eμ180]; exact hG179
          have hF180 : rI μ μ180 := by rw [eμ180]; exact rI_I hF179 (by first | exact Or.inl (by decide) | exact Or.inr (by decide))
          obtain ⟨μ181, eμ181⟩ : ∃ y : sh_Mem, y = (sh_setI μ180 291 106 0) := ⟨_, rfl⟩
          rw [sh_let_eq eμ181] at h
          have hG181 : sh_G μ181 := by rw [eμ181]; exact hG180
          have hF181 : rI μ μ181 := by rw [eμ181]; exact rI_I hF180 (by first | exact Or.inl (by decide) | exact Or.inr (by decide))
          obtain ⟨μ182, eμ182⟩ : ∃ y : sh_Mem, y = (sh_setI μ181 291 107 0) := ⟨_, rfl⟩
          rw [sh_let_eq eμ182] at h
          have hG182 : sh_G μ182 := by rw [eμ182]; exact hG181
          have hF182 : rI μ μ182 := by rw [eμ182]; exact rI_I hF181 (by first | exact Or.inl (by decide) | exact Or.inr (by decide))
          by_cases c183 : a1 = 2
          · rw [if_pos c183] at h
            obtain ⟨μ190, hr191, h⟩ := sh_bindv_e h
            have hG190 := gp_X12_qTest hG182 hr191
            have hF190 := hF182.trans (ri_X12_qTest hG182 hr191)
            by_cases c193 : (sh_i μ190 291 5) = 0
            · rw [if_pos c193] at h
              obtain ⟨k194, h⟩ := sh_chk h
              obtain ⟨μ195, eμ195⟩ : ∃ y : sh_Mem, y = (sh_setI μ190 327 a1.toNatClampNeg (sh_i μ190 291 48)) := ⟨_, rfl⟩
              rw [sh_let_eq eμ195] at h
              have hG195 : sh_G μ195 := by rw [eμ195]; exact hG190
              have hF195 : rI μ μ195 := by rw [eμ195]; exact rI_I hF190 (by first | exact Or.inl (by decide) | exact Or.inr (by decide))
              exact hF195.trans (ih_100 hG195 h)
            · rw [if_neg c193] at h
              have e2 := Option.some.inj h
              exact e2 ▸ hF190
          · rw [if_neg c183] at h
            obtain ⟨μ184, hr185, h⟩ := sh_bindv_e h
            have hG184 := gp_X12_qSums hG182 hr185
            have hF184 := hF182.trans (ri_X12_qSums hG182 hr185)
            by_cases c187 : (sh_i μ184 291 5) = 0
            · rw [if_pos c187] at h
              obtain ⟨k188, h⟩ := sh_chk h
              obtain ⟨μ189, eμ189⟩ : ∃ y : sh_Mem, y = (sh_setI μ184 327 a1.toNatClampNeg (sh_i μ184 291 48)) := ⟨_, rfl⟩
              rw [sh_let_eq eμ189] at h
              have hG189 : sh_G μ189 := by rw [eμ189]; exact hG184
              have hF189 : rI μ μ189 := by rw [eμ189]; exact rI_I hF184 (by first | exact Or.inl (by decide) | exact Or.inr (by decide))
              exact hF189.trans (ih_100 hG189 h)
            · rw [if_neg c187] at h
              have e2 := Option.some.inj h
              exact e2 ▸ hF184
      · rw [if_neg c176] at h
        have e2 := Option.some.inj h
        exact e2 ▸ hF
    · rw [if_neg c175] at h
      obtain ⟨μ214, hr215, h⟩ := sh_bindv_e h
      have hG214 := gp_X12_fail hG hr215
      have hF214 := hF.trans (ri_X12_fail hr215 (by decide))
      by_cases c217 : (sh_i μ214 291 5) = 0
      · rw [if_pos c217] at h
        by_cases c218 : a1 = 0
        · rw [if_pos c218] at h
          obtain ⟨μ237, eμ237⟩ : ∃ y : sh_Mem, y = (sh_setI μ214 291 51 1) := ⟨_, rfl⟩
          rw [sh_let_eq eμ237] at h
          have hG237 : sh_G μ237 := by rw [eμ237]; exact hG214
          have hF237 : rI μ μ237 := by rw [eμ237]; exact rI_I hF214 (by first | exact Or.inl (by decide) | exact Or.inr (by decide))
          obtain ⟨μ238, eμ238⟩ : ∃ y : sh_Mem, y = (sh_setI μ237 291 103 0) := ⟨_, rfl⟩
          rw [sh_let_eq eμ238] at h
          have hG238 : sh_G μ238 := by rw [eμ238]; exact hG237
          have hF238 : rI μ μ238 := by rw [eμ238]; exact rI_I hF237 (by first | exact Or.inl (by decide) | exact Or.inr (by decide))
          obtain ⟨μ239, eμ239⟩ : ∃ y : sh_Mem, y = (sh_setI μ238 291 105 0) := ⟨_, rfl⟩
          rw [sh_let_eq eμ239] at h
          have hG239 : sh_G μ239 := by rw [eμ239]; exact hG238
          have hF239 : rI μ μ239 := by rw [eμ239]; exact rI_I hF238 (by first | exact Or.inl (by decide) | exact Or.inr (by decide))
          obtain ⟨μ240, eμ240⟩ : ∃ y : sh_Mem, y = (sh_setI μ239 291 106 0) := ⟨_, rfl⟩
          rw [sh_let_eq eμ240] at h
          have hG240 : sh_G μ240 := by rw [eμ240]; exact hG239
          have hF240 : rI μ μ240 := by rw [eμ240]; exact rI_I hF239 (by first | exact Or.inl (by decide) | exact Or.inr (by decide))
          obtain ⟨μ241, eμ241⟩ : ∃ y : sh_Mem, y = (sh_setI μ240 291 107 0) := ⟨_, rfl⟩
          rw [sh_let_eq eμ241] at h
          have hG241 : sh_G μ241 := by rw [eμ241]; exact hG240
          have hF241 : rI μ μ241 := by rw [eμ241]; exact rI_I hF240 (by first | exact Or.inl (by decide) | exact Or.inr (by decide))
          by_cases c242 : a1 = 2
          · rw [if_pos c242] at h
            obtain ⟨μ249, hr250, h⟩ := sh_bindv_e h
            have hG249 := gp_X12_qTest hG241 hr250
            have hF249 := hF241.trans (ri_X12_qTest hG241 hr250)
            by_cases c252 : (sh_i μ249 291 5) = 0
            · rw [if_pos c252] at h
              obtain ⟨k253, h⟩ := sh_chk h
              obtain ⟨μ254, eμ254⟩ : ∃ y : sh_Mem, y = (sh_setI μ249 327 a1.toNatClampNeg (sh_i μ249 291 48)) := ⟨_, rfl⟩
              rw [sh_let_eq eμ254] at h
              have hG254 : sh_G μ254 := by rw [eμ254]; exact hG249
              have hF254 : rI μ μ254 := by rw [eμ254]; exact rI_I hF249 (by first | exact Or.inl (by decide) | exact Or.inr (by decide))
              exact hF254.trans (ih_100 hG254 h)
            · rw [if_neg c252] at h
              have e2 := Option.some.inj h
              exact e2 ▸ hF249
          · rw [if_neg c242] at h
            obtain ⟨μ243, hr244, h⟩ := sh_bindv_e h
            have hG243 := gp_X12_qSums hG241 hr244
            have hF243 := hF241.trans (ri_X12_qSums hG241 hr244)
            by_cases c246 : (sh_i μ243 291 5) = 0
            · rw [if_pos c246] at h
              obtain ⟨k247, h⟩ := sh_chk h
              obtain ⟨μ248, eμ248⟩ : ∃ y : sh_Mem, y = (sh_setI μ243 327 a1.toNatClampNeg (sh_i μ243 291 48)) := ⟨_, rfl⟩
              rw [sh_let_eq eμ248] at h
              have hG248 : sh_G μ248 := by rw [eμ248]; exact hG243
              have hF248 : rI μ μ248 := by rw [eμ248]; exact rI_I hF243 (by first | exact Or.inl (by decide) | exact Or.inr (by decide))
              exact hF248.trans (ih_100 hG248 h)
            · rw [if_neg c246] at h
              have e2 := Option.some.inj h
              exact e2 ▸ hF243
        · rw [if_neg c218] at h
          obtain ⟨μ219, eμ219⟩ : ∃ y : sh_Mem, y = (sh_setI μ214 291 51 0) := ⟨_, rfl⟩
          rw [sh_let_eq eμ219] at h
          have hG219 : sh_G μ219 := by rw [eμ219]; exact hG214
          have hF219 : rI μ μ219 := by rw [eμ219]; exact rI_I hF214 (by first | exact Or.inl (by decide) | exact Or.inr (by decide))
          obtain ⟨μ220, eμ220⟩ : ∃ y : sh_Mem, y = (sh_setI μ219 291 103 0) := ⟨_, rfl⟩
          rw [sh_let_eq eμ220] at h
          have hG220 : sh_G μ220 := by rw [eμ220]; exact hG219
          have hF220 : rI μ μ220 := by rw [eμ220]; exact rI_I hF219 (by first | exact Or.inl (by decide) | exact Or.inr (by decide))
          obtain ⟨μ221, eμ221⟩ : ∃ y : sh_Mem, y = (sh_setI μ220 291 105 0) := ⟨_, rfl⟩
          rw [sh_let_eq eμ221] at h
          have hG221 : sh_G μ221 := by rw [eμ221]; exact hG220
          have hF221 : rI μ μ221 := by rw [eμ221]; exact rI_I hF220 (by first | exact Or.inl (by decide) | exact Or.inr (by decide))
          obtain ⟨μ222, eμ222⟩ : ∃ y : sh_Mem, y = (sh_setI μ221 291 106 0) := ⟨_, rfl⟩
          rw [sh_let_eq eμ222] at h
          have hG222 : sh_G μ222 := by rw [eμ222]; exact hG221
          have hF222 : rI μ μ222 := by rw [eμ222]; exact rI_I hF221 (by first | exact Or.inl (by decide) | exact Or.inr (by decide))
          obtain ⟨μ223, eμ223⟩ : ∃ y : sh_Mem, y = (sh_setI μ222 291 107 0) := ⟨_, rfl⟩
          rw [sh_let_eq eμ223] at h
          have hG223 : sh_G μ223 := by rw [eμ223]; exact hG222
          have hF223 : rI μ μ223 := by rw [eμ223]; exact rI_I hF222 (by first | exact Or.inl (by decide) | exact Or.inr (by decide))
          by_cases c224 : a1 = 2
          · rw [if_pos c224] at h
            obtain ⟨μ231, hr232, h⟩ := sh_bindv_e h
            have hG231 := gp_X12_qTest hG223 hr232
            have hF231 := hF223.trans (ri_X12_qTest hG223 hr232)
            by_cases c234 : (sh_i μ231 291 5) = 0
            · rw [if_pos c234] at h
              obtain ⟨k235, h⟩ := sh_chk h
              obtain ⟨μ236, eμ236⟩ : ∃ y : sh_Mem, y = (sh_setI μ231 327 a1.toNatClampNeg (sh_i μ231 291 48)) := ⟨_, rfl⟩
              rw [sh_let_eq eμ236] at h
              have hG236 : sh_G μ236 := by rw [eμ236]; exact hG231
              have hF236 : rI μ μ236 := by rw [eμ236]; exact rI_I hF231 (by first | exact Or.inl (by decide) | exact Or.inr (by decide))
              exact hF236.trans (ih_100 hG236 h)
            · rw [if_neg c234] at h
              have e2 := Option.some.inj h
              exact e2 ▸ hF231
          · rw [if_neg c224] at h
            obtain ⟨μ225, hr226, h⟩ := sh_bindv_e h
            have hG225 := gp_X12_qSums hG223 hr226
            have hF225 := hF223.trans (ri_X12_qSums hG223 hr226)
            by_cases c228 : (sh_i μ225 291 5) = 0
            · rw [if_pos c228] at h
              obtain ⟨k229, h⟩ := sh_chk h
              obtain ⟨μ230, eμ230⟩ : ∃ y : sh_Mem, y = (sh_setI μ225 327 a1.toNatClampNeg (sh_i μ225 291 48)) := ⟨_, rfl⟩
              rw [sh_let_eq eμ230] at h
              have hG230 : sh_G μ230 := by rw [eμ230]; exact hG225
              have hF230 : rI μ μ230 := by rw [eμ230]; exact rI_I hF225 (by first | exact Or.inl (by decide) | exact Or.inr (by decide))
              exact hF230.trans (ih_100 hG230 h)
            · rw [if_neg c228] at h
              have e2 := Option.some.inj h
              exact e2 ▸ hF225
      · rw [if_neg c217] at h
        have e2 := Option.some.inj h
        exact e2 ▸ hF214
  · rw [if_neg c135] at h
    by_cases c136 : (sh_i μ 291 5) = 0
    · rw [if_pos c136] at h
      by_cases c137 : a1 = 0
      · rw [if_pos c137] at h
        obtain ⟨μ156, eμ156⟩ : ∃ y : sh_Mem, y = (sh_setI μ 291 51 1) := ⟨_, rfl⟩
        rw [sh_let_eq eμ156] at h
        have hG156 : sh_G μ156 := by rw [eμ156]; exact hG
        have hF156 : rI μ μ156 := by rw [eμ156]; exact rI_I hF (by first | exact Or.inl (by decide) | exact Or.inr (by decide))
        obtain ⟨μ157, eμ157⟩ : ∃ y : sh_Mem, y = (sh_setI μ156 291 103 0) := ⟨_, rfl⟩
        rw [sh_let_eq eμ157] at h
        have hG157 : sh_G μ157 := by rw [eμ157]; exact hG156
        have hF157 : rI μ μ157 := by rw [eμ157]; exact rI_I hF156 (by first | exact Or.inl (by decide) | exact Or.inr (by decide))
        obtain ⟨μ158, eμ158⟩ : ∃ y : sh_Mem, y = (sh_setI μ157 291 105 0) := ⟨_, rfl⟩
        rw [sh_let_eq eμ158] at h
        have hG158 : sh_G μ158 := by rw [eμ158]; exact hG157
        have hF158 : rI μ μ158 := by rw [eμ158]; exact rI_I hF157 (by first | exact Or.inl (by decide) | exact Or.inr (by decide))
        obtain ⟨μ159, eμ159⟩ : ∃ y : sh_Mem, y = (sh_setI μ158 291 106 0) := ⟨_, rfl⟩
        rw [sh_let_eq eμ159] at h
        have hG159 : sh_G μ159 := by rw [eμ159]; exact hG158
        have hF159 : rI μ μ159 := by rw [eμ159]; exact rI_I hF158 (by first | exact Or.inl (by decide) | exact Or.inr (by decide))
        obtain ⟨μ160, eμ160⟩ : ∃ y : sh_Mem, y = (sh_setI μ159 291 107 0) := ⟨_, rfl⟩
        rw [sh_let_eq eμ160] at h
        have hG160 : sh_G μ160 := by rw [eμ160]; exact hG159
        have hF160 : rI μ μ160 := by rw [eμ160]; exact rI_I hF159 (by first | exact Or.inl (by decide) | exact Or.inr (by decide))
        by_cases c161 : a1 = 2
        · rw [if_pos c161] at h
          obtain ⟨μ168, hr169, h⟩ := sh_bindv_e h
          have hG168 := gp_X12_qTest hG160 hr169
          have hF168 := hF160.trans (ri_X12_qTest hG160 hr169)
          by_cases c171 : (sh_i μ168 291 5) = 0
          · rw [if_pos c171] at h
            obtain ⟨k172, h⟩ := sh_chk h
            obtain ⟨μ173, eμ173⟩ : ∃ y : sh_Mem, y = (sh_setI μ168 327 a1.toNatClampNeg (sh_i μ168 291 48)) := ⟨_, rfl⟩
            rw [sh_let_eq eμ173] at h
            have hG173 : sh_G μ173 := by rw [eμ173]; exact hG168
            have hF173 : rI μ μ173 := by rw [eμ173]; exact rI_I hF168 (by first | exact Or.inl (by decide) | exact Or.inr (by decide))
            exact hF173.trans (ih_100 hG173 h)
          · rw [if_neg c171] at h
            have e2 := Option.some.inj h
            exact e2 ▸ hF168
        · rw [if_neg c161] at h
          obtain ⟨μ162, hr163, h⟩ := sh_bindv_e h
          have hG162 := gp_X12_qSums hG160 hr163
          have hF162 := hF160.trans (ri_X12_qSums hG160 hr163)
          by_cases c165 : (sh_i μ162 291 5) = 0
          · rw [if_pos c165] at h
            obtain ⟨k166, h⟩ := sh_chk h
            obtain ⟨μ167, eμ167⟩ : ∃ y : sh_Mem, y = (sh_setI μ162 327 a1.toNatClampNeg (sh_i μ162 291 48)) := ⟨_, rfl⟩
            rw [sh_let_eq eμ167] at h
            have hG167 : sh_G μ167 := by rw [eμ167]; exact hG162
            have hF167 : rI μ μ167 := by rw [eμ167]; exact rI_I hF162 (by first | exact Or.inl (by decide) | exact Or.inr (by decide))
            exact hF167.trans (ih_100 hG167 h)
          · rw [if_neg c165] at h
            have e2 := Option.some.inj h
            exact e2 ▸ hF162
      · rw [if_neg c137] at h
        obtain ⟨μ138, eμ138⟩ : ∃ y : sh_Mem, y = (sh_setI μ 291 51 0) := ⟨_, rfl⟩
        rw [sh_let_eq eμ138] at h
        have hG138 : sh_G μ138 := by rw [eμ138]; exact hG
        have hF138 : rI μ μ138 := by rw [eμ138]; exact rI_I hF (by first | exact Or.inl (by decide) | exact Or.inr (by decide))
        obtain ⟨μ139, eμ139⟩ : ∃ y : sh_Mem, y = (sh_setI μ138 291 103 0) := ⟨_, rfl⟩
        rw [sh_let_eq eμ139] at h
        have hG139 : sh_G μ139 := by rw [eμ139]; exact hG138
        have hF139 : rI μ μ139 := by rw [eμ139]; exact rI_I hF138 (by first | exact Or.inl (by decide) | exact Or.inr (by decide))
        obtain ⟨μ140, eμ140⟩ : ∃ y : sh_Mem, y = (sh_setI μ139 291 105 0) := ⟨_, rfl⟩
        rw [sh_let_eq eμ140] at h
        have hG140 : sh_G μ140 := by rw [eμ140]; exact hG139
        have hF140 : rI μ μ140 := by rw [eμ140]; exact rI_I hF139 (by first | exact Or.inl (by decide) | exact Or.inr (by decide))
        obtain ⟨μ141, eμ141⟩ : ∃ y : sh_Mem, y = (sh_setI μ140 291 106 0) := ⟨_, rfl⟩
        rw [sh_let_eq eμ141] at h
        have hG141 : sh_G μ141 := by rw [eμ141]; exact hG140
        have hF141 : rI μ μ141 := by rw [eμ141]; exact rI_I hF140 (by first | exact Or.inl (by decide) | exact Or.inr (by decide))
        obtain ⟨μ142, eμ142⟩ : ∃ y : sh_Mem, y = (sh_setI μ141 291 107 0) := ⟨_, rfl⟩
        rw [sh_let_eq eμ142] at h
        have hG142 : sh_G μ142 := by rw [eμ142]; exact hG141
        have hF142 : rI μ μ142 := by rw [eμ142]; exact rI_I hF141 (by first | exact Or.inl (by decide) | exact Or.inr (by decide))
        by_cases c143 : a1 = 2
        · rw [if_pos c143] at h
          obtain ⟨μ150, hr151, h⟩ := sh_bindv_e h
          have hG150 := gp_X12_qTest hG142 hr151
          have hF150 := hF142.trans (ri_X12_qTest hG142 hr151)
          by_cases c153 : (sh_i μ150 291 5) = 0
          · rw [if_pos c153] at h
            obtain ⟨k154, h⟩ := sh_chk h
            obtain ⟨μ155, eμ155⟩ : ∃ y : sh_Mem, y = (sh_setI μ150 327 a1.toNatClampNeg (sh_i μ150 291 48)) := ⟨_, rfl⟩
            rw [sh_let_eq eμ155] at h
            have hG155 : sh_G μ155 := by rw [eμ155]; exact hG150
            have hF155 : rI μ μ155 := by rw [eμ155]; exact rI_I hF150 (by first | exact Or.inl (by decide) | exact Or.inr (by decide))
            exact hF155.trans (ih_100 hG155 h)
          · rw [if_neg c153] at h
            have e2 := Option.some.inj h
            exact e2 ▸ hF150
        · rw [if_neg c143] at h
          obtain ⟨μ144, hr145, h⟩ := sh_bindv_e h
          have hG144 := gp_X12_qSums hG142 hr145
          have hF144 := hF142.trans (ri_X12_qSums hG142 hr145)
          by_cases c147 : (sh_i μ144 291 5) = 0
          · rw [if_pos c147] at h
            obtain ⟨k148, h⟩ := sh_chk h
            obtain ⟨μ149, eμ149⟩ : ∃ y : sh_Mem, y = (sh_setI μ144 327 a1.toNatClampNeg (sh_i μ144 291 48)) := ⟨_, rfl⟩
            rw [sh_let_eq eμ149] at h
            have hG149 : sh_G μ149 := by rw [eμ149]; exact hG144
            have hF149 : rI μ μ149 := by rw [eμ149]; exact rI_I hF144 (by first | exact Or.inl (by decide) | exact Or.inr (by decide))
            exact hF149.trans (ih_100 hG149 h)
          · rw [if_neg c147] at h
            have e2 := Option.some.inj h
            exact e2 ▸ hF144
    · rw [if_neg c136] at h
      have e2 := Option.some.inj h
      exact e2 ▸ hF
theorem ri_X12_statementTold {μ μ' : sh_Mem} (hG : sh_G μ) (h : f_X12_statementTold μ = some μ') : rI μ μ' := by
  have hF : rI μ μ := rI.rf
  unfold f_X12_statementTold at h
  obtain ⟨x1, ex1⟩ : ∃ y : Int32, y = (sh_i μ 291 2) := ⟨_, rfl⟩
  rw [sh_let_eq ex1] at h
  by_cases c2 : (sh_i μ 291 49) = 80
  · rw [if_pos c2] at h
    obtain ⟨μ102, hr103, h⟩ := sh_bindv_e h
    have hG102 := gp_X12_fail hG hr103
    have hF102 := hF.trans (ri_X12_fail hr103 (by decide))
    have e2 := Option.some.inj h
    exact e2 ▸ hF102
  · rw [if_neg c2] at h
    obtain ⟨y5, μ3, hr4, h⟩ := sh_bind_e h
    have hG3 := gp_X12_takes hG (sh_LAYat_296) hr4
    have hF3 := hF.trans (ri_X12_takes hG (sh_LAYat_296) (by decide) hr4)
    by_cases c6 : y5 = 0
    · rw [if_pos c6] at h
      obtain ⟨y9, μ7, hr8, h⟩ := sh_bind_e h
      have hG7 := gp_X12_takes hG3 (sh_LAYat_297) hr8
      have hF7 := hF3.trans (ri_X12_takes hG3 (sh_LAYat_297) (by decide) hr8)
      by_cases c10 : y9 = 0
      · rw [if_pos c10] at h
        obtain ⟨y13, μ11, hr12, h⟩ := sh_bind_e h
        have hG11 := gp_X12_takes hG7 (sh_LAYat_298) hr12
        have hF11 := hF7.trans (ri_X12_takes hG7 (sh_LAYat_298) (by decide) hr12)
        by_cases c14 : y13 = 0
        · rw [if_pos c14] at h
          obtain ⟨y17, μ15, hr16, h⟩ := sh_bind_e h
          have hG15 := gp_X12_takes hG11 (sh_LAYat_301) hr16
          have hF15 := hF11.trans (ri_X12_takes hG11 (sh_LAYat_301) (by decide) hr16)
          by_cases c18 : y17 = 0
          · rw [if_pos c18] at h
            obtain ⟨y21, μ19, hr20, h⟩ := sh_bind_e h
            have hG19 := gp_X12_takes hG15 (sh_LAYat_303) hr20
            have hF19 := hF15.trans (ri_X12_takes hG15 (sh_LAYat_303) (by decide) hr20)
            by_cases c22 : y21 = 0
            · rw [if_pos c22] at h
              obtain ⟨y25, μ23, hr24, h⟩ := sh_bind_e h
              have hG23 := gp_X12_takes hG19 (sh_LAYat_304) hr24
              have hF23 := hF19.trans (ri_X12_takes hG19 (sh_LAYat_304) (by decide) hr24)
              by_cases c26 : y25 = 0
              · rw [if_pos c26] at h
                obtain ⟨y29, μ27, hr28, h⟩ := sh_bind_e h
                have hG27 := gp_X12_takes hG23 (sh_LAYat_305) hr28
                have hF27 := hF23.trans (ri_X12_takes hG23 (sh_LAYat_305) (by decide) hr28)
                by_cases c30 : y29 = 0
                · rw [if_pos c30] at h
                  obtain ⟨y33, μ31, hr32, h⟩ := sh_bind_e h
                  have hG31 := gp_X12_takes hG27 (sh_LAYat_306) hr32
                  have hF31 := hF27.trans (ri_X12_takes hG27 (sh_LAYat_306) (by decide) hr32)
                  by_cases c34 : y33 = 0
                  · rw [if_pos c34] at h
                    obtain ⟨μ35, hr36, h⟩ := sh_bindv_e h
                    have hG35 := gp_X12_needs hG31 (sh_LAYat_307) hr36
                    have hF35 := hF31.trans (ri_X12_needs hG31 (sh_LAYat_307) (by decide) hr36)
                    obtain ⟨y40, μ38, hr39, h⟩ := sh_bind_e h
                    have hG38 := gp_X12_number hG35 hr39
                    have hF38 := hF35.trans (ri_X12_number hG35 hr39)
                    obtain ⟨μ41, eμ41⟩ : ∃ y : sh_Mem, y = (sh_setI μ38 321 (Int32.toNatClampNeg 2) y40) := ⟨_, rfl⟩
                    rw [sh_let_eq eμ41] at h
                    have hG41 : sh_G μ41 := by rw [eμ41]; exact hG38
                    have hF41 : rI μ μ41 := by rw [eμ41]; exact rI_I hF38 (by first | exact Or.inl (by decide) | exact Or.inr (by decide))
                    obtain ⟨μ42, hr43, h⟩ := sh_bindv_e h
                    have hG42 := gp_X12_asksSign hG41 hr43
                    have hF42 := hF41.trans (ri_X12_asksSign hG41 hr43)
                    obtain ⟨μ45, eμ45⟩ : ∃ y : sh_Mem, y = (sh_setI μ42 291 49 ((sh_i μ42 291 49) + 1)) := ⟨_, rfl⟩
                    rw [sh_let_eq eμ45] at h
                    have hG45 : sh_G μ45 := by rw [eμ45]; exact hG42
                    have hF45 : rI μ μ45 := by rw [eμ45]; exact rI_I hF42 (by first | exact Or.inl (by decide) | exact Or.inr (by decide))
                    have e2 := Option.some.inj h
                    exact e2 ▸ hF45
                  · rw [if_neg c34] at h
                    obtain ⟨μ46, hr47, h⟩ := sh_bindv_e h
                    have hG46 := gp_X12_codesTold hG31 hr47
                    have hF46 := hF31.trans (ri_X12_codesTold hG31 hr47)
                    obtain ⟨μ49, hr50, h⟩ := sh_bindv_e h
                    have hG49 := gp_X12_asksSign hG46 hr50
                    have hF49 := hF46.trans (ri_X12_asksSign hG46 hr50)
                    obtain ⟨μ52, eμ52⟩ : ∃ y : sh_Mem, y = (sh_setI μ49 291 49 ((sh_i μ49 291 49) + 1)) := ⟨_, rfl⟩
                    rw [sh_let_eq eμ52] at h
                    have hG52 : sh_G μ52 := by rw [eμ52]; exact hG49
                    have hF52 : rI μ μ52 := by rw [eμ52]; exact rI_I hF49 (by first | exact Or.inl (by decide) | exact Or.inr (by decide))
                    have e2 := Option.some.inj h
                    exact e2 ▸ hF52
                · rw [if_neg c30] at h
                  obtain ⟨μ53, hr54, h⟩ := sh_bindv_e h
                  have hG53 := gp_X12_codesTold hG27 hr54
                  have hF53 := hF27.trans (ri_X12_codesTold hG27 hr54)
                  obtain ⟨μ56, hr57, h⟩ := sh_bindv_e h
                  have hG56 := gp_X12_asksSign hG53 hr57
                  have hF56 := hF53.trans (ri_X12_asksSign hG53 hr57)
                  obtain ⟨μ59, eμ59⟩ : ∃ y : sh_Mem, y = (sh_setI μ56 291 49 ((sh_i μ56 291 49) + 1)) := ⟨_, rfl⟩
                  rw [sh_let_eq eμ59] at h
                  have hG59 : sh_G μ59 := by rw [eμ59]; exact hG56
                  have hF59 : rI μ μ59 := by rw [eμ59]; exact rI_I hF56 (by first | exact Or.inl (by decide) | exact Or.inr (by decide))
                  have e2 := Option.some.inj h
                  exact e2 ▸ hF59
              · rw [if_neg c26] at h
                obtain ⟨μ60, hr61, h⟩ := sh_bindv_e h
                have hG60 := gp_X12_codesTold hG23 hr61
                have hF60 := hF23.trans (ri_X12_codesTold hG23 hr61)
                obtain ⟨μ63, hr64, h⟩ := sh_bindv_e h
                have hG63 := gp_X12_asksSign hG60 hr64
                have hF63 := hF60.trans (ri_X12_asksSign hG60 hr64)
                obtain ⟨μ66, eμ66⟩ : ∃ y : sh_Mem, y = (sh_setI μ63 291 49 ((sh_i μ63 291 49) + 1)) := ⟨_, rfl⟩
                rw [sh_let_eq eμ66] at h
                have hG66 : sh_G μ66 := by rw [eμ66]; exact hG63
                have hF66 : rI μ μ66 := by rw [eμ66]; exact rI_I hF63 (by first | exact Or.inl (by decide) | exact Or.inr (by decide))
                have e2 := Option.some.inj h
                exact e2 ▸ hF66
            · rw [if_neg c22] at h
              obtain ⟨μ67, hr68, h⟩ := sh_bindv_e h
              have hG67 := gp_X12_listTold hG19 hr68
              have hF67 := hF19.trans (ri_X12_listTold hG19 hr68)
              obtain ⟨μ70, hr71, h⟩ := sh_bindv_e h
              have hG70 := gp_X12_asksSign hG67 hr71
              have hF70 := hF67.trans (ri_X12_asksSign hG67 hr71)
              obtain ⟨μ73, eμ73⟩ : ∃ y : sh_Mem, y = (sh_setI μ70 291 49 ((sh_i μ70 291 49) + 1)) := ⟨_, rfl⟩
              rw [sh_let_eq eμ73] at h
              have hG73 : sh_G μ73 := by rw [eμ73]; exact hG70
              have hF73 : rI μ μ73 := by rw [eμ73]; exact rI_I hF70 (by first | exact Or.inl (by decide) | exact Or.inr (by decide))
              have e2 := Option.some.inj h
              exact e2 ▸ hF73
          · rw [if_neg c18] at h
            obtain ⟨μ74, hr75, h⟩ := sh_bindv_e h
            have hG74 := gp_X12_knowsTold hG15 hr75
            have hF74 := hF15.trans (ri_X12_knowsTold hG15 hr75)
            obtain ⟨μ77, hr78, h⟩ := sh_bindv_e h
            have hG77 := gp_X12_asksSign hG74 hr78
            have hF77 := hF74.trans (ri_X12_asksSign hG74 hr78)
            obtain ⟨μ80, eμ80⟩ : ∃ y : sh_Mem, y = (sh_setI μ77 291 49 ((sh_i μ77 291 49) + 1)) := ⟨_, rfl⟩
            rw [sh_let_eq eμ80] at h
            have hG80 : sh_G μ80 := by rw [eμ80]; exact hG77
            have hF80 : rI μ μ80 := by rw [eμ80]; exact rI_I hF77 (by first | exact Or.inl (by decide) | exact Or.inr (by decide))
            have e2 := Option.some.inj h
            exact e2 ▸ hF80
        · rw [if_neg c14] at h
          obtain ⟨μ81, hr82, h⟩ := sh_bindv_e h
          have hG81 := gp_X12_personTold hG11 hr82
          have hF81 := hF11.trans (ri_X12_personTold hG11 hr82)
          obtain ⟨μ84, hr85, h⟩ := sh_bindv_e h
          have hG84 := gp_X12_asksSign hG81 hr85
          have hF84 := hF81.trans (ri_X12_asksSign hG81 hr85)
          obtain ⟨μ87, eμ87⟩ : ∃ y : sh_Mem, y = (sh_setI μ84 291 49 ((sh_i μ84 291 49) + 1)) := ⟨_, rfl⟩
          rw [sh_let_eq eμ87] at h
          have hG87 : sh_G μ87 := by rw [eμ87]; exact hG84
          have hF87 : rI μ μ87 := by rw [eμ87]; exact rI_I hF84 (by first | exact Or.inl (by decide) | exact Or.inr (by decide))
          have e2 := Option.some.inj h
          exact e2 ▸ hF87
      · rw [if_neg c10] at h
        obtain ⟨μ88, hr89, h⟩ := sh_bindv_e h
        have hG88 := gp_X12_topicTold hG7 hr89
        have hF88 := hF7.trans (ri_X12_topicTold hG7 hr89)
        obtain ⟨μ91, hr92, h⟩ := sh_bindv_e h
        have hG91 := gp_X12_asksSign hG88 hr92
        have hF91 := hF88.trans (ri_X12_asksSign hG88 hr92)
        obtain ⟨μ94, eμ94⟩ : ∃ y : sh_Mem, y = (sh_setI μ91 291 49 ((sh_i μ91 291 49) + 1)) := ⟨_, rfl⟩
        rw [sh_let_eq eμ94] at h
        have hG94 : sh_G μ94 := by rw [eμ94]; exact hG91
        have hF94 : rI μ μ94 := by rw [eμ94]; exact rI_I hF91 (by first | exact Or.inl (by decide) | exact Or.inr (by decide))
        have e2 := Option.some.inj h
        exact e2 ▸ hF94
    · rw [if_neg c6] at h
      obtain ⟨μ95, hr96, h⟩ := sh_bindv_e h
      have hG95 := gp_X12_highTold hG3 hr96
      have hF95 := hF3.trans (ri_X12_highTold hG3 hr96)
      obtain ⟨μ98, hr99, h⟩ := sh_bindv_e h
      have hG98 := gp_X12_asksSign hG95 hr99
      have hF98 := hF95.trans (ri_X12_asksSign hG95 hr99)
      obtain ⟨μ101, eμ101⟩ : ∃ y : sh_Mem, y = (sh_setI μ98 291 49 ((sh_i μ98 291 49) + 1)) := ⟨_, rfl⟩
      rw [sh_let_eq eμ101] at h
      have hG101 : sh_G μ101 := by rw [eμ101]; exact hG98
      have hF101 : rI μ μ101 := by rw [eμ101]; exact rI_I hF98 (by first | exact Or.inl (by decide) | exact Or.inr (by decide))
      have e2 := Option.some.inj h
      exact e2 ▸ hF101
