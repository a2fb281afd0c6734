theorem fpl_X12_qSums (fuel : Nat) : (∀ ⦃i1 : Int32⦄ ⦃i2 : Int32⦄ ⦃μ μ' : sh_Mem⦄, sh_G μ → F_X12_qSums fuel 1 i1 i2 μ = some μ' → sh_offX μ μ') ∧ (∀ ⦃i1 : Int32⦄ ⦃i2 : Int32⦄ ⦃μ μ' : sh_Mem⦄, sh_G μ → F_X12_qSums fuel 2 i1 i2 μ = some μ' → sh_offX μ μ') := by
  induction fuel with
  | zero => exact ⟨(by intro i1 i2 μ μ' hG h; cases h), (by intro i1 i2 μ μ' hG h; cases h)⟩
  | succ fuel ih =>
    obtain ⟨ih_15, ih_53⟩ := ih
    refine ⟨?_, ?_⟩
    · intro i1 i2 μ μ' hG h
      replace h : ((if i2 = 0 then F_X12_qSums fuel 2 i1 i2 μ else (if (sh_i μ 291 5) = 0 then sh_bindv (f_X12_qPartTold μ) (fun μ39 => (if (sh_i μ39 291 5) = 0 then sh_bind (f_X12_qGoesOn μ39) (fun y45 μ43 => (if y45 = 0 then F_X12_qSums fuel 1 i1 0 μ43 else F_X12_qSums fuel 1 i1 1 μ43)) else F_X12_qSums fuel 1 i1 0 μ39)) else F_X12_qSums fuel 2 i1 i2 μ)) : Option sh_Mem) = some μ' := h
      have hF : sh_offX μ μ := sh_offX.rf
      by_cases c37 : i2 = 0
      · rw [if_pos c37] at h
        exact hF.trans (ih_53 hG h)
      · rw [if_neg c37] at h
        by_cases c38 : (sh_i μ 291 5) = 0
        · rw [if_pos c38] at h
          obtain ⟨μ39, hr40, h⟩ := sh_bindv_e h
          have hG39 := gp_X12_qPartTold hG hr40
          have hF39 := hF.trans (fp_X12_qPartTold hG hr40)
          by_cases c42 : (sh_i μ39 291 5) = 0
          · rw [if_pos c42] at h
            obtain ⟨y45, μ43, hr44, h⟩ := sh_bind_e h
            have hG43 := gp_X12_qGoesOn hG39 hr44
            have hF43 := hF39.trans (fp_X12_qGoesOn hG39 hr44)
            by_cases c46 : y45 = 0
            · rw [if_pos c46] at h
              exact hF43.trans (ih_15 hG43 h)
            · rw [if_neg c46] at h
              exact hF43.trans (ih_15 hG43 h)
          · rw [if_neg c42] at h
            exact hF39.trans (ih_15 hG39 h)
        · rw [if_neg c38] at h
          exact hF.trans (ih_53 hG h)
    · intro i1 i2 μ μ' hG h
      replace h : ((if (sh_i μ 291 5) = 0 then (if (sh_i μ 291 105) ≤ (sh_i μ 291 107) then sh_let (sh_setI μ 291 107 i1) (fun μ50 => some μ50) else sh_bindv (f_X12_qDrops μ) (fun μ51 => F_X12_qSums fuel 2 i1 i2 μ51)) else sh_let (sh_setI μ 291 107 i1) (fun μ48 => some μ48)) : Option sh_Mem) = some μ' := h
      have hF : sh_offX μ μ := sh_offX.rf
      by_cases c47 : (sh_i μ 291 5) = 0
      · rw [if_pos c47] at h
        by_cases c49 : (sh_i μ 291 105) ≤ (sh_i μ 291 107)
        · rw [if_pos c49] at h
          obtain ⟨μ50, eμ50⟩ : ∃ y : sh_Mem, y = (sh_setI μ 291 107 i1) := ⟨_, rfl⟩
          rw [sh_let_eq eμ50] at h
          have hG50 : sh_G μ50 := by rw [eμ50]; exact hG
          have hF50 : sh_offX μ μ50 := by rw [eμ50]; exact sh_offX_I hF (by decide)
          have e2 := Option.some.inj h
          exact e2 ▸ hF50
        · rw [if_neg c49] at h
          obtain ⟨μ51, hr52, h⟩ := sh_bindv_e h
          have hG51 := gp_X12_qDrops hG hr52
          have hF51 := hF.trans (fp_X12_qDrops hG hr52)
          exact hF51.trans (ih_53 hG51 h)
      · rw [if_neg c47] at h
        obtain ⟨μ48, eμ48⟩ : ∃ y : sh_Mem, y = (sh_setI μ 291 107 i1) := ⟨_, rfl⟩
        rw [sh_let_eq eμ48] at h
        have hG48 : sh_G μ48 := by rw [eμ48]; exact hG
        have hF48 : sh_offX μ μ48 := by rw [eμ48]; exact sh_offX_I hF (by decide)
        have e2 := Option.some.inj h
        exact e2 ▸ hF48
theorem fp_X12_qSums {μ μ' : sh_Mem} (hG : sh_G μ) (h : f_X12_qSums μ = some μ') : sh_offX μ μ' := by
  have ih_15 := (fpl_X12_qSums sh_fuel).1
  have ih_53 := (fpl_X12_qSums sh_fuel).2
  have hF : sh_offX μ μ := sh_offX.rf
  unfold f_X12_qSums at h
  obtain ⟨x54, ex54⟩ : ∃ y : Int32, y = (sh_i μ 291 107) := ⟨_, rfl⟩
  rw [sh_let_eq ex54] at h
  obtain ⟨μ55, eμ55⟩ : ∃ y : sh_Mem, y = (sh_setI μ 291 107 (sh_i μ 291 105)) := ⟨_, rfl⟩
  rw [sh_let_eq eμ55] at h
  have hG55 : sh_G μ55 := by rw [eμ55]; exact hG
  have hF55 : sh_offX μ μ55 := by rw [eμ55]; exact sh_offX_I hF (by decide)
  exact hF55.trans (ih_15 hG55 h)
theorem fp_X12_qFact {μ μ' : sh_Mem} (hG : sh_G μ) (h : f_X12_qFact μ = some μ') : sh_offX μ μ' := by
  have hF : sh_offX μ μ := sh_offX.rf
  unfold f_X12_qFact at h
  obtain ⟨y3, μ1, hr2, h⟩ := sh_bind_e h
  have hG1 := gp_X12_takes hG (sh_LAYat_350) hr2
  have hF1 := hF.trans (fp_X12_takes hG (sh_LAYat_350) (by decide) hr2)
  by_cases c4 : y3 = 0
  · rw [if_pos c4] at h
    obtain ⟨μ5, hr6, h⟩ := sh_bindv_e h
    have hG5 := gp_X12_qSums hG1 hr6
    have hF5 := hF1.trans (fp_X12_qSums hG1 hr6)
    by_cases c8 : (sh_i μ5 291 5) = 0
    · rw [if_pos c8] at h
      obtain ⟨y11, μ9, hr10, h⟩ := sh_bind_e h
      have hG9 := gp_X12_look hG5 hr10
      have hF9 := hF5.trans (fp_X12_look hG5 hr10)
      by_cases c12 : y11 = 60
      · rw [if_pos c12] at h
        obtain ⟨μ13, eμ13⟩ : ∃ y : sh_Mem, y = (sh_setI μ9 291 2 ((sh_i μ9 291 2) + 1)) := ⟨_, rfl⟩
        rw [sh_let_eq eμ13] at h
        have hG13 : sh_G μ13 := by rw [eμ13]; exact hG9
        have hF13 : sh_offX μ μ13 := by rw [eμ13]; exact sh_offX_I hF9 (by decide)
        obtain ⟨μ14, hr15, h⟩ := sh_bindv_e h
        have hG14 := gp_X12_qSums hG13 hr15
        have hF14 := hF13.trans (fp_X12_qSums hG13 hr15)
        by_cases c17 : y11 = 60
        · rw [if_pos c17] at h
          obtain ⟨μ25, hr26, h⟩ := sh_bindv_e h
          have hG25 := gp_X12_qCode hG14 hr26
          have hF25 := hF14.trans (fp_X12_qCode hG14 hr26)
          have e2 := Option.some.inj h
          exact e2 ▸ hF25
        · rw [if_neg c17] at h
          by_cases c18 : y11 = 62
          · rw [if_pos c18] at h
            obtain ⟨μ22, hr23, h⟩ := sh_bindv_e h
            have hG22 := gp_X12_qCode hG14 hr23
            have hF22 := hF14.trans (fp_X12_qCode hG14 hr23)
            have e2 := Option.some.inj h
            exact e2 ▸ hF22
          · rw [if_neg c18] at h
            obtain ⟨μ19, hr20, h⟩ := sh_bindv_e h
            have hG19 := gp_X12_qCode hG14 hr20
            have hF19 := hF14.trans (fp_X12_qCode hG14 hr20)
            have e2 := Option.some.inj h
            exact e2 ▸ hF19
      · rw [if_neg c12] at h
        by_cases c28 : y11 = 62
        · rw [if_pos c28] at h
          obtain ⟨μ29, eμ29⟩ : ∃ y : sh_Mem, y = (sh_setI μ9 291 2 ((sh_i μ9 291 2) + 1)) := ⟨_, rfl⟩
          rw [sh_let_eq eμ29] at h
          have hG29 : sh_G μ29 := by rw [eμ29]; exact hG9
          have hF29 : sh_offX μ μ29 := by rw [eμ29]; exact sh_offX_I hF9 (by decide)
          obtain ⟨μ30, hr31, h⟩ := sh_bindv_e h
          have hG30 := gp_X12_qSums hG29 hr31
          have hF30 := hF29.trans (fp_X12_qSums hG29 hr31)
          by_cases c33 : y11 = 60
          · rw [if_pos c33] at h
            obtain ⟨μ41, hr42, h⟩ := sh_bindv_e h
            have hG41 := gp_X12_qCode hG30 hr42
            have hF41 := hF30.trans (fp_X12_qCode hG30 hr42)
            have e2 := Option.some.inj h
            exact e2 ▸ hF41
          · rw [if_neg c33] at h
            by_cases c34 : y11 = 62
            · rw [if_pos c34] at h
              obtain ⟨μ38, hr39, h⟩ := sh_bindv_e h
              have hG38 := gp_X12_qCode hG30 hr39
              have hF38 := hF30.trans (fp_X12_qCode hG30 hr39)
              have e2 := Option.some.inj h
              exact e2 ▸ hF38
            · rw [if_neg c34] at h
              obtain ⟨μ35, hr36, h⟩ := sh_bindv_e h
              have hG35 := gp_X12_qCode hG30 hr36
              have hF35 := hF30.trans (fp_X12_qCode hG30 hr36)
              have e2 := Option.some.inj h
              exact e2 ▸ hF35
        · rw [if_neg c28] at h
          by_cases c44 : y11 = 61
          · rw [if_pos c44] at h
            obtain ⟨μ45, eμ45⟩ : ∃ y : sh_Mem, y = (sh_setI μ9 291 2 ((sh_i μ9 291 2) + 1)) := ⟨_, rfl⟩
            rw [sh_let_eq eμ45] at h
            have hG45 : sh_G μ45 := by rw [eμ45]; exact hG9
            have hF45 : sh_offX μ μ45 := by rw [eμ45]; exact sh_offX_I hF9 (by decide)
            obtain ⟨μ46, hr47, h⟩ := sh_bindv_e h
            have hG46 := gp_X12_qSums hG45 hr47
            have hF46 := hF45.trans (fp_X12_qSums hG45 hr47)
            by_cases c49 : y11 = 60
            · rw [if_pos c49] at h
              obtain ⟨μ57, hr58, h⟩ := sh_bindv_e h
              have hG57 := gp_X12_qCode hG46 hr58
              have hF57 := hF46.trans (fp_X12_qCode hG46 hr58)
              have e2 := Option.some.inj h
              exact e2 ▸ hF57
            · rw [if_neg c49] at h
              by_cases c50 : y11 = 62
              · rw [if_pos c50] at h
                obtain ⟨μ54, hr55, h⟩ := sh_bindv_e h
                have hG54 := gp_X12_qCode hG46 hr55
                have hF54 := hF46.trans (fp_X12_qCode hG46 hr55)
                have e2 := Option.some.inj h
                exact e2 ▸ hF54
              · rw [if_neg c50] at h
                obtain ⟨μ51, hr52, h⟩ := sh_bindv_e h
                have hG51 := gp_X12_qCode hG46 hr52
                have hF51 := hF46.trans (fp_X12_qCode hG46 hr52)
                have e2 := Option.some.inj h
                exact e2 ▸ hF51
          · rw [if_neg c44] at h
            obtain ⟨μ60, hr61, h⟩ := sh_bindv_e h
            have hG60 := gp_X12_fail hG9 hr61
            have hF60 := hF9.trans (fp_X12_fail hG9 hr61)
            have e2 := Option.some.inj h
            exact e2 ▸ hF60
    · rw [if_neg c8] at h
      have e2 := Option.some.inj h
      exact e2 ▸ hF5
  · rw [if_neg c4] at h
    obtain ⟨μ63, hr64, h⟩ := sh_bindv_e h
    have hG63 := gp_X12_qCode hG1 hr64
    have hF63 := hF1.trans (fp_X12_qCode hG1 hr64)
    have e2 := Option.some.inj h
    exact e2 ▸ hF63
theorem fpl_X12_qHasSquare (fuel : Nat) : (∀ ⦃i1 : Int32⦄ ⦃μ μ' : sh_Mem⦄ ⦃v : Int32⦄, sh_G μ → F_X12_qHasSquare fuel 1 i1 μ = some (v, μ') → sh_offX μ μ') := by
  induction fuel with
  | zero => intro i1 μ μ' v hG h; cases h
  | succ fuel ih =>
    have ih_2 := ih
    intro i1 μ μ' v hG h
    replace h : ((if (sh_i μ 291 105) ≤ i1 then some (0, μ) else (if sh_in i1 1700 then (if (sh_i μ 365 i1.toNatClampNeg) = 25 then some (1, μ) else F_X12_qHasSquare fuel 1 (i1 + 1) μ) else none)) : Option (Int32 × sh_Mem)) = some (v, μ') := h
    have hF : sh_offX μ μ := sh_offX.rf
    by_cases c4 : (sh_i μ 291 105) ≤ i1
    · rw [if_pos c4] at h
      obtain ⟨e1, e2⟩ := sh_some2 h
      exact e2 ▸ hF
    · rw [if_neg c4] at h
      obtain ⟨k5, h⟩ := sh_chk h
      by_cases c6 : (sh_i μ 365 i1.toNatClampNeg) = 25
      · rw [if_pos c6] at h
        obtain ⟨e1, e2⟩ := sh_some2 h
        exact e2 ▸ hF
      · rw [if_neg c6] at h
        exact hF.trans (ih_2 hG h)
theorem fp_X12_qHasSquare {μ μ' : sh_Mem} {v : Int32} (hG : sh_G μ) (h : f_X12_qHasSquare μ = some (v, μ')) : sh_offX μ μ' := by
  have ih_2 := (fpl_X12_qHasSquare sh_fuel)
  have hF : sh_offX μ μ := sh_offX.rf
  unfold f_X12_qHasSquare at h
  exact hF.trans (ih_2 hG h)
theorem fpl_X12_qDropsNots (fuel : Nat) : (∀ ⦃μ μ' : sh_Mem⦄, sh_G μ → F_X12_qDropsNots fuel 1 μ = some μ' → sh_offX μ μ') := by
  induction fuel with
  | zero => intro μ μ' hG h; cases h
  | succ fuel ih =>
    have ih_0 := ih
    intro μ μ' hG h
    replace h : ((if (sh_i μ 291 5) = 0 then sh_bind (f_X12_qIsOn 12 μ) (fun y13 μ11 => (if y13 = 0 then some μ11 else sh_let (sh_setI μ11 291 106 ((sh_i μ11 291 106) - 1)) (fun μ15 => sh_bindv (f_X12_qDrops μ15) (fun μ16 => F_X12_qDropsNots fuel 1  μ16)))) else some μ) : Option sh_Mem) = some μ' := h
    have hF : sh_offX μ μ := sh_offX.rf
    by_cases c10 : (sh_i μ 291 5) = 0
    · rw [if_pos c10] at h
      obtain ⟨y13, μ11, hr12, h⟩ := sh_bind_e h
      have hG11 := gp_X12_qIsOn hG hr12
      have hF11 := hF.trans (fp_X12_qIsOn hG hr12)
      by_cases c14 : y13 = 0
      · rw [if_pos c14] at h
        have e2 := Option.some.inj h
        exact e2 ▸ hF11
      · rw [if_neg c14] at h
        obtain ⟨μ15, eμ15⟩ : ∃ y : sh_Mem, y = (sh_setI μ11 291 106 ((sh_i μ11 291 106) - 1)) := ⟨_, rfl⟩
        rw [sh_let_eq eμ15] at h
        have hG15 : sh_G μ15 := by rw [eμ15]; exact hG11
        have hF15 : sh_offX μ μ15 := by rw [eμ15]; exact sh_offX_I hF11 (by decide)
        obtain ⟨μ16, hr17, h⟩ := sh_bindv_e h
        have hG16 := gp_X12_qDrops hG15 hr17
        have hF16 := hF15.trans (fp_X12_qDrops hG15 hr17)
        exact hF16.trans (ih_0 hG16 h)
    · rw [if_neg c10] at h
      have e2 := Option.some.inj h
      exact e2 ▸ hF
theorem fp_X12_qDropsNots {μ μ' : sh_Mem} (hG : sh_G μ) (h : f_X12_qDropsNots μ = some μ') : sh_offX μ μ' := by
  have ih_0 := (fpl_X12_qDropsNots sh_fuel)
  have hF : sh_offX μ μ := sh_offX.rf
  unfold f_X12_qDropsNots at h
  exact hF.trans (ih_0 hG h)
theorem fpl_X12_qGoesOnTest (fuel : Nat) : (∀ ⦃μ μ' : sh_Mem⦄ ⦃v : Int32⦄, sh_G μ → F_X12_qGoesOnTest fuel 1 μ = some (v, μ') → sh_offX μ μ') ∧ (∀ ⦃μ μ' : sh_Mem⦄ ⦃v : Int32⦄, sh_G μ → F_X12_qGoesOnTest fuel 2 μ = some (v, μ') → sh_offX μ μ') ∧ (∀ ⦃μ μ' : sh_Mem⦄ ⦃v : Int32⦄, sh_G μ → F_X12_qGoesOnTest fuel 3 μ = some (v, μ') → sh_offX μ μ') ∧ (∀ ⦃μ μ' : sh_Mem⦄ ⦃v : Int32⦄, sh_G μ → F_X12_qGoesOnTest fuel 4 μ = some (v, μ') → sh_offX μ μ') := by
  induction fuel with
  | zero => exact ⟨(by intro μ μ' v hG h; cases h), (by intro μ μ' v hG h; cases h), (by intro μ μ' v hG h; cases h), (by intro μ μ' v hG h; cases h)⟩
  | succ fuel ih =>
    obtain ⟨ih_0, ih_33, ih_87, ih_137⟩ := ih
    refine ⟨?_, ?_, ?_, ?_⟩
    · intro μ μ' v hG h
      replace h : ((if (sh_i μ 291 5) = 0 then sh_bind (f_X12_look μ) (fun y214 μ212 => (if y214 = 93 then sh_bind (f_X12_qHasSquare μ212) (fun y234 μ232 => (if y234 = 0 then sh_bind (f_X12_takes 348 3 μ232) (fun y238 μ236 => (if y238 = 0 then sh_bind (f_X12_takes 349 2 μ236) (fun y242 μ240 => (if y242 = 0 then (if (sh_i μ240 291 5) = 0 then sh_bind (f_X12_qHasSquare μ240) (fun y247 μ245 => (if y247 = 0 then some (0, μ245) else sh_bindv (f_X12_fail 1 (sh_i μ245 291 2) μ245) (fun μ249 => some (0, μ249)))) else some (0, μ240)) else F_X12_qGoesOnTest fuel 4  μ240)) else F_X12_qGoesOnTest fuel 3  μ236)) else sh_let (sh_setI μ232 291 2 ((sh_i μ232 291 2) + 1)) (fun μ252 => F_X12_qGoesOnTest fuel 2  μ252))) else sh_bind (f_X12_takes 348 3 μ212) (fun y218 μ216 => (if y218 = 0 then sh_bind (f_X12_takes 349 2 μ216) (fun y222 μ220 => (if y222 = 0 then (if (sh_i μ220 291 5) = 0 then sh_bind (f_X12_qHasSquare μ220) (fun y227 μ225 => (if y227 = 0 then some (0, μ225) else sh_bindv (f_X12_fail 1 (sh_i μ225 291 2) μ225) (fun μ229 => some (0, μ229)))) else some (0, μ220)) else F_X12_qGoesOnTest fuel 4  μ220)) else F_X12_qGoesOnTest fuel 3  μ216)))) else sh_bind (f_X12_takes 348 3 μ) (fun y198 μ196 => (if y198 = 0 then sh_bind (f_X12_takes 349 2 μ196) (fun y202 μ200 => (if y202 = 0 then (if (sh_i μ200 291 5) = 0 then sh_bind (f_X12_qHasSquare μ200) (fun y207 μ205 => (if y207 = 0 then some (0, μ205) else sh_bindv (f_X12_fail 1 (sh_i μ205 291 2) μ205) (fun μ209 => some (0, μ209)))) else some (0, μ200)) else F_X12_qGoesOnTest fuel 4  μ200)) else F_X12_qGoesOnTest fuel 3  μ196))) : Option (Int32 × sh_Mem)) = some (v, μ') := h
      have hF : sh_offX μ μ := sh_offX.rf
      by_cases c195 : (sh_i μ 291 5) = 0
      · rw [if_pos c195] at h
        obtain ⟨y214, μ212, hr213, h⟩ := sh_bind_e h
        have hG212 := gp_X12_look hG hr213
        have hF212 := hF.trans (fp_X12_look hG hr213)
        by_cases c215 : y214 = 93
        · rw [if_pos c215] at h
          obtain ⟨y234, μ232, hr233, h⟩ := sh_bind_e h
          have hG232 := gp_X12_qHasSquare hG212 hr233
          have hF232 := hF212.trans (fp_X12_qHasSquare hG212 hr233)
          by_cases c235 : y234 = 0
          · rw [if_pos c235] at h
            obtain ⟨y238, μ236, hr237, h⟩ := sh_bind_e h
            have hG236 := gp_X12_takes hG232 (sh_LAYat_348) hr237
            have hF236 := hF232.trans (fp_X12_takes hG232 (sh_LAYat_348) (by decide) hr237)
            by_cases c239 : y238 = 0
            · rw [if_pos c239] at h
              obtain ⟨y242, μ240, hr241, h⟩ := sh_bind_e h
              have hG240 := gp_X12_takes hG236 (sh_LAYat_349) hr241
              have hF240 := hF236.trans (fp_X12_takes hG236 (sh_LAYat_349) (by decide) hr241)
              by_cases c243 : y242 = 0
              · rw [if_pos c243] at h
                by_cases c244 : (sh_i μ240 291 5) = 0
                · rw [if_pos c244] at h
                  obtain ⟨y247, μ245, hr246, h⟩ := sh_bind_e h
                  have hG245 := gp_X12_qHasSquare hG240 hr246
                  have hF245 := hF240.trans (fp_X12_qHasSquare hG240 hr246)
                  by_cases c248 : y247 = 0
                  · rw [if_pos c248] at h
                    obtain ⟨e1, e2⟩ := sh_some2 h
                    exact e2 ▸ hF245
                  · rw [if_neg c248] at h
                    obtain ⟨μ249, hr250, h⟩ := sh_bindv_e h
                    have hG249 := gp_X12_fail hG245 hr250
                    have hF249 := hF245.trans (fp_X12_fail hG245 hr250)
                    obtain ⟨e1, e2⟩ := sh_some2 h
                    exact e2 ▸ hF249
                · rw [if_neg c244] at h
                  obtain ⟨e1, e2⟩ := sh_some2 h
                  exact e2 ▸ hF240
              · rw [if_neg c243] at h
                exact hF240.trans (ih_137 hG240 h)
            · rw [if_neg c239] at h
              exact hF236.trans (ih_87 hG236 h)
          · rw [if_neg c235] at h
            obtain ⟨μ252, eμ252⟩ : ∃ y : sh_Mem, y = (sh_setI μ232 291 2 ((sh_i μ232 291 2) + 1)) := ⟨_, rfl⟩
            rw [sh_let_eq eμ252] at h
            have hG252 : sh_G μ252 := by rw [eμ252]; exact hG232
            have hF252 : sh_offX μ μ252 := by rw [eμ252]; exact sh_offX_I hF232 (by decide)
            exact hF252.trans (ih_33 hG252 h)
        · rw [if_neg c215] at h
          obtain ⟨y218, μ216, hr217, h⟩ := sh_bind_e h
          have hG216 := gp_X12_takes hG212 (sh_LAYat_348) hr217
          have hF216 := hF212.trans (fp_X12_takes hG212 (sh_LAYat_348) (by decide) hr217)
          by_cases c219 : y218 = 0
          · rw [if_pos c219] at h
            obtain ⟨y222, μ220, hr221, h⟩ := sh_bind_e h
            have hG220 := gp_X12_takes hG216 (sh_LAYat_349) hr221
            have hF220 := hF216.trans (fp_X12_takes hG216 (sh_LAYat_349) (by decide) hr221)
            by_cases c223 : y222 = 0
            · rw [if_pos c223] at h
              by_cases c224 : (sh_i μ220 291 5) = 0
              · rw [if_pos c224] at h
                obtain ⟨y227, μ225, hr226, h⟩ := sh_bind_e h
                have hG225 := gp_X12_qHasSquare hG220 hr226
                have hF225 := hF220.trans (fp_X12_qHasSquare hG220 hr226)
                by_cases c228 : y227 = 0
                · rw [if_pos c228] at h
                  obtain ⟨e1, e2⟩ := sh_some2 h
                  exact e2 ▸ hF225
                · rw [if_neg c228] at h
                  obtain ⟨μ229, hr230, h⟩ := sh_bindv_e h
                  have hG229 := gp_X12_fail hG225 hr230
                  have hF229 := hF225.trans (fp_X12_fail hG225 hr230)
                  obtain ⟨e1, e2⟩ := sh_some2 h
                  exact e2 ▸ hF229
              · rw [if_neg c224] at h
                obtain ⟨e1, e2⟩ := sh_some2 h
                exact e2 ▸ hF220
            · rw [if_neg c223] at h
              exact hF220.trans (ih_137 hG220 h)
          · rw [if_neg c219] at h
            exact hF216.trans (ih_87 hG216 h)
      · rw [if_neg c195] at h
        obtain ⟨y198, μ196, hr197, h⟩ := sh_bind_e h
        have hG196 := gp_X12_takes hG (sh_LAYat_348) hr197
        have hF196 := hF.trans (fp_X12_takes hG (sh_LAYat_348) (by decide) hr197)
        by_cases c199 : y198 = 0
        · rw [if_pos c199] at h
          obtain ⟨y202, μ200, hr201, h⟩ := sh_bind_e h
          have hG200 := gp_X12_takes hG196 (sh_LAYat_349) hr201
          have hF200 := hF196.trans (fp_X12_takes hG196 (sh_LAYat_349) (by decide) hr201)
          by_cases c203 : y202 = 0
          · rw [if_pos c203] at h
            by_cases c204 : (sh_i μ200 291 5) = 0
            · rw [if_pos c204] at h
              obtain ⟨y207, μ205, hr206, h⟩ := sh_bind_e h
              have hG205 := gp_X12_qHasSquare hG200 hr206
              have hF205 := hF200.trans (fp_X12_qHasSquare hG200 hr206)
              by_cases c208 : y207 = 0
              · rw [if_pos c208] at h
                obtain ⟨e1, e2⟩ := sh_some2 h
                exact e2 ▸ hF205
              · rw [if_neg c208] at h
                obtain ⟨μ209, hr210, h⟩ := sh_bindv_e h
                have hG209 := gp_X12_fail hG205 hr210
                have hF209 := hF205.trans (fp_X12_fail hG205 hr210)
                obtain ⟨e1, e2⟩ := sh_some2 h
                exact e2 ▸ hF209
            · rw [if_neg c204] at h
              obtain ⟨e1, e2⟩ := sh_some2 h
              exact e2 ▸ hF200
          · rw [if_neg c203] at h
            exact hF200.trans (ih_137 hG200 h)
        · rw [if_neg c199] at h
          exact hF196.trans (ih_87 hG196 h)
    · intro μ μ' v hG h
      replace h : (sh_bind (f_X12_qIsOn 25 μ) (fun y255 μ253 => (if y255 = 0 then sh_bindv (f_X12_qDrops μ253) (fun μ262 => F_X12_qGoesOnTest fuel 2  μ262) else sh_let (sh_setI μ253 291 105 ((sh_i μ253 291 105) - 1)) (fun μ257 => sh_let (sh_setI μ257 291 106 ((sh_i μ257 291 106) - 1)) (fun μ258 => sh_bindv (f_X12_qDropsNots μ258) (fun μ259 => F_X12_qGoesOnTest fuel 1  μ259))))) : Option (Int32 × sh_Mem)) = some (v, μ') := h
      have hF : sh_offX μ μ := sh_offX.rf
      obtain ⟨y255, μ253, hr254, h⟩ := sh_bind_e h
      have hG253 := gp_X12_qIsOn hG hr254
      have hF253 := hF.trans (fp_X12_qIsOn hG hr254)
      by_cases c256 : y255 = 0
      · rw [if_pos c256] at h
        obtain ⟨μ262, hr263, h⟩ := sh_bindv_e h
        have hG262 := gp_X12_qDrops hG253 hr263
        have hF262 := hF253.trans (fp_X12_qDrops hG253 hr263)
        exact hF262.trans (ih_33 hG262 h)
      · rw [if_neg c256] at h
        obtain ⟨μ257, eμ257⟩ : ∃ y : sh_Mem, y = (sh_setI μ253 291 105 ((sh_i μ253 291 105) - 1)) := ⟨_, rfl⟩
        rw [sh_let_eq eμ257] at h
        have hG257 : sh_G μ257 := by rw [eμ257]; exact hG253
        have hF257 : sh_offX μ μ257 := by rw [eμ257]; exact sh_offX_I hF253 (by decide)
        obtain ⟨μ258, eμ258⟩ : ∃ y : sh_Mem, y = (sh_setI μ257 291 106 ((sh_i μ257 291 106) - 1)) := ⟨_, rfl⟩
        rw [sh_let_eq eμ258] at h
        have hG258 : sh_G μ258 := by rw [eμ258]; exact hG257
        have hF258 : sh_offX μ μ258 := by rw [eμ258]; exact sh_offX_I hF257 (by decide)
        obtain ⟨μ259, hr260, h⟩ := sh_bindv_e h
        have hG259 := gp_X12_qDropsNots hG258 hr260
        have hF259 := hF258.trans (fp_X12_qDropsNots hG258 hr260)
        exact hF259.trans (ih_0 hG259 h)
    · intro μ μ' v hG h
      replace h : (sh_bind (f_X12_qIsOn 10 μ) (fun y267 μ265 => (if y267 = 0 then (if sh_in (sh_i μ265 291 105) 1700 then sh_let (sh_setI μ265 365 ((sh_i μ265 291 105)).toNatClampNeg 10) (fun μ270 => sh_let (sh_setI μ270 291 105 ((sh_i μ270 291 105) + 1)) (fun μ271 => some (1, μ271))) else none) else sh_bindv (f_X12_qDrops μ265) (fun μ272 => F_X12_qGoesOnTest fuel 3  μ272))) : Option (Int32 × sh_Mem)) = some (v, μ') := h
      have hF : sh_offX μ μ := sh_offX.rf
      obtain ⟨y267, μ265, hr266, h⟩ := sh_bind_e h
      have hG265 := gp_X12_qIsOn hG hr266
      have hF265 := hF.trans (fp_X12_qIsOn hG hr266)
      by_cases c268 : y267 = 0
      · rw [if_pos c268] at h
        obtain ⟨k269, h⟩ := sh_chk h
        obtain ⟨μ270, eμ270⟩ : ∃ y : sh_Mem, y = (sh_setI μ265 365 ((sh_i μ265 291 105)).toNatClampNeg 10) := ⟨_, rfl⟩
        rw [sh_let_eq eμ270] at h
        have hG270 : sh_G μ270 := by rw [eμ270]; exact hG265
        have hF270 : sh_offX μ μ270 := by rw [eμ270]; exact sh_offX_I hF265 (by decide)
        obtain ⟨μ271, eμ271⟩ : ∃ y : sh_Mem, y = (sh_setI μ270 291 105 ((sh_i μ270 291 105) + 1)) := ⟨_, rfl⟩
        rw [sh_let_eq eμ271] at h
        have hG271 : sh_G μ271 := by rw [eμ271]; exact hG270
        have hF271 : sh_offX μ μ271 := by rw [eμ271]; exact sh_offX_I hF270 (by decide)
        obtain ⟨e1, e2⟩ := sh_some2 h
        exact e2 ▸ hF271
      · rw [if_neg c268] at h
        obtain ⟨μ272, hr273, h⟩ := sh_bindv_e h
        have hG272 := gp_X12_qDrops hG265 hr273
        have hF272 := hF265.trans (fp_X12_qDrops hG265 hr273)
        exact hF272.trans (ih_87 hG272 h)
    · intro μ μ' v hG h
      replace h : (sh_bind (f_X12_qIsOn 10 μ) (fun y277 μ275 => (if y277 = 0 then sh_bind (f_X12_qIsOn 11 μ275) (fun y284 μ282 => (if y284 = 0 then (if sh_in (sh_i μ282 291 105) 1700 then sh_let (sh_setI μ282 365 ((sh_i μ282 291 105)).toNatClampNeg 11) (fun μ287 => sh_let (sh_setI μ287 291 105 ((sh_i μ287 291 105) + 1)) (fun μ288 => some (1, μ288))) else none) else sh_bindv (f_X12_qDrops μ282) (fun μ289 => F_X12_qGoesOnTest fuel 4  μ289))) else sh_bindv (f_X12_qDrops μ275) (fun μ279 => F_X12_qGoesOnTest fuel 4  μ279))) : Option (Int32 × sh_Mem)) = some (v, μ') := h
      have hF : sh_offX μ μ := sh_offX.rf
      obtain ⟨y277, μ275, hr276, h⟩ := sh_bind_e h
      have hG275 := gp_X12_qIsOn hG hr276
      have hF275 := hF.trans (fp_X12_qIsOn hG hr276)
      by_cases c278 : y277 = 0
      · rw [if_pos c278] at h
        obtain ⟨y284, μ282, hr283, h⟩ := sh_bind_e h
        have hG282 := gp_X12_qIsOn hG275 hr283
        have hF282 := hF275.trans (fp_X12_qIsOn hG275 hr283)
        by_cases c285 : y284 = 0
        · rw [if_pos c285] at h
          obtain ⟨k286, h⟩ := sh_chk h
          obtain ⟨μ287, eμ287⟩ : ∃ y : sh_Mem, y = (sh_setI μ282 365 ((sh_i μ282 291 105)).toNatClampNeg 11) := ⟨_, rfl⟩
          rw [sh_let_eq eμ287] at h
          have hG287 : sh_G μ287 := by rw [eμ287]; exact hG282
          have hF287 : sh_offX μ μ287 := by rw [eμ287]; exact sh_offX_I hF282 (by decide)
          obtain ⟨μ288, eμ288⟩ : ∃ y : sh_Mem, y = (sh_setI μ287 291 105 ((sh_i μ287 291 105) + 1)) := ⟨_, rfl⟩
          rw [sh_let_eq eμ288] at h
          have hG288 : sh_G μ288 := by rw [eμ288]; exact hG287
          have hF288 : sh_offX μ μ288 := by rw [eμ288]; exact sh_offX_I hF287 (by decide)
          obtain ⟨e1, e2⟩ := sh_some2 h
          exact e2 ▸ hF288
        · rw [if_neg c285] at h
          obtain ⟨μ289, hr290, h⟩ := sh_bindv_e h
          have hG289 := gp_X12_qDrops hG282 hr290
          have hF289 := hF282.trans (fp_X12_qDrops hG282 hr290)
          exact hF289.trans (ih_137 hG289 h)
      · rw [if_neg c278] at h
        obtain ⟨μ279, hr280, h⟩ := sh_bindv_e h
        have hG279 := gp_X12_qDrops hG275 hr280
        have hF279 := hF275.trans (fp_X12_qDrops hG275 hr280)
        exact hF279.trans (ih_137 hG279 h)
theorem fp_X12_qGoesOnTest {μ μ' : sh_Mem} {v : Int32} (hG : sh_G μ) (h : f_X12_qGoesOnTest μ = some (v, μ')) : sh_offX μ μ' := by
  have ih_0 := (fpl_X12_qGoesOnTest sh_fuel).1
  have ih_33 := (fpl_X12_qGoesOnTest sh_fuel).2.1
  have ih_87 := (fpl_X12_qGoesOnTest sh_fuel).2.2.1
  have ih_137 := (fpl_X12_qGoesOnTest sh_fuel).2.2.2
  have hF : sh_offX μ μ := sh_offX.rf
  unfold f_X12_qGoesOnTest at h
  exact hF.trans (ih_0 hG h)
theorem fp_X12_qFloor {a1 : Int64} {a2 : Int64} {μ μ' : sh_Mem} {v : Int64} (hG : sh_G μ) (h : f_X12_qFloor a1 a2 μ = some (v, μ')) : sh_offX μ μ' := by
  have hF : sh_offX μ μ := sh_offX.rf
  unfold f_X12_qFloor at h
  by_cases c1 : (lg_cmp a2 0) = 0
  · rw [if_pos c1] at h
    obtain ⟨e1, e2⟩ := sh_some2 h
    exact e2 ▸ hF
  · rw [if_neg c1] at h
    obtain ⟨k2, h⟩ := sh_chk h
    obtain ⟨x3, ex3⟩ : ∃ y : Int64, y = (a1 / a2) := ⟨_, rfl⟩
    rw [sh_let_eq ex3] at h
    obtain ⟨k4, h⟩ := sh_chk h
    by_cases c5 : (lg_cmp (a1 - a1 / a2 * a2) 0) = 0
    · rw [if_pos c5] at h
      obtain ⟨e1, e2⟩ := sh_some2 h
      exact e2 ▸ hF
    · rw [if_neg c5] at h
      by_cases c6 : 0 ≤ (lg_cmp a1 0)
      · rw [if_pos c6] at h
        by_cases c7 : 0 ≤ (lg_cmp a2 0)
        · rw [if_pos c7] at h
          obtain ⟨e1, e2⟩ := sh_some2 h
          exact e2 ▸ hF
        · rw [if_neg c7] at h
          obtain ⟨e1, e2⟩ := sh_some2 h
          exact e2 ▸ hF
      · rw [if_neg c6] at h
        by_cases c8 : 0 ≤ (lg_cmp a2 0)
        · rw [if_pos c8] at h
          obtain ⟨e1, e2⟩ := sh_some2 h
          exact e2 ▸ hF
        · rw [if_neg c8] at h
          obtain ⟨e1, e2⟩ := sh_some2 h
          exact e2 ▸ hF
theorem fp_X12_qPuts {a1 : Int64} {μ μ' : sh_Mem} (hG : sh_G μ) (h : f_X12_qPuts a1 μ = some μ') : sh_offX μ μ' := by
  have hF : sh_offX μ μ := sh_offX.rf
  unfold f_X12_qPuts at h
  obtain ⟨k1, h⟩ := sh_chk h
  obtain ⟨μ2, eμ2⟩ : ∃ y : sh_Mem, y = (sh_setL μ 366 ((sh_i μ 291 109)).toNatClampNeg a1) := ⟨_, rfl⟩
  rw [sh_let_eq eμ2] at h
  have hG2 : sh_G μ2 := by rw [eμ2]; exact hG
  have hF2 : sh_offX μ μ2 := by rw [eμ2]; exact sh_offX_L hF (by decide)
  obtain ⟨μ3, eμ3⟩ : ∃ y : sh_Mem, y = (sh_setI μ2 291 109 ((sh_i μ2 291 109) + 1)) := ⟨_, rfl⟩
  rw [sh_let_eq eμ3] at h
  have hG3 : sh_G μ3 := by rw [eμ3]; exact hG2
  have hF3 : sh_offX μ μ3 := by rw [eμ3]; exact sh_offX_I hF2 (by decide)
  have e2 := Option.some.inj h
  exact e2 ▸ hF3
theorem fp_X12_qJoins {a1 : Int32} {μ μ' : sh_Mem} (hG : sh_G μ) (h : f_X12_qJoins a1 μ = some μ') : sh_offX μ μ' := by
  have hF : sh_offX μ μ := sh_offX.rf
  unfold f_X12_qJoins at h
  obtain ⟨k1, h⟩ := sh_chk h
  obtain ⟨x2, ex2⟩ : ∃ y : Int64, y = (sh_l μ 366 (((sh_i μ 291 109) - 1)).toNatClampNeg) := ⟨_, rfl⟩
  rw [sh_let_eq ex2] at h
  obtain ⟨k3, h⟩ := sh_chk h
  obtain ⟨x4, ex4⟩ : ∃ y : Int64, y = (sh_l μ 366 (((sh_i μ 291 109) - 2)).toNatClampNeg) := ⟨_, rfl⟩
  rw [sh_let_eq ex4] at h
  obtain ⟨μ5, eμ5⟩ : ∃ y : sh_Mem, y = (sh_setI μ 291 109 ((sh_i μ 291 109) - 2)) := ⟨_, rfl⟩
  rw [sh_let_eq eμ5] at h
  have hG5 : sh_G μ5 := by rw [eμ5]; exact hG
  have hF5 : sh_offX μ μ5 := by rw [eμ5]; exact sh_offX_I hF (by decide)
  by_cases c6 : a1 = 1
  · rw [if_pos c6] at h
    obtain ⟨μ7, hr8, h⟩ := sh_bindv_e h
    have hG7 := gp_X12_qPuts hG5 hr8
    have hF7 := hF5.trans (fp_X12_qPuts hG5 hr8)
    have e2 := Option.some.inj h
    exact e2 ▸ hF7
  rw [if_neg c6] at h
  by_cases c10 : a1 = 2
  · rw [if_pos c10] at h
    obtain ⟨μ11, hr12, h⟩ := sh_bindv_e h
    have hG11 := gp_X12_qPuts hG5 hr12
    have hF11 := hF5.trans (fp_X12_qPuts hG5 hr12)
    have e2 := Option.some.inj h
    exact e2 ▸ hF11
  rw [if_neg c10] at h
  by_cases c14 : a1 = 3
  · rw [if_pos c14] at h
    obtain ⟨μ15, hr16, h⟩ := sh_bindv_e h
    have hG15 := gp_X12_qPuts hG5 hr16
    have hF15 := hF5.trans (fp_X12_qPuts hG5 hr16)
    have e2 := Option.some.inj h
    exact e2 ▸ hF15
  rw [if_neg c14] at h
  by_cases c18 : a1 = 4
  · rw [if_pos c18] at h
    obtain ⟨y21, μ19, hr20, h⟩ := sh_bind_e h
    have hG19 := gp_X12_qFloor hG5 hr20
    have hF19 := hF5.trans (fp_X12_qFloor hG5 hr20)
    obtain ⟨μ22, hr23, h⟩ := sh_bindv_e h
    have hG22 := gp_X12_qPuts hG19 hr23
    have hF22 := hF19.trans (fp_X12_qPuts hG19 hr23)
    have e2 := Option.some.inj h
    exact e2 ▸ hF22
  rw [if_neg c18] at h
  by_cases c25 : a1 = 5
  · rw [if_pos c25] at h
    by_cases c26 : 0 ≤ (lg_cmp x4 x2)
    · rw [if_pos c26] at h
      obtain ⟨μ27, hr28, h⟩ := sh_bindv_e h
      have hG27 := gp_X12_qPuts hG5 hr28
      have hF27 := hF5.trans (fp_X12_qPuts hG5 hr28)
      have e2 := Option.some.inj h
      exact e2 ▸ hF27
    · rw [if_neg c26] at h
      obtain ⟨μ30, hr31, h⟩ := sh_bindv_e h
      have hG30 := gp_X12_qPuts hG5 hr31
      have hF30 := hF5.trans (fp_X12_qPuts hG5 hr31)
      have e2 := Option.some.inj h
      exact e2 ▸ hF30
  rw [if_neg c25] at h
  by_cases c33 : a1 = 6
  · rw [if_pos c33] at h
    by_cases c34 : (lg_cmp x4 x2) ≤ 0
    · rw [if_pos c34] at h
      obtain ⟨μ35, hr36, h⟩ := sh_bindv_e h
      have hG35 := gp_X12_qPuts hG5 hr36
      have hF35 := hF5.trans (fp_X12_qPuts hG5 hr36)
      have e2 := Option.some.inj h
      exact e2 ▸ hF35
    · rw [if_neg c34] at h
      obtain ⟨μ38, hr39, h⟩ := sh_bindv_e h
      have hG38 := gp_X12_qPuts hG5 hr39
      have hF38 := hF5.trans (fp_X12_qPuts hG5 hr39)
      have e2 := Option.some.inj h
      exact e2 ▸ hF38
  rw [if_neg c33] at h
  by_cases c41 : a1 = 7
  · rw [if_pos c41] at h
    by_cases c42 : 0 ≤ (lg_cmp x4 x2)
    · rw [if_pos c42] at h
      obtain ⟨μ43, hr44, h⟩ := sh_bindv_e h
      have hG43 := gp_X12_qPuts hG5 hr44
      have hF43 := hF5.trans (fp_X12_qPuts hG5 hr44)
      have e2 := Option.some.inj h
      exact e2 ▸ hF43
    · rw [if_neg c42] at h
      obtain ⟨μ46, hr47, h⟩ := sh_bindv_e h
      have hG46 := gp_X12_qPuts hG5 hr47
      have hF46 := hF5.trans (fp_X12_qPuts hG5 hr47)
      have e2 := Option.some.inj h
      exact e2 ▸ hF46
  rw [if_neg c41] at h
  by_cases c49 : a1 = 8
  · rw [if_pos c49] at h
    by_cases c50 : (lg_cmp x4 x2) ≤ 0
    · rw [if_pos c50] at h
      obtain ⟨μ51, hr52, h⟩ := sh_bindv_e h
      have hG51 := gp_X12_qPuts hG5 hr52
      have hF51 := hF5.trans (fp_X12_qPuts hG5 hr52)
      have e2 := Option.some.inj h
      exact e2 ▸ hF51
    · rw [if_neg c50] at h
      obtain ⟨μ54, hr55, h⟩ := sh_bindv_e h
      have hG54 := gp_X12_qPuts hG5 hr55
      have hF54 := hF5.trans (fp_X12_qPuts hG5 hr55)
      have e2 := Option.some.inj h
      exact e2 ▸ hF54
  rw [if_neg c49] at h
  by_cases c57 : a1 = 9
  · rw [if_pos c57] at h
    by_cases c58 : (lg_cmp x4 x2) = 0
    · rw [if_pos c58] at h
      obtain ⟨μ62, hr63, h⟩ := sh_bindv_e h
      have hG62 := gp_X12_qPuts hG5 hr63
      have hF62 := hF5.trans (fp_X12_qPuts hG5 hr63)
      have e2 := Option.some.inj h
      exact e2 ▸ hF62
    · rw [if_neg c58] at h
      obtain ⟨μ59, hr60, h⟩ := sh_bindv_e h
      have hG59 := gp_X12_qPuts hG5 hr60
      have hF59 := hF5.trans (fp_X12_qPuts hG5 hr60)
      have e2 := Option.some.inj h
      exact e2 ▸ hF59
  rw [if_neg c57] at h
  by_cases c65 : a1 = 10
  · rw [if_pos c65] at h
    obtain ⟨μ66, hr67, h⟩ := sh_bindv_e h
    have hG66 := gp_X12_qPuts hG5 hr67
    have hF66 := hF5.trans (fp_X12_qPuts hG5 hr67)
    have e2 := Option.some.inj h
    exact e2 ▸ hF66
  rw [if_neg c65] at h
  by_cases c69 : (lg_cmp (x4 + x2) 0) ≤ 0
  · rw [if_pos c69] at h
    obtain ⟨μ70, hr71, h⟩ := sh_bindv_e h
    have hG70 := gp_X12_qPuts hG5 hr71
    have hF70 := hF5.trans (fp_X12_qPuts hG5 hr71)
    have e2 := Option.some.inj h
    exact e2 ▸ hF70
  · rw [if_neg c69] at h
    obtain ⟨μ73, hr74, h⟩ := sh_bindv_e h
    have hG73 := gp_X12_qPuts hG5 hr74
    have hF73 := hF5.trans (fp_X12_qPuts hG5 hr74)
    have e2 := Option.some.inj h
    exact e2 ▸ hF73
theorem fp_X12_qPartOf {a1 : Int32} {a2 : Int32} {μ μ' : sh_Mem} {v : Int64} (hG : sh_G μ) (h : f_X12_qPartOf a1 a2 μ = some (v, μ')) : sh_offX μ μ' := by
  have hF : sh_offX μ μ := sh_offX.rf
  unfold f_X12_qPartOf at h
  by_cases c1 : a1 = 0
  · rw [if_pos c1] at h
    obtain ⟨y4, μ2, hr3, h⟩ := sh_bind_e h
    have hG2 := gp_X12_tiredOf hG hr3
    have hF2 := hF.trans (fp_X12_tiredOf hG hr3)
    obtain ⟨e1, e2⟩ := sh_some2 h
    exact e2 ▸ hF2
  rw [if_neg c1] at h
  by_cases c5 : a1 = 1
  · rw [if_pos c5] at h
    obtain ⟨y8, μ6, hr7, h⟩ := sh_bind_e h
    have hG6 := gp_X12_cellOf hG hr7
    have hF6 := hF.trans (fp_X12_cellOf hG hr7)
    obtain ⟨y11, μ9, hr10, h⟩ := sh_bind_e h
    have hG9 := gp_X12_heightOf hG6 hr10
    have hF9 := hF6.trans (fp_X12_heightOf hG6 hr10)
    obtain ⟨e1, e2⟩ := sh_some2 h
    exact e2 ▸ hF9
  rw [if_neg c5] at h
  by_cases c12 : a1 = 2
  · rw [if_pos c12] at h
    obtain ⟨y15, μ13, hr14, h⟩ := sh_bind_e h
    have hG13 := gp_X12_knowsOf hG hr14
    have hF13 := hF.trans (fp_X12_knowsOf hG hr14)
    obtain ⟨y18, μ16, hr17, h⟩ := sh_bind_e h
    have hG16 := gp_X12_bits hG13 hr17
    have hF16 := hF13.trans (fp_X12_bits hG13 hr17)
    obtain ⟨e1, e2⟩ := sh_some2 h
    exact e2 ▸ hF16
  rw [if_neg c12] at h
  by_cases c19 : a1 = 3
  · rw [if_pos c19] at h
    obtain ⟨e1, e2⟩ := sh_some2 h
    exact e2 ▸ hF
  rw [if_neg c19] at h
  by_cases c20 : a1 = 4
  · rw [if_pos c20] at h
    obtain ⟨e1, e2⟩ := sh_some2 h
    exact e2 ▸ hF
  rw [if_neg c20] at h
  by_cases c21 : a1 = 5
  · rw [if_pos c21] at h
    obtain ⟨e1, e2⟩ := sh_some2 h
    exact e2 ▸ hF
  rw [if_neg c21] at h
  by_cases c22 : a1 = 6
  · rw [if_pos c22] at h
    obtain ⟨e1, e2⟩ := sh_some2 h
    exact e2 ▸ hF
  rw [if_neg c22] at h
  by_cases c23 : a1 = 7
  · rw [if_pos c23] at h
    obtain ⟨y26, μ24, hr25, h⟩ := sh_bind_e h
    have hG24 := gp_X12_cellOf hG hr25
    have hF24 := hF.trans (fp_X12_cellOf hG hr25)
    obtain ⟨e1, e2⟩ := sh_some2 h
    exact e2 ▸ hF24
  rw [if_neg c23] at h
  obtain ⟨y29, μ27, hr28, h⟩ := sh_bind_e h
  have hG27 := gp_X12_cellOf hG hr28
  have hF27 := hF.trans (fp_X12_cellOf hG hr28)
  obtain ⟨e1, e2⟩ := sh_some2 h
  exact e2 ▸ hF27
theorem fp_X12_qOf {a1 : Int32} {a2 : Int64} {a3 : Int32} {μ μ' : sh_Mem} {v : Int64} (hG : sh_G μ) (h : f_X12_qOf a1 a2 a3 μ = some (v, μ')) : sh_offX μ μ' := by
  have hF : sh_offX μ μ := sh_offX.rf
  unfold f_X12_qOf at h
  by_cases c1 : a1 = 0
  · rw [if_pos c1] at h
    obtain ⟨y4, μ2, hr3, h⟩ := sh_bind_e h
    have hG2 := gp_X12_isTopic hG hr3
    have hF2 := hF.trans (fp_X12_isTopic hG hr3)
    by_cases c5 : y4 = 0
    · rw [if_pos c5] at h
      obtain ⟨e1, e2⟩ := sh_some2 h
      exact e2 ▸ hF2
    · rw [if_neg c5] at h
      obtain ⟨y8, μ6, hr7, h⟩ := sh_bind_e h
      have hG6 := gp_X12_knowsOf hG2 hr7
      have hF6 := hF2.trans (fp_X12_knowsOf hG2 hr7)
      by_cases c9 : ((y8 >>> ((a2).toInt32 &&& 31)) &&& 1) = 1
      · rw [if_pos c9] at h
        obtain ⟨e1, e2⟩ := sh_some2 h
        exact e2 ▸ hF6
      · rw [if_neg c9] at h
        obtain ⟨e1, e2⟩ := sh_some2 h
        exact e2 ▸ hF6
  rw [if_neg c1] at h
  obtain ⟨y12, μ10, hr11, h⟩ := sh_bind_e h
  have hG10 := gp_X12_isTopic hG hr11
  have hF10 := hF.trans (fp_X12_isTopic hG hr11)
  by_cases c13 : y12 = 0
  · rw [if_pos c13] at h
    obtain ⟨e1, e2⟩ := sh_some2 h
    exact e2 ▸ hF10
  · rw [if_neg c13] at h
    obtain ⟨k14, h⟩ := sh_chk h
    obtain ⟨e1, e2⟩ := sh_some2 h
    exact e2 ▸ hF10
theorem fpl_X12_qTold (fuel : Nat) : (∀ ⦃i1 : Int32⦄ ⦃i2 : Int32⦄ ⦃μ μ' : sh_Mem⦄ ⦃v : Int64⦄, sh_G μ → F_X12_qTold fuel 1 i1 i2 μ = some (v, μ') → sh_offX μ μ') := by
  induction fuel with
  | zero => intro i1 i2 μ μ' v hG h; cases h
  | succ fuel ih =>
    have ih_7 := ih
    intro i1 i2 μ μ' v hG h
    replace h : ((if (sh_i μ 291 103) ≤ i2 then some ((sh_l μ 366 (Int32.toNatClampNeg 0)), μ) else (if sh_in i2 1700 then sh_let ((sh_i μ 364 i2.toNatClampNeg) : Int32) (fun x36 => (if x36 < 1000 then (if x36 < 60 then (if x36 < 40 then (if x36 = 13 then sh_bindv (f_X12_qPuts 1 μ) (fun μ48 => F_X12_qTold fuel 1 i1 (i2 + 1) μ48) else (if x36 = 12 then (if sh_in ((sh_i μ 291 109) - 1) 1700 then (if sh_in ((sh_i μ 291 109) - 1) 1700 then sh_let (sh_setL μ 366 (((sh_i μ 291 109) - 1)).toNatClampNeg (1 - (sh_l μ 366 (((sh_i μ 291 109) - 1)).toNatClampNeg))) (fun μ47 => F_X12_qTold fuel 1 i1 (i2 + 1) μ47) else none) else none) else sh_bindv (f_X12_qJoins x36 μ) (fun μ42 => F_X12_qTold fuel 1 i1 (i2 + 1) μ42))) else sh_bind (f_X12_qPartOf (x36 - 40) i1 μ) (fun y53 μ51 => sh_bindv (f_X12_qPuts (f_X12_qClip μ51 y53) μ51) (fun μ54 => F_X12_qTold fuel 1 i1 (i2 + 1) μ54))) else (if sh_in ((sh_i μ 291 109) - 1) 1700 then sh_bind (f_X12_qOf (x36 - 60) (sh_l μ 366 (((sh_i μ 291 109) - 1)).toNatClampNeg) i1 μ) (fun y60 μ58 => (if sh_in ((sh_i μ 291 109) - 1) 1700 then sh_let (sh_setL μ58 366 (((sh_i μ 291 109) - 1)).toNatClampNeg (f_X12_qClip μ58 y60)) (fun μ62 => F_X12_qTold fuel 1 i1 (i2 + 1) μ62) else none)) else none)) else sh_bindv (f_X12_qPuts ((x36 - 1000)).toInt64 μ) (fun μ63 => F_X12_qTold fuel 1 i1 (i2 + 1) μ63))) else none)) : Option (Int64 × sh_Mem)) = some (v, μ') := h
    have hF : sh_offX μ μ := sh_offX.rf
    by_cases c34 : (sh_i μ 291 103) ≤ i2
    · rw [if_pos c34] at h
      obtain ⟨e1, e2⟩ := sh_some2 h
      exact e2 ▸ hF
    · rw [if_neg c34] at h
      obtain ⟨k35, h⟩ := sh_chk h
      obtain ⟨x36, ex36⟩ : ∃ y : Int32, y = (sh_i μ 364 i2.toNatClampNeg) := ⟨_, rfl⟩
      rw [sh_let_eq ex36] at h
      by_cases c37 : x36 < 1000
      · rw [if_pos c37] at h
        by_cases c38 : x36 < 60
        · rw [if_pos c38] at h
          by_cases c39 : x36 < 40
          · rw [if_pos c39] at h
            by_cases c40 : x36 = 13
            · rw [if_pos c40] at h
              obtain ⟨μ48, hr49, h⟩ := sh_bindv_e h
              have hG48 := gp_X12_qPuts hG hr49
              have hF48 := hF.trans (fp_X12_qPuts hG hr49)
              exact hF48.trans (ih_7 hG48 h)
            · rw [if_neg c40] at h
              by_cases c41 : x36 = 12
              · rw [if_pos c41] at h
                obtain ⟨k45, h⟩ := sh_chk h
                obtain ⟨k46, h⟩ := sh_chk h
                obtain ⟨μ47, eμ47⟩ : ∃ y : sh_Mem, y = (sh_setL μ 366 (((sh_i μ 291 109) - 1)).toNatClampNeg (1 - (sh_l μ 366 (((sh_i μ 291 109) - 1)).toNatClampNeg))) := ⟨_, rfl⟩
                rw [sh_let_eq eμ47] at h
                have hG47 : sh_G μ47 := by rw [eμ47]; exact hG
                have hF47 : sh_offX μ μ47 := by rw [eμ47]; exact sh_offX_L hF (by decide)
                exact hF47.trans (ih_7 hG47 h)
              · rw [if_neg c41] at h
                obtain ⟨μ42, hr43, h⟩ := sh_bindv_e h
                have hG42 := gp_X12_qJoins hG hr43
                have hF42 := hF.trans (fp_X12_qJoins hG hr43)
                exact hF42.trans (ih_7 hG42 h)
          · rw [if_neg c39] at h
            obtain ⟨y53, μ51, hr52, h⟩ := sh_bind_e h
            have hG51 := gp_X12_qPartOf hG hr52
            have hF51 := hF.trans (fp_X12_qPartOf hG hr52)
            obtain ⟨μ54, hr55, h⟩ := sh_bindv_e h
            have hG54 := gp_X12_qPuts hG51 hr55
            have hF54 := hF51.trans (fp_X12_qPuts hG51 hr55)
            exact hF54.trans (ih_7 hG54 h)
        · rw [if_neg c38] at h
          obtain ⟨k57, h⟩ := sh_chk h
          obtain ⟨y60, μ58, hr59, h⟩ := sh_bind_e h
          have hG58 := gp_X12_qOf hG hr59
          have hF58 := hF.trans (fp_X12_qOf hG hr59)
          obtain ⟨k61, h⟩ := sh_chk h
          obtain ⟨μ62, eμ62⟩ : ∃ y : sh_Mem, y = (sh_setL μ58 366 (((sh_i μ 291 109) - 1)).toNatClampNeg (f_X12_qClip μ58 y60)) := ⟨_, rfl⟩
          rw [sh_let_eq eμ62] at h
          have hG62 : sh_G μ62 := by rw [eμ62]; exact hG58
          have hF62 : sh_offX μ μ62 := by rw [eμ62]; exact sh_offX_L hF58 (by decide)
          exact hF62.trans (ih_7 hG62 h)
      · rw [if_neg c37] at h
        obtain ⟨μ63, hr64, h⟩ := sh_bindv_e h
        have hG63 := gp_X12_qPuts hG hr64
        have hF63 := hF.trans (fp_X12_qPuts hG hr64)
        exact hF63.trans (ih_7 hG63 h)
theorem fp_X12_qTold {a1 : Int32} {μ μ' : sh_Mem} {v : Int64} (hG : sh_G μ) (h : f_X12_qTold a1 μ = some (v, μ')) : sh_offX μ μ' := by
  have ih_7 := (fpl_X12_qTold sh_fuel)
  have hF : sh_offX μ μ := sh_offX.rf
  unfold f_X12_qTold at h
  obtain ⟨μ66, eμ66⟩ : ∃ y : sh_Mem, y = (sh_setI μ 291 109 0) := ⟨_, rfl⟩
  rw [sh_let_eq eμ66] at h
  have hG66 : sh_G μ66 := by rw [eμ66]; exact hG
  have hF66 : sh_offX μ μ66 := by rw [eμ66]; exact sh_offX_I hF (by decide)
  exact hF66.trans (ih_7 hG66 h)
theorem fp_X12_qKind {μ μ' : sh_Mem} {v : Int32} (hG : sh_G μ) (h : f_X12_qKind μ = some (v, μ')) : sh_offX μ μ' := by
  have hF : sh_offX μ μ := sh_offX.rf
  unfold f_X12_qKind at h
  obtain ⟨y3, μ1, hr2, h⟩ := sh_bind_e h
  have hG1 := gp_X12_takes hG (sh_LAYat_341) hr2
  have hF1 := hF.trans (fp_X12_takes hG (sh_LAYat_341) (by decide) hr2)
  by_cases c4 : y3 = 0
  · rw [if_pos c4] at h
    obtain ⟨y7, μ5, hr6, h⟩ := sh_bind_e h
    have hG5 := gp_X12_takes hG1 (sh_LAYat_342) hr6
    have hF5 := hF1.trans (fp_X12_takes hG1 (sh_LAYat_342) (by decide) hr6)
    by_cases c8 : y7 = 0
    · rw [if_pos c8] at h
      obtain ⟨y11, μ9, hr10, h⟩ := sh_bind_e h
      have hG9 := gp_X12_takes hG5 (sh_LAYat_343) hr10
      have hF9 := hF5.trans (fp_X12_takes hG5 (sh_LAYat_343) (by decide) hr10)
      by_cases c12 : y11 = 0
      · rw [if_pos c12] at h
        obtain ⟨y15, μ13, hr14, h⟩ := sh_bind_e h
        have hG13 := gp_X12_takes hG9 (sh_LAYat_344) hr14
        have hF13 := hF9.trans (fp_X12_takes hG9 (sh_LAYat_344) (by decide) hr14)
        by_cases c16 : y15 = 0
        · rw [if_pos c16] at h
          obtain ⟨y19, μ17, hr18, h⟩ := sh_bind_e h
          have hG17 := gp_X12_takes hG13 (sh_LAYat_345) hr18
          have hF17 := hF13.trans (fp_X12_takes hG13 (sh_LAYat_345) (by decide) hr18)
          by_cases c20 : y19 = 0
          · rw [if_pos c20] at h
            obtain ⟨μ21, hr22, h⟩ := sh_bindv_e h
            have hG21 := gp_X12_needs hG17 (sh_LAYat_346) hr22
            have hF21 := hF17.trans (fp_X12_needs hG17 (sh_LAYat_346) (by decide) hr22)
            obtain ⟨e1, e2⟩ := sh_some2 h
            exact e2 ▸ hF21
          · rw [if_neg c20] at h
            obtain ⟨e1, e2⟩ := sh_some2 h
            exact e2 ▸ hF17
        · rw [if_neg c16] at h
          obtain ⟨e1, e2⟩ := sh_some2 h
          exact e2 ▸ hF13
      · rw [if_neg c12] at h
        obtain ⟨e1, e2⟩ := sh_some2 h
        exact e2 ▸ hF9
    · rw [if_neg c8] at h
      obtain ⟨e1, e2⟩ := sh_some2 h
      exact e2 ▸ hF5
  · rw [if_neg c4] at h
    obtain ⟨e1, e2⟩ := sh_some2 h
    exact e2 ▸ hF1
theorem fpl_X12_qTakes (fuel : Nat) : (∀ ⦃i1 : Int32⦄ ⦃l2 : Int64⦄ ⦃i4 : Int32⦄ ⦃i5 : Int32⦄ ⦃μ μ' : sh_Mem⦄, sh_G μ → F_X12_qTakes fuel 1 i1 l2 i4 i5 μ = some μ' → sh_offX μ μ') ∧ (∀ ⦃i1 : Int32⦄ ⦃l2 : Int64⦄ ⦃i4 : Int32⦄ ⦃i5 : Int32⦄ ⦃μ μ' : sh_Mem⦄, sh_G μ → F_X12_qTakes fuel 2 i1 l2 i4 i5 μ = some μ' → sh_offX μ μ') ∧ (∀ ⦃i1 : Int32⦄ ⦃l2 : Int64⦄ ⦃i4 : Int32⦄ ⦃i5 : Int32⦄ ⦃μ μ' : sh_Mem⦄, sh_G μ → F_X12_qTakes fuel 3 i1 l2 i4 i5 μ = some μ' → sh_offX μ μ') ∧ (∀ ⦃i1 : Int32⦄ ⦃l2 : Int64⦄ ⦃i4 : Int32⦄ ⦃i5 : Int32⦄ ⦃μ μ' : sh_Mem⦄, sh_G μ → F_X12_qTakes fuel 4 i1 l2 i4 i5 μ = some μ' → sh_offX μ μ') ∧ (∀ ⦃i1 : Int32⦄ ⦃l2 : Int64⦄ ⦃i4 : Int32⦄ ⦃i5 : Int32⦄ ⦃μ μ' : sh_Mem⦄, sh_G μ → F_X12_qTakes fuel 5 i1 l2 i4 i5 μ = some μ' → sh_offX μ μ') ∧ (∀ ⦃i1 : Int32⦄ ⦃l2 : Int64⦄ ⦃i4 : Int32⦄ ⦃i5 : Int32⦄ ⦃μ μ' : sh_Mem⦄, sh_G μ → F_X12_qTakes fuel 6 i1 l2 i4 i5 μ = some μ' → sh_offX μ μ') ∧ (∀ ⦃i1 : Int32⦄ ⦃l2 : Int64⦄ ⦃i4 : Int32⦄ ⦃i5 : Int32⦄ ⦃μ μ' : sh_Mem⦄, sh_G μ → F_X12_qTakes fuel 7 i1 l2 i4 i5 μ = some μ' → sh_offX μ μ') ∧ (∀ ⦃i1 : Int32⦄ ⦃l2 : Int64⦄ ⦃i4 : Int32⦄ ⦃i5 : Int32⦄ ⦃μ μ' : sh_Mem⦄, sh_G μ → F_X12_qTakes fuel 8 i1 l2 i4 i5 μ = some μ' → sh_offX μ μ') := by
  induction fuel with
  | zero => exact ⟨(by intro i1 l2 i4 i5 μ μ' hG h; cases h), (by intro i1 l2 i4 i5 μ μ' hG h; cases h), (by intro i1 l2 i4 i5 μ μ' hG h; cases h), (by intro i1 l2 i4 i5 μ μ' hG h; cases h), (by intro i1 l2 i4 i5 μ μ' hG h; cases h), (by intro i1 l2 i4 i5 μ μ' hG h; cases h), (by intro i1 l2 i4 i5 μ μ' hG h; cases h), (by intro i1 l2 i4 i5 μ μ' hG h; cases h)⟩
  | succ fuel ih =>
    obtain ⟨ih_15, ih_38, ih_48, ih_55, ih_75, ih_90, ih_128, ih_133⟩ := ih
    refine ⟨?_, ?_, ?_, ?_, ?_, ?_, ?_, ?_⟩
    · intro i1 l2 i4 i5 μ μ' hG h
      replace h : ((if i1 = 0 then F_X12_qTakes fuel 2 i1 l2 i4 0 μ else F_X12_qTakes fuel 2 i1 l2 i4 0 μ) : Option sh_Mem) = some μ' := h
      have hF : sh_offX μ μ := sh_offX.rf
      by_cases c37 : i1 = 0
      · rw [if_pos c37] at h
        exact hF.trans (ih_38 hG h)
      · rw [if_neg c37] at h
        exact hF.trans (ih_38 hG h)
    · intro i1 l2 i4 i5 μ μ' hG h
      replace h : ((if i1 = 1 then (if i5 = 0 then F_X12_qTakes fuel 4 i1 l2 i4 i5 μ else F_X12_qTakes fuel 3 i1 l2 i4 i5 μ) else F_X12_qTakes fuel 4 i1 l2 i4 i5 μ) : Option sh_Mem) = some μ' := h
      have hF : sh_offX μ μ := sh_offX.rf
      by_cases c38 : i1 = 1
      · rw [if_pos c38] at h
        by_cases c39 : i5 = 0
        · rw [if_pos c39] at h
          exact hF.trans (ih_55 hG h)
        · rw [if_neg c39] at h
          exact hF.trans (ih_48 hG h)
      · rw [if_neg c38] at h
        exact hF.trans (ih_55 hG h)
    · intro i1 l2 i4 i5 μ μ' hG h
      replace h : (sh_let (sh_setL μ 291 110 (i4).toInt64) (fun μ40 => F_X12_qTakes fuel 4 i1 l2 i4 i5 μ40) : Option sh_Mem) = some μ' := h
      have hF : sh_offX μ μ := sh_offX.rf
      obtain ⟨μ40, eμ40⟩ : ∃ y : sh_Mem, y = (sh_setL μ 291 110 (i4).toInt64) := ⟨_, rfl⟩
      rw [sh_let_eq eμ40] at h
      have hG40 : sh_G μ40 := by rw [eμ40]; exact hG
      have hF40 : sh_offX μ μ40 := by rw [eμ40]; exact sh_offX_L hF (by decide)
      exact hF40.trans (ih_55 hG40 h)
    · intro i1 l2 i4 i5 μ μ' hG h
      replace h : ((if i1 = 2 then (if i5 = 0 then F_X12_qTakes fuel 5 i1 l2 i4 i5 μ else sh_let (sh_setL μ 291 110 ((sh_l μ 291 110) + 1)) (fun μ43 => F_X12_qTakes fuel 5 i1 l2 i4 i5 μ43)) else F_X12_qTakes fuel 5 i1 l2 i4 i5 μ) : Option sh_Mem) = some μ' := h
      have hF : sh_offX μ μ := sh_offX.rf
      by_cases c41 : i1 = 2
      · rw [if_pos c41] at h
        by_cases c42 : i5 = 0
        · rw [if_pos c42] at h
          exact hF.trans (ih_75 hG h)
        · rw [if_neg c42] at h
          obtain ⟨μ43, eμ43⟩ : ∃ y : sh_Mem, y = (sh_setL μ 291 110 ((sh_l μ 291 110) + 1)) := ⟨_, rfl⟩
          rw [sh_let_eq eμ43] at h
          have hG43 : sh_G μ43 := by rw [eμ43]; exact hG
          have hF43 : sh_offX μ μ43 := by rw [eμ43]; exact sh_offX_L hF (by decide)
          exact hF43.trans (ih_75 hG43 h)
      · rw [if_neg c41] at h
        exact hF.trans (ih_75 hG h)
    · intro i1 l2 i4 i5 μ μ' hG h
      replace h : ((if i1 = 3 then sh_let (sh_setL μ 291 110 ((sh_l μ 291 110) + l2)) (fun μ45 => F_X12_qTakes fuel 6 i1 l2 i4 i5 μ45) else F_X12_qTakes fuel 6 i1 l2 i4 i5 μ) : Option sh_Mem) = some μ' := h
      have hF : sh_offX μ μ := sh_offX.rf
      by_cases c44 : i1 = 3
      · rw [if_pos c44] at h
        obtain ⟨μ45, eμ45⟩ : ∃ y : sh_Mem, y = (sh_setL μ 291 110 ((sh_l μ 291 110) + l2)) := ⟨_, rfl⟩
        rw [sh_let_eq eμ45] at h
        have hG45 : sh_G μ45 := by rw [eμ45]; exact hG
        have hF45 : sh_offX μ μ45 := by rw [eμ45]; exact sh_offX_L hF (by decide)
        exact hF45.trans (ih_90 hG45 h)
      · rw [if_neg c44] at h
        exact hF.trans (ih_90 hG h)
    · intro i1 l2 i4 i5 μ μ' hG h
      replace h : ((if i1 ≤ 3 then F_X12_qTakes fuel 8 i1 l2 i4 i5 μ else (if (sh_i μ 291 111) = 0 then (if i1 = 4 then (if (lg_cmp l2 (sh_l μ 291 110)) ≤ 0 then F_X12_qTakes fuel 8 i1 l2 i4 i5 μ else F_X12_qTakes fuel 7 i1 l2 i4 i5 μ) else (if 0 ≤ (lg_cmp l2 (sh_l μ 291 110)) then F_X12_qTakes fuel 8 i1 l2 i4 i5 μ else F_X12_qTakes fuel 7 i1 l2 i4 i5 μ)) else F_X12_qTakes fuel 7 i1 l2 i4 i5 μ)) : Option sh_Mem) = some μ' := h
      have hF : sh_offX μ μ := sh_offX.rf
      by_cases c46 : i1 ≤ 3
      · rw [if_pos c46] at h
        exact hF.trans (ih_133 hG h)
      · rw [if_neg c46] at h
        by_cases c47 : (sh_i μ 291 111) = 0
        · rw [if_pos c47] at h
          by_cases c48 : i1 = 4
          · rw [if_pos c48] at h
            by_cases c50 : (lg_cmp l2 (sh_l μ 291 110)) ≤ 0
            · rw [if_pos c50] at h
              exact hF.trans (ih_133 hG h)
            · rw [if_neg c50] at h
              exact hF.trans (ih_128 hG h)
          · rw [if_neg c48] at h
            by_cases c49 : 0 ≤ (lg_cmp l2 (sh_l μ 291 110))
            · rw [if_pos c49] at h
              exact hF.trans (ih_133 hG h)
            · rw [if_neg c49] at h
              exact hF.trans (ih_128 hG h)
        · rw [if_neg c47] at h
          exact hF.trans (ih_128 hG h)
    · intro i1 l2 i4 i5 μ μ' hG h
      replace h : (sh_let (sh_setL μ 291 110 l2) (fun μ51 => F_X12_qTakes fuel 8 i1 l2 i4 i5 μ51) : Option sh_Mem) = some μ' := h
      have hF : sh_offX μ μ := sh_offX.rf
      obtain ⟨μ51, eμ51⟩ : ∃ y : sh_Mem, y = (sh_setL μ 291 110 l2) := ⟨_, rfl⟩
      rw [sh_let_eq eμ51] at h
      have hG51 : sh_G μ51 := by rw [eμ51]; exact hG
      have hF51 : sh_offX μ μ51 := by rw [eμ51]; exact sh_offX_L hF (by decide)
      exact hF51.trans (ih_133 hG51 h)
    · intro i1 l2 i4 i5 μ μ' hG h
      replace h : (sh_let (sh_setI μ 291 111 0) (fun μ52 => some μ52) : Option sh_Mem) = some μ' := h
      have hF : sh_offX μ μ := sh_offX.rf
      obtain ⟨μ52, eμ52⟩ : ∃ y : sh_Mem, y = (sh_setI μ 291 111 0) := ⟨_, rfl⟩
      rw [sh_let_eq eμ52] at h
      have hG52 : sh_G μ52 := by rw [eμ52]; exact hG
      have hF52 : sh_offX μ μ52 := by rw [eμ52]; exact sh_offX_I hF (by decide)
      have e2 := Option.some.inj h
      exact e2 ▸ hF52
theorem fp_X12_qTakes {a1 : Int32} {a2 : Int64} {a3 : Int32} {μ μ' : sh_Mem} (hG : sh_G μ) (h : f_X12_qTakes a1 a2 a3 μ = some μ') : sh_offX μ μ' := by
  have ih_15 := (fpl_X12_qTakes sh_fuel).1
  have ih_38 := (fpl_X12_qTakes sh_fuel).2.1
  have ih_48 := (fpl_X12_qTakes sh_fuel).2.2.1
  have ih_55 := (fpl_X12_qTakes sh_fuel).2.2.2.1
  have ih_75 := (fpl_X12_qTakes sh_fuel).2.2.2.2.1
  have ih_90 := (fpl_X12_qTakes sh_fuel).2.2.2.2.2.1
  have ih_128 := (fpl_X12_qTakes sh_fuel).2.2.2.2.2.2.1
  have ih_133 := (fpl_X12_qTakes sh_fuel).2.2.2.2.2.2.2
  have hF : sh_offX μ μ := sh_offX.rf
  unfold f_X12_qTakes at h
  by_cases c53 : 3 ≤ a1
  · rw [if_pos c53] at h
    exact hF.trans (ih_15 hG h)
  · rw [if_neg c53] at h
    by_cases c54 : (lg_cmp a2 1) = 0
    · rw [if_pos c54] at h
      by_cases c55 : a1 = 0
      · rw [if_pos c55] at h
        by_cases c56 : (lg_cmp (sh_l μ 291 110) (-1)) = 0
        · rw [if_pos c56] at h
          exact hF.trans (ih_48 hG h)
        · rw [if_neg c56] at h
          exact hF.trans (ih_38 hG h)
      · rw [if_neg c55] at h
        exact hF.trans (ih_38 hG h)
    · rw [if_neg c54] at h
      exact hF.trans (ih_15 hG h)
theorem fpl_X12_checked (fuel : Nat) : (∀ ⦃n : Nat⦄ ⦃r0 : Nat⦄ ⦃i1 : Int32⦄ ⦃i2 : Int32⦄ ⦃i3 : Int32⦄ ⦃μ μ' : sh_Mem⦄ ⦃v : Int32⦄, sh_G μ → sh_LAY[r0]? = some (13, n) → 291 ≤ r0 → F_X12_checked fuel 1 n r0 i1 i2 i3 μ = some (v, μ') → sh_offX μ μ') := by
  induction fuel with
  | zero => intro n r0 i1 i2 i3 μ μ' v hG hr0 hr0l h; cases h
  | succ fuel ih =>
    have ih_6 := ih
    intro n r0 i1 i2 i3 μ μ' v hG hr0 hr0l h
    replace h : ((if i1 ≤ i3 then some (i2, μ) else (if sh_in i3 n then sh_let ((((3 * i2) + (sh_i μ r0 i3.toNatClampNeg)) - ((3 * i2) + (sh_i μ r0 i3.toNatClampNeg)) / 251 * 251) : Int32) (fun x6 => F_X12_checked fuel 1 n r0 i1 x6 (i3 + 1) μ) else none)) : Option (Int32 × sh_Mem)) = some (v, μ') := h
    have hF : sh_offX μ μ := sh_offX.rf
    by_cases c4 : i1 ≤ i3
    · rw [if_pos c4] at h
      obtain ⟨e1, e2⟩ := sh_some2 h
      exact e2 ▸ hF
    · rw [if_neg c4] at h
      obtain ⟨k5, h⟩ := sh_chk h
      obtain ⟨x6, ex6⟩ : ∃ y : Int32, y = (((3 * i2) + (sh_i μ r0 i3.toNatClampNeg)) - ((3 * i2) + (sh_i μ r0 i3.toNatClampNeg)) / 251 * 251) := ⟨_, rfl⟩
      rw [sh_let_eq ex6] at h
      exact hF.trans (ih_6 hG hr0 hr0l h)
theorem fp_X12_checked {g : Nat} {n : Nat} {a2 : Int32} {μ μ' : sh_Mem} {v : Int32} (hG : sh_G μ) (hg : sh_LAY[g]? = some (13, n)) (hgl : 291 ≤ g) (h : f_X12_checked g n a2 μ = some (v, μ')) : sh_offX μ μ' := by
  have ih_6 := (fpl_X12_checked sh_fuel)
  have hF : sh_offX μ μ := sh_offX.rf
  unfold f_X12_checked at h
  exact hF.trans (ih_6 hG hg hgl h)
theorem fp_X12_writes {a1 : Int32} {μ μ' : sh_Mem} (hG : sh_G μ) (h : f_X12_writes a1 μ = some μ') : sh_offX μ μ' := by
  have hF : sh_offX μ μ := sh_offX.rf
  unfold f_X12_writes at h
  obtain ⟨k1, h⟩ := sh_chk h
  obtain ⟨μ2, eμ2⟩ : ∃ y : sh_Mem, y = (sh_setI μ 367 ((sh_i μ 291 113)).toNatClampNeg a1) := ⟨_, rfl⟩
  rw [sh_let_eq eμ2] at h
  have hG2 : sh_G μ2 := by rw [eμ2]; exact hG
  have hF2 : sh_offX μ μ2 := by rw [eμ2]; exact sh_offX_I hF (by decide)
  obtain ⟨μ3, eμ3⟩ : ∃ y : sh_Mem, y = (sh_setI μ2 291 113 ((sh_i μ2 291 113) + 1)) := ⟨_, rfl⟩
  rw [sh_let_eq eμ3] at h
  have hG3 : sh_G μ3 := by rw [eμ3]; exact hG2
  have hF3 : sh_offX μ μ3 := by rw [eμ3]; exact sh_offX_I hF2 (by decide)
  have e2 := Option.some.inj h
  exact e2 ▸ hF3
theorem fpl_X12_image (fuel : Nat) : (∀ ⦃i1 : Int32⦄ ⦃μ μ' : sh_Mem⦄ ⦃v : Int32⦄, sh_G μ → F_X12_image fuel 1 i1 μ = some (v, μ') → sh_offX μ μ') ∧ (∀ ⦃i1 : Int32⦄ ⦃μ μ' : sh_Mem⦄ ⦃v : Int32⦄, sh_G μ → F_X12_image fuel 2 i1 μ = some (v, μ') → sh_offX μ μ') := by
  induction fuel with
  | zero => exact ⟨(by intro i1 μ μ' v hG h; cases h), (by intro i1 μ μ' v hG h; cases h)⟩
  | succ fuel ih =>
    obtain ⟨ih_35, ih_64⟩ := ih
    refine ⟨?_, ?_⟩
    · intro i1 μ μ' v hG h
      replace h : (sh_bind (f_X12_cellMany μ) (fun y104 μ102 => (if y104 ≤ i1 then F_X12_image fuel 2 0 μ102 else sh_bind (f_X12_cellOrder i1 μ102) (fun y108 μ106 => sh_bind (f_X12_heightOf y108 μ106) (fun y111 μ109 => sh_bindv (f_X12_writes y111 μ109) (fun μ112 => F_X12_image fuel 1 (i1 + 1) μ112))))) : Option (Int32 × sh_Mem)) = some (v, μ') := h
      have hF : sh_offX μ μ := sh_offX.rf
      obtain ⟨y104, μ102, hr103, h⟩ := sh_bind_e h
      have hG102 := gp_X12_cellMany hG hr103
      have hF102 := hF.trans (fp_X12_cellMany hG hr103)
      by_cases c105 : y104 ≤ i1
      · rw [if_pos c105] at h
        exact hF102.trans (ih_64 hG102 h)
      · rw [if_neg c105] at h
        obtain ⟨y108, μ106, hr107, h⟩ := sh_bind_e h
        have hG106 := gp_X12_cellOrder hG102 hr107
        have hF106 := hF102.trans (fp_X12_cellOrder hG102 hr107)
        obtain ⟨y111, μ109, hr110, h⟩ := sh_bind_e h
        have hG109 := gp_X12_heightOf hG106 hr110
        have hF109 := hF106.trans (fp_X12_heightOf hG106 hr110)
        obtain ⟨μ112, hr113, h⟩ := sh_bindv_e h
        have hG112 := gp_X12_writes hG109 hr113
        have hF112 := hF109.trans (fp_X12_writes hG109 hr113)
        exact hF112.trans (ih_35 hG112 h)
    · intro i1 μ μ' v hG h
      replace h : (sh_bind (f_X12_personMany μ) (fun y117 μ115 => (if y117 ≤ i1 then sh_bind (f_X12_checked 367 80 (sh_i μ115 291 113) μ115) (fun y121 μ119 => sh_bindv (f_X12_writes y121 μ119) (fun μ122 => some ((sh_i μ122 291 113), μ122))) else sh_bind (f_X12_cellOf i1 μ115) (fun y127 μ125 => sh_bindv (f_X12_writes (y127 - y127 / 7 * 7) μ125) (fun μ128 => sh_bind (f_X12_cellOf i1 μ128) (fun y133 μ131 => sh_bindv (f_X12_writes (y133 / 7) μ131) (fun μ134 => sh_bind (f_X12_tiredOf i1 μ134) (fun y139 μ137 => sh_bindv (f_X12_writes y139 μ137) (fun μ140 => sh_bind (f_X12_knowsOf i1 μ140) (fun y145 μ143 => sh_bindv (f_X12_writes y145 μ143) (fun μ146 => F_X12_image fuel 2 (i1 + 1) μ146)))))))))) : Option (Int32 × sh_Mem)) = some (v, μ') := h
      have hF : sh_offX μ μ := sh_offX.rf
      obtain ⟨y117, μ115, hr116, h⟩ := sh_bind_e h
      have hG115 := gp_X12_personMany hG hr116
      have hF115 := hF.trans (fp_X12_personMany hG hr116)
      by_cases c118 : y117 ≤ i1
      · rw [if_pos c118] at h
        obtain ⟨y121, μ119, hr120, h⟩ := sh_bind_e h
        have hG119 := gp_X12_checked hG115 (sh_LAYat_367) hr120
        have hF119 := hF115.trans (fp_X12_checked hG115 (sh_LAYat_367) (by decide) hr120)
        obtain ⟨μ122, hr123, h⟩ := sh_bindv_e h
        have hG122 := gp_X12_writes hG119 hr123
        have hF122 := hF119.trans (fp_X12_writes hG119 hr123)
        obtain ⟨e1, e2⟩ := sh_some2 h
        exact e2 ▸ hF122
      · rw [if_neg c118] at h
        obtain ⟨y127, μ125, hr126, h⟩ := sh_bind_e h
        have hG125 := gp_X12_cellOf hG115 hr126
        have hF125 := hF115.trans (fp_X12_cellOf hG115 hr126)
        obtain ⟨μ128, hr129, h⟩ := sh_bindv_e h
        have hG128 := gp_X12_writes hG125 hr129
        have hF128 := hF125.trans (fp_X12_writes hG125 hr129)
        obtain ⟨y133, μ131, hr132, h⟩ := sh_bind_e h
        have hG131 := gp_X12_cellOf hG128 hr132
        have hF131 := hF128.trans (fp_X12_cellOf hG128 hr132)
        obtain ⟨μ134, hr135, h⟩ := sh_bindv_e h
        have hG134 := gp_X12_writes hG131 hr135
        have hF134 := hF131.trans (fp_X12_writes hG131 hr135)
        obtain ⟨y139, μ137, hr138, h⟩ := sh_bind_e h
        have hG137 := gp_X12_tiredOf hG134 hr138
        have hF137 := hF134.trans (fp_X12_tiredOf hG134 hr138)
        obtain ⟨μ140, hr141, h⟩ := sh_bindv_e h
        have hG140 := gp_X12_writes hG137 hr141
        have hF140 := hF137.trans (fp_X12_writes hG137 hr141)
        obtain ⟨y145, μ143, hr144, h⟩ := sh_bind_e h
        have hG143 := gp_X12_knowsOf hG140 hr144
        have hF143 := hF140.trans (fp_X12_knowsOf hG140 hr144)
        obtain ⟨μ146, hr147, h⟩ := sh_bindv_e h
        have hG146 := gp_X12_writes hG143 hr147
        have hF146 := hF143.trans (fp_X12_writes hG143 hr147)
        exact hF146.trans (ih_64 hG146 h)
theorem fp_X12_image {μ μ' : sh_Mem} {v : Int32} (hG : sh_G μ) (h : f_X12_image μ = some (v, μ')) : sh_offX μ μ' := by
  have ih_35 := (fpl_X12_image sh_fuel).1
  have ih_64 := (fpl_X12_image sh_fuel).2
  have hF : sh_offX μ μ := sh_offX.rf
  unfold f_X12_image at h
  obtain ⟨μ149, eμ149⟩ : ∃ y : sh_Mem, y = (sh_setI μ 291 113 0) := ⟨_, rfl⟩
  rw [sh_let_eq eμ149] at h
  have hG149 : sh_G μ149 := by rw [eμ149]; exact hG
  have hF149 : sh_offX μ μ149 := by rw [eμ149]; exact sh_offX_I hF (by decide)
  obtain ⟨μ150, hr151, h⟩ := sh_bindv_e h
  have hG150 := gp_X12_writes hG149 hr151
  have hF150 := hF149.trans (fp_X12_writes hG149 hr151)
  obtain ⟨μ153, hr154, h⟩ := sh_bindv_e h
  have hG153 := gp_X12_writes hG150 hr154
  have hF153 := hF150.trans (fp_X12_writes hG150 hr154)
  exact hF153.trans (ih_35 hG153 h)
theorem fp_X12_octet {a1 : Int32} {μ μ' : sh_Mem} {v : Int32} (hG : sh_G μ) (h : f_X12_octet a1 μ = some (v, μ')) : sh_offX μ μ' := by
  have hF : sh_offX μ μ := sh_offX.rf
  unfold f_X12_octet at h
  by_cases c1 : a1 < 0
  · rw [if_pos c1] at h
    obtain ⟨e1, e2⟩ := sh_some2 h
    exact e2 ▸ hF
  · rw [if_neg c1] at h
    by_cases c2 : (sh_i μ 291 113) ≤ a1
    · rw [if_pos c2] at h
      obtain ⟨e1, e2⟩ := sh_some2 h
      exact e2 ▸ hF
    · rw [if_neg c2] at h
      obtain ⟨k3, h⟩ := sh_chk h
      obtain ⟨e1, e2⟩ := sh_some2 h
      exact e2 ▸ hF
theorem fpl_X12_isPersonTold (fuel : Nat) : (∀ ⦃i1 : Int32⦄ ⦃i2 : Int32⦄ ⦃i3 : Int32⦄ ⦃μ μ' : sh_Mem⦄ ⦃v : Int32⦄, sh_G μ → F_X12_isPersonTold fuel 1 i1 i2 i3 μ = some (v, μ') → sh_offX μ μ') := by
  induction fuel with
  | zero => intro i1 i2 i3 μ μ' v hG h; cases h
  | succ fuel ih =>
    have ih_56 := ih
    intro i1 i2 i3 μ μ' v hG h
    replace h : ((if i2 ≤ i3 then some (1, μ) else (if sh_in i3 1600 then (if sh_in i2 1600 then (if (sh_i μ 292 i3.toNatClampNeg) = (sh_i μ 292 i2.toNatClampNeg) then (if sh_in (i3 + 1) 1600 then (if sh_in (i2 + 1) 1600 then (if (sh_i μ 292 ((i3 + 1)).toNatClampNeg) = (sh_i μ 292 ((i2 + 1)).toNatClampNeg) then some (0, μ) else F_X12_isPersonTold fuel 1 i1 i2 (i3 + 4) μ) else none) else none) else F_X12_isPersonTold fuel 1 i1 i2 (i3 + 4) μ) else none) else none)) : Option (Int32 × sh_Mem)) = some (v, μ') := h
    have hF : sh_offX μ μ := sh_offX.rf
    by_cases c21 : i2 ≤ i3
    · rw [if_pos c21] at h
      obtain ⟨e1, e2⟩ := sh_some2 h
      exact e2 ▸ hF
    · rw [if_neg c21] at h
      obtain ⟨k22, h⟩ := sh_chk h
      obtain ⟨k23, h⟩ := sh_chk h
      by_cases c24 : (sh_i μ 292 i3.toNatClampNeg) = (sh_i μ 292 i2.toNatClampNeg)
      · rw [if_pos c24] at h
        obtain ⟨k25, h⟩ := sh_chk h
        obtain ⟨k26, h⟩ := sh_chk h
        by_cases c27 : (sh_i μ 292 ((i3 + 1)).toNatClampNeg) = (sh_i μ 292 ((i2 + 1)).toNatClampNeg)
        · rw [if_pos c27] at h
          obtain ⟨e1, e2⟩ := sh_some2 h
          exact e2 ▸ hF
        · rw [if_neg c27] at h
          exact hF.trans (ih_56 hG h)
      · rw [if_neg c24] at h
        exact hF.trans (ih_56 hG h)
theorem fp_X12_isPersonTold {a1 : Int32} {a2 : Int32} {μ μ' : sh_Mem} {v : Int32} (hG : sh_G μ) (h : f_X12_isPersonTold a1 a2 μ = some (v, μ')) : sh_offX μ μ' := by
  have ih_56 := (fpl_X12_isPersonTold sh_fuel)
  have hF : sh_offX μ μ := sh_offX.rf
  unfold f_X12_isPersonTold at h
  obtain ⟨k28, h⟩ := sh_chk h
  obtain ⟨k29, h⟩ := sh_chk h
  obtain ⟨y32, μ30, hr31, h⟩ := sh_bind_e h
  have hG30 := gp_X12_cellAt hG hr31
  have hF30 := hF.trans (fp_X12_cellAt hG hr31)
  by_cases c33 : y32 = (-1)
  · rw [if_pos c33] at h
    obtain ⟨e1, e2⟩ := sh_some2 h
    exact e2 ▸ hF30
  · rw [if_neg c33] at h
    obtain ⟨k34, h⟩ := sh_chk h
    by_cases c35 : 9 < (sh_i μ30 292 ((a2 + 2)).toNatClampNeg)
    · rw [if_pos c35] at h
      obtain ⟨e1, e2⟩ := sh_some2 h
      exact e2 ▸ hF30
    · rw [if_neg c35] at h
      obtain ⟨k36, h⟩ := sh_chk h
      obtain ⟨y39, μ37, hr38, h⟩ := sh_bind_e h
      have hG37 := gp_X12_topicMany hG30 hr38
      have hF37 := hF30.trans (fp_X12_topicMany hG30 hr38)
      by_cases c40 : (sh_i μ30 292 ((a2 + 3)).toNatClampNeg) < ((1 : Int32) <<< (y39 &&& 31))
      · rw [if_pos c40] at h
        exact hF37.trans (ih_56 hG37 h)
      · rw [if_neg c40] at h
        obtain ⟨e1, e2⟩ := sh_some2 h
        exact e2 ▸ hF37
theorem fpl_X12_isImage (fuel : Nat) : (∀ ⦃i1 : Int32⦄ ⦃i2 : Int32⦄ ⦃i3 : Int32⦄ ⦃μ μ' : sh_Mem⦄ ⦃v : Int32⦄, sh_G μ → F_X12_isImage fuel 1 i1 i2 i3 μ = some (v, μ') → sh_offX μ μ') ∧ (∀ ⦃i1 : Int32⦄ ⦃i2 : Int32⦄ ⦃i3 : Int32⦄ ⦃μ μ' : sh_Mem⦄ ⦃v : Int32⦄, sh_G μ → F_X12_isImage fuel 2 i1 i2 i3 μ = some (v, μ') → sh_offX μ μ') := by
  induction fuel with
  | zero => exact ⟨(by intro i1 i2 i3 μ μ' v hG h; cases h), (by intro i1 i2 i3 μ μ' v hG h; cases h)⟩
  | succ fuel ih =>
    obtain ⟨ih_76, ih_102⟩ := ih
    refine ⟨?_, ?_⟩
    · intro i1 i2 i3 μ μ' v hG h
      replace h : ((if i2 ≤ i3 then F_X12_isImage fuel 2 i1 i2 i2 μ else (if sh_in i3 1600 then (if (sh_i μ 292 i3.toNatClampNeg) ≤ 99 then F_X12_isImage fuel 1 i1 i2 (i3 + 1) μ else some (0, μ)) else none)) : Option (Int32 × sh_Mem)) = some (v, μ') := h
      have hF : sh_offX μ μ := sh_offX.rf
      by_cases c32 : i2 ≤ i3
      · rw [if_pos c32] at h
        exact hF.trans (ih_102 hG h)
      · rw [if_neg c32] at h
        obtain ⟨k33, h⟩ := sh_chk h
        by_cases c34 : (sh_i μ 292 i3.toNatClampNeg) ≤ 99
        · rw [if_pos c34] at h
          exact hF.trans (ih_76 hG h)
        · rw [if_neg c34] at h
          obtain ⟨e1, e2⟩ := sh_some2 h
          exact e2 ▸ hF
    · intro i1 i2 i3 μ μ' v hG h
      replace h : ((if (i1 - 1) ≤ i3 then some (1, μ) else sh_bind (f_X12_isPersonTold i2 i3 μ) (fun y38 μ36 => (if y38 = 0 then some (0, μ36) else F_X12_isImage fuel 2 i1 i2 (i3 + 4) μ36))) : Option (Int32 × sh_Mem)) = some (v, μ') := h
      have hF : sh_offX μ μ := sh_offX.rf
      by_cases c35 : (i1 - 1) ≤ i3
      · rw [if_pos c35] at h
        obtain ⟨e1, e2⟩ := sh_some2 h
        exact e2 ▸ hF
      · rw [if_neg c35] at h
        obtain ⟨y38, μ36, hr37, h⟩ := sh_bind_e h
        have hG36 := gp_X12_isPersonTold hG hr37
        have hF36 := hF.trans (fp_X12_isPersonTold hG hr37)
        by_cases c39 : y38 = 0
        · rw [if_pos c39] at h
          obtain ⟨e1, e2⟩ := sh_some2 h
          exact e2 ▸ hF36
        · rw [if_neg c39] at h
          exact hF36.trans (ih_102 hG36 h)
theorem fp_X12_isImage {a1 : Int32} {μ μ' : sh_Mem} {v : Int32} (hG : sh_G μ) (h : f_X12_isImage a1 μ = some (v, μ')) : sh_offX μ μ' := by
  have ih_76 := (fpl_X12_isImage sh_fuel).1
  have ih_102 := (fpl_X12_isImage sh_fuel).2
  have hF : sh_offX μ μ := sh_offX.rf
  unfold f_X12_isImage at h
  obtain ⟨y42, μ40, hr41, h⟩ := sh_bind_e h
  have hG40 := gp_X12_cellMany hG hr41
  have hF40 := hF.trans (fp_X12_cellMany hG hr41)
  obtain ⟨x43, ex43⟩ : ∃ y : Int32, y = (2 + y42) := ⟨_, rfl⟩
  rw [sh_let_eq ex43] at h
  by_cases c44 : (sh_i μ40 291 50) = 0
  · rw [if_pos c44] at h
    obtain ⟨e1, e2⟩ := sh_some2 h
    exact e2 ▸ hF40
  · rw [if_neg c44] at h
    obtain ⟨y47, μ45, hr46, h⟩ := sh_bind_e h
    have hG45 := gp_X12_personMany hG40 hr46
    have hF45 := hF40.trans (fp_X12_personMany hG40 hr46)
    by_cases c48 : a1 = ((x43 + (4 * y47)) + 1)
    · rw [if_pos c48] at h
      obtain ⟨k49, h⟩ := sh_chk h
      obtain ⟨y52, μ50, hr51, h⟩ := sh_bind_e h
      have hG50 := gp_X12_checked hG45 (sh_LAYat_292) hr51
      have hF50 := hF45.trans (fp_X12_checked hG45 (sh_LAYat_292) (by decide) hr51)
      by_cases c53 : (sh_i μ45 292 ((a1 - 1)).toNatClampNeg) = y52
      · rw [if_pos c53] at h
        by_cases c54 : ((256 * (sh_i μ50 292 (Int32.toNatClampNeg 0))) + (sh_i μ50 292 (Int32.toNatClampNeg 1))) ≤ 999
        · rw [if_pos c54] at h
          exact hF50.trans (ih_76 hG50 h)
        · rw [if_neg c54] at h
          obtain ⟨e1, e2⟩ := sh_some2 h
          exact e2 ▸ hF50
      · rw [if_neg c53] at h
        obtain ⟨e1, e2⟩ := sh_some2 h
        exact e2 ▸ hF50
    · rw [if_neg c48] at h
      obtain ⟨e1, e2⟩ := sh_some2 h
      exact e2 ▸ hF45
theorem fpl_X12_on (fuel : Nat) : (∀ ⦃i1 : Int32⦄ ⦃i2 : Int32⦄ ⦃i3 : Int32⦄ ⦃μ μ' : sh_Mem⦄ ⦃v : Int32⦄, sh_G μ → F_X12_on fuel 1 i1 i2 i3 μ = some (v, μ') → sh_offX μ μ') ∧ (∀ ⦃i1 : Int32⦄ ⦃i2 : Int32⦄ ⦃i3 : Int32⦄ ⦃μ μ' : sh_Mem⦄ ⦃v : Int32⦄, sh_G μ → F_X12_on fuel 2 i1 i2 i3 μ = some (v, μ') → sh_offX μ μ') := by
  induction fuel with
  | zero => exact ⟨(by intro i1 i2 i3 μ μ' v hG h; cases h), (by intro i1 i2 i3 μ μ' v hG h; cases h)⟩
  | succ fuel ih =>
    obtain ⟨ih_62, ih_98⟩ := ih
    refine ⟨?_, ?_⟩
    · intro i1 i2 i3 μ μ' v hG h
      replace h : (sh_bind (f_X12_cellMany μ) (fun y73 μ71 => (if y73 ≤ i3 then F_X12_on fuel 2 i1 i2 0 μ71 else sh_bind (f_X12_cellOrder i3 μ71) (fun y77 μ75 => (if sh_in (2 + i3) 1600 then (if sh_in (1 + y77) 232 then sh_let (sh_setI μ75 330 ((1 + y77)).toNatClampNeg (sh_i μ75 292 ((2 + i3)).toNatClampNeg)) (fun μ80 => F_X12_on fuel 1 i1 i2 (i3 + 1) μ80) else none) else none)))) : Option (Int32 × sh_Mem)) = some (v, μ') := h
      have hF : sh_offX μ μ := sh_offX.rf
      obtain ⟨y73, μ71, hr72, h⟩ := sh_bind_e h
      have hG71 := gp_X12_cellMany hG hr72
      have hF71 := hF.trans (fp_X12_cellMany hG hr72)
      by_cases c74 : y73 ≤ i3
      · rw [if_pos c74] at h
        exact hF71.trans (ih_98 hG71 h)
      · rw [if_neg c74] at h
        obtain ⟨y77, μ75, hr76, h⟩ := sh_bind_e h
        have hG75 := gp_X12_cellOrder hG71 hr76
        have hF75 := hF71.trans (fp_X12_cellOrder hG71 hr76)
        obtain ⟨k78, h⟩ := sh_chk h
        obtain ⟨k79, h⟩ := sh_chk h
        obtain ⟨μ80, eμ80⟩ : ∃ y : sh_Mem, y = (sh_setI μ75 330 ((1 + y77)).toNatClampNeg (sh_i μ75 292 ((2 + i3)).toNatClampNeg)) := ⟨_, rfl⟩
        rw [sh_let_eq eμ80] at h
        have hG80 : sh_G μ80 := by rw [eμ80]; exact hG75
        have hF80 : sh_offX μ μ80 := by rw [eμ80]; exact sh_offX_I hF75 (by decide)
        exact hF80.trans (ih_62 hG80 h)
    · intro i1 i2 i3 μ μ' v hG h
      replace h : (sh_bind (f_X12_personMany μ) (fun y83 μ81 => (if y83 ≤ i3 then sh_let (sh_setI μ81 330 (Int32.toNatClampNeg 71) 0) (fun μ85 => sh_let (sh_setI μ85 291 76 0) (fun μ86 => some (1, μ86))) else (if sh_in (i2 + (4 * i3)) 1600 then (if sh_in ((i2 + (4 * i3)) + 1) 1600 then sh_bind (f_X12_cellAt (sh_i μ81 292 ((i2 + (4 * i3))).toNatClampNeg) (sh_i μ81 292 (((i2 + (4 * i3)) + 1)).toNatClampNeg) μ81) (fun y91 μ89 => (if sh_in (50 + (3 * i3)) 232 then sh_let (sh_setI μ89 330 ((50 + (3 * i3))).toNatClampNeg y91) (fun μ93 => (if sh_in ((i2 + (4 * i3)) + 2) 1600 then (if sh_in (51 + (3 * i3)) 232 then sh_let (sh_setI μ93 330 ((51 + (3 * i3))).toNatClampNeg (sh_i μ93 292 (((i2 + (4 * i3)) + 2)).toNatClampNeg)) (fun μ96 => (if sh_in ((i2 + (4 * i3)) + 3) 1600 then (if sh_in (52 + (3 * i3)) 232 then sh_let (sh_setI μ96 330 ((52 + (3 * i3))).toNatClampNeg (sh_i μ96 292 (((i2 + (4 * i3)) + 3)).toNatClampNeg)) (fun μ99 => F_X12_on fuel 2 i1 i2 (i3 + 1) μ99) else none) else none)) else none) else none)) else none)) else none) else none))) : Option (Int32 × sh_Mem)) = some (v, μ') := h
      have hF : sh_offX μ μ := sh_offX.rf
      obtain ⟨y83, μ81, hr82, h⟩ := sh_bind_e h
      have hG81 := gp_X12_personMany hG hr82
      have hF81 := hF.trans (fp_X12_personMany hG hr82)
      by_cases c84 : y83 ≤ i3
      · rw [if_pos c84] at h
        obtain ⟨μ85, eμ85⟩ : ∃ y : sh_Mem, y = (sh_setI μ81 330 (Int32.toNatClampNeg 71) 0) := ⟨_, rfl⟩
        rw [sh_let_eq eμ85] at h
        have hG85 : sh_G μ85 := by rw [eμ85]; exact hG81
        have hF85 : sh_offX μ μ85 := by rw [eμ85]; exact sh_offX_I hF81 (by decide)
        obtain ⟨μ86, eμ86⟩ : ∃ y : sh_Mem, y = (sh_setI μ85 291 76 0) := ⟨_, rfl⟩
        rw [sh_let_eq eμ86] at h
        have hG86 : sh_G μ86 := by rw [eμ86]; exact hG85
        have hF86 : sh_offX μ μ86 := by rw [eμ86]; exact sh_offX_I hF85 (by decide)
        obtain ⟨e1, e2⟩ := sh_some2 h
        exact e2 ▸ hF86
      · rw [if_neg c84] at h
        obtain ⟨k87, h⟩ := sh_chk h
        obtain ⟨k88, h⟩ := sh_chk h
        obtain ⟨y91, μ89, hr90, h⟩ := sh_bind_e h
        have hG89 := gp_X12_cellAt hG81 hr90
        have hF89 := hF81.trans (fp_X12_cellAt hG81 hr90)
        obtain ⟨k92, h⟩ := sh_chk h
        obtain ⟨μ93, eμ93⟩ : ∃ y : sh_Mem, y = (sh_setI μ89 330 ((50 + (3 * i3))).toNatClampNeg y91) := ⟨_, rfl⟩
        rw [sh_let_eq eμ93] at h
        have hG93 : sh_G μ93 := by rw [eμ93]; exact hG89
        have hF93 : sh_offX μ μ93 := by rw [eμ93]; exact sh_offX_I hF89 (by decide)
        obtain ⟨k94, h⟩ := sh_chk h
        obtain ⟨k95, h⟩ := sh_chk h
        obtain ⟨μ96, eμ96⟩ : ∃ y : sh_Mem, y = (sh_setI μ93 330 ((51 + (3 * i3))).toNatClampNeg (sh_i μ93 292 (((i2 + (4 * i3)) + 2)).toNatClampNeg)) := ⟨_, rfl⟩
        rw [sh_let_eq eμ96] at h
        have hG96 : sh_G μ96 := by rw [eμ96]; exact hG93
        have hF96 : sh_offX μ μ96 := by rw [eμ96]; exact sh_offX_I hF93 (by decide)
        obtain ⟨k97, h⟩ := sh_chk h
        obtain ⟨k98, h⟩ := sh_chk h
        obtain ⟨μ99, eμ99⟩ : ∃ y : sh_Mem, y = (sh_setI μ96 330 ((52 + (3 * i3))).toNatClampNeg (sh_i μ96 292 (((i2 + (4 * i3)) + 3)).toNatClampNeg)) := ⟨_, rfl⟩
        rw [sh_let_eq eμ99] at h
        have hG99 : sh_G μ99 := by rw [eμ99]; exact hG96
        have hF99 : sh_offX μ μ99 := by rw [eμ99]; exact sh_offX_I hF96 (by decide)
        exact hF99.trans (ih_98 hG99 h)
theorem fp_X12_on {μ μ' : sh_Mem} {v : Int32} (hG : sh_G μ) (h : f_X12_on μ = some (v, μ')) : sh_offX μ μ' := by
  have ih_62 := (fpl_X12_on sh_fuel).1
  have ih_98 := (fpl_X12_on sh_fuel).2
  have hF : sh_offX μ μ := sh_offX.rf
  unfold f_X12_on at h
  obtain ⟨x100, ex100⟩ : ∃ y : Int32, y = (sh_i μ 291 1) := ⟨_, rfl⟩
  rw [sh_let_eq ex100] at h
  obtain ⟨μ101, eμ101⟩ : ∃ y : sh_Mem, y = (sh_setI μ 291 1 0) := ⟨_, rfl⟩
  rw [sh_let_eq eμ101] at h
  have hG101 : sh_G μ101 := by rw [eμ101]; exact hG
  have hF101 : sh_offX μ μ101 := by rw [eμ101]; exact sh_offX_I hF (by decide)
  obtain ⟨y104, μ102, hr103, h⟩ := sh_bind_e h
  have hG102 := gp_X12_isImage hG101 hr103
  have hF102 := hF101.trans (fp_X12_isImage hG101 hr103)
  by_cases c105 : y104 = 0
  · rw [if_pos c105] at h
    obtain ⟨μ111, eμ111⟩ : ∃ y : sh_Mem, y = (sh_setI μ102 293 (Int32.toNatClampNeg 5) ((sh_i μ102 293 (Int32.toNatClampNeg 5)) + 1)) := ⟨_, rfl⟩
    rw [sh_let_eq eμ111] at h
    have hG111 : sh_G μ111 := by rw [eμ111]; exact hG102
    have hF111 : sh_offX μ μ111 := by rw [eμ111]; exact sh_offX_I hF102 (by decide)
    obtain ⟨e1, e2⟩ := sh_some2 h
    exact e2 ▸ hF111
  · rw [if_neg c105] at h
    obtain ⟨y108, μ106, hr107, h⟩ := sh_bind_e h
    have hG106 := gp_X12_cellMany hG102 hr107
    have hF106 := hF102.trans (fp_X12_cellMany hG102 hr107)
    obtain ⟨x109, ex109⟩ : ∃ y : Int32, y = (2 + y108) := ⟨_, rfl⟩
    rw [sh_let_eq ex109] at h
    obtain ⟨μ110, eμ110⟩ : ∃ y : sh_Mem, y = (sh_setI μ106 330 (Int32.toNatClampNeg 0) ((256 * (sh_i μ106 292 (Int32.toNatClampNeg 0))) + (sh_i μ106 292 (Int32.toNatClampNeg 1)))) := ⟨_, rfl⟩
    rw [sh_let_eq eμ110] at h
    have hG110 : sh_G μ110 := by rw [eμ110]; exact hG106
    have hF110 : sh_offX μ μ110 := by rw [eμ110]; exact sh_offX_I hF106 (by decide)
    exact hF110.trans (ih_62 hG110 h)
theorem fp_X12_status {a1 : Int32} {μ μ' : sh_Mem} {v : Int32} (hG : sh_G μ) (h : f_X12_status a1 μ = some (v, μ')) : sh_offX μ μ' := by
  have hF : sh_offX μ μ := sh_offX.rf
  unfold f_X12_status at h
  by_cases c1 : (f_X12_isIn μ (a1).toInt64 0 5) = 0
  · rw [if_pos c1] at h
    obtain ⟨e1, e2⟩ := sh_some2 h
    exact e2 ▸ hF
  · rw [if_neg c1] at h
    obtain ⟨k2, h⟩ := sh_chk h
    obtain ⟨e1, e2⟩ := sh_some2 h
    exact e2 ▸ hF
theorem fpl_X12_codesTell (fuel : Nat) : (∀ ⦃i1 : Int32⦄ ⦃i2 : Int32⦄ ⦃μ μ' : sh_Mem⦄ ⦃v : Int64⦄, sh_G μ → F_X12_codesTell fuel 1 i1 i2 μ = some (v, μ') → sh_offX μ μ') := by
  induction fuel with
  | zero => intro i1 i2 μ μ' v hG h; cases h
  | succ fuel ih =>
    have ih_27 := ih
    intro i1 i2 μ μ' v hG h
    replace h : ((if sh_in (3 + i1) 6 then (if (sh_i μ 328 ((3 + i1)).toNatClampNeg) ≤ i2 then some ((sh_l μ 366 (Int32.toNatClampNeg 0)), μ) else (if sh_in (1600 + i2) 3200 then sh_let ((sh_i μ 329 ((1600 + i2)).toNatClampNeg) : Int32) (fun x39 => (if x39 < 1000 then (if x39 < 40 then (if x39 = 13 then sh_bindv (f_X12_qPuts 1 μ) (fun μ50 => F_X12_codesTell fuel 1 i1 (i2 + 1) μ50) else (if x39 = 12 then (if sh_in ((sh_i μ 291 109) - 1) 1700 then (if sh_in ((sh_i μ 291 109) - 1) 1700 then sh_let (sh_setL μ 366 (((sh_i μ 291 109) - 1)).toNatClampNeg (1 - (sh_l μ 366 (((sh_i μ 291 109) - 1)).toNatClampNeg))) (fun μ49 => F_X12_codesTell fuel 1 i1 (i2 + 1) μ49) else none) else none) else sh_bindv (f_X12_qJoins x39 μ) (fun μ44 => F_X12_codesTell fuel 1 i1 (i2 + 1) μ44))) else sh_bind (f_X12_qPartOf (x39 - 40) (sh_i μ 291 54) μ) (fun y55 μ53 => sh_bindv (f_X12_qPuts y55 μ53) (fun μ56 => F_X12_codesTell fuel 1 i1 (i2 + 1) μ56))) else sh_bindv (f_X12_qPuts ((x39 - 1000)).toInt64 μ) (fun μ59 => F_X12_codesTell fuel 1 i1 (i2 + 1) μ59))) else none)) else none) : Option (Int64 × sh_Mem)) = some (v, μ') := h
    have hF : sh_offX μ μ := sh_offX.rf
    obtain ⟨k36, h⟩ := sh_chk h
    by_cases c37 : (sh_i μ 328 ((3 + i1)).toNatClampNeg) ≤ i2
    · rw [if_pos c37] at h
      obtain ⟨e1, e2⟩ := sh_some2 h
      exact e2 ▸ hF
    · rw [if_neg c37] at h
      obtain ⟨k38, h⟩ := sh_chk h
      obtain ⟨x39, ex39⟩ : ∃ y : Int32, y = (sh_i μ 329 ((1600 + i2)).toNatClampNeg) := ⟨_, rfl⟩
      rw [sh_let_eq ex39] at h
      by_cases c40 : x39 < 1000
      · rw [if_pos c40] at h
        by_cases c41 : x39 < 40
        · rw [if_pos c41] at h
          by_cases c42 : x39 = 13
          · rw [if_pos c42] at h
            obtain ⟨μ50, hr51, h⟩ := sh_bindv_e h
            have hG50 := gp_X12_qPuts hG hr51
            have hF50 := hF.trans (fp_X12_qPuts hG hr51)
            exact hF50.trans (ih_27 hG50 h)
          · rw [if_neg c42] at h
            by_cases c43 : x39 = 12
            · rw [if_pos c43] at h
              obtain ⟨k47, h⟩ := sh_chk h
              obtain ⟨k48, h⟩ := sh_chk h
              obtain ⟨μ49, eμ49⟩ : ∃ y : sh_Mem, y = (sh_setL μ 366 (((sh_i μ 291 109) - 1)).toNatClampNeg (1 - (sh_l μ 366 (((sh_i μ 291 109) - 1)).toNatClampNeg))) := ⟨_, rfl⟩
              rw [sh_let_eq eμ49] at h
              have hG49 : sh_G μ49 := by rw [eμ49]; exact hG
              have hF49 : sh_offX μ μ49 := by rw [eμ49]; exact sh_offX_L hF (by decide)
              exact hF49.trans (ih_27 hG49 h)
            · rw [if_neg c43] at h
              obtain ⟨μ44, hr45, h⟩ := sh_bindv_e h
              have hG44 := gp_X12_qJoins hG hr45
              have hF44 := hF.trans (fp_X12_qJoins hG hr45)
              exact hF44.trans (ih_27 hG44 h)
        · rw [if_neg c41] at h
          obtain ⟨y55, μ53, hr54, h⟩ := sh_bind_e h
          have hG53 := gp_X12_qPartOf hG hr54
          have hF53 := hF.trans (fp_X12_qPartOf hG hr54)
          obtain ⟨μ56, hr57, h⟩ := sh_bindv_e h
          have hG56 := gp_X12_qPuts hG53 hr57
          have hF56 := hF53.trans (fp_X12_qPuts hG53 hr57)
          exact hF56.trans (ih_27 hG56 h)
      · rw [if_neg c40] at h
        obtain ⟨μ59, hr60, h⟩ := sh_bindv_e h
        have hG59 := gp_X12_qPuts hG hr60
        have hF59 := hF.trans (fp_X12_qPuts hG hr60)
        exact hF59.trans (ih_27 hG59 h)
theorem fp_X12_codesTell {a1 : Int32} {μ μ' : sh_Mem} {v : Int64} (hG : sh_G μ) (h : f_X12_codesTell a1 μ = some (v, μ')) : sh_offX μ μ' := by
  have ih_27 := (fpl_X12_codesTell sh_fuel)
  have hF : sh_offX μ μ := sh_offX.rf
  unfold f_X12_codesTell at h
  by_cases c62 : a1 = 0
  · rw [if_pos c62] at h
    obtain ⟨μ67, eμ67⟩ : ∃ y : sh_Mem, y = (sh_setI μ 291 51 1) := ⟨_, rfl⟩
    rw [sh_let_eq eμ67] at h
    have hG67 : sh_G μ67 := by rw [eμ67]; exact hG
    have hF67 : sh_offX μ μ67 := by rw [eμ67]; exact sh_offX_I hF (by decide)
    obtain ⟨μ68, eμ68⟩ : ∃ y : sh_Mem, y = (sh_setI μ67 291 109 0) := ⟨_, rfl⟩
    rw [sh_let_eq eμ68] at h
    have hG68 : sh_G μ68 := by rw [eμ68]; exact hG67
    have hF68 : sh_offX μ μ68 := by rw [eμ68]; exact sh_offX_I hF67 (by decide)
    obtain ⟨k69, h⟩ := sh_chk h
    obtain ⟨x70, ex70⟩ : ∃ y : Int32, y = (sh_i μ68 327 ((3 + a1)).toNatClampNeg) := ⟨_, rfl⟩
    rw [sh_let_eq ex70] at h
    exact hF68.trans (ih_27 hG68 h)
  · rw [if_neg c62] at h
    obtain ⟨μ63, eμ63⟩ : ∃ y : sh_Mem, y = (sh_setI μ 291 51 0) := ⟨_, rfl⟩
    rw [sh_let_eq eμ63] at h
    have hG63 : sh_G μ63 := by rw [eμ63]; exact hG
    have hF63 : sh_offX μ μ63 := by rw [eμ63]; exact sh_offX_I hF (by decide)
    obtain ⟨μ64, eμ64⟩ : ∃ y : sh_Mem, y = (sh_setI μ63 291 109 0) := ⟨_, rfl⟩
    rw [sh_let_eq eμ64] at h
    have hG64 : sh_G μ64 := by rw [eμ64]; exact hG63
    have hF64 : sh_offX μ μ64 := by rw [eμ64]; exact sh_offX_I hF63 (by decide)
    obtain ⟨k65, h⟩ := sh_chk h
    obtain ⟨x66, ex66⟩ : ∃ y : Int32, y = (sh_i μ64 327 ((3 + a1)).toNatClampNeg) := ⟨_, rfl⟩
    rw [sh_let_eq ex66] at h
    exact hF64.trans (ih_27 hG64 h)
theorem fp_X12_wouldDo {a1 : Int32} {a2 : Int32} {μ μ' : sh_Mem} {v : Int32} (hG : sh_G μ) (h : f_X12_wouldDo a1 a2 μ = some (v, μ')) : sh_offX μ μ' := by
  have hF : sh_offX μ μ := sh_offX.rf
  unfold f_X12_wouldDo at h
  obtain ⟨y3, μ1, hr2, h⟩ := sh_bind_e h
  have hG1 := gp_X12_knowsOf hG hr2
  have hF1 := hF.trans (fp_X12_knowsOf hG hr2)
  by_cases c4 : ((y3 >>> (a2 &&& 31)) &&& 1) = 1
  · rw [if_pos c4] at h
    obtain ⟨e1, e2⟩ := sh_some2 h
    exact e2 ▸ hF1
  · rw [if_neg c4] at h
    obtain ⟨μ5, eμ5⟩ : ∃ y : sh_Mem, y = (sh_setI μ1 291 54 a1) := ⟨_, rfl⟩
    rw [sh_let_eq eμ5] at h
    have hG5 : sh_G μ5 := by rw [eμ5]; exact hG1
    have hF5 : sh_offX μ μ5 := by rw [eμ5]; exact sh_offX_I hF1 (by decide)
    obtain ⟨μ6, eμ6⟩ : ∃ y : sh_Mem, y = (sh_setI μ5 291 55 a2) := ⟨_, rfl⟩
    rw [sh_let_eq eμ6] at h
    have hG6 : sh_G μ6 := by rw [eμ6]; exact hG5
    have hF6 : sh_offX μ μ6 := by rw [eμ6]; exact sh_offX_I hF5 (by decide)
    by_cases c7 : (sh_i μ6 327 (Int32.toNatClampNeg 5)) = (-1)
    · rw [if_pos c7] at h
      obtain ⟨e1, e2⟩ := sh_some2 h
      exact e2 ▸ hF6
    · rw [if_neg c7] at h
      obtain ⟨y10, μ8, hr9, h⟩ := sh_bind_e h
      have hG8 := gp_X12_codesTell hG6 hr9
      have hF8 := hF6.trans (fp_X12_codesTell hG6 hr9)
      by_cases c11 : (lg_cmp y10 1) = 0
      · rw [if_pos c11] at h
        obtain ⟨e1, e2⟩ := sh_some2 h
        exact e2 ▸ hF8
      · rw [if_neg c11] at h
        obtain ⟨e1, e2⟩ := sh_some2 h
        exact e2 ▸ hF8
theorem fp_X12_liftedBy {a1 : Int32} {μ μ' : sh_Mem} {v : Int32} (hG : sh_G μ) (h : f_X12_liftedBy a1 μ = some (v, μ')) : sh_offX μ μ' := by
  have hF : sh_offX μ μ := sh_offX.rf
  unfold f_X12_liftedBy at h
  by_cases c1 : (sh_i μ 327 (Int32.toNatClampNeg 3)) = (-1)
  · rw [if_pos c1] at h
    obtain ⟨e1, e2⟩ := sh_some2 h
    exact e2 ▸ hF
  · rw [if_neg c1] at h
    obtain ⟨y4, μ2, hr3, h⟩ := sh_bind_e h
    have hG2 := gp_X12_heightOf hG hr3
    have hF2 := hF.trans (fp_X12_heightOf hG hr3)
    obtain ⟨μ5, eμ5⟩ : ∃ y : sh_Mem, y = (sh_setI μ2 291 56 y4) := ⟨_, rfl⟩
    rw [sh_let_eq eμ5] at h
    have hG5 : sh_G μ5 := by rw [eμ5]; exact hG2
    have hF5 : sh_offX μ μ5 := by rw [eμ5]; exact sh_offX_I hF2 (by decide)
    obtain ⟨y8, μ6, hr7, h⟩ := sh_bind_e h
    have hG6 := gp_X12_codesTell hG5 hr7
    have hF6 := hF5.trans (fp_X12_codesTell hG5 hr7)
    obtain ⟨e1, e2⟩ := sh_some2 h
    exact e2 ▸ hF6
theorem fpl_X12_lifts (fuel : Nat) : (∀ ⦃i1 : Int32⦄ ⦃i2 : Int32⦄ ⦃i3 : Int32⦄ ⦃i4 : Int32⦄ ⦃i5 : Int32⦄ ⦃μ μ' : sh_Mem⦄, sh_G μ → F_X12_lifts fuel 1 i1 i2 i3 i4 i5 μ = some μ' → sh_offX μ μ') := by
  induction fuel with
  | zero => intro i1 i2 i3 i4 i5 μ μ' hG h; cases h
  | succ fuel ih =>
    have ih_10 := ih
    intro i1 i2 i3 i4 i5 μ μ' hG h
    replace h : ((if i4 ≤ i5 then some μ else sh_bind (f_X12_highestBut i1 i2 i3 μ) (fun y26 μ24 => sh_bind (f_X12_heightOf y26 μ24) (fun y29 μ27 => (if y29 = 0 then some μ27 else sh_bind (f_X12_heightOf i1 μ27) (fun y33 μ31 => (if y33 = 99 then some μ31 else (if sh_in (1 + y26) 232 then (if sh_in (1 + y26) 232 then sh_let (sh_setI μ31 330 ((1 + y26)).toNatClampNeg ((sh_i μ31 330 ((1 + y26)).toNatClampNeg) - 1)) (fun μ37 => (if sh_in (1 + i1) 232 then (if sh_in (1 + i1) 232 then sh_let (sh_setI μ37 330 ((1 + i1)).toNatClampNeg ((sh_i μ37 330 ((1 + i1)).toNatClampNeg) + 1)) (fun μ40 => sh_let (sh_setI μ40 291 59 ((sh_i μ40 291 59) + 1)) (fun μ41 => F_X12_lifts fuel 1 i1 i2 i3 i4 (i5 + 1) μ41)) else none) else none)) else none) else none))))))) : Option sh_Mem) = some μ' := h
    have hF : sh_offX μ μ := sh_offX.rf
    by_cases c23 : i4 ≤ i5
    · rw [if_pos c23] at h
      have e2 := Option.some.inj h
      exact e2 ▸ hF
    · rw [if_neg c23] at h
      obtain ⟨y26, μ24, hr25, h⟩ := sh_bind_e h
      have hG24 := gp_X12_highestBut hG hr25
      have hF24 := hF.trans (fp_X12_highestBut hG hr25)
      obtain ⟨y29, μ27, hr28, h⟩ := sh_bind_e h
      have hG27 := gp_X12_heightOf hG24 hr28
      have hF27 := hF24.trans (fp_X12_heightOf hG24 hr28)
      by_cases c30 : y29 = 0
      · rw [if_pos c30] at h
        have e2 := Option.some.inj h
        exact e2 ▸ hF27
      · rw [if_neg c30] at h
        obtain ⟨y33, μ31, hr32, h⟩ := sh_bind_e h
        have hG31 := gp_X12_heightOf hG27 hr32
        have hF31 := hF27.trans (fp_X12_heightOf hG27 hr32)
        by_cases c34 : y33 = 99
        · rw [if_pos c34] at h
          have e2 := Option.some.inj h
          exact e2 ▸ hF31
        · rw [if_neg c34] at h
          obtain ⟨k35, h⟩ := sh_chk h
          obtain ⟨k36, h⟩ := sh_chk h
          obtain ⟨μ37, eμ37⟩ : ∃ y : sh_Mem, y = (sh_setI μ31 330 ((1 + y26)).toNatClampNeg ((sh_i μ31 330 ((1 + y26)).toNatClampNeg) - 1)) := ⟨_, rfl⟩
          rw [sh_let_eq eμ37] at h
          have hG37 : sh_G μ37 := by rw [eμ37]; exact hG31
          have hF37 : sh_offX μ μ37 := by rw [eμ37]; exact sh_offX_I hF31 (by decide)
          obtain ⟨k38, h⟩ := sh_chk h
          obtain ⟨k39, h⟩ := sh_chk h
          obtain ⟨μ40, eμ40⟩ : ∃ y : sh_Mem, y = (sh_setI μ37 330 ((1 + i1)).toNatClampNeg ((sh_i μ37 330 ((1 + i1)).toNatClampNeg) + 1)) := ⟨_, rfl⟩
          rw [sh_let_eq eμ40] at h
          have hG40 : sh_G μ40 := by rw [eμ40]; exact hG37
          have hF40 : sh_offX μ μ40 := by rw [eμ40]; exact sh_offX_I hF37 (by decide)
          obtain ⟨μ41, eμ41⟩ : ∃ y : sh_Mem, y = (sh_setI μ40 291 59 ((sh_i μ40 291 59) + 1)) := ⟨_, rfl⟩
          rw [sh_let_eq eμ41] at h
          have hG41 : sh_G μ41 := by rw [eμ41]; exact hG40
          have hF41 : sh_offX μ μ41 := by rw [eμ41]; exact sh_offX_I hF40 (by decide)
          exact hF41.trans (ih_10 hG41 h)
theorem fp_X12_lifts {a1 : Int32} {a2 : Int32} {a3 : Int32} {μ μ' : sh_Mem} (hG : sh_G μ) (h : f_X12_lifts a1 a2 a3 μ = some μ') : sh_offX μ μ' := by
  have ih_10 := (fpl_X12_lifts sh_fuel)
  have hF : sh_offX μ μ := sh_offX.rf
  unfold f_X12_lifts at h
  obtain ⟨y44, μ42, hr43, h⟩ := sh_bind_e h
  have hG42 := gp_X12_liftedBy hG hr43
  have hF42 := hF.trans (fp_X12_liftedBy hG hr43)
  exact hF42.trans (ih_10 hG42 h)
theorem fp_X12_isAsked {a1 : Int32} {a2 : Int32} {μ μ' : sh_Mem} {v : Int32} (hG : sh_G μ) (h : f_X12_isAsked a1 a2 μ = some (v, μ')) : sh_offX μ μ' := by
  have hF : sh_offX μ μ := sh_offX.rf
  unfold f_X12_isAsked at h
  obtain ⟨μ1, eμ1⟩ : ∃ y : sh_Mem, y = (sh_setI μ 291 59 0) := ⟨_, rfl⟩
  rw [sh_let_eq eμ1] at h
  have hG1 : sh_G μ1 := by rw [eμ1]; exact hG
  have hF1 : sh_offX μ μ1 := by rw [eμ1]; exact sh_offX_I hF (by decide)
  by_cases c2 : (((sh_i μ1 291 60) >>> (a1 &&& 31)) &&& 1) = 1
  · rw [if_pos c2] at h
    obtain ⟨e1, e2⟩ := sh_some2 h
    exact e2 ▸ hF1
  · rw [if_neg c2] at h
    obtain ⟨y5, μ3, hr4, h⟩ := sh_bind_e h
    have hG3 := gp_X12_wouldDo hG1 hr4
    have hF3 := hF1.trans (fp_X12_wouldDo hG1 hr4)
    by_cases c6 : 2 ≤ y5
    · rw [if_pos c6] at h
      obtain ⟨y9, μ7, hr8, h⟩ := sh_bind_e h
      have hG7 := gp_X12_cellOf hG3 hr8
      have hF7 := hF3.trans (fp_X12_cellOf hG3 hr8)
      by_cases c10 : (y9 - y9 / 7 * 7) ≤ 0
      · rw [if_pos c10] at h
        by_cases c11 : ((sh_i μ7 321 (Int32.toNatClampNeg 3)) - 1) ≤ (y9 - y9 / 7 * 7)
        · rw [if_pos c11] at h
          by_cases c12 : (sh_i μ7 327 (Int32.toNatClampNeg 4)) = (-1)
          · rw [if_pos c12] at h
            obtain ⟨y24, μ22, hr23, h⟩ := sh_bind_e h
            have hG22 := gp_X12_tiredOf hG7 hr23
            have hF22 := hF7.trans (fp_X12_tiredOf hG7 hr23)
            obtain ⟨k25, h⟩ := sh_chk h
            obtain ⟨μ26, eμ26⟩ : ∃ y : sh_Mem, y = (sh_setI μ22 330 ((51 + (3 * a1))).toNatClampNeg (f_X12_cut μ22 ((y24 + 1)).toInt64)) := ⟨_, rfl⟩
            rw [sh_let_eq eμ26] at h
            have hG26 : sh_G μ26 := by rw [eμ26]; exact hG22
            have hF26 : sh_offX μ μ26 := by rw [eμ26]; exact sh_offX_I hF22 (by decide)
            obtain ⟨μ27, eμ27⟩ : ∃ y : sh_Mem, y = (sh_setI μ26 291 58 ((sh_i μ26 291 58) + 1)) := ⟨_, rfl⟩
            rw [sh_let_eq eμ27] at h
            have hG27 : sh_G μ27 := by rw [eμ27]; exact hG26
            have hF27 : sh_offX μ μ27 := by rw [eμ27]; exact sh_offX_I hF26 (by decide)
            obtain ⟨μ28, hr29, h⟩ := sh_bindv_e h
            have hG28 := gp_X12_isKept hG27 hr29
            have hF28 := hF27.trans (fp_X12_isKept hG27 hr29)
            obtain ⟨e1, e2⟩ := sh_some2 h
            exact e2 ▸ hF28
          · rw [if_neg c12] at h
            obtain ⟨y15, μ13, hr14, h⟩ := sh_bind_e h
            have hG13 := gp_X12_codesTell hG7 hr14
            have hF13 := hF7.trans (fp_X12_codesTell hG7 hr14)
            obtain ⟨k16, h⟩ := sh_chk h
            obtain ⟨μ17, eμ17⟩ : ∃ y : sh_Mem, y = (sh_setI μ13 330 ((51 + (3 * a1))).toNatClampNeg (f_X12_cut μ13 y15)) := ⟨_, rfl⟩
            rw [sh_let_eq eμ17] at h
            have hG17 : sh_G μ17 := by rw [eμ17]; exact hG13
            have hF17 : sh_offX μ μ17 := by rw [eμ17]; exact sh_offX_I hF13 (by decide)
            obtain ⟨μ18, eμ18⟩ : ∃ y : sh_Mem, y = (sh_setI μ17 291 58 ((sh_i μ17 291 58) + 1)) := ⟨_, rfl⟩
            rw [sh_let_eq eμ18] at h
            have hG18 : sh_G μ18 := by rw [eμ18]; exact hG17
            have hF18 : sh_offX μ μ18 := by rw [eμ18]; exact sh_offX_I hF17 (by decide)
            obtain ⟨μ19, hr20, h⟩ := sh_bindv_e h
            have hG19 := gp_X12_isKept hG18 hr20
            have hF19 := hF18.trans (fp_X12_isKept hG18 hr20)
            obtain ⟨e1, e2⟩ := sh_some2 h
            exact e2 ▸ hF19
        · rw [if_neg c11] at h
          obtain ⟨x31, ex31⟩ : ∃ y : Int32, y = (y9 + 1) := ⟨_, rfl⟩
          rw [sh_let_eq ex31] at h
          by_cases c32 : x31 = (-1)
          · rw [if_pos c32] at h
            by_cases c33 : (sh_i μ7 327 (Int32.toNatClampNeg 4)) = (-1)
            · rw [if_pos c33] at h
              obtain ⟨y45, μ43, hr44, h⟩ := sh_bind_e h
              have hG43 := gp_X12_tiredOf hG7 hr44
              have hF43 := hF7.trans (fp_X12_tiredOf hG7 hr44)
              obtain ⟨k46, h⟩ := sh_chk h
              obtain ⟨μ47, eμ47⟩ : ∃ y : sh_Mem, y = (sh_setI μ43 330 ((51 + (3 * a1))).toNatClampNeg (f_X12_cut μ43 ((y45 + 1)).toInt64)) := ⟨_, rfl⟩
              rw [sh_let_eq eμ47] at h
              have hG47 : sh_G μ47 := by rw [eμ47]; exact hG43
              have hF47 : sh_offX μ μ47 := by rw [eμ47]; exact sh_offX_I hF43 (by decide)
              obtain ⟨μ48, eμ48⟩ : ∃ y : sh_Mem, y = (sh_setI μ47 291 58 ((sh_i μ47 291 58) + 1)) := ⟨_, rfl⟩
              rw [sh_let_eq eμ48] at h
              have hG48 : sh_G μ48 := by rw [eμ48]; exact hG47
              have hF48 : sh_offX μ μ48 := by rw [eμ48]; exact sh_offX_I hF47 (by decide)
              obtain ⟨μ49, hr50, h⟩ := sh_bindv_e h
              have hG49 := gp_X12_isKept hG48 hr50
              have hF49 := hF48.trans (fp_X12_isKept hG48 hr50)
              obtain ⟨e1, e2⟩ := sh_some2 h
              exact e2 ▸ hF49
            · rw [if_neg c33] at h
              obtain ⟨y36, μ34, hr35, h⟩ := sh_bind_e h
              have hG34 := gp_X12_codesTell hG7 hr35
              have hF34 := hF7.trans (fp_X12_codesTell hG7 hr35)
              obtain ⟨k37, h⟩ := sh_chk h
              obtain ⟨μ38, eμ38⟩ : ∃ y : sh_Mem, y = (sh_setI μ34 330 ((51 + (3 * a1))).toNatClampNeg (f_X12_cut μ34 y36)) := ⟨_, rfl⟩
              rw [sh_let_eq eμ38] at h
              have hG38 : sh_G μ38 := by rw [eμ38]; exact hG34
              have hF38 : sh_offX μ μ38 := by rw [eμ38]; exact sh_offX_I hF34 (by decide)
              obtain ⟨μ39, eμ39⟩ : ∃ y : sh_Mem, y = (sh_setI μ38 291 58 ((sh_i μ38 291 58) + 1)) := ⟨_, rfl⟩
              rw [sh_let_eq eμ39] at h
              have hG39 : sh_G μ39 := by rw [eμ39]; exact hG38
              have hF39 : sh_offX μ μ39 := by rw [eμ39]; exact sh_offX_I hF38 (by decide)
              obtain ⟨μ40, hr41, h⟩ := sh_bindv_e h
              have hG40 := gp_X12_isKept hG39 hr41
              have hF40 := hF39.trans (fp_X12_isKept hG39 hr41)
              obtain ⟨e1, e2⟩ := sh_some2 h
              exact e2 ▸ hF40
          · rw [if_neg c32] at h
            obtain ⟨μ52, hr53, h⟩ := sh_bindv_e h
            have hG52 := gp_X12_lifts hG7 hr53
            have hF52 := hF7.trans (fp_X12_lifts hG7 hr53)
            by_cases c55 : (sh_i μ52 327 (Int32.toNatClampNeg 4)) = (-1)
            · rw [if_pos c55] at h
              obtain ⟨y67, μ65, hr66, h⟩ := sh_bind_e h
              have hG65 := gp_X12_tiredOf hG52 hr66
              have hF65 := hF52.trans (fp_X12_tiredOf hG52 hr66)
              obtain ⟨k68, h⟩ := sh_chk h
              obtain ⟨μ69, eμ69⟩ : ∃ y : sh_Mem, y = (sh_setI μ65 330 ((51 + (3 * a1))).toNatClampNeg (f_X12_cut μ65 ((y67 + 1)).toInt64)) := ⟨_, rfl⟩
              rw [sh_let_eq eμ69] at h
              have hG69 : sh_G μ69 := by rw [eμ69]; exact hG65
              have hF69 : sh_offX μ μ69 := by rw [eμ69]; exact sh_offX_I hF65 (by decide)
              obtain ⟨μ70, eμ70⟩ : ∃ y : sh_Mem, y = (sh_setI μ69 291 58 ((sh_i μ69 291 58) + 1)) := ⟨_, rfl⟩
              rw [sh_let_eq eμ70] at h
              have hG70 : sh_G μ70 := by rw [eμ70]; exact hG69
              have hF70 : sh_offX μ μ70 := by rw [eμ70]; exact sh_offX_I hF69 (by decide)
              obtain ⟨μ71, hr72, h⟩ := sh_bindv_e h
              have hG71 := gp_X12_isKept hG70 hr72
              have hF71 := hF70.trans (fp_X12_isKept hG70 hr72)
              obtain ⟨e1, e2⟩ := sh_some2 h
              exact e2 ▸ hF71
            · rw [if_neg c55] at h
              obtain ⟨y58, μ56, hr57, h⟩ := sh_bind_e h
              have hG56 := gp_X12_codesTell hG52 hr57
              have hF56 := hF52.trans (fp_X12_codesTell hG52 hr57)
              obtain ⟨k59, h⟩ := sh_chk h
              obtain ⟨μ60, eμ60⟩ : ∃ y : sh_Mem, y = (sh_setI μ56 330 ((51 + (3 * a1))).toNatClampNeg (f_X12_cut μ56 y58)) := ⟨_, rfl⟩
              rw [sh_let_eq eμ60] at h
              have hG60 : sh_G μ60 := by rw [eμ60]; exact hG56
              have hF60 : sh_offX μ μ60 := by rw [eμ60]; exact sh_offX_I hF56 (by decide)
              obtain ⟨μ61, eμ61⟩ : ∃ y : sh_Mem, y = (sh_setI μ60 291 58 ((sh_i μ60 291 58) + 1)) := ⟨_, rfl⟩
              rw [sh_let_eq eμ61] at h
              have hG61 : sh_G μ61 := by rw [eμ61]; exact hG60
              have hF61 : sh_offX μ μ61 := by rw [eμ61]; exact sh_offX_I hF60 (by decide)
              obtain ⟨μ62, hr63, h⟩ := sh_bindv_e h
              have hG62 := gp_X12_isKept hG61 hr63
              have hF62 := hF61.trans (fp_X12_isKept hG61 hr63)
              obtain ⟨e1, e2⟩ := sh_some2 h
              exact e2 ▸ hF62
      · rw [if_neg c10] at h
        obtain ⟨x74, ex74⟩ : ∃ y : Int32, y = (y9 - 1) := ⟨_, rfl⟩
        rw [sh_let_eq ex74] at h
        by_cases c75 : ((sh_i μ7 321 (Int32.toNatClampNeg 3)) - 1) ≤ (y9 - y9 / 7 * 7)
        · rw [if_pos c75] at h
          by_cases c76 : x74 = (-1)
          · rw [if_pos c76] at h
            by_cases c77 : (sh_i μ7 327 (Int32.toNatClampNeg 4)) = (-1)
            · rw [if_pos c77] at h
              obtain ⟨y89, μ87, hr88, h⟩ := sh_bind_e h
              have hG87 := gp_X12_tiredOf hG7 hr88
              have hF87 := hF7.trans (fp_X12_tiredOf hG7 hr88)
              obtain ⟨k90, h⟩ := sh_chk h
              obtain ⟨μ91, eμ91⟩ : ∃ y : sh_Mem, y = (sh_setI μ87 330 ((51 + (3 * a1))).toNatClampNeg (f_X12_cut μ87 ((y89 + 1)).toInt64)) := ⟨_, rfl⟩
              rw [sh_let_eq eμ91] at h
              have hG91 : sh_G μ91 := by rw [eμ91]; exact hG87
              have hF91 : sh_offX μ μ91 := by rw [eμ91]; exact sh_offX_I hF87 (by decide)
              obtain ⟨μ92, eμ92⟩ : ∃ y : sh_Mem, y = (sh_setI μ91 291 58 ((sh_i μ91 291 58) + 1)) := ⟨_, rfl⟩
              rw [sh_let_eq eμ92] at h
              have hG92 : sh_G μ92 := by rw [eμ92]; exact hG91
              have hF92 : sh_offX μ μ92 := by rw [eμ92]; exact sh_offX_I hF91 (by decide)
              obtain ⟨μ93, hr94, h⟩ := sh_bindv_e h
              have hG93 := gp_X12_isKept hG92 hr94
              have hF93 := hF92.trans (fp_X12_isKept hG92 hr94)
              obtain ⟨e1, e2⟩ := sh_some2 h
              exact e2 ▸ hF93
            · rw [if_neg c77] at h
              obtain ⟨y80, μ78, hr79, h⟩ := sh_bind_e h
              have hG78 := gp_X12_codesTell hG7 hr79
              have hF78 := hF7.trans (fp_X12_codesTell hG7 hr79)
              obtain ⟨k81, h⟩ := sh_chk h
              obtain ⟨μ82, eμ82⟩ : ∃ y : sh_Mem, y = (sh_setI μ78 330 ((51 + (3 * a1))).toNatClampNeg (f_X12_cut μ78 y80)) := ⟨_, rfl⟩
              rw [sh_let_eq eμ82] at h
              have hG82 : sh_G μ82 := by rw [eμ82]; exact hG78
              have hF82 : sh_offX μ μ82 := by rw [eμ82]; exact sh_offX_I hF78 (by decide)
              obtain ⟨μ83, eμ83⟩ : ∃ y : sh_Mem, y = (sh_setI μ82 291 58 ((sh_i μ82 291 58) + 1)) := ⟨_, rfl⟩
              rw [sh_let_eq eμ83] at h
              have hG83 : sh_G μ83 := by rw [eμ83]; exact hG82
              have hF83 : sh_offX μ μ83 := by rw [eμ83]; exact sh_offX_I hF82 (by decide)
              obtain ⟨μ84, hr85, h⟩ := sh_bindv_e h
              have hG84 := gp_X12_isKept hG83 hr85
              have hF84 := hF83.trans (fp_X12_isKept hG83 hr85)
              obtain ⟨e1, e2⟩ := sh_some2 h
              exact e2 ▸ hF84
          · rw [if_neg c76] at h
            obtain ⟨μ96, hr97, h⟩ := sh_bindv_e h
            have hG96 := gp_X12_lifts hG7 hr97
            have hF96 := hF7.trans (fp_X12_lifts hG7 hr97)
            by_cases c99 : (sh_i μ96 327 (Int32.toNatClampNeg 4)) = (-1)
            · rw [if_pos c99] at h
              obtain ⟨y111, μ109, hr110, h⟩ := sh_bind_e h
              have hG109 := gp_X12_tiredOf hG96 hr110
              have hF109 := hF96.trans (fp_X12_tiredOf hG96 hr110)
              obtain ⟨k112, h⟩ := sh_chk h
              obtain ⟨μ113, eμ113⟩ : ∃ y : sh_Mem, y = (sh_setI μ109 330 ((51 + (3 * a1))).toNatClampNeg (f_X12_cut μ109 ((y111 + 1)).toInt64)) := ⟨_, rfl⟩
              rw [sh_let_eq eμ113] at h
              have hG113 : sh_G μ113 := by rw [eμ113]; exact hG109
              have hF113 : sh_offX μ μ113 := by rw [eμ113]; exact sh_offX_I hF109 (by decide)
              obtain ⟨μ114, eμ114⟩ : ∃ y : sh_Mem, y = (sh_setI μ113 291 58 ((sh_i μ113 291 58) + 1)) := ⟨_, rfl⟩
              rw [sh_let_eq eμ114] at h
              have hG114 : sh_G μ114 := by rw [eμ114]; exact hG113
              have hF114 : sh_offX μ μ114 := by rw [eμ114]; exact sh_offX_I hF113 (by decide)
              obtain ⟨μ115, hr116, h⟩ := sh_bindv_e h
              have hG115 := gp_X12_isKept hG114 hr116
              have hF115 := hF114.trans (fp_X12_isKept hG114 hr116)
              obtain ⟨e1, e2⟩ := sh_some2 h
              exact e2 ▸ hF115
            · rw [if_neg c99] at h
              obtain ⟨y102, μ100, hr101, h⟩ := sh_bind_e h
              have hG100 := gp_X12_codesTell hG96 hr101
              have hF100 := hF96.trans (fp_X12_codesTell hG96 hr101)
              obtain ⟨k103, h⟩ := sh_chk h
              obtain ⟨μ104, eμ104⟩ : ∃ y : sh_Mem, y = (sh_setI μ100 330 ((51 + (3 * a1))).toNatClampNeg (f_X12_cut μ100 y102)) := ⟨_, rfl⟩
              rw [sh_let_eq eμ104] at h
              have hG104 : sh_G μ104 := by rw [eμ104]; exact hG100
              have hF104 : sh_offX μ μ104 := by rw [eμ104]; exact sh_offX_I hF100 (by decide)
              obtain ⟨μ105, eμ105⟩ : ∃ y : sh_Mem, y = (sh_setI μ104 291 58 ((sh_i μ104 291 58) + 1)) := ⟨_, rfl⟩
              rw [sh_let_eq eμ105] at h
              have hG105 : sh_G μ105 := by rw [eμ105]; exact hG104
              have hF105 : sh_offX μ μ105 := by rw [eμ105]; exact sh_offX_I hF104 (by decide)
              obtain ⟨μ106, hr107, h⟩ := sh_bindv_e h
              have hG106 := gp_X12_isKept hG105 hr107
              have hF106 := hF105.trans (fp_X12_isKept hG105 hr107)
              obtain ⟨e1, e2⟩ := sh_some2 h
              exact e2 ▸ hF106
        · rw [if_neg c75] at h
          obtain ⟨x118, ex118⟩ : ∃ y : Int32, y = (y9 + 1) := ⟨_, rfl⟩
          rw [sh_let_eq ex118] at h
          by_cases c119 : x74 = (-1)
          · rw [if_pos c119] at h
            by_cases c120 : x118 = (-1)
            · rw [if_pos c120] at h
              by_cases c121 : (sh_i μ7 327 (Int32.toNatClampNeg 4)) = (-1)
              · rw [if_pos c121] at h
                obtain ⟨y133, μ131, hr132, h⟩ := sh_bind_e h
                have hG131 := gp_X12_tiredOf hG7 hr132
                have hF131 := hF7.trans (fp_X12_tiredOf hG7 hr132)
                obtain ⟨k134, h⟩ := sh_chk h
                obtain ⟨μ135, eμ135⟩ : ∃ y : sh_Mem, y = (sh_setI μ131 330 ((51 + (3 * a1))).toNatClampNeg (f_X12_cut μ131 ((y133 + 1)).toInt64)) := ⟨_, rfl⟩
                rw [sh_let_eq eμ135] at h
                have hG135 : sh_G μ135 := by rw [eμ135]; exact hG131
                have hF135 : sh_offX μ μ135 := by rw [eμ135]; exact sh_offX_I hF131 (by decide)
                obtain ⟨μ136, eμ136⟩ : ∃ y : sh_Mem, y = (sh_setI μ135 291 58 ((sh_i μ135 291 58) + 1)) := ⟨_, rfl⟩
                rw [sh_let_eq eμ136] at h
                have hG136 : sh_G μ136 := by rw [eμ136]; exact hG135
                have hF136 : sh_offX μ μ136 := by rw [eμ136]; exact sh_offX_I hF135 (by decide)
                obtain ⟨μ137, hr138, h⟩ := sh_bindv_e h
                have hG137 := gp_X12_isKept hG136 hr138
                have hF137 := hF136.trans (fp_X12_isKept hG136 hr138)
                obtain ⟨e1, e2⟩ := sh_some2 h
                exact e2 ▸ hF137
              · rw [if_neg c121] at h
                obtain ⟨y124, μ122, hr123, h⟩ := sh_bind_e h
                have hG122 := gp_X12_codesTell hG7 hr123
                have hF122 := hF7.trans (fp_X12_codesTell hG7 hr123)
                obtain ⟨k125, h⟩ := sh_chk h
                obtain ⟨μ126, eμ126⟩ : ∃ y : sh_Mem, y = (sh_setI μ122 330 ((51 + (3 * a1))).toNatClampNeg (f_X12_cut μ122 y124)) := ⟨_, rfl⟩
                rw [sh_let_eq eμ126] at h
                have hG126 : sh_G μ126 := by rw [eμ126]; exact hG122
                have hF126 : sh_offX μ μ126 := by rw [eμ126]; exact sh_offX_I hF122 (by decide)
                obtain ⟨μ127, eμ127⟩ : ∃ y : sh_Mem, y = (sh_setI μ126 291 58 ((sh_i μ126 291 58) + 1)) := ⟨_, rfl⟩
                rw [sh_let_eq eμ127] at h
                have hG127 : sh_G μ127 := by rw [eμ127]; exact hG126
                have hF127 : sh_offX μ μ127 := by rw [eμ127]; exact sh_offX_I hF126 (by decide)
                obtain ⟨μ128, hr129, h⟩ := sh_bindv_e h
                have hG128 := gp_X12_isKept hG127 hr129
                have hF128 := hF127.trans (fp_X12_isKept hG127 hr129)
                obtain ⟨e1, e2⟩ := sh_some2 h
                exact e2 ▸ hF128
            · rw [if_neg c120] at h
              obtain ⟨μ140, hr141, h⟩ := sh_bindv_e h
              have hG140 := gp_X12_lifts hG7 hr141
              have hF140 := hF7.trans (fp_X12_lifts hG7 hr141)
              by_cases c143 : (sh_i μ140 327 (Int32.toNatClampNeg 4)) = (-1)
              · rw [if_pos c143] at h
                obtain ⟨y155, μ153, hr154, h⟩ := sh_bind_e h
                have hG153 := gp_X12_tiredOf hG140 hr154
                have hF153 := hF140.trans (fp_X12_tiredOf hG140 hr154)
                obtain ⟨k156, h⟩ := sh_chk h
                obtain ⟨μ157, eμ157⟩ : ∃ y : sh_Mem, y = (sh_setI μ153 330 ((51 + (3 * a1))).toNatClampNeg (f_X12_cut μ153 ((y155 + 1)).toInt64)) := ⟨_, rfl⟩
                rw [sh_let_eq eμ157] at h
                have hG157 : sh_G μ157 := by rw [eμ157]; exact hG153
                have hF157 : sh_offX μ μ157 := by rw [eμ157]; exact sh_offX_I hF153 (by decide)
                obtain ⟨μ158, eμ158⟩ : ∃ y : sh_Mem, y = (sh_setI μ157 291 58 ((sh_i μ157 291 58) + 1)) := ⟨_, rfl⟩
                rw [sh_let_eq eμ158] at h
                have hG158 : sh_G μ158 := by rw [eμ158]; exact hG157
                have hF158 : sh_offX μ μ158 := by rw [eμ158]; exact sh_offX_I hF157 (by decide)
                obtain ⟨μ159, hr160, h⟩ := sh_bindv_e h
                have hG159 := gp_X12_isKept hG158 hr160
                have hF159 := hF158.trans (fp_X12_isKept hG158 hr160)
                obtain ⟨e1, e2⟩ := sh_some2 h
                exact e2 ▸ hF159
              · rw [if_neg c143] at h
                obtain ⟨y146, μ144, hr145, h⟩ := sh_bind_e h
                have hG144 := gp_X12_codesTell hG140 hr145
                have hF144 := hF140.trans (fp_X12_codesTell hG140 hr145)
                obtain ⟨k147, h⟩ := sh_chk h
                obtain ⟨μ148, eμ148⟩ : ∃ y : sh_Mem, y = (sh_setI μ144 330 ((51 + (3 * a1))).toNatClampNeg (f_X12_cut μ144 y146)) := ⟨_, rfl⟩
                rw [sh_let_eq eμ148] at h
                have hG148 : sh_G μ148 := by rw [eμ148]; exact hG144
                have hF148 : sh_offX μ μ148 := by rw [eμ148]; exact sh_offX_I hF144 (by decide)
                obtain ⟨μ149, eμ149⟩ : ∃ y : sh_Mem, y = (sh_setI μ148 291 58 ((sh_i μ148 291 58) + 1)) := ⟨_, rfl⟩
                rw [sh_let_eq eμ149] at h
                have hG149 : sh_G μ149 := by rw [eμ149]; exact hG148
                have hF149 : sh_offX μ μ149 := by rw [eμ149]; exact sh_offX_I hF148 (by decide)
                obtain ⟨μ150, hr151, h⟩ := sh_bindv_e h
                have hG150 := gp_X12_isKept hG149 hr151
                have hF150 := hF149.trans (fp_X12_isKept hG149 hr151)
                obtain ⟨e1, e2⟩ := sh_some2 h
                exact e2 ▸ hF150
          · rw [if_neg c119] at h
            obtain ⟨μ162, hr163, h⟩ := sh_bindv_e h
            have hG162 := gp_X12_lifts hG7 hr163
            have hF162 := hF7.trans (fp_X12_lifts hG7 hr163)
            by_cases c165 : x118 = (-1)
            · rw [if_pos c165] at h
              by_cases c166 : (sh_i μ162 327 (Int32.toNatClampNeg 4)) = (-1)
              · rw [if_pos c166] at h
                obtain ⟨y178, μ176, hr177, h⟩ := sh_bind_e h
                have hG176 := gp_X12_tiredOf hG162 hr177
                have hF176 := hF162.trans (fp_X12_tiredOf hG162 hr177)
                obtain ⟨k179, h⟩ := sh_chk h
                obtain ⟨μ180, eμ180⟩ : ∃ y : sh_Mem, y = (sh_setI μ176 330 ((51 + (3 * a1))).toNatClampNeg (f_X12_cut μ176 ((y178 + 1)).toInt64)) := ⟨_, rfl⟩
                rw [sh_let_eq eμ180] at h
                have hG180 : sh_G μ180 := by rw [eμ180]; exact hG176
                have hF180 : sh_offX μ μ180 := by rw [eμ180]; exact sh_offX_I hF176 (by decide)
                obtain ⟨μ181, eμ181⟩ : ∃ y : sh_Mem, y = (sh_setI μ180 291 58 ((sh_i μ180 291 58) + 1)) := ⟨_, rfl⟩
                rw [sh_let_eq eμ181] at h
                have hG181 : sh_G μ181 := by rw [eμ181]; exact hG180
                have hF181 : sh_offX μ μ181 := by rw [eμ181]; exact sh_offX_I hF180 (by decide)
                obtain ⟨μ182, hr183, h⟩ := sh_bindv_e h
                have hG182 := gp_X12_isKept hG181 hr183
                have hF182 := hF181.trans (fp_X12_isKept hG181 hr183)
                obtain ⟨e1, e2⟩ := sh_some2 h
                exact e2 ▸ hF182
              · rw [if_neg c166] at h
                obtain ⟨y169, μ167, hr168, h⟩ := sh_bind_e h
                have hG167 := gp_X12_codesTell hG162 hr168
                have hF167 := hF162.trans (fp_X12_codesTell hG162 hr168)
                obtain ⟨k170, h⟩ := sh_chk h
                obtain ⟨μ171, eμ171⟩ : ∃ y : sh_Mem, y = (sh_setI μ167 330 ((51 + (3 * a1))).toNatClampNeg (f_X12_cut μ167 y169)) := ⟨_, rfl⟩
                rw [sh_let_eq eμ171] at h
                have hG171 : sh_G μ171 := by rw [eμ171]; exact hG167
                have hF171 : sh_offX μ μ171 := by rw [eμ171]; exact sh_offX_I hF167 (by decide)
                obtain ⟨μ172, eμ172⟩ : ∃ y : sh_Mem, y = (sh_setI μ171 291 58 ((sh_i μ171 291 58) + 1)) := ⟨_, rfl⟩
                rw [sh_let_eq eμ172] at h
                have hG172 : sh_G μ172 := by rw [eμ172]; exact hG171
                have hF172 : sh_offX μ μ172 := by rw [eμ172]; exact sh_offX_I hF171 (by decide)
                obtain ⟨μ173, hr174, h⟩ := sh_bindv_e h
                have hG173 := gp_X12_isKept hG172 hr174
                have hF173 := hF172.trans (fp_X12_isKept hG172 hr174)
                obtain ⟨e1, e2⟩ := sh_some2 h
                exact e2 ▸ hF173
            · rw [if_neg c165] at h
              obtain ⟨μ185, hr186, h⟩ := sh_bindv_e h
              have hG185 := gp_X12_lifts hG162 hr186
              have hF185 := hF162.trans (fp_X12_lifts hG162 hr186)
              by_cases c188 : (sh_i μ185 327 (Int32.toNatClampNeg 4)) = (-1)
              · rw [if_pos c188] at h
                obtain ⟨y200, μ198, hr199, h⟩ := sh_bind_e h
                have hG198 := gp_X12_tiredOf hG185 hr199
                have hF198 := hF185.trans (fp_X12_tiredOf hG185 hr199)
                obtain ⟨k201, h⟩ := sh_chk h
                obtain ⟨μ202, eμ202⟩ : ∃ y : sh_Mem, y = (sh_setI μ198 330 ((51 + (3 * a1))).toNatClampNeg (f_X12_cut μ198 ((y200 + 1)).toInt64)) := ⟨_, rfl⟩
                rw [sh_let_eq eμ202] at h
                have hG202 : sh_G μ202 := by rw [eμ202]; exact hG198
                have hF202 : sh_offX μ μ202 := by rw [eμ202]; exact sh_offX_I hF198 (by decide)
                obtain ⟨μ203, eμ203⟩ : ∃ y : sh_Mem, y = (sh_setI μ202 291 58 ((sh_i μ202 291 58) + 1)) := ⟨_, rfl⟩
                rw [sh_let_eq eμ203] at h
                have hG203 : sh_G μ203 := by rw [eμ203]; exact hG202
                have hF203 : sh_offX μ μ203 := by rw [eμ203]; exact sh_offX_I hF202 (by decide)
                obtain ⟨μ204, hr205, h⟩ := sh_bindv_e h
                have hG204 := gp_X12_isKept hG203 hr205
                have hF204 := hF203.trans (fp_X12_isKept hG203 hr205)
                obtain ⟨e1, e2⟩ := sh_some2 h
                exact e2 ▸ hF204
              · rw [if_neg c188] at h
                obtain ⟨y191, μ189, hr190, h⟩ := sh_bind_e h
                have hG189 := gp_X12_codesTell hG185 hr190
                have hF189 := hF185.trans (fp_X12_codesTell hG185 hr190)
                obtain ⟨k192, h⟩ := sh_chk h
                obtain ⟨μ193, eμ193⟩ : ∃ y : sh_Mem, y = (sh_setI μ189 330 ((51 + (3 * a1))).toNatClampNeg (f_X12_cut μ189 y191)) := ⟨_, rfl⟩
                rw [sh_let_eq eμ193] at h
                have hG193 : sh_G μ193 := by rw [eμ193]; exact hG189
                have hF193 : sh_offX μ μ193 := by rw [eμ193]; exact sh_offX_I hF189 (by decide)
                obtain ⟨μ194, eμ194⟩ : ∃ y : sh_Mem, y = (sh_setI μ193 291 58 ((sh_i μ193 291 58) + 1)) := ⟨_, rfl⟩
                rw [sh_let_eq eμ194] at h
                have hG194 : sh_G μ194 := by rw [eμ194]; exact hG193
                have hF194 : sh_offX μ μ194 := by rw [eμ194]; exact sh_offX_I hF193 (by decide)
                obtain ⟨μ195, hr196, h⟩ := sh_bindv_e h
                have hG195 := gp_X12_isKept hG194 hr196
                have hF195 := hF194.trans (fp_X12_isKept hG194 hr196)
                obtain ⟨e1, e2⟩ := sh_some2 h
                exact e2 ▸ hF195
    · rw [if_neg c6] at h
      obtain ⟨e1, e2⟩ := sh_some2 h
      exact e2 ▸ hF3
theorem fp_X12_dayGoes {μ μ' : sh_Mem} (hG : sh_G μ) (h : f_X12_dayGoes μ = some μ') : sh_offX μ μ' := by
  have hF : sh_offX μ μ := sh_offX.rf
  unfold f_X12_dayGoes at h
  obtain ⟨y3, μ1, hr2, h⟩ := sh_bind_e h
  have hG1 := gp_X12_listMany hG hr2
  have hF1 := hF.trans (fp_X12_listMany hG hr2)
  by_cases c4 : y3 ≤ 0
  · rw [if_pos c4] at h
    obtain ⟨μ5, eμ5⟩ : ∃ y : sh_Mem, y = (sh_setI μ1 330 (Int32.toNatClampNeg 0) ((sh_i μ1 330 (Int32.toNatClampNeg 0)) + 1)) := ⟨_, rfl⟩
    rw [sh_let_eq eμ5] at h
    have hG5 : sh_G μ5 := by rw [eμ5]; exact hG1
    have hF5 : sh_offX μ μ5 := by rw [eμ5]; exact sh_offX_I hF1 (by decide)
    have e2 := Option.some.inj h
    exact e2 ▸ hF5
  · rw [if_neg c4] at h
    obtain ⟨k6, h⟩ := sh_chk h
    obtain ⟨x7, ex7⟩ : ∃ y : Int32, y = (24 + (2 * ((sh_i μ1 330 (Int32.toNatClampNeg 0)) - (sh_i μ1 330 (Int32.toNatClampNeg 0)) / y3 * y3))) := ⟨_, rfl⟩
    rw [sh_let_eq ex7] at h
    obtain ⟨k8, h⟩ := sh_chk h
    obtain ⟨k9, h⟩ := sh_chk h
    obtain ⟨y12, μ10, hr11, h⟩ := sh_bind_e h
    have hG10 := gp_X12_isAsked hG1 hr11
    have hF10 := hF1.trans (fp_X12_isAsked hG1 hr11)
    obtain ⟨μ13, eμ13⟩ : ∃ y : sh_Mem, y = (sh_setI μ10 330 (Int32.toNatClampNeg 0) ((sh_i μ10 330 (Int32.toNatClampNeg 0)) + 1)) := ⟨_, rfl⟩
    rw [sh_let_eq eμ13] at h
    have hG13 : sh_G μ13 := by rw [eμ13]; exact hG10
    have hF13 : sh_offX μ μ13 := by rw [eμ13]; exact sh_offX_I hF10 (by decide)
    have e2 := Option.some.inj h
    exact e2 ▸ hF13
theorem fpl_X12_daysGo (fuel : Nat) : (∀ ⦃i1 : Int32⦄ ⦃i2 : Int32⦄ ⦃μ μ' : sh_Mem⦄, sh_G μ → F_X12_daysGo fuel 1 i1 i2 μ = some μ' → sh_offX μ μ') := by
  induction fuel with
  | zero => intro i1 i2 μ μ' hG h; cases h
  | succ fuel ih =>
    have ih_2 := ih
    intro i1 i2 μ μ' hG h
    replace h : ((if i1 ≤ i2 then some μ else sh_bindv (f_X12_dayGoes μ) (fun μ6 => F_X12_daysGo fuel 1 i1 (i2 + 1) μ6)) : Option sh_Mem) = some μ' := h
    have hF : sh_offX μ μ := sh_offX.rf
    by_cases c5 : i1 ≤ i2
    · rw [if_pos c5] at h
      have e2 := Option.some.inj h
      exact e2 ▸ hF
    · rw [if_neg c5] at h
      obtain ⟨μ6, hr7, h⟩ := sh_bindv_e h
      have hG6 := gp_X12_dayGoes hG hr7
      have hF6 := hF.trans (fp_X12_dayGoes hG hr7)
      exact hF6.trans (ih_2 hG6 h)
theorem fp_X12_daysGo {a1 : Int32} {μ μ' : sh_Mem} (hG : sh_G μ) (h : f_X12_daysGo a1 μ = some μ') : sh_offX μ μ' := by
  have ih_2 := (fpl_X12_daysGo sh_fuel)
  have hF : sh_offX μ μ := sh_offX.rf
  unfold f_X12_daysGo at h
  exact hF.trans (ih_2 hG h)
theorem fpl_X12_laysLifted (fuel : Nat) : (∀ ⦃i1 : Int32⦄ ⦃i2 : Int32⦄ ⦃μ μ' : sh_Mem⦄, sh_G μ → F_X12_laysLifted fuel 1 i1 i2 μ = some μ' → sh_offX μ μ') ∧ (∀ ⦃i1 : Int32⦄ ⦃i2 : Int32⦄ ⦃μ μ' : sh_Mem⦄, sh_G μ → F_X12_laysLifted fuel 2 i1 i2 μ = some μ' → sh_offX μ μ') := by
  induction fuel with
  | zero => exact ⟨(by intro i1 i2 μ μ' hG h; cases h), (by intro i1 i2 μ μ' hG h; cases h)⟩
  | succ fuel ih =>
    obtain ⟨ih_6, ih_16⟩ := ih
    refine ⟨?_, ?_⟩
    · intro i1 i2 μ μ' hG h
      replace h : (sh_bind (f_X12_personMany μ) (fun y44 μ42 => (if y44 ≤ i1 then sh_bindv (f_X12_takesBack μ42) (fun μ46 => some μ46) else F_X12_laysLifted fuel 2 i1 0 μ42)) : Option sh_Mem) = some μ' := h
      have hF : sh_offX μ μ := sh_offX.rf
      obtain ⟨y44, μ42, hr43, h⟩ := sh_bind_e h
      have hG42 := gp_X12_personMany hG hr43
      have hF42 := hF.trans (fp_X12_personMany hG hr43)
      by_cases c45 : y44 ≤ i1
      · rw [if_pos c45] at h
        obtain ⟨μ46, hr47, h⟩ := sh_bindv_e h
        have hG46 := gp_X12_takesBack hG42 hr47
        have hF46 := hF42.trans (fp_X12_takesBack hG42 hr47)
        have e2 := Option.some.inj h
        exact e2 ▸ hF46
      · rw [if_neg c45] at h
        exact hF42.trans (ih_16 hG42 h)
    · intro i1 i2 μ μ' hG h
      replace h : (sh_bind (f_X12_topicMany μ) (fun y51 μ49 => (if y51 ≤ i2 then F_X12_laysLifted fuel 1 (i1 + 1) 0 μ49 else sh_bind (f_X12_isAsked i1 i2 μ49) (fun y55 μ53 => (if sh_in ((5 * i1) + i2) 35 then sh_let (sh_setI μ53 332 (((5 * i1) + i2)).toNatClampNeg (sh_i μ53 291 59)) (fun μ57 => sh_bindv (f_X12_triesAnew μ57) (fun μ58 => F_X12_laysLifted fuel 2 i1 (i2 + 1) μ58)) else none)))) : Option sh_Mem) = some μ' := h
      have hF : sh_offX μ μ := sh_offX.rf
      obtain ⟨y51, μ49, hr50, h⟩ := sh_bind_e h
      have hG49 := gp_X12_topicMany hG hr50
      have hF49 := hF.trans (fp_X12_topicMany hG hr50)
      by_cases c52 : y51 ≤ i2
      · rw [if_pos c52] at h
        exact hF49.trans (ih_6 hG49 h)
      · rw [if_neg c52] at h
        obtain ⟨y55, μ53, hr54, h⟩ := sh_bind_e h
        have hG53 := gp_X12_isAsked hG49 hr54
        have hF53 := hF49.trans (fp_X12_isAsked hG49 hr54)
        obtain ⟨k56, h⟩ := sh_chk h
        obtain ⟨μ57, eμ57⟩ : ∃ y : sh_Mem, y = (sh_setI μ53 332 (((5 * i1) + i2)).toNatClampNeg (sh_i μ53 291 59)) := ⟨_, rfl⟩
        rw [sh_let_eq eμ57] at h
        have hG57 : sh_G μ57 := by rw [eμ57]; exact hG53
        have hF57 : sh_offX μ μ57 := by rw [eμ57]; exact sh_offX_I hF53 (by decide)
        obtain ⟨μ58, hr59, h⟩ := sh_bindv_e h
        have hG58 := gp_X12_triesAnew hG57 hr59
        have hF58 := hF57.trans (fp_X12_triesAnew hG57 hr59)
        exact hF58.trans (ih_16 hG58 h)
theorem fp_X12_laysLifted {μ μ' : sh_Mem} (hG : sh_G μ) (h : f_X12_laysLifted μ = some μ') : sh_offX μ μ' := by
  have ih_6 := (fpl_X12_laysLifted sh_fuel).1
  have ih_16 := (fpl_X12_laysLifted sh_fuel).2
  have hF : sh_offX μ μ := sh_offX.rf
  unfold f_X12_laysLifted at h
  obtain ⟨μ61, hr62, h⟩ := sh_bindv_e h
  have hG61 := gp_X12_putsAside hG hr62
  have hF61 := hF.trans (fp_X12_putsAside hG hr62)
  exact hF61.trans (ih_6 hG61 h)
theorem fp_X12_would {a1 : Int32} {a2 : Int32} {μ μ' : sh_Mem} {v : Int32} (hG : sh_G μ) (h : f_X12_would a1 a2 μ = some (v, μ')) : sh_offX μ μ' := by
  have hF : sh_offX μ μ := sh_offX.rf
  unfold f_X12_would at h
  obtain ⟨y3, μ1, hr2, h⟩ := sh_bind_e h
  have hG1 := gp_X12_isPerson hG hr2
  have hF1 := hF.trans (fp_X12_isPerson hG hr2)
  by_cases c4 : y3 = 0
  · rw [if_pos c4] at h
    obtain ⟨e1, e2⟩ := sh_some2 h
    exact e2 ▸ hF1
  · rw [if_neg c4] at h
    obtain ⟨y7, μ5, hr6, h⟩ := sh_bind_e h
    have hG5 := gp_X12_isTopic hG1 hr6
    have hF5 := hF1.trans (fp_X12_isTopic hG1 hr6)
    by_cases c8 : y7 = 0
    · rw [if_pos c8] at h
      obtain ⟨e1, e2⟩ := sh_some2 h
      exact e2 ▸ hF5
    · rw [if_neg c8] at h
      obtain ⟨y11, μ9, hr10, h⟩ := sh_bind_e h
      have hG9 := gp_X12_wouldDo hG5 hr10
      have hF9 := hF5.trans (fp_X12_wouldDo hG5 hr10)
      obtain ⟨e1, e2⟩ := sh_some2 h
      exact e2 ▸ hF9
theorem fp_X12_later {a1 : Int32} {a2 : Int32} {a3 : Int32} {μ μ' : sh_Mem} {v : Int32} (hG : sh_G μ) (h : f_X12_later a1 a2 a3 μ = some (v, μ')) : sh_offX μ μ' := by
  have hF : sh_offX μ μ := sh_offX.rf
  unfold f_X12_later at h
  obtain ⟨y3, μ1, hr2, h⟩ := sh_bind_e h
  have hG1 := gp_X12_cellAt hG hr2
  have hF1 := hF.trans (fp_X12_cellAt hG hr2)
  by_cases c4 : y3 = (-1)
  · rw [if_pos c4] at h
    obtain ⟨e1, e2⟩ := sh_some2 h
    exact e2 ▸ hF1
  · rw [if_neg c4] at h
    obtain ⟨y7, μ5, hr6, h⟩ := sh_bind_e h
    have hG5 := gp_X12_isAhead hG1 hr6
    have hF5 := hF1.trans (fp_X12_isAhead hG1 hr6)
    by_cases c8 : y7 = 0
    · rw [if_pos c8] at h
      obtain ⟨e1, e2⟩ := sh_some2 h
      exact e2 ▸ hF5
    · rw [if_neg c8] at h
      obtain ⟨μ9, hr10, h⟩ := sh_bindv_e h
      have hG9 := gp_X12_putsAside hG5 hr10
      have hF9 := hF5.trans (fp_X12_putsAside hG5 hr10)
      obtain ⟨μ12, hr13, h⟩ := sh_bindv_e h
      have hG12 := gp_X12_daysGo hG9 hr13
      have hF12 := hF9.trans (fp_X12_daysGo hG9 hr13)
      obtain ⟨y17, μ15, hr16, h⟩ := sh_bind_e h
      have hG15 := gp_X12_heightOf hG12 hr16
      have hF15 := hF12.trans (fp_X12_heightOf hG12 hr16)
      obtain ⟨μ18, hr19, h⟩ := sh_bindv_e h
      have hG18 := gp_X12_takesBack hG15 hr19
      have hF18 := hF15.trans (fp_X12_takesBack hG15 hr19)
      obtain ⟨e1, e2⟩ := sh_some2 h
      exact e2 ▸ hF18
theorem fp_X12_tired {a1 : Int32} {a2 : Int32} {μ μ' : sh_Mem} {v : Int32} (hG : sh_G μ) (h : f_X12_tired a1 a2 μ = some (v, μ')) : sh_offX μ μ' := by
  have hF : sh_offX μ μ := sh_offX.rf
  unfold f_X12_tired at h
  obtain ⟨y3, μ1, hr2, h⟩ := sh_bind_e h
  have hG1 := gp_X12_isPerson hG hr2
  have hF1 := hF.trans (fp_X12_isPerson hG hr2)
  by_cases c4 : y3 = 0
  · rw [if_pos c4] at h
    obtain ⟨e1, e2⟩ := sh_some2 h
    exact e2 ▸ hF1
  · rw [if_neg c4] at h
    obtain ⟨y7, μ5, hr6, h⟩ := sh_bind_e h
    have hG5 := gp_X12_isAhead hG1 hr6
    have hF5 := hF1.trans (fp_X12_isAhead hG1 hr6)
    by_cases c8 : y7 = 0
    · rw [if_pos c8] at h
      obtain ⟨e1, e2⟩ := sh_some2 h
      exact e2 ▸ hF5
    · rw [if_neg c8] at h
      obtain ⟨μ9, hr10, h⟩ := sh_bindv_e h
      have hG9 := gp_X12_putsAside hG5 hr10
      have hF9 := hF5.trans (fp_X12_putsAside hG5 hr10)
      obtain ⟨μ12, hr13, h⟩ := sh_bindv_e h
      have hG12 := gp_X12_daysGo hG9 hr13
      have hF12 := hF9.trans (fp_X12_daysGo hG9 hr13)
      obtain ⟨y17, μ15, hr16, h⟩ := sh_bind_e h
      have hG15 := gp_X12_tiredOf hG12 hr16
      have hF15 := hF12.trans (fp_X12_tiredOf hG12 hr16)
      obtain ⟨μ18, hr19, h⟩ := sh_bindv_e h
      have hG18 := gp_X12_takesBack hG15 hr19
      have hF18 := hF15.trans (fp_X12_takesBack hG15 hr19)
      obtain ⟨e1, e2⟩ := sh_some2 h
      exact e2 ▸ hF18
theorem fpl_X12_rises (fuel : Nat) : (∀ ⦃i1 : Int32⦄ ⦃i2 : Int32⦄ ⦃i3 : Int32⦄ ⦃i4 : Int32⦄ ⦃i5 : Int32⦄ ⦃μ μ' : sh_Mem⦄ ⦃v : Int32⦄, sh_G μ → F_X12_rises fuel 1 i1 i2 i3 i4 i5 μ = some (v, μ') → sh_offX μ μ') := by
  induction fuel with
  | zero => intro i1 i2 i3 i4 i5 μ μ' v hG h; cases h
  | succ fuel ih =>
    have ih_23 := ih
    intro i1 i2 i3 i4 i5 μ μ' v hG h
    replace h : (sh_bind (f_X12_heightOf i4 μ) (fun y49 μ47 => (if i3 ≤ y49 then sh_bind (f_X12_heightOf i4 μ47) (fun y53 μ51 => (if y53 < i3 then sh_bindv (f_X12_takesBack μ51) (fun μ55 => some ((-1), μ55)) else sh_bindv (f_X12_takesBack μ51) (fun μ58 => some (i5, μ58)))) else (if 60 ≤ i5 then sh_bind (f_X12_heightOf i4 μ47) (fun y64 μ62 => (if y64 < i3 then sh_bindv (f_X12_takesBack μ62) (fun μ66 => some ((-1), μ66)) else sh_bindv (f_X12_takesBack μ62) (fun μ69 => some (i5, μ69)))) else (if 999 ≤ (sh_i μ47 330 (Int32.toNatClampNeg 0)) then sh_bind (f_X12_heightOf i4 μ47) (fun y75 μ73 => (if y75 < i3 then sh_bindv (f_X12_takesBack μ73) (fun μ77 => some ((-1), μ77)) else sh_bindv (f_X12_takesBack μ73) (fun μ80 => some (i5, μ80)))) else sh_bindv (f_X12_dayGoes μ47) (fun μ83 => F_X12_rises fuel 1 i1 i2 i3 i4 (i5 + 1) μ83))))) : Option (Int32 × sh_Mem)) = some (v, μ') := h
    have hF : sh_offX μ μ := sh_offX.rf
    obtain ⟨y49, μ47, hr48, h⟩ := sh_bind_e h
    have hG47 := gp_X12_heightOf hG hr48
    have hF47 := hF.trans (fp_X12_heightOf hG hr48)
    by_cases c50 : i3 ≤ y49
    · rw [if_pos c50] at h
      obtain ⟨y53, μ51, hr52, h⟩ := sh_bind_e h
      have hG51 := gp_X12_heightOf hG47 hr52
      have hF51 := hF47.trans (fp_X12_heightOf hG47 hr52)
      by_cases c54 : y53 < i3
      · rw [if_pos c54] at h
        obtain ⟨μ55, hr56, h⟩ := sh_bindv_e h
        have hG55 := gp_X12_takesBack hG51 hr56
        have hF55 := hF51.trans (fp_X12_takesBack hG51 hr56)
        obtain ⟨e1, e2⟩ := sh_some2 h
        exact e2 ▸ hF55
      · rw [if_neg c54] at h
        obtain ⟨μ58, hr59, h⟩ := sh_bindv_e h
        have hG58 := gp_X12_takesBack hG51 hr59
        have hF58 := hF51.trans (fp_X12_takesBack hG51 hr59)
        obtain ⟨e1, e2⟩ := sh_some2 h
        exact e2 ▸ hF58
    · rw [if_neg c50] at h
      by_cases c61 : 60 ≤ i5
      · rw [if_pos c61] at h
        obtain ⟨y64, μ62, hr63, h⟩ := sh_bind_e h
        have hG62 := gp_X12_heightOf hG47 hr63
        have hF62 := hF47.trans (fp_X12_heightOf hG47 hr63)
        by_cases c65 : y64 < i3
        · rw [if_pos c65] at h
          obtain ⟨μ66, hr67, h⟩ := sh_bindv_e h
          have hG66 := gp_X12_takesBack hG62 hr67
          have hF66 := hF62.trans (fp_X12_takesBack hG62 hr67)
          obtain ⟨e1, e2⟩ := sh_some2 h
          exact e2 ▸ hF66
        · rw [if_neg c65] at h
          obtain ⟨μ69, hr70, h⟩ := sh_bindv_e h
          have hG69 := gp_X12_takesBack hG62 hr70
          have hF69 := hF62.trans (fp_X12_takesBack hG62 hr70)
          obtain ⟨e1, e2⟩ := sh_some2 h
          exact e2 ▸ hF69
      · rw [if_neg c61] at h
        by_cases c72 : 999 ≤ (sh_i μ47 330 (Int32.toNatClampNeg 0))
        · rw [if_pos c72] at h
          obtain ⟨y75, μ73, hr74, h⟩ := sh_bind_e h
          have hG73 := gp_X12_heightOf hG47 hr74
          have hF73 := hF47.trans (fp_X12_heightOf hG47 hr74)
          by_cases c76 : y75 < i3
          · rw [if_pos c76] at h
            obtain ⟨μ77, hr78, h⟩ := sh_bindv_e h
            have hG77 := gp_X12_takesBack hG73 hr78
            have hF77 := hF73.trans (fp_X12_takesBack hG73 hr78)
            obtain ⟨e1, e2⟩ := sh_some2 h
            exact e2 ▸ hF77
          · rw [if_neg c76] at h
            obtain ⟨μ80, hr81, h⟩ := sh_bindv_e h
            have hG80 := gp_X12_takesBack hG73 hr81
            have hF80 := hF73.trans (fp_X12_takesBack hG73 hr81)
            obtain ⟨e1, e2⟩ := sh_some2 h
            exact e2 ▸ hF80
        · rw [if_neg c72] at h
          obtain ⟨μ83, hr84, h⟩ := sh_bindv_e h
          have hG83 := gp_X12_dayGoes hG47 hr84
          have hF83 := hF47.trans (fp_X12_dayGoes hG47 hr84)
          exact hF83.trans (ih_23 hG83 h)
theorem fp_X12_rises {a1 : Int32} {a2 : Int32} {a3 : Int32} {μ μ' : sh_Mem} {v : Int32} (hG : sh_G μ) (h : f_X12_rises a1 a2 a3 μ = some (v, μ')) : sh_offX μ μ' := by
  have ih_23 := (fpl_X12_rises sh_fuel)
  have hF : sh_offX μ μ := sh_offX.rf
  unfold f_X12_rises at h
  obtain ⟨y88, μ86, hr87, h⟩ := sh_bind_e h
  have hG86 := gp_X12_cellAt hG hr87
  have hF86 := hF.trans (fp_X12_cellAt hG hr87)
  by_cases c89 : y88 = (-1)
  · rw [if_pos c89] at h
    obtain ⟨e1, e2⟩ := sh_some2 h
    exact e2 ▸ hF86
  · rw [if_neg c89] at h
    obtain ⟨μ90, hr91, h⟩ := sh_bindv_e h
    have hG90 := gp_X12_putsAside hG86 hr91
    have hF90 := hF86.trans (fp_X12_putsAside hG86 hr91)
    exact hF90.trans (ih_23 hG90 h)
theorem fp_X12_doesShrug {a1 : Int32} {μ μ' : sh_Mem} {v : Int32} (hG : sh_G μ) (h : f_X12_doesShrug a1 μ = some (v, μ')) : sh_offX μ μ' := by
  have hF : sh_offX μ μ := sh_offX.rf
  unfold f_X12_doesShrug at h
  obtain ⟨y3, μ1, hr2, h⟩ := sh_bind_e h
  have hG1 := gp_X12_topicMany hG hr2
  have hF1 := hF.trans (fp_X12_topicMany hG hr2)
  obtain ⟨k4, h⟩ := sh_chk h
  obtain ⟨y7, μ5, hr6, h⟩ := sh_bind_e h
  have hG5 := gp_X12_topicMany hG1 hr6
  have hF5 := hF1.trans (fp_X12_topicMany hG1 hr6)
  obtain ⟨k8, h⟩ := sh_chk h
  obtain ⟨y11, μ9, hr10, h⟩ := sh_bind_e h
  have hG9 := gp_X12_isAsked hG5 hr10
  have hF9 := hF5.trans (fp_X12_isAsked hG5 hr10)
  by_cases c12 : y11 = 2
  · rw [if_pos c12] at h
    obtain ⟨e1, e2⟩ := sh_some2 h
    exact e2 ▸ hF9
  · rw [if_neg c12] at h
    obtain ⟨e1, e2⟩ := sh_some2 h
    exact e2 ▸ hF9
theorem fpl_X12_isOne (fuel : Nat) : (∀ ⦃i1 : Int32⦄ ⦃μ μ' : sh_Mem⦄ ⦃v : Int32⦄, sh_G μ → F_X12_isOne fuel 1 i1 μ = some (v, μ') → sh_offX μ μ') := by
  induction fuel with
  | zero => intro i1 μ μ' v hG h; cases h
  | succ fuel ih =>
    have ih_2 := ih
    intro i1 μ μ' v hG h
    replace h : (sh_bind (f_X12_askingMany μ) (fun y25 μ23 => (if y25 ≤ i1 then some (0, μ23) else sh_let (sh_setI μ23 333 (Int32.toNatClampNeg 0) i1) (fun μ27 => sh_bind (f_X12_doesShrug i1 μ27) (fun y30 μ28 => (if y30 = 0 then sh_bindv (f_X12_triesAnew μ28) (fun μ32 => F_X12_isOne fuel 1 (i1 + 1) μ32) else sh_bind (f_X12_isSo μ28) (fun y37 μ35 => (if y37 = 0 then sh_bindv (f_X12_triesAnew μ35) (fun μ39 => F_X12_isOne fuel 1 (i1 + 1) μ39) else sh_bindv (f_X12_triesAnew μ35) (fun μ42 => some (1, μ42))))))))) : Option (Int32 × sh_Mem)) = some (v, μ') := h
    have hF : sh_offX μ μ := sh_offX.rf
    obtain ⟨y25, μ23, hr24, h⟩ := sh_bind_e h
    have hG23 := gp_X12_askingMany hG hr24
    have hF23 := hF.trans (fp_X12_askingMany hG hr24)
    by_cases c26 : y25 ≤ i1
    · rw [if_pos c26] at h
      obtain ⟨e1, e2⟩ := sh_some2 h
      exact e2 ▸ hF23
    · rw [if_neg c26] at h
      obtain ⟨μ27, eμ27⟩ : ∃ y : sh_Mem, y = (sh_setI μ23 333 (Int32.toNatClampNeg 0) i1) := ⟨_, rfl⟩
      rw [sh_let_eq eμ27] at h
      have hG27 : sh_G μ27 := by rw [eμ27]; exact hG23
      have hF27 : sh_offX μ μ27 := by rw [eμ27]; exact sh_offX_I hF23 (by decide)
      obtain ⟨y30, μ28, hr29, h⟩ := sh_bind_e h
      have hG28 := gp_X12_doesShrug hG27 hr29
      have hF28 := hF27.trans (fp_X12_doesShrug hG27 hr29)
      by_cases c31 : y30 = 0
      · rw [if_pos c31] at h
        obtain ⟨μ32, hr33, h⟩ := sh_bindv_e h
        have hG32 := gp_X12_triesAnew hG28 hr33
        have hF32 := hF28.trans (fp_X12_triesAnew hG28 hr33)
        exact hF32.trans (ih_2 hG32 h)
      · rw [if_neg c31] at h
        obtain ⟨y37, μ35, hr36, h⟩ := sh_bind_e h
        have hG35 := gp_X12_isSo hG28 hr36
        have hF35 := hF28.trans (fp_X12_isSo hG28 hr36)
        by_cases c38 : y37 = 0
        · rw [if_pos c38] at h
          obtain ⟨μ39, hr40, h⟩ := sh_bindv_e h
          have hG39 := gp_X12_triesAnew hG35 hr40
          have hF39 := hF35.trans (fp_X12_triesAnew hG35 hr40)
          exact hF39.trans (ih_2 hG39 h)
        · rw [if_neg c38] at h
          obtain ⟨μ42, hr43, h⟩ := sh_bindv_e h
          have hG42 := gp_X12_triesAnew hG35 hr43
          have hF42 := hF35.trans (fp_X12_triesAnew hG35 hr43)
          obtain ⟨e1, e2⟩ := sh_some2 h
          exact e2 ▸ hF42
theorem fp_X12_isOne {μ μ' : sh_Mem} {v : Int32} (hG : sh_G μ) (h : f_X12_isOne μ = some (v, μ')) : sh_offX μ μ' := by
  have ih_2 := (fpl_X12_isOne sh_fuel)
  have hF : sh_offX μ μ := sh_offX.rf
  unfold f_X12_isOne at h
  exact hF.trans (ih_2 hG h)
theorem fpl_X12_isTwo (fuel : Nat) : (∀ ⦃i1 : Int32⦄ ⦃i2 : Int32⦄ ⦃i3 : Int32⦄ ⦃i4 : Int32⦄ ⦃μ μ' : sh_Mem⦄ ⦃v : Int32⦄, sh_G μ → F_X12_isTwo fuel 1 i1 i2 i3 i4 μ = some (v, μ') → sh_offX μ μ') ∧ (∀ ⦃i1 : Int32⦄ ⦃i2 : Int32⦄ ⦃i3 : Int32⦄ ⦃i4 : Int32⦄ ⦃μ μ' : sh_Mem⦄ ⦃v : Int32⦄, sh_G μ → F_X12_isTwo fuel 2 i1 i2 i3 i4 μ = some (v, μ') → sh_offX μ μ') ∧ (∀ ⦃i1 : Int32⦄ ⦃i2 : Int32⦄ ⦃i3 : Int32⦄ ⦃i4 : Int32⦄ ⦃μ μ' : sh_Mem⦄ ⦃v : Int32⦄, sh_G μ → F_X12_isTwo fuel 3 i1 i2 i3 i4 μ = some (v, μ') → sh_offX μ μ') ∧ (∀ ⦃i1 : Int32⦄ ⦃i2 : Int32⦄ ⦃i3 : Int32⦄ ⦃i4 : Int32⦄ ⦃μ μ' : sh_Mem⦄ ⦃v : Int32⦄, sh_G μ → F_X12_isTwo fuel 4 i1 i2 i3 i4 μ = some (v, μ') → sh_offX μ μ') := by
  induction fuel with
  | zero => exact ⟨(by intro i1 i2 i3 i4 μ μ' v hG h; cases h), (by intro i1 i2 i3 i4 μ μ' v hG h; cases h), (by intro i1 i2 i3 i4 μ μ' v hG h; cases h), (by intro i1 i2 i3 i4 μ μ' v hG h; cases h)⟩
  | succ fuel ih =>
    obtain ⟨ih_2, ih_25, ih_51, ih_90⟩ := ih
    refine ⟨?_, ?_, ?_, ?_⟩
    · intro i1 i2 i3 i4 μ μ' v hG h
      replace h : (sh_bind (f_X12_askingMany μ) (fun y75 μ73 => (if y75 ≤ i1 then some (0, μ73) else sh_let (sh_setI μ73 333 (Int32.toNatClampNeg 0) i1) (fun μ77 => sh_bind (f_X12_doesShrug i1 μ77) (fun y80 μ78 => F_X12_isTwo fuel 2 i1 y80 0 0 μ78)))) : Option (Int32 × sh_Mem)) = some (v, μ') := h
      have hF : sh_offX μ μ := sh_offX.rf
      obtain ⟨y75, μ73, hr74, h⟩ := sh_bind_e h
      have hG73 := gp_X12_askingMany hG hr74
      have hF73 := hF.trans (fp_X12_askingMany hG hr74)
      by_cases c76 : y75 ≤ i1
      · rw [if_pos c76] at h
        obtain ⟨e1, e2⟩ := sh_some2 h
        exact e2 ▸ hF73
      · rw [if_neg c76] at h
        obtain ⟨μ77, eμ77⟩ : ∃ y : sh_Mem, y = (sh_setI μ73 333 (Int32.toNatClampNeg 0) i1) := ⟨_, rfl⟩
        rw [sh_let_eq eμ77] at h
        have hG77 : sh_G μ77 := by rw [eμ77]; exact hG73
        have hF77 : sh_offX μ μ77 := by rw [eμ77]; exact sh_offX_I hF73 (by decide)
        obtain ⟨y80, μ78, hr79, h⟩ := sh_bind_e h
        have hG78 := gp_X12_doesShrug hG77 hr79
        have hF78 := hF77.trans (fp_X12_doesShrug hG77 hr79)
        exact hF78.trans (ih_25 hG78 h)
    · intro i1 i2 i3 i4 μ μ' v hG h
      replace h : ((if 71 ≤ i3 then F_X12_isTwo fuel 3 i1 i2 0 0 μ else (if sh_in i3 232 then (if sh_in i3 71 then sh_let (sh_setI μ 334 i3.toNatClampNeg (sh_i μ 330 i3.toNatClampNeg)) (fun μ84 => F_X12_isTwo fuel 2 i1 i2 (i3 + 1) 0 μ84) else none) else none)) : Option (Int32 × sh_Mem)) = some (v, μ') := h
      have hF : sh_offX μ μ := sh_offX.rf
      by_cases c81 : 71 ≤ i3
      · rw [if_pos c81] at h
        exact hF.trans (ih_51 hG h)
      · rw [if_neg c81] at h
        obtain ⟨k82, h⟩ := sh_chk h
        obtain ⟨k83, h⟩ := sh_chk h
        obtain ⟨μ84, eμ84⟩ : ∃ y : sh_Mem, y = (sh_setI μ 334 i3.toNatClampNeg (sh_i μ 330 i3.toNatClampNeg)) := ⟨_, rfl⟩
        rw [sh_let_eq eμ84] at h
        have hG84 : sh_G μ84 := by rw [eμ84]; exact hG
        have hF84 : sh_offX μ μ84 := by rw [eμ84]; exact sh_offX_I hF (by decide)
        exact hF84.trans (ih_25 hG84 h)
    · intro i1 i2 i3 i4 μ μ' v hG h
      replace h : (sh_bind (f_X12_askingMany μ) (fun y87 μ85 => (if y87 ≤ i3 then sh_bindv (f_X12_triesAnew μ85) (fun μ89 => F_X12_isTwo fuel 1 (i1 + 1) 0 0 0 μ89) else (if i2 = 0 then sh_bindv (f_X12_triesAnew μ85) (fun μ93 => F_X12_isTwo fuel 1 (i1 + 1) 0 0 0 μ93) else sh_let (sh_setI μ85 333 (Int32.toNatClampNeg 1) i3) (fun μ96 => sh_bind (f_X12_doesShrug i3 μ96) (fun y99 μ97 => (if y99 = 0 then F_X12_isTwo fuel 4 i1 i2 i3 0 μ97 else sh_bind (f_X12_isSo μ97) (fun y103 μ101 => (if y103 = 0 then F_X12_isTwo fuel 4 i1 i2 i3 0 μ101 else some (1, μ101))))))))) : Option (Int32 × sh_Mem)) = some (v, μ') := h
      have hF : sh_offX μ μ := sh_offX.rf
      obtain ⟨y87, μ85, hr86, h⟩ := sh_bind_e h
      have hG85 := gp_X12_askingMany hG hr86
      have hF85 := hF.trans (fp_X12_askingMany hG hr86)
      by_cases c88 : y87 ≤ i3
      · rw [if_pos c88] at h
        obtain ⟨μ89, hr90, h⟩ := sh_bindv_e h
        have hG89 := gp_X12_triesAnew hG85 hr90
        have hF89 := hF85.trans (fp_X12_triesAnew hG85 hr90)
        exact hF89.trans (ih_2 hG89 h)
      · rw [if_neg c88] at h
        by_cases c92 : i2 = 0
        · rw [if_pos c92] at h
          obtain ⟨μ93, hr94, h⟩ := sh_bindv_e h
          have hG93 := gp_X12_triesAnew hG85 hr94
          have hF93 := hF85.trans (fp_X12_triesAnew hG85 hr94)
          exact hF93.trans (ih_2 hG93 h)
        · rw [if_neg c92] at h
          obtain ⟨μ96, eμ96⟩ : ∃ y : sh_Mem, y = (sh_setI μ85 333 (Int32.toNatClampNeg 1) i3) := ⟨_, rfl⟩
          rw [sh_let_eq eμ96] at h
          have hG96 : sh_G μ96 := by rw [eμ96]; exact hG85
          have hF96 : sh_offX μ μ96 := by rw [eμ96]; exact sh_offX_I hF85 (by decide)
          obtain ⟨y99, μ97, hr98, h⟩ := sh_bind_e h
          have hG97 := gp_X12_doesShrug hG96 hr98
          have hF97 := hF96.trans (fp_X12_doesShrug hG96 hr98)
          by_cases c100 : y99 = 0
          · rw [if_pos c100] at h
            exact hF97.trans (ih_90 hG97 h)
          · rw [if_neg c100] at h
            obtain ⟨y103, μ101, hr102, h⟩ := sh_bind_e h
            have hG101 := gp_X12_isSo hG97 hr102
            have hF101 := hF97.trans (fp_X12_isSo hG97 hr102)
            by_cases c104 : y103 = 0
            · rw [if_pos c104] at h
              exact hF101.trans (ih_90 hG101 h)
            · rw [if_neg c104] at h
              obtain ⟨e1, e2⟩ := sh_some2 h
              exact e2 ▸ hF101
    · intro i1 i2 i3 i4 μ μ' v hG h
      replace h : ((if 71 ≤ i4 then F_X12_isTwo fuel 3 i1 i2 (i3 + 1) 0 μ else (if sh_in i4 71 then (if sh_in i4 232 then sh_let (sh_setI μ 330 i4.toNatClampNeg (sh_i μ 334 i4.toNatClampNeg)) (fun μ108 => F_X12_isTwo fuel 4 i1 i2 i3 (i4 + 1) μ108) else none) else none)) : Option (Int32 × sh_Mem)) = some (v, μ') := h
      have hF : sh_offX μ μ := sh_offX.rf
      by_cases c105 : 71 ≤ i4
      · rw [if_pos c105] at h
        exact hF.trans (ih_51 hG h)
      · rw [if_neg c105] at h
        obtain ⟨k106, h⟩ := sh_chk h
        obtain ⟨k107, h⟩ := sh_chk h
        obtain ⟨μ108, eμ108⟩ : ∃ y : sh_Mem, y = (sh_setI μ 330 i4.toNatClampNeg (sh_i μ 334 i4.toNatClampNeg)) := ⟨_, rfl⟩
        rw [sh_let_eq eμ108] at h
        have hG108 : sh_G μ108 := by rw [eμ108]; exact hG
        have hF108 : sh_offX μ μ108 := by rw [eμ108]; exact sh_offX_I hF (by decide)
        exact hF108.trans (ih_90 hG108 h)
theorem fp_X12_isTwo {μ μ' : sh_Mem} {v : Int32} (hG : sh_G μ) (h : f_X12_isTwo μ = some (v, μ')) : sh_offX μ μ' := by
  have ih_2 := (fpl_X12_isTwo sh_fuel).1
  have ih_25 := (fpl_X12_isTwo sh_fuel).2.1
  have ih_51 := (fpl_X12_isTwo sh_fuel).2.2.1
  have ih_90 := (fpl_X12_isTwo sh_fuel).2.2.2
  have hF : sh_offX μ μ := sh_offX.rf
  unfold f_X12_isTwo at h
  exact hF.trans (ih_2 hG h)
theorem fpl_X12_isThird (fuel : Nat) : (∀ ⦃i1 : Int32⦄ ⦃i2 : Int32⦄ ⦃μ μ' : sh_Mem⦄ ⦃v : Int32⦄, sh_G μ → F_X12_isThird fuel 1 i1 i2 μ = some (v, μ') → sh_offX μ μ') ∧ (∀ ⦃i1 : Int32⦄ ⦃i2 : Int32⦄ ⦃μ μ' : sh_Mem⦄ ⦃v : Int32⦄, sh_G μ → F_X12_isThird fuel 2 i1 i2 μ = some (v, μ') → sh_offX μ μ') ∧ (∀ ⦃i1 : Int32⦄ ⦃i2 : Int32⦄ ⦃μ μ' : sh_Mem⦄ ⦃v : Int32⦄, sh_G μ → F_X12_isThird fuel 3 i1 i2 μ = some (v, μ') → sh_offX μ μ') := by
  induction fuel with
  | zero => exact ⟨(by intro i1 i2 μ μ' v hG h; cases h), (by intro i1 i2 μ μ' v hG h; cases h), (by intro i1 i2 μ μ' v hG h; cases h)⟩
  | succ fuel ih =>
    obtain ⟨ih_2, ih_28, ih_62⟩ := ih
    refine ⟨?_, ?_, ?_⟩
    · intro i1 i2 μ μ' v hG h
      replace h : ((if 71 ≤ i1 then F_X12_isThird fuel 2 0 0 μ else (if sh_in i1 232 then (if sh_in i1 71 then sh_let (sh_setI μ 335 i1.toNatClampNeg (sh_i μ 330 i1.toNatClampNeg)) (fun μ46 => F_X12_isThird fuel 1 (i1 + 1) 0 μ46) else none) else none)) : Option (Int32 × sh_Mem)) = some (v, μ') := h
      have hF : sh_offX μ μ := sh_offX.rf
      by_cases c43 : 71 ≤ i1
      · rw [if_pos c43] at h
        exact hF.trans (ih_28 hG h)
      · rw [if_neg c43] at h
        obtain ⟨k44, h⟩ := sh_chk h
        obtain ⟨k45, h⟩ := sh_chk h
        obtain ⟨μ46, eμ46⟩ : ∃ y : sh_Mem, y = (sh_setI μ 335 i1.toNatClampNeg (sh_i μ 330 i1.toNatClampNeg)) := ⟨_, rfl⟩
        rw [sh_let_eq eμ46] at h
        have hG46 : sh_G μ46 := by rw [eμ46]; exact hG
        have hF46 : sh_offX μ μ46 := by rw [eμ46]; exact sh_offX_I hF (by decide)
        exact hF46.trans (ih_2 hG46 h)
    · intro i1 i2 μ μ' v hG h
      replace h : (sh_bind (f_X12_askingMany μ) (fun y49 μ47 => (if y49 ≤ i1 then some (0, μ47) else sh_let (sh_setI μ47 333 (Int32.toNatClampNeg 2) i1) (fun μ51 => sh_bind (f_X12_doesShrug i1 μ51) (fun y54 μ52 => (if y54 = 0 then F_X12_isThird fuel 3 i1 0 μ52 else sh_bind (f_X12_isSo μ52) (fun y58 μ56 => (if y58 = 0 then F_X12_isThird fuel 3 i1 0 μ56 else some (1, μ56)))))))) : Option (Int32 × sh_Mem)) = some (v, μ') := h
      have hF : sh_offX μ μ := sh_offX.rf
      obtain ⟨y49, μ47, hr48, h⟩ := sh_bind_e h
      have hG47 := gp_X12_askingMany hG hr48
      have hF47 := hF.trans (fp_X12_askingMany hG hr48)
      by_cases c50 : y49 ≤ i1
      · rw [if_pos c50] at h
        obtain ⟨e1, e2⟩ := sh_some2 h
        exact e2 ▸ hF47
      · rw [if_neg c50] at h
        obtain ⟨μ51, eμ51⟩ : ∃ y : sh_Mem, y = (sh_setI μ47 333 (Int32.toNatClampNeg 2) i1) := ⟨_, rfl⟩
        rw [sh_let_eq eμ51] at h
        have hG51 : sh_G μ51 := by rw [eμ51]; exact hG47
        have hF51 : sh_offX μ μ51 := by rw [eμ51]; exact sh_offX_I hF47 (by decide)
        obtain ⟨y54, μ52, hr53, h⟩ := sh_bind_e h
        have hG52 := gp_X12_doesShrug hG51 hr53
        have hF52 := hF51.trans (fp_X12_doesShrug hG51 hr53)
        by_cases c55 : y54 = 0
        · rw [if_pos c55] at h
          exact hF52.trans (ih_62 hG52 h)
        · rw [if_neg c55] at h
          obtain ⟨y58, μ56, hr57, h⟩ := sh_bind_e h
          have hG56 := gp_X12_isSo hG52 hr57
          have hF56 := hF52.trans (fp_X12_isSo hG52 hr57)
          by_cases c59 : y58 = 0
          · rw [if_pos c59] at h
            exact hF56.trans (ih_62 hG56 h)
          · rw [if_neg c59] at h
            obtain ⟨e1, e2⟩ := sh_some2 h
            exact e2 ▸ hF56
    · intro i1 i2 μ μ' v hG h
      replace h : ((if 71 ≤ i2 then F_X12_isThird fuel 2 (i1 + 1) 0 μ else (if sh_in i2 71 then (if sh_in i2 232 then sh_let (sh_setI μ 330 i2.toNatClampNeg (sh_i μ 335 i2.toNatClampNeg)) (fun μ63 => F_X12_isThird fuel 3 i1 (i2 + 1) μ63) else none) else none)) : Option (Int32 × sh_Mem)) = some (v, μ') := h
      have hF : sh_offX μ μ := sh_offX.rf
      by_cases c60 : 71 ≤ i2
      · rw [if_pos c60] at h
        exact hF.trans (ih_28 hG h)
      · rw [if_neg c60] at h
        obtain ⟨k61, h⟩ := sh_chk h
        obtain ⟨k62, h⟩ := sh_chk h
        obtain ⟨μ63, eμ63⟩ : ∃ y : sh_Mem, y = (sh_setI μ 330 i2.toNatClampNeg (sh_i μ 335 i2.toNatClampNeg)) := ⟨_, rfl⟩
        rw [sh_let_eq eμ63] at h
        have hG63 : sh_G μ63 := by rw [eμ63]; exact hG
        have hF63 : sh_offX μ μ63 := by rw [eμ63]; exact sh_offX_I hF (by decide)
        exact hF63.trans (ih_62 hG63 h)
theorem fp_X12_isThird {μ μ' : sh_Mem} {v : Int32} (hG : sh_G μ) (h : f_X12_isThird μ = some (v, μ')) : sh_offX μ μ' := by
  have ih_2 := (fpl_X12_isThird sh_fuel).1
  have ih_28 := (fpl_X12_isThird sh_fuel).2.1
  have ih_62 := (fpl_X12_isThird sh_fuel).2.2
  have hF : sh_offX μ μ := sh_offX.rf
  unfold f_X12_isThird at h
  exact hF.trans (ih_2 hG h)
theorem fpl_X12_isThree (fuel : Nat) : (∀ ⦃i1 : Int32⦄ ⦃i2 : Int32⦄ ⦃i3 : Int32⦄ ⦃i4 : Int32⦄ ⦃μ μ' : sh_Mem⦄ ⦃v : Int32⦄, sh_G μ → F_X12_isThree fuel 1 i1 i2 i3 i4 μ = some (v, μ') → sh_offX μ μ') ∧ (∀ ⦃i1 : Int32⦄ ⦃i2 : Int32⦄ ⦃i3 : Int32⦄ ⦃i4 : Int32⦄ ⦃μ μ' : sh_Mem⦄ ⦃v : Int32⦄, sh_G μ → F_X12_isThree fuel 2 i1 i2 i3 i4 μ = some (v, μ') → sh_offX μ μ') ∧ (∀ ⦃i1 : Int32⦄ ⦃i2 : Int32⦄ ⦃i3 : Int32⦄ ⦃i4 : Int32⦄ ⦃μ μ' : sh_Mem⦄ ⦃v : Int32⦄, sh_G μ → F_X12_isThree fuel 3 i1 i2 i3 i4 μ = some (v, μ') → sh_offX μ μ') ∧ (∀ ⦃i1 : Int32⦄ ⦃i2 : Int32⦄ ⦃i3 : Int32⦄ ⦃i4 : Int32⦄ ⦃μ μ' : sh_Mem⦄ ⦃v : Int32⦄, sh_G μ → F_X12_isThree fuel 4 i1 i2 i3 i4 μ = some (v, μ') → sh_offX μ μ') := by
  induction fuel with
  | zero => exact ⟨(by intro i1 i2 i3 i4 μ μ' v hG h; cases h), (by intro i1 i2 i3 i4 μ μ' v hG h; cases h), (by intro i1 i2 i3 i4 μ μ' v hG h; cases h), (by intro i1 i2 i3 i4 μ μ' v hG h; cases h)⟩
  | succ fuel ih =>
    obtain ⟨ih_2, ih_25, ih_51, ih_90⟩ := ih
    refine ⟨?_, ?_, ?_, ?_⟩
    · intro i1 i2 i3 i4 μ μ' v hG h
      replace h : (sh_bind (f_X12_askingMany μ) (fun y75 μ73 => (if y75 ≤ i1 then some (0, μ73) else sh_let (sh_setI μ73 333 (Int32.toNatClampNeg 0) i1) (fun μ77 => sh_bind (f_X12_doesShrug i1 μ77) (fun y80 μ78 => F_X12_isThree fuel 2 i1 y80 0 0 μ78)))) : Option (Int32 × sh_Mem)) = some (v, μ') := h
      have hF : sh_offX μ μ := sh_offX.rf
      obtain ⟨y75, μ73, hr74, h⟩ := sh_bind_e h
      have hG73 := gp_X12_askingMany hG hr74
      have hF73 := hF.trans (fp_X12_askingMany hG hr74)
      by_cases c76 : y75 ≤ i1
      · rw [if_pos c76] at h
        obtain ⟨e1, e2⟩ := sh_some2 h
        exact e2 ▸ hF73
      · rw [if_neg c76] at h
        obtain ⟨μ77, eμ77⟩ : ∃ y : sh_Mem, y = (sh_setI μ73 333 (Int32.toNatClampNeg 0) i1) := ⟨_, rfl⟩
        rw [sh_let_eq eμ77] at h
        have hG77 : sh_G μ77 := by rw [eμ77]; exact hG73
        have hF77 : sh_offX μ μ77 := by rw [eμ77]; exact sh_offX_I hF73 (by decide)
        obtain ⟨y80, μ78, hr79, h⟩ := sh_bind_e h
        have hG78 := gp_X12_doesShrug hG77 hr79
        have hF78 := hF77.trans (fp_X12_doesShrug hG77 hr79)
        exact hF78.trans (ih_25 hG78 h)
    · intro i1 i2 i3 i4 μ μ' v hG h
      replace h : ((if 71 ≤ i3 then F_X12_isThree fuel 3 i1 i2 0 0 μ else (if sh_in i3 232 then (if sh_in i3 71 then sh_let (sh_setI μ 334 i3.toNatClampNeg (sh_i μ 330 i3.toNatClampNeg)) (fun μ84 => F_X12_isThree fuel 2 i1 i2 (i3 + 1) 0 μ84) else none) else none)) : Option (Int32 × sh_Mem)) = some (v, μ') := h
      have hF : sh_offX μ μ := sh_offX.rf
      by_cases c81 : 71 ≤ i3
      · rw [if_pos c81] at h
        exact hF.trans (ih_51 hG h)
      · rw [if_neg c81] at h
        obtain ⟨k82, h⟩ := sh_chk h
        obtain ⟨k83, h⟩ := sh_chk h
        obtain ⟨μ84, eμ84⟩ : ∃ y : sh_Mem, y = (sh_setI μ 334 i3.toNatClampNeg (sh_i μ 330 i3.toNatClampNeg)) := ⟨_, rfl⟩
        rw [sh_let_eq eμ84] at h
        have hG84 : sh_G μ84 := by rw [eμ84]; exact hG
        have hF84 : sh_offX μ μ84 := by rw [eμ84]; exact sh_offX_I hF (by decide)
        exact hF84.trans (ih_25 hG84 h)
    · intro i1 i2 i3 i4 μ μ' v hG h
      replace h : (sh_bind (f_X12_askingMany μ) (fun y87 μ85 => (if y87 ≤ i3 then sh_bindv (f_X12_triesAnew μ85) (fun μ89 => F_X12_isThree fuel 1 (i1 + 1) 0 0 0 μ89) else (if i2 = 0 then sh_bindv (f_X12_triesAnew μ85) (fun μ93 => F_X12_isThree fuel 1 (i1 + 1) 0 0 0 μ93) else sh_let (sh_setI μ85 333 (Int32.toNatClampNeg 1) i3) (fun μ96 => sh_bind (f_X12_doesShrug i3 μ96) (fun y99 μ97 => (if y99 = 0 then F_X12_isThree fuel 4 i1 i2 i3 0 μ97 else sh_bind (f_X12_isThird μ97) (fun y103 μ101 => (if y103 = 0 then F_X12_isThree fuel 4 i1 i2 i3 0 μ101 else some (1, μ101))))))))) : Option (Int32 × sh_Mem)) = some (v, μ') := h
      have hF : sh_offX μ μ := sh_offX.rf
      obtain ⟨y87, μ85, hr86, h⟩ := sh_bind_e h
      have hG85 := gp_X12_askingMany hG hr86
      have hF85 := hF.trans (fp_X12_askingMany hG hr86)
      by_cases c88 : y87 ≤ i3
      · rw [if_pos c88] at h
        obtain ⟨μ89, hr90, h⟩ := sh_bindv_e h
        have hG89 := gp_X12_triesAnew hG85 hr90
        have hF89 := hF85.trans (fp_X12_triesAnew hG85 hr90)
        exact hF89.trans (ih_2 hG89 h)
      · rw [if_neg c88] at h
        by_cases c92 : i2 = 0
        · rw [if_pos c92] at h
          obtain ⟨μ93, hr94, h⟩ := sh_bindv_e h
          have hG93 := gp_X12_triesAnew hG85 hr94
          have hF93 := hF85.trans (fp_X12_triesAnew hG85 hr94)
          exact hF93.trans (ih_2 hG93 h)
        · rw [if_neg c92] at h
          obtain ⟨μ96, eμ96⟩ : ∃ y : sh_Mem, y = (sh_setI μ85 333 (Int32.toNatClampNeg 1) i3) := ⟨_, rfl⟩
          rw [sh_let_eq eμ96] at h
          have hG96 : sh_G μ96 := by rw [eμ96]; exact hG85
          have hF96 : sh_offX μ μ96 := by rw [eμ96]; exact sh_offX_I hF85 (by decide)
          obtain ⟨y99, μ97, hr98, h⟩ := sh_bind_e h
          have hG97 := gp_X12_doesShrug hG96 hr98
          have hF97 := hF96.trans (fp_X12_doesShrug hG96 hr98)
          by_cases c100 : y99 = 0
          · rw [if_pos c100] at h
            exact hF97.trans (ih_90 hG97 h)
          · rw [if_neg c100] at h
            obtain ⟨y103, μ101, hr102, h⟩ := sh_bind_e h
            have hG101 := gp_X12_isThird hG97 hr102
            have hF101 := hF97.trans (fp_X12_isThird hG97 hr102)
            by_cases c104 : y103 = 0
            · rw [if_pos c104] at h
              exact hF101.trans (ih_90 hG101 h)
            · rw [if_neg c104] at h
              obtain ⟨e1, e2⟩ := sh_some2 h
              exact e2 ▸ hF101
    · intro i1 i2 i3 i4 μ μ' v hG h
      replace h : ((if 71 ≤ i4 then F_X12_isThree fuel 3 i1 i2 (i3 + 1) 0 μ else (if sh_in i4 71 then (if sh_in i4 232 then sh_let (sh_setI μ 330 i4.toNatClampNeg (sh_i μ 334 i4.toNatClampNeg)) (fun μ108 => F_X12_isThree fuel 4 i1 i2 i3 (i4 + 1) μ108) else none) else none)) : Option (Int32 × sh_Mem)) = some (v, μ') := h
      have hF : sh_offX μ μ := sh_offX.rf
      by_cases c105 : 71 ≤ i4
      · rw [if_pos c105] at h
        exact hF.trans (ih_51 hG h)
      · rw [if_neg c105] at h
        obtain ⟨k106, h⟩ := sh_chk h
        obtain ⟨k107, h⟩ := sh_chk h
        obtain ⟨μ108, eμ108⟩ : ∃ y : sh_Mem, y = (sh_setI μ 330 i4.toNatClampNeg (sh_i μ 334 i4.toNatClampNeg)) := ⟨_, rfl⟩
        rw [sh_let_eq eμ108] at h
        have hG108 : sh_G μ108 := by rw [eμ108]; exact hG
        have hF108 : sh_offX μ μ108 := by rw [eμ108]; exact sh_offX_I hF (by decide)
        exact hF108.trans (ih_90 hG108 h)
theorem fp_X12_isThree {μ μ' : sh_Mem} {v : Int32} (hG : sh_G μ) (h : f_X12_isThree μ = some (v, μ')) : sh_offX μ μ' := by
  have ih_2 := (fpl_X12_isThree sh_fuel).1
  have ih_25 := (fpl_X12_isThree sh_fuel).2.1
  have ih_51 := (fpl_X12_isThree sh_fuel).2.2.1
  have ih_90 := (fpl_X12_isThree sh_fuel).2.2.2
  have hF : sh_offX μ μ := sh_offX.rf
  unfold f_X12_isThree at h
  exact hF.trans (ih_2 hG h)
theorem fp_X12_planMany {μ μ' : sh_Mem} {v : Int32} (hG : sh_G μ) (h : f_X12_planMany μ = some (v, μ')) : sh_offX μ μ' := by
  have hF : sh_offX μ μ := sh_offX.rf
  unfold f_X12_planMany at h
  obtain ⟨y3, μ1, hr2, h⟩ := sh_bind_e h
  have hG1 := gp_X12_isSo hG hr2
  have hF1 := hF.trans (fp_X12_isSo hG hr2)
  by_cases c4 : y3 = 0
  · rw [if_pos c4] at h
    obtain ⟨y7, μ5, hr6, h⟩ := sh_bind_e h
    have hG5 := gp_X12_isOne hG1 hr6
    have hF5 := hF1.trans (fp_X12_isOne hG1 hr6)
    by_cases c8 : y7 = 0
    · rw [if_pos c8] at h
      obtain ⟨y11, μ9, hr10, h⟩ := sh_bind_e h
      have hG9 := gp_X12_isTwo hG5 hr10
      have hF9 := hF5.trans (fp_X12_isTwo hG5 hr10)
      by_cases c12 : y11 = 0
      · rw [if_pos c12] at h
        obtain ⟨μ13, hr14, h⟩ := sh_bindv_e h
        have hG13 := gp_X12_triesAnew hG9 hr14
        have hF13 := hF9.trans (fp_X12_triesAnew hG9 hr14)
        obtain ⟨y18, μ16, hr17, h⟩ := sh_bind_e h
        have hG16 := gp_X12_isThree hG13 hr17
        have hF16 := hF13.trans (fp_X12_isThree hG13 hr17)
        by_cases c19 : y18 = 0
        · rw [if_pos c19] at h
          obtain ⟨e1, e2⟩ := sh_some2 h
          exact e2 ▸ hF16
        · rw [if_neg c19] at h
          obtain ⟨e1, e2⟩ := sh_some2 h
          exact e2 ▸ hF16
      · rw [if_neg c12] at h
        obtain ⟨e1, e2⟩ := sh_some2 h
        exact e2 ▸ hF9
    · rw [if_neg c8] at h
      obtain ⟨e1, e2⟩ := sh_some2 h
      exact e2 ▸ hF5
  · rw [if_neg c4] at h
    obtain ⟨e1, e2⟩ := sh_some2 h
    exact e2 ▸ hF1
theorem fp_X12_plan {a1 : Int32} {a2 : Int32} {a3 : Int32} {a4 : Int32} {μ μ' : sh_Mem} {v : Int32} (hG : sh_G μ) (h : f_X12_plan a1 a2 a3 a4 μ = some (v, μ')) : sh_offX μ μ' := by
  have hF : sh_offX μ μ := sh_offX.rf
  unfold f_X12_plan at h
  obtain ⟨y3, μ1, hr2, h⟩ := sh_bind_e h
  have hG1 := gp_X12_cellNumbered hG hr2
  have hF1 := hF.trans (fp_X12_cellNumbered hG hr2)
  obtain ⟨μ4, eμ4⟩ : ∃ y : sh_Mem, y = (sh_setI μ1 291 65 y3) := ⟨_, rfl⟩
  rw [sh_let_eq eμ4] at h
  have hG4 : sh_G μ4 := by rw [eμ4]; exact hG1
  have hF4 : sh_offX μ μ4 := by rw [eμ4]; exact sh_offX_I hF1 (by decide)
  obtain ⟨y7, μ5, hr6, h⟩ := sh_bind_e h
  have hG5 := gp_X12_cellNumbered hG4 hr6
  have hF5 := hF4.trans (fp_X12_cellNumbered hG4 hr6)
  obtain ⟨μ8, eμ8⟩ : ∃ y : sh_Mem, y = (sh_setI μ5 291 67 y7) := ⟨_, rfl⟩
  rw [sh_let_eq eμ8] at h
  have hG8 : sh_G μ8 := by rw [eμ8]; exact hG5
  have hF8 : sh_offX μ μ8 := by rw [eμ8]; exact sh_offX_I hF5 (by decide)
  by_cases c9 : (sh_i μ8 291 65) = (-1)
  · rw [if_pos c9] at h
    obtain ⟨e1, e2⟩ := sh_some2 h
    exact e2 ▸ hF8
  · rw [if_neg c9] at h
    by_cases c10 : (sh_i μ8 291 67) = (-1)
    · rw [if_pos c10] at h
      obtain ⟨e1, e2⟩ := sh_some2 h
      exact e2 ▸ hF8
    · rw [if_neg c10] at h
      by_cases c11 : (f_X12_isIn μ8 (a2).toInt64 0 99) = 0
      · rw [if_pos c11] at h
        obtain ⟨e1, e2⟩ := sh_some2 h
        exact e2 ▸ hF8
      · rw [if_neg c11] at h
        by_cases c12 : (-1) ≤ a4
        · rw [if_pos c12] at h
          obtain ⟨μ13, eμ13⟩ : ∃ y : sh_Mem, y = (sh_setI μ8 291 66 a2) := ⟨_, rfl⟩
          rw [sh_let_eq eμ13] at h
          have hG13 : sh_G μ13 := by rw [eμ13]; exact hG8
          have hF13 : sh_offX μ μ13 := by rw [eμ13]; exact sh_offX_I hF8 (by decide)
          obtain ⟨y16, μ14, hr15, h⟩ := sh_bind_e h
          have hG14 := gp_X12_heightOf hG13 hr15
          have hF14 := hF13.trans (fp_X12_heightOf hG13 hr15)
          obtain ⟨μ17, eμ17⟩ : ∃ y : sh_Mem, y = (sh_setI μ14 291 68 y16) := ⟨_, rfl⟩
          rw [sh_let_eq eμ17] at h
          have hG17 : sh_G μ17 := by rw [eμ17]; exact hG14
          have hF17 : sh_offX μ μ17 := by rw [eμ17]; exact sh_offX_I hF14 (by decide)
          obtain ⟨μ18, hr19, h⟩ := sh_bindv_e h
          have hG18 := gp_X12_putsAside hG17 hr19
          have hF18 := hF17.trans (fp_X12_putsAside hG17 hr19)
          obtain ⟨y23, μ21, hr22, h⟩ := sh_bind_e h
          have hG21 := gp_X12_planMany hG18 hr22
          have hF21 := hF18.trans (fp_X12_planMany hG18 hr22)
          obtain ⟨μ24, hr25, h⟩ := sh_bindv_e h
          have hG24 := gp_X12_takesBack hG21 hr25
          have hF24 := hF21.trans (fp_X12_takesBack hG21 hr25)
          by_cases c27 : a4 = (-1)
          · rw [if_pos c27] at h
            obtain ⟨e1, e2⟩ := sh_some2 h
            exact e2 ▸ hF24
          · rw [if_neg c27] at h
            by_cases c28 : y23 = (-1)
            · rw [if_pos c28] at h
              obtain ⟨e1, e2⟩ := sh_some2 h
              exact e2 ▸ hF24
            · rw [if_neg c28] at h
              by_cases c29 : y23 ≤ a4
              · rw [if_pos c29] at h
                obtain ⟨e1, e2⟩ := sh_some2 h
                exact e2 ▸ hF24
              · rw [if_neg c29] at h
                obtain ⟨k30, h⟩ := sh_chk h
                obtain ⟨y33, μ31, hr32, h⟩ := sh_bind_e h
                have hG31 := gp_X12_topicMany hG24 hr32
                have hF31 := hF24.trans (fp_X12_topicMany hG24 hr32)
                obtain ⟨k34, h⟩ := sh_chk h
                obtain ⟨k35, h⟩ := sh_chk h
                obtain ⟨y38, μ36, hr37, h⟩ := sh_bind_e h
                have hG36 := gp_X12_topicMany hG31 hr37
                have hF36 := hF31.trans (fp_X12_topicMany hG31 hr37)
                obtain ⟨k39, h⟩ := sh_chk h
                obtain ⟨e1, e2⟩ := sh_some2 h
                exact e2 ▸ hF36
        · rw [if_neg c12] at h
          obtain ⟨e1, e2⟩ := sh_some2 h
          exact e2 ▸ hF8
theorem fp_X12_isWayKept {a1 : Int32} {a2 : Int32} {a3 : Int32} {a4 : Int32} {a5 : Int32} {μ μ' : sh_Mem} {v : Int32} (hG : sh_G μ) (h : f_X12_isWayKept a1 a2 a3 a4 a5 μ = some (v, μ')) : sh_offX μ μ' := by
  have hF : sh_offX μ μ := sh_offX.rf
  unfold f_X12_isWayKept at h
  obtain ⟨μ1, eμ1⟩ : ∃ y : sh_Mem, y = (sh_setI μ 291 60 a1) := ⟨_, rfl⟩
  rw [sh_let_eq eμ1] at h
  have hG1 : sh_G μ1 := by rw [eμ1]; exact hG
  have hF1 : sh_offX μ μ1 := by rw [eμ1]; exact sh_offX_I hF (by decide)
  obtain ⟨μ2, hr3, h⟩ := sh_bindv_e h
  have hG2 := gp_X12_daysGo hG1 hr3
  have hF2 := hF1.trans (fp_X12_daysGo hG1 hr3)
  obtain ⟨y7, μ5, hr6, h⟩ := sh_bind_e h
  have hG5 := gp_X12_wayCost hG2 hr6
  have hF5 := hF2.trans (fp_X12_wayCost hG2 hr6)
  by_cases c8 : a5 < y7
  · rw [if_pos c8] at h
    obtain ⟨μ9, hr10, h⟩ := sh_bindv_e h
    have hG9 := gp_X12_triesAnew hG5 hr10
    have hF9 := hF5.trans (fp_X12_triesAnew hG5 hr10)
    obtain ⟨e1, e2⟩ := sh_some2 h
    exact e2 ▸ hF9
  · rw [if_neg c8] at h
    obtain ⟨μ12, hr13, h⟩ := sh_bindv_e h
    have hG12 := gp_X12_triesAnew hG5 hr13
    have hF12 := hF5.trans (fp_X12_triesAnew hG5 hr13)
    obtain ⟨e1, e2⟩ := sh_some2 h
    exact e2 ▸ hF12
theorem fpl_X12_keeps (fuel : Nat) : (∀ ⦃i1 : Int32⦄ ⦃i2 : Int32⦄ ⦃i3 : Int32⦄ ⦃i4 : Int32⦄ ⦃i5 : Int32⦄ ⦃i6 : Int32⦄ ⦃i7 : Int32⦄ ⦃i8 : Int32⦄ ⦃μ μ' : sh_Mem⦄ ⦃v : Int32⦄, sh_G μ → F_X12_keeps fuel 1 i1 i2 i3 i4 i5 i6 i7 i8 μ = some (v, μ') → sh_offX μ μ') := by
  induction fuel with
  | zero => intro i1 i2 i3 i4 i5 i6 i7 i8 μ μ' v hG h; cases h
  | succ fuel ih =>
    have ih_59 := ih
    intro i1 i2 i3 i4 i5 i6 i7 i8 μ μ' v hG h
    replace h : (sh_bind (f_X12_personMany μ) (fun y44 μ42 => (if ((1 : Int32) <<< (y44 &&& 31)) ≤ i8 then sh_bindv (f_X12_takesBack μ42) (fun μ46 => some (i7, μ46)) else (if i7 = (-1) then sh_bind (f_X12_isWayKept i8 i4 i5 i3 i6 μ42) (fun y52 μ50 => (if y52 = 0 then F_X12_keeps fuel 1 i1 i2 i3 i4 i5 i6 i7 (i8 + 1) μ50 else F_X12_keeps fuel 1 i1 i2 i3 i4 i5 i6 i8 (i8 + 1) μ50)) else sh_bind (f_X12_bits i8 μ42) (fun y56 μ54 => sh_bind (f_X12_bits i7 μ54) (fun y59 μ57 => (if y56 < y59 then sh_bind (f_X12_isWayKept i8 i4 i5 i3 i6 μ57) (fun y63 μ61 => (if y63 = 0 then F_X12_keeps fuel 1 i1 i2 i3 i4 i5 i6 i7 (i8 + 1) μ61 else F_X12_keeps fuel 1 i1 i2 i3 i4 i5 i6 i8 (i8 + 1) μ61)) else F_X12_keeps fuel 1 i1 i2 i3 i4 i5 i6 i7 (i8 + 1) μ57)))))) : Option (Int32 × sh_Mem)) = some (v, μ') := h
    have hF : sh_offX μ μ := sh_offX.rf
    obtain ⟨y44, μ42, hr43, h⟩ := sh_bind_e h
    have hG42 := gp_X12_personMany hG hr43
    have hF42 := hF.trans (fp_X12_personMany hG hr43)
    by_cases c45 : ((1 : Int32) <<< (y44 &&& 31)) ≤ i8
    · rw [if_pos c45] at h
      obtain ⟨μ46, hr47, h⟩ := sh_bindv_e h
      have hG46 := gp_X12_takesBack hG42 hr47
      have hF46 := hF42.trans (fp_X12_takesBack hG42 hr47)
      obtain ⟨e1, e2⟩ := sh_some2 h
      exact e2 ▸ hF46
    · rw [if_neg c45] at h
      by_cases c49 : i7 = (-1)
      · rw [if_pos c49] at h
        obtain ⟨y52, μ50, hr51, h⟩ := sh_bind_e h
        have hG50 := gp_X12_isWayKept hG42 hr51
        have hF50 := hF42.trans (fp_X12_isWayKept hG42 hr51)
        by_cases c53 : y52 = 0
        · rw [if_pos c53] at h
          exact hF50.trans (ih_59 hG50 h)
        · rw [if_neg c53] at h
          exact hF50.trans (ih_59 hG50 h)
      · rw [if_neg c49] at h
        obtain ⟨y56, μ54, hr55, h⟩ := sh_bind_e h
        have hG54 := gp_X12_bits hG42 hr55
        have hF54 := hF42.trans (fp_X12_bits hG42 hr55)
        obtain ⟨y59, μ57, hr58, h⟩ := sh_bind_e h
        have hG57 := gp_X12_bits hG54 hr58
        have hF57 := hF54.trans (fp_X12_bits hG54 hr58)
        by_cases c60 : y56 < y59
        · rw [if_pos c60] at h
          obtain ⟨y63, μ61, hr62, h⟩ := sh_bind_e h
          have hG61 := gp_X12_isWayKept hG57 hr62
          have hF61 := hF57.trans (fp_X12_isWayKept hG57 hr62)
          by_cases c64 : y63 = 0
          · rw [if_pos c64] at h
            exact hF61.trans (ih_59 hG61 h)
          · rw [if_neg c64] at h
            exact hF61.trans (ih_59 hG61 h)
        · rw [if_neg c60] at h
          exact hF57.trans (ih_59 hG57 h)
theorem fp_X12_keeps {a1 : Int32} {a2 : Int32} {a3 : Int32} {μ μ' : sh_Mem} {v : Int32} (hG : sh_G μ) (h : f_X12_keeps a1 a2 a3 μ = some (v, μ')) : sh_offX μ μ' := by
  have ih_59 := (fpl_X12_keeps sh_fuel)
  have hF : sh_offX μ μ := sh_offX.rf
  unfold f_X12_keeps at h
  obtain ⟨y67, μ65, hr66, h⟩ := sh_bind_e h
  have hG65 := gp_X12_cellNumbered hG hr66
  have hF65 := hF.trans (fp_X12_cellNumbered hG hr66)
  obtain ⟨y70, μ68, hr69, h⟩ := sh_bind_e h
  have hG68 := gp_X12_cellNumbered hG65 hr69
  have hF68 := hF65.trans (fp_X12_cellNumbered hG65 hr69)
  by_cases c71 : y67 = (-1)
  · rw [if_pos c71] at h
    obtain ⟨e1, e2⟩ := sh_some2 h
    exact e2 ▸ hF68
  · rw [if_neg c71] at h
    by_cases c72 : y70 = (-1)
    · rw [if_pos c72] at h
      obtain ⟨e1, e2⟩ := sh_some2 h
      exact e2 ▸ hF68
    · rw [if_neg c72] at h
      obtain ⟨y75, μ73, hr74, h⟩ := sh_bind_e h
      have hG73 := gp_X12_isAhead hG68 hr74
      have hF73 := hF68.trans (fp_X12_isAhead hG68 hr74)
      by_cases c76 : y75 = 0
      · rw [if_pos c76] at h
        obtain ⟨e1, e2⟩ := sh_some2 h
        exact e2 ▸ hF73
      · rw [if_neg c76] at h
        obtain ⟨y79, μ77, hr78, h⟩ := sh_bind_e h
        have hG77 := gp_X12_wayCost hG73 hr78
        have hF77 := hF73.trans (fp_X12_wayCost hG73 hr78)
        obtain ⟨μ80, hr81, h⟩ := sh_bindv_e h
        have hG80 := gp_X12_putsAside hG77 hr81
        have hF80 := hF77.trans (fp_X12_putsAside hG77 hr81)
        exact hF80.trans (ih_59 hG80 h)
theorem fpl_X12_laysOwn (fuel : Nat) : (∀ ⦃i1 : Int32⦄ ⦃i2 : Int32⦄ ⦃i3 : Int32⦄ ⦃μ μ' : sh_Mem⦄, sh_G μ → F_X12_laysOwn fuel 1 i1 i2 i3 μ = some μ' → sh_offX μ μ') ∧ (∀ ⦃i1 : Int32⦄ ⦃i2 : Int32⦄ ⦃i3 : Int32⦄ ⦃μ μ' : sh_Mem⦄, sh_G μ → F_X12_laysOwn fuel 2 i1 i2 i3 μ = some μ' → sh_offX μ μ') := by
  induction fuel with
  | zero => exact ⟨(by intro i1 i2 i3 μ μ' hG h; cases h), (by intro i1 i2 i3 μ μ' hG h; cases h)⟩
  | succ fuel ih =>
    obtain ⟨ih_6, ih_28⟩ := ih
    refine ⟨?_, ?_⟩
    · intro i1 i2 i3 μ μ' hG h
      replace h : (sh_bind (f_X12_personMany μ) (fun y58 μ56 => (if ((1 : Int32) <<< (y58 &&& 31)) ≤ i2 then sh_bindv (f_X12_takesBack μ56) (fun μ60 => some μ60) else sh_let (sh_setI μ56 291 60 i2) (fun μ63 => sh_bindv (f_X12_daysGo i1 μ63) (fun μ64 => F_X12_laysOwn fuel 2 i1 i2 0 μ64)))) : Option sh_Mem) = some μ' := h
      have hF : sh_offX μ μ := sh_offX.rf
      obtain ⟨y58, μ56, hr57, h⟩ := sh_bind_e h
      have hG56 := gp_X12_personMany hG hr57
      have hF56 := hF.trans (fp_X12_personMany hG hr57)
      by_cases c59 : ((1 : Int32) <<< (y58 &&& 31)) ≤ i2
      · rw [if_pos c59] at h
        obtain ⟨μ60, hr61, h⟩ := sh_bindv_e h
        have hG60 := gp_X12_takesBack hG56 hr61
        have hF60 := hF56.trans (fp_X12_takesBack hG56 hr61)
        have e2 := Option.some.inj h
        exact e2 ▸ hF60
      · rw [if_neg c59] at h
        obtain ⟨μ63, eμ63⟩ : ∃ y : sh_Mem, y = (sh_setI μ56 291 60 i2) := ⟨_, rfl⟩
        rw [sh_let_eq eμ63] at h
        have hG63 : sh_G μ63 := by rw [eμ63]; exact hG56
        have hF63 : sh_offX μ μ63 := by rw [eμ63]; exact sh_offX_I hF56 (by decide)
        obtain ⟨μ64, hr65, h⟩ := sh_bindv_e h
        have hG64 := gp_X12_daysGo hG63 hr65
        have hF64 := hF63.trans (fp_X12_daysGo hG63 hr65)
        exact hF64.trans (ih_28 hG64 h)
    · intro i1 i2 i3 μ μ' hG h
      replace h : (sh_bind (f_X12_personMany μ) (fun y69 μ67 => (if y69 ≤ i3 then sh_bindv (f_X12_triesAnew μ67) (fun μ71 => F_X12_laysOwn fuel 1 i1 (i2 + 1) 0 μ71) else sh_bind (f_X12_cellOf i3 μ67) (fun y76 μ74 => sh_bind (f_X12_heightOf y76 μ74) (fun y79 μ77 => (if sh_in ((7 * i2) + i3) 896 then sh_let (sh_setI μ77 337 (((7 * i2) + i3)).toNatClampNeg y79) (fun μ81 => F_X12_laysOwn fuel 2 i1 i2 (i3 + 1) μ81) else none))))) : Option sh_Mem) = some μ' := h
      have hF : sh_offX μ μ := sh_offX.rf
      obtain ⟨y69, μ67, hr68, h⟩ := sh_bind_e h
      have hG67 := gp_X12_personMany hG hr68
      have hF67 := hF.trans (fp_X12_personMany hG hr68)
      by_cases c70 : y69 ≤ i3
      · rw [if_pos c70] at h
        obtain ⟨μ71, hr72, h⟩ := sh_bindv_e h
        have hG71 := gp_X12_triesAnew hG67 hr72
        have hF71 := hF67.trans (fp_X12_triesAnew hG67 hr72)
        exact hF71.trans (ih_6 hG71 h)
      · rw [if_neg c70] at h
        obtain ⟨y76, μ74, hr75, h⟩ := sh_bind_e h
        have hG74 := gp_X12_cellOf hG67 hr75
        have hF74 := hF67.trans (fp_X12_cellOf hG67 hr75)
        obtain ⟨y79, μ77, hr78, h⟩ := sh_bind_e h
        have hG77 := gp_X12_heightOf hG74 hr78
        have hF77 := hF74.trans (fp_X12_heightOf hG74 hr78)
        obtain ⟨k80, h⟩ := sh_chk h
        obtain ⟨μ81, eμ81⟩ : ∃ y : sh_Mem, y = (sh_setI μ77 337 (((7 * i2) + i3)).toNatClampNeg y79) := ⟨_, rfl⟩
        rw [sh_let_eq eμ81] at h
        have hG81 : sh_G μ81 := by rw [eμ81]; exact hG77
        have hF81 : sh_offX μ μ81 := by rw [eμ81]; exact sh_offX_I hF77 (by decide)
        exact hF81.trans (ih_28 hG81 h)
theorem fp_X12_laysOwn {a1 : Int32} {μ μ' : sh_Mem} (hG : sh_G μ) (h : f_X12_laysOwn a1 μ = some μ') : sh_offX μ μ' := by
  have ih_6 := (fpl_X12_laysOwn sh_fuel).1
  have ih_28 := (fpl_X12_laysOwn sh_fuel).2
  have hF : sh_offX μ μ := sh_offX.rf
  unfold f_X12_laysOwn at h
  obtain ⟨μ82, hr83, h⟩ := sh_bindv_e h
  have hG82 := gp_X12_putsAside hG hr83
  have hF82 := hF.trans (fp_X12_putsAside hG hr83)
  exact hF82.trans (ih_6 hG82 h)
theorem fpl_X12_rest (fuel : Nat) : (∀ ⦃i1 : Int32⦄ ⦃i2 : Int32⦄ ⦃i3 : Int32⦄ ⦃μ μ' : sh_Mem⦄ ⦃v : Int32⦄, sh_G μ → F_X12_rest fuel 1 i1 i2 i3 μ = some (v, μ') → sh_offX μ μ') := by
  induction fuel with
  | zero => intro i1 i2 i3 μ μ' v hG h; cases h
  | succ fuel ih =>
    have ih_22 := ih
    intro i1 i2 i3 μ μ' v hG h
    replace h : (sh_bind (f_X12_personMany μ) (fun y30 μ28 => (if ((1 : Int32) <<< (y30 &&& 31)) ≤ i3 then some (i2, μ28) else (if i2 = (-1) then sh_bind (f_X12_isRest i3 μ28) (fun y35 μ33 => (if y35 = 0 then F_X12_rest fuel 1 i1 i2 (i3 + 1) μ33 else F_X12_rest fuel 1 i1 i3 (i3 + 1) μ33)) else sh_bind (f_X12_bits i3 μ28) (fun y39 μ37 => sh_bind (f_X12_bits i2 μ37) (fun y42 μ40 => (if y39 < y42 then sh_bind (f_X12_isRest i3 μ40) (fun y46 μ44 => (if y46 = 0 then F_X12_rest fuel 1 i1 i2 (i3 + 1) μ44 else F_X12_rest fuel 1 i1 i3 (i3 + 1) μ44)) else F_X12_rest fuel 1 i1 i2 (i3 + 1) μ40)))))) : Option (Int32 × sh_Mem)) = some (v, μ') := h
    have hF : sh_offX μ μ := sh_offX.rf
    obtain ⟨y30, μ28, hr29, h⟩ := sh_bind_e h
    have hG28 := gp_X12_personMany hG hr29
    have hF28 := hF.trans (fp_X12_personMany hG hr29)
    by_cases c31 : ((1 : Int32) <<< (y30 &&& 31)) ≤ i3
    · rw [if_pos c31] at h
      obtain ⟨e1, e2⟩ := sh_some2 h
      exact e2 ▸ hF28
    · rw [if_neg c31] at h
      by_cases c32 : i2 = (-1)
      · rw [if_pos c32] at h
        obtain ⟨y35, μ33, hr34, h⟩ := sh_bind_e h
        have hG33 := gp_X12_isRest hG28 hr34
        have hF33 := hF28.trans (fp_X12_isRest hG28 hr34)
        by_cases c36 : y35 = 0
        · rw [if_pos c36] at h
          exact hF33.trans (ih_22 hG33 h)
        · rw [if_neg c36] at h
          exact hF33.trans (ih_22 hG33 h)
      · rw [if_neg c32] at h
        obtain ⟨y39, μ37, hr38, h⟩ := sh_bind_e h
        have hG37 := gp_X12_bits hG28 hr38
        have hF37 := hF28.trans (fp_X12_bits hG28 hr38)
        obtain ⟨y42, μ40, hr41, h⟩ := sh_bind_e h
        have hG40 := gp_X12_bits hG37 hr41
        have hF40 := hF37.trans (fp_X12_bits hG37 hr41)
        by_cases c43 : y39 < y42
        · rw [if_pos c43] at h
          obtain ⟨y46, μ44, hr45, h⟩ := sh_bind_e h
          have hG44 := gp_X12_isRest hG40 hr45
          have hF44 := hF40.trans (fp_X12_isRest hG40 hr45)
          by_cases c47 : y46 = 0
          · rw [if_pos c47] at h
            exact hF44.trans (ih_22 hG44 h)
          · rw [if_neg c47] at h
            exact hF44.trans (ih_22 hG44 h)
        · rw [if_neg c43] at h
          exact hF40.trans (ih_22 hG40 h)
theorem fp_X12_rest {a1 : Int32} {μ μ' : sh_Mem} {v : Int32} (hG : sh_G μ) (h : f_X12_rest a1 μ = some (v, μ')) : sh_offX μ μ' := by
  have ih_22 := (fpl_X12_rest sh_fuel)
  have hF : sh_offX μ μ := sh_offX.rf
  unfold f_X12_rest at h
  obtain ⟨y50, μ48, hr49, h⟩ := sh_bind_e h
  have hG48 := gp_X12_isAhead hG hr49
  have hF48 := hF.trans (fp_X12_isAhead hG hr49)
  by_cases c51 : y50 = 0
  · rw [if_pos c51] at h
    obtain ⟨e1, e2⟩ := sh_some2 h
    exact e2 ▸ hF48
  · rw [if_neg c51] at h
    obtain ⟨μ52, hr53, h⟩ := sh_bindv_e h
    have hG52 := gp_X12_laysOwn hG48 hr53
    have hF52 := hF48.trans (fp_X12_laysOwn hG48 hr53)
    exact hF52.trans (ih_22 hG52 h)
theorem fpl_X12_laysWho (fuel : Nat) : (∀ ⦃i1 : Int32⦄ ⦃i2 : Int32⦄ ⦃i3 : Int32⦄ ⦃i4 : Int32⦄ ⦃i5 : Int32⦄ ⦃μ μ' : sh_Mem⦄, sh_G μ → F_X12_laysWho fuel 1 i1 i2 i3 i4 i5 μ = some μ' → sh_offX μ μ') ∧ (∀ ⦃i1 : Int32⦄ ⦃i2 : Int32⦄ ⦃i3 : Int32⦄ ⦃i4 : Int32⦄ ⦃i5 : Int32⦄ ⦃μ μ' : sh_Mem⦄, sh_G μ → F_X12_laysWho fuel 2 i1 i2 i3 i4 i5 μ = some μ' → sh_offX μ μ') ∧ (∀ ⦃i1 : Int32⦄ ⦃i2 : Int32⦄ ⦃i3 : Int32⦄ ⦃i4 : Int32⦄ ⦃i5 : Int32⦄ ⦃μ μ' : sh_Mem⦄, sh_G μ → F_X12_laysWho fuel 3 i1 i2 i3 i4 i5 μ = some μ' → sh_offX μ μ') := by
  induction fuel with
  | zero => exact ⟨(by intro i1 i2 i3 i4 i5 μ μ' hG h; cases h), (by intro i1 i2 i3 i4 i5 μ μ' hG h; cases h), (by intro i1 i2 i3 i4 i5 μ μ' hG h; cases h)⟩
  | succ fuel ih =>
    obtain ⟨ih_11, ih_31, ih_60⟩ := ih
    refine ⟨?_, ?_, ?_⟩
    · intro i1 i2 i3 i4 i5 μ μ' hG h
      replace h : (sh_bind (f_X12_personMany μ) (fun y67 μ65 => (if y67 ≤ i2 then sh_bindv (f_X12_takesBack μ65) (fun μ69 => some μ69) else sh_bind (f_X12_isAsked i2 i1 μ65) (fun y74 μ72 => F_X12_laysWho fuel 2 i1 i2 1 0 0 μ72))) : Option sh_Mem) = some μ' := h
      have hF : sh_offX μ μ := sh_offX.rf
      obtain ⟨y67, μ65, hr66, h⟩ := sh_bind_e h
      have hG65 := gp_X12_personMany hG hr66
      have hF65 := hF.trans (fp_X12_personMany hG hr66)
      by_cases c68 : y67 ≤ i2
      · rw [if_pos c68] at h
        obtain ⟨μ69, hr70, h⟩ := sh_bindv_e h
        have hG69 := gp_X12_takesBack hG65 hr70
        have hF69 := hF65.trans (fp_X12_takesBack hG65 hr70)
        have e2 := Option.some.inj h
        exact e2 ▸ hF69
      · rw [if_neg c68] at h
        obtain ⟨y74, μ72, hr73, h⟩ := sh_bind_e h
        have hG72 := gp_X12_isAsked hG65 hr73
        have hF72 := hF65.trans (fp_X12_isAsked hG65 hr73)
        exact hF72.trans (ih_31 hG72 h)
    · intro i1 i2 i3 i4 i5 μ μ' hG h
      replace h : ((if 30 < i4 then sh_bindv (f_X12_triesAnew μ) (fun μ76 => (if i3 = 0 then F_X12_laysWho fuel 1 i1 (i2 + 1) 0 0 0 μ76 else sh_let (sh_setI μ76 291 74 ((sh_i μ76 291 74) ||| ((1 : Int32) <<< (i2 &&& 31)))) (fun μ80 => F_X12_laysWho fuel 1 i1 (i2 + 1) 0 0 0 μ80))) else (if i3 = 0 then F_X12_laysWho fuel 3 i1 i2 0 i4 0 μ else sh_bind (f_X12_isAsSeen i4 μ) (fun y84 μ82 => (if y84 = 0 then F_X12_laysWho fuel 3 i1 i2 0 i4 0 μ82 else F_X12_laysWho fuel 3 i1 i2 1 i4 0 μ82)))) : Option sh_Mem) = some μ' := h
      have hF : sh_offX μ μ := sh_offX.rf
      by_cases c75 : 30 < i4
      · rw [if_pos c75] at h
        obtain ⟨μ76, hr77, h⟩ := sh_bindv_e h
        have hG76 := gp_X12_triesAnew hG hr77
        have hF76 := hF.trans (fp_X12_triesAnew hG hr77)
        by_cases c79 : i3 = 0
        · rw [if_pos c79] at h
          exact hF76.trans (ih_11 hG76 h)
        · rw [if_neg c79] at h
          obtain ⟨μ80, eμ80⟩ : ∃ y : sh_Mem, y = (sh_setI μ76 291 74 ((sh_i μ76 291 74) ||| ((1 : Int32) <<< (i2 &&& 31)))) := ⟨_, rfl⟩
          rw [sh_let_eq eμ80] at h
          have hG80 : sh_G μ80 := by rw [eμ80]; exact hG76
          have hF80 : sh_offX μ μ80 := by rw [eμ80]; exact sh_offX_I hF76 (by decide)
          exact hF80.trans (ih_11 hG80 h)
      · rw [if_neg c75] at h
        by_cases c81 : i3 = 0
        · rw [if_pos c81] at h
          exact hF.trans (ih_60 hG h)
        · rw [if_neg c81] at h
          obtain ⟨y84, μ82, hr83, h⟩ := sh_bind_e h
          have hG82 := gp_X12_isAsSeen hG hr83
          have hF82 := hF.trans (fp_X12_isAsSeen hG hr83)
          by_cases c85 : y84 = 0
          · rw [if_pos c85] at h
            exact hF82.trans (ih_60 hG82 h)
          · rw [if_neg c85] at h
            exact hF82.trans (ih_60 hG82 h)
    · intro i1 i2 i3 i4 i5 μ μ' hG h
      replace h : ((if 49 ≤ i5 then sh_bindv (f_X12_dayGoes μ) (fun μ87 => F_X12_laysWho fuel 2 i1 i2 i3 (i4 + 1) 0 μ87) else sh_bind (f_X12_heightOf i5 μ) (fun y92 μ90 => (if sh_in (((1519 * i2) + (49 * i4)) + i5) 10633 then sh_let (sh_setI μ90 339 ((((1519 * i2) + (49 * i4)) + i5)).toNatClampNeg y92) (fun μ94 => F_X12_laysWho fuel 3 i1 i2 i3 i4 (i5 + 1) μ94) else none))) : Option sh_Mem) = some μ' := h
      have hF : sh_offX μ μ := sh_offX.rf
      by_cases c86 : 49 ≤ i5
      · rw [if_pos c86] at h
        obtain ⟨μ87, hr88, h⟩ := sh_bindv_e h
        have hG87 := gp_X12_dayGoes hG hr88
        have hF87 := hF.trans (fp_X12_dayGoes hG hr88)
        exact hF87.trans (ih_31 hG87 h)
      · rw [if_neg c86] at h
        obtain ⟨y92, μ90, hr91, h⟩ := sh_bind_e h
        have hG90 := gp_X12_heightOf hG hr91
        have hF90 := hF.trans (fp_X12_heightOf hG hr91)
        obtain ⟨k93, h⟩ := sh_chk h
        obtain ⟨μ94, eμ94⟩ : ∃ y : sh_Mem, y = (sh_setI μ90 339 ((((1519 * i2) + (49 * i4)) + i5)).toNatClampNeg y92) := ⟨_, rfl⟩
        rw [sh_let_eq eμ94] at h
        have hG94 : sh_G μ94 := by rw [eμ94]; exact hG90
        have hF94 : sh_offX μ μ94 := by rw [eμ94]; exact sh_offX_I hF90 (by decide)
        exact hF94.trans (ih_60 hG94 h)
theorem fp_X12_laysWho {a1 : Int32} {μ μ' : sh_Mem} (hG : sh_G μ) (h : f_X12_laysWho a1 μ = some μ') : sh_offX μ μ' := by
  have ih_11 := (fpl_X12_laysWho sh_fuel).1
  have ih_31 := (fpl_X12_laysWho sh_fuel).2.1
  have ih_60 := (fpl_X12_laysWho sh_fuel).2.2
  have hF : sh_offX μ μ := sh_offX.rf
  unfold f_X12_laysWho at h
  obtain ⟨μ95, eμ95⟩ : ∃ y : sh_Mem, y = (sh_setI μ 291 74 0) := ⟨_, rfl⟩
  rw [sh_let_eq eμ95] at h
  have hG95 : sh_G μ95 := by rw [eμ95]; exact hG
  have hF95 : sh_offX μ μ95 := by rw [eμ95]; exact sh_offX_I hF (by decide)
  obtain ⟨μ96, hr97, h⟩ := sh_bindv_e h
  have hG96 := gp_X12_putsAside hG95 hr97
  have hF96 := hF95.trans (fp_X12_putsAside hG95 hr97)
  exact hF96.trans (ih_11 hG96 h)
theorem fp_X12_who {a1 : Int32} {μ μ' : sh_Mem} {v : Int32} (hG : sh_G μ) (h : f_X12_who a1 μ = some (v, μ')) : sh_offX μ μ' := by
  have hF : sh_offX μ μ := sh_offX.rf
  unfold f_X12_who at h
  obtain ⟨y3, μ1, hr2, h⟩ := sh_bind_e h
  have hG1 := gp_X12_isTopic hG hr2
  have hF1 := hF.trans (fp_X12_isTopic hG hr2)
  by_cases c4 : y3 = 0
  · rw [if_pos c4] at h
    obtain ⟨e1, e2⟩ := sh_some2 h
    exact e2 ▸ hF1
  · rw [if_neg c4] at h
    obtain ⟨μ5, hr6, h⟩ := sh_bindv_e h
    have hG5 := gp_X12_laysWho hG1 hr6
    have hF5 := hF1.trans (fp_X12_laysWho hG1 hr6)
    obtain ⟨e1, e2⟩ := sh_some2 h
    exact e2 ▸ hF5
theorem fpl_X12_tells (fuel : Nat) : (∀ ⦃i1 : Int32⦄ ⦃i2 : Int32⦄ ⦃i3 : Int32⦄ ⦃i4 : Int32⦄ ⦃i5 : Int32⦄ ⦃i6 : Int32⦄ ⦃i7 : Int32⦄ ⦃μ μ' : sh_Mem⦄ ⦃v : Int32⦄, sh_G μ → F_X12_tells fuel 1 i1 i2 i3 i4 i5 i6 i7 μ = some (v, μ') → sh_offX μ μ') ∧ (∀ ⦃i1 : Int32⦄ ⦃i2 : Int32⦄ ⦃i3 : Int32⦄ ⦃i4 : Int32⦄ ⦃i5 : Int32⦄ ⦃i6 : Int32⦄ ⦃i7 : Int32⦄ ⦃μ μ' : sh_Mem⦄ ⦃v : Int32⦄, sh_G μ → F_X12_tells fuel 2 i1 i2 i3 i4 i5 i6 i7 μ = some (v, μ') → sh_offX μ μ') := by
  induction fuel with
  | zero => exact ⟨(by intro i1 i2 i3 i4 i5 i6 i7 μ μ' v hG h; cases h), (by intro i1 i2 i3 i4 i5 i6 i7 μ μ' v hG h; cases h)⟩
  | succ fuel ih =>
    obtain ⟨ih_39, ih_61⟩ := ih
    refine ⟨?_, ?_⟩
    · intro i1 i2 i3 i4 i5 i6 i7 μ μ' v hG h
      replace h : ((if (sh_i μ 291 74) = 0 then (if i3 = (-1) then some ((-1), μ) else (if i2 = 0 then some (i3, μ) else (if i2 = 1 then sh_bind (f_X12_numberOf i4 μ) (fun y85 μ83 => some (y85, μ83)) else some (i5, μ)))) else sh_bind (f_X12_isAhead i6 0 30 μ) (fun y88 μ86 => (if y88 = 0 then (if i3 = (-1) then some ((-1), μ86) else (if i2 = 0 then some (i3, μ86) else (if i2 = 1 then sh_bind (f_X12_numberOf i4 μ86) (fun y95 μ93 => some (y95, μ93)) else some (i5, μ86)))) else F_X12_tells fuel 2 i1 i2 i3 i4 i5 i6 0 μ86))) : Option (Int32 × sh_Mem)) = some (v, μ') := h
      have hF : sh_offX μ μ := sh_offX.rf
      by_cases c79 : (sh_i μ 291 74) = 0
      · rw [if_pos c79] at h
        by_cases c80 : i3 = (-1)
        · rw [if_pos c80] at h
          obtain ⟨e1, e2⟩ := sh_some2 h
          exact e2 ▸ hF
        · rw [if_neg c80] at h
          by_cases c81 : i2 = 0
          · rw [if_pos c81] at h
            obtain ⟨e1, e2⟩ := sh_some2 h
            exact e2 ▸ hF
          · rw [if_neg c81] at h
            by_cases c82 : i2 = 1
            · rw [if_pos c82] at h
              obtain ⟨y85, μ83, hr84, h⟩ := sh_bind_e h
              have hG83 := gp_X12_numberOf hG hr84
              have hF83 := hF.trans (fp_X12_numberOf hG hr84)
              obtain ⟨e1, e2⟩ := sh_some2 h
              exact e2 ▸ hF83
            · rw [if_neg c82] at h
              obtain ⟨e1, e2⟩ := sh_some2 h
              exact e2 ▸ hF
      · rw [if_neg c79] at h
        obtain ⟨y88, μ86, hr87, h⟩ := sh_bind_e h
        have hG86 := gp_X12_isAhead hG hr87
        have hF86 := hF.trans (fp_X12_isAhead hG hr87)
        by_cases c89 : y88 = 0
        · rw [if_pos c89] at h
          by_cases c90 : i3 = (-1)
          · rw [if_pos c90] at h
            obtain ⟨e1, e2⟩ := sh_some2 h
            exact e2 ▸ hF86
          · rw [if_neg c90] at h
            by_cases c91 : i2 = 0
            · rw [if_pos c91] at h
              obtain ⟨e1, e2⟩ := sh_some2 h
              exact e2 ▸ hF86
            · rw [if_neg c91] at h
              by_cases c92 : i2 = 1
              · rw [if_pos c92] at h
                obtain ⟨y95, μ93, hr94, h⟩ := sh_bind_e h
                have hG93 := gp_X12_numberOf hG86 hr94
                have hF93 := hF86.trans (fp_X12_numberOf hG86 hr94)
                obtain ⟨e1, e2⟩ := sh_some2 h
                exact e2 ▸ hF93
              · rw [if_neg c92] at h
                obtain ⟨e1, e2⟩ := sh_some2 h
                exact e2 ▸ hF86
        · rw [if_neg c89] at h
          exact hF86.trans (ih_61 hG86 h)
    · intro i1 i2 i3 i4 i5 i6 i7 μ μ' v hG h
      replace h : (sh_bind (f_X12_cellMany μ) (fun y98 μ96 => (if y98 ≤ i7 then F_X12_tells fuel 1 i1 i2 i3 i4 i5 (i6 + 1) 0 μ96 else sh_bind (f_X12_cellOrder i7 μ96) (fun y102 μ100 => sh_bind (f_X12_mostAlike ((49 * i6) + y102) μ100) (fun y105 μ103 => (if i3 = (-1) then sh_bind (f_X12_cellOrder i7 μ103) (fun y109 μ107 => F_X12_tells fuel 2 i1 i2 i6 y109 y105 i6 (i7 + 1) μ107) else (if y105 < i5 then sh_bind (f_X12_cellOrder i7 μ103) (fun y113 μ111 => F_X12_tells fuel 2 i1 i2 i6 y113 y105 i6 (i7 + 1) μ111) else F_X12_tells fuel 2 i1 i2 i3 i4 i5 i6 (i7 + 1) μ103)))))) : Option (Int32 × sh_Mem)) = some (v, μ') := h
      have hF : sh_offX μ μ := sh_offX.rf
      obtain ⟨y98, μ96, hr97, h⟩ := sh_bind_e h
      have hG96 := gp_X12_cellMany hG hr97
      have hF96 := hF.trans (fp_X12_cellMany hG hr97)
      by_cases c99 : y98 ≤ i7
      · rw [if_pos c99] at h
        exact hF96.trans (ih_39 hG96 h)
      · rw [if_neg c99] at h
        obtain ⟨y102, μ100, hr101, h⟩ := sh_bind_e h
        have hG100 := gp_X12_cellOrder hG96 hr101
        have hF100 := hF96.trans (fp_X12_cellOrder hG96 hr101)
        obtain ⟨y105, μ103, hr104, h⟩ := sh_bind_e h
        have hG103 := gp_X12_mostAlike hG100 hr104
        have hF103 := hF100.trans (fp_X12_mostAlike hG100 hr104)
        by_cases c106 : i3 = (-1)
        · rw [if_pos c106] at h
          obtain ⟨y109, μ107, hr108, h⟩ := sh_bind_e h
          have hG107 := gp_X12_cellOrder hG103 hr108
          have hF107 := hF103.trans (fp_X12_cellOrder hG103 hr108)
          exact hF107.trans (ih_61 hG107 h)
        · rw [if_neg c106] at h
          by_cases c110 : y105 < i5
          · rw [if_pos c110] at h
            obtain ⟨y113, μ111, hr112, h⟩ := sh_bind_e h
            have hG111 := gp_X12_cellOrder hG103 hr112
            have hF111 := hF103.trans (fp_X12_cellOrder hG103 hr112)
            exact hF111.trans (ih_61 hG111 h)
          · rw [if_neg c110] at h
            exact hF103.trans (ih_61 hG103 h)
theorem fp_X12_tells {a1 : Int32} {a2 : Int32} {μ μ' : sh_Mem} {v : Int32} (hG : sh_G μ) (h : f_X12_tells a1 a2 μ = some (v, μ')) : sh_offX μ μ' := by
  have ih_39 := (fpl_X12_tells sh_fuel).1
  have ih_61 := (fpl_X12_tells sh_fuel).2
  have hF : sh_offX μ μ := sh_offX.rf
  unfold f_X12_tells at h
  obtain ⟨y116, μ114, hr115, h⟩ := sh_bind_e h
  have hG114 := gp_X12_isTopic hG hr115
  have hF114 := hF.trans (fp_X12_isTopic hG hr115)
  by_cases c117 : y116 = 0
  · rw [if_pos c117] at h
    obtain ⟨e1, e2⟩ := sh_some2 h
    exact e2 ▸ hF114
  · rw [if_neg c117] at h
    by_cases c118 : (f_X12_isIn μ114 (a2).toInt64 0 2) = 0
    · rw [if_pos c118] at h
      obtain ⟨e1, e2⟩ := sh_some2 h
      exact e2 ▸ hF114
    · rw [if_neg c118] at h
      obtain ⟨μ119, hr120, h⟩ := sh_bindv_e h
      have hG119 := gp_X12_laysWho hG114 hr120
      have hF119 := hF114.trans (fp_X12_laysWho hG114 hr120)
      exact hF119.trans (ih_39 hG119 h)
theorem fp_X12_asks {a1 : Int32} {a2 : Int32} {μ μ' : sh_Mem} {v : Int32} (hG : sh_G μ) (h : f_X12_asks a1 a2 μ = some (v, μ')) : sh_offX μ μ' := by
  have hF : sh_offX μ μ := sh_offX.rf
  unfold f_X12_asks at h
  obtain ⟨y3, μ1, hr2, h⟩ := sh_bind_e h
  have hG1 := gp_X12_isPerson hG hr2
  have hF1 := hF.trans (fp_X12_isPerson hG hr2)
  by_cases c4 : y3 = 0
  · rw [if_pos c4] at h
    obtain ⟨y7, μ5, hr6, h⟩ := sh_bind_e h
    have hG5 := gp_X12_refuses hG1 hr6
    have hF5 := hF1.trans (fp_X12_refuses hG1 hr6)
    obtain ⟨e1, e2⟩ := sh_some2 h
    exact e2 ▸ hF5
  · rw [if_neg c4] at h
    obtain ⟨y10, μ8, hr9, h⟩ := sh_bind_e h
    have hG8 := gp_X12_isTopic hG1 hr9
    have hF8 := hF1.trans (fp_X12_isTopic hG1 hr9)
    by_cases c11 : y10 = 0
    · rw [if_pos c11] at h
      obtain ⟨y20, μ18, hr19, h⟩ := sh_bind_e h
      have hG18 := gp_X12_refuses hG8 hr19
      have hF18 := hF8.trans (fp_X12_refuses hG8 hr19)
      obtain ⟨e1, e2⟩ := sh_some2 h
      exact e2 ▸ hF18
    · rw [if_neg c11] at h
      obtain ⟨μ12, hr13, h⟩ := sh_bindv_e h
      have hG12 := gp_X12_stores hG8 hr13
      have hF12 := hF8.trans (fp_X12_stores hG8 hr13)
      obtain ⟨y17, μ15, hr16, h⟩ := sh_bind_e h
      have hG15 := gp_X12_isAsked hG12 hr16
      have hF15 := hF12.trans (fp_X12_isAsked hG12 hr16)
      obtain ⟨e1, e2⟩ := sh_some2 h
      exact e2 ▸ hF15
theorem fp_X12_days {a1 : Int32} {μ μ' : sh_Mem} {v : Int32} (hG : sh_G μ) (h : f_X12_days a1 μ = some (v, μ')) : sh_offX μ μ' := by
  have hF : sh_offX μ μ := sh_offX.rf
  unfold f_X12_days at h
  obtain ⟨y3, μ1, hr2, h⟩ := sh_bind_e h
  have hG1 := gp_X12_isAhead hG hr2
  have hF1 := hF.trans (fp_X12_isAhead hG hr2)
  by_cases c4 : y3 = 0
  · rw [if_pos c4] at h
    obtain ⟨y14, μ12, hr13, h⟩ := sh_bind_e h
    have hG12 := gp_X12_refuses hG1 hr13
    have hF12 := hF1.trans (fp_X12_refuses hG1 hr13)
    obtain ⟨e1, e2⟩ := sh_some2 h
    exact e2 ▸ hF12
  · rw [if_neg c4] at h
    obtain ⟨μ5, hr6, h⟩ := sh_bindv_e h
    have hG5 := gp_X12_stores hG1 hr6
    have hF5 := hF1.trans (fp_X12_stores hG1 hr6)
    obtain ⟨μ8, eμ8⟩ : ∃ y : sh_Mem, y = (sh_setI μ5 291 58 0) := ⟨_, rfl⟩
    rw [sh_let_eq eμ8] at h
    have hG8 : sh_G μ8 := by rw [eμ8]; exact hG5
    have hF8 : sh_offX μ μ8 := by rw [eμ8]; exact sh_offX_I hF5 (by decide)
    obtain ⟨μ9, hr10, h⟩ := sh_bindv_e h
    have hG9 := gp_X12_daysGo hG8 hr10
    have hF9 := hF8.trans (fp_X12_daysGo hG8 hr10)
    obtain ⟨e1, e2⟩ := sh_some2 h
    exact e2 ▸ hF9
theorem fpl_X12_chance (fuel : Nat) : (∀ ⦃i1 : Int32⦄ ⦃i2 : Int32⦄ ⦃i3 : Int32⦄ ⦃μ μ' : sh_Mem⦄ ⦃v : Int32⦄, sh_G μ → F_X12_chance fuel 1 i1 i2 i3 μ = some (v, μ') → sh_offX μ μ') := by
  induction fuel with
  | zero => intro i1 i2 i3 μ μ' v hG h; cases h
  | succ fuel ih =>
    have ih_25 := ih
    intro i1 i2 i3 μ μ' v hG h
    replace h : ((if i1 ≤ i3 then some (i2, μ) else sh_bind (f_X12_drawOf 100 μ) (fun y58 μ56 => (if (sh_i μ56 321 (Int32.toNatClampNeg 5)) ≤ y58 then sh_bindv (f_X12_dayGoes μ56) (fun μ60 => F_X12_chance fuel 1 i1 i2 (i3 + 1) μ60) else sh_bind (f_X12_personMany μ56) (fun y65 μ63 => (if y65 ≤ 0 then sh_bindv (f_X12_dayGoes μ63) (fun μ67 => F_X12_chance fuel 1 i1 i2 (i3 + 1) μ67) else sh_bind (f_X12_topicMany μ63) (fun y72 μ70 => (if y72 ≤ 0 then sh_bindv (f_X12_dayGoes μ70) (fun μ74 => F_X12_chance fuel 1 i1 i2 (i3 + 1) μ74) else sh_bind (f_X12_personMany μ70) (fun y79 μ77 => sh_bind (f_X12_drawOf y79 μ77) (fun y82 μ80 => sh_bind (f_X12_topicMany μ80) (fun y85 μ83 => sh_bind (f_X12_drawOf y85 μ83) (fun y88 μ86 => sh_bind (f_X12_isAsked y82 y88 μ86) (fun y91 μ89 => (if y91 = 2 then sh_bindv (f_X12_dayGoes μ89) (fun μ96 => F_X12_chance fuel 1 i1 (i2 + 1) (i3 + 1) μ96) else sh_bindv (f_X12_dayGoes μ89) (fun μ93 => F_X12_chance fuel 1 i1 i2 (i3 + 1) μ93)))))))))))))) : Option (Int32 × sh_Mem)) = some (v, μ') := h
    have hF : sh_offX μ μ := sh_offX.rf
    by_cases c55 : i1 ≤ i3
    · rw [if_pos c55] at h
      obtain ⟨e1, e2⟩ := sh_some2 h
      exact e2 ▸ hF
    · rw [if_neg c55] at h
      obtain ⟨y58, μ56, hr57, h⟩ := sh_bind_e h
      have hG56 := gp_X12_drawOf hG hr57
      have hF56 := hF.trans (fp_X12_drawOf hG hr57)
      by_cases c59 : (sh_i μ56 321 (Int32.toNatClampNeg 5)) ≤ y58
      · rw [if_pos c59] at h
        obtain ⟨μ60, hr61, h⟩ := sh_bindv_e h
        have hG60 := gp_X12_dayGoes hG56 hr61
        have hF60 := hF56.trans (fp_X12_dayGoes hG56 hr61)
        exact hF60.trans (ih_25 hG60 h)
      · rw [if_neg c59] at h
        obtain ⟨y65, μ63, hr64, h⟩ := sh_bind_e h
        have hG63 := gp_X12_personMany hG56 hr64
        have hF63 := hF56.trans (fp_X12_personMany hG56 hr64)
        by_cases c66 : y65 ≤ 0
        · rw [if_pos c66] at h
          obtain ⟨μ67, hr68, h⟩ := sh_bindv_e h
          have hG67 := gp_X12_dayGoes hG63 hr68
          have hF67 := hF63.trans (fp_X12_dayGoes hG63 hr68)
          exact hF67.trans (ih_25 hG67 h)
        · rw [if_neg c66] at h
          obtain ⟨y72, μ70, hr71, h⟩ := sh_bind_e h
          have hG70 := gp_X12_topicMany hG63 hr71
          have hF70 := hF63.trans (fp_X12_topicMany hG63 hr71)
          by_cases c73 : y72 ≤ 0
          · rw [if_pos c73] at h
            obtain ⟨μ74, hr75, h⟩ := sh_bindv_e h
            have hG74 := gp_X12_dayGoes hG70 hr75
            have hF74 := hF70.trans (fp_X12_dayGoes hG70 hr75)
            exact hF74.trans (ih_25 hG74 h)
          · rw [if_neg c73] at h
            obtain ⟨y79, μ77, hr78, h⟩ := sh_bind_e h
            have hG77 := gp_X12_personMany hG70 hr78
            have hF77 := hF70.trans (fp_X12_personMany hG70 hr78)
            obtain ⟨y82, μ80, hr81, h⟩ := sh_bind_e h
            have hG80 := gp_X12_drawOf hG77 hr81
            have hF80 := hF77.trans (fp_X12_drawOf hG77 hr81)
            obtain ⟨y85, μ83, hr84, h⟩ := sh_bind_e h
            have hG83 := gp_X12_topicMany hG80 hr84
            have hF83 := hF80.trans (fp_X12_topicMany hG80 hr84)
            obtain ⟨y88, μ86, hr87, h⟩ := sh_bind_e h
            have hG86 := gp_X12_drawOf hG83 hr87
            have hF86 := hF83.trans (fp_X12_drawOf hG83 hr87)
            obtain ⟨y91, μ89, hr90, h⟩ := sh_bind_e h
            have hG89 := gp_X12_isAsked hG86 hr90
            have hF89 := hF86.trans (fp_X12_isAsked hG86 hr90)
            by_cases c92 : y91 = 2
            · rw [if_pos c92] at h
              obtain ⟨μ96, hr97, h⟩ := sh_bindv_e h
              have hG96 := gp_X12_dayGoes hG89 hr97
              have hF96 := hF89.trans (fp_X12_dayGoes hG89 hr97)
              exact hF96.trans (ih_25 hG96 h)
            · rw [if_neg c92] at h
              obtain ⟨μ93, hr94, h⟩ := sh_bindv_e h
              have hG93 := gp_X12_dayGoes hG89 hr94
              have hF93 := hF89.trans (fp_X12_dayGoes hG89 hr94)
              exact hF93.trans (ih_25 hG93 h)
theorem fp_X12_chance {a1 : Int32} {μ μ' : sh_Mem} {v : Int32} (hG : sh_G μ) (h : f_X12_chance a1 μ = some (v, μ')) : sh_offX μ μ' := by
  have ih_25 := (fpl_X12_chance sh_fuel)
  have hF : sh_offX μ μ := sh_offX.rf
  unfold f_X12_chance at h
  obtain ⟨y101, μ99, hr100, h⟩ := sh_bind_e h
  have hG99 := gp_X12_isAhead hG hr100
  have hF99 := hF.trans (fp_X12_isAhead hG hr100)
  by_cases c102 : y101 = 0
  · rw [if_pos c102] at h
    obtain ⟨y108, μ106, hr107, h⟩ := sh_bind_e h
    have hG106 := gp_X12_refuses hG99 hr107
    have hF106 := hF99.trans (fp_X12_refuses hG99 hr107)
    obtain ⟨e1, e2⟩ := sh_some2 h
    exact e2 ▸ hF106
  · rw [if_neg c102] at h
    obtain ⟨μ103, hr104, h⟩ := sh_bindv_e h
    have hG103 := gp_X12_stores hG99 hr104
    have hF103 := hF99.trans (fp_X12_stores hG99 hr104)
    exact hF103.trans (ih_25 hG103 h)
theorem fpl_X12_qTest (fuel : Nat) : (∀ ⦃i1 : Int32⦄ ⦃μ μ' : sh_Mem⦄, sh_G μ → F_X12_qTest fuel 1 i1 μ = some μ' → sh_offX μ μ') ∧ (∀ ⦃i1 : Int32⦄ ⦃μ μ' : sh_Mem⦄, sh_G μ → F_X12_qTest fuel 2 i1 μ = some μ' → sh_offX μ μ') := by
  induction fuel with
  | zero => exact ⟨(by intro i1 μ μ' hG h; cases h), (by intro i1 μ μ' hG h; cases h)⟩
  | succ fuel ih =>
    obtain ⟨ih_2, ih_110⟩ := ih
    refine ⟨?_, ?_⟩
    · intro i1 μ μ' hG h
      replace h : ((if i1 = 0 then F_X12_qTest fuel 2 i1 μ else (if (sh_i μ 291 5) = 0 then sh_bind (f_X12_look μ) (fun y77 μ75 => (if y77 = 91 then sh_bindv (f_X12_qOpens 25 (sh_i μ75 291 2) μ75) (fun μ100 => sh_let (sh_setI μ100 291 2 ((sh_i μ100 291 2) + 1)) (fun μ103 => F_X12_qTest fuel 1 i1 μ103)) else sh_bind (f_X12_isHere 347 3 μ75) (fun y81 μ79 => (if y81 = 0 then sh_bindv (f_X12_qFact μ79) (fun μ83 => sh_bindv (f_X12_qDropsNots μ83) (fun μ86 => (if (sh_i μ86 291 5) = 0 then sh_bind (f_X12_qGoesOnTest μ86) (fun y92 μ90 => (if y92 = 0 then F_X12_qTest fuel 1 0 μ90 else F_X12_qTest fuel 1 1 μ90)) else F_X12_qTest fuel 1 0 μ86))) else sh_bindv (f_X12_qOpens 12 (sh_i μ79 291 2) μ79) (fun μ94 => sh_bindv (f_X12_needs 347 3 μ94) (fun μ97 => F_X12_qTest fuel 1 i1 μ97)))))) else F_X12_qTest fuel 2 i1 μ)) : Option sh_Mem) = some μ' := h
      have hF : sh_offX μ μ := sh_offX.rf
      by_cases c73 : i1 = 0
      · rw [if_pos c73] at h
        exact hF.trans (ih_110 hG h)
      · rw [if_neg c73] at h
        by_cases c74 : (sh_i μ 291 5) = 0
        · rw [if_pos c74] at h
          obtain ⟨y77, μ75, hr76, h⟩ := sh_bind_e h
          have hG75 := gp_X12_look hG hr76
          have hF75 := hF.trans (fp_X12_look hG hr76)
          by_cases c78 : y77 = 91
          · rw [if_pos c78] at h
            obtain ⟨μ100, hr101, h⟩ := sh_bindv_e h
            have hG100 := gp_X12_qOpens hG75 hr101
            have hF100 := hF75.trans (fp_X12_qOpens hG75 hr101)
            obtain ⟨μ103, eμ103⟩ : ∃ y : sh_Mem, y = (sh_setI μ100 291 2 ((sh_i μ100 291 2) + 1)) := ⟨_, rfl⟩
            rw [sh_let_eq eμ103] at h
            have hG103 : sh_G μ103 := by rw [eμ103]; exact hG100
            have hF103 : sh_offX μ μ103 := by rw [eμ103]; exact sh_offX_I hF100 (by decide)
            exact hF103.trans (ih_2 hG103 h)
          · rw [if_neg c78] at h
            obtain ⟨y81, μ79, hr80, h⟩ := sh_bind_e h
            have hG79 := gp_X12_isHere hG75 (sh_LAYat_347) hr80
            have hF79 := hF75.trans (fp_X12_isHere hG75 (sh_LAYat_347) (by decide) hr80)
            by_cases c82 : y81 = 0
            · rw [if_pos c82] at h
              obtain ⟨μ83, hr84, h⟩ := sh_bindv_e h
              have hG83 := gp_X12_qFact hG79 hr84
              have hF83 := hF79.trans (fp_X12_qFact hG79 hr84)
              obtain ⟨μ86, hr87, h⟩ := sh_bindv_e h
              have hG86 := gp_X12_qDropsNots hG83 hr87
              have hF86 := hF83.trans (fp_X12_qDropsNots hG83 hr87)
              by_cases c89 : (sh_i μ86 291 5) = 0
              · rw [if_pos c89] at h
                obtain ⟨y92, μ90, hr91, h⟩ := sh_bind_e h
                have hG90 := gp_X12_qGoesOnTest hG86 hr91
                have hF90 := hF86.trans (fp_X12_qGoesOnTest hG86 hr91)
                by_cases c93 : y92 = 0
                · rw [if_pos c93] at h
                  exact hF90.trans (ih_2 hG90 h)
                · rw [if_neg c93] at h
                  exact hF90.trans (ih_2 hG90 h)
              · rw [if_neg c89] at h
                exact hF86.trans (ih_2 hG86 h)
            · rw [if_neg c82] at h
              obtain ⟨μ94, hr95, h⟩ := sh_bindv_e h
              have hG94 := gp_X12_qOpens hG79 hr95
              have hF94 := hF79.trans (fp_X12_qOpens hG79 hr95)
              obtain ⟨μ97, hr98, h⟩ := sh_bindv_e h
              have hG97 := gp_X12_needs hG94 (sh_LAYat_347) hr98
              have hF97 := hF94.trans (fp_X12_needs hG94 (sh_LAYat_347) (by decide) hr98)
              exact hF97.trans (ih_2 hG97 h)
        · rw [if_neg c74] at h
          exact hF.trans (ih_110 hG h)
    · intro i1 μ μ' hG h
      replace h : ((if (sh_i μ 291 5) = 0 then (if (sh_i μ 291 105) ≤ 0 then some μ else sh_bindv (f_X12_qDrops μ) (fun μ106 => F_X12_qTest fuel 2 i1 μ106)) else some μ) : Option sh_Mem) = some μ' := h
      have hF : sh_offX μ μ := sh_offX.rf
      by_cases c104 : (sh_i μ 291 5) = 0
      · rw [if_pos c104] at h
        by_cases c105 : (sh_i μ 291 105) ≤ 0
        · rw [if_pos c105] at h
          have e2 := Option.some.inj h
          exact e2 ▸ hF
        · rw [if_neg c105] at h
          obtain ⟨μ106, hr107, h⟩ := sh_bindv_e h
          have hG106 := gp_X12_qDrops hG hr107
          have hF106 := hF.trans (fp_X12_qDrops hG hr107)
          exact hF106.trans (ih_110 hG106 h)
      · rw [if_neg c104] at h
        have e2 := Option.some.inj h
        exact e2 ▸ hF
theorem fp_X12_qTest {μ μ' : sh_Mem} (hG : sh_G μ) (h : f_X12_qTest μ = some μ') : sh_offX μ μ' := by
  have ih_2 := (fpl_X12_qTest sh_fuel).1
  have ih_110 := (fpl_X12_qTest sh_fuel).2
  have hF : sh_offX μ μ := sh_offX.rf
  unfold f_X12_qTest at h
  exact hF.trans (ih_2 hG h)
theorem fpl_X12_ask (fuel : Nat) : (∀ ⦃i1 : Int32⦄ ⦃i2 : Int32⦄ ⦃μ μ' : sh_Mem⦄ ⦃v : Int64⦄, sh_G μ → F_X12_ask fuel 1 i1 i2 μ = some (v, μ') → sh_offX μ μ') ∧ (∀ ⦃i1 : Int32⦄ ⦃i2 : Int32⦄ ⦃μ μ' : sh_Mem⦄ ⦃v : Int64⦄, sh_G μ → F_X12_ask fuel 2 i1 i2 μ = some (v, μ') → sh_offX μ μ') ∧ (∀ ⦃i1 : Int32⦄ ⦃i2 : Int32⦄ ⦃μ μ' : sh_Mem⦄ ⦃v : Int64⦄, sh_G μ → F_X12_ask fuel 3 i1 i2 μ = some (v, μ') → sh_offX μ μ') ∧ (∀ ⦃i1 : Int32⦄ ⦃i2 : Int32⦄ ⦃μ μ' : sh_Mem⦄ ⦃v : Int64⦄, sh_G μ → F_X12_ask fuel 4 i1 i2 μ = some (v, μ') → sh_offX μ μ') := by
  induction fuel with
  | zero => exact ⟨(by intro i1 i2 μ μ' v hG h; cases h), (by intro i1 i2 μ μ' v hG h; cases h), (by intro i1 i2 μ μ' v hG h; cases h), (by intro i1 i2 μ μ' v hG h; cases h)⟩
  | succ fuel ih =>
    obtain ⟨ih_98, ih_109, ih_133, ih_192⟩ := ih
    refine ⟨?_, ?_, ?_, ?_⟩
    · intro i1 i2 μ μ' v hG h
      replace h : ((if (sh_i μ 291 5) = 0 then sh_bindv (f_X12_qSums μ) (fun μ101 => F_X12_ask fuel 2 i1 0 μ101) else F_X12_ask fuel 2 i1 0 μ) : Option (Int64 × sh_Mem)) = some (v, μ') := h
      have hF : sh_offX μ μ := sh_offX.rf
      by_cases c100 : (sh_i μ 291 5) = 0
      · rw [if_pos c100] at h
        obtain ⟨μ101, hr102, h⟩ := sh_bindv_e h
        have hG101 := gp_X12_qSums hG hr102
        have hF101 := hF.trans (fp_X12_qSums hG hr102)
        exact hF101.trans (ih_109 hG101 h)
      · rw [if_neg c100] at h
        exact hF.trans (ih_109 hG h)
    · intro i1 i2 μ μ' v hG h
      replace h : ((if (sh_i μ 291 5) = 0 then sh_bind (f_X12_look μ) (fun y107 μ105 => (if y107 = (-1) then F_X12_ask fuel 3 i1 0 μ105 else sh_bindv (f_X12_fail 1 (sh_i μ105 291 2) μ105) (fun μ109 => F_X12_ask fuel 3 i1 0 μ109))) else F_X12_ask fuel 3 i1 0 μ) : Option (Int64 × sh_Mem)) = some (v, μ') := h
      have hF : sh_offX μ μ := sh_offX.rf
      by_cases c104 : (sh_i μ 291 5) = 0
      · rw [if_pos c104] at h
        obtain ⟨y107, μ105, hr106, h⟩ := sh_bind_e h
        have hG105 := gp_X12_look hG hr106
        have hF105 := hF.trans (fp_X12_look hG hr106)
        by_cases c108 : y107 = (-1)
        · rw [if_pos c108] at h
          exact hF105.trans (ih_133 hG105 h)
        · rw [if_neg c108] at h
          obtain ⟨μ109, hr110, h⟩ := sh_bindv_e h
          have hG109 := gp_X12_fail hG105 hr110
          have hF109 := hF105.trans (fp_X12_fail hG105 hr110)
          exact hF109.trans (ih_133 hG109 h)
      · rw [if_neg c104] at h
        exact hF.trans (ih_133 hG h)
    · intro i1 i2 μ μ' v hG h
      replace h : (sh_let (sh_setI μ 291 7 (sh_i μ 291 5)) (fun μ112 => sh_let (sh_setI μ112 291 8 (sh_i μ112 291 6)) (fun μ113 => (if (sh_i μ113 291 5) = 0 then (if 2 ≤ i1 then sh_let (sh_setL μ113 291 110 0) (fun μ116 => sh_let (sh_setI μ116 291 111 1) (fun μ117 => sh_bindv (f_X12_laysLifted μ117) (fun μ118 => sh_let (sh_setI μ118 291 51 2) (fun μ121 => F_X12_ask fuel 4 i1 0 μ121)))) else sh_let (sh_setL μ113 291 110 (-1)) (fun μ122 => sh_let (sh_setI μ122 291 111 1) (fun μ123 => sh_bindv (f_X12_laysLifted μ123) (fun μ124 => sh_let (sh_setI μ124 291 51 2) (fun μ127 => F_X12_ask fuel 4 i1 0 μ127))))) else some ((-1000000000000000), μ113)))) : Option (Int64 × sh_Mem)) = some (v, μ') := h
      have hF : sh_offX μ μ := sh_offX.rf
      obtain ⟨μ112, eμ112⟩ : ∃ y : sh_Mem, y = (sh_setI μ 291 7 (sh_i μ 291 5)) := ⟨_, rfl⟩
      rw [sh_let_eq eμ112] at h
      have hG112 : sh_G μ112 := by rw [eμ112]; exact hG
      have hF112 : sh_offX μ μ112 := by rw [eμ112]; exact sh_offX_I hF (by decide)
      obtain ⟨μ113, eμ113⟩ : ∃ y : sh_Mem, y = (sh_setI μ112 291 8 (sh_i μ112 291 6)) := ⟨_, rfl⟩
      rw [sh_let_eq eμ113] at h
      have hG113 : sh_G μ113 := by rw [eμ113]; exact hG112
      have hF113 : sh_offX μ μ113 := by rw [eμ113]; exact sh_offX_I hF112 (by decide)
      by_cases c114 : (sh_i μ113 291 5) = 0
      · rw [if_pos c114] at h
        by_cases c115 : 2 ≤ i1
        · rw [if_pos c115] at h
          obtain ⟨μ116, eμ116⟩ : ∃ y : sh_Mem, y = (sh_setL μ113 291 110 0) := ⟨_, rfl⟩
          rw [sh_let_eq eμ116] at h
          have hG116 : sh_G μ116 := by rw [eμ116]; exact hG113
          have hF116 : sh_offX μ μ116 := by rw [eμ116]; exact sh_offX_L hF113 (by decide)
          obtain ⟨μ117, eμ117⟩ : ∃ y : sh_Mem, y = (sh_setI μ116 291 111 1) := ⟨_, rfl⟩
          rw [sh_let_eq eμ117] at h
          have hG117 : sh_G μ117 := by rw [eμ117]; exact hG116
          have hF117 : sh_offX μ μ117 := by rw [eμ117]; exact sh_offX_I hF116 (by decide)
          obtain ⟨μ118, hr119, h⟩ := sh_bindv_e h
          have hG118 := gp_X12_laysLifted hG117 hr119
          have hF118 := hF117.trans (fp_X12_laysLifted hG117 hr119)
          obtain ⟨μ121, eμ121⟩ : ∃ y : sh_Mem, y = (sh_setI μ118 291 51 2) := ⟨_, rfl⟩
          rw [sh_let_eq eμ121] at h
          have hG121 : sh_G μ121 := by rw [eμ121]; exact hG118
          have hF121 : sh_offX μ μ121 := by rw [eμ121]; exact sh_offX_I hF118 (by decide)
          exact hF121.trans (ih_192 hG121 h)
        · rw [if_neg c115] at h
          obtain ⟨μ122, eμ122⟩ : ∃ y : sh_Mem, y = (sh_setL μ113 291 110 (-1)) := ⟨_, rfl⟩
          rw [sh_let_eq eμ122] at h
          have hG122 : sh_G μ122 := by rw [eμ122]; exact hG113
          have hF122 : sh_offX μ μ122 := by rw [eμ122]; exact sh_offX_L hF113 (by decide)
          obtain ⟨μ123, eμ123⟩ : ∃ y : sh_Mem, y = (sh_setI μ122 291 111 1) := ⟨_, rfl⟩
          rw [sh_let_eq eμ123] at h
          have hG123 : sh_G μ123 := by rw [eμ123]; exact hG122
          have hF123 : sh_offX μ μ123 := by rw [eμ123]; exact sh_offX_I hF122 (by decide)
          obtain ⟨μ124, hr125, h⟩ := sh_bindv_e h
          have hG124 := gp_X12_laysLifted hG123 hr125
          have hF124 := hF123.trans (fp_X12_laysLifted hG123 hr125)
          obtain ⟨μ127, eμ127⟩ : ∃ y : sh_Mem, y = (sh_setI μ124 291 51 2) := ⟨_, rfl⟩
          rw [sh_let_eq eμ127] at h
          have hG127 : sh_G μ127 := by rw [eμ127]; exact hG124
          have hF127 : sh_offX μ μ127 := by rw [eμ127]; exact sh_offX_I hF124 (by decide)
          exact hF127.trans (ih_192 hG127 h)
      · rw [if_neg c114] at h
        obtain ⟨e1, e2⟩ := sh_some2 h
        exact e2 ▸ hF113
    · intro i1 i2 μ μ' v hG h
      replace h : (sh_bind (f_X12_personMany μ) (fun y130 μ128 => (if y130 ≤ i2 then some ((sh_l μ128 291 110), μ128) else sh_let (sh_setI μ128 291 54 i2) (fun μ132 => sh_bind (f_X12_qTold i2 μ132) (fun y135 μ133 => sh_bindv (f_X12_qTakes i1 y135 i2 μ133) (fun μ136 => F_X12_ask fuel 4 i1 (i2 + 1) μ136))))) : Option (Int64 × sh_Mem)) = some (v, μ') := h
      have hF : sh_offX μ μ := sh_offX.rf
      obtain ⟨y130, μ128, hr129, h⟩ := sh_bind_e h
      have hG128 := gp_X12_personMany hG hr129
      have hF128 := hF.trans (fp_X12_personMany hG hr129)
      by_cases c131 : y130 ≤ i2
      · rw [if_pos c131] at h
        obtain ⟨e1, e2⟩ := sh_some2 h
        exact e2 ▸ hF128
      · rw [if_neg c131] at h
        obtain ⟨μ132, eμ132⟩ : ∃ y : sh_Mem, y = (sh_setI μ128 291 54 i2) := ⟨_, rfl⟩
        rw [sh_let_eq eμ132] at h
        have hG132 : sh_G μ132 := by rw [eμ132]; exact hG128
        have hF132 : sh_offX μ μ132 := by rw [eμ132]; exact sh_offX_I hF128 (by decide)
        obtain ⟨y135, μ133, hr134, h⟩ := sh_bind_e h
        have hG133 := gp_X12_qTold hG132 hr134
        have hF133 := hF132.trans (fp_X12_qTold hG132 hr134)
        obtain ⟨μ136, hr137, h⟩ := sh_bindv_e h
        have hG136 := gp_X12_qTakes hG133 hr137
        have hF136 := hF133.trans (fp_X12_qTakes hG133 hr137)
        exact hF136.trans (ih_192 hG136 h)
theorem fp_X12_ask {μ μ' : sh_Mem} {v : Int64} (hG : sh_G μ) (h : f_X12_ask μ = some (v, μ')) : sh_offX μ μ' := by
  have ih_98 := (fpl_X12_ask sh_fuel).1
  have ih_109 := (fpl_X12_ask sh_fuel).2.1
  have ih_133 := (fpl_X12_ask sh_fuel).2.2.1
  have ih_192 := (fpl_X12_ask sh_fuel).2.2.2
  have hF : sh_offX μ μ := sh_offX.rf
  unfold f_X12_ask at h
  by_cases c139 : (sh_i μ 291 50) = 0
  · rw [if_pos c139] at h
    obtain ⟨μ159, eμ159⟩ : ∃ y : sh_Mem, y = (sh_setI μ 291 1 0) := ⟨_, rfl⟩
    rw [sh_let_eq eμ159] at h
    have hG159 : sh_G μ159 := by rw [eμ159]; exact hG
    have hF159 : sh_offX μ μ159 := by rw [eμ159]; exact sh_offX_I hF (by decide)
    obtain ⟨e1, e2⟩ := sh_some2 h
    exact e2 ▸ hF159
  · rw [if_neg c139] at h
    obtain ⟨μ140, eμ140⟩ : ∃ y : sh_Mem, y = (sh_setI μ 291 3 (sh_i μ 291 1)) := ⟨_, rfl⟩
    rw [sh_let_eq eμ140] at h
    have hG140 : sh_G μ140 := by rw [eμ140]; exact hG
    have hF140 : sh_offX μ μ140 := by rw [eμ140]; exact sh_offX_I hF (by decide)
    obtain ⟨μ141, eμ141⟩ : ∃ y : sh_Mem, y = (sh_setI μ140 291 1 0) := ⟨_, rfl⟩
    rw [sh_let_eq eμ141] at h
    have hG141 : sh_G μ141 := by rw [eμ141]; exact hG140
    have hF141 : sh_offX μ μ141 := by rw [eμ141]; exact sh_offX_I hF140 (by decide)
    obtain ⟨μ142, eμ142⟩ : ∃ y : sh_Mem, y = (sh_setI μ141 291 2 0) := ⟨_, rfl⟩
    rw [sh_let_eq eμ142] at h
    have hG142 : sh_G μ142 := by rw [eμ142]; exact hG141
    have hF142 : sh_offX μ μ142 := by rw [eμ142]; exact sh_offX_I hF141 (by decide)
    obtain ⟨μ143, eμ143⟩ : ∃ y : sh_Mem, y = (sh_setI μ142 291 4 (-1)) := ⟨_, rfl⟩
    rw [sh_let_eq eμ143] at h
    have hG143 : sh_G μ143 := by rw [eμ143]; exact hG142
    have hF143 : sh_offX μ μ143 := by rw [eμ143]; exact sh_offX_I hF142 (by decide)
    obtain ⟨μ144, eμ144⟩ : ∃ y : sh_Mem, y = (sh_setI μ143 291 5 0) := ⟨_, rfl⟩
    rw [sh_let_eq eμ144] at h
    have hG144 : sh_G μ144 := by rw [eμ144]; exact hG143
    have hF144 : sh_offX μ μ144 := by rw [eμ144]; exact sh_offX_I hF143 (by decide)
    obtain ⟨μ145, eμ145⟩ : ∃ y : sh_Mem, y = (sh_setI μ144 291 6 (-1)) := ⟨_, rfl⟩
    rw [sh_let_eq eμ145] at h
    have hG145 : sh_G μ145 := by rw [eμ145]; exact hG144
    have hF145 : sh_offX μ μ145 := by rw [eμ145]; exact sh_offX_I hF144 (by decide)
    obtain ⟨μ146, eμ146⟩ : ∃ y : sh_Mem, y = (sh_setI μ145 291 51 2) := ⟨_, rfl⟩
    rw [sh_let_eq eμ146] at h
    have hG146 : sh_G μ146 := by rw [eμ146]; exact hG145
    have hF146 : sh_offX μ μ146 := by rw [eμ146]; exact sh_offX_I hF145 (by decide)
    obtain ⟨μ147, eμ147⟩ : ∃ y : sh_Mem, y = (sh_setI μ146 291 103 0) := ⟨_, rfl⟩
    rw [sh_let_eq eμ147] at h
    have hG147 : sh_G μ147 := by rw [eμ147]; exact hG146
    have hF147 : sh_offX μ μ147 := by rw [eμ147]; exact sh_offX_I hF146 (by decide)
    obtain ⟨μ148, eμ148⟩ : ∃ y : sh_Mem, y = (sh_setI μ147 291 105 0) := ⟨_, rfl⟩
    rw [sh_let_eq eμ148] at h
    have hG148 : sh_G μ148 := by rw [eμ148]; exact hG147
    have hF148 : sh_offX μ μ148 := by rw [eμ148]; exact sh_offX_I hF147 (by decide)
    obtain ⟨μ149, eμ149⟩ : ∃ y : sh_Mem, y = (sh_setI μ148 291 106 0) := ⟨_, rfl⟩
    rw [sh_let_eq eμ149] at h
    have hG149 : sh_G μ149 := by rw [eμ149]; exact hG148
    have hF149 : sh_offX μ μ149 := by rw [eμ149]; exact sh_offX_I hF148 (by decide)
    obtain ⟨μ150, eμ150⟩ : ∃ y : sh_Mem, y = (sh_setI μ149 291 107 0) := ⟨_, rfl⟩
    rw [sh_let_eq eμ150] at h
    have hG150 : sh_G μ150 := by rw [eμ150]; exact hG149
    have hF150 : sh_offX μ μ150 := by rw [eμ150]; exact sh_offX_I hF149 (by decide)
    obtain ⟨y153, μ151, hr152, h⟩ := sh_bind_e h
    have hG151 := gp_X12_qKind hG150 hr152
    have hF151 := hF150.trans (fp_X12_qKind hG150 hr152)
    by_cases c154 : (sh_i μ151 291 5) = 0
    · rw [if_pos c154] at h
      by_cases c155 : 3 ≤ y153
      · rw [if_pos c155] at h
        exact hF151.trans (ih_98 hG151 h)
      · rw [if_neg c155] at h
        obtain ⟨μ156, hr157, h⟩ := sh_bindv_e h
        have hG156 := gp_X12_qTest hG151 hr157
        have hF156 := hF151.trans (fp_X12_qTest hG151 hr157)
        exact hF156.trans (ih_109 hG156 h)
    · rw [if_neg c154] at h
      exact hF151.trans (ih_98 hG151 h)
theorem fpl_X12_codesTold (fuel : Nat) : (∀ ⦃i1 : Int32⦄ ⦃i2 : Int32⦄ ⦃i3 : Int32⦄ ⦃μ μ' : sh_Mem⦄, sh_G μ → F_X12_codesTold fuel 1 i1 i2 i3 μ = some μ' → sh_offX μ μ') := by
  induction fuel with
  | zero => intro i1 i2 i3 μ μ' hG h; cases h
  | succ fuel ih =>
    have ih_100 := ih
    intro i1 i2 i3 μ μ' hG h
    replace h : ((if (sh_i μ 291 103) ≤ i3 then (if sh_in i1 6 then sh_let (sh_setI μ 328 i1.toNatClampNeg (sh_i μ 291 48)) (fun μ130 => some μ130) else none) else (if sh_in i3 1700 then (if sh_in (sh_i μ 291 48) 3200 then sh_let (sh_setI μ 329 ((sh_i μ 291 48)).toNatClampNeg (sh_i μ 364 i3.toNatClampNeg)) (fun μ133 => sh_let (sh_setI μ133 291 48 ((sh_i μ133 291 48) + 1)) (fun μ134 => F_X12_codesTold fuel 1 i1 i2 (i3 + 1) μ134)) else none) else none)) : Option sh_Mem) = some μ' := h
    have hF : sh_offX μ μ := sh_offX.rf
    by_cases c128 : (sh_i μ 291 103) ≤ i3
    · rw [if_pos c128] at h
      obtain ⟨k129, h⟩ := sh_chk h
      obtain ⟨μ130, eμ130⟩ : ∃ y : sh_Mem, y = (sh_setI μ 328 i1.toNatClampNeg (sh_i μ 291 48)) := ⟨_, rfl⟩
      rw [sh_let_eq eμ130] at h
      have hG130 : sh_G μ130 := by rw [eμ130]; exact hG
      have hF130 : sh_offX μ μ130 := by rw [eμ130]; exact sh_offX_I hF (by decide)
      have e2 := Option.some.inj h
      exact e2 ▸ hF130
    · rw [if_neg c128] at h
      obtain ⟨k131, h⟩ := sh_chk h
      obtain ⟨k132, h⟩ := sh_chk h
      obtain ⟨μ133, eμ133⟩ : ∃ y : sh_Mem, y = (sh_setI μ 329 ((sh_i μ 291 48)).toNatClampNeg (sh_i μ 364 i3.toNatClampNeg)) := ⟨_, rfl⟩
      rw [sh_let_eq eμ133] at h
      have hG133 : sh_G μ133 := by rw [eμ133]; exact hG
      have hF133 : sh_offX μ μ133 := by rw [eμ133]; exact sh_offX_I hF (by decide)
      obtain ⟨μ134, eμ134⟩ : ∃ y : sh_Mem, y = (sh_setI μ133 291 48 ((sh_i μ133 291 48) + 1)) := ⟨_, rfl⟩
      rw [sh_let_eq eμ134] at h
      have hG134 : sh_G μ134 := by rw [eμ134]; exact hG133
      have hF134 : sh_offX μ μ134 := by rw [eμ134]; exact sh_offX_I hF133 (by decide)
      exact hF134.trans (ih_100 hG134 h)
theorem fp_X12_codesTold {a1 : Int32} {a2 : Int32} {μ μ' : sh_Mem} (hG : sh_G μ) (h : f_X12_codesTold a1 a2 μ = some μ') : sh_offX μ μ' := by
  have ih_100 := (fpl_X12_codesTold sh_fuel)
  have hF : sh_offX μ μ := sh_offX.rf
  unfold f_X12_codesTold at h
  by_cases c135 : (sh_i μ 291 5) = 0
  · rw [if_pos c135] at h
    obtain ⟨k174, h⟩ := sh_chk h
    by_cases c175 : (sh_i μ 327 a1.toNatClampNeg) = (-1)
    · rw [if_pos c175] at h
      by_cases c176 : (sh_i μ 291 5) = 0
      · rw [if_pos c176] at h
        by_cases c177 : a1 = 0
        · rw [if_pos c177] at h
          obtain ⟨μ196, eμ196⟩ : ∃ y : sh_Mem, y = (sh_setI μ 291 51 1) := ⟨_, rfl⟩
          rw [sh_let_eq eμ196] at h
          have hG196 : sh_G μ196 := by rw [eμ196]; exact hG
          have hF196 : sh_offX μ μ196 := by rw [eμ196]; exact sh_offX_I hF (by decide)
          obtain ⟨μ197, eμ197⟩ : ∃ y : sh_Mem, y = (sh_setI μ196 291 103 0) := ⟨_, rfl⟩
          rw [sh_let_eq eμ197] at h
          have hG197 : sh_G μ197 := by rw [eμ197]; exact hG196
          have hF197 : sh_offX μ μ197 := by rw [eμ197]; exact sh_offX_I hF196 (by decide)
          obtain ⟨μ198, eμ198⟩ : ∃ y : sh_Mem, y = (sh_setI μ197 291 105 0) := ⟨_, rfl⟩
          rw [sh_let_eq eμ198] at h
          have hG198 : sh_G μ198 := by rw [eμ198]; exact hG197
          have hF198 : sh_offX μ μ198 := by rw [eμ198]; exact sh_offX_I hF197 (by decide)
          obtain ⟨μ199, eμ199⟩ : ∃ y : sh_Mem, y = (sh_setI μ198 291 106 0) := ⟨_, rfl⟩
          rw [sh_let_eq eμ199] at h
          have hG199 : sh_G μ199 := by rw [eμ199]; exact hG198
          have hF199 : sh_offX μ μ199 := by rw [eμ199]; exact sh_offX_I hF198 (by decide)
          obtain ⟨μ200, eμ200⟩ : ∃ y : sh_Mem, y = (sh_setI μ199 291 107 0) := ⟨_, rfl⟩
          rw [sh_let_eq eμ200] at h
          have hG200 : sh_G μ200 := by rw [eμ200]; exact hG199
          have hF200 : sh_offX μ μ200 := by rw [eμ200]; exact sh_offX_I hF199 (by decide)
          by_cases c201 : a1 = 2
          · rw [if_pos c201] at h
            obtain ⟨μ208, hr209, h⟩ := sh_bindv_e h
            have hG208 := gp_X12_qTest hG200 hr209
            have hF208 := hF200.trans (fp_X12_qTest hG200 hr209)
            by_cases c211 : (sh_i μ208 291 5) = 0
            · rw [if_pos c211] at h
              obtain ⟨k212, h⟩ := sh_chk h
              obtain ⟨μ213, eμ213⟩ : ∃ y : sh_Mem, y = (sh_setI μ208 327 a1.toNatClampNeg (sh_i μ208 291 48)) := ⟨_, rfl⟩
              rw [sh_let_eq eμ213] at h
              have hG213 : sh_G μ213 := by rw [eμ213]; exact hG208
              have hF213 : sh_offX μ μ213 := by rw [eμ213]; exact sh_offX_I hF208 (by decide)
              exact hF213.trans (ih_100 hG213 h)
            · rw [if_neg c211] at h
              have e2 := Option.some.inj h
              exact e2 ▸ hF208
          · rw [if_neg c201] at h
            obtain ⟨μ202, hr203, h⟩ := sh_bindv_e h
            have hG202 := gp_X12_qSums hG200 hr203
            have hF202 := hF200.trans (fp_X12_qSums hG200 hr203)
            by_cases c205 : (sh_i μ202 291 5) = 0
            · rw [if_pos c205] at h
              obtain ⟨k206, h⟩ := sh_chk h
              obtain ⟨μ207, eμ207⟩ : ∃ y : sh_Mem, y = (sh_setI μ202 327 a1.toNatClampNeg (sh_i μ202 291 48)) := ⟨_, rfl⟩
              rw [sh_let_eq eμ207] at h
              have hG207 : sh_G μ207 := by rw [eμ207]; exact hG202
              have hF207 : sh_offX μ μ207 := by rw [eμ207]; exact sh_offX_I hF202 (by decide)
              exact hF207.trans (ih_100 hG207 h)
            · rw [if_neg c205] at h
              have e2 := Option.some.inj h
              exact e2 ▸ hF202
        · rw [if_neg c177] at h
          obtain ⟨μ178, eμ178⟩ : ∃ y : sh_Mem, y = (sh_setI μ 291 51 0) := ⟨_, rfl⟩
          rw [sh_let_eq eμ178] at h
          have hG178 : sh_G μ178 := by rw [eμ178]; exact hG
          have hF178 : sh_offX μ μ178 := by rw [eμ178]; exact sh_offX_I hF (by decide)
          obtain ⟨μ179, eμ179⟩ : ∃ y : sh_Mem, y = (sh_setI μ178 291 103 0) := ⟨_, rfl⟩
          rw [sh_let_eq eμ179] at h
          have hG179 : sh_G μ179 := by rw [eμ179]; exact hG178
          have hF179 : sh_offX μ μ179 := by rw [eμ179]; exact sh_offX_I hF178 (by decide)
          obtain ⟨μ180, eμ180⟩ : ∃ y : sh_Mem, y = (sh_setI μ179 291 105 0) := ⟨_, rfl⟩
          rw [sh_let_eq eμ180] at h
          have hG180 : sh_G μ180 := by rw [eμ180]; exact hG179
          have hF180 : sh_offX μ μ180 := by rw [eμ180]; exact sh_offX_I hF179 (by decide)
          obtain ⟨μ181, eμ181⟩ : ∃ y : sh_Mem, y = (sh_setI μ180 291 106 0) := ⟨_, rfl⟩
          rw [sh_let_eq eμ181] at h
          have hG181 : sh_G μ181 := by rw [eμ181]; exact hG180
          have hF181 : sh_offX μ μ181 := by rw [eμ181]; exact sh_offX_I hF180 (by decide)
          obtain ⟨μ182, eμ182⟩ : ∃ y : sh_Mem, y = (sh_setI μ181 291 107 0) := ⟨_, rfl⟩
          rw [sh_let_eq eμ182] at h
          have hG182 : sh_G μ182 := by rw [eμ182]; exact hG181
          have hF182 : sh_offX μ μ182 := by rw [eμ182]; exact sh_offX_I hF181 (by decide)
          by_cases c183 : a1 = 2
          · rw [if_pos c183] at h
            obtain ⟨μ190, hr191, h⟩ := sh_bindv_e h
            have hG190 := gp_X12_qTest hG182 hr191
            have hF190 := hF182.trans (fp_X12_qTest hG182 hr191)
            by_cases c193 : (sh_i μ190 291 5) = 0
            · rw [if_pos c193] at h
              obtain ⟨k194, h⟩ := sh_chk h
              obtain ⟨μ195, eμ195⟩ : ∃ y : sh_Mem, y = (sh_setI μ190 327 a1.toNatClampNeg (sh_i μ190 291 48)) := ⟨_, rfl⟩
              rw [sh_let_eq eμ195] at h
              have hG195 : sh_G μ195 := by rw [eμ195]; exact hG190
              have hF195 : sh_offX μ μ195 := by rw [eμ195]; exact sh_offX_I hF190 (by decide)
              exact hF195.trans (ih_100 hG195 h)
            · rw [if_neg c193] at h
              have e2 := Option.some.inj h
              exact e2 ▸ hF190
          · rw [if_neg c183] at h
            obtain ⟨μ184, hr185, h⟩ := sh_bindv_e h
            have hG184 := gp_X12_qSums hG182 hr185
            have hF184 := hF182.trans (fp_X12_qSums hG182 hr185)
            by_cases c187 : (sh_i μ184 291 5) = 0
            · rw [if_pos c187] at h
              obtain ⟨k188, h⟩ := sh_chk h
              obtain ⟨μ189, eμ189⟩ : ∃ y : sh_Mem, y = (sh_setI μ184 327 a1.toNatClampNeg (sh_i μ184 291 48)) := ⟨_, rfl⟩
              rw [sh_let_eq eμ189] at h
              have hG189 : sh_G μ189 := by rw [eμ189]; exact hG184
              have hF189 : sh_offX μ μ189 := by rw [eμ189]; exact sh_offX_I hF184 (by decide)
              exact hF189.trans (ih_100 hG189 h)
            · rw [if_neg c187] at h
              have e2 := Option.some.inj h
              exact e2 ▸ hF184
      · rw [if_neg c176] at h
        have e2 := Option.some.inj h
        exact e2 ▸ hF
    · rw [if_neg c175] at h
      obtain ⟨μ214, hr215, h⟩ := sh_bindv_e h
      have hG214 := gp_X12_fail hG hr215
      have hF214 := hF.trans (fp_X12_fail hG hr215)
      by_cases c217 : (sh_i μ214 291 5) = 0
      · rw [if_pos c217] at h
        by_cases c218 : a1 = 0
        · rw [if_pos c218] at h
          obtain ⟨μ237, eμ237⟩ : ∃ y : sh_Mem, y = (sh_setI μ214 291 51 1) := ⟨_, rfl⟩
          rw [sh_let_eq eμ237] at h
          have hG237 : sh_G μ237 := by rw [eμ237]; exact hG214
          have hF237 : sh_offX μ μ237 := by rw [eμ237]; exact sh_offX_I hF214 (by decide)
          obtain ⟨μ238, eμ238⟩ : ∃ y : sh_Mem, y = (sh_setI μ237 291 103 0) := ⟨_, rfl⟩
          rw [sh_let_eq eμ238] at h
          have hG238 : sh_G μ238 := by rw [eμ238]; exact hG237
          have hF238 : sh_offX μ μ238 := by rw [eμ238]; exact sh_offX_I hF237 (by decide)
          obtain ⟨μ239, eμ239⟩ : ∃ y : sh_Mem, y = (sh_setI μ238 291 105 0) := ⟨_, rfl⟩
          rw [sh_let_eq eμ239] at h
          have hG239 : sh_G μ239 := by rw [eμ239]; exact hG238
          have hF239 : sh_offX μ μ239 := by rw [eμ239]; exact sh_offX_I hF238 (by decide)
          obtain ⟨μ240, eμ240⟩ : ∃ y : sh_Mem, y = (sh_setI μ239 291 106 0) := ⟨_, rfl⟩
          rw [sh_let_eq eμ240] at h
          have hG240 : sh_G μ240 := by rw [eμ240]; exact hG239
          have hF240 : sh_offX μ μ240 := by rw [eμ240]; exact sh_offX_I hF239 (by decide)
          obtain ⟨μ241, eμ241⟩ : ∃ y : sh_Mem, y = (sh_setI μ240 291 107 0) := ⟨_, rfl⟩
          rw [sh_let_eq eμ241] at h
          have hG241 : sh_G μ241 := by rw [eμ241]; exact hG240
          have hF241 : sh_offX μ μ241 := by rw [eμ241]; exact sh_offX_I hF240 (by decide)
          by_cases c242 : a1 = 2
          · rw [if_pos c242] at h
            obtain ⟨μ249, hr250, h⟩ := sh_bindv_e h
            have hG249 := gp_X12_qTest hG241 hr250
            have hF249 := hF241.trans (fp_X12_qTest hG241 hr250)
            by_cases c252 : (sh_i μ249 291 5) = 0
            · rw [if_pos c252] at h
              obtain ⟨k253, h⟩ := sh_chk h
              obtain ⟨μ254, eμ254⟩ : ∃ y : sh_Mem, y = (sh_setI μ249 327 a1.toNatClampNeg (sh_i μ249 291 48)) := ⟨_, rfl⟩
              rw [sh_let_eq eμ254] at h
              have hG254 : sh_G μ254 := by rw [eμ254]; exact hG249
              have hF254 : sh_offX μ μ254 := by rw [eμ254]; exact sh_offX_I hF249 (by decide)
              exact hF254.trans (ih_100 hG254 h)
            · rw [if_neg c252] at h
              have e2 := Option.some.inj h
              exact e2 ▸ hF249
          · rw [if_neg c242] at h
            obtain ⟨μ243, hr244, h⟩ := sh_bindv_e h
            have hG243 := gp_X12_qSums hG241 hr244
            have hF243 := hF241.trans (fp_X12_qSums hG241 hr244)
            by_cases c246 : (sh_i μ243 291 5) = 0
            · rw [if_pos c246] at h
              obtain ⟨k247, h⟩ := sh_chk h
              obtain ⟨μ248, eμ248⟩ : ∃ y : sh_Mem, y = (sh_setI μ243 327 a1.toNatClampNeg (sh_i μ243 291 48)) := ⟨_, rfl⟩
              rw [sh_let_eq eμ248] at h
              have hG248 : sh_G μ248 := by rw [eμ248]; exact hG243
              have hF248 : sh_offX μ μ248 := by rw [eμ248]; exact sh_offX_I hF243 (by decide)
              exact hF248.trans (ih_100 hG248 h)
            · rw [if_neg c246] at h
              have e2 := Option.some.inj h
              exact e2 ▸ hF243
        · rw [if_neg c218] at h
          obtain ⟨μ219, eμ219⟩ : ∃ y : sh_Mem, y = (sh_setI μ214 291 51 0) := ⟨_, rfl⟩
          rw [sh_let_eq eμ219] at h
          have hG219 : sh_G μ219 := by rw [eμ219]; exact hG214
          have hF219 : sh_offX μ μ219 := by rw [eμ219]; exact sh_offX_I hF214 (by decide)
          obtain ⟨μ220, eμ220⟩ : ∃ y : sh_Mem, y = (sh_setI μ219 291 103 0) := ⟨_, rfl⟩
          rw [sh_let_eq eμ220] at h
          have hG220 : sh_G μ220 := by rw [eμ220]; exact hG219
          have hF220 : sh_offX μ μ220 := by rw [eμ220]; exact sh_offX_I hF219 (by decide)
          obtain ⟨μ221, eμ221⟩ : ∃ y : sh_Mem, y = (sh_setI μ220 291 105 0) := ⟨_, rfl⟩
          rw [sh_let_eq eμ221] at h
          have hG221 : sh_G μ221 := by rw [eμ221]; exact hG220
          have hF221 : sh_offX μ μ221 := by rw [eμ221]; exact sh_offX_I hF220 (by decide)
          obtain ⟨μ222, eμ222⟩ : ∃ y : sh_Mem, y = (sh_setI μ221 291 106 0) := ⟨_, rfl⟩
          rw [sh_let_eq eμ222] at h
          have hG222 : sh_G μ222 := by rw [eμ222]; exact hG221
          have hF222 : sh_offX μ μ222 := by rw [eμ222]; exact sh_offX_I hF221 (by decide)
          obtain ⟨μ223, eμ223⟩ : ∃ y : sh_Mem, y = (sh_setI μ222 291 107 0) := ⟨_, rfl⟩
          rw [sh_let_eq eμ223] at h
          have hG223 : sh_G μ223 := by rw [eμ223]; exact hG222
          have hF223 : sh_offX μ μ223 := by rw [eμ223]; exact sh_offX_I hF222 (by decide)
          by_cases c224 : a1 = 2
          · rw [if_pos c224] at h
            obtain ⟨μ231, hr232, h⟩ := sh_bindv_e h
            have hG231 := gp_X12_qTest hG223 hr232
            have hF231 := hF223.trans (fp_X12_qTest hG223 hr232)
            by_cases c234 : (sh_i μ231 291 5) = 0
            · rw [if_pos c234] at h
              obtain ⟨k235, h⟩ := sh_chk h
              obtain ⟨μ236, eμ236⟩ : ∃ y : sh_Mem, y = (sh_setI μ231 327 a1.toNatClampNeg (sh_i μ231 291 48)) := ⟨_, rfl⟩
              rw [sh_let_eq eμ236] at h
              have hG236 : sh_G μ236 := by rw [eμ236]; exact hG231
              have hF236 : sh_offX μ μ236 := by rw [eμ236]; exact sh_offX_I hF231 (by decide)
              exact hF236.trans (ih_100 hG236 h)
            · rw [if_neg c234] at h
              have e2 := Option.some.inj h
              exact e2 ▸ hF231
          · rw [if_neg c224] at h
            obtain ⟨μ225, hr226, h⟩ := sh_bindv_e h
            have hG225 := gp_X12_qSums hG223 hr226
            have hF225 := hF223.trans (fp_X12_qSums hG223 hr226)
            by_cases c228 : (sh_i μ225 291 5) = 0
            · rw [if_pos c228] at h
              obtain ⟨k229, h⟩ := sh_chk h
              obtain ⟨μ230, eμ230⟩ : ∃ y : sh_Mem, y = (sh_setI μ225 327 a1.toNatClampNeg (sh_i μ225 291 48)) := ⟨_, rfl⟩
              rw [sh_let_eq eμ230] at h
              have hG230 : sh_G μ230 := by rw [eμ230]; exact hG225
              have hF230 : sh_offX μ μ230 := by rw [eμ230]; exact sh_offX_I hF225 (by decide)
              exact hF230.trans (ih_100 hG230 h)
            · rw [if_neg c228] at h
              have e2 := Option.some.inj h
              exact e2 ▸ hF225
      · rw [if_neg c217] at h
        have e2 := Option.some.inj h
        exact e2 ▸ hF214
  · rw [if_neg c135] at h
    by_cases c136 : (sh_i μ 291 5) = 0
    · rw [if_pos c136] at h
      by_cases c137 : a1 = 0
      · rw [if_pos c137] at h
        obtain ⟨μ156, eμ156⟩ : ∃ y : sh_Mem, y = (sh_setI μ 291 51 1) := ⟨_, rfl⟩
        rw [sh_let_eq eμ156] at h
        have hG156 : sh_G μ156 := by rw [eμ156]; exact hG
        have hF156 : sh_offX μ μ156 := by rw [eμ156]; exact sh_offX_I hF (by decide)
        obtain ⟨μ157, eμ157⟩ : ∃ y : sh_Mem, y = (sh_setI μ156 291 103 0) := ⟨_, rfl⟩
        rw [sh_let_eq eμ157] at h
        have hG157 : sh_G μ157 := by rw [eμ157]; exact hG156
        have hF157 : sh_offX μ μ157 := by rw [eμ157]; exact sh_offX_I hF156 (by decide)
        obtain ⟨μ158, eμ158⟩ : ∃ y : sh_Mem, y = (sh_setI μ157 291 105 0) := ⟨_, rfl⟩
        rw [sh_let_eq eμ158] at h
        have hG158 : sh_G μ158 := by rw [eμ158]; exact hG157
        have hF158 : sh_offX μ μ158 := by rw [eμ158]; exact sh_offX_I hF157 (by decide)
        obtain ⟨μ159, eμ159⟩ : ∃ y : sh_Mem, y = (sh_setI μ158 291 106 0) := ⟨_, rfl⟩
        rw [sh_let_eq eμ159] at h
        have hG159 : sh_G μ159 := by rw [eμ159]; exact hG158
        have hF159 : sh_offX μ μ159 := by rw [eμ159]; exact sh_offX_I hF158 (by decide)
        obtain ⟨μ160, eμ160⟩ : ∃ y : sh_Mem, y = (sh_setI μ159 291 107 0) := ⟨_, rfl⟩
        rw [sh_let_eq eμ160] at h
        have hG160 : sh_G μ160 := by rw [eμ160]; exact hG159
        have hF160 : sh_offX μ μ160 := by rw [eμ160]; exact sh_offX_I hF159 (by decide)
        by_cases c161 : a1 = 2
        · rw [if_pos c161] at h
          obtain ⟨μ168, hr169, h⟩ := sh_bindv_e h
          have hG168 := gp_X12_qTest hG160 hr169
          have hF168 := hF160.trans (fp_X12_qTest hG160 hr169)
          by_cases c171 : (sh_i μ168 291 5) = 0
          · rw [if_pos c171] at h
            obtain ⟨k172, h⟩ := sh_chk h
            obtain ⟨μ173, eμ173⟩ : ∃ y : sh_Mem, y = (sh_setI μ168 327 a1.toNatClampNeg (sh_i μ168 291 48)) := ⟨_, rfl⟩
            rw [sh_let_eq eμ173] at h
            have hG173 : sh_G μ173 := by rw [eμ173]; exact hG168
            have hF173 : sh_offX μ μ173 := by rw [eμ173]; exact sh_offX_I hF168 (by decide)
            exact hF173.trans (ih_100 hG173 h)
          · rw [if_neg c171] at h
            have e2 := Option.some.inj h
            exact e2 ▸ hF168
        · rw [if_neg c161] at h
          obtain ⟨μ162, hr163, h⟩ := sh_bindv_e h
          have hG162 := gp_X12_qSums hG160 hr163
          have hF162 := hF160.trans (fp_X12_qSums hG160 hr163)
          by_cases c165 : (sh_i μ162 291 5) = 0
          · rw [if_pos c165] at h
            obtain ⟨k166, h⟩ := sh_chk h
            obtain ⟨μ167, eμ167⟩ : ∃ y : sh_Mem, y = (sh_setI μ162 327 a1.toNatClampNeg (sh_i μ162 291 48)) := ⟨_, rfl⟩
            rw [sh_let_eq eμ167] at h
            have hG167 : sh_G μ167 := by rw [eμ167]; exact hG162
            have hF167 : sh_offX μ μ167 := by rw [eμ167]; exact sh_offX_I hF162 (by decide)
            exact hF167.trans (ih_100 hG167 h)
          · rw [if_neg c165] at h
            have e2 := Option.some.inj h
            exact e2 ▸ hF162
      · rw [if_neg c137] at h
        obtain ⟨μ138, eμ138⟩ : ∃ y : sh_Mem, y = (sh_setI μ 291 51 0) := ⟨_, rfl⟩
        rw [sh_let_eq eμ138] at h
        have hG138 : sh_G μ138 := by rw [eμ138]; exact hG
        have hF138 : sh_offX μ μ138 := by rw [eμ138]; exact sh_offX_I hF (by decide)
        obtain ⟨μ139, eμ139⟩ : ∃ y : sh_Mem, y = (sh_setI μ138 291 103 0) := ⟨_, rfl⟩
        rw [sh_let_eq eμ139] at h
        have hG139 : sh_G μ139 := by rw [eμ139]; exact hG138
        have hF139 : sh_offX μ μ139 := by rw [eμ139]; exact sh_offX_I hF138 (by decide)
        obtain ⟨μ140, eμ140⟩ : ∃ y : sh_Mem, y = (sh_setI μ139 291 105 0) := ⟨_, rfl⟩
        rw [sh_let_eq eμ140] at h
        have hG140 : sh_G μ140 := by rw [eμ140]; exact hG139
        have hF140 : sh_offX μ μ140 := by rw [eμ140]; exact sh_offX_I hF139 (by decide)
        obtain ⟨μ141, eμ141⟩ : ∃ y : sh_Mem, y = (sh_setI μ140 291 106 0) := ⟨_, rfl⟩
        rw [sh_let_eq eμ141] at h
        have hG141 : sh_G μ141 := by rw [eμ141]; exact hG140
        have hF141 : sh_offX μ μ141 := by rw [eμ141]; exact sh_offX_I hF140 (by decide)
        obtain ⟨μ142, eμ142⟩ : ∃ y : sh_Mem, y = (sh_setI μ141 291 107 0) := ⟨_, rfl⟩
        rw [sh_let_eq eμ142] at h
        have hG142 : sh_G μ142 := by rw [eμ142]; exact hG141
        have hF142 : sh_offX μ μ142 := by rw [eμ142]; exact sh_offX_I hF141 (by decide)
        by_cases c143 : a1 = 2
        · rw [if_pos c143] at h
          obtain ⟨μ150, hr151, h⟩ := sh_bindv_e h
          have hG150 := gp_X12_qTest hG142 hr151
          have hF150 := hF142.trans (fp_X12_qTest hG142 hr151)
          by_cases c153 : (sh_i μ150 291 5) = 0
          · rw [if_pos c153] at h
            obtain ⟨k154, h⟩ := sh_chk h
            obtain ⟨μ155, eμ155⟩ : ∃ y : sh_Mem, y = (sh_setI μ150 327 a1.toNatClampNeg (sh_i μ150 291 48)) := ⟨_, rfl⟩
            rw [sh_let_eq eμ155] at h
            have hG155 : sh_G μ155 := by rw [eμ155]; exact hG150
            have hF155 : sh_offX μ μ155 := by rw [eμ155]; exact sh_offX_I hF150 (by decide)
            exact hF155.trans (ih_100 hG155 h)
          · rw [if_neg c153] at h
            have e2 := Option.some.inj h
            exact e2 ▸ hF150
        · rw [if_neg c143] at h
          obtain ⟨μ144, hr145, h⟩ := sh_bindv_e h
          have hG144 := gp_X12_qSums hG142 hr145
          have hF144 := hF142.trans (fp_X12_qSums hG142 hr145)
          by_cases c147 : (sh_i μ144 291 5) = 0
          · rw [if_pos c147] at h
            obtain ⟨k148, h⟩ := sh_chk h
            obtain ⟨μ149, eμ149⟩ : ∃ y : sh_Mem, y = (sh_setI μ144 327 a1.toNatClampNeg (sh_i μ144 291 48)) := ⟨_, rfl⟩
            rw [sh_let_eq eμ149] at h
            have hG149 : sh_G μ149 := by rw [eμ149]; exact hG144
            have hF149 : sh_offX μ μ149 := by rw [eμ149]; exact sh_offX_I hF144 (by decide)
            exact hF149.trans (ih_100 hG149 h)
          · rw [if_neg c147] at h
            have e2 := Option.some.inj h
            exact e2 ▸ hF144
    · rw [if_neg c136] at h
      have e2 := Option.some.inj h
      exact e2 ▸ hF
