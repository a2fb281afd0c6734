theorem fp_X12_statementTold {μ μ' : sh_Mem} (hG : sh_G μ) (h : f_X12_statementTold μ = some μ') : sh_offX μ μ' := by
  have hF : sh_offX μ μ := sh_offX.rf
  unfold f_X12_statementTold at h
  obtain ⟨x1, ex1⟩ : ∃ y : Int32, y = (sh_i μ 291 2) := ⟨_, rfl⟩
  rw [sh_let_eq ex1] at h
  by_cases c2 : (sh_i μ 291 49) = 80
  · rw [if_pos c2] at h
    obtain ⟨μ102, hr103, h⟩ := sh_bindv_e h
    have hG102 := gp_X12_fail hG hr103
    have hF102 := hF.trans (fp_X12_fail hG hr103)
    have e2 := Option.some.inj h
    exact e2 ▸ hF102
  · rw [if_neg c2] at h
    obtain ⟨y5, μ3, hr4, h⟩ := sh_bind_e h
    have hG3 := gp_X12_takes hG (sh_LAYat_296) hr4
    have hF3 := hF.trans (fp_X12_takes hG (sh_LAYat_296) (by decide) hr4)
    by_cases c6 : y5 = 0
    · rw [if_pos c6] at h
      obtain ⟨y9, μ7, hr8, h⟩ := sh_bind_e h
      have hG7 := gp_X12_takes hG3 (sh_LAYat_297) hr8
      have hF7 := hF3.trans (fp_X12_takes hG3 (sh_LAYat_297) (by decide) hr8)
      by_cases c10 : y9 = 0
      · rw [if_pos c10] at h
        obtain ⟨y13, μ11, hr12, h⟩ := sh_bind_e h
        have hG11 := gp_X12_takes hG7 (sh_LAYat_298) hr12
        have hF11 := hF7.trans (fp_X12_takes hG7 (sh_LAYat_298) (by decide) hr12)
        by_cases c14 : y13 = 0
        · rw [if_pos c14] at h
          obtain ⟨y17, μ15, hr16, h⟩ := sh_bind_e h
          have hG15 := gp_X12_takes hG11 (sh_LAYat_301) hr16
          have hF15 := hF11.trans (fp_X12_takes hG11 (sh_LAYat_301) (by decide) hr16)
          by_cases c18 : y17 = 0
          · rw [if_pos c18] at h
            obtain ⟨y21, μ19, hr20, h⟩ := sh_bind_e h
            have hG19 := gp_X12_takes hG15 (sh_LAYat_303) hr20
            have hF19 := hF15.trans (fp_X12_takes hG15 (sh_LAYat_303) (by decide) hr20)
            by_cases c22 : y21 = 0
            · rw [if_pos c22] at h
              obtain ⟨y25, μ23, hr24, h⟩ := sh_bind_e h
              have hG23 := gp_X12_takes hG19 (sh_LAYat_304) hr24
              have hF23 := hF19.trans (fp_X12_takes hG19 (sh_LAYat_304) (by decide) hr24)
              by_cases c26 : y25 = 0
              · rw [if_pos c26] at h
                obtain ⟨y29, μ27, hr28, h⟩ := sh_bind_e h
                have hG27 := gp_X12_takes hG23 (sh_LAYat_305) hr28
                have hF27 := hF23.trans (fp_X12_takes hG23 (sh_LAYat_305) (by decide) hr28)
                by_cases c30 : y29 = 0
                · rw [if_pos c30] at h
                  obtain ⟨y33, μ31, hr32, h⟩ := sh_bind_e h
                  have hG31 := gp_X12_takes hG27 (sh_LAYat_306) hr32
                  have hF31 := hF27.trans (fp_X12_takes hG27 (sh_LAYat_306) (by decide) hr32)
                  by_cases c34 : y33 = 0
                  · rw [if_pos c34] at h
                    obtain ⟨μ35, hr36, h⟩ := sh_bindv_e h
                    have hG35 := gp_X12_needs hG31 (sh_LAYat_307) hr36
                    have hF35 := hF31.trans (fp_X12_needs hG31 (sh_LAYat_307) (by decide) hr36)
                    obtain ⟨y40, μ38, hr39, h⟩ := sh_bind_e h
                    have hG38 := gp_X12_number hG35 hr39
                    have hF38 := hF35.trans (fp_X12_number hG35 hr39)
                    obtain ⟨μ41, eμ41⟩ : ∃ y : sh_Mem, y = (sh_setI μ38 321 (Int32.toNatClampNeg 2) y40) := ⟨_, rfl⟩
                    rw [sh_let_eq eμ41] at h
                    have hG41 : sh_G μ41 := by rw [eμ41]; exact hG38
                    have hF41 : sh_offX μ μ41 := by rw [eμ41]; exact sh_offX_I hF38 (by decide)
                    obtain ⟨μ42, hr43, h⟩ := sh_bindv_e h
                    have hG42 := gp_X12_asksSign hG41 hr43
                    have hF42 := hF41.trans (fp_X12_asksSign hG41 hr43)
                    obtain ⟨μ45, eμ45⟩ : ∃ y : sh_Mem, y = (sh_setI μ42 291 49 ((sh_i μ42 291 49) + 1)) := ⟨_, rfl⟩
                    rw [sh_let_eq eμ45] at h
                    have hG45 : sh_G μ45 := by rw [eμ45]; exact hG42
                    have hF45 : sh_offX μ μ45 := by rw [eμ45]; exact sh_offX_I hF42 (by decide)
                    have e2 := Option.some.inj h
                    exact e2 ▸ hF45
                  · rw [if_neg c34] at h
                    obtain ⟨μ46, hr47, h⟩ := sh_bindv_e h
                    have hG46 := gp_X12_codesTold hG31 hr47
                    have hF46 := hF31.trans (fp_X12_codesTold hG31 hr47)
                    obtain ⟨μ49, hr50, h⟩ := sh_bindv_e h
                    have hG49 := gp_X12_asksSign hG46 hr50
                    have hF49 := hF46.trans (fp_X12_asksSign hG46 hr50)
                    obtain ⟨μ52, eμ52⟩ : ∃ y : sh_Mem, y = (sh_setI μ49 291 49 ((sh_i μ49 291 49) + 1)) := ⟨_, rfl⟩
                    rw [sh_let_eq eμ52] at h
                    have hG52 : sh_G μ52 := by rw [eμ52]; exact hG49
                    have hF52 : sh_offX μ μ52 := by rw [eμ52]; exact sh_offX_I hF49 (by decide)
                    have e2 := Option.some.inj h
                    exact e2 ▸ hF52
                · rw [if_neg c30] at h
                  obtain ⟨μ53, hr54, h⟩ := sh_bindv_e h
                  have hG53 := gp_X12_codesTold hG27 hr54
                  have hF53 := hF27.trans (fp_X12_codesTold hG27 hr54)
                  obtain ⟨μ56, hr57, h⟩ := sh_bindv_e h
                  have hG56 := gp_X12_asksSign hG53 hr57
                  have hF56 := hF53.trans (fp_X12_asksSign hG53 hr57)
                  obtain ⟨μ59, eμ59⟩ : ∃ y : sh_Mem, y = (sh_setI μ56 291 49 ((sh_i μ56 291 49) + 1)) := ⟨_, rfl⟩
                  rw [sh_let_eq eμ59] at h
                  have hG59 : sh_G μ59 := by rw [eμ59]; exact hG56
                  have hF59 : sh_offX μ μ59 := by rw [eμ59]; exact sh_offX_I hF56 (by decide)
                  have e2 := Option.some.inj h
                  exact e2 ▸ hF59
              · rw [if_neg c26] at h
                obtain ⟨μ60, hr61, h⟩ := sh_bindv_e h
                have hG60 := gp_X12_codesTold hG23 hr61
                have hF60 := hF23.trans (fp_X12_codesTold hG23 hr61)
                obtain ⟨μ63, hr64, h⟩ := sh_bindv_e h
                have hG63 := gp_X12_asksSign hG60 hr64
                have hF63 := hF60.trans (fp_X12_asksSign hG60 hr64)
                obtain ⟨μ66, eμ66⟩ : ∃ y : sh_Mem, y = (sh_setI μ63 291 49 ((sh_i μ63 291 49) + 1)) := ⟨_, rfl⟩
                rw [sh_let_eq eμ66] at h
                have hG66 : sh_G μ66 := by rw [eμ66]; exact hG63
                have hF66 : sh_offX μ μ66 := by rw [eμ66]; exact sh_offX_I hF63 (by decide)
                have e2 := Option.some.inj h
                exact e2 ▸ hF66
            · rw [if_neg c22] at h
              obtain ⟨μ67, hr68, h⟩ := sh_bindv_e h
              have hG67 := gp_X12_listTold hG19 hr68
              have hF67 := hF19.trans (fp_X12_listTold hG19 hr68)
              obtain ⟨μ70, hr71, h⟩ := sh_bindv_e h
              have hG70 := gp_X12_asksSign hG67 hr71
              have hF70 := hF67.trans (fp_X12_asksSign hG67 hr71)
              obtain ⟨μ73, eμ73⟩ : ∃ y : sh_Mem, y = (sh_setI μ70 291 49 ((sh_i μ70 291 49) + 1)) := ⟨_, rfl⟩
              rw [sh_let_eq eμ73] at h
              have hG73 : sh_G μ73 := by rw [eμ73]; exact hG70
              have hF73 : sh_offX μ μ73 := by rw [eμ73]; exact sh_offX_I hF70 (by decide)
              have e2 := Option.some.inj h
              exact e2 ▸ hF73
          · rw [if_neg c18] at h
            obtain ⟨μ74, hr75, h⟩ := sh_bindv_e h
            have hG74 := gp_X12_knowsTold hG15 hr75
            have hF74 := hF15.trans (fp_X12_knowsTold hG15 hr75)
            obtain ⟨μ77, hr78, h⟩ := sh_bindv_e h
            have hG77 := gp_X12_asksSign hG74 hr78
            have hF77 := hF74.trans (fp_X12_asksSign hG74 hr78)
            obtain ⟨μ80, eμ80⟩ : ∃ y : sh_Mem, y = (sh_setI μ77 291 49 ((sh_i μ77 291 49) + 1)) := ⟨_, rfl⟩
            rw [sh_let_eq eμ80] at h
            have hG80 : sh_G μ80 := by rw [eμ80]; exact hG77
            have hF80 : sh_offX μ μ80 := by rw [eμ80]; exact sh_offX_I hF77 (by decide)
            have e2 := Option.some.inj h
            exact e2 ▸ hF80
        · rw [if_neg c14] at h
          obtain ⟨μ81, hr82, h⟩ := sh_bindv_e h
          have hG81 := gp_X12_personTold hG11 hr82
          have hF81 := hF11.trans (fp_X12_personTold hG11 hr82)
          obtain ⟨μ84, hr85, h⟩ := sh_bindv_e h
          have hG84 := gp_X12_asksSign hG81 hr85
          have hF84 := hF81.trans (fp_X12_asksSign hG81 hr85)
          obtain ⟨μ87, eμ87⟩ : ∃ y : sh_Mem, y = (sh_setI μ84 291 49 ((sh_i μ84 291 49) + 1)) := ⟨_, rfl⟩
          rw [sh_let_eq eμ87] at h
          have hG87 : sh_G μ87 := by rw [eμ87]; exact hG84
          have hF87 : sh_offX μ μ87 := by rw [eμ87]; exact sh_offX_I hF84 (by decide)
          have e2 := Option.some.inj h
          exact e2 ▸ hF87
      · rw [if_neg c10] at h
        obtain ⟨μ88, hr89, h⟩ := sh_bindv_e h
        have hG88 := gp_X12_topicTold hG7 hr89
        have hF88 := hF7.trans (fp_X12_topicTold hG7 hr89)
        obtain ⟨μ91, hr92, h⟩ := sh_bindv_e h
        have hG91 := gp_X12_asksSign hG88 hr92
        have hF91 := hF88.trans (fp_X12_asksSign hG88 hr92)
        obtain ⟨μ94, eμ94⟩ : ∃ y : sh_Mem, y = (sh_setI μ91 291 49 ((sh_i μ91 291 49) + 1)) := ⟨_, rfl⟩
        rw [sh_let_eq eμ94] at h
        have hG94 : sh_G μ94 := by rw [eμ94]; exact hG91
        have hF94 : sh_offX μ μ94 := by rw [eμ94]; exact sh_offX_I hF91 (by decide)
        have e2 := Option.some.inj h
        exact e2 ▸ hF94
    · rw [if_neg c6] at h
      obtain ⟨μ95, hr96, h⟩ := sh_bindv_e h
      have hG95 := gp_X12_highTold hG3 hr96
      have hF95 := hF3.trans (fp_X12_highTold hG3 hr96)
      obtain ⟨μ98, hr99, h⟩ := sh_bindv_e h
      have hG98 := gp_X12_asksSign hG95 hr99
      have hF98 := hF95.trans (fp_X12_asksSign hG95 hr99)
      obtain ⟨μ101, eμ101⟩ : ∃ y : sh_Mem, y = (sh_setI μ98 291 49 ((sh_i μ98 291 49) + 1)) := ⟨_, rfl⟩
      rw [sh_let_eq eμ101] at h
      have hG101 : sh_G μ101 := by rw [eμ101]; exact hG98
      have hF101 : sh_offX μ μ101 := by rw [eμ101]; exact sh_offX_I hF98 (by decide)
      have e2 := Option.some.inj h
      exact e2 ▸ hF101
theorem fpl_X12_plain (fuel : Nat) : (∀ ⦃i1 : Int32⦄ ⦃μ μ' : sh_Mem⦄ ⦃v : Int32⦄, sh_G μ → F_X12_plain fuel 1 i1 μ = some (v, μ') → sh_offX μ μ') ∧ (∀ ⦃i1 : Int32⦄ ⦃μ μ' : sh_Mem⦄ ⦃v : Int32⦄, sh_G μ → F_X12_plain fuel 2 i1 μ = some (v, μ') → sh_offX μ μ') ∧ (∀ ⦃i1 : Int32⦄ ⦃μ μ' : sh_Mem⦄ ⦃v : Int32⦄, sh_G μ → F_X12_plain fuel 3 i1 μ = some (v, μ') → sh_offX μ μ') := by
  induction fuel with
  | zero => exact ⟨(by intro i1 μ μ' v hG h; cases h), (by intro i1 μ μ' v hG h; cases h), (by intro i1 μ μ' v hG h; cases h)⟩
  | succ fuel ih =>
    obtain ⟨ih_47, ih_74, ih_103⟩ := ih
    refine ⟨?_, ?_, ?_⟩
    · intro i1 μ μ' v hG h
      replace h : ((if 3 ≤ i1 then F_X12_plain fuel 2 0 μ else (if sh_in i1 6 then sh_let (sh_setI μ 322 i1.toNatClampNeg 0) (fun μ79 => (if sh_in i1 6 then sh_let (sh_setI μ79 327 i1.toNatClampNeg (-1)) (fun μ81 => F_X12_plain fuel 1 (i1 + 1) μ81) else none)) else none)) : Option (Int32 × sh_Mem)) = some (v, μ') := h
      have hF : sh_offX μ μ := sh_offX.rf
      by_cases c77 : 3 ≤ i1
      · rw [if_pos c77] at h
        exact hF.trans (ih_74 hG h)
      · rw [if_neg c77] at h
        obtain ⟨k78, h⟩ := sh_chk h
        obtain ⟨μ79, eμ79⟩ : ∃ y : sh_Mem, y = (sh_setI μ 322 i1.toNatClampNeg 0) := ⟨_, rfl⟩
        rw [sh_let_eq eμ79] at h
        have hG79 : sh_G μ79 := by rw [eμ79]; exact hG
        have hF79 : sh_offX μ μ79 := by rw [eμ79]; exact sh_offX_I hF (by decide)
        obtain ⟨k80, h⟩ := sh_chk h
        obtain ⟨μ81, eμ81⟩ : ∃ y : sh_Mem, y = (sh_setI μ79 327 i1.toNatClampNeg (-1)) := ⟨_, rfl⟩
        rw [sh_let_eq eμ81] at h
        have hG81 : sh_G μ81 := by rw [eμ81]; exact hG79
        have hF81 : sh_offX μ μ81 := by rw [eμ81]; exact sh_offX_I hF79 (by decide)
        exact hF81.trans (ih_47 hG81 h)
    · intro i1 μ μ' v hG h
      replace h : ((if 49 ≤ i1 then sh_bindv (f_X12_plainTold μ) (fun μ83 => sh_let (sh_setI μ83 291 49 1) (fun μ86 => F_X12_plain fuel 3 i1 μ86)) else (if sh_in i1 49 then sh_let (sh_setI μ 324 i1.toNatClampNeg 50) (fun μ88 => F_X12_plain fuel 2 (i1 + 1) μ88) else none)) : Option (Int32 × sh_Mem)) = some (v, μ') := h
      have hF : sh_offX μ μ := sh_offX.rf
      by_cases c82 : 49 ≤ i1
      · rw [if_pos c82] at h
        obtain ⟨μ83, hr84, h⟩ := sh_bindv_e h
        have hG83 := gp_X12_plainTold hG hr84
        have hF83 := hF.trans (fp_X12_plainTold hG hr84)
        obtain ⟨μ86, eμ86⟩ : ∃ y : sh_Mem, y = (sh_setI μ83 291 49 1) := ⟨_, rfl⟩
        rw [sh_let_eq eμ86] at h
        have hG86 : sh_G μ86 := by rw [eμ86]; exact hG83
        have hF86 : sh_offX μ μ86 := by rw [eμ86]; exact sh_offX_I hF83 (by decide)
        exact hF86.trans (ih_103 hG86 h)
      · rw [if_neg c82] at h
        obtain ⟨k87, h⟩ := sh_chk h
        obtain ⟨μ88, eμ88⟩ : ∃ y : sh_Mem, y = (sh_setI μ 324 i1.toNatClampNeg 50) := ⟨_, rfl⟩
        rw [sh_let_eq eμ88] at h
        have hG88 : sh_G μ88 := by rw [eμ88]; exact hG
        have hF88 : sh_offX μ μ88 := by rw [eμ88]; exact sh_offX_I hF (by decide)
        exact hF88.trans (ih_74 hG88 h)
    · intro i1 μ μ' v hG h
      replace h : ((if (sh_i μ 291 5) = 0 then sh_bind (f_X12_look μ) (fun y99 μ97 => (if y99 = (-1) then sh_let (sh_setI μ97 291 7 (sh_i μ97 291 5)) (fun μ101 => sh_let (sh_setI μ101 291 8 (sh_i μ101 291 6)) (fun μ102 => (if (sh_i μ102 291 5) = 0 then sh_bindv (f_X12_stands μ102) (fun μ104 => some ((sh_i μ104 291 49), μ104)) else sh_let (sh_setI μ102 293 (Int32.toNatClampNeg 1) ((sh_i μ102 293 (Int32.toNatClampNeg 1)) + 1)) (fun μ107 => some ((-1), μ107))))) else sh_bindv (f_X12_statementTold μ97) (fun μ108 => F_X12_plain fuel 3 i1 μ108))) else sh_let (sh_setI μ 291 7 (sh_i μ 291 5)) (fun μ90 => sh_let (sh_setI μ90 291 8 (sh_i μ90 291 6)) (fun μ91 => (if (sh_i μ91 291 5) = 0 then sh_bindv (f_X12_stands μ91) (fun μ93 => some ((sh_i μ93 291 49), μ93)) else sh_let (sh_setI μ91 293 (Int32.toNatClampNeg 1) ((sh_i μ91 293 (Int32.toNatClampNeg 1)) + 1)) (fun μ96 => some ((-1), μ96)))))) : Option (Int32 × sh_Mem)) = some (v, μ') := h
      have hF : sh_offX μ μ := sh_offX.rf
      by_cases c89 : (sh_i μ 291 5) = 0
      · rw [if_pos c89] at h
        obtain ⟨y99, μ97, hr98, h⟩ := sh_bind_e h
        have hG97 := gp_X12_look hG hr98
        have hF97 := hF.trans (fp_X12_look hG hr98)
        by_cases c100 : y99 = (-1)
        · rw [if_pos c100] at h
          obtain ⟨μ101, eμ101⟩ : ∃ y : sh_Mem, y = (sh_setI μ97 291 7 (sh_i μ97 291 5)) := ⟨_, rfl⟩
          rw [sh_let_eq eμ101] at h
          have hG101 : sh_G μ101 := by rw [eμ101]; exact hG97
          have hF101 : sh_offX μ μ101 := by rw [eμ101]; exact sh_offX_I hF97 (by decide)
          obtain ⟨μ102, eμ102⟩ : ∃ y : sh_Mem, y = (sh_setI μ101 291 8 (sh_i μ101 291 6)) := ⟨_, rfl⟩
          rw [sh_let_eq eμ102] at h
          have hG102 : sh_G μ102 := by rw [eμ102]; exact hG101
          have hF102 : sh_offX μ μ102 := by rw [eμ102]; exact sh_offX_I hF101 (by decide)
          by_cases c103 : (sh_i μ102 291 5) = 0
          · rw [if_pos c103] at h
            obtain ⟨μ104, hr105, h⟩ := sh_bindv_e h
            have hG104 := gp_X12_stands hG102 hr105
            have hF104 := hF102.trans (fp_X12_stands hG102 hr105)
            obtain ⟨e1, e2⟩ := sh_some2 h
            exact e2 ▸ hF104
          · rw [if_neg c103] at h
            obtain ⟨μ107, eμ107⟩ : ∃ y : sh_Mem, y = (sh_setI μ102 293 (Int32.toNatClampNeg 1) ((sh_i μ102 293 (Int32.toNatClampNeg 1)) + 1)) := ⟨_, rfl⟩
            rw [sh_let_eq eμ107] at h
            have hG107 : sh_G μ107 := by rw [eμ107]; exact hG102
            have hF107 : sh_offX μ μ107 := by rw [eμ107]; exact sh_offX_I hF102 (by decide)
            obtain ⟨e1, e2⟩ := sh_some2 h
            exact e2 ▸ hF107
        · rw [if_neg c100] at h
          obtain ⟨μ108, hr109, h⟩ := sh_bindv_e h
          have hG108 := gp_X12_statementTold hG97 hr109
          have hF108 := hF97.trans (fp_X12_statementTold hG97 hr109)
          exact hF108.trans (ih_103 hG108 h)
      · rw [if_neg c89] at h
        obtain ⟨μ90, eμ90⟩ : ∃ y : sh_Mem, y = (sh_setI μ 291 7 (sh_i μ 291 5)) := ⟨_, rfl⟩
        rw [sh_let_eq eμ90] at h
        have hG90 : sh_G μ90 := by rw [eμ90]; exact hG
        have hF90 : sh_offX μ μ90 := by rw [eμ90]; exact sh_offX_I hF (by decide)
        obtain ⟨μ91, eμ91⟩ : ∃ y : sh_Mem, y = (sh_setI μ90 291 8 (sh_i μ90 291 6)) := ⟨_, rfl⟩
        rw [sh_let_eq eμ91] at h
        have hG91 : sh_G μ91 := by rw [eμ91]; exact hG90
        have hF91 : sh_offX μ μ91 := by rw [eμ91]; exact sh_offX_I hF90 (by decide)
        by_cases c92 : (sh_i μ91 291 5) = 0
        · rw [if_pos c92] at h
          obtain ⟨μ93, hr94, h⟩ := sh_bindv_e h
          have hG93 := gp_X12_stands hG91 hr94
          have hF93 := hF91.trans (fp_X12_stands hG91 hr94)
          obtain ⟨e1, e2⟩ := sh_some2 h
          exact e2 ▸ hF93
        · rw [if_neg c92] at h
          obtain ⟨μ96, eμ96⟩ : ∃ y : sh_Mem, y = (sh_setI μ91 293 (Int32.toNatClampNeg 1) ((sh_i μ91 293 (Int32.toNatClampNeg 1)) + 1)) := ⟨_, rfl⟩
          rw [sh_let_eq eμ96] at h
          have hG96 : sh_G μ96 := by rw [eμ96]; exact hG91
          have hF96 : sh_offX μ μ96 := by rw [eμ96]; exact sh_offX_I hF91 (by decide)
          obtain ⟨e1, e2⟩ := sh_some2 h
          exact e2 ▸ hF96
theorem fp_X12_plain {μ μ' : sh_Mem} {v : Int32} (hG : sh_G μ) (h : f_X12_plain μ = some (v, μ')) : sh_offX μ μ' := by
  have ih_47 := (fpl_X12_plain sh_fuel).1
  have ih_74 := (fpl_X12_plain sh_fuel).2.1
  have ih_103 := (fpl_X12_plain sh_fuel).2.2
  have hF : sh_offX μ μ := sh_offX.rf
  unfold f_X12_plain at h
  obtain ⟨μ111, eμ111⟩ : ∃ y : sh_Mem, y = (sh_setI μ 291 3 (sh_i μ 291 1)) := ⟨_, rfl⟩
  rw [sh_let_eq eμ111] at h
  have hG111 : sh_G μ111 := by rw [eμ111]; exact hG
  have hF111 : sh_offX μ μ111 := by rw [eμ111]; exact sh_offX_I hF (by decide)
  obtain ⟨μ112, eμ112⟩ : ∃ y : sh_Mem, y = (sh_setI μ111 291 1 0) := ⟨_, rfl⟩
  rw [sh_let_eq eμ112] at h
  have hG112 : sh_G μ112 := by rw [eμ112]; exact hG111
  have hF112 : sh_offX μ μ112 := by rw [eμ112]; exact sh_offX_I hF111 (by decide)
  obtain ⟨μ113, eμ113⟩ : ∃ y : sh_Mem, y = (sh_setI μ112 291 2 0) := ⟨_, rfl⟩
  rw [sh_let_eq eμ113] at h
  have hG113 : sh_G μ113 := by rw [eμ113]; exact hG112
  have hF113 : sh_offX μ μ113 := by rw [eμ113]; exact sh_offX_I hF112 (by decide)
  obtain ⟨μ114, eμ114⟩ : ∃ y : sh_Mem, y = (sh_setI μ113 291 4 (-1)) := ⟨_, rfl⟩
  rw [sh_let_eq eμ114] at h
  have hG114 : sh_G μ114 := by rw [eμ114]; exact hG113
  have hF114 : sh_offX μ μ114 := by rw [eμ114]; exact sh_offX_I hF113 (by decide)
  obtain ⟨μ115, eμ115⟩ : ∃ y : sh_Mem, y = (sh_setI μ114 291 5 0) := ⟨_, rfl⟩
  rw [sh_let_eq eμ115] at h
  have hG115 : sh_G μ115 := by rw [eμ115]; exact hG114
  have hF115 : sh_offX μ μ115 := by rw [eμ115]; exact sh_offX_I hF114 (by decide)
  obtain ⟨μ116, eμ116⟩ : ∃ y : sh_Mem, y = (sh_setI μ115 291 6 (-1)) := ⟨_, rfl⟩
  rw [sh_let_eq eμ116] at h
  have hG116 : sh_G μ116 := by rw [eμ116]; exact hG115
  have hF116 : sh_offX μ μ116 := by rw [eμ116]; exact sh_offX_I hF115 (by decide)
  obtain ⟨μ117, eμ117⟩ : ∃ y : sh_Mem, y = (sh_setI μ116 291 48 0) := ⟨_, rfl⟩
  rw [sh_let_eq eμ117] at h
  have hG117 : sh_G μ117 := by rw [eμ117]; exact hG116
  have hF117 : sh_offX μ μ117 := by rw [eμ117]; exact sh_offX_I hF116 (by decide)
  obtain ⟨μ118, eμ118⟩ : ∃ y : sh_Mem, y = (sh_setI μ117 321 (Int32.toNatClampNeg 2) 0) := ⟨_, rfl⟩
  rw [sh_let_eq eμ118] at h
  have hG118 : sh_G μ118 := by rw [eμ118]; exact hG117
  have hF118 : sh_offX μ μ118 := by rw [eμ118]; exact sh_offX_I hF117 (by decide)
  exact hF118.trans (ih_47 hG118 h)
