theorem fp_X6_readKnows {μ μ' : sh_Mem} {v : Int32} (hG : sh_G μ) (h : f_X6_readKnows μ = some (v, μ')) : sh_offM μ μ' := by
  have hF : sh_offM μ μ := sh_offM.rf
  unfold f_X6_readKnows at h
  obtain ⟨μ1, hr2, h⟩ := sh_bindv_e h
  have hG1 := gp_X8_advance hG hr2
  have hF1 := hF.trans (fp_X8_advance hG hr2)
  obtain ⟨y6, μ4, hr5, h⟩ := sh_bind_e h
  have hG4 := gp_X8_takeName hG1 hr5
  have hF4 := hF1.trans (fp_X8_takeName hG1 hr5)
  obtain ⟨y9, μ7, hr8, h⟩ := sh_bind_e h
  have hG7 := gp_X6_asPerson hG4 hr8
  have hF7 := hF4.trans (fp_X6_asPerson hG4 hr8)
  by_cases c10 : y9 = (-1)
  · rw [if_pos c10] at h
    obtain ⟨e1, e2⟩ := sh_some2 h
    exact e2 ▸ hF7
  · rw [if_neg c10] at h
    obtain ⟨y13, μ11, hr12, h⟩ := sh_bind_e h
    have hG11 := gp_X8_takesWord hG7 hr12
    have hF11 := hF7.trans (fp_X8_takesWord hG7 hr12)
    by_cases c14 : y13 = 0
    · rw [if_pos c14] at h
      obtain ⟨e1, e2⟩ := sh_some2 h
      exact e2 ▸ hF11
    · rw [if_neg c14] at h
      obtain ⟨y17, μ15, hr16, h⟩ := sh_bind_e h
      have hG15 := gp_X8_takeName hG11 hr16
      have hF15 := hF11.trans (fp_X8_takeName hG11 hr16)
      obtain ⟨y20, μ18, hr19, h⟩ := sh_bind_e h
      have hG18 := gp_X6_asTopic hG15 hr19
      have hF18 := hF15.trans (fp_X6_asTopic hG15 hr19)
      by_cases c21 : y20 = (-1)
      · rw [if_pos c21] at h
        obtain ⟨e1, e2⟩ := sh_some2 h
        exact e2 ▸ hF18
      · rw [if_neg c21] at h
        obtain ⟨k22, h⟩ := sh_chk h
        obtain ⟨r23, er23⟩ : ∃ y : Nat, y = (sh_ref μ18 7 2) := ⟨_, rfl⟩
        rw [sh_let_eq er23] at h
        have k22r : sh_r μ18 7 2 = some r23 ∧ (r23 = 8 ∨ r23 = 29) := by rw [er23]; exact k22
        obtain ⟨k24, h⟩ := sh_chk h
        by_cases c25 : (((sh_i μ18 ((r23 + 14) + 5) y9.toNatClampNeg) >>> (y20 &&& 31)) &&& 1) = 1
        · rw [if_pos c25] at h
          obtain ⟨y33, μ31, hr32, h⟩ := sh_bind_e h
          have hG31 := gp_X8_fails hG18 hr32
          have hF31 := hF18.trans (fp_X8_fails hG18 hr32)
          obtain ⟨k34, h⟩ := sh_chk h
          obtain ⟨e1, e2⟩ := sh_some2 h
          exact e2 ▸ hF31
        · rw [if_neg c25] at h
          obtain ⟨k26, h⟩ := sh_chk h
          obtain ⟨r27, er27⟩ : ∃ y : Nat, y = (sh_ref μ18 7 2) := ⟨_, rfl⟩
          rw [sh_let_eq er27] at h
          have k26r : sh_r μ18 7 2 = some r27 ∧ (r27 = 8 ∨ r27 = 29) := by rw [er27]; exact k26
          obtain ⟨k28, h⟩ := sh_chk h
          obtain ⟨k29, h⟩ := sh_chk h
          obtain ⟨μ30, eμ30⟩ : ∃ y : sh_Mem, y = (sh_setI μ18 ((r27 + 14) + 5) y9.toNatClampNeg ((sh_i μ18 ((r27 + 14) + 5) y9.toNatClampNeg) ||| ((1 : Int32) <<< (y20 &&& 31)))) := ⟨_, rfl⟩
          rw [sh_let_eq eμ30] at h
          have hG30 : sh_G μ30 := by rw [eμ30]; exact hG18
          have hF30 : sh_offM μ μ30 := by rw [eμ30]; exact sh_offM_I hF18 (sh_ltL (gP_land k26r.2) 5 (by decide))
          obtain ⟨e1, e2⟩ := sh_some2 h
          exact e2 ▸ hF30
theorem fp_X6_readAsks {μ μ' : sh_Mem} {v : Int32} (hG : sh_G μ) (h : f_X6_readAsks μ = some (v, μ')) : sh_offM μ μ' := by
  have hF : sh_offM μ μ := sh_offM.rf
  unfold f_X6_readAsks at h
  obtain ⟨μ1, hr2, h⟩ := sh_bindv_e h
  have hG1 := gp_X8_advance hG hr2
  have hF1 := hF.trans (fp_X8_advance hG hr2)
  obtain ⟨y6, μ4, hr5, h⟩ := sh_bind_e h
  have hG4 := gp_X8_takeName hG1 hr5
  have hF4 := hF1.trans (fp_X8_takeName hG1 hr5)
  obtain ⟨y9, μ7, hr8, h⟩ := sh_bind_e h
  have hG7 := gp_X6_asPerson hG4 hr8
  have hF7 := hF4.trans (fp_X6_asPerson hG4 hr8)
  by_cases c10 : y9 = (-1)
  · rw [if_pos c10] at h
    obtain ⟨e1, e2⟩ := sh_some2 h
    exact e2 ▸ hF7
  · rw [if_neg c10] at h
    obtain ⟨y13, μ11, hr12, h⟩ := sh_bind_e h
    have hG11 := gp_X8_takesWord hG7 hr12
    have hF11 := hF7.trans (fp_X8_takesWord hG7 hr12)
    by_cases c14 : y13 = 0
    · rw [if_pos c14] at h
      obtain ⟨e1, e2⟩ := sh_some2 h
      exact e2 ▸ hF11
    · rw [if_neg c14] at h
      obtain ⟨y17, μ15, hr16, h⟩ := sh_bind_e h
      have hG15 := gp_X8_takeName hG11 hr16
      have hF15 := hF11.trans (fp_X8_takeName hG11 hr16)
      obtain ⟨y20, μ18, hr19, h⟩ := sh_bind_e h
      have hG18 := gp_X6_asTopic hG15 hr19
      have hF18 := hF15.trans (fp_X6_asTopic hG15 hr19)
      by_cases c21 : y20 = (-1)
      · rw [if_pos c21] at h
        obtain ⟨e1, e2⟩ := sh_some2 h
        exact e2 ▸ hF18
      · rw [if_neg c21] at h
        obtain ⟨k22, h⟩ := sh_chk h
        obtain ⟨r23, er23⟩ : ∃ y : Nat, y = (sh_ref μ18 7 2) := ⟨_, rfl⟩
        rw [sh_let_eq er23] at h
        have k22r : sh_r μ18 7 2 = some r23 ∧ (r23 = 8 ∨ r23 = 29) := by rw [er23]; exact k22
        obtain ⟨k24, h⟩ := sh_chk h
        obtain ⟨r25, er25⟩ : ∃ y : Nat, y = (sh_ref μ18 7 2) := ⟨_, rfl⟩
        rw [sh_let_eq er25] at h
        have k24r : sh_r μ18 7 2 = some r25 ∧ (r25 = 8 ∨ r25 = 29) := by rw [er25]; exact k24
        obtain ⟨k26, h⟩ := sh_chk h
        obtain ⟨μ27, eμ27⟩ : ∃ y : sh_Mem, y = (sh_setI μ18 (r23 + 3) ((sh_i μ18 r25 4)).toNatClampNeg y9) := ⟨_, rfl⟩
        rw [sh_let_eq eμ27] at h
        have hG27 : sh_G μ27 := by rw [eμ27]; exact hG18
        have hF27 : sh_offM μ μ27 := by rw [eμ27]; exact sh_offM_I hF18 (sh_ltP k22r.2 3 (by decide))
        obtain ⟨k28, h⟩ := sh_chk h
        obtain ⟨r29, er29⟩ : ∃ y : Nat, y = (sh_ref μ27 7 2) := ⟨_, rfl⟩
        rw [sh_let_eq er29] at h
        have k28r : sh_r μ27 7 2 = some r29 ∧ (r29 = 8 ∨ r29 = 29) := by rw [er29]; exact k28
        obtain ⟨k30, h⟩ := sh_chk h
        obtain ⟨r31, er31⟩ : ∃ y : Nat, y = (sh_ref μ27 7 2) := ⟨_, rfl⟩
        rw [sh_let_eq er31] at h
        have k30r : sh_r μ27 7 2 = some r31 ∧ (r31 = 8 ∨ r31 = 29) := by rw [er31]; exact k30
        obtain ⟨k32, h⟩ := sh_chk h
        obtain ⟨μ33, eμ33⟩ : ∃ y : sh_Mem, y = (sh_setI μ27 (r29 + 4) ((sh_i μ27 r31 4)).toNatClampNeg y20) := ⟨_, rfl⟩
        rw [sh_let_eq eμ33] at h
        have hG33 : sh_G μ33 := by rw [eμ33]; exact hG27
        have hF33 : sh_offM μ μ33 := by rw [eμ33]; exact sh_offM_I hF27 (sh_ltP k28r.2 4 (by decide))
        obtain ⟨k34, h⟩ := sh_chk h
        obtain ⟨r35, er35⟩ : ∃ y : Nat, y = (sh_ref μ33 7 2) := ⟨_, rfl⟩
        rw [sh_let_eq er35] at h
        have k34r : sh_r μ33 7 2 = some r35 ∧ (r35 = 8 ∨ r35 = 29) := by rw [er35]; exact k34
        obtain ⟨μ36, eμ36⟩ : ∃ y : sh_Mem, y = (sh_setI μ33 r35 4 ((sh_i μ33 r35 4) + 1)) := ⟨_, rfl⟩
        rw [sh_let_eq eμ36] at h
        have hG36 : sh_G μ36 := by rw [eμ36]; exact hG33
        have hF36 : sh_offM μ μ36 := by rw [eμ36]; exact sh_offM_I hF33 (sh_ltP k34r.2 0 (by decide))
        obtain ⟨e1, e2⟩ := sh_some2 h
        exact e2 ▸ hF36
theorem fp_X6_beginRule {f1 : Nat} {a2 : Int32} {μ μ' : sh_Mem} (hG : sh_G μ) (hf1 : sh_isF f1) (h : f_X6_beginRule f1 a2 μ = some μ') : sh_offM μ μ' := by
  have hF : sh_offM μ μ := sh_offM.rf
  unfold f_X6_beginRule at h
  obtain ⟨μ1, hr2, h⟩ := sh_bindv_e h
  have hG1 := gp_X8_advance hG hr2
  have hF1 := hF.trans (fp_X8_advance hG hr2)
  obtain ⟨μ4, hr5, h⟩ := sh_bindv_e h
  have hG4 := gp_X2_begin hG1 hf1 hr5
  have hF4 := hF1.trans (fp_X2_begin hG1 hf1 hr5)
  have e2 := Option.some.inj h
  exact e2 ▸ hF4
theorem fp_X6_readCrowd {μ μ' : sh_Mem} {v : Int32} (hG : sh_G μ) (h : f_X6_readCrowd μ = some (v, μ')) : sh_offM μ μ' := by
  have hF : sh_offM μ μ := sh_offM.rf
  unfold f_X6_readCrowd at h
  obtain ⟨μ1, hr2, h⟩ := sh_bindv_e h
  have hG1 := gp_X8_advance hG hr2
  have hF1 := hF.trans (fp_X8_advance hG hr2)
  obtain ⟨y6, μ4, hr5, h⟩ := sh_bind_e h
  have hG4 := gp_X8_takeNumber hG1 hr5
  have hF4 := hF1.trans (fp_X8_takeNumber hG1 hr5)
  by_cases c7 : y6 = (-1)
  · rw [if_pos c7] at h
    obtain ⟨e1, e2⟩ := sh_some2 h
    exact e2 ▸ hF4
  · rw [if_neg c7] at h
    obtain ⟨k8, h⟩ := sh_chk h
    obtain ⟨r9, er9⟩ : ∃ y : Nat, y = (sh_ref μ4 7 2) := ⟨_, rfl⟩
    rw [sh_let_eq er9] at h
    have k8r : sh_r μ4 7 2 = some r9 ∧ (r9 = 8 ∨ r9 = 29) := by rw [er9]; exact k8
    obtain ⟨μ10, eμ10⟩ : ∃ y : sh_Mem, y = (sh_setI μ4 r9 5 y6) := ⟨_, rfl⟩
    rw [sh_let_eq eμ10] at h
    have hG10 : sh_G μ10 := by rw [eμ10]; exact hG4
    have hF10 : sh_offM μ μ10 := by rw [eμ10]; exact sh_offM_I hF4 (sh_ltP k8r.2 0 (by decide))
    obtain ⟨e1, e2⟩ := sh_some2 h
    exact e2 ▸ hF10
theorem fp_X8_begin {a1 : Int32} {μ μ' : sh_Mem} (hG : sh_G μ) (h : f_X8_begin a1 μ = some μ') : sh_offM μ μ' := by
  have hF : sh_offM μ μ := sh_offM.rf
  unfold f_X8_begin at h
  obtain ⟨μ1, eμ1⟩ : ∃ y : sh_Mem, y = (sh_setI μ 2 1 (f_J9_min_7cf53 μ a1 (Int32.ofNat 1600))) := ⟨_, rfl⟩
  rw [sh_let_eq eμ1] at h
  have hG1 : sh_G μ1 := by rw [eμ1]; exact hG
  have hF1 : sh_offM μ μ1 := by rw [eμ1]; exact sh_offM_I hF (by decide)
  obtain ⟨μ2, eμ2⟩ : ∃ y : sh_Mem, y = (sh_setI μ1 2 2 0) := ⟨_, rfl⟩
  rw [sh_let_eq eμ2] at h
  have hG2 : sh_G μ2 := by rw [eμ2]; exact hG1
  have hF2 : sh_offM μ μ2 := by rw [eμ2]; exact sh_offM_I hF1 (by decide)
  obtain ⟨μ3, eμ3⟩ : ∃ y : sh_Mem, y = (sh_setI μ2 2 3 (-1)) := ⟨_, rfl⟩
  rw [sh_let_eq eμ3] at h
  have hG3 : sh_G μ3 := by rw [eμ3]; exact hG2
  have hF3 : sh_offM μ μ3 := by rw [eμ3]; exact sh_offM_I hF2 (by decide)
  obtain ⟨μ4, eμ4⟩ : ∃ y : sh_Mem, y = (sh_setI μ3 2 4 0) := ⟨_, rfl⟩
  rw [sh_let_eq eμ4] at h
  have hG4 : sh_G μ4 := by rw [eμ4]; exact hG3
  have hF4 : sh_offM μ μ4 := by rw [eμ4]; exact sh_offM_I hF3 (by decide)
  obtain ⟨μ5, eμ5⟩ : ∃ y : sh_Mem, y = (sh_setI μ4 2 10 0) := ⟨_, rfl⟩
  rw [sh_let_eq eμ5] at h
  have hG5 : sh_G μ5 := by rw [eμ5]; exact hG4
  have hF5 : sh_offM μ μ5 := by rw [eμ5]; exact sh_offM_I hF4 (by decide)
  obtain ⟨μ6, eμ6⟩ : ∃ y : sh_Mem, y = (sh_setI μ5 2 11 (-1)) := ⟨_, rfl⟩
  rw [sh_let_eq eμ6] at h
  have hG6 : sh_G μ6 := by rw [eμ6]; exact hG5
  have hF6 : sh_offM μ μ6 := by rw [eμ6]; exact sh_offM_I hF5 (by decide)
  obtain ⟨μ7, hr8, h⟩ := sh_bindv_e h
  have hG7 := gp_X8_advance hG6 hr8
  have hF7 := hF6.trans (fp_X8_advance hG6 hr8)
  have e2 := Option.some.inj h
  exact e2 ▸ hF7
theorem fpl_X9_cost (fuel : Nat) : (∀ ⦃r1 : Nat⦄ ⦃r2 : Nat⦄ ⦃i3 : Int32⦄ ⦃i4 : Int32⦄ ⦃i5 : Int32⦄ ⦃i6 : Int32⦄ ⦃i7 : Int32⦄ ⦃μ μ' : sh_Mem⦄ ⦃v : Int32⦄, sh_G μ → sh_isP r1 → sh_isL r2 → F_X9_cost fuel 1 r1 r2 i3 i4 i5 i6 i7 μ = some (v, μ') → sh_offM μ μ') ∧ (∀ ⦃r1 : Nat⦄ ⦃r2 : Nat⦄ ⦃i3 : Int32⦄ ⦃i4 : Int32⦄ ⦃i5 : Int32⦄ ⦃i6 : Int32⦄ ⦃i7 : Int32⦄ ⦃μ μ' : sh_Mem⦄ ⦃v : Int32⦄, sh_G μ → sh_isP r1 → sh_isL r2 → F_X9_cost fuel 2 r1 r2 i3 i4 i5 i6 i7 μ = some (v, μ') → sh_offM μ μ') := by
  induction fuel with
  | zero => exact ⟨(by intro r1 r2 i3 i4 i5 i6 i7 μ μ' v hG hr1 hr2 h; cases h), (by intro r1 r2 i3 i4 i5 i6 i7 μ μ' v hG hr1 hr2 h; cases h)⟩
  | succ fuel ih =>
    obtain ⟨ih_22, ih_40⟩ := ih
    refine ⟨?_, ?_⟩
    · intro r1 r2 i3 i4 i5 i6 i7 μ μ' v hG hr1 hr2 h
      replace h : ((if 49 ≤ i6 then (if sh_in i4 49 then some ((sh_i μ 288 i4.toNatClampNeg), μ) else none) else (if i5 = 0 then (if sh_in i4 49 then some ((sh_i μ 288 i4.toNatClampNeg), μ) else none) else F_X9_cost fuel 2 r1 r2 i3 i4 0 i6 0 μ)) : Option (Int32 × sh_Mem)) = some (v, μ') := h
      have hF : sh_offM μ μ := sh_offM.rf
      by_cases c24 : 49 ≤ i6
      · rw [if_pos c24] at h
        obtain ⟨k25, h⟩ := sh_chk h
        obtain ⟨e1, e2⟩ := sh_some2 h
        exact e2 ▸ hF
      · rw [if_neg c24] at h
        by_cases c26 : i5 = 0
        · rw [if_pos c26] at h
          obtain ⟨k27, h⟩ := sh_chk h
          obtain ⟨e1, e2⟩ := sh_some2 h
          exact e2 ▸ hF
        · rw [if_neg c26] at h
          exact hF.trans (ih_40 hG hr1 hr2 h)
    · intro r1 r2 i3 i4 i5 i6 i7 μ μ' v hG hr1 hr2 h
      replace h : ((if (f_X5_cells μ r1) ≤ i7 then F_X9_cost fuel 1 r1 r2 i3 i4 i5 (i6 + 1) 0 μ else sh_bind (f_X9_improves r1 r2 i7 μ) (fun y31 μ29 => (if y31 = 0 then F_X9_cost fuel 2 r1 r2 i3 i4 i5 i6 (i7 + 1) μ29 else F_X9_cost fuel 2 r1 r2 i3 i4 1 i6 (i7 + 1) μ29))) : Option (Int32 × sh_Mem)) = some (v, μ') := h
      have hF : sh_offM μ μ := sh_offM.rf
      by_cases c28 : (f_X5_cells μ r1) ≤ i7
      · rw [if_pos c28] at h
        exact hF.trans (ih_22 hG hr1 hr2 h)
      · rw [if_neg c28] at h
        obtain ⟨y31, μ29, hr30, h⟩ := sh_bind_e h
        have hG29 := gp_X9_improves hG hr1 hr2 hr30
        have hF29 := hF.trans (fp_X9_improves hG hr1 hr2 hr30)
        by_cases c32 : y31 = 0
        · rw [if_pos c32] at h
          exact hF29.trans (ih_40 hG29 hr1 hr2 h)
        · rw [if_neg c32] at h
          exact hF29.trans (ih_40 hG29 hr1 hr2 h)
theorem fp_X9_cost {p1 : Nat} {q2 : Nat} {a3 : Int32} {a4 : Int32} {μ μ' : sh_Mem} {v : Int32} (hG : sh_G μ) (hp1 : sh_isP p1) (hq2 : sh_isL q2) (h : f_X9_cost p1 q2 a3 a4 μ = some (v, μ')) : sh_offM μ μ' := by
  have ih_22 := (fpl_X9_cost sh_fuel).1
  have ih_40 := (fpl_X9_cost sh_fuel).2
  have hF : sh_offM μ μ := sh_offM.rf
  unfold f_X9_cost at h
  obtain ⟨μ33, hr34, h⟩ := sh_bindv_e h
  have hG33 := gp_J7_fill_53178 hG (sh_LAYat_288) hr34
  have hF33 := hF.trans (fp_J7_fill_53178 hG (sh_LAYat_288) (by decide) hr34)
  obtain ⟨k36, h⟩ := sh_chk h
  obtain ⟨μ37, eμ37⟩ : ∃ y : sh_Mem, y = (sh_setI μ33 288 a3.toNatClampNeg 0) := ⟨_, rfl⟩
  rw [sh_let_eq eμ37] at h
  have hG37 : sh_G μ37 := by rw [eμ37]; exact hG33
  have hF37 : sh_offM μ μ37 := by rw [eμ37]; exact sh_offM_I hF33 (by decide)
  exact hF37.trans (ih_22 hG37 hp1 hq2 h)
theorem fp_X10_deed {q1 : Nat} {a2 : Int32} {a3 : Int32} {μ μ' : sh_Mem} {v : Int32} (hG : sh_G μ) (hq1 : sh_isL q1) (h : f_X10_deed q1 a2 a3 μ = some (v, μ')) : sh_offM μ μ' := by
  have hF : sh_offM μ μ := sh_offM.rf
  unfold f_X10_deed at h
  obtain ⟨k1, h⟩ := sh_chk h
  by_cases c2 : (((sh_i μ (q1 + 5) a2.toNatClampNeg) >>> (a3 &&& 31)) &&& 1) = 1
  · rw [if_pos c2] at h
    obtain ⟨e1, e2⟩ := sh_some2 h
    exact e2 ▸ hF
  · rw [if_neg c2] at h
    obtain ⟨μ3, hr4, h⟩ := sh_bindv_e h
    have hG3 := gp_X10_gather hG hq1 (sh_LAYat_56) hr4
    have hF3 := hF.trans (fp_X10_gather hG hq1 (sh_LAYat_56) (by decide) hr4)
    obtain ⟨μ6, eμ6⟩ : ∃ y : sh_Mem, y = (sh_setI μ3 56 (Int32.toNatClampNeg 3) a3) := ⟨_, rfl⟩
    rw [sh_let_eq eμ6] at h
    have hG6 : sh_G μ6 := by rw [eμ6]; exact hG3
    have hF6 : sh_offM μ μ6 := by rw [eμ6]; exact sh_offM_I hF3 (by decide)
    obtain ⟨k7, h⟩ := sh_chk h
    obtain ⟨r8, er8⟩ : ∃ y : Nat, y = (sh_ref μ6 55 0) := ⟨_, rfl⟩
    rw [sh_let_eq er8] at h
    have k7r : sh_r μ6 55 0 = some r8 ∧ (r8 = 8 ∨ r8 = 29) := by rw [er8]; exact k7
    obtain ⟨y11, μ9, hr10, h⟩ := sh_bind_e h
    have hG9 := gp_X1_value hG6 (gP_f12 k7r.2) (sh_LAYat_56) hr10
    have hF9 := hF6.trans (fp_X1_value hG6 (gP_f12 k7r.2) (sh_LAYat_56) (by decide) hr10)
    by_cases c12 : (lg_cmp y11 0) = 0
    · rw [if_pos c12] at h
      obtain ⟨e1, e2⟩ := sh_some2 h
      exact e2 ▸ hF9
    · rw [if_neg c12] at h
      obtain ⟨e1, e2⟩ := sh_some2 h
      exact e2 ▸ hF9
theorem fpl_X10_lift (fuel : Nat) : (∀ ⦃r1 : Nat⦄ ⦃i2 : Int32⦄ ⦃i3 : Int32⦄ ⦃i4 : Int32⦄ ⦃μ μ' : sh_Mem⦄, sh_G μ → sh_isL r1 → F_X10_lift fuel 1 r1 i2 i3 i4 μ = some μ' → sh_offM μ μ') := by
  induction fuel with
  | zero => intro r1 i2 i3 i4 μ μ' hG hr1 h; cases h
  | succ fuel ih =>
    have ih_42 := ih
    intro r1 i2 i3 i4 μ μ' hG hr1 h
    replace h : ((if i3 ≤ i4 then some μ else (if sh_in i2 49 then (if 99 ≤ (sh_i μ (r1 + 1) i2.toNatClampNeg) then some μ else sh_bind (f_X10_findHighest r1 μ) (fun y29 μ27 => (if y29 = 0 then some μ27 else (if sh_in (sh_i μ27 55 8) 49 then (if sh_in (sh_i μ27 55 8) 49 then sh_let (sh_setI μ27 (r1 + 1) ((sh_i μ27 55 8)).toNatClampNeg ((sh_i μ27 (r1 + 1) ((sh_i μ27 55 8)).toNatClampNeg) - 1)) (fun μ33 => (if sh_in i2 49 then (if sh_in i2 49 then sh_let (sh_setI μ33 (r1 + 1) i2.toNatClampNeg ((sh_i μ33 (r1 + 1) i2.toNatClampNeg) + 1)) (fun μ36 => sh_let (sh_setI μ36 55 1 ((sh_i μ36 55 1) + 1)) (fun μ37 => F_X10_lift fuel 1 r1 i2 i3 (i4 + 1) μ37)) else none) else none)) else none) else none)))) else none)) : Option sh_Mem) = some μ' := h
    have hF : sh_offM μ μ := sh_offM.rf
    by_cases c24 : i3 ≤ i4
    · rw [if_pos c24] at h
      have e2 := Option.some.inj h
      exact e2 ▸ hF
    · rw [if_neg c24] at h
      obtain ⟨k25, h⟩ := sh_chk h
      by_cases c26 : 99 ≤ (sh_i μ (r1 + 1) i2.toNatClampNeg)
      · rw [if_pos c26] at h
        have e2 := Option.some.inj h
        exact e2 ▸ hF
      · rw [if_neg c26] at h
        obtain ⟨y29, μ27, hr28, h⟩ := sh_bind_e h
        have hG27 := gp_X10_findHighest hG hr1 hr28
        have hF27 := hF.trans (fp_X10_findHighest hG hr1 hr28)
        by_cases c30 : y29 = 0
        · rw [if_pos c30] at h
          have e2 := Option.some.inj h
          exact e2 ▸ hF27
        · rw [if_neg c30] at h
          obtain ⟨k31, h⟩ := sh_chk h
          obtain ⟨k32, h⟩ := sh_chk h
          obtain ⟨μ33, eμ33⟩ : ∃ y : sh_Mem, y = (sh_setI μ27 (r1 + 1) ((sh_i μ27 55 8)).toNatClampNeg ((sh_i μ27 (r1 + 1) ((sh_i μ27 55 8)).toNatClampNeg) - 1)) := ⟨_, rfl⟩
          rw [sh_let_eq eμ33] at h
          have hG33 : sh_G μ33 := by rw [eμ33]; exact hG27
          have hF33 : sh_offM μ μ33 := by rw [eμ33]; exact sh_offM_I hF27 (sh_ltL hr1 1 (by decide))
          obtain ⟨k34, h⟩ := sh_chk h
          obtain ⟨k35, h⟩ := sh_chk h
          obtain ⟨μ36, eμ36⟩ : ∃ y : sh_Mem, y = (sh_setI μ33 (r1 + 1) i2.toNatClampNeg ((sh_i μ33 (r1 + 1) i2.toNatClampNeg) + 1)) := ⟨_, rfl⟩
          rw [sh_let_eq eμ36] at h
          have hG36 : sh_G μ36 := by rw [eμ36]; exact hG33
          have hF36 : sh_offM μ μ36 := by rw [eμ36]; exact sh_offM_I hF33 (sh_ltL hr1 1 (by decide))
          obtain ⟨μ37, eμ37⟩ : ∃ y : sh_Mem, y = (sh_setI μ36 55 1 ((sh_i μ36 55 1) + 1)) := ⟨_, rfl⟩
          rw [sh_let_eq eμ37] at h
          have hG37 : sh_G μ37 := by rw [eμ37]; exact hG36
          have hF37 : sh_offM μ μ37 := by rw [eμ37]; exact sh_offM_I hF36 (by decide)
          exact hF37.trans (ih_42 hG37 hr1 h)
theorem fp_X10_lift {q1 : Nat} {a2 : Int32} {μ μ' : sh_Mem} (hG : sh_G μ) (hq1 : sh_isL q1) (h : f_X10_lift q1 a2 μ = some μ') : sh_offM μ μ' := by
  have ih_42 := (fpl_X10_lift sh_fuel)
  have hF : sh_offM μ μ := sh_offM.rf
  unfold f_X10_lift at h
  by_cases c38 : a2 = (-1)
  · rw [if_pos c38] at h
    have e2 := Option.some.inj h
    exact e2 ▸ hF
  · rw [if_neg c38] at h
    obtain ⟨k39, h⟩ := sh_chk h
    obtain ⟨μ40, eμ40⟩ : ∃ y : sh_Mem, y = (sh_setI μ 56 (Int32.toNatClampNeg 17) (sh_i μ (q1 + 1) a2.toNatClampNeg)) := ⟨_, rfl⟩
    rw [sh_let_eq eμ40] at h
    have hG40 : sh_G μ40 := by rw [eμ40]; exact hG
    have hF40 : sh_offM μ μ40 := by rw [eμ40]; exact sh_offM_I hF (by decide)
    obtain ⟨k41, h⟩ := sh_chk h
    obtain ⟨r42, er42⟩ : ∃ y : Nat, y = (sh_ref μ40 55 0) := ⟨_, rfl⟩
    rw [sh_let_eq er42] at h
    have k41r : sh_r μ40 55 0 = some r42 ∧ (r42 = 8 ∨ r42 = 29) := by rw [er42]; exact k41
    obtain ⟨y45, μ43, hr44, h⟩ := sh_bind_e h
    have hG43 := gp_X1_value hG40 (gP_f10 k41r.2) (sh_LAYat_56) hr44
    have hF43 := hF40.trans (fp_X1_value hG40 (gP_f10 k41r.2) (sh_LAYat_56) (by decide) hr44)
    obtain ⟨x46, ex46⟩ : ∃ y : Int32, y = (f_X10_within μ43 y45 9) := ⟨_, rfl⟩
    rw [sh_let_eq ex46] at h
    exact hF43.trans (ih_42 hG43 hq1 h)
theorem fp_X11_would {a1 : Int32} {a2 : Int32} {μ μ' : sh_Mem} {v : Int32} (hG : sh_G μ) (h : f_X11_would a1 a2 μ = some (v, μ')) : sh_offM μ μ' := by
  have hF : sh_offM μ μ := sh_offM.rf
  unfold f_X11_would at h
  obtain ⟨y3, μ1, hr2, h⟩ := sh_bind_e h
  have hG1 := gp_X11_isPerson hG hr2
  have hF1 := hF.trans (fp_X11_isPerson hG hr2)
  by_cases c4 : y3 = 0
  · rw [if_pos c4] at h
    obtain ⟨e1, e2⟩ := sh_some2 h
    exact e2 ▸ hF1
  · rw [if_neg c4] at h
    obtain ⟨y7, μ5, hr6, h⟩ := sh_bind_e h
    have hG5 := gp_X11_isTopic hG1 hr6
    have hF5 := hF1.trans (fp_X11_isTopic hG1 hr6)
    by_cases c8 : y7 = 0
    · rw [if_pos c8] at h
      obtain ⟨e1, e2⟩ := sh_some2 h
      exact e2 ▸ hF5
    · rw [if_neg c8] at h
      obtain ⟨y11, μ9, hr10, h⟩ := sh_bind_e h
      have hG9 := gp_X10_deed hG5 sh_isL_49 hr10
      have hF9 := hF5.trans (fp_X10_deed hG5 sh_isL_49 hr10)
      obtain ⟨e1, e2⟩ := sh_some2 h
      exact e2 ▸ hF9
theorem fp_X11_way {a1 : Int32} {a2 : Int32} {μ μ' : sh_Mem} {v : Int32} (hG : sh_G μ) (h : f_X11_way a1 a2 μ = some (v, μ')) : sh_offM μ μ' := by
  have hF : sh_offM μ μ := sh_offM.rf
  unfold f_X11_way at h
  obtain ⟨k1, h⟩ := sh_chk h
  obtain ⟨r2, er2⟩ : ∃ y : Nat, y = (sh_ref μ 0 7) := ⟨_, rfl⟩
  rw [sh_let_eq er2] at h
  have k1r : sh_r μ 0 7 = some r2 ∧ (r2 = 8 ∨ r2 = 29) := by rw [er2]; exact k1
  obtain ⟨y5, μ3, hr4, h⟩ := sh_bind_e h
  have hG3 := gp_X5_cellOf hG k1r.2 hr4
  have hF3 := hF.trans (fp_X5_cellOf hG k1r.2 hr4)
  obtain ⟨k6, h⟩ := sh_chk h
  obtain ⟨r7, er7⟩ : ∃ y : Nat, y = (sh_ref μ3 0 7) := ⟨_, rfl⟩
  rw [sh_let_eq er7] at h
  have k6r : sh_r μ3 0 7 = some r7 ∧ (r7 = 8 ∨ r7 = 29) := by rw [er7]; exact k6
  obtain ⟨y10, μ8, hr9, h⟩ := sh_bind_e h
  have hG8 := gp_X5_cellOf hG3 k6r.2 hr9
  have hF8 := hF3.trans (fp_X5_cellOf hG3 k6r.2 hr9)
  by_cases c11 : y5 = (-1)
  · rw [if_pos c11] at h
    obtain ⟨e1, e2⟩ := sh_some2 h
    exact e2 ▸ hF8
  · rw [if_neg c11] at h
    by_cases c12 : y10 = (-1)
    · rw [if_pos c12] at h
      obtain ⟨e1, e2⟩ := sh_some2 h
      exact e2 ▸ hF8
    · rw [if_neg c12] at h
      obtain ⟨k13, h⟩ := sh_chk h
      obtain ⟨r14, er14⟩ : ∃ y : Nat, y = (sh_ref μ8 0 7) := ⟨_, rfl⟩
      rw [sh_let_eq er14] at h
      have k13r : sh_r μ8 0 7 = some r14 ∧ (r14 = 8 ∨ r14 = 29) := by rw [er14]; exact k13
      obtain ⟨y17, μ15, hr16, h⟩ := sh_bind_e h
      have hG15 := gp_X9_cost hG8 k13r.2 sh_isL_49 hr16
      have hF15 := hF8.trans (fp_X9_cost hG8 k13r.2 sh_isL_49 hr16)
      obtain ⟨e1, e2⟩ := sh_some2 h
      exact e2 ▸ hF15
theorem fpl_X11_on (fuel : Nat) : (∀ ⦃i1 : Int32⦄ ⦃i2 : Int32⦄ ⦃i3 : Int32⦄ ⦃μ μ' : sh_Mem⦄ ⦃v : Int32⦄, sh_G μ → F_X11_on fuel 1 i1 i2 i3 μ = some (v, μ') → sh_offM μ μ') := by
  induction fuel with
  | zero => intro i1 i2 i3 μ μ' v hG h; cases h
  | succ fuel ih =>
    have ih_70 := ih
    intro i1 i2 i3 μ μ' v hG h
    replace h : ((if (sh_r μ 0 7 = some (sh_ref μ 0 7) ∧ ((sh_ref μ 0 7) = 8 ∨ (sh_ref μ 0 7) = 29)) then sh_let (sh_ref μ 0 7) (fun r40 => (if (sh_i μ r40 3) ≤ i3 then sh_bindv (f_X4_forget μ) (fun μ42 => some (1, μ42)) else sh_let (((2 + i2) + (i3 * 4)) : Int32) (fun x45 => (if sh_in x45 1600 then (if sh_in i3 7 then sh_let (sh_setI μ 51 i3.toNatClampNeg (sh_i μ 1 x45.toNatClampNeg)) (fun μ48 => (if sh_in (x45 + 1) 1600 then (if sh_in i3 7 then sh_let (sh_setI μ48 52 i3.toNatClampNeg (sh_i μ48 1 ((x45 + 1)).toNatClampNeg)) (fun μ51 => (if sh_in (x45 + 2) 1600 then (if sh_in i3 7 then sh_let (sh_setI μ51 53 i3.toNatClampNeg (sh_i μ51 1 ((x45 + 2)).toNatClampNeg)) (fun μ54 => (if sh_in (x45 + 3) 1600 then (if sh_in i3 7 then sh_let (sh_setI μ54 54 i3.toNatClampNeg (sh_i μ54 1 ((x45 + 3)).toNatClampNeg)) (fun μ57 => F_X11_on fuel 1 i1 i2 (i3 + 1) μ57) else none) else none)) else none) else none)) else none) else none)) else none) else none)))) else none) : Option (Int32 × sh_Mem)) = some (v, μ') := h
    have hF : sh_offM μ μ := sh_offM.rf
    obtain ⟨k39, h⟩ := sh_chk h
    obtain ⟨r40, er40⟩ : ∃ y : Nat, y = (sh_ref μ 0 7) := ⟨_, rfl⟩
    rw [sh_let_eq er40] at h
    have k39r : sh_r μ 0 7 = some r40 ∧ (r40 = 8 ∨ r40 = 29) := by rw [er40]; exact k39
    by_cases c41 : (sh_i μ r40 3) ≤ i3
    · rw [if_pos c41] at h
      obtain ⟨μ42, hr43, h⟩ := sh_bindv_e h
      have hG42 := gp_X4_forget hG hr43
      have hF42 := hF.trans (fp_X4_forget hG hr43)
      obtain ⟨e1, e2⟩ := sh_some2 h
      exact e2 ▸ hF42
    · rw [if_neg c41] at h
      obtain ⟨x45, ex45⟩ : ∃ y : Int32, y = ((2 + i2) + (i3 * 4)) := ⟨_, rfl⟩
      rw [sh_let_eq ex45] at h
      obtain ⟨k46, h⟩ := sh_chk h
      obtain ⟨k47, h⟩ := sh_chk h
      obtain ⟨μ48, eμ48⟩ : ∃ y : sh_Mem, y = (sh_setI μ 51 i3.toNatClampNeg (sh_i μ 1 x45.toNatClampNeg)) := ⟨_, rfl⟩
      rw [sh_let_eq eμ48] at h
      have hG48 : sh_G μ48 := by rw [eμ48]; exact hG
      have hF48 : sh_offM μ μ48 := by rw [eμ48]; exact sh_offM_I hF (by decide)
      obtain ⟨k49, h⟩ := sh_chk h
      obtain ⟨k50, h⟩ := sh_chk h
      obtain ⟨μ51, eμ51⟩ : ∃ y : sh_Mem, y = (sh_setI μ48 52 i3.toNatClampNeg (sh_i μ48 1 ((x45 + 1)).toNatClampNeg)) := ⟨_, rfl⟩
      rw [sh_let_eq eμ51] at h
      have hG51 : sh_G μ51 := by rw [eμ51]; exact hG48
      have hF51 : sh_offM μ μ51 := by rw [eμ51]; exact sh_offM_I hF48 (by decide)
      obtain ⟨k52, h⟩ := sh_chk h
      obtain ⟨k53, h⟩ := sh_chk h
      obtain ⟨μ54, eμ54⟩ : ∃ y : sh_Mem, y = (sh_setI μ51 53 i3.toNatClampNeg (sh_i μ51 1 ((x45 + 2)).toNatClampNeg)) := ⟨_, rfl⟩
      rw [sh_let_eq eμ54] at h
      have hG54 : sh_G μ54 := by rw [eμ54]; exact hG51
      have hF54 : sh_offM μ μ54 := by rw [eμ54]; exact sh_offM_I hF51 (by decide)
      obtain ⟨k55, h⟩ := sh_chk h
      obtain ⟨k56, h⟩ := sh_chk h
      obtain ⟨μ57, eμ57⟩ : ∃ y : sh_Mem, y = (sh_setI μ54 54 i3.toNatClampNeg (sh_i μ54 1 ((x45 + 3)).toNatClampNeg)) := ⟨_, rfl⟩
      rw [sh_let_eq eμ57] at h
      have hG57 : sh_G μ57 := by rw [eμ57]; exact hG54
      have hF57 : sh_offM μ μ57 := by rw [eμ57]; exact sh_offM_I hF54 (by decide)
      exact hF57.trans (ih_70 hG57 h)
theorem fp_X11_on {μ μ' : sh_Mem} {v : Int32} (hG : sh_G μ) (h : f_X11_on μ = some (v, μ')) : sh_offM μ μ' := by
  have ih_70 := (fpl_X11_on sh_fuel)
  have hF : sh_offM μ μ := sh_offM.rf
  unfold f_X11_on at h
  obtain ⟨y60, μ58, hr59, h⟩ := sh_bind_e h
  have hG58 := gp_X11_takeTape hG hr59
  have hF58 := hF.trans (fp_X11_takeTape hG hr59)
  obtain ⟨y63, μ61, hr62, h⟩ := sh_bind_e h
  have hG61 := gp_X11_isImage hG58 hr62
  have hF61 := hF58.trans (fp_X11_isImage hG58 hr62)
  by_cases c64 : y63 = 0
  · rw [if_pos c64] at h
    obtain ⟨y75, μ73, hr74, h⟩ := sh_bind_e h
    have hG73 := gp_X11_refuse hG61 hr74
    have hF73 := hF61.trans (fp_X11_refuse hG61 hr74)
    obtain ⟨k76, h⟩ := sh_chk h
    obtain ⟨e1, e2⟩ := sh_some2 h
    exact e2 ▸ hF73
  · rw [if_neg c64] at h
    obtain ⟨k65, h⟩ := sh_chk h
    obtain ⟨r66, er66⟩ : ∃ y : Nat, y = (sh_ref μ61 0 7) := ⟨_, rfl⟩
    rw [sh_let_eq er66] at h
    have k65r : sh_r μ61 0 7 = some r66 ∧ (r66 = 8 ∨ r66 = 29) := by rw [er66]; exact k65
    obtain ⟨x67, ex67⟩ : ∃ y : Int32, y = (f_X5_cells μ61 r66) := ⟨_, rfl⟩
    rw [sh_let_eq ex67] at h
    obtain ⟨μ68, eμ68⟩ : ∃ y : sh_Mem, y = (sh_setI μ61 49 0 (((sh_i μ61 1 (Int32.toNatClampNeg 0)) * 256) + (sh_i μ61 1 (Int32.toNatClampNeg 1)))) := ⟨_, rfl⟩
    rw [sh_let_eq eμ68] at h
    have hG68 : sh_G μ68 := by rw [eμ68]; exact hG61
    have hF68 : sh_offM μ μ68 := by rw [eμ68]; exact sh_offM_I hF61 (by decide)
    obtain ⟨k69, h⟩ := sh_chk h
    obtain ⟨k70, h⟩ := sh_chk h
    obtain ⟨k71, h⟩ := sh_chk h
    obtain ⟨μ72, eμ72⟩ : ∃ y : sh_Mem, y = (sh_rowI μ68 50 (va_cpy (sh_i μ68 1) (sh_i μ68 50) (Int32.toNatClampNeg 2) (Int32.toNatClampNeg 0) x67.toNatClampNeg)) := ⟨_, rfl⟩
    rw [sh_let_eq eμ72] at h
    have hG72 : sh_G μ72 := by rw [eμ72]; exact hG68
    have hF72 : sh_offM μ μ72 := by rw [eμ72]; exact sh_offM_row hF68 (by decide)
    exact hF72.trans (ih_70 hG72 h)
theorem fpl_X2_test {rec : Nat → Int32 → Int32 → Int32 → sh_Mem → Option (Int32 × sh_Mem)} (grec : ∀ ⦃k : Nat⦄ ⦃b1 b2 b3 : Int32⦄ ⦃μ μ' : sh_Mem⦄ ⦃v : Int32⦄, sh_G μ → rec k b1 b2 b3 μ = some (v, μ') → sh_G μ') (frec : ∀ ⦃k : Nat⦄ ⦃b1 b2 b3 : Int32⦄ ⦃μ μ' : sh_Mem⦄ ⦃v : Int32⦄, sh_G μ → rec k b1 b2 b3 μ = some (v, μ') → sh_offM μ μ') (fuel : Nat) : (∀ ⦃i1 : Int32⦄ ⦃i2 : Int32⦄ ⦃i3 : Int32⦄ ⦃μ μ' : sh_Mem⦄ ⦃v : Int32⦄, sh_G μ → F_X2_test rec fuel 1 i1 i2 i3 μ = some (v, μ') → sh_offM μ μ') := by
  induction fuel with
  | zero => intro i1 i2 i3 μ μ' v hG h; cases h
  | succ fuel ih =>
    have ih_8 := ih
    intro i1 i2 i3 μ μ' v hG h
    replace h : ((if 1600 ≤ i3 then (if i2 = 0 ∨ i2 = 1 then some (i2, μ) else none) else (if i2 = 0 then (if i2 = 0 ∨ i2 = 1 then some (i2, μ) else none) else (if (f_X8_isWord μ 21) = 0 then (if i2 = 0 ∨ i2 = 1 then some (i2, μ) else none) else sh_bindv (f_X8_advance μ) (fun μ27 => sh_bind (rec 1 i1 0 0 μ27) (fun y32 μ30 => (if (sh_r μ30 6 1 = some (sh_ref μ30 6 1) ∧ (sh_ref μ30 6 1) ∈ sh_FORMS) then sh_let (sh_ref μ30 6 1) (fun r34 => sh_bindv (f_X1_addWord r34 21 μ30) (fun μ35 => F_X2_test rec fuel 1 i1 y32 (i3 + 1) μ35)) else none)))))) : Option (Int32 × sh_Mem)) = some (v, μ') := h
    have hF : sh_offM μ μ := sh_offM.rf
    by_cases c21 : 1600 ≤ i3
    · rw [if_pos c21] at h
      obtain ⟨k22, h⟩ := sh_chk h
      obtain ⟨e1, e2⟩ := sh_some2 h
      exact e2 ▸ hF
    · rw [if_neg c21] at h
      by_cases c23 : i2 = 0
      · rw [if_pos c23] at h
        obtain ⟨k24, h⟩ := sh_chk h
        obtain ⟨e1, e2⟩ := sh_some2 h
        exact e2 ▸ hF
      · rw [if_neg c23] at h
        by_cases c25 : (f_X8_isWord μ 21) = 0
        · rw [if_pos c25] at h
          obtain ⟨k26, h⟩ := sh_chk h
          obtain ⟨e1, e2⟩ := sh_some2 h
          exact e2 ▸ hF
        · rw [if_neg c25] at h
          obtain ⟨μ27, hr28, h⟩ := sh_bindv_e h
          have hG27 := gp_X8_advance hG hr28
          have hF27 := hF.trans (fp_X8_advance hG hr28)
          obtain ⟨y32, μ30, hr31, h⟩ := sh_bind_e h
          have hG30 := grec hG27 hr31
          have hF30 := hF27.trans (frec hG27 hr31)
          obtain ⟨k33, h⟩ := sh_chk h
          obtain ⟨r34, er34⟩ : ∃ y : Nat, y = (sh_ref μ30 6 1) := ⟨_, rfl⟩
          rw [sh_let_eq er34] at h
          have k33r : sh_r μ30 6 1 = some r34 ∧ r34 ∈ sh_FORMS := by rw [er34]; exact k33
          obtain ⟨μ35, hr36, h⟩ := sh_bindv_e h
          have hG35 := gp_X1_addWord hG30 k33r.2 hr36
          have hF35 := hF30.trans (fp_X1_addWord hG30 k33r.2 hr36)
          exact hF35.trans (ih_8 hG35 h)
theorem fp_X2_test {rec : Nat → Int32 → Int32 → Int32 → sh_Mem → Option (Int32 × sh_Mem)} {a1 : Int32} {μ μ' : sh_Mem} {v : Int32}  (grec : ∀ ⦃k : Nat⦄ ⦃b1 b2 b3 : Int32⦄ ⦃μ μ' : sh_Mem⦄ ⦃v : Int32⦄, sh_G μ → rec k b1 b2 b3 μ = some (v, μ') → sh_G μ') (frec : ∀ ⦃k : Nat⦄ ⦃b1 b2 b3 : Int32⦄ ⦃μ μ' : sh_Mem⦄ ⦃v : Int32⦄, sh_G μ → rec k b1 b2 b3 μ = some (v, μ') → sh_offM μ μ')(hG : sh_G μ) (h : f_X2_test rec a1 μ = some (v, μ')) : sh_offM μ μ' := by
  have ih_8 := (fpl_X2_test grec frec sh_fuel)
  have hF : sh_offM μ μ := sh_offM.rf
  unfold f_X2_test at h
  obtain ⟨y40, μ38, hr39, h⟩ := sh_bind_e h
  have hG38 := grec hG hr39
  have hF38 := hF.trans (frec hG hr39)
  exact hF38.trans (ih_8 hG38 h)
theorem fpl_X2_both {rec : Nat → Int32 → Int32 → Int32 → sh_Mem → Option (Int32 × sh_Mem)} (grec : ∀ ⦃k : Nat⦄ ⦃b1 b2 b3 : Int32⦄ ⦃μ μ' : sh_Mem⦄ ⦃v : Int32⦄, sh_G μ → rec k b1 b2 b3 μ = some (v, μ') → sh_G μ') (frec : ∀ ⦃k : Nat⦄ ⦃b1 b2 b3 : Int32⦄ ⦃μ μ' : sh_Mem⦄ ⦃v : Int32⦄, sh_G μ → rec k b1 b2 b3 μ = some (v, μ') → sh_offM μ μ') (fuel : Nat) : (∀ ⦃i1 : Int32⦄ ⦃i2 : Int32⦄ ⦃i3 : Int32⦄ ⦃μ μ' : sh_Mem⦄ ⦃v : Int32⦄, sh_G μ → F_X2_both rec fuel 1 i1 i2 i3 μ = some (v, μ') → sh_offM μ μ') := by
  induction fuel with
  | zero => intro i1 i2 i3 μ μ' v hG h; cases h
  | succ fuel ih =>
    have ih_8 := ih
    intro i1 i2 i3 μ μ' v hG h
    replace h : ((if 1600 ≤ i3 then (if i2 = 0 ∨ i2 = 1 then some (i2, μ) else none) else (if i2 = 0 then (if i2 = 0 ∨ i2 = 1 then some (i2, μ) else none) else (if (f_X8_isWord μ 22) = 0 then (if i2 = 0 ∨ i2 = 1 then some (i2, μ) else none) else sh_bindv (f_X8_advance μ) (fun μ27 => sh_bind (rec 2 i1 0 0 μ27) (fun y32 μ30 => (if (sh_r μ30 6 1 = some (sh_ref μ30 6 1) ∧ (sh_ref μ30 6 1) ∈ sh_FORMS) then sh_let (sh_ref μ30 6 1) (fun r34 => sh_bindv (f_X1_addWord r34 22 μ30) (fun μ35 => F_X2_both rec fuel 1 i1 y32 (i3 + 1) μ35)) else none)))))) : Option (Int32 × sh_Mem)) = some (v, μ') := h
    have hF : sh_offM μ μ := sh_offM.rf
    by_cases c21 : 1600 ≤ i3
    · rw [if_pos c21] at h
      obtain ⟨k22, h⟩ := sh_chk h
      obtain ⟨e1, e2⟩ := sh_some2 h
      exact e2 ▸ hF
    · rw [if_neg c21] at h
      by_cases c23 : i2 = 0
      · rw [if_pos c23] at h
        obtain ⟨k24, h⟩ := sh_chk h
        obtain ⟨e1, e2⟩ := sh_some2 h
        exact e2 ▸ hF
      · rw [if_neg c23] at h
        by_cases c25 : (f_X8_isWord μ 22) = 0
        · rw [if_pos c25] at h
          obtain ⟨k26, h⟩ := sh_chk h
          obtain ⟨e1, e2⟩ := sh_some2 h
          exact e2 ▸ hF
        · rw [if_neg c25] at h
          obtain ⟨μ27, hr28, h⟩ := sh_bindv_e h
          have hG27 := gp_X8_advance hG hr28
          have hF27 := hF.trans (fp_X8_advance hG hr28)
          obtain ⟨y32, μ30, hr31, h⟩ := sh_bind_e h
          have hG30 := grec hG27 hr31
          have hF30 := hF27.trans (frec hG27 hr31)
          obtain ⟨k33, h⟩ := sh_chk h
          obtain ⟨r34, er34⟩ : ∃ y : Nat, y = (sh_ref μ30 6 1) := ⟨_, rfl⟩
          rw [sh_let_eq er34] at h
          have k33r : sh_r μ30 6 1 = some r34 ∧ r34 ∈ sh_FORMS := by rw [er34]; exact k33
          obtain ⟨μ35, hr36, h⟩ := sh_bindv_e h
          have hG35 := gp_X1_addWord hG30 k33r.2 hr36
          have hF35 := hF30.trans (fp_X1_addWord hG30 k33r.2 hr36)
          exact hF35.trans (ih_8 hG35 h)
theorem fp_X2_both {rec : Nat → Int32 → Int32 → Int32 → sh_Mem → Option (Int32 × sh_Mem)} {a1 : Int32} {μ μ' : sh_Mem} {v : Int32}  (grec : ∀ ⦃k : Nat⦄ ⦃b1 b2 b3 : Int32⦄ ⦃μ μ' : sh_Mem⦄ ⦃v : Int32⦄, sh_G μ → rec k b1 b2 b3 μ = some (v, μ') → sh_G μ') (frec : ∀ ⦃k : Nat⦄ ⦃b1 b2 b3 : Int32⦄ ⦃μ μ' : sh_Mem⦄ ⦃v : Int32⦄, sh_G μ → rec k b1 b2 b3 μ = some (v, μ') → sh_offM μ μ')(hG : sh_G μ) (h : f_X2_both rec a1 μ = some (v, μ')) : sh_offM μ μ' := by
  have ih_8 := (fpl_X2_both grec frec sh_fuel)
  have hF : sh_offM μ μ := sh_offM.rf
  unfold f_X2_both at h
  obtain ⟨y40, μ38, hr39, h⟩ := sh_bind_e h
  have hG38 := grec hG hr39
  have hF38 := hF.trans (frec hG hr39)
  exact hF38.trans (ih_8 hG38 h)
theorem fp_X2_fact {rec : Nat → Int32 → Int32 → Int32 → sh_Mem → Option (Int32 × sh_Mem)} {a1 : Int32} {μ μ' : sh_Mem} {v : Int32}  (grec : ∀ ⦃k : Nat⦄ ⦃b1 b2 b3 : Int32⦄ ⦃μ μ' : sh_Mem⦄ ⦃v : Int32⦄, sh_G μ → rec k b1 b2 b3 μ = some (v, μ') → sh_G μ') (frec : ∀ ⦃k : Nat⦄ ⦃b1 b2 b3 : Int32⦄ ⦃μ μ' : sh_Mem⦄ ⦃v : Int32⦄, sh_G μ → rec k b1 b2 b3 μ = some (v, μ') → sh_offM μ μ')(hG : sh_G μ) (h : f_X2_fact rec a1 μ = some (v, μ')) : sh_offM μ μ' := by
  have hF : sh_offM μ μ := sh_offM.rf
  unfold f_X2_fact at h
  by_cases c1 : (f_X8_isWord μ 23) = 0
  · rw [if_pos c1] at h
    by_cases c2 : (sh_i μ 2 3) = 91
    · rw [if_pos c2] at h
      obtain ⟨y62, μ60, hr61, h⟩ := sh_bind_e h
      have hG60 := gp_X2_opens hG hr61
      have hF60 := hF.trans (fp_X2_opens hG hr61)
      by_cases c63 : y62 = 0
      · rw [if_pos c63] at h
        obtain ⟨e1, e2⟩ := sh_some2 h
        exact e2 ▸ hF60
      · rw [if_neg c63] at h
        obtain ⟨y66, μ64, hr65, h⟩ := sh_bind_e h
        have hG64 := grec hG60 hr65
        have hF64 := hF60.trans (frec hG60 hr65)
        by_cases c67 : y66 = 0
        · rw [if_pos c67] at h
          obtain ⟨e1, e2⟩ := sh_some2 h
          exact e2 ▸ hF64
        · rw [if_neg c67] at h
          obtain ⟨y70, μ68, hr69, h⟩ := sh_bind_e h
          have hG68 := gp_X8_takesMark hG64 hr69
          have hF68 := hF64.trans (fp_X8_takesMark hG64 hr69)
          by_cases c71 : y70 = 0
          · rw [if_pos c71] at h
            obtain ⟨e1, e2⟩ := sh_some2 h
            exact e2 ▸ hF68
          · rw [if_neg c71] at h
            obtain ⟨e1, e2⟩ := sh_some2 h
            exact e2 ▸ hF68
    · rw [if_neg c2] at h
      by_cases c3 : (f_X8_isWord μ 24) = 0
      · rw [if_pos c3] at h
        obtain ⟨y6, μ4, hr5, h⟩ := sh_bind_e h
        have hG4 := grec hG hr5
        have hF4 := hF.trans (frec hG hr5)
        by_cases c7 : y6 = 0
        · rw [if_pos c7] at h
          obtain ⟨e1, e2⟩ := sh_some2 h
          exact e2 ▸ hF4
        · rw [if_neg c7] at h
          obtain ⟨x8, ex8⟩ : ∃ y : Int32, y = (sh_i μ4 2 3) := ⟨_, rfl⟩
          rw [sh_let_eq ex8] at h
          by_cases c9 : x8 = 60
          · rw [if_pos c9] at h
            obtain ⟨μ10, hr11, h⟩ := sh_bindv_e h
            have hG10 := gp_X8_advance hG4 hr11
            have hF10 := hF4.trans (fp_X8_advance hG4 hr11)
            obtain ⟨y15, μ13, hr14, h⟩ := sh_bind_e h
            have hG13 := grec hG10 hr14
            have hF13 := hF10.trans (frec hG10 hr14)
            obtain ⟨k16, h⟩ := sh_chk h
            obtain ⟨r17, er17⟩ : ∃ y : Nat, y = (sh_ref μ13 6 1) := ⟨_, rfl⟩
            rw [sh_let_eq er17] at h
            have k16r : sh_r μ13 6 1 = some r17 ∧ r17 ∈ sh_FORMS := by rw [er17]; exact k16
            obtain ⟨μ18, hr19, h⟩ := sh_bindv_e h
            have hG18 := gp_X1_addMark hG13 k16r.2 hr19
            have hF18 := hF13.trans (fp_X1_addMark hG13 k16r.2 hr19)
            obtain ⟨k21, h⟩ := sh_chk h
            obtain ⟨e1, e2⟩ := sh_some2 h
            exact e2 ▸ hF18
          · rw [if_neg c9] at h
            by_cases c22 : x8 = 62
            · rw [if_pos c22] at h
              obtain ⟨μ23, hr24, h⟩ := sh_bindv_e h
              have hG23 := gp_X8_advance hG4 hr24
              have hF23 := hF4.trans (fp_X8_advance hG4 hr24)
              obtain ⟨y28, μ26, hr27, h⟩ := sh_bind_e h
              have hG26 := grec hG23 hr27
              have hF26 := hF23.trans (frec hG23 hr27)
              obtain ⟨k29, h⟩ := sh_chk h
              obtain ⟨r30, er30⟩ : ∃ y : Nat, y = (sh_ref μ26 6 1) := ⟨_, rfl⟩
              rw [sh_let_eq er30] at h
              have k29r : sh_r μ26 6 1 = some r30 ∧ r30 ∈ sh_FORMS := by rw [er30]; exact k29
              obtain ⟨μ31, hr32, h⟩ := sh_bindv_e h
              have hG31 := gp_X1_addMark hG26 k29r.2 hr32
              have hF31 := hF26.trans (fp_X1_addMark hG26 k29r.2 hr32)
              obtain ⟨k34, h⟩ := sh_chk h
              obtain ⟨e1, e2⟩ := sh_some2 h
              exact e2 ▸ hF31
            · rw [if_neg c22] at h
              by_cases c35 : x8 = 61
              · rw [if_pos c35] at h
                obtain ⟨μ36, hr37, h⟩ := sh_bindv_e h
                have hG36 := gp_X8_advance hG4 hr37
                have hF36 := hF4.trans (fp_X8_advance hG4 hr37)
                obtain ⟨y41, μ39, hr40, h⟩ := sh_bind_e h
                have hG39 := grec hG36 hr40
                have hF39 := hF36.trans (frec hG36 hr40)
                obtain ⟨k42, h⟩ := sh_chk h
                obtain ⟨r43, er43⟩ : ∃ y : Nat, y = (sh_ref μ39 6 1) := ⟨_, rfl⟩
                rw [sh_let_eq er43] at h
                have k42r : sh_r μ39 6 1 = some r43 ∧ r43 ∈ sh_FORMS := by rw [er43]; exact k42
                obtain ⟨μ44, hr45, h⟩ := sh_bindv_e h
                have hG44 := gp_X1_addMark hG39 k42r.2 hr45
                have hF44 := hF39.trans (fp_X1_addMark hG39 k42r.2 hr45)
                obtain ⟨k47, h⟩ := sh_chk h
                obtain ⟨e1, e2⟩ := sh_some2 h
                exact e2 ▸ hF44
              · rw [if_neg c35] at h
                obtain ⟨y50, μ48, hr49, h⟩ := sh_bind_e h
                have hG48 := gp_X8_fails hG4 hr49
                have hF48 := hF4.trans (fp_X8_fails hG4 hr49)
                obtain ⟨k51, h⟩ := sh_chk h
                obtain ⟨e1, e2⟩ := sh_some2 h
                exact e2 ▸ hF48
      · rw [if_neg c3] at h
        obtain ⟨μ52, hr53, h⟩ := sh_bindv_e h
        have hG52 := gp_X8_advance hG hr53
        have hF52 := hF.trans (fp_X8_advance hG hr53)
        obtain ⟨k55, h⟩ := sh_chk h
        obtain ⟨r56, er56⟩ : ∃ y : Nat, y = (sh_ref μ52 6 1) := ⟨_, rfl⟩
        rw [sh_let_eq er56] at h
        have k55r : sh_r μ52 6 1 = some r56 ∧ r56 ∈ sh_FORMS := by rw [er56]; exact k55
        obtain ⟨μ57, hr58, h⟩ := sh_bindv_e h
        have hG57 := gp_X1_add hG52 k55r.2 hr58
        have hF57 := hF52.trans (fp_X1_add hG52 k55r.2 hr58)
        obtain ⟨e1, e2⟩ := sh_some2 h
        exact e2 ▸ hF57
  · rw [if_neg c1] at h
    obtain ⟨y74, μ72, hr73, h⟩ := sh_bind_e h
    have hG72 := gp_X2_opens hG hr73
    have hF72 := hF.trans (fp_X2_opens hG hr73)
    by_cases c75 : y74 = 0
    · rw [if_pos c75] at h
      obtain ⟨k76, h⟩ := sh_chk h
      obtain ⟨r77, er77⟩ : ∃ y : Nat, y = (sh_ref μ72 6 1) := ⟨_, rfl⟩
      rw [sh_let_eq er77] at h
      have k76r : sh_r μ72 6 1 = some r77 ∧ r77 ∈ sh_FORMS := by rw [er77]; exact k76
      obtain ⟨μ78, hr79, h⟩ := sh_bindv_e h
      have hG78 := gp_X1_addWord hG72 k76r.2 hr79
      have hF78 := hF72.trans (fp_X1_addWord hG72 k76r.2 hr79)
      obtain ⟨e1, e2⟩ := sh_some2 h
      exact e2 ▸ hF78
    · rw [if_neg c75] at h
      obtain ⟨y83, μ81, hr82, h⟩ := sh_bind_e h
      have hG81 := grec hG72 hr82
      have hF81 := hF72.trans (frec hG72 hr82)
      by_cases c84 : y83 = 0
      · rw [if_pos c84] at h
        obtain ⟨k85, h⟩ := sh_chk h
        obtain ⟨r86, er86⟩ : ∃ y : Nat, y = (sh_ref μ81 6 1) := ⟨_, rfl⟩
        rw [sh_let_eq er86] at h
        have k85r : sh_r μ81 6 1 = some r86 ∧ r86 ∈ sh_FORMS := by rw [er86]; exact k85
        obtain ⟨μ87, hr88, h⟩ := sh_bindv_e h
        have hG87 := gp_X1_addWord hG81 k85r.2 hr88
        have hF87 := hF81.trans (fp_X1_addWord hG81 k85r.2 hr88)
        obtain ⟨e1, e2⟩ := sh_some2 h
        exact e2 ▸ hF87
      · rw [if_neg c84] at h
        obtain ⟨k90, h⟩ := sh_chk h
        obtain ⟨r91, er91⟩ : ∃ y : Nat, y = (sh_ref μ81 6 1) := ⟨_, rfl⟩
        rw [sh_let_eq er91] at h
        have k90r : sh_r μ81 6 1 = some r91 ∧ r91 ∈ sh_FORMS := by rw [er91]; exact k90
        obtain ⟨μ92, hr93, h⟩ := sh_bindv_e h
        have hG92 := gp_X1_addWord hG81 k90r.2 hr93
        have hF92 := hF81.trans (fp_X1_addWord hG81 k90r.2 hr93)
        obtain ⟨e1, e2⟩ := sh_some2 h
        exact e2 ▸ hF92
theorem fpl_X2_sum {rec : Nat → Int32 → Int32 → Int32 → sh_Mem → Option (Int32 × sh_Mem)} (grec : ∀ ⦃k : Nat⦄ ⦃b1 b2 b3 : Int32⦄ ⦃μ μ' : sh_Mem⦄ ⦃v : Int32⦄, sh_G μ → rec k b1 b2 b3 μ = some (v, μ') → sh_G μ') (frec : ∀ ⦃k : Nat⦄ ⦃b1 b2 b3 : Int32⦄ ⦃μ μ' : sh_Mem⦄ ⦃v : Int32⦄, sh_G μ → rec k b1 b2 b3 μ = some (v, μ') → sh_offM μ μ') (fuel : Nat) : (∀ ⦃i1 : Int32⦄ ⦃i2 : Int32⦄ ⦃i3 : Int32⦄ ⦃μ μ' : sh_Mem⦄ ⦃v : Int32⦄, sh_G μ → F_X2_sum rec fuel 1 i1 i2 i3 μ = some (v, μ') → sh_offM μ μ') := by
  induction fuel with
  | zero => intro i1 i2 i3 μ μ' v hG h; cases h
  | succ fuel ih =>
    have ih_8 := ih
    intro i1 i2 i3 μ μ' v hG h
    replace h : ((if 1600 ≤ i3 then (if i2 = 0 ∨ i2 = 1 then some (i2, μ) else none) else (if i2 = 0 then (if i2 = 0 ∨ i2 = 1 then some (i2, μ) else none) else (if (sh_i μ 2 3) = 43 then sh_let ((sh_i μ 2 3) : Int32) (fun x40 => sh_bindv (f_X8_advance μ) (fun μ41 => sh_bind (rec 4 i1 0 0 μ41) (fun y46 μ44 => (if (sh_r μ44 6 1 = some (sh_ref μ44 6 1) ∧ (sh_ref μ44 6 1) ∈ sh_FORMS) then sh_let (sh_ref μ44 6 1) (fun r48 => sh_bindv (f_X1_addMark r48 x40 μ44) (fun μ49 => F_X2_sum rec fuel 1 i1 y46 (i3 + 1) μ49)) else none)))) else (if (sh_i μ 2 3) = 45 then sh_let ((sh_i μ 2 3) : Int32) (fun x54 => sh_bindv (f_X8_advance μ) (fun μ55 => sh_bind (rec 4 i1 0 0 μ55) (fun y60 μ58 => (if (sh_r μ58 6 1 = some (sh_ref μ58 6 1) ∧ (sh_ref μ58 6 1) ∈ sh_FORMS) then sh_let (sh_ref μ58 6 1) (fun r62 => sh_bindv (f_X1_addMark r62 x54 μ58) (fun μ63 => F_X2_sum rec fuel 1 i1 y60 (i3 + 1) μ63)) else none)))) else (if i2 = 0 ∨ i2 = 1 then some (i2, μ) else none))))) : Option (Int32 × sh_Mem)) = some (v, μ') := h
    have hF : sh_offM μ μ := sh_offM.rf
    by_cases c35 : 1600 ≤ i3
    · rw [if_pos c35] at h
      obtain ⟨k36, h⟩ := sh_chk h
      obtain ⟨e1, e2⟩ := sh_some2 h
      exact e2 ▸ hF
    · rw [if_neg c35] at h
      by_cases c37 : i2 = 0
      · rw [if_pos c37] at h
        obtain ⟨k38, h⟩ := sh_chk h
        obtain ⟨e1, e2⟩ := sh_some2 h
        exact e2 ▸ hF
      · rw [if_neg c37] at h
        by_cases c39 : (sh_i μ 2 3) = 43
        · rw [if_pos c39] at h
          obtain ⟨x40, ex40⟩ : ∃ y : Int32, y = (sh_i μ 2 3) := ⟨_, rfl⟩
          rw [sh_let_eq ex40] at h
          obtain ⟨μ41, hr42, h⟩ := sh_bindv_e h
          have hG41 := gp_X8_advance hG hr42
          have hF41 := hF.trans (fp_X8_advance hG hr42)
          obtain ⟨y46, μ44, hr45, h⟩ := sh_bind_e h
          have hG44 := grec hG41 hr45
          have hF44 := hF41.trans (frec hG41 hr45)
          obtain ⟨k47, h⟩ := sh_chk h
          obtain ⟨r48, er48⟩ : ∃ y : Nat, y = (sh_ref μ44 6 1) := ⟨_, rfl⟩
          rw [sh_let_eq er48] at h
          have k47r : sh_r μ44 6 1 = some r48 ∧ r48 ∈ sh_FORMS := by rw [er48]; exact k47
          obtain ⟨μ49, hr50, h⟩ := sh_bindv_e h
          have hG49 := gp_X1_addMark hG44 k47r.2 hr50
          have hF49 := hF44.trans (fp_X1_addMark hG44 k47r.2 hr50)
          exact hF49.trans (ih_8 hG49 h)
        · rw [if_neg c39] at h
          by_cases c52 : (sh_i μ 2 3) = 45
          · rw [if_pos c52] at h
            obtain ⟨x54, ex54⟩ : ∃ y : Int32, y = (sh_i μ 2 3) := ⟨_, rfl⟩
            rw [sh_let_eq ex54] at h
            obtain ⟨μ55, hr56, h⟩ := sh_bindv_e h
            have hG55 := gp_X8_advance hG hr56
            have hF55 := hF.trans (fp_X8_advance hG hr56)
            obtain ⟨y60, μ58, hr59, h⟩ := sh_bind_e h
            have hG58 := grec hG55 hr59
            have hF58 := hF55.trans (frec hG55 hr59)
            obtain ⟨k61, h⟩ := sh_chk h
            obtain ⟨r62, er62⟩ : ∃ y : Nat, y = (sh_ref μ58 6 1) := ⟨_, rfl⟩
            rw [sh_let_eq er62] at h
            have k61r : sh_r μ58 6 1 = some r62 ∧ r62 ∈ sh_FORMS := by rw [er62]; exact k61
            obtain ⟨μ63, hr64, h⟩ := sh_bindv_e h
            have hG63 := gp_X1_addMark hG58 k61r.2 hr64
            have hF63 := hF58.trans (fp_X1_addMark hG58 k61r.2 hr64)
            exact hF63.trans (ih_8 hG63 h)
          · rw [if_neg c52] at h
            obtain ⟨k53, h⟩ := sh_chk h
            obtain ⟨e1, e2⟩ := sh_some2 h
            exact e2 ▸ hF
theorem fp_X2_sum {rec : Nat → Int32 → Int32 → Int32 → sh_Mem → Option (Int32 × sh_Mem)} {a1 : Int32} {μ μ' : sh_Mem} {v : Int32}  (grec : ∀ ⦃k : Nat⦄ ⦃b1 b2 b3 : Int32⦄ ⦃μ μ' : sh_Mem⦄ ⦃v : Int32⦄, sh_G μ → rec k b1 b2 b3 μ = some (v, μ') → sh_G μ') (frec : ∀ ⦃k : Nat⦄ ⦃b1 b2 b3 : Int32⦄ ⦃μ μ' : sh_Mem⦄ ⦃v : Int32⦄, sh_G μ → rec k b1 b2 b3 μ = some (v, μ') → sh_offM μ μ')(hG : sh_G μ) (h : f_X2_sum rec a1 μ = some (v, μ')) : sh_offM μ μ' := by
  have ih_8 := (fpl_X2_sum grec frec sh_fuel)
  have hF : sh_offM μ μ := sh_offM.rf
  unfold f_X2_sum at h
  obtain ⟨y68, μ66, hr67, h⟩ := sh_bind_e h
  have hG66 := grec hG hr67
  have hF66 := hF.trans (frec hG hr67)
  exact hF66.trans (ih_8 hG66 h)
theorem fpl_X2_product {rec : Nat → Int32 → Int32 → Int32 → sh_Mem → Option (Int32 × sh_Mem)} (grec : ∀ ⦃k : Nat⦄ ⦃b1 b2 b3 : Int32⦄ ⦃μ μ' : sh_Mem⦄ ⦃v : Int32⦄, sh_G μ → rec k b1 b2 b3 μ = some (v, μ') → sh_G μ') (frec : ∀ ⦃k : Nat⦄ ⦃b1 b2 b3 : Int32⦄ ⦃μ μ' : sh_Mem⦄ ⦃v : Int32⦄, sh_G μ → rec k b1 b2 b3 μ = some (v, μ') → sh_offM μ μ') (fuel : Nat) : (∀ ⦃i1 : Int32⦄ ⦃i2 : Int32⦄ ⦃i3 : Int32⦄ ⦃μ μ' : sh_Mem⦄ ⦃v : Int32⦄, sh_G μ → F_X2_product rec fuel 1 i1 i2 i3 μ = some (v, μ') → sh_offM μ μ') := by
  induction fuel with
  | zero => intro i1 i2 i3 μ μ' v hG h; cases h
  | succ fuel ih =>
    have ih_8 := ih
    intro i1 i2 i3 μ μ' v hG h
    replace h : ((if 1600 ≤ i3 then (if i2 = 0 ∨ i2 = 1 then some (i2, μ) else none) else (if i2 = 0 then (if i2 = 0 ∨ i2 = 1 then some (i2, μ) else none) else (if (sh_i μ 2 3) = 42 then sh_let ((sh_i μ 2 3) : Int32) (fun x40 => sh_bindv (f_X8_advance μ) (fun μ41 => sh_bind (rec 5 i1 0 0 μ41) (fun y46 μ44 => (if (sh_r μ44 6 1 = some (sh_ref μ44 6 1) ∧ (sh_ref μ44 6 1) ∈ sh_FORMS) then sh_let (sh_ref μ44 6 1) (fun r48 => sh_bindv (f_X1_addMark r48 x40 μ44) (fun μ49 => F_X2_product rec fuel 1 i1 y46 (i3 + 1) μ49)) else none)))) else (if (sh_i μ 2 3) = 47 then sh_let ((sh_i μ 2 3) : Int32) (fun x54 => sh_bindv (f_X8_advance μ) (fun μ55 => sh_bind (rec 5 i1 0 0 μ55) (fun y60 μ58 => (if (sh_r μ58 6 1 = some (sh_ref μ58 6 1) ∧ (sh_ref μ58 6 1) ∈ sh_FORMS) then sh_let (sh_ref μ58 6 1) (fun r62 => sh_bindv (f_X1_addMark r62 x54 μ58) (fun μ63 => F_X2_product rec fuel 1 i1 y60 (i3 + 1) μ63)) else none)))) else (if i2 = 0 ∨ i2 = 1 then some (i2, μ) else none))))) : Option (Int32 × sh_Mem)) = some (v, μ') := h
    have hF : sh_offM μ μ := sh_offM.rf
    by_cases c35 : 1600 ≤ i3
    · rw [if_pos c35] at h
      obtain ⟨k36, h⟩ := sh_chk h
      obtain ⟨e1, e2⟩ := sh_some2 h
      exact e2 ▸ hF
    · rw [if_neg c35] at h
      by_cases c37 : i2 = 0
      · rw [if_pos c37] at h
        obtain ⟨k38, h⟩ := sh_chk h
        obtain ⟨e1, e2⟩ := sh_some2 h
        exact e2 ▸ hF
      · rw [if_neg c37] at h
        by_cases c39 : (sh_i μ 2 3) = 42
        · rw [if_pos c39] at h
          obtain ⟨x40, ex40⟩ : ∃ y : Int32, y = (sh_i μ 2 3) := ⟨_, rfl⟩
          rw [sh_let_eq ex40] at h
          obtain ⟨μ41, hr42, h⟩ := sh_bindv_e h
          have hG41 := gp_X8_advance hG hr42
          have hF41 := hF.trans (fp_X8_advance hG hr42)
          obtain ⟨y46, μ44, hr45, h⟩ := sh_bind_e h
          have hG44 := grec hG41 hr45
          have hF44 := hF41.trans (frec hG41 hr45)
          obtain ⟨k47, h⟩ := sh_chk h
          obtain ⟨r48, er48⟩ : ∃ y : Nat, y = (sh_ref μ44 6 1) := ⟨_, rfl⟩
          rw [sh_let_eq er48] at h
          have k47r : sh_r μ44 6 1 = some r48 ∧ r48 ∈ sh_FORMS := by rw [er48]; exact k47
          obtain ⟨μ49, hr50, h⟩ := sh_bindv_e h
          have hG49 := gp_X1_addMark hG44 k47r.2 hr50
          have hF49 := hF44.trans (fp_X1_addMark hG44 k47r.2 hr50)
          exact hF49.trans (ih_8 hG49 h)
        · rw [if_neg c39] at h
          by_cases c52 : (sh_i μ 2 3) = 47
          · rw [if_pos c52] at h
            obtain ⟨x54, ex54⟩ : ∃ y : Int32, y = (sh_i μ 2 3) := ⟨_, rfl⟩
            rw [sh_let_eq ex54] at h
            obtain ⟨μ55, hr56, h⟩ := sh_bindv_e h
            have hG55 := gp_X8_advance hG hr56
            have hF55 := hF.trans (fp_X8_advance hG hr56)
            obtain ⟨y60, μ58, hr59, h⟩ := sh_bind_e h
            have hG58 := grec hG55 hr59
            have hF58 := hF55.trans (frec hG55 hr59)
            obtain ⟨k61, h⟩ := sh_chk h
            obtain ⟨r62, er62⟩ : ∃ y : Nat, y = (sh_ref μ58 6 1) := ⟨_, rfl⟩
            rw [sh_let_eq er62] at h
            have k61r : sh_r μ58 6 1 = some r62 ∧ r62 ∈ sh_FORMS := by rw [er62]; exact k61
            obtain ⟨μ63, hr64, h⟩ := sh_bindv_e h
            have hG63 := gp_X1_addMark hG58 k61r.2 hr64
            have hF63 := hF58.trans (fp_X1_addMark hG58 k61r.2 hr64)
            exact hF63.trans (ih_8 hG63 h)
          · rw [if_neg c52] at h
            obtain ⟨k53, h⟩ := sh_chk h
            obtain ⟨e1, e2⟩ := sh_some2 h
            exact e2 ▸ hF
theorem fp_X2_product {rec : Nat → Int32 → Int32 → Int32 → sh_Mem → Option (Int32 × sh_Mem)} {a1 : Int32} {μ μ' : sh_Mem} {v : Int32}  (grec : ∀ ⦃k : Nat⦄ ⦃b1 b2 b3 : Int32⦄ ⦃μ μ' : sh_Mem⦄ ⦃v : Int32⦄, sh_G μ → rec k b1 b2 b3 μ = some (v, μ') → sh_G μ') (frec : ∀ ⦃k : Nat⦄ ⦃b1 b2 b3 : Int32⦄ ⦃μ μ' : sh_Mem⦄ ⦃v : Int32⦄, sh_G μ → rec k b1 b2 b3 μ = some (v, μ') → sh_offM μ μ')(hG : sh_G μ) (h : f_X2_product rec a1 μ = some (v, μ')) : sh_offM μ μ' := by
  have ih_8 := (fpl_X2_product grec frec sh_fuel)
  have hF : sh_offM μ μ := sh_offM.rf
  unfold f_X2_product at h
  obtain ⟨y68, μ66, hr67, h⟩ := sh_bind_e h
  have hG66 := grec hG hr67
  have hF66 := hF.trans (frec hG hr67)
  exact hF66.trans (ih_8 hG66 h)
theorem fp_X2_part {rec : Nat → Int32 → Int32 → Int32 → sh_Mem → Option (Int32 × sh_Mem)} {a1 : Int32} {μ μ' : sh_Mem} {v : Int32}  (grec : ∀ ⦃k : Nat⦄ ⦃b1 b2 b3 : Int32⦄ ⦃μ μ' : sh_Mem⦄ ⦃v : Int32⦄, sh_G μ → rec k b1 b2 b3 μ = some (v, μ') → sh_G μ') (frec : ∀ ⦃k : Nat⦄ ⦃b1 b2 b3 : Int32⦄ ⦃μ μ' : sh_Mem⦄ ⦃v : Int32⦄, sh_G μ → rec k b1 b2 b3 μ = some (v, μ') → sh_offM μ μ')(hG : sh_G μ) (h : f_X2_part rec a1 μ = some (v, μ')) : sh_offM μ μ' := by
  have hF : sh_offM μ μ := sh_offM.rf
  unfold f_X2_part at h
  by_cases c1 : (sh_i μ 2 3) = 40
  · rw [if_pos c1] at h
    obtain ⟨y108, μ106, hr107, h⟩ := sh_bind_e h
    have hG106 := gp_X2_opens hG hr107
    have hF106 := hF.trans (fp_X2_opens hG hr107)
    by_cases c109 : y108 = 0
    · rw [if_pos c109] at h
      obtain ⟨e1, e2⟩ := sh_some2 h
      exact e2 ▸ hF106
    · rw [if_neg c109] at h
      obtain ⟨y112, μ110, hr111, h⟩ := sh_bind_e h
      have hG110 := grec hG106 hr111
      have hF110 := hF106.trans (frec hG106 hr111)
      by_cases c113 : y112 = 0
      · rw [if_pos c113] at h
        obtain ⟨e1, e2⟩ := sh_some2 h
        exact e2 ▸ hF110
      · rw [if_neg c113] at h
        obtain ⟨y116, μ114, hr115, h⟩ := sh_bind_e h
        have hG114 := gp_X8_takesMark hG110 hr115
        have hF114 := hF110.trans (fp_X8_takesMark hG110 hr115)
        by_cases c117 : y116 = 0
        · rw [if_pos c117] at h
          obtain ⟨e1, e2⟩ := sh_some2 h
          exact e2 ▸ hF114
        · rw [if_neg c117] at h
          obtain ⟨e1, e2⟩ := sh_some2 h
          exact e2 ▸ hF114
  · rw [if_neg c1] at h
    by_cases c2 : (sh_i μ 2 3) = (-2)
    · rw [if_pos c2] at h
      obtain ⟨x3, ex3⟩ : ∃ y : Int32, y = (sh_i μ 2 6) := ⟨_, rfl⟩
      rw [sh_let_eq ex3] at h
      by_cases c4 : x3 = 25
      · rw [if_pos c4] at h
        obtain ⟨y7, μ5, hr6, h⟩ := sh_bind_e h
        have hG5 := grec hG hr6
        have hF5 := hF.trans (frec hG hr6)
        obtain ⟨k8, h⟩ := sh_chk h
        obtain ⟨e1, e2⟩ := sh_some2 h
        exact e2 ▸ hF5
      · rw [if_neg c4] at h
        by_cases c9 : x3 = 26
        · rw [if_pos c9] at h
          obtain ⟨y93, μ91, hr92, h⟩ := sh_bind_e h
          have hG91 := grec hG hr92
          have hF91 := hF.trans (frec hG hr92)
          obtain ⟨k94, h⟩ := sh_chk h
          obtain ⟨e1, e2⟩ := sh_some2 h
          exact e2 ▸ hF91
        · rw [if_neg c9] at h
          by_cases c10 : (sh_i μ 6 2) = 2
          · rw [if_pos c10] at h
            by_cases c27 : x3 = 7
            · rw [if_pos c27] at h
              obtain ⟨y30, μ28, hr29, h⟩ := sh_bind_e h
              have hG28 := gp_X2_opens hG hr29
              have hF28 := hF.trans (fp_X2_opens hG hr29)
              by_cases c31 : y30 = 0
              · rw [if_pos c31] at h
                obtain ⟨k32, h⟩ := sh_chk h
                obtain ⟨r33, er33⟩ : ∃ y : Nat, y = (sh_ref μ28 6 1) := ⟨_, rfl⟩
                rw [sh_let_eq er33] at h
                have k32r : sh_r μ28 6 1 = some r33 ∧ r33 ∈ sh_FORMS := by rw [er33]; exact k32
                obtain ⟨μ34, hr35, h⟩ := sh_bindv_e h
                have hG34 := gp_X1_addWord hG28 k32r.2 hr35
                have hF34 := hF28.trans (fp_X1_addWord hG28 k32r.2 hr35)
                obtain ⟨e1, e2⟩ := sh_some2 h
                exact e2 ▸ hF34
              · rw [if_neg c31] at h
                obtain ⟨y39, μ37, hr38, h⟩ := sh_bind_e h
                have hG37 := grec hG28 hr38
                have hF37 := hF28.trans (frec hG28 hr38)
                by_cases c40 : y39 = 0
                · rw [if_pos c40] at h
                  obtain ⟨k41, h⟩ := sh_chk h
                  obtain ⟨r42, er42⟩ : ∃ y : Nat, y = (sh_ref μ37 6 1) := ⟨_, rfl⟩
                  rw [sh_let_eq er42] at h
                  have k41r : sh_r μ37 6 1 = some r42 ∧ r42 ∈ sh_FORMS := by rw [er42]; exact k41
                  obtain ⟨μ43, hr44, h⟩ := sh_bindv_e h
                  have hG43 := gp_X1_addWord hG37 k41r.2 hr44
                  have hF43 := hF37.trans (fp_X1_addWord hG37 k41r.2 hr44)
                  obtain ⟨e1, e2⟩ := sh_some2 h
                  exact e2 ▸ hF43
                · rw [if_neg c40] at h
                  obtain ⟨k46, h⟩ := sh_chk h
                  obtain ⟨r47, er47⟩ : ∃ y : Nat, y = (sh_ref μ37 6 1) := ⟨_, rfl⟩
                  rw [sh_let_eq er47] at h
                  have k46r : sh_r μ37 6 1 = some r47 ∧ r47 ∈ sh_FORMS := by rw [er47]; exact k46
                  obtain ⟨μ48, hr49, h⟩ := sh_bindv_e h
                  have hG48 := gp_X1_addWord hG37 k46r.2 hr49
                  have hF48 := hF37.trans (fp_X1_addWord hG37 k46r.2 hr49)
                  obtain ⟨e1, e2⟩ := sh_some2 h
                  exact e2 ▸ hF48
            · rw [if_neg c27] at h
              by_cases c51 : x3 = 10
              · rw [if_pos c51] at h
                obtain ⟨y70, μ68, hr69, h⟩ := sh_bind_e h
                have hG68 := gp_X2_opens hG hr69
                have hF68 := hF.trans (fp_X2_opens hG hr69)
                by_cases c71 : y70 = 0
                · rw [if_pos c71] at h
                  obtain ⟨k72, h⟩ := sh_chk h
                  obtain ⟨r73, er73⟩ : ∃ y : Nat, y = (sh_ref μ68 6 1) := ⟨_, rfl⟩
                  rw [sh_let_eq er73] at h
                  have k72r : sh_r μ68 6 1 = some r73 ∧ r73 ∈ sh_FORMS := by rw [er73]; exact k72
                  obtain ⟨μ74, hr75, h⟩ := sh_bindv_e h
                  have hG74 := gp_X1_addWord hG68 k72r.2 hr75
                  have hF74 := hF68.trans (fp_X1_addWord hG68 k72r.2 hr75)
                  obtain ⟨e1, e2⟩ := sh_some2 h
                  exact e2 ▸ hF74
                · rw [if_neg c71] at h
                  obtain ⟨y79, μ77, hr78, h⟩ := sh_bind_e h
                  have hG77 := grec hG68 hr78
                  have hF77 := hF68.trans (frec hG68 hr78)
                  by_cases c80 : y79 = 0
                  · rw [if_pos c80] at h
                    obtain ⟨k81, h⟩ := sh_chk h
                    obtain ⟨r82, er82⟩ : ∃ y : Nat, y = (sh_ref μ77 6 1) := ⟨_, rfl⟩
                    rw [sh_let_eq er82] at h
                    have k81r : sh_r μ77 6 1 = some r82 ∧ r82 ∈ sh_FORMS := by rw [er82]; exact k81
                    obtain ⟨μ83, hr84, h⟩ := sh_bindv_e h
                    have hG83 := gp_X1_addWord hG77 k81r.2 hr84
                    have hF83 := hF77.trans (fp_X1_addWord hG77 k81r.2 hr84)
                    obtain ⟨e1, e2⟩ := sh_some2 h
                    exact e2 ▸ hF83
                  · rw [if_neg c80] at h
                    obtain ⟨k86, h⟩ := sh_chk h
                    obtain ⟨r87, er87⟩ : ∃ y : Nat, y = (sh_ref μ77 6 1) := ⟨_, rfl⟩
                    rw [sh_let_eq er87] at h
                    have k86r : sh_r μ77 6 1 = some r87 ∧ r87 ∈ sh_FORMS := by rw [er87]; exact k86
                    obtain ⟨μ88, hr89, h⟩ := sh_bindv_e h
                    have hG88 := gp_X1_addWord hG77 k86r.2 hr89
                    have hF88 := hF77.trans (fp_X1_addWord hG77 k86r.2 hr89)
                    obtain ⟨e1, e2⟩ := sh_some2 h
                    exact e2 ▸ hF88
              · rw [if_neg c51] at h
                obtain ⟨y54, μ52, hr53, h⟩ := sh_bind_e h
                have hG52 := gp_X2_isFactHere hG hr53
                have hF52 := hF.trans (fp_X2_isFactHere hG hr53)
                by_cases c55 : y54 = 0
                · rw [if_pos c55] at h
                  obtain ⟨y66, μ64, hr65, h⟩ := sh_bind_e h
                  have hG64 := gp_X8_fails hG52 hr65
                  have hF64 := hF52.trans (fp_X8_fails hG52 hr65)
                  obtain ⟨k67, h⟩ := sh_chk h
                  obtain ⟨e1, e2⟩ := sh_some2 h
                  exact e2 ▸ hF64
                · rw [if_neg c55] at h
                  obtain ⟨μ56, hr57, h⟩ := sh_bindv_e h
                  have hG56 := gp_X8_advance hG52 hr57
                  have hF56 := hF52.trans (fp_X8_advance hG52 hr57)
                  obtain ⟨k59, h⟩ := sh_chk h
                  obtain ⟨r60, er60⟩ : ∃ y : Nat, y = (sh_ref μ56 6 1) := ⟨_, rfl⟩
                  rw [sh_let_eq er60] at h
                  have k59r : sh_r μ56 6 1 = some r60 ∧ r60 ∈ sh_FORMS := by rw [er60]; exact k59
                  obtain ⟨μ61, hr62, h⟩ := sh_bindv_e h
                  have hG61 := gp_X1_addWord hG56 k59r.2 hr62
                  have hF61 := hF56.trans (fp_X1_addWord hG56 k59r.2 hr62)
                  obtain ⟨e1, e2⟩ := sh_some2 h
                  exact e2 ▸ hF61
          · rw [if_neg c10] at h
            obtain ⟨y13, μ11, hr12, h⟩ := sh_bind_e h
            have hG11 := gp_X2_isFactHere hG hr12
            have hF11 := hF.trans (fp_X2_isFactHere hG hr12)
            by_cases c14 : y13 = 0
            · rw [if_pos c14] at h
              obtain ⟨y25, μ23, hr24, h⟩ := sh_bind_e h
              have hG23 := gp_X8_fails hG11 hr24
              have hF23 := hF11.trans (fp_X8_fails hG11 hr24)
              obtain ⟨k26, h⟩ := sh_chk h
              obtain ⟨e1, e2⟩ := sh_some2 h
              exact e2 ▸ hF23
            · rw [if_neg c14] at h
              obtain ⟨μ15, hr16, h⟩ := sh_bindv_e h
              have hG15 := gp_X8_advance hG11 hr16
              have hF15 := hF11.trans (fp_X8_advance hG11 hr16)
              obtain ⟨k18, h⟩ := sh_chk h
              obtain ⟨r19, er19⟩ : ∃ y : Nat, y = (sh_ref μ15 6 1) := ⟨_, rfl⟩
              rw [sh_let_eq er19] at h
              have k18r : sh_r μ15 6 1 = some r19 ∧ r19 ∈ sh_FORMS := by rw [er19]; exact k18
              obtain ⟨μ20, hr21, h⟩ := sh_bindv_e h
              have hG20 := gp_X1_addWord hG15 k18r.2 hr21
              have hF20 := hF15.trans (fp_X1_addWord hG15 k18r.2 hr21)
              obtain ⟨e1, e2⟩ := sh_some2 h
              exact e2 ▸ hF20
    · rw [if_neg c2] at h
      obtain ⟨y97, μ95, hr96, h⟩ := sh_bind_e h
      have hG95 := gp_X8_takeNumber hG hr96
      have hF95 := hF.trans (fp_X8_takeNumber hG hr96)
      by_cases c98 : y97 = (-1)
      · rw [if_pos c98] at h
        by_cases c99 : y97 = (-1)
        · rw [if_pos c99] at h
          obtain ⟨e1, e2⟩ := sh_some2 h
          exact e2 ▸ hF95
        · rw [if_neg c99] at h
          obtain ⟨e1, e2⟩ := sh_some2 h
          exact e2 ▸ hF95
      · rw [if_neg c98] at h
        obtain ⟨k100, h⟩ := sh_chk h
        obtain ⟨r101, er101⟩ : ∃ y : Nat, y = (sh_ref μ95 6 1) := ⟨_, rfl⟩
        rw [sh_let_eq er101] at h
        have k100r : sh_r μ95 6 1 = some r101 ∧ r101 ∈ sh_FORMS := by rw [er101]; exact k100
        obtain ⟨μ102, hr103, h⟩ := sh_bindv_e h
        have hG102 := gp_X1_add hG95 k100r.2 hr103
        have hF102 := hF95.trans (fp_X1_add hG95 k100r.2 hr103)
        by_cases c105 : y97 = (-1)
        · rw [if_pos c105] at h
          obtain ⟨e1, e2⟩ := sh_some2 h
          exact e2 ▸ hF102
        · rw [if_neg c105] at h
          obtain ⟨e1, e2⟩ := sh_some2 h
          exact e2 ▸ hF102
theorem fp_X2_ofTwoSums {rec : Nat → Int32 → Int32 → Int32 → sh_Mem → Option (Int32 × sh_Mem)} {a1 : Int32} {a2 : Int32} {μ μ' : sh_Mem} {v : Int32}  (grec : ∀ ⦃k : Nat⦄ ⦃b1 b2 b3 : Int32⦄ ⦃μ μ' : sh_Mem⦄ ⦃v : Int32⦄, sh_G μ → rec k b1 b2 b3 μ = some (v, μ') → sh_G μ') (frec : ∀ ⦃k : Nat⦄ ⦃b1 b2 b3 : Int32⦄ ⦃μ μ' : sh_Mem⦄ ⦃v : Int32⦄, sh_G μ → rec k b1 b2 b3 μ = some (v, μ') → sh_offM μ μ')(hG : sh_G μ) (h : f_X2_ofTwoSums rec a1 a2 μ = some (v, μ')) : sh_offM μ μ' := by
  have hF : sh_offM μ μ := sh_offM.rf
  unfold f_X2_ofTwoSums at h
  obtain ⟨μ1, hr2, h⟩ := sh_bindv_e h
  have hG1 := gp_X8_advance hG hr2
  have hF1 := hF.trans (fp_X8_advance hG hr2)
  by_cases c4 : (sh_i μ1 2 3) = 40
  · rw [if_pos c4] at h
    obtain ⟨y7, μ5, hr6, h⟩ := sh_bind_e h
    have hG5 := gp_X2_opens hG1 hr6
    have hF5 := hF1.trans (fp_X2_opens hG1 hr6)
    by_cases c8 : y7 = 0
    · rw [if_pos c8] at h
      obtain ⟨k9, h⟩ := sh_chk h
      obtain ⟨r10, er10⟩ : ∃ y : Nat, y = (sh_ref μ5 6 1) := ⟨_, rfl⟩
      rw [sh_let_eq er10] at h
      have k9r : sh_r μ5 6 1 = some r10 ∧ r10 ∈ sh_FORMS := by rw [er10]; exact k9
      obtain ⟨μ11, hr12, h⟩ := sh_bindv_e h
      have hG11 := gp_X1_addWord hG5 k9r.2 hr12
      have hF11 := hF5.trans (fp_X1_addWord hG5 k9r.2 hr12)
      obtain ⟨e1, e2⟩ := sh_some2 h
      exact e2 ▸ hF11
    · rw [if_neg c8] at h
      obtain ⟨y16, μ14, hr15, h⟩ := sh_bind_e h
      have hG14 := grec hG5 hr15
      have hF14 := hF5.trans (frec hG5 hr15)
      by_cases c17 : y16 = 0
      · rw [if_pos c17] at h
        obtain ⟨k18, h⟩ := sh_chk h
        obtain ⟨r19, er19⟩ : ∃ y : Nat, y = (sh_ref μ14 6 1) := ⟨_, rfl⟩
        rw [sh_let_eq er19] at h
        have k18r : sh_r μ14 6 1 = some r19 ∧ r19 ∈ sh_FORMS := by rw [er19]; exact k18
        obtain ⟨μ20, hr21, h⟩ := sh_bindv_e h
        have hG20 := gp_X1_addWord hG14 k18r.2 hr21
        have hF20 := hF14.trans (fp_X1_addWord hG14 k18r.2 hr21)
        obtain ⟨e1, e2⟩ := sh_some2 h
        exact e2 ▸ hF20
      · rw [if_neg c17] at h
        obtain ⟨y25, μ23, hr24, h⟩ := sh_bind_e h
        have hG23 := gp_X8_takesMark hG14 hr24
        have hF23 := hF14.trans (fp_X8_takesMark hG14 hr24)
        by_cases c26 : y25 = 0
        · rw [if_pos c26] at h
          obtain ⟨k27, h⟩ := sh_chk h
          obtain ⟨r28, er28⟩ : ∃ y : Nat, y = (sh_ref μ23 6 1) := ⟨_, rfl⟩
          rw [sh_let_eq er28] at h
          have k27r : sh_r μ23 6 1 = some r28 ∧ r28 ∈ sh_FORMS := by rw [er28]; exact k27
          obtain ⟨μ29, hr30, h⟩ := sh_bindv_e h
          have hG29 := gp_X1_addWord hG23 k27r.2 hr30
          have hF29 := hF23.trans (fp_X1_addWord hG23 k27r.2 hr30)
          obtain ⟨e1, e2⟩ := sh_some2 h
          exact e2 ▸ hF29
        · rw [if_neg c26] at h
          obtain ⟨y34, μ32, hr33, h⟩ := sh_bind_e h
          have hG32 := grec hG23 hr33
          have hF32 := hF23.trans (frec hG23 hr33)
          by_cases c35 : y34 = 0
          · rw [if_pos c35] at h
            obtain ⟨k36, h⟩ := sh_chk h
            obtain ⟨r37, er37⟩ : ∃ y : Nat, y = (sh_ref μ32 6 1) := ⟨_, rfl⟩
            rw [sh_let_eq er37] at h
            have k36r : sh_r μ32 6 1 = some r37 ∧ r37 ∈ sh_FORMS := by rw [er37]; exact k36
            obtain ⟨μ38, hr39, h⟩ := sh_bindv_e h
            have hG38 := gp_X1_addWord hG32 k36r.2 hr39
            have hF38 := hF32.trans (fp_X1_addWord hG32 k36r.2 hr39)
            obtain ⟨e1, e2⟩ := sh_some2 h
            exact e2 ▸ hF38
          · rw [if_neg c35] at h
            obtain ⟨y43, μ41, hr42, h⟩ := sh_bind_e h
            have hG41 := gp_X8_takesMark hG32 hr42
            have hF41 := hF32.trans (fp_X8_takesMark hG32 hr42)
            by_cases c44 : y43 = 0
            · rw [if_pos c44] at h
              obtain ⟨k45, h⟩ := sh_chk h
              obtain ⟨r46, er46⟩ : ∃ y : Nat, y = (sh_ref μ41 6 1) := ⟨_, rfl⟩
              rw [sh_let_eq er46] at h
              have k45r : sh_r μ41 6 1 = some r46 ∧ r46 ∈ sh_FORMS := by rw [er46]; exact k45
              obtain ⟨μ47, hr48, h⟩ := sh_bindv_e h
              have hG47 := gp_X1_addWord hG41 k45r.2 hr48
              have hF47 := hF41.trans (fp_X1_addWord hG41 k45r.2 hr48)
              obtain ⟨e1, e2⟩ := sh_some2 h
              exact e2 ▸ hF47
            · rw [if_neg c44] at h
              obtain ⟨k50, h⟩ := sh_chk h
              obtain ⟨r51, er51⟩ : ∃ y : Nat, y = (sh_ref μ41 6 1) := ⟨_, rfl⟩
              rw [sh_let_eq er51] at h
              have k50r : sh_r μ41 6 1 = some r51 ∧ r51 ∈ sh_FORMS := by rw [er51]; exact k50
              obtain ⟨μ52, hr53, h⟩ := sh_bindv_e h
              have hG52 := gp_X1_addWord hG41 k50r.2 hr53
              have hF52 := hF41.trans (fp_X1_addWord hG41 k50r.2 hr53)
              obtain ⟨e1, e2⟩ := sh_some2 h
              exact e2 ▸ hF52
  · rw [if_neg c4] at h
    obtain ⟨y57, μ55, hr56, h⟩ := sh_bind_e h
    have hG55 := gp_X8_fails hG1 hr56
    have hF55 := hF1.trans (fp_X8_fails hG1 hr56)
    obtain ⟨k58, h⟩ := sh_chk h
    obtain ⟨e1, e2⟩ := sh_some2 h
    exact e2 ▸ hF55
theorem Gf_X2 (dd : Nat) : ∀ ⦃k : Nat⦄ ⦃b1 b2 b3 : Int32⦄ ⦃μ μ' : sh_Mem⦄ ⦃v : Int32⦄, sh_G μ → G_X2 dd k b1 b2 b3 μ = some (v, μ') → sh_offM μ μ' := by
  induction dd with
  | zero => intro k b1 b2 b3 μ μ' v hG h; cases h
  | succ dd ih =>
    intro k b1 b2 b3 μ μ' v hG h
    match k, h with
    | 0, h => exact fp_X2_test (Gg_X2 dd) ih hG h
    | 1, h => exact fp_X2_both (Gg_X2 dd) ih hG h
    | 2, h => exact fp_X2_fact (Gg_X2 dd) ih hG h
    | 3, h => exact fp_X2_sum (Gg_X2 dd) ih hG h
    | 4, h => exact fp_X2_product (Gg_X2 dd) ih hG h
    | 5, h => exact fp_X2_part (Gg_X2 dd) ih hG h
    | 6, h => exact fp_X2_ofTwoSums (Gg_X2 dd) ih hG h
    | n + 7, h => cases h
theorem fp_X2_test_top {b1 : Int32} {μ μ' : sh_Mem} {v : Int32} (hG : sh_G μ) (h : f_X2_test_top b1 μ = some (v, μ')) : sh_offM μ μ' := Gf_X2 64 hG h
theorem fp_X2_both_top {b1 : Int32} {μ μ' : sh_Mem} {v : Int32} (hG : sh_G μ) (h : f_X2_both_top b1 μ = some (v, μ')) : sh_offM μ μ' := Gf_X2 64 hG h
theorem fp_X2_fact_top {b1 : Int32} {μ μ' : sh_Mem} {v : Int32} (hG : sh_G μ) (h : f_X2_fact_top b1 μ = some (v, μ')) : sh_offM μ μ' := Gf_X2 64 hG h
theorem fp_X2_sum_top {b1 : Int32} {μ μ' : sh_Mem} {v : Int32} (hG : sh_G μ) (h : f_X2_sum_top b1 μ = some (v, μ')) : sh_offM μ μ' := Gf_X2 64 hG h
theorem fp_X2_product_top {b1 : Int32} {μ μ' : sh_Mem} {v : Int32} (hG : sh_G μ) (h : f_X2_product_top b1 μ = some (v, μ')) : sh_offM μ μ' := Gf_X2 64 hG h
theorem fp_X2_part_top {b1 : Int32} {μ μ' : sh_Mem} {v : Int32} (hG : sh_G μ) (h : f_X2_part_top b1 μ = some (v, μ')) : sh_offM μ μ' := Gf_X2 64 hG h
theorem fp_X2_ofTwoSums_top {b1 : Int32} {b2 : Int32} {μ μ' : sh_Mem} {v : Int32} (hG : sh_G μ) (h : f_X2_ofTwoSums_top b1 b2 μ = some (v, μ')) : sh_offM μ μ' := Gf_X2 64 hG h
theorem fp_X2_readQuestion {f1 : Nat} {μ μ' : sh_Mem} {v : Int32} (hG : sh_G μ) (hf1 : sh_isF f1) (h : f_X2_readQuestion f1 μ = some (v, μ')) : sh_offM μ μ' := by
  have hF : sh_offM μ μ := sh_offM.rf
  unfold f_X2_readQuestion at h
  by_cases c1 : (sh_i μ 2 3) = (-2)
  · rw [if_pos c1] at h
    obtain ⟨x5, ex5⟩ : ∃ y : Int32, y = (sh_i μ 2 6) := ⟨_, rfl⟩
    rw [sh_let_eq ex5] at h
    by_cases c6 : x5 < 27
    · rw [if_pos c6] at h
      obtain ⟨y9, μ7, hr8, h⟩ := sh_bind_e h
      have hG7 := gp_X8_fails hG hr8
      have hF7 := hF.trans (fp_X8_fails hG hr8)
      obtain ⟨e1, e2⟩ := sh_some2 h
      exact e2 ▸ hF7
    · rw [if_neg c6] at h
      by_cases c10 : x5 ≤ 32
      · rw [if_pos c10] at h
        obtain ⟨μ11, hr12, h⟩ := sh_bindv_e h
        have hG11 := gp_X8_advance hG hr12
        have hF11 := hF.trans (fp_X8_advance hG hr12)
        obtain ⟨μ14, hr15, h⟩ := sh_bindv_e h
        have hG14 := gp_X2_begin hG11 hf1 hr15
        have hF14 := hF11.trans (fp_X2_begin hG11 hf1 hr15)
        by_cases c17 : 29 < x5
        · rw [if_pos c17] at h
          obtain ⟨y20, μ18, hr19, h⟩ := sh_bind_e h
          have hG18 := gp_X2_sum_top hG14 hr19
          have hF18 := hF14.trans (fp_X2_sum_top hG14 hr19)
          by_cases c21 : y20 = 0
          · rw [if_pos c21] at h
            obtain ⟨e1, e2⟩ := sh_some2 h
            exact e2 ▸ hF18
          · rw [if_neg c21] at h
            obtain ⟨y24, μ22, hr23, h⟩ := sh_bind_e h
            have hG22 := gp_X8_takesMark hG18 hr23
            have hF22 := hF18.trans (fp_X8_takesMark hG18 hr23)
            by_cases c25 : y24 = 0
            · rw [if_pos c25] at h
              obtain ⟨e1, e2⟩ := sh_some2 h
              exact e2 ▸ hF22
            · rw [if_neg c25] at h
              obtain ⟨e1, e2⟩ := sh_some2 h
              exact e2 ▸ hF22
        · rw [if_neg c17] at h
          obtain ⟨y28, μ26, hr27, h⟩ := sh_bind_e h
          have hG26 := gp_X2_test_top hG14 hr27
          have hF26 := hF14.trans (fp_X2_test_top hG14 hr27)
          by_cases c29 : y28 = 0
          · rw [if_pos c29] at h
            obtain ⟨e1, e2⟩ := sh_some2 h
            exact e2 ▸ hF26
          · rw [if_neg c29] at h
            obtain ⟨y32, μ30, hr31, h⟩ := sh_bind_e h
            have hG30 := gp_X8_takesMark hG26 hr31
            have hF30 := hF26.trans (fp_X8_takesMark hG26 hr31)
            by_cases c33 : y32 = 0
            · rw [if_pos c33] at h
              obtain ⟨e1, e2⟩ := sh_some2 h
              exact e2 ▸ hF30
            · rw [if_neg c33] at h
              obtain ⟨e1, e2⟩ := sh_some2 h
              exact e2 ▸ hF30
      · rw [if_neg c10] at h
        obtain ⟨y36, μ34, hr35, h⟩ := sh_bind_e h
        have hG34 := gp_X8_fails hG hr35
        have hF34 := hF.trans (fp_X8_fails hG hr35)
        obtain ⟨e1, e2⟩ := sh_some2 h
        exact e2 ▸ hF34
  · rw [if_neg c1] at h
    obtain ⟨y4, μ2, hr3, h⟩ := sh_bind_e h
    have hG2 := gp_X8_fails hG hr3
    have hF2 := hF.trans (fp_X8_fails hG hr3)
    obtain ⟨e1, e2⟩ := sh_some2 h
    exact e2 ▸ hF2
theorem fp_X6_readStatement {μ μ' : sh_Mem} {v : Int32} (hG : sh_G μ) (h : f_X6_readStatement μ = some (v, μ')) : sh_offM μ μ' := by
  have hF : sh_offM μ μ := sh_offM.rf
  unfold f_X6_readStatement at h
  by_cases c1 : (sh_i μ 2 3) = (-2)
  · rw [if_pos c1] at h
    obtain ⟨x14, ex14⟩ : ∃ y : Int32, y = (sh_i μ 2 6) := ⟨_, rfl⟩
    rw [sh_let_eq ex14] at h
    obtain ⟨y17, μ15, hr16, h⟩ := sh_bind_e h
    have hG15 := gp_X6_isOneTooMany hG hr16
    have hF15 := hF.trans (fp_X6_isOneTooMany hG hr16)
    by_cases c18 : y17 = 0
    · rw [if_pos c18] at h
      by_cases c19 : x14 = 2
      · rw [if_pos c19] at h
        obtain ⟨y22, μ20, hr21, h⟩ := sh_bind_e h
        have hG20 := gp_X6_readHigh hG15 hr21
        have hF20 := hF15.trans (fp_X6_readHigh hG15 hr21)
        obtain ⟨k23, h⟩ := sh_chk h
        obtain ⟨e1, e2⟩ := sh_some2 h
        exact e2 ▸ hF20
      rw [if_neg c19] at h
      by_cases c24 : x14 = 3
      · rw [if_pos c24] at h
        obtain ⟨y27, μ25, hr26, h⟩ := sh_bind_e h
        have hG25 := gp_X6_readTopic hG15 hr26
        have hF25 := hF15.trans (fp_X6_readTopic hG15 hr26)
        obtain ⟨k28, h⟩ := sh_chk h
        obtain ⟨e1, e2⟩ := sh_some2 h
        exact e2 ▸ hF25
      rw [if_neg c24] at h
      by_cases c29 : x14 = 4
      · rw [if_pos c29] at h
        obtain ⟨y32, μ30, hr31, h⟩ := sh_bind_e h
        have hG30 := gp_X6_readPerson hG15 hr31
        have hF30 := hF15.trans (fp_X6_readPerson hG15 hr31)
        obtain ⟨k33, h⟩ := sh_chk h
        obtain ⟨e1, e2⟩ := sh_some2 h
        exact e2 ▸ hF30
      rw [if_neg c29] at h
      by_cases c34 : x14 = 5
      · rw [if_pos c34] at h
        obtain ⟨y37, μ35, hr36, h⟩ := sh_bind_e h
        have hG35 := gp_X8_fails hG15 hr36
        have hF35 := hF15.trans (fp_X8_fails hG15 hr36)
        obtain ⟨k38, h⟩ := sh_chk h
        obtain ⟨e1, e2⟩ := sh_some2 h
        exact e2 ▸ hF35
      rw [if_neg c34] at h
      by_cases c39 : x14 = 6
      · rw [if_pos c39] at h
        obtain ⟨y42, μ40, hr41, h⟩ := sh_bind_e h
        have hG40 := gp_X8_fails hG15 hr41
        have hF40 := hF15.trans (fp_X8_fails hG15 hr41)
        obtain ⟨k43, h⟩ := sh_chk h
        obtain ⟨e1, e2⟩ := sh_some2 h
        exact e2 ▸ hF40
      rw [if_neg c39] at h
      by_cases c44 : x14 = 7
      · rw [if_pos c44] at h
        obtain ⟨y47, μ45, hr46, h⟩ := sh_bind_e h
        have hG45 := gp_X6_readKnows hG15 hr46
        have hF45 := hF15.trans (fp_X6_readKnows hG15 hr46)
        obtain ⟨k48, h⟩ := sh_chk h
        obtain ⟨e1, e2⟩ := sh_some2 h
        exact e2 ▸ hF45
      rw [if_neg c44] at h
      by_cases c49 : x14 = 8
      · rw [if_pos c49] at h
        obtain ⟨y52, μ50, hr51, h⟩ := sh_bind_e h
        have hG50 := gp_X8_fails hG15 hr51
        have hF50 := hF15.trans (fp_X8_fails hG15 hr51)
        obtain ⟨k53, h⟩ := sh_chk h
        obtain ⟨e1, e2⟩ := sh_some2 h
        exact e2 ▸ hF50
      rw [if_neg c49] at h
      by_cases c54 : x14 = 9
      · rw [if_pos c54] at h
        obtain ⟨y57, μ55, hr56, h⟩ := sh_bind_e h
        have hG55 := gp_X6_readAsks hG15 hr56
        have hF55 := hF15.trans (fp_X6_readAsks hG15 hr56)
        obtain ⟨k58, h⟩ := sh_chk h
        obtain ⟨e1, e2⟩ := sh_some2 h
        exact e2 ▸ hF55
      rw [if_neg c54] at h
      by_cases c59 : x14 = 10
      · rw [if_pos c59] at h
        obtain ⟨k60, h⟩ := sh_chk h
        obtain ⟨r61, er61⟩ : ∃ y : Nat, y = (sh_ref μ15 7 2) := ⟨_, rfl⟩
        rw [sh_let_eq er61] at h
        have k60r : sh_r μ15 7 2 = some r61 ∧ (r61 = 8 ∨ r61 = 29) := by rw [er61]; exact k60
        obtain ⟨μ62, eμ62⟩ : ∃ y : sh_Mem, y = (sh_setI μ15 r61 13 1) := ⟨_, rfl⟩
        rw [sh_let_eq eμ62] at h
        have hG62 : sh_G μ62 := by rw [eμ62]; exact hG15
        have hF62 : sh_offM μ μ62 := by rw [eμ62]; exact sh_offM_I hF15 (sh_ltP k60r.2 0 (by decide))
        obtain ⟨k63, h⟩ := sh_chk h
        obtain ⟨r64, er64⟩ : ∃ y : Nat, y = (sh_ref μ62 7 2) := ⟨_, rfl⟩
        rw [sh_let_eq er64] at h
        have k63r : sh_r μ62 7 2 = some r64 ∧ (r64 = 8 ∨ r64 = 29) := by rw [er64]; exact k63
        obtain ⟨μ65, hr66, h⟩ := sh_bindv_e h
        have hG65 := gp_X6_beginRule hG62 (gP_f10 k63r.2) hr66
        have hF65 := hF62.trans (fp_X6_beginRule hG62 (gP_f10 k63r.2) hr66)
        obtain ⟨y70, μ68, hr69, h⟩ := sh_bind_e h
        have hG68 := gp_X2_sum_top hG65 hr69
        have hF68 := hF65.trans (fp_X2_sum_top hG65 hr69)
        obtain ⟨k71, h⟩ := sh_chk h
        obtain ⟨e1, e2⟩ := sh_some2 h
        exact e2 ▸ hF68
      rw [if_neg c59] at h
      by_cases c72 : x14 = 11
      · rw [if_pos c72] at h
        obtain ⟨k73, h⟩ := sh_chk h
        obtain ⟨r74, er74⟩ : ∃ y : Nat, y = (sh_ref μ15 7 2) := ⟨_, rfl⟩
        rw [sh_let_eq er74] at h
        have k73r : sh_r μ15 7 2 = some r74 ∧ (r74 = 8 ∨ r74 = 29) := by rw [er74]; exact k73
        obtain ⟨μ75, eμ75⟩ : ∃ y : sh_Mem, y = (sh_setI μ15 r74 14 1) := ⟨_, rfl⟩
        rw [sh_let_eq eμ75] at h
        have hG75 : sh_G μ75 := by rw [eμ75]; exact hG15
        have hF75 : sh_offM μ μ75 := by rw [eμ75]; exact sh_offM_I hF15 (sh_ltP k73r.2 0 (by decide))
        obtain ⟨k76, h⟩ := sh_chk h
        obtain ⟨r77, er77⟩ : ∃ y : Nat, y = (sh_ref μ75 7 2) := ⟨_, rfl⟩
        rw [sh_let_eq er77] at h
        have k76r : sh_r μ75 7 2 = some r77 ∧ (r77 = 8 ∨ r77 = 29) := by rw [er77]; exact k76
        obtain ⟨μ78, hr79, h⟩ := sh_bindv_e h
        have hG78 := gp_X6_beginRule hG75 (gP_f11 k76r.2) hr79
        have hF78 := hF75.trans (fp_X6_beginRule hG75 (gP_f11 k76r.2) hr79)
        obtain ⟨y83, μ81, hr82, h⟩ := sh_bind_e h
        have hG81 := gp_X2_sum_top hG78 hr82
        have hF81 := hF78.trans (fp_X2_sum_top hG78 hr82)
        obtain ⟨k84, h⟩ := sh_chk h
        obtain ⟨e1, e2⟩ := sh_some2 h
        exact e2 ▸ hF81
      rw [if_neg c72] at h
      by_cases c85 : x14 = 12
      · rw [if_pos c85] at h
        obtain ⟨k86, h⟩ := sh_chk h
        obtain ⟨r87, er87⟩ : ∃ y : Nat, y = (sh_ref μ15 7 2) := ⟨_, rfl⟩
        rw [sh_let_eq er87] at h
        have k86r : sh_r μ15 7 2 = some r87 ∧ (r87 = 8 ∨ r87 = 29) := by rw [er87]; exact k86
        obtain ⟨μ88, eμ88⟩ : ∃ y : sh_Mem, y = (sh_setI μ15 r87 15 1) := ⟨_, rfl⟩
        rw [sh_let_eq eμ88] at h
        have hG88 : sh_G μ88 := by rw [eμ88]; exact hG15
        have hF88 : sh_offM μ μ88 := by rw [eμ88]; exact sh_offM_I hF15 (sh_ltP k86r.2 0 (by decide))
        obtain ⟨k89, h⟩ := sh_chk h
        obtain ⟨r90, er90⟩ : ∃ y : Nat, y = (sh_ref μ88 7 2) := ⟨_, rfl⟩
        rw [sh_let_eq er90] at h
        have k89r : sh_r μ88 7 2 = some r90 ∧ (r90 = 8 ∨ r90 = 29) := by rw [er90]; exact k89
        obtain ⟨μ91, hr92, h⟩ := sh_bindv_e h
        have hG91 := gp_X6_beginRule hG88 (gP_f12 k89r.2) hr92
        have hF91 := hF88.trans (fp_X6_beginRule hG88 (gP_f12 k89r.2) hr92)
        obtain ⟨y96, μ94, hr95, h⟩ := sh_bind_e h
        have hG94 := gp_X2_test_top hG91 hr95
        have hF94 := hF91.trans (fp_X2_test_top hG91 hr95)
        obtain ⟨k97, h⟩ := sh_chk h
        obtain ⟨e1, e2⟩ := sh_some2 h
        exact e2 ▸ hF94
      rw [if_neg c85] at h
      by_cases c98 : x14 = 13
      · rw [if_pos c98] at h
        obtain ⟨y101, μ99, hr100, h⟩ := sh_bind_e h
        have hG99 := gp_X6_readCrowd hG15 hr100
        have hF99 := hF15.trans (fp_X6_readCrowd hG15 hr100)
        obtain ⟨k102, h⟩ := sh_chk h
        obtain ⟨e1, e2⟩ := sh_some2 h
        exact e2 ▸ hF99
      rw [if_neg c98] at h
      obtain ⟨y105, μ103, hr104, h⟩ := sh_bind_e h
      have hG103 := gp_X8_fails hG15 hr104
      have hF103 := hF15.trans (fp_X8_fails hG15 hr104)
      obtain ⟨k106, h⟩ := sh_chk h
      obtain ⟨e1, e2⟩ := sh_some2 h
      exact e2 ▸ hF103
    · rw [if_neg c18] at h
      obtain ⟨y109, μ107, hr108, h⟩ := sh_bind_e h
      have hG107 := gp_X8_fails hG15 hr108
      have hF107 := hF15.trans (fp_X8_fails hG15 hr108)
      obtain ⟨k110, h⟩ := sh_chk h
      obtain ⟨e1, e2⟩ := sh_some2 h
      exact e2 ▸ hF107
  · rw [if_neg c1] at h
    obtain ⟨y4, μ2, hr3, h⟩ := sh_bind_e h
    have hG2 := gp_X6_isOneTooMany hG hr3
    have hF2 := hF.trans (fp_X6_isOneTooMany hG hr3)
    by_cases c5 : y4 = 0
    · rw [if_pos c5] at h
      obtain ⟨y8, μ6, hr7, h⟩ := sh_bind_e h
      have hG6 := gp_X8_fails hG2 hr7
      have hF6 := hF2.trans (fp_X8_fails hG2 hr7)
      obtain ⟨k9, h⟩ := sh_chk h
      obtain ⟨e1, e2⟩ := sh_some2 h
      exact e2 ▸ hF6
    · rw [if_neg c5] at h
      obtain ⟨y12, μ10, hr11, h⟩ := sh_bind_e h
      have hG10 := gp_X8_fails hG2 hr11
      have hF10 := hF2.trans (fp_X8_fails hG2 hr11)
      obtain ⟨k13, h⟩ := sh_chk h
      obtain ⟨e1, e2⟩ := sh_some2 h
      exact e2 ▸ hF10
theorem fp_X10_asked {q1 : Nat} {a2 : Int32} {a3 : Int32} {μ μ' : sh_Mem} {v : Int32} (hG : sh_G μ) (hq1 : sh_isL q1) (h : f_X10_asked q1 a2 a3 μ = some (v, μ')) : sh_offM μ μ' := by
  have hF : sh_offM μ μ := sh_offM.rf
  unfold f_X10_asked at h
  obtain ⟨μ1, eμ1⟩ : ∃ y : sh_Mem, y = (sh_setI μ 55 1 0) := ⟨_, rfl⟩
  rw [sh_let_eq eμ1] at h
  have hG1 : sh_G μ1 := by rw [eμ1]; exact hG
  have hF1 : sh_offM μ μ1 := by rw [eμ1]; exact sh_offM_I hF (by decide)
  obtain ⟨y4, μ2, hr3, h⟩ := sh_bind_e h
  have hG2 := gp_X10_deed hG1 hq1 hr3
  have hF2 := hF1.trans (fp_X10_deed hG1 hq1 hr3)
  by_cases c5 : y4 = 2
  · rw [if_pos c5] at h
    obtain ⟨μ6, hr7, h⟩ := sh_bindv_e h
    have hG6 := gp_X10_lookAround hG2 hq1 hr7
    have hF6 := hF2.trans (fp_X10_lookAround hG2 hq1 hr7)
    obtain ⟨μ9, hr10, h⟩ := sh_bindv_e h
    have hG9 := gp_X10_lift hG6 hq1 hr10
    have hF9 := hF6.trans (fp_X10_lift hG6 hq1 hr10)
    obtain ⟨μ12, hr13, h⟩ := sh_bindv_e h
    have hG12 := gp_X10_lift hG9 hq1 hr13
    have hF12 := hF9.trans (fp_X10_lift hG9 hq1 hr13)
    obtain ⟨k15, h⟩ := sh_chk h
    obtain ⟨r16, er16⟩ : ∃ y : Nat, y = (sh_ref μ12 55 0) := ⟨_, rfl⟩
    rw [sh_let_eq er16] at h
    have k15r : sh_r μ12 55 0 = some r16 ∧ (r16 = 8 ∨ r16 = 29) := by rw [er16]; exact k15
    obtain ⟨y19, μ17, hr18, h⟩ := sh_bind_e h
    have hG17 := gp_X1_value hG12 (gP_f11 k15r.2) (sh_LAYat_56) hr18
    have hF17 := hF12.trans (fp_X1_value hG12 (gP_f11 k15r.2) (sh_LAYat_56) (by decide) hr18)
    obtain ⟨k20, h⟩ := sh_chk h
    obtain ⟨μ21, eμ21⟩ : ∃ y : sh_Mem, y = (sh_setI μ17 (q1 + 4) a2.toNatClampNeg (f_X10_within μ17 y19 9)) := ⟨_, rfl⟩
    rw [sh_let_eq eμ21] at h
    have hG21 : sh_G μ21 := by rw [eμ21]; exact hG17
    have hF21 : sh_offM μ μ21 := by rw [eμ21]; exact sh_offM_I hF17 (sh_ltL hq1 4 (by decide))
    obtain ⟨e1, e2⟩ := sh_some2 h
    exact e2 ▸ hF21
  · rw [if_neg c5] at h
    obtain ⟨e1, e2⟩ := sh_some2 h
    exact e2 ▸ hF2
theorem fp_X10_passDay {q1 : Nat} {a2 : Int32} {μ μ' : sh_Mem} (hG : sh_G μ) (hq1 : sh_isL q1) (h : f_X10_passDay q1 a2 μ = some μ') : sh_offM μ μ' := by
  have hF : sh_offM μ μ := sh_offM.rf
  unfold f_X10_passDay at h
  obtain ⟨k1, h⟩ := sh_chk h
  obtain ⟨r2, er2⟩ : ∃ y : Nat, y = (sh_ref μ 55 0) := ⟨_, rfl⟩
  rw [sh_let_eq er2] at h
  have k1r : sh_r μ 55 0 = some r2 ∧ (r2 = 8 ∨ r2 = 29) := by rw [er2]; exact k1
  obtain ⟨y5, μ3, hr4, h⟩ := sh_bind_e h
  have hG3 := gp_X5_rowOf hG k1r.2 hr4
  have hF3 := hF.trans (fp_X5_rowOf hG k1r.2 hr4)
  by_cases c6 : y5 = (-1)
  · rw [if_pos c6] at h
    obtain ⟨μ7, eμ7⟩ : ∃ y : sh_Mem, y = (sh_setI μ3 q1 0 ((sh_i μ3 q1 0) + 1)) := ⟨_, rfl⟩
    rw [sh_let_eq eμ7] at h
    have hG7 : sh_G μ7 := by rw [eμ7]; exact hG3
    have hF7 : sh_offM μ μ7 := by rw [eμ7]; exact sh_offM_I hF3 (sh_ltL hq1 0 (by decide))
    have e2 := Option.some.inj h
    exact e2 ▸ hF7
  · rw [if_neg c6] at h
    obtain ⟨k8, h⟩ := sh_chk h
    obtain ⟨r9, er9⟩ : ∃ y : Nat, y = (sh_ref μ3 55 0) := ⟨_, rfl⟩
    rw [sh_let_eq er9] at h
    have k8r : sh_r μ3 55 0 = some r9 ∧ (r9 = 8 ∨ r9 = 29) := by rw [er9]; exact k8
    obtain ⟨k10, h⟩ := sh_chk h
    by_cases c11 : ((a2 >>> ((sh_i μ3 (r9 + 3) y5.toNatClampNeg) &&& 31)) &&& 1) = 0
    · rw [if_pos c11] at h
      obtain ⟨k13, h⟩ := sh_chk h
      obtain ⟨r14, er14⟩ : ∃ y : Nat, y = (sh_ref μ3 55 0) := ⟨_, rfl⟩
      rw [sh_let_eq er14] at h
      have k13r : sh_r μ3 55 0 = some r14 ∧ (r14 = 8 ∨ r14 = 29) := by rw [er14]; exact k13
      obtain ⟨k15, h⟩ := sh_chk h
      obtain ⟨k16, h⟩ := sh_chk h
      obtain ⟨r17, er17⟩ : ∃ y : Nat, y = (sh_ref μ3 55 0) := ⟨_, rfl⟩
      rw [sh_let_eq er17] at h
      have k16r : sh_r μ3 55 0 = some r17 ∧ (r17 = 8 ∨ r17 = 29) := by rw [er17]; exact k16
      obtain ⟨k18, h⟩ := sh_chk h
      obtain ⟨y21, μ19, hr20, h⟩ := sh_bind_e h
      have hG19 := gp_X10_asked hG3 hq1 hr20
      have hF19 := hF3.trans (fp_X10_asked hG3 hq1 hr20)
      obtain ⟨μ22, eμ22⟩ : ∃ y : sh_Mem, y = (sh_setI μ19 q1 0 ((sh_i μ19 q1 0) + 1)) := ⟨_, rfl⟩
      rw [sh_let_eq eμ22] at h
      have hG22 : sh_G μ22 := by rw [eμ22]; exact hG19
      have hF22 : sh_offM μ μ22 := by rw [eμ22]; exact sh_offM_I hF19 (sh_ltL hq1 0 (by decide))
      have e2 := Option.some.inj h
      exact e2 ▸ hF22
    · rw [if_neg c11] at h
      obtain ⟨μ12, eμ12⟩ : ∃ y : sh_Mem, y = (sh_setI μ3 q1 0 ((sh_i μ3 q1 0) + 1)) := ⟨_, rfl⟩
      rw [sh_let_eq eμ12] at h
      have hG12 : sh_G μ12 := by rw [eμ12]; exact hG3
      have hF12 : sh_offM μ μ12 := by rw [eμ12]; exact sh_offM_I hF3 (sh_ltL hq1 0 (by decide))
      have e2 := Option.some.inj h
      exact e2 ▸ hF12
theorem fp_X11_askNow {a1 : Int32} {a2 : Int32} {μ μ' : sh_Mem} {v : Int32} (hG : sh_G μ) (h : f_X11_askNow a1 a2 μ = some (v, μ')) : sh_offM μ μ' := by
  have hF : sh_offM μ μ := sh_offM.rf
  unfold f_X11_askNow at h
  obtain ⟨y3, μ1, hr2, h⟩ := sh_bind_e h
  have hG1 := gp_X10_asked hG sh_isL_49 hr2
  have hF1 := hF.trans (fp_X10_asked hG sh_isL_49 hr2)
  by_cases c4 : y3 = 2
  · rw [if_pos c4] at h
    obtain ⟨μ5, hr6, h⟩ := sh_bindv_e h
    have hG5 := gp_X4_keep hG1 hr6
    have hF5 := hF1.trans (fp_X4_keep hG1 hr6)
    obtain ⟨e1, e2⟩ := sh_some2 h
    exact e2 ▸ hF5
  · rw [if_neg c4] at h
    obtain ⟨e1, e2⟩ := sh_some2 h
    exact e2 ▸ hF1
theorem fp_X11_dayNow {μ μ' : sh_Mem} {v : Int32} (hG : sh_G μ) (h : f_X11_dayNow μ = some (v, μ')) : sh_offM μ μ' := by
  have hF : sh_offM μ μ := sh_offM.rf
  unfold f_X11_dayNow at h
  obtain ⟨k1, h⟩ := sh_chk h
  obtain ⟨r2, er2⟩ : ∃ y : Nat, y = (sh_ref μ 0 7) := ⟨_, rfl⟩
  rw [sh_let_eq er2] at h
  have k1r : sh_r μ 0 7 = some r2 ∧ (r2 = 8 ∨ r2 = 29) := by rw [er2]; exact k1
  obtain ⟨y5, μ3, hr4, h⟩ := sh_bind_e h
  have hG3 := gp_X5_rowOf hG k1r.2 hr4
  have hF3 := hF.trans (fp_X5_rowOf hG k1r.2 hr4)
  by_cases c6 : y5 = (-1)
  · rw [if_pos c6] at h
    obtain ⟨μ18, eμ18⟩ : ∃ y : sh_Mem, y = (sh_setI μ3 49 0 ((sh_i μ3 49 0) + 1)) := ⟨_, rfl⟩
    rw [sh_let_eq eμ18] at h
    have hG18 : sh_G μ18 := by rw [eμ18]; exact hG3
    have hF18 : sh_offM μ μ18 := by rw [eμ18]; exact sh_offM_I hF3 (by decide)
    obtain ⟨e1, e2⟩ := sh_some2 h
    exact e2 ▸ hF18
  · rw [if_neg c6] at h
    obtain ⟨k7, h⟩ := sh_chk h
    obtain ⟨r8, er8⟩ : ∃ y : Nat, y = (sh_ref μ3 0 7) := ⟨_, rfl⟩
    rw [sh_let_eq er8] at h
    have k7r : sh_r μ3 0 7 = some r8 ∧ (r8 = 8 ∨ r8 = 29) := by rw [er8]; exact k7
    obtain ⟨k9, h⟩ := sh_chk h
    obtain ⟨k10, h⟩ := sh_chk h
    obtain ⟨r11, er11⟩ : ∃ y : Nat, y = (sh_ref μ3 0 7) := ⟨_, rfl⟩
    rw [sh_let_eq er11] at h
    have k10r : sh_r μ3 0 7 = some r11 ∧ (r11 = 8 ∨ r11 = 29) := by rw [er11]; exact k10
    obtain ⟨k12, h⟩ := sh_chk h
    obtain ⟨y15, μ13, hr14, h⟩ := sh_bind_e h
    have hG13 := gp_X11_askNow hG3 hr14
    have hF13 := hF3.trans (fp_X11_askNow hG3 hr14)
    obtain ⟨μ16, eμ16⟩ : ∃ y : sh_Mem, y = (sh_setI μ13 49 0 ((sh_i μ13 49 0) + 1)) := ⟨_, rfl⟩
    rw [sh_let_eq eμ16] at h
    have hG16 : sh_G μ16 := by rw [eμ16]; exact hG13
    have hF16 : sh_offM μ μ16 := by rw [eμ16]; exact sh_offM_I hF13 (by decide)
    by_cases c17 : y15 = 2
    · rw [if_pos c17] at h
      obtain ⟨e1, e2⟩ := sh_some2 h
      exact e2 ▸ hF16
    · rw [if_neg c17] at h
      obtain ⟨e1, e2⟩ := sh_some2 h
      exact e2 ▸ hF16
theorem fp_X11_crowdNow {μ μ' : sh_Mem} {v : Int32} (hG : sh_G μ) (h : f_X11_crowdNow μ = some (v, μ')) : sh_offM μ μ' := by
  have hF : sh_offM μ μ := sh_offM.rf
  unfold f_X11_crowdNow at h
  obtain ⟨y3, μ1, hr2, h⟩ := sh_bind_e h
  have hG1 := gp_X11_draw hG hr2
  have hF1 := hF.trans (fp_X11_draw hG hr2)
  obtain ⟨k4, h⟩ := sh_chk h
  obtain ⟨r5, er5⟩ : ∃ y : Nat, y = (sh_ref μ1 0 7) := ⟨_, rfl⟩
  rw [sh_let_eq er5] at h
  have k4r : sh_r μ1 0 7 = some r5 ∧ (r5 = 8 ∨ r5 = 29) := by rw [er5]; exact k4
  by_cases c6 : (sh_i μ1 r5 5) ≤ y3
  · rw [if_pos c6] at h
    obtain ⟨e1, e2⟩ := sh_some2 h
    exact e2 ▸ hF1
  · rw [if_neg c6] at h
    obtain ⟨k7, h⟩ := sh_chk h
    obtain ⟨r8, er8⟩ : ∃ y : Nat, y = (sh_ref μ1 0 7) := ⟨_, rfl⟩
    rw [sh_let_eq er8] at h
    have k7r : sh_r μ1 0 7 = some r8 ∧ (r8 = 8 ∨ r8 = 29) := by rw [er8]; exact k7
    by_cases c9 : (sh_i μ1 r8 3) = 0
    · rw [if_pos c9] at h
      obtain ⟨e1, e2⟩ := sh_some2 h
      exact e2 ▸ hF1
    · rw [if_neg c9] at h
      obtain ⟨k10, h⟩ := sh_chk h
      obtain ⟨r11, er11⟩ : ∃ y : Nat, y = (sh_ref μ1 0 7) := ⟨_, rfl⟩
      rw [sh_let_eq er11] at h
      have k10r : sh_r μ1 0 7 = some r11 ∧ (r11 = 8 ∨ r11 = 29) := by rw [er11]; exact k10
      by_cases c12 : (sh_i μ1 r11 2) = 0
      · rw [if_pos c12] at h
        obtain ⟨e1, e2⟩ := sh_some2 h
        exact e2 ▸ hF1
      · rw [if_neg c12] at h
        obtain ⟨k13, h⟩ := sh_chk h
        obtain ⟨r14, er14⟩ : ∃ y : Nat, y = (sh_ref μ1 0 7) := ⟨_, rfl⟩
        rw [sh_let_eq er14] at h
        have k13r : sh_r μ1 0 7 = some r14 ∧ (r14 = 8 ∨ r14 = 29) := by rw [er14]; exact k13
        obtain ⟨y17, μ15, hr16, h⟩ := sh_bind_e h
        have hG15 := gp_X11_draw hG1 hr16
        have hF15 := hF1.trans (fp_X11_draw hG1 hr16)
        obtain ⟨k18, h⟩ := sh_chk h
        obtain ⟨r19, er19⟩ : ∃ y : Nat, y = (sh_ref μ15 0 7) := ⟨_, rfl⟩
        rw [sh_let_eq er19] at h
        have k18r : sh_r μ15 0 7 = some r19 ∧ (r19 = 8 ∨ r19 = 29) := by rw [er19]; exact k18
        obtain ⟨y22, μ20, hr21, h⟩ := sh_bind_e h
        have hG20 := gp_X11_draw hG15 hr21
        have hF20 := hF15.trans (fp_X11_draw hG15 hr21)
        obtain ⟨y25, μ23, hr24, h⟩ := sh_bind_e h
        have hG23 := gp_X11_askNow hG20 hr24
        have hF23 := hF20.trans (fp_X11_askNow hG20 hr24)
        by_cases c26 : y25 = 2
        · rw [if_pos c26] at h
          obtain ⟨e1, e2⟩ := sh_some2 h
          exact e2 ▸ hF23
        · rw [if_neg c26] at h
          obtain ⟨e1, e2⟩ := sh_some2 h
          exact e2 ▸ hF23
theorem fpl_X7_goesOn {rec : Nat → Int32 → Int32 → Int32 → sh_Mem → Option (Int32 × sh_Mem)} (grec : ∀ ⦃k : Nat⦄ ⦃b1 b2 b3 : Int32⦄ ⦃μ μ' : sh_Mem⦄ ⦃v : Int32⦄, sh_G μ → rec k b1 b2 b3 μ = some (v, μ') → sh_G μ') (frec : ∀ ⦃k : Nat⦄ ⦃b1 b2 b3 : Int32⦄ ⦃μ μ' : sh_Mem⦄ ⦃v : Int32⦄, sh_G μ → rec k b1 b2 b3 μ = some (v, μ') → sh_offM μ μ') (fuel : Nat) : (∀ ⦃i1 : Int32⦄ ⦃i2 : Int32⦄ ⦃r3 : Nat⦄ ⦃i4 : Int32⦄ ⦃μ μ' : sh_Mem⦄ ⦃v : Int32⦄, sh_G μ → sh_isL r3 → F_X7_goesOn rec fuel 1 i1 i2 r3 i4 μ = some (v, μ') → sh_offM μ μ') := by
  induction fuel with
  | zero => intro i1 i2 r3 i4 μ μ' v hG hr3 h; cases h
  | succ fuel ih =>
    have ih_63 := ih
    intro i1 i2 r3 i4 μ μ' v hG hr3 h
    replace h : ((if (sh_r μ 55 0 = some (sh_ref μ 55 0) ∧ ((sh_ref μ 55 0) = 8 ∨ (sh_ref μ 55 0) = 29)) then sh_let (sh_ref μ 55 0) (fun r28 => (if (sh_i μ r28 3) ≤ i4 then some (0, μ) else sh_let (((i2 - i1) - 1) : Int32) (fun x30 => sh_bind (f_X7_mayRise r3 (sh_i μ 260 3) (sh_i μ 260 4) i4 x30 μ) (fun y33 μ31 => (if y33 = 0 then F_X7_goesOn rec fuel 1 i1 i2 r3 (i4 + 1) μ31 else (if sh_in 0 4 then (if sh_in (sh_i μ31 260 5) 49 then sh_bind (f_X7_mayRise r3 (sh_i μ31 260 5) (sh_i μ31 ((263 + 6 * (Int32.toNatClampNeg 0)) + 1) ((sh_i μ31 260 5)).toNatClampNeg) i4 x30 μ31) (fun y39 μ37 => (if y39 = 0 then F_X7_goesOn rec fuel 1 i1 i2 r3 (i4 + 1) μ37 else sh_bind (rec 1 i4 i1 i2 μ37) (fun y43 μ41 => (if y43 = 0 then F_X7_goesOn rec fuel 1 i1 i2 r3 (i4 + 1) μ41 else some (1, μ41))))) else none) else none)))))) else none) : Option (Int32 × sh_Mem)) = some (v, μ') := h
    have hF : sh_offM μ μ := sh_offM.rf
    obtain ⟨k27, h⟩ := sh_chk h
    obtain ⟨r28, er28⟩ : ∃ y : Nat, y = (sh_ref μ 55 0) := ⟨_, rfl⟩
    rw [sh_let_eq er28] at h
    have k27r : sh_r μ 55 0 = some r28 ∧ (r28 = 8 ∨ r28 = 29) := by rw [er28]; exact k27
    by_cases c29 : (sh_i μ r28 3) ≤ i4
    · rw [if_pos c29] at h
      obtain ⟨e1, e2⟩ := sh_some2 h
      exact e2 ▸ hF
    · rw [if_neg c29] at h
      obtain ⟨x30, ex30⟩ : ∃ y : Int32, y = ((i2 - i1) - 1) := ⟨_, rfl⟩
      rw [sh_let_eq ex30] at h
      obtain ⟨y33, μ31, hr32, h⟩ := sh_bind_e h
      have hG31 := gp_X7_mayRise hG hr3 hr32
      have hF31 := hF.trans (fp_X7_mayRise hG hr3 hr32)
      by_cases c34 : y33 = 0
      · rw [if_pos c34] at h
        exact hF31.trans (ih_63 hG31 hr3 h)
      · rw [if_neg c34] at h
        obtain ⟨k35, h⟩ := sh_chk h
        obtain ⟨k36, h⟩ := sh_chk h
        obtain ⟨y39, μ37, hr38, h⟩ := sh_bind_e h
        have hG37 := gp_X7_mayRise hG31 hr3 hr38
        have hF37 := hF31.trans (fp_X7_mayRise hG31 hr3 hr38)
        by_cases c40 : y39 = 0
        · rw [if_pos c40] at h
          exact hF37.trans (ih_63 hG37 hr3 h)
        · rw [if_neg c40] at h
          obtain ⟨y43, μ41, hr42, h⟩ := sh_bind_e h
          have hG41 := grec hG37 hr42
          have hF41 := hF37.trans (frec hG37 hr42)
          by_cases c44 : y43 = 0
          · rw [if_pos c44] at h
            exact hF41.trans (ih_63 hG41 hr3 h)
          · rw [if_neg c44] at h
            obtain ⟨e1, e2⟩ := sh_some2 h
            exact e2 ▸ hF41
theorem fp_X7_goesOn {rec : Nat → Int32 → Int32 → Int32 → sh_Mem → Option (Int32 × sh_Mem)} {a1 : Int32} {a2 : Int32} {μ μ' : sh_Mem} {v : Int32}  (grec : ∀ ⦃k : Nat⦄ ⦃b1 b2 b3 : Int32⦄ ⦃μ μ' : sh_Mem⦄ ⦃v : Int32⦄, sh_G μ → rec k b1 b2 b3 μ = some (v, μ') → sh_G μ') (frec : ∀ ⦃k : Nat⦄ ⦃b1 b2 b3 : Int32⦄ ⦃μ μ' : sh_Mem⦄ ⦃v : Int32⦄, sh_G μ → rec k b1 b2 b3 μ = some (v, μ') → sh_offM μ μ')(hG : sh_G μ) (h : f_X7_goesOn rec a1 a2 μ = some (v, μ')) : sh_offM μ μ' := by
  have ih_63 := (fpl_X7_goesOn grec frec sh_fuel)
  have hF : sh_offM μ μ := sh_offM.rf
  unfold f_X7_goesOn at h
  obtain ⟨k45, h⟩ := sh_chk h
  by_cases c46 : a1 < a2
  · rw [if_pos c46] at h
    exact hF.trans (ih_63 hG (gRL_261 k45) h)
  · rw [if_neg c46] at h
    obtain ⟨k47, h⟩ := sh_chk h
    by_cases c48 : (sh_i μ ((263 + 6 * a1.toNatClampNeg) + 1) ((sh_i μ 260 3)).toNatClampNeg) < (sh_i μ 260 4)
    · rw [if_pos c48] at h
      obtain ⟨e1, e2⟩ := sh_some2 h
      exact e2 ▸ hF
    · rw [if_neg c48] at h
      obtain ⟨k49, h⟩ := sh_chk h
      obtain ⟨k50, h⟩ := sh_chk h
      obtain ⟨k51, h⟩ := sh_chk h
      by_cases c52 : (sh_i μ ((263 + 6 * a1.toNatClampNeg) + 1) ((sh_i μ 260 5)).toNatClampNeg) = (sh_i μ ((263 + 6 * (Int32.toNatClampNeg 0)) + 1) ((sh_i μ 260 5)).toNatClampNeg)
      · rw [if_pos c52] at h
        obtain ⟨e1, e2⟩ := sh_some2 h
        exact e2 ▸ hF
      · rw [if_neg c52] at h
        obtain ⟨e1, e2⟩ := sh_some2 h
        exact e2 ▸ hF
theorem fpl_X7_goesOnBy {rec : Nat → Int32 → Int32 → Int32 → sh_Mem → Option (Int32 × sh_Mem)} (grec : ∀ ⦃k : Nat⦄ ⦃b1 b2 b3 : Int32⦄ ⦃μ μ' : sh_Mem⦄ ⦃v : Int32⦄, sh_G μ → rec k b1 b2 b3 μ = some (v, μ') → sh_G μ') (frec : ∀ ⦃k : Nat⦄ ⦃b1 b2 b3 : Int32⦄ ⦃μ μ' : sh_Mem⦄ ⦃v : Int32⦄, sh_G μ → rec k b1 b2 b3 μ = some (v, μ') → sh_offM μ μ') (fuel : Nat) : (∀ ⦃i1 : Int32⦄ ⦃i2 : Int32⦄ ⦃i3 : Int32⦄ ⦃i4 : Int32⦄ ⦃i5 : Int32⦄ ⦃μ μ' : sh_Mem⦄ ⦃v : Int32⦄, sh_G μ → F_X7_goesOnBy rec fuel 1 i1 i2 i3 i4 i5 μ = some (v, μ') → sh_offM μ μ') := by
  induction fuel with
  | zero => intro i1 i2 i3 i4 i5 μ μ' v hG h; cases h
  | succ fuel ih =>
    have ih_6 := ih
    intro i1 i2 i3 i4 i5 μ μ' v hG h
    replace h : ((if (sh_r μ 55 0 = some (sh_ref μ 55 0) ∧ ((sh_ref μ 55 0) = 8 ∨ (sh_ref μ 55 0) = 29)) then sh_let (sh_ref μ 55 0) (fun r39 => (if (sh_i μ r39 2) ≤ i5 then some (0, μ) else (if i4 = 0 then (if sh_in (i2 + 1) 4 then (if sh_in i2 4 then sh_bindv (f_X3_copyFrom (263 + 6 * ((i2 + 1)).toNatClampNeg) (263 + 6 * i2.toNatClampNeg) μ) (fun μ44 => (if sh_in (i2 + 1) 4 then sh_bind (f_X10_asked (263 + 6 * ((i2 + 1)).toNatClampNeg) i1 i5 μ44) (fun y50 μ48 => (if y50 = 2 then (if sh_in i2 3 then sh_let (sh_setI μ48 262 i2.toNatClampNeg ((8 * i1) + i5)) (fun μ53 => sh_bind (rec 0 (i2 + 1) i3 0 μ53) (fun y56 μ54 => (if y56 = 0 then F_X7_goesOnBy rec fuel 1 i1 i2 i3 1 (i5 + 1) μ54 else some (1, μ54)))) else none) else F_X7_goesOnBy rec fuel 1 i1 i2 i3 i4 (i5 + 1) μ48)) else none)) else none) else none) else (if (sh_i μ 260 6) = 0 then some (0, μ) else (if sh_in (i2 + 1) 4 then (if sh_in i2 4 then sh_bindv (f_X3_copyFrom (263 + 6 * ((i2 + 1)).toNatClampNeg) (263 + 6 * i2.toNatClampNeg) μ) (fun μ61 => (if sh_in (i2 + 1) 4 then sh_bind (f_X10_asked (263 + 6 * ((i2 + 1)).toNatClampNeg) i1 i5 μ61) (fun y67 μ65 => (if y67 = 2 then (if sh_in i2 3 then sh_let (sh_setI μ65 262 i2.toNatClampNeg ((8 * i1) + i5)) (fun μ70 => sh_bind (rec 0 (i2 + 1) i3 0 μ70) (fun y73 μ71 => (if y73 = 0 then F_X7_goesOnBy rec fuel 1 i1 i2 i3 1 (i5 + 1) μ71 else some (1, μ71)))) else none) else F_X7_goesOnBy rec fuel 1 i1 i2 i3 i4 (i5 + 1) μ65)) else none)) else none) else none))))) else none) : Option (Int32 × sh_Mem)) = some (v, μ') := h
    have hF : sh_offM μ μ := sh_offM.rf
    obtain ⟨k38, h⟩ := sh_chk h
    obtain ⟨r39, er39⟩ : ∃ y : Nat, y = (sh_ref μ 55 0) := ⟨_, rfl⟩
    rw [sh_let_eq er39] at h
    have k38r : sh_r μ 55 0 = some r39 ∧ (r39 = 8 ∨ r39 = 29) := by rw [er39]; exact k38
    by_cases c40 : (sh_i μ r39 2) ≤ i5
    · rw [if_pos c40] at h
      obtain ⟨e1, e2⟩ := sh_some2 h
      exact e2 ▸ hF
    · rw [if_neg c40] at h
      by_cases c41 : i4 = 0
      · rw [if_pos c41] at h
        obtain ⟨k42, h⟩ := sh_chk h
        obtain ⟨k43, h⟩ := sh_chk h
        obtain ⟨μ44, hr45, h⟩ := sh_bindv_e h
        have hG44 := gp_X3_copyFrom hG (gRL_261 k42) (gRL_261 k43) hr45
        have hF44 := hF.trans (fp_X3_copyFrom hG (gRL_261 k42) (gRL_261 k43) hr45)
        obtain ⟨k47, h⟩ := sh_chk h
        obtain ⟨y50, μ48, hr49, h⟩ := sh_bind_e h
        have hG48 := gp_X10_asked hG44 (gRL_261 k47) hr49
        have hF48 := hF44.trans (fp_X10_asked hG44 (gRL_261 k47) hr49)
        by_cases c51 : y50 = 2
        · rw [if_pos c51] at h
          obtain ⟨k52, h⟩ := sh_chk h
          obtain ⟨μ53, eμ53⟩ : ∃ y : sh_Mem, y = (sh_setI μ48 262 i2.toNatClampNeg ((8 * i1) + i5)) := ⟨_, rfl⟩
          rw [sh_let_eq eμ53] at h
          have hG53 : sh_G μ53 := by rw [eμ53]; exact hG48
          have hF53 : sh_offM μ μ53 := by rw [eμ53]; exact sh_offM_I hF48 (by decide)
          obtain ⟨y56, μ54, hr55, h⟩ := sh_bind_e h
          have hG54 := grec hG53 hr55
          have hF54 := hF53.trans (frec hG53 hr55)
          by_cases c57 : y56 = 0
          · rw [if_pos c57] at h
            exact hF54.trans (ih_6 hG54 h)
          · rw [if_neg c57] at h
            obtain ⟨e1, e2⟩ := sh_some2 h
            exact e2 ▸ hF54
        · rw [if_neg c51] at h
          exact hF48.trans (ih_6 hG48 h)
      · rw [if_neg c41] at h
        by_cases c58 : (sh_i μ 260 6) = 0
        · rw [if_pos c58] at h
          obtain ⟨e1, e2⟩ := sh_some2 h
          exact e2 ▸ hF
        · rw [if_neg c58] at h
          obtain ⟨k59, h⟩ := sh_chk h
          obtain ⟨k60, h⟩ := sh_chk h
          obtain ⟨μ61, hr62, h⟩ := sh_bindv_e h
          have hG61 := gp_X3_copyFrom hG (gRL_261 k59) (gRL_261 k60) hr62
          have hF61 := hF.trans (fp_X3_copyFrom hG (gRL_261 k59) (gRL_261 k60) hr62)
          obtain ⟨k64, h⟩ := sh_chk h
          obtain ⟨y67, μ65, hr66, h⟩ := sh_bind_e h
          have hG65 := gp_X10_asked hG61 (gRL_261 k64) hr66
          have hF65 := hF61.trans (fp_X10_asked hG61 (gRL_261 k64) hr66)
          by_cases c68 : y67 = 2
          · rw [if_pos c68] at h
            obtain ⟨k69, h⟩ := sh_chk h
            obtain ⟨μ70, eμ70⟩ : ∃ y : sh_Mem, y = (sh_setI μ65 262 i2.toNatClampNeg ((8 * i1) + i5)) := ⟨_, rfl⟩
            rw [sh_let_eq eμ70] at h
            have hG70 : sh_G μ70 := by rw [eμ70]; exact hG65
            have hF70 : sh_offM μ μ70 := by rw [eμ70]; exact sh_offM_I hF65 (by decide)
            obtain ⟨y73, μ71, hr72, h⟩ := sh_bind_e h
            have hG71 := grec hG70 hr72
            have hF71 := hF70.trans (frec hG70 hr72)
            by_cases c74 : y73 = 0
            · rw [if_pos c74] at h
              exact hF71.trans (ih_6 hG71 h)
            · rw [if_neg c74] at h
              obtain ⟨e1, e2⟩ := sh_some2 h
              exact e2 ▸ hF71
          · rw [if_neg c68] at h
            exact hF65.trans (ih_6 hG65 h)
theorem fp_X7_goesOnBy {rec : Nat → Int32 → Int32 → Int32 → sh_Mem → Option (Int32 × sh_Mem)} {a1 : Int32} {a2 : Int32} {a3 : Int32} {μ μ' : sh_Mem} {v : Int32}  (grec : ∀ ⦃k : Nat⦄ ⦃b1 b2 b3 : Int32⦄ ⦃μ μ' : sh_Mem⦄ ⦃v : Int32⦄, sh_G μ → rec k b1 b2 b3 μ = some (v, μ') → sh_G μ') (frec : ∀ ⦃k : Nat⦄ ⦃b1 b2 b3 : Int32⦄ ⦃μ μ' : sh_Mem⦄ ⦃v : Int32⦄, sh_G μ → rec k b1 b2 b3 μ = some (v, μ') → sh_offM μ μ')(hG : sh_G μ) (h : f_X7_goesOnBy rec a1 a2 a3 μ = some (v, μ')) : sh_offM μ μ' := by
  have ih_6 := (fpl_X7_goesOnBy grec frec sh_fuel)
  have hF : sh_offM μ μ := sh_offM.rf
  unfold f_X7_goesOnBy at h
  exact hF.trans (ih_6 hG h)
theorem Gf_X7 (dd : Nat) : ∀ ⦃k : Nat⦄ ⦃b1 b2 b3 : Int32⦄ ⦃μ μ' : sh_Mem⦄ ⦃v : Int32⦄, sh_G μ → G_X7 dd k b1 b2 b3 μ = some (v, μ') → sh_offM μ μ' := by
  induction dd with
  | zero => intro k b1 b2 b3 μ μ' v hG h; cases h
  | succ dd ih =>
    intro k b1 b2 b3 μ μ' v hG h
    match k, h with
    | 0, h => exact fp_X7_goesOn (Gg_X7 dd) ih hG h
    | 1, h => exact fp_X7_goesOnBy (Gg_X7 dd) ih hG h
    | n + 2, h => cases h
theorem fp_X7_goesOn_top {b1 : Int32} {b2 : Int32} {μ μ' : sh_Mem} {v : Int32} (hG : sh_G μ) (h : f_X7_goesOn_top b1 b2 μ = some (v, μ')) : sh_offM μ μ' := Gf_X7 16 hG h
theorem fp_X7_goesOnBy_top {b1 : Int32} {b2 : Int32} {b3 : Int32} {μ μ' : sh_Mem} {v : Int32} (hG : sh_G μ) (h : f_X7_goesOnBy_top b1 b2 b3 μ = some (v, μ')) : sh_offM μ μ' := Gf_X7 16 hG h
theorem fpl_X0_behind (fuel : Nat) : (∀ ⦃r1 : Nat⦄ ⦃i2 : Int32⦄ ⦃i3 : Int32⦄ ⦃i4 : Int32⦄ ⦃μ μ' : sh_Mem⦄, sh_G μ → sh_isL r1 → F_X0_behind fuel 1 r1 i2 i3 i4 μ = some μ' → sh_offM μ μ') := by
  induction fuel with
  | zero => intro r1 i2 i3 i4 μ μ' hG hr1 h; cases h
  | succ fuel ih =>
    have ih_11 := ih
    intro r1 i2 i3 i4 μ μ' hG hr1 h
    replace h : ((if i2 ≤ i4 then some μ else sh_bindv (f_X10_passDay 209 i3 μ) (fun μ9 => F_X0_behind fuel 1 r1 i2 i3 (i4 + 1) μ9)) : Option sh_Mem) = some μ' := h
    have hF : sh_offM μ μ := sh_offM.rf
    by_cases c8 : i2 ≤ i4
    · rw [if_pos c8] at h
      have e2 := Option.some.inj h
      exact e2 ▸ hF
    · rw [if_neg c8] at h
      obtain ⟨μ9, hr10, h⟩ := sh_bindv_e h
      have hG9 := gp_X10_passDay hG sh_isL_209 hr10
      have hF9 := hF.trans (fp_X10_passDay hG sh_isL_209 hr10)
      exact hF9.trans (ih_11 hG9 hr1 h)
theorem fp_X0_behind {q1 : Nat} {a2 : Int32} {a3 : Int32} {μ μ' : sh_Mem} (hG : sh_G μ) (hq1 : sh_isL q1) (h : f_X0_behind q1 a2 a3 μ = some μ') : sh_offM μ μ' := by
  have ih_11 := (fpl_X0_behind sh_fuel)
  have hF : sh_offM μ μ := sh_offM.rf
  unfold f_X0_behind at h
  obtain ⟨μ12, hr13, h⟩ := sh_bindv_e h
  have hG12 := gp_X3_copyFrom hG sh_isL_209 hq1 hr13
  have hF12 := hF.trans (fp_X3_copyFrom hG sh_isL_209 hq1 hr13)
  exact hF12.trans (ih_11 hG12 hq1 h)
theorem fpl_X0_daysToRise (fuel : Nat) : (∀ ⦃r1 : Nat⦄ ⦃i2 : Int32⦄ ⦃i3 : Int32⦄ ⦃i4 : Int32⦄ ⦃μ μ' : sh_Mem⦄ ⦃v : Int32⦄, sh_G μ → sh_isL r1 → F_X0_daysToRise fuel 1 r1 i2 i3 i4 μ = some (v, μ') → sh_offM μ μ') := by
  induction fuel with
  | zero => intro r1 i2 i3 i4 μ μ' v hG hr1 h; cases h
  | succ fuel ih =>
    have ih_11 := ih
    intro r1 i2 i3 i4 μ μ' v hG hr1 h
    replace h : ((if 60 < i4 then some ((-1), μ) else (if 999 < (sh_i μ 209 0) then some ((-1), μ) else (if sh_in i2 49 then (if (sh_i μ 210 i2.toNatClampNeg) < i3 then sh_bindv (f_X10_passDay 209 0 μ) (fun μ15 => F_X0_daysToRise fuel 1 r1 i2 i3 (i4 + 1) μ15) else some (i4, μ)) else none))) : Option (Int32 × sh_Mem)) = some (v, μ') := h
    have hF : sh_offM μ μ := sh_offM.rf
    by_cases c11 : 60 < i4
    · rw [if_pos c11] at h
      obtain ⟨e1, e2⟩ := sh_some2 h
      exact e2 ▸ hF
    · rw [if_neg c11] at h
      by_cases c12 : 999 < (sh_i μ 209 0)
      · rw [if_pos c12] at h
        obtain ⟨e1, e2⟩ := sh_some2 h
        exact e2 ▸ hF
      · rw [if_neg c12] at h
        obtain ⟨k13, h⟩ := sh_chk h
        by_cases c14 : (sh_i μ 210 i2.toNatClampNeg) < i3
        · rw [if_pos c14] at h
          obtain ⟨μ15, hr16, h⟩ := sh_bindv_e h
          have hG15 := gp_X10_passDay hG sh_isL_209 hr16
          have hF15 := hF.trans (fp_X10_passDay hG sh_isL_209 hr16)
          exact hF15.trans (ih_11 hG15 hr1 h)
        · rw [if_neg c14] at h
          obtain ⟨e1, e2⟩ := sh_some2 h
          exact e2 ▸ hF
theorem fp_X0_daysToRise {q1 : Nat} {a2 : Int32} {a3 : Int32} {μ μ' : sh_Mem} {v : Int32} (hG : sh_G μ) (hq1 : sh_isL q1) (h : f_X0_daysToRise q1 a2 a3 μ = some (v, μ')) : sh_offM μ μ' := by
  have ih_11 := (fpl_X0_daysToRise sh_fuel)
  have hF : sh_offM μ μ := sh_offM.rf
  unfold f_X0_daysToRise at h
  obtain ⟨μ18, hr19, h⟩ := sh_bindv_e h
  have hG18 := gp_X3_copyFrom hG sh_isL_209 hq1 hr19
  have hF18 := hF.trans (fp_X3_copyFrom hG sh_isL_209 hq1 hr19)
  exact hF18.trans (ih_11 hG18 hq1 h)
theorem fpl_X0_askEach (fuel : Nat) : (∀ ⦃r1 : Nat⦄ ⦃i2 : Int32⦄ ⦃i3 : Int32⦄ ⦃μ μ' : sh_Mem⦄, sh_G μ → sh_isL r1 → F_X0_askEach fuel 1 r1 i2 i3 μ = some μ' → sh_offM μ μ') := by
  induction fuel with
  | zero => intro r1 i2 i3 μ μ' hG hr1 h; cases h
  | succ fuel ih =>
    have ih_2 := ih
    intro r1 i2 i3 μ μ' hG hr1 h
    replace h : ((if (sh_r μ 55 0 = some (sh_ref μ 55 0) ∧ ((sh_ref μ 55 0) = 8 ∨ (sh_ref μ 55 0) = 29)) then sh_let (sh_ref μ 55 0) (fun r13 => (if (sh_i μ r13 3) ≤ i3 then some μ else (if sh_in i3 7 then sh_bindv (f_X3_copyFrom (218 + 6 * i3.toNatClampNeg) r1 μ) (fun μ16 => (if sh_in i3 7 then sh_bind (f_X10_asked (218 + 6 * i3.toNatClampNeg) i3 i2 μ16) (fun y22 μ20 => F_X0_askEach fuel 1 r1 i2 (i3 + 1) μ20) else none)) else none))) else none) : Option sh_Mem) = some μ' := h
    have hF : sh_offM μ μ := sh_offM.rf
    obtain ⟨k12, h⟩ := sh_chk h
    obtain ⟨r13, er13⟩ : ∃ y : Nat, y = (sh_ref μ 55 0) := ⟨_, rfl⟩
    rw [sh_let_eq er13] at h
    have k12r : sh_r μ 55 0 = some r13 ∧ (r13 = 8 ∨ r13 = 29) := by rw [er13]; exact k12
    by_cases c14 : (sh_i μ r13 3) ≤ i3
    · rw [if_pos c14] at h
      have e2 := Option.some.inj h
      exact e2 ▸ hF
    · rw [if_neg c14] at h
      obtain ⟨k15, h⟩ := sh_chk h
      obtain ⟨μ16, hr17, h⟩ := sh_bindv_e h
      have hG16 := gp_X3_copyFrom hG (gRL_215 k15) hr1 hr17
      have hF16 := hF.trans (fp_X3_copyFrom hG (gRL_215 k15) hr1 hr17)
      obtain ⟨k19, h⟩ := sh_chk h
      obtain ⟨y22, μ20, hr21, h⟩ := sh_bind_e h
      have hG20 := gp_X10_asked hG16 (gRL_215 k19) hr21
      have hF20 := hF16.trans (fp_X10_asked hG16 (gRL_215 k19) hr21)
      exact hF20.trans (ih_2 hG20 hr1 h)
theorem fp_X0_askEach {q1 : Nat} {a2 : Int32} {μ μ' : sh_Mem} (hG : sh_G μ) (hq1 : sh_isL q1) (h : f_X0_askEach q1 a2 μ = some μ') : sh_offM μ μ' := by
  have ih_2 := (fpl_X0_askEach sh_fuel)
  have hF : sh_offM μ μ := sh_offM.rf
  unfold f_X0_askEach at h
  exact hF.trans (ih_2 hG hq1 h)
theorem fpl_X0_whoFits (fuel : Nat) : (∀ ⦃r1 : Nat⦄ ⦃i2 : Int32⦄ ⦃i3 : Int32⦄ ⦃i4 : Int32⦄ ⦃i5 : Int32⦄ ⦃μ μ' : sh_Mem⦄ ⦃v : Int32⦄, sh_G μ → sh_isL r1 → F_X0_whoFits fuel 1 r1 i2 i3 i4 i5 μ = some (v, μ') → sh_offM μ μ') ∧ (∀ ⦃r1 : Nat⦄ ⦃i2 : Int32⦄ ⦃i3 : Int32⦄ ⦃i4 : Int32⦄ ⦃i5 : Int32⦄ ⦃μ μ' : sh_Mem⦄ ⦃v : Int32⦄, sh_G μ → sh_isL r1 → F_X0_whoFits fuel 2 r1 i2 i3 i4 i5 μ = some (v, μ') → sh_offM μ μ') := by
  induction fuel with
  | zero => exact ⟨(by intro r1 i2 i3 i4 i5 μ μ' v hG hr1 h; cases h), (by intro r1 i2 i3 i4 i5 μ μ' v hG hr1 h; cases h)⟩
  | succ fuel ih =>
    obtain ⟨ih_33, ih_43⟩ := ih
    refine ⟨?_, ?_⟩
    · intro r1 i2 i3 i4 i5 μ μ' v hG hr1 h
      replace h : ((if 30 < i4 then some (i3, μ) else F_X0_whoFits fuel 2 r1 i2 i3 i4 0 μ) : Option (Int32 × sh_Mem)) = some (v, μ') := h
      have hF : sh_offM μ μ := sh_offM.rf
      by_cases c44 : 30 < i4
      · rw [if_pos c44] at h
        obtain ⟨e1, e2⟩ := sh_some2 h
        exact e2 ▸ hF
      · rw [if_neg c44] at h
        exact hF.trans (ih_43 hG hr1 h)
    · intro r1 i2 i3 i4 i5 μ μ' v hG hr1 h
      replace h : ((if (sh_r μ 55 0 = some (sh_ref μ 55 0) ∧ ((sh_ref μ 55 0) = 8 ∨ (sh_ref μ 55 0) = 29)) then sh_let (sh_ref μ 55 0) (fun r46 => (if (sh_i μ r46 3) ≤ i5 then F_X0_whoFits fuel 1 r1 i2 i3 (i4 + 1) 0 μ else (if sh_in i5 7 then sh_bind (f_X0_isAsSeen (218 + 6 * i5.toNatClampNeg) i4 μ) (fun y51 μ49 => (if y51 = 0 then sh_let ((i3 &&& (((1 : Int32) <<< (i5 &&& 31)) ^^^ (-1))) : Int32) (fun x57 => (if sh_in i5 7 then sh_bindv (f_X10_passDay (218 + 6 * i5.toNatClampNeg) 0 μ49) (fun μ59 => F_X0_whoFits fuel 2 r1 i2 x57 i4 (i5 + 1) μ59) else none)) else (if sh_in i5 7 then sh_bindv (f_X10_passDay (218 + 6 * i5.toNatClampNeg) 0 μ49) (fun μ54 => F_X0_whoFits fuel 2 r1 i2 i3 i4 (i5 + 1) μ54) else none))) else none))) else none) : Option (Int32 × sh_Mem)) = some (v, μ') := h
      have hF : sh_offM μ μ := sh_offM.rf
      obtain ⟨k45, h⟩ := sh_chk h
      obtain ⟨r46, er46⟩ : ∃ y : Nat, y = (sh_ref μ 55 0) := ⟨_, rfl⟩
      rw [sh_let_eq er46] at h
      have k45r : sh_r μ 55 0 = some r46 ∧ (r46 = 8 ∨ r46 = 29) := by rw [er46]; exact k45
      by_cases c47 : (sh_i μ r46 3) ≤ i5
      · rw [if_pos c47] at h
        exact hF.trans (ih_33 hG hr1 h)
      · rw [if_neg c47] at h
        obtain ⟨k48, h⟩ := sh_chk h
        obtain ⟨y51, μ49, hr50, h⟩ := sh_bind_e h
        have hG49 := gp_X0_isAsSeen hG (gRL_215 k48) hr50
        have hF49 := hF.trans (fp_X0_isAsSeen hG (gRL_215 k48) hr50)
        by_cases c52 : y51 = 0
        · rw [if_pos c52] at h
          obtain ⟨x57, ex57⟩ : ∃ y : Int32, y = (i3 &&& (((1 : Int32) <<< (i5 &&& 31)) ^^^ (-1))) := ⟨_, rfl⟩
          rw [sh_let_eq ex57] at h
          obtain ⟨k58, h⟩ := sh_chk h
          obtain ⟨μ59, hr60, h⟩ := sh_bindv_e h
          have hG59 := gp_X10_passDay hG49 (gRL_215 k58) hr60
          have hF59 := hF49.trans (fp_X10_passDay hG49 (gRL_215 k58) hr60)
          exact hF59.trans (ih_43 hG59 hr1 h)
        · rw [if_neg c52] at h
          obtain ⟨k53, h⟩ := sh_chk h
          obtain ⟨μ54, hr55, h⟩ := sh_bindv_e h
          have hG54 := gp_X10_passDay hG49 (gRL_215 k53) hr55
          have hF54 := hF49.trans (fp_X10_passDay hG49 (gRL_215 k53) hr55)
          exact hF54.trans (ih_43 hG54 hr1 h)
theorem fp_X0_whoFits {q1 : Nat} {a2 : Int32} {μ μ' : sh_Mem} {v : Int32} (hG : sh_G μ) (hq1 : sh_isL q1) (h : f_X0_whoFits q1 a2 μ = some (v, μ')) : sh_offM μ μ' := by
  have ih_33 := (fpl_X0_whoFits sh_fuel).1
  have ih_43 := (fpl_X0_whoFits sh_fuel).2
  have hF : sh_offM μ μ := sh_offM.rf
  unfold f_X0_whoFits at h
  obtain ⟨k62, h⟩ := sh_chk h
  obtain ⟨r63, er63⟩ : ∃ y : Nat, y = (sh_ref μ 55 0) := ⟨_, rfl⟩
  rw [sh_let_eq er63] at h
  have k62r : sh_r μ 55 0 = some r63 ∧ (r63 = 8 ∨ r63 = 29) := by rw [er63]; exact k62
  obtain ⟨x64, ex64⟩ : ∃ y : Int32, y = (((1 : Int32) <<< ((sh_i μ r63 3) &&& 31)) - 1) := ⟨_, rfl⟩
  rw [sh_let_eq ex64] at h
  by_cases c65 : (sh_i μ 208 4) = 0
  · rw [if_pos c65] at h
    obtain ⟨e1, e2⟩ := sh_some2 h
    exact e2 ▸ hF
  · rw [if_neg c65] at h
    obtain ⟨μ66, hr67, h⟩ := sh_bindv_e h
    have hG66 := gp_X0_askEach hG hq1 hr67
    have hF66 := hF.trans (fp_X0_askEach hG hq1 hr67)
    exact hF66.trans (ih_33 hG66 hq1 h)
theorem fpl_X0_findTelling (fuel : Nat) : (∀ ⦃r1 : Nat⦄ ⦃i2 : Int32⦄ ⦃i3 : Int32⦄ ⦃i4 : Int32⦄ ⦃i5 : Int32⦄ ⦃μ μ' : sh_Mem⦄, sh_G μ → sh_isL r1 → F_X0_findTelling fuel 1 r1 i2 i3 i4 i5 μ = some μ' → sh_offM μ μ') ∧ (∀ ⦃r1 : Nat⦄ ⦃i2 : Int32⦄ ⦃i3 : Int32⦄ ⦃i4 : Int32⦄ ⦃i5 : Int32⦄ ⦃μ μ' : sh_Mem⦄, sh_G μ → sh_isL r1 → F_X0_findTelling fuel 2 r1 i2 i3 i4 i5 μ = some μ' → sh_offM μ μ') ∧ (∀ ⦃r1 : Nat⦄ ⦃i2 : Int32⦄ ⦃i3 : Int32⦄ ⦃i4 : Int32⦄ ⦃i5 : Int32⦄ ⦃μ μ' : sh_Mem⦄, sh_G μ → sh_isL r1 → F_X0_findTelling fuel 3 r1 i2 i3 i4 i5 μ = some μ' → sh_offM μ μ') := by
  induction fuel with
  | zero => exact ⟨(by intro r1 i2 i3 i4 i5 μ μ' hG hr1 h; cases h), (by intro r1 i2 i3 i4 i5 μ μ' hG hr1 h; cases h), (by intro r1 i2 i3 i4 i5 μ μ' hG hr1 h; cases h)⟩
  | succ fuel ih =>
    obtain ⟨ih_25, ih_56, ih_116⟩ := ih
    refine ⟨?_, ?_, ?_⟩
    · intro r1 i2 i3 i4 i5 μ μ' hG hr1 h
      replace h : ((if 30 < i4 then some μ else (if 999 < ((sh_i μ r1 0) + i4) then some μ else (if (sh_i μ 208 8) ≤ 1 then some μ else F_X0_findTelling fuel 2 r1 i2 i3 i4 0 μ))) : Option sh_Mem) = some μ' := h
      have hF : sh_offM μ μ := sh_offM.rf
      by_cases c47 : 30 < i4
      · rw [if_pos c47] at h
        have e2 := Option.some.inj h
        exact e2 ▸ hF
      · rw [if_neg c47] at h
        by_cases c48 : 999 < ((sh_i μ r1 0) + i4)
        · rw [if_pos c48] at h
          have e2 := Option.some.inj h
          exact e2 ▸ hF
        · rw [if_neg c48] at h
          by_cases c49 : (sh_i μ 208 8) ≤ 1
          · rw [if_pos c49] at h
            have e2 := Option.some.inj h
            exact e2 ▸ hF
          · rw [if_neg c49] at h
            exact hF.trans (ih_56 hG hr1 h)
    · intro r1 i2 i3 i4 i5 μ μ' hG hr1 h
      replace h : ((if (sh_r μ 55 0 = some (sh_ref μ 55 0) ∧ ((sh_ref μ 55 0) = 8 ∨ (sh_ref μ 55 0) = 29)) then sh_let (sh_ref μ 55 0) (fun r51 => (if (f_X5_cells μ r51) ≤ i5 then F_X0_findTelling fuel 3 r1 i2 i3 i4 0 μ else sh_bind (f_X0_mostLeft i3 i5 μ) (fun y55 μ53 => (if (sh_i μ53 208 8) ≤ y55 then F_X0_findTelling fuel 2 r1 i2 i3 i4 (i5 + 1) μ53 else sh_let (sh_setI μ53 208 6 i4) (fun μ57 => sh_let (sh_setI μ57 208 7 i5) (fun μ58 => sh_let (sh_setI μ58 208 8 y55) (fun μ59 => F_X0_findTelling fuel 2 r1 i2 i3 i4 (i5 + 1) μ59))))))) else none) : Option sh_Mem) = some μ' := h
      have hF : sh_offM μ μ := sh_offM.rf
      obtain ⟨k50, h⟩ := sh_chk h
      obtain ⟨r51, er51⟩ : ∃ y : Nat, y = (sh_ref μ 55 0) := ⟨_, rfl⟩
      rw [sh_let_eq er51] at h
      have k50r : sh_r μ 55 0 = some r51 ∧ (r51 = 8 ∨ r51 = 29) := by rw [er51]; exact k50
      by_cases c52 : (f_X5_cells μ r51) ≤ i5
      · rw [if_pos c52] at h
        exact hF.trans (ih_116 hG hr1 h)
      · rw [if_neg c52] at h
        obtain ⟨y55, μ53, hr54, h⟩ := sh_bind_e h
        have hG53 := gp_X0_mostLeft hG hr54
        have hF53 := hF.trans (fp_X0_mostLeft hG hr54)
        by_cases c56 : (sh_i μ53 208 8) ≤ y55
        · rw [if_pos c56] at h
          exact hF53.trans (ih_56 hG53 hr1 h)
        · rw [if_neg c56] at h
          obtain ⟨μ57, eμ57⟩ : ∃ y : sh_Mem, y = (sh_setI μ53 208 6 i4) := ⟨_, rfl⟩
          rw [sh_let_eq eμ57] at h
          have hG57 : sh_G μ57 := by rw [eμ57]; exact hG53
          have hF57 : sh_offM μ μ57 := by rw [eμ57]; exact sh_offM_I hF53 (by decide)
          obtain ⟨μ58, eμ58⟩ : ∃ y : sh_Mem, y = (sh_setI μ57 208 7 i5) := ⟨_, rfl⟩
          rw [sh_let_eq eμ58] at h
          have hG58 : sh_G μ58 := by rw [eμ58]; exact hG57
          have hF58 : sh_offM μ μ58 := by rw [eμ58]; exact sh_offM_I hF57 (by decide)
          obtain ⟨μ59, eμ59⟩ : ∃ y : sh_Mem, y = (sh_setI μ58 208 8 y55) := ⟨_, rfl⟩
          rw [sh_let_eq eμ59] at h
          have hG59 : sh_G μ59 := by rw [eμ59]; exact hG58
          have hF59 : sh_offM μ μ59 := by rw [eμ59]; exact sh_offM_I hF58 (by decide)
          exact hF59.trans (ih_56 hG59 hr1 h)
    · intro r1 i2 i3 i4 i5 μ μ' hG hr1 h
      replace h : ((if (sh_r μ 55 0 = some (sh_ref μ 55 0) ∧ ((sh_ref μ 55 0) = 8 ∨ (sh_ref μ 55 0) = 29)) then sh_let (sh_ref μ 55 0) (fun r61 => (if (sh_i μ r61 3) ≤ i5 then F_X0_findTelling fuel 1 r1 i2 i3 (i4 + 1) 0 μ else (if sh_in i5 7 then sh_bindv (f_X10_passDay (218 + 6 * i5.toNatClampNeg) 0 μ) (fun μ64 => F_X0_findTelling fuel 3 r1 i2 i3 i4 (i5 + 1) μ64) else none))) else none) : Option sh_Mem) = some μ' := h
      have hF : sh_offM μ μ := sh_offM.rf
      obtain ⟨k60, h⟩ := sh_chk h
      obtain ⟨r61, er61⟩ : ∃ y : Nat, y = (sh_ref μ 55 0) := ⟨_, rfl⟩
      rw [sh_let_eq er61] at h
      have k60r : sh_r μ 55 0 = some r61 ∧ (r61 = 8 ∨ r61 = 29) := by rw [er61]; exact k60
      by_cases c62 : (sh_i μ r61 3) ≤ i5
      · rw [if_pos c62] at h
        exact hF.trans (ih_25 hG hr1 h)
      · rw [if_neg c62] at h
        obtain ⟨k63, h⟩ := sh_chk h
        obtain ⟨μ64, hr65, h⟩ := sh_bindv_e h
        have hG64 := gp_X10_passDay hG (gRL_215 k63) hr65
        have hF64 := hF.trans (fp_X10_passDay hG (gRL_215 k63) hr65)
        exact hF64.trans (ih_116 hG64 hr1 h)
theorem fp_X0_findTelling {q1 : Nat} {a2 : Int32} {a3 : Int32} {μ μ' : sh_Mem} (hG : sh_G μ) (hq1 : sh_isL q1) (h : f_X0_findTelling q1 a2 a3 μ = some μ') : sh_offM μ μ' := by
  have ih_25 := (fpl_X0_findTelling sh_fuel).1
  have ih_56 := (fpl_X0_findTelling sh_fuel).2.1
  have ih_116 := (fpl_X0_findTelling sh_fuel).2.2
  have hF : sh_offM μ μ := sh_offM.rf
  unfold f_X0_findTelling at h
  obtain ⟨μ67, eμ67⟩ : ∃ y : sh_Mem, y = (sh_setI μ 208 6 0) := ⟨_, rfl⟩
  rw [sh_let_eq eμ67] at h
  have hG67 : sh_G μ67 := by rw [eμ67]; exact hG
  have hF67 : sh_offM μ μ67 := by rw [eμ67]; exact sh_offM_I hF (by decide)
  obtain ⟨μ68, eμ68⟩ : ∃ y : sh_Mem, y = (sh_setI μ67 208 7 0) := ⟨_, rfl⟩
  rw [sh_let_eq eμ68] at h
  have hG68 : sh_G μ68 := by rw [eμ68]; exact hG67
  have hF68 : sh_offM μ μ68 := by rw [eμ68]; exact sh_offM_I hF67 (by decide)
  obtain ⟨μ69, eμ69⟩ : ∃ y : sh_Mem, y = (sh_setI μ68 208 8 8) := ⟨_, rfl⟩
  rw [sh_let_eq eμ69] at h
  have hG69 : sh_G μ69 := by rw [eμ69]; exact hG68
  have hF69 : sh_offM μ μ69 := by rw [eμ69]; exact sh_offM_I hF68 (by decide)
  obtain ⟨μ70, hr71, h⟩ := sh_bindv_e h
  have hG70 := gp_X0_askEach hG69 hq1 hr71
  have hF70 := hF69.trans (fp_X0_askEach hG69 hq1 hr71)
  exact hF70.trans (ih_25 hG70 hq1 h)
theorem fpl_X6_read (fuel : Nat) : (∀ ⦃i1 : Int32⦄ ⦃μ μ' : sh_Mem⦄ ⦃v : Int32⦄, sh_G μ → F_X6_read fuel 1 i1 μ = some (v, μ') → sh_offM μ μ') := by
  induction fuel with
  | zero => intro i1 μ μ' v hG h; cases h
  | succ fuel ih =>
    have ih_18 := ih
    intro i1 μ μ' v hG h
    replace h : ((if 80 ≤ i1 then (if (sh_i μ 2 3) = (-1) then some (i1, μ) else sh_bind (f_X8_fails 5 (sh_i μ 2 4) μ) (fun y32 μ30 => some (i1, μ30))) else (if (sh_i μ 2 3) = (-1) then (if (sh_i μ 2 3) = (-1) then some (i1, μ) else sh_bind (f_X8_fails 5 (sh_i μ 2 4) μ) (fun y37 μ35 => some (i1, μ35))) else sh_bind (f_X6_readStatement μ) (fun y40 μ38 => (if y40 = 0 then some ((-1), μ38) else sh_bind (f_X8_takesMark 59 μ38) (fun y44 μ42 => (if y44 = 0 then some ((-1), μ42) else F_X6_read fuel 1 (i1 + 1) μ42)))))) : Option (Int32 × sh_Mem)) = some (v, μ') := h
    have hF : sh_offM μ μ := sh_offM.rf
    by_cases c28 : 80 ≤ i1
    · rw [if_pos c28] at h
      by_cases c29 : (sh_i μ 2 3) = (-1)
      · rw [if_pos c29] at h
        obtain ⟨e1, e2⟩ := sh_some2 h
        exact e2 ▸ hF
      · rw [if_neg c29] at h
        obtain ⟨y32, μ30, hr31, h⟩ := sh_bind_e h
        have hG30 := gp_X8_fails hG hr31
        have hF30 := hF.trans (fp_X8_fails hG hr31)
        obtain ⟨e1, e2⟩ := sh_some2 h
        exact e2 ▸ hF30
    · rw [if_neg c28] at h
      by_cases c33 : (sh_i μ 2 3) = (-1)
      · rw [if_pos c33] at h
        by_cases c34 : (sh_i μ 2 3) = (-1)
        · rw [if_pos c34] at h
          obtain ⟨e1, e2⟩ := sh_some2 h
          exact e2 ▸ hF
        · rw [if_neg c34] at h
          obtain ⟨y37, μ35, hr36, h⟩ := sh_bind_e h
          have hG35 := gp_X8_fails hG hr36
          have hF35 := hF.trans (fp_X8_fails hG hr36)
          obtain ⟨e1, e2⟩ := sh_some2 h
          exact e2 ▸ hF35
      · rw [if_neg c33] at h
        obtain ⟨y40, μ38, hr39, h⟩ := sh_bind_e h
        have hG38 := gp_X6_readStatement hG hr39
        have hF38 := hF.trans (fp_X6_readStatement hG hr39)
        by_cases c41 : y40 = 0
        · rw [if_pos c41] at h
          obtain ⟨e1, e2⟩ := sh_some2 h
          exact e2 ▸ hF38
        · rw [if_neg c41] at h
          obtain ⟨y44, μ42, hr43, h⟩ := sh_bind_e h
          have hG42 := gp_X8_takesMark hG38 hr43
          have hF42 := hF38.trans (fp_X8_takesMark hG38 hr43)
          by_cases c45 : y44 = 0
          · rw [if_pos c45] at h
            obtain ⟨e1, e2⟩ := sh_some2 h
            exact e2 ▸ hF42
          · rw [if_neg c45] at h
            exact hF42.trans (ih_18 hG42 h)
theorem fp_X6_read {μ μ' : sh_Mem} {v : Int32} (hG : sh_G μ) (h : f_X6_read μ = some (v, μ')) : sh_offM μ μ' := by
  have ih_18 := (fpl_X6_read sh_fuel)
  have hF : sh_offM μ μ := sh_offM.rf
  unfold f_X6_read at h
  obtain ⟨k46, h⟩ := sh_chk h
  obtain ⟨r47, er47⟩ : ∃ y : Nat, y = (sh_ref μ 7 2) := ⟨_, rfl⟩
  rw [sh_let_eq er47] at h
  have k46r : sh_r μ 7 2 = some r47 ∧ (r47 = 8 ∨ r47 = 29) := by rw [er47]; exact k46
  obtain ⟨μ48, hr49, h⟩ := sh_bindv_e h
  have hG48 := gp_X5_clear hG k46r.2 hr49
  have hF48 := hF.trans (fp_X5_clear hG k46r.2 hr49)
  obtain ⟨y53, μ51, hr52, h⟩ := sh_bind_e h
  have hG51 := gp_X6_readPlain hG48 hr52
  have hF51 := hF48.trans (fp_X6_readPlain hG48 hr52)
  by_cases c54 : y53 = 0
  · rw [if_pos c54] at h
    obtain ⟨e1, e2⟩ := sh_some2 h
    exact e2 ▸ hF51
  · rw [if_neg c54] at h
    exact hF51.trans (ih_18 hG51 h)
theorem fpl_X7_find (fuel : Nat) : (∀ ⦃r1 : Nat⦄ ⦃i2 : Int32⦄ ⦃i3 : Int32⦄ ⦃i4 : Int32⦄ ⦃i5 : Int32⦄ ⦃μ μ' : sh_Mem⦄ ⦃v : Int32⦄, sh_G μ → sh_isL r1 → F_X7_find fuel 1 r1 i2 i3 i4 i5 μ = some (v, μ') → sh_offM μ μ') := by
  induction fuel with
  | zero => intro r1 i2 i3 i4 i5 μ μ' v hG hr1 h; cases h
  | succ fuel ih =>
    have ih_43 := ih
    intro r1 i2 i3 i4 i5 μ μ' v hG hr1 h
    replace h : ((if 3 < i5 then some ((-1), μ) else sh_bind (f_X7_goesOn_top 0 i5 μ) (fun y23 μ21 => (if y23 = 0 then F_X7_find fuel 1 r1 i2 i3 i4 (i5 + 1) μ21 else some (i5, μ21)))) : Option (Int32 × sh_Mem)) = some (v, μ') := h
    have hF : sh_offM μ μ := sh_offM.rf
    by_cases c20 : 3 < i5
    · rw [if_pos c20] at h
      obtain ⟨e1, e2⟩ := sh_some2 h
      exact e2 ▸ hF
    · rw [if_neg c20] at h
      obtain ⟨y23, μ21, hr22, h⟩ := sh_bind_e h
      have hG21 := gp_X7_goesOn_top hG hr22
      have hF21 := hF.trans (fp_X7_goesOn_top hG hr22)
      by_cases c24 : y23 = 0
      · rw [if_pos c24] at h
        exact hF21.trans (ih_43 hG21 hr1 h)
      · rw [if_neg c24] at h
        obtain ⟨e1, e2⟩ := sh_some2 h
        exact e2 ▸ hF21
theorem fp_X7_find {q1 : Nat} {a2 : Int32} {a3 : Int32} {a4 : Int32} {μ μ' : sh_Mem} {v : Int32} (hG : sh_G μ) (hq1 : sh_isL q1) (h : f_X7_find q1 a2 a3 a4 μ = some (v, μ')) : sh_offM μ μ' := by
  have ih_43 := (fpl_X7_find sh_fuel)
  have hF : sh_offM μ μ := sh_offM.rf
  unfold f_X7_find at h
  obtain ⟨k25, h⟩ := sh_chk h
  obtain ⟨μ26, hr27, h⟩ := sh_bindv_e h
  have hG26 := gp_X3_copyFrom hG (gRL_261 k25) hq1 hr27
  have hF26 := hF.trans (fp_X3_copyFrom hG (gRL_261 k25) hq1 hr27)
  obtain ⟨μ29, eμ29⟩ : ∃ y : sh_Mem, y = (sh_setI μ26 260 3 a2) := ⟨_, rfl⟩
  rw [sh_let_eq eμ29] at h
  have hG29 : sh_G μ29 := by rw [eμ29]; exact hG26
  have hF29 : sh_offM μ μ29 := by rw [eμ29]; exact sh_offM_I hF26 (by decide)
  obtain ⟨μ30, eμ30⟩ : ∃ y : sh_Mem, y = (sh_setI μ29 260 4 a3) := ⟨_, rfl⟩
  rw [sh_let_eq eμ30] at h
  have hG30 : sh_G μ30 := by rw [eμ30]; exact hG29
  have hF30 : sh_offM μ μ30 := by rw [eμ30]; exact sh_offM_I hF29 (by decide)
  obtain ⟨μ31, eμ31⟩ : ∃ y : sh_Mem, y = (sh_setI μ30 260 5 a4) := ⟨_, rfl⟩
  rw [sh_let_eq eμ31] at h
  have hG31 : sh_G μ31 := by rw [eμ31]; exact hG30
  have hF31 : sh_offM μ μ31 := by rw [eμ31]; exact sh_offM_I hF30 (by decide)
  obtain ⟨k32, h⟩ := sh_chk h
  obtain ⟨r33, er33⟩ : ∃ y : Nat, y = (sh_ref μ31 55 0) := ⟨_, rfl⟩
  rw [sh_let_eq er33] at h
  have k32r : sh_r μ31 55 0 = some r33 ∧ (r33 = 8 ∨ r33 = 29) := by rw [er33]; exact k32
  obtain ⟨y36, μ34, hr35, h⟩ := sh_bind_e h
  have hG34 := gp_X5_topicCounts hG31 k32r.2 hr35
  have hF34 := hF31.trans (fp_X5_topicCounts hG31 k32r.2 hr35)
  obtain ⟨k37, h⟩ := sh_chk h
  obtain ⟨μ38, eμ38⟩ : ∃ y : sh_Mem, y = (sh_setI μ34 260 6 y36) := ⟨_, rfl⟩
  rw [sh_let_eq eμ38] at h
  have hG38 : sh_G μ38 := by rw [eμ38]; exact hG34
  have hF38 : sh_offM μ μ38 := by rw [eμ38]; exact sh_offM_I hF34 (by decide)
  exact hF38.trans (ih_43 hG38 hq1 h)
theorem fpl_X10_describe (fuel : Nat) : (∀ ⦃r1 : Nat⦄ ⦃i2 : Int32⦄ ⦃r3 : Nat⦄ ⦃i4 : Int32⦄ ⦃i5 : Int32⦄ ⦃μ μ' : sh_Mem⦄, sh_G μ → sh_isL r1 → sh_LAY[r3]? = some (13, 38) → r3 < 291 → F_X10_describe fuel 1 r1 i2 r3 i4 i5 μ = some μ' → sh_offM μ μ') := by
  induction fuel with
  | zero => intro r1 i2 r3 i4 i5 μ μ' hG hr1 hr3 hr3l h; cases h
  | succ fuel ih =>
    have ih_45 := ih
    intro r1 i2 r3 i4 i5 μ μ' hG hr1 hr3 hr3l h
    replace h : ((if 5 ≤ i5 then some μ else (if sh_in (33 + i5) 38 then sh_let (sh_setI μ r3 ((33 + i5)).toNatClampNeg 0) (fun μ28 => (if i4 = 0 then F_X10_describe fuel 1 r1 i2 r3 i4 (i5 + 1) μ28 else (if (sh_r μ28 55 0 = some (sh_ref μ28 55 0) ∧ ((sh_ref μ28 55 0) = 8 ∨ (sh_ref μ28 55 0) = 29)) then sh_let (sh_ref μ28 55 0) (fun r31 => (if (sh_i μ28 r31 2) ≤ i5 then F_X10_describe fuel 1 r1 i2 r3 i4 (i5 + 1) μ28 else sh_bindv (f_X3_copyFrom 57 r1 μ28) (fun μ33 => sh_bind (f_X10_asked 57 i2 i5 μ33) (fun y38 μ36 => (if sh_in (33 + i5) 38 then sh_let (sh_setI μ36 r3 ((33 + i5)).toNatClampNeg (sh_i μ36 55 1)) (fun μ40 => F_X10_describe fuel 1 r1 i2 r3 i4 (i5 + 1) μ40) else none))))) else none))) else none)) : Option sh_Mem) = some μ' := h
    have hF : sh_offM μ μ := sh_offM.rf
    by_cases c26 : 5 ≤ i5
    · rw [if_pos c26] at h
      have e2 := Option.some.inj h
      exact e2 ▸ hF
    · rw [if_neg c26] at h
      obtain ⟨k27, h⟩ := sh_chk h
      obtain ⟨μ28, eμ28⟩ : ∃ y : sh_Mem, y = (sh_setI μ r3 ((33 + i5)).toNatClampNeg 0) := ⟨_, rfl⟩
      rw [sh_let_eq eμ28] at h
      have hG28 : sh_G μ28 := by rw [eμ28]; exact hG
      have hF28 : sh_offM μ μ28 := by rw [eμ28]; exact sh_offM_I hF hr3l
      by_cases c29 : i4 = 0
      · rw [if_pos c29] at h
        exact hF28.trans (ih_45 hG28 hr1 hr3 hr3l h)
      · rw [if_neg c29] at h
        obtain ⟨k30, h⟩ := sh_chk h
        obtain ⟨r31, er31⟩ : ∃ y : Nat, y = (sh_ref μ28 55 0) := ⟨_, rfl⟩
        rw [sh_let_eq er31] at h
        have k30r : sh_r μ28 55 0 = some r31 ∧ (r31 = 8 ∨ r31 = 29) := by rw [er31]; exact k30
        by_cases c32 : (sh_i μ28 r31 2) ≤ i5
        · rw [if_pos c32] at h
          exact hF28.trans (ih_45 hG28 hr1 hr3 hr3l h)
        · rw [if_neg c32] at h
          obtain ⟨μ33, hr34, h⟩ := sh_bindv_e h
          have hG33 := gp_X3_copyFrom hG28 sh_isL_57 hr1 hr34
          have hF33 := hF28.trans (fp_X3_copyFrom hG28 sh_isL_57 hr1 hr34)
          obtain ⟨y38, μ36, hr37, h⟩ := sh_bind_e h
          have hG36 := gp_X10_asked hG33 sh_isL_57 hr37
          have hF36 := hF33.trans (fp_X10_asked hG33 sh_isL_57 hr37)
          obtain ⟨k39, h⟩ := sh_chk h
          obtain ⟨μ40, eμ40⟩ : ∃ y : sh_Mem, y = (sh_setI μ36 r3 ((33 + i5)).toNatClampNeg (sh_i μ36 55 1)) := ⟨_, rfl⟩
          rw [sh_let_eq eμ40] at h
          have hG40 : sh_G μ40 := by rw [eμ40]; exact hG36
          have hF40 : sh_offM μ μ40 := by rw [eμ40]; exact sh_offM_I hF36 hr3l
          exact hF40.trans (ih_45 hG40 hr1 hr3 hr3l h)
theorem fp_X10_describe {q1 : Nat} {a2 : Int32} {g : Nat} {a4 : Int32} {μ μ' : sh_Mem} (hG : sh_G μ) (hq1 : sh_isL q1) (hg : sh_LAY[g]? = some (13, 38)) (hgl : g < 291) (h : f_X10_describe q1 a2 g a4 μ = some μ') : sh_offM μ μ' := by
  have ih_45 := (fpl_X10_describe sh_fuel)
  have hF : sh_offM μ μ := sh_offM.rf
  unfold f_X10_describe at h
  obtain ⟨μ41, hr42, h⟩ := sh_bindv_e h
  have hG41 := gp_X10_gather hG hq1 hg hr42
  have hF41 := hF.trans (fp_X10_gather hG hq1 hg hgl hr42)
  obtain ⟨μ44, eμ44⟩ : ∃ y : sh_Mem, y = (sh_setI μ41 g (Int32.toNatClampNeg 18) a2) := ⟨_, rfl⟩
  rw [sh_let_eq eμ44] at h
  have hG44 : sh_G μ44 := by rw [eμ44]; exact hG41
  have hF44 : sh_offM μ μ44 := by rw [eμ44]; exact sh_offM_I hF41 hgl
  obtain ⟨k45, h⟩ := sh_chk h
  obtain ⟨μ46, eμ46⟩ : ∃ y : sh_Mem, y = (sh_setI μ44 g (Int32.toNatClampNeg 19) (sh_i μ44 (q1 + 2) a2.toNatClampNeg)) := ⟨_, rfl⟩
  rw [sh_let_eq eμ46] at h
  have hG46 : sh_G μ46 := by rw [eμ46]; exact hG44
  have hF46 : sh_offM μ μ46 := by rw [eμ46]; exact sh_offM_I hF44 hgl
  obtain ⟨k47, h⟩ := sh_chk h
  obtain ⟨μ48, eμ48⟩ : ∃ y : sh_Mem, y = (sh_setI μ46 g (Int32.toNatClampNeg 20) (sh_i μ46 (q1 + 3) a2.toNatClampNeg)) := ⟨_, rfl⟩
  rw [sh_let_eq eμ48] at h
  have hG48 : sh_G μ48 := by rw [eμ48]; exact hG46
  have hF48 : sh_offM μ μ48 := by rw [eμ48]; exact sh_offM_I hF46 hgl
  obtain ⟨k49, h⟩ := sh_chk h
  obtain ⟨μ50, eμ50⟩ : ∃ y : sh_Mem, y = (sh_setI μ48 g (Int32.toNatClampNeg 7) (sh_i μ48 (q1 + 5) a2.toNatClampNeg)) := ⟨_, rfl⟩
  rw [sh_let_eq eμ50] at h
  have hG50 : sh_G μ50 := by rw [eμ50]; exact hG48
  have hF50 : sh_offM μ μ50 := by rw [eμ50]; exact sh_offM_I hF48 hgl
  exact hF50.trans (ih_45 hG50 hq1 hg hgl h)
theorem fp_X11_plain {μ μ' : sh_Mem} {v : Int32} (hG : sh_G μ) (h : f_X11_plain μ = some (v, μ')) : sh_offM μ μ' := by
  have hF : sh_offM μ μ := sh_offM.rf
  unfold f_X11_plain at h
  obtain ⟨y3, μ1, hr2, h⟩ := sh_bind_e h
  have hG1 := gp_X11_takeTape hG hr2
  have hF1 := hF.trans (fp_X11_takeTape hG hr2)
  obtain ⟨μ4, hr5, h⟩ := sh_bindv_e h
  have hG4 := gp_X8_begin hG1 hr5
  have hF4 := hF1.trans (fp_X8_begin hG1 hr5)
  obtain ⟨y9, μ7, hr8, h⟩ := sh_bind_e h
  have hG7 := gp_X6_read hG4 hr8
  have hF7 := hF4.trans (fp_X6_read hG4 hr8)
  obtain ⟨μ10, hr11, h⟩ := sh_bindv_e h
  have hG10 := gp_X11_noteFault hG7 hr11
  have hF10 := hF7.trans (fp_X11_noteFault hG7 hr11)
  by_cases c13 : (sh_i μ10 2 10) = 0
  · rw [if_pos c13] at h
    obtain ⟨k14, h⟩ := sh_chk h
    obtain ⟨r15, er15⟩ : ∃ y : Nat, y = (sh_ref μ10 0 7) := ⟨_, rfl⟩
    rw [sh_let_eq er15] at h
    have k14r : sh_r μ10 0 7 = some r15 ∧ (r15 = 8 ∨ r15 = 29) := by rw [er15]; exact k14
    obtain ⟨k16, h⟩ := sh_chk h
    obtain ⟨r17, er17⟩ : ∃ y : Nat, y = (sh_ref μ10 7 2) := ⟨_, rfl⟩
    rw [sh_let_eq er17] at h
    have k16r : sh_r μ10 7 2 = some r17 ∧ (r17 = 8 ∨ r17 = 29) := by rw [er17]; exact k16
    obtain ⟨μ18, eμ18⟩ : ∃ y : sh_Mem, y = (sh_setR μ10 0 7 (some r17)) := ⟨_, rfl⟩
    rw [sh_let_eq eμ18] at h
    have hG18 : sh_G μ18 := by rw [eμ18]; exact hG10.setR (by decide +kernel)
    have hF18 : sh_offM μ μ18 := by rw [eμ18]; exact sh_offM_R hF10 (by decide)
    obtain ⟨μ19, eμ19⟩ : ∃ y : sh_Mem, y = (sh_setR μ18 7 2 (some r15)) := ⟨_, rfl⟩
    rw [sh_let_eq eμ19] at h
    have hG19 : sh_G μ19 := by rw [eμ19]; exact hG18.setR (by decide +kernel)
    have hF19 : sh_offM μ μ19 := by rw [eμ19]; exact sh_offM_R hF18 (by decide)
    obtain ⟨k20, h⟩ := sh_chk h
    obtain ⟨r21, er21⟩ : ∃ y : Nat, y = (sh_ref μ19 0 7) := ⟨_, rfl⟩
    rw [sh_let_eq er21] at h
    have k20r : sh_r μ19 0 7 = some r21 ∧ (r21 = 8 ∨ r21 = 29) := by rw [er21]; exact k20
    obtain ⟨μ22, eμ22⟩ : ∃ y : sh_Mem, y = (sh_setR μ19 55 0 (some r21)) := ⟨_, rfl⟩
    rw [sh_let_eq eμ22] at h
    have hG22 : sh_G μ22 := by rw [eμ22]; exact hG19.setR (by decide +kernel)
    have hF22 : sh_offM μ μ22 := by rw [eμ22]; exact sh_offM_R hF19 (by decide)
    obtain ⟨k23, h⟩ := sh_chk h
    obtain ⟨r24, er24⟩ : ∃ y : Nat, y = (sh_ref μ22 0 7) := ⟨_, rfl⟩
    rw [sh_let_eq er24] at h
    have k23r : sh_r μ22 0 7 = some r24 ∧ (r24 = 8 ∨ r24 = 29) := by rw [er24]; exact k23
    obtain ⟨μ25, hr26, h⟩ := sh_bindv_e h
    have hG25 := gp_X3_copyFrom hG22 sh_isL_49 (gP_land k23r.2) hr26
    have hF25 := hF22.trans (fp_X3_copyFrom hG22 sh_isL_49 (gP_land k23r.2) hr26)
    obtain ⟨μ28, hr29, h⟩ := sh_bindv_e h
    have hG28 := gp_X4_forget hG25 hr29
    have hF28 := hF25.trans (fp_X4_forget hG25 hr29)
    obtain ⟨μ31, eμ31⟩ : ∃ y : sh_Mem, y = (sh_setI μ28 208 4 0) := ⟨_, rfl⟩
    rw [sh_let_eq eμ31] at h
    have hG31 : sh_G μ31 := by rw [eμ31]; exact hG28
    have hF31 : sh_offM μ μ31 := by rw [eμ31]; exact sh_offM_I hF28 (by decide)
    obtain ⟨e1, e2⟩ := sh_some2 h
    exact e2 ▸ hF31
  · rw [if_neg c13] at h
    obtain ⟨y34, μ32, hr33, h⟩ := sh_bind_e h
    have hG32 := gp_X11_refuseNumber hG10 hr33
    have hF32 := hF10.trans (fp_X11_refuseNumber hG10 hr33)
    obtain ⟨e1, e2⟩ := sh_some2 h
    exact e2 ▸ hF32
theorem fp_X11_later {a1 : Int32} {a2 : Int32} {a3 : Int32} {μ μ' : sh_Mem} {v : Int32} (hG : sh_G μ) (h : f_X11_later a1 a2 a3 μ = some (v, μ')) : sh_offM μ μ' := by
  have hF : sh_offM μ μ := sh_offM.rf
  unfold f_X11_later at h
  obtain ⟨k1, h⟩ := sh_chk h
  obtain ⟨r2, er2⟩ : ∃ y : Nat, y = (sh_ref μ 0 7) := ⟨_, rfl⟩
  rw [sh_let_eq er2] at h
  have k1r : sh_r μ 0 7 = some r2 ∧ (r2 = 8 ∨ r2 = 29) := by rw [er2]; exact k1
  obtain ⟨x3, ex3⟩ : ∃ y : Int32, y = (f_X5_cellAt μ r2 a1 a2) := ⟨_, rfl⟩
  rw [sh_let_eq ex3] at h
  by_cases c4 : x3 = (-1)
  · rw [if_pos c4] at h
    obtain ⟨e1, e2⟩ := sh_some2 h
    exact e2 ▸ hF
  · rw [if_neg c4] at h
    obtain ⟨y7, μ5, hr6, h⟩ := sh_bind_e h
    have hG5 := gp_X11_isAhead hG hr6
    have hF5 := hF.trans (fp_X11_isAhead hG hr6)
    by_cases c8 : y7 = 0
    · rw [if_pos c8] at h
      obtain ⟨e1, e2⟩ := sh_some2 h
      exact e2 ▸ hF5
    · rw [if_neg c8] at h
      obtain ⟨μ9, hr10, h⟩ := sh_bindv_e h
      have hG9 := gp_X0_behind hG5 sh_isL_49 hr10
      have hF9 := hF5.trans (fp_X0_behind hG5 sh_isL_49 hr10)
      obtain ⟨k12, h⟩ := sh_chk h
      obtain ⟨e1, e2⟩ := sh_some2 h
      exact e2 ▸ hF9
theorem fp_X11_tired {a1 : Int32} {a2 : Int32} {μ μ' : sh_Mem} {v : Int32} (hG : sh_G μ) (h : f_X11_tired a1 a2 μ = some (v, μ')) : sh_offM μ μ' := by
  have hF : sh_offM μ μ := sh_offM.rf
  unfold f_X11_tired at h
  obtain ⟨y3, μ1, hr2, h⟩ := sh_bind_e h
  have hG1 := gp_X11_isPerson hG hr2
  have hF1 := hF.trans (fp_X11_isPerson hG hr2)
  by_cases c4 : y3 = 0
  · rw [if_pos c4] at h
    obtain ⟨e1, e2⟩ := sh_some2 h
    exact e2 ▸ hF1
  · rw [if_neg c4] at h
    obtain ⟨y7, μ5, hr6, h⟩ := sh_bind_e h
    have hG5 := gp_X11_isAhead hG1 hr6
    have hF5 := hF1.trans (fp_X11_isAhead hG1 hr6)
    by_cases c8 : y7 = 0
    · rw [if_pos c8] at h
      obtain ⟨e1, e2⟩ := sh_some2 h
      exact e2 ▸ hF5
    · rw [if_neg c8] at h
      obtain ⟨μ9, hr10, h⟩ := sh_bindv_e h
      have hG9 := gp_X0_behind hG5 sh_isL_49 hr10
      have hF9 := hF5.trans (fp_X0_behind hG5 sh_isL_49 hr10)
      obtain ⟨k12, h⟩ := sh_chk h
      obtain ⟨e1, e2⟩ := sh_some2 h
      exact e2 ▸ hF9
theorem fp_X11_rises {a1 : Int32} {a2 : Int32} {a3 : Int32} {μ μ' : sh_Mem} {v : Int32} (hG : sh_G μ) (h : f_X11_rises a1 a2 a3 μ = some (v, μ')) : sh_offM μ μ' := by
  have hF : sh_offM μ μ := sh_offM.rf
  unfold f_X11_rises at h
  obtain ⟨k1, h⟩ := sh_chk h
  obtain ⟨r2, er2⟩ : ∃ y : Nat, y = (sh_ref μ 0 7) := ⟨_, rfl⟩
  rw [sh_let_eq er2] at h
  have k1r : sh_r μ 0 7 = some r2 ∧ (r2 = 8 ∨ r2 = 29) := by rw [er2]; exact k1
  obtain ⟨x3, ex3⟩ : ∃ y : Int32, y = (f_X5_cellAt μ r2 a1 a2) := ⟨_, rfl⟩
  rw [sh_let_eq ex3] at h
  by_cases c4 : x3 = (-1)
  · rw [if_pos c4] at h
    obtain ⟨e1, e2⟩ := sh_some2 h
    exact e2 ▸ hF
  · rw [if_neg c4] at h
    obtain ⟨y7, μ5, hr6, h⟩ := sh_bind_e h
    have hG5 := gp_X0_daysToRise hG sh_isL_49 hr6
    have hF5 := hF.trans (fp_X0_daysToRise hG sh_isL_49 hr6)
    obtain ⟨e1, e2⟩ := sh_some2 h
    exact e2 ▸ hF5
theorem fp_X11_plan {a1 : Int32} {a2 : Int32} {a3 : Int32} {a4 : Int32} {μ μ' : sh_Mem} {v : Int32} (hG : sh_G μ) (h : f_X11_plan a1 a2 a3 a4 μ = some (v, μ')) : sh_offM μ μ' := by
  have hF : sh_offM μ μ := sh_offM.rf
  unfold f_X11_plan at h
  obtain ⟨k1, h⟩ := sh_chk h
  obtain ⟨r2, er2⟩ : ∃ y : Nat, y = (sh_ref μ 0 7) := ⟨_, rfl⟩
  rw [sh_let_eq er2] at h
  have k1r : sh_r μ 0 7 = some r2 ∧ (r2 = 8 ∨ r2 = 29) := by rw [er2]; exact k1
  obtain ⟨y5, μ3, hr4, h⟩ := sh_bind_e h
  have hG3 := gp_X5_cellOf hG k1r.2 hr4
  have hF3 := hF.trans (fp_X5_cellOf hG k1r.2 hr4)
  obtain ⟨k6, h⟩ := sh_chk h
  obtain ⟨r7, er7⟩ : ∃ y : Nat, y = (sh_ref μ3 0 7) := ⟨_, rfl⟩
  rw [sh_let_eq er7] at h
  have k6r : sh_r μ3 0 7 = some r7 ∧ (r7 = 8 ∨ r7 = 29) := by rw [er7]; exact k6
  obtain ⟨y10, μ8, hr9, h⟩ := sh_bind_e h
  have hG8 := gp_X5_cellOf hG3 k6r.2 hr9
  have hF8 := hF3.trans (fp_X5_cellOf hG3 k6r.2 hr9)
  by_cases c11 : y5 = (-1)
  · rw [if_pos c11] at h
    obtain ⟨e1, e2⟩ := sh_some2 h
    exact e2 ▸ hF8
  · rw [if_neg c11] at h
    by_cases c12 : y10 = (-1)
    · rw [if_pos c12] at h
      obtain ⟨e1, e2⟩ := sh_some2 h
      exact e2 ▸ hF8
    · rw [if_neg c12] at h
      by_cases c13 : a2 < 0
      · rw [if_pos c13] at h
        obtain ⟨e1, e2⟩ := sh_some2 h
        exact e2 ▸ hF8
      · rw [if_neg c13] at h
        by_cases c14 : 99 < a2
        · rw [if_pos c14] at h
          obtain ⟨e1, e2⟩ := sh_some2 h
          exact e2 ▸ hF8
        · rw [if_neg c14] at h
          by_cases c15 : (-1) ≤ a4
          · rw [if_pos c15] at h
            obtain ⟨y18, μ16, hr17, h⟩ := sh_bind_e h
            have hG16 := gp_X7_find hG8 sh_isL_49 hr17
            have hF16 := hF8.trans (fp_X7_find hG8 sh_isL_49 hr17)
            by_cases c19 : a4 = (-1)
            · rw [if_pos c19] at h
              obtain ⟨e1, e2⟩ := sh_some2 h
              exact e2 ▸ hF16
            · rw [if_neg c19] at h
              by_cases c20 : y18 ≤ a4
              · rw [if_pos c20] at h
                obtain ⟨e1, e2⟩ := sh_some2 h
                exact e2 ▸ hF16
              · rw [if_neg c20] at h
                obtain ⟨k21, h⟩ := sh_chk h
                obtain ⟨e1, e2⟩ := sh_some2 h
                exact e2 ▸ hF16
          · rw [if_neg c15] at h
            obtain ⟨e1, e2⟩ := sh_some2 h
            exact e2 ▸ hF8
theorem fpl_X11_keeps (fuel : Nat) : (∀ ⦃i1 : Int32⦄ ⦃i2 : Int32⦄ ⦃i3 : Int32⦄ ⦃i4 : Int32⦄ ⦃i5 : Int32⦄ ⦃i6 : Int32⦄ ⦃i7 : Int32⦄ ⦃i8 : Int32⦄ ⦃μ μ' : sh_Mem⦄ ⦃v : Int32⦄, sh_G μ → F_X11_keeps fuel 1 i1 i2 i3 i4 i5 i6 i7 i8 μ = some (v, μ') → sh_offM μ μ') ∧ (∀ ⦃i1 : Int32⦄ ⦃i2 : Int32⦄ ⦃i3 : Int32⦄ ⦃i4 : Int32⦄ ⦃i5 : Int32⦄ ⦃i6 : Int32⦄ ⦃i7 : Int32⦄ ⦃i8 : Int32⦄ ⦃μ μ' : sh_Mem⦄ ⦃v : Int32⦄, sh_G μ → F_X11_keeps fuel 2 i1 i2 i3 i4 i5 i6 i7 i8 μ = some (v, μ') → sh_offM μ μ') := by
  induction fuel with
  | zero => exact ⟨(by intro i1 i2 i3 i4 i5 i6 i7 i8 μ μ' v hG h; cases h), (by intro i1 i2 i3 i4 i5 i6 i7 i8 μ μ' v hG h; cases h)⟩
  | succ fuel ih =>
    obtain ⟨ih_69, ih_84⟩ := ih
    refine ⟨?_, ?_⟩
    · intro i1 i2 i3 i4 i5 i6 i7 i8 μ μ' v hG h
      replace h : ((if (sh_r μ 0 7 = some (sh_ref μ 0 7) ∧ ((sh_ref μ 0 7) = 8 ∨ (sh_ref μ 0 7) = 29)) then sh_let (sh_ref μ 0 7) (fun r61 => (if (sh_i μ r61 3) < i7 then some ((-1), μ) else F_X11_keeps fuel 2 i1 i2 i3 i4 i5 i6 i7 0 μ)) else none) : Option (Int32 × sh_Mem)) = some (v, μ') := h
      have hF : sh_offM μ μ := sh_offM.rf
      obtain ⟨k60, h⟩ := sh_chk h
      obtain ⟨r61, er61⟩ : ∃ y : Nat, y = (sh_ref μ 0 7) := ⟨_, rfl⟩
      rw [sh_let_eq er61] at h
      have k60r : sh_r μ 0 7 = some r61 ∧ (r61 = 8 ∨ r61 = 29) := by rw [er61]; exact k60
      by_cases c62 : (sh_i μ r61 3) < i7
      · rw [if_pos c62] at h
        obtain ⟨e1, e2⟩ := sh_some2 h
        exact e2 ▸ hF
      · rw [if_neg c62] at h
        exact hF.trans (ih_84 hG h)
    · intro i1 i2 i3 i4 i5 i6 i7 i8 μ μ' v hG h
      replace h : ((if (sh_r μ 0 7 = some (sh_ref μ 0 7) ∧ ((sh_ref μ 0 7) = 8 ∨ (sh_ref μ 0 7) = 29)) then sh_let (sh_ref μ 0 7) (fun r64 => (if ((1 : Int32) <<< ((sh_i μ r64 3) &&& 31)) ≤ i8 then F_X11_keeps fuel 1 i1 i2 i3 i4 i5 i6 (i7 + 1) 0 μ else sh_bind (f_J6_bitCount_0f7a4 i8 μ) (fun y68 μ66 => (if y68 = i7 then (if (sh_r μ66 0 7 = some (sh_ref μ66 0 7) ∧ ((sh_ref μ66 0 7) = 8 ∨ (sh_ref μ66 0 7) = 29)) then sh_let (sh_ref μ66 0 7) (fun r71 => sh_bindv (f_X0_behind 49 i3 i8 μ66) (fun μ72 => sh_bind (f_X9_cost r71 209 i4 i5 μ72) (fun y77 μ75 => (if i6 < y77 then F_X11_keeps fuel 2 i1 i2 i3 i4 i5 i6 i7 (i8 + 1) μ75 else some (i8, μ75))))) else none) else F_X11_keeps fuel 2 i1 i2 i3 i4 i5 i6 i7 (i8 + 1) μ66)))) else none) : Option (Int32 × sh_Mem)) = some (v, μ') := h
      have hF : sh_offM μ μ := sh_offM.rf
      obtain ⟨k63, h⟩ := sh_chk h
      obtain ⟨r64, er64⟩ : ∃ y : Nat, y = (sh_ref μ 0 7) := ⟨_, rfl⟩
      rw [sh_let_eq er64] at h
      have k63r : sh_r μ 0 7 = some r64 ∧ (r64 = 8 ∨ r64 = 29) := by rw [er64]; exact k63
      by_cases c65 : ((1 : Int32) <<< ((sh_i μ r64 3) &&& 31)) ≤ i8
      · rw [if_pos c65] at h
        exact hF.trans (ih_69 hG h)
      · rw [if_neg c65] at h
        obtain ⟨y68, μ66, hr67, h⟩ := sh_bind_e h
        have hG66 := gp_J6_bitCount_0f7a4 hG hr67
        have hF66 := hF.trans (fp_J6_bitCount_0f7a4 hG hr67)
        by_cases c69 : y68 = i7
        · rw [if_pos c69] at h
          obtain ⟨k70, h⟩ := sh_chk h
          obtain ⟨r71, er71⟩ : ∃ y : Nat, y = (sh_ref μ66 0 7) := ⟨_, rfl⟩
          rw [sh_let_eq er71] at h
          have k70r : sh_r μ66 0 7 = some r71 ∧ (r71 = 8 ∨ r71 = 29) := by rw [er71]; exact k70
          obtain ⟨μ72, hr73, h⟩ := sh_bindv_e h
          have hG72 := gp_X0_behind hG66 sh_isL_49 hr73
          have hF72 := hF66.trans (fp_X0_behind hG66 sh_isL_49 hr73)
          obtain ⟨y77, μ75, hr76, h⟩ := sh_bind_e h
          have hG75 := gp_X9_cost hG72 k70r.2 sh_isL_209 hr76
          have hF75 := hF72.trans (fp_X9_cost hG72 k70r.2 sh_isL_209 hr76)
          by_cases c78 : i6 < y77
          · rw [if_pos c78] at h
            exact hF75.trans (ih_84 hG75 h)
          · rw [if_neg c78] at h
            obtain ⟨e1, e2⟩ := sh_some2 h
            exact e2 ▸ hF75
        · rw [if_neg c69] at h
          exact hF66.trans (ih_84 hG66 h)
theorem fp_X11_keeps {a1 : Int32} {a2 : Int32} {a3 : Int32} {μ μ' : sh_Mem} {v : Int32} (hG : sh_G μ) (h : f_X11_keeps a1 a2 a3 μ = some (v, μ')) : sh_offM μ μ' := by
  have ih_69 := (fpl_X11_keeps sh_fuel).1
  have ih_84 := (fpl_X11_keeps sh_fuel).2
  have hF : sh_offM μ μ := sh_offM.rf
  unfold f_X11_keeps at h
  obtain ⟨k79, h⟩ := sh_chk h
  obtain ⟨r80, er80⟩ : ∃ y : Nat, y = (sh_ref μ 0 7) := ⟨_, rfl⟩
  rw [sh_let_eq er80] at h
  have k79r : sh_r μ 0 7 = some r80 ∧ (r80 = 8 ∨ r80 = 29) := by rw [er80]; exact k79
  obtain ⟨y83, μ81, hr82, h⟩ := sh_bind_e h
  have hG81 := gp_X5_cellOf hG k79r.2 hr82
  have hF81 := hF.trans (fp_X5_cellOf hG k79r.2 hr82)
  obtain ⟨k84, h⟩ := sh_chk h
  obtain ⟨r85, er85⟩ : ∃ y : Nat, y = (sh_ref μ81 0 7) := ⟨_, rfl⟩
  rw [sh_let_eq er85] at h
  have k84r : sh_r μ81 0 7 = some r85 ∧ (r85 = 8 ∨ r85 = 29) := by rw [er85]; exact k84
  obtain ⟨y88, μ86, hr87, h⟩ := sh_bind_e h
  have hG86 := gp_X5_cellOf hG81 k84r.2 hr87
  have hF86 := hF81.trans (fp_X5_cellOf hG81 k84r.2 hr87)
  by_cases c89 : y83 = (-1)
  · rw [if_pos c89] at h
    obtain ⟨e1, e2⟩ := sh_some2 h
    exact e2 ▸ hF86
  · rw [if_neg c89] at h
    by_cases c90 : y88 = (-1)
    · rw [if_pos c90] at h
      obtain ⟨e1, e2⟩ := sh_some2 h
      exact e2 ▸ hF86
    · rw [if_neg c90] at h
      obtain ⟨y93, μ91, hr92, h⟩ := sh_bind_e h
      have hG91 := gp_X11_isAhead hG86 hr92
      have hF91 := hF86.trans (fp_X11_isAhead hG86 hr92)
      by_cases c94 : y93 = 0
      · rw [if_pos c94] at h
        obtain ⟨e1, e2⟩ := sh_some2 h
        exact e2 ▸ hF91
      · rw [if_neg c94] at h
        obtain ⟨k95, h⟩ := sh_chk h
        obtain ⟨r96, er96⟩ : ∃ y : Nat, y = (sh_ref μ91 0 7) := ⟨_, rfl⟩
        rw [sh_let_eq er96] at h
        have k95r : sh_r μ91 0 7 = some r96 ∧ (r96 = 8 ∨ r96 = 29) := by rw [er96]; exact k95
        obtain ⟨y99, μ97, hr98, h⟩ := sh_bind_e h
        have hG97 := gp_X9_cost hG91 k95r.2 sh_isL_49 hr98
        have hF97 := hF91.trans (fp_X9_cost hG91 k95r.2 sh_isL_49 hr98)
        exact hF97.trans (ih_69 hG97 h)
theorem fpl_X11_rest (fuel : Nat) : (∀ ⦃i1 : Int32⦄ ⦃i2 : Int32⦄ ⦃i3 : Int32⦄ ⦃μ μ' : sh_Mem⦄ ⦃v : Int32⦄, sh_G μ → F_X11_rest fuel 1 i1 i2 i3 μ = some (v, μ') → sh_offM μ μ') ∧ (∀ ⦃i1 : Int32⦄ ⦃i2 : Int32⦄ ⦃i3 : Int32⦄ ⦃μ μ' : sh_Mem⦄ ⦃v : Int32⦄, sh_G μ → F_X11_rest fuel 2 i1 i2 i3 μ = some (v, μ') → sh_offM μ μ') ∧ (∀ ⦃i1 : Int32⦄ ⦃i2 : Int32⦄ ⦃i3 : Int32⦄ ⦃μ μ' : sh_Mem⦄ ⦃v : Int32⦄, sh_G μ → F_X11_rest fuel 3 i1 i2 i3 μ = some (v, μ') → sh_offM μ μ') := by
  induction fuel with
  | zero => exact ⟨(by intro i1 i2 i3 μ μ' v hG h; cases h), (by intro i1 i2 i3 μ μ' v hG h; cases h), (by intro i1 i2 i3 μ μ' v hG h; cases h)⟩
  | succ fuel ih =>
    obtain ⟨ih_15, ih_57, ih_70⟩ := ih
    refine ⟨?_, ?_, ?_⟩
    · intro i1 i2 i3 μ μ' v hG h
      replace h : ((if (sh_r μ 0 7 = some (sh_ref μ 0 7) ∧ ((sh_ref μ 0 7) = 8 ∨ (sh_ref μ 0 7) = 29)) then sh_let (sh_ref μ 0 7) (fun r52 => (if ((1 : Int32) <<< ((sh_i μ r52 3) &&& 31)) ≤ i2 then F_X11_rest fuel 2 i1 0 0 μ else sh_bindv (f_X0_behind 49 i1 i2 μ) (fun μ54 => sh_bindv (f_X0_learnOwnHeights 209 i2 μ54) (fun μ57 => F_X11_rest fuel 1 i1 (i2 + 1) 0 μ57)))) else none) : Option (Int32 × sh_Mem)) = some (v, μ') := h
      have hF : sh_offM μ μ := sh_offM.rf
      obtain ⟨k51, h⟩ := sh_chk h
      obtain ⟨r52, er52⟩ : ∃ y : Nat, y = (sh_ref μ 0 7) := ⟨_, rfl⟩
      rw [sh_let_eq er52] at h
      have k51r : sh_r μ 0 7 = some r52 ∧ (r52 = 8 ∨ r52 = 29) := by rw [er52]; exact k51
      by_cases c53 : ((1 : Int32) <<< ((sh_i μ r52 3) &&& 31)) ≤ i2
      · rw [if_pos c53] at h
        exact hF.trans (ih_57 hG h)
      · rw [if_neg c53] at h
        obtain ⟨μ54, hr55, h⟩ := sh_bindv_e h
        have hG54 := gp_X0_behind hG sh_isL_49 hr55
        have hF54 := hF.trans (fp_X0_behind hG sh_isL_49 hr55)
        obtain ⟨μ57, hr58, h⟩ := sh_bindv_e h
        have hG57 := gp_X0_learnOwnHeights hG54 sh_isL_209 hr58
        have hF57 := hF54.trans (fp_X0_learnOwnHeights hG54 sh_isL_209 hr58)
        exact hF57.trans (ih_15 hG57 h)
    · intro i1 i2 i3 μ μ' v hG h
      replace h : ((if (sh_r μ 0 7 = some (sh_ref μ 0 7) ∧ ((sh_ref μ 0 7) = 8 ∨ (sh_ref μ 0 7) = 29)) then sh_let (sh_ref μ 0 7) (fun r61 => (if (sh_i μ r61 3) < i2 then some ((-1), μ) else F_X11_rest fuel 3 i1 i2 0 μ)) else none) : Option (Int32 × sh_Mem)) = some (v, μ') := h
      have hF : sh_offM μ μ := sh_offM.rf
      obtain ⟨k60, h⟩ := sh_chk h
      obtain ⟨r61, er61⟩ : ∃ y : Nat, y = (sh_ref μ 0 7) := ⟨_, rfl⟩
      rw [sh_let_eq er61] at h
      have k60r : sh_r μ 0 7 = some r61 ∧ (r61 = 8 ∨ r61 = 29) := by rw [er61]; exact k60
      by_cases c62 : (sh_i μ r61 3) < i2
      · rw [if_pos c62] at h
        obtain ⟨e1, e2⟩ := sh_some2 h
        exact e2 ▸ hF
      · rw [if_neg c62] at h
        exact hF.trans (ih_70 hG h)
    · intro i1 i2 i3 μ μ' v hG h
      replace h : ((if (sh_r μ 0 7 = some (sh_ref μ 0 7) ∧ ((sh_ref μ 0 7) = 8 ∨ (sh_ref μ 0 7) = 29)) then sh_let (sh_ref μ 0 7) (fun r64 => (if ((1 : Int32) <<< ((sh_i μ r64 3) &&& 31)) ≤ i3 then F_X11_rest fuel 2 i1 (i2 + 1) 0 μ else sh_bind (f_J6_bitCount_0f7a4 i3 μ) (fun y68 μ66 => (if y68 = i2 then sh_bind (f_X0_isAtRest i3 μ66) (fun y72 μ70 => (if y72 = 0 then F_X11_rest fuel 3 i1 i2 (i3 + 1) μ70 else some (i3, μ70))) else F_X11_rest fuel 3 i1 i2 (i3 + 1) μ66)))) else none) : Option (Int32 × sh_Mem)) = some (v, μ') := h
      have hF : sh_offM μ μ := sh_offM.rf
      obtain ⟨k63, h⟩ := sh_chk h
      obtain ⟨r64, er64⟩ : ∃ y : Nat, y = (sh_ref μ 0 7) := ⟨_, rfl⟩
      rw [sh_let_eq er64] at h
      have k63r : sh_r μ 0 7 = some r64 ∧ (r64 = 8 ∨ r64 = 29) := by rw [er64]; exact k63
      by_cases c65 : ((1 : Int32) <<< ((sh_i μ r64 3) &&& 31)) ≤ i3
      · rw [if_pos c65] at h
        exact hF.trans (ih_57 hG h)
      · rw [if_neg c65] at h
        obtain ⟨y68, μ66, hr67, h⟩ := sh_bind_e h
        have hG66 := gp_J6_bitCount_0f7a4 hG hr67
        have hF66 := hF.trans (fp_J6_bitCount_0f7a4 hG hr67)
        by_cases c69 : y68 = i2
        · rw [if_pos c69] at h
          obtain ⟨y72, μ70, hr71, h⟩ := sh_bind_e h
          have hG70 := gp_X0_isAtRest hG66 hr71
          have hF70 := hF66.trans (fp_X0_isAtRest hG66 hr71)
          by_cases c73 : y72 = 0
          · rw [if_pos c73] at h
            exact hF70.trans (ih_70 hG70 h)
          · rw [if_neg c73] at h
            obtain ⟨e1, e2⟩ := sh_some2 h
            exact e2 ▸ hF70
        · rw [if_neg c69] at h
          exact hF66.trans (ih_70 hG66 h)
theorem fp_X11_rest {a1 : Int32} {μ μ' : sh_Mem} {v : Int32} (hG : sh_G μ) (h : f_X11_rest a1 μ = some (v, μ')) : sh_offM μ μ' := by
  have ih_15 := (fpl_X11_rest sh_fuel).1
  have ih_57 := (fpl_X11_rest sh_fuel).2.1
  have ih_70 := (fpl_X11_rest sh_fuel).2.2
  have hF : sh_offM μ μ := sh_offM.rf
  unfold f_X11_rest at h
  obtain ⟨y76, μ74, hr75, h⟩ := sh_bind_e h
  have hG74 := gp_X11_isAhead hG hr75
  have hF74 := hF.trans (fp_X11_isAhead hG hr75)
  by_cases c77 : y76 = 0
  · rw [if_pos c77] at h
    obtain ⟨e1, e2⟩ := sh_some2 h
    exact e2 ▸ hF74
  · rw [if_neg c77] at h
    exact hF74.trans (ih_15 hG74 h)
theorem fp_X11_who {a1 : Int32} {μ μ' : sh_Mem} {v : Int32} (hG : sh_G μ) (h : f_X11_who a1 μ = some (v, μ')) : sh_offM μ μ' := by
  have hF : sh_offM μ μ := sh_offM.rf
  unfold f_X11_who at h
  obtain ⟨y3, μ1, hr2, h⟩ := sh_bind_e h
  have hG1 := gp_X11_isTopic hG hr2
  have hF1 := hF.trans (fp_X11_isTopic hG hr2)
  by_cases c4 : y3 = 0
  · rw [if_pos c4] at h
    obtain ⟨e1, e2⟩ := sh_some2 h
    exact e2 ▸ hF1
  · rw [if_neg c4] at h
    obtain ⟨y7, μ5, hr6, h⟩ := sh_bind_e h
    have hG5 := gp_X0_whoFits hG1 sh_isL_49 hr6
    have hF5 := hF1.trans (fp_X0_whoFits hG1 sh_isL_49 hr6)
    obtain ⟨e1, e2⟩ := sh_some2 h
    exact e2 ▸ hF5
theorem fp_X11_tells {a1 : Int32} {a2 : Int32} {μ μ' : sh_Mem} {v : Int32} (hG : sh_G μ) (h : f_X11_tells a1 a2 μ = some (v, μ')) : sh_offM μ μ' := by
  have hF : sh_offM μ μ := sh_offM.rf
  unfold f_X11_tells at h
  obtain ⟨y3, μ1, hr2, h⟩ := sh_bind_e h
  have hG1 := gp_X11_isTopic hG hr2
  have hF1 := hF.trans (fp_X11_isTopic hG hr2)
  by_cases c4 : y3 = 0
  · rw [if_pos c4] at h
    obtain ⟨e1, e2⟩ := sh_some2 h
    exact e2 ▸ hF1
  · rw [if_neg c4] at h
    by_cases c5 : a2 < 0
    · rw [if_pos c5] at h
      obtain ⟨e1, e2⟩ := sh_some2 h
      exact e2 ▸ hF1
    · rw [if_neg c5] at h
      by_cases c6 : a2 ≤ 2
      · rw [if_pos c6] at h
        obtain ⟨y9, μ7, hr8, h⟩ := sh_bind_e h
        have hG7 := gp_X0_whoFits hG1 sh_isL_49 hr8
        have hF7 := hF1.trans (fp_X0_whoFits hG1 sh_isL_49 hr8)
        by_cases c10 : y9 = 0
        · rw [if_pos c10] at h
          obtain ⟨e1, e2⟩ := sh_some2 h
          exact e2 ▸ hF7
        · rw [if_neg c10] at h
          obtain ⟨μ11, hr12, h⟩ := sh_bindv_e h
          have hG11 := gp_X0_findTelling hG7 sh_isL_49 hr12
          have hF11 := hF7.trans (fp_X0_findTelling hG7 sh_isL_49 hr12)
          by_cases c14 : a2 = 0
          · rw [if_pos c14] at h
            obtain ⟨e1, e2⟩ := sh_some2 h
            exact e2 ▸ hF11
          · rw [if_neg c14] at h
            by_cases c15 : a2 = 1
            · rw [if_pos c15] at h
              obtain ⟨k16, h⟩ := sh_chk h
              obtain ⟨r17, er17⟩ : ∃ y : Nat, y = (sh_ref μ11 0 7) := ⟨_, rfl⟩
              rw [sh_let_eq er17] at h
              have k16r : sh_r μ11 0 7 = some r17 ∧ (r17 = 8 ∨ r17 = 29) := by rw [er17]; exact k16
              obtain ⟨y20, μ18, hr19, h⟩ := sh_bind_e h
              have hG18 := gp_X5_numberOf hG11 k16r.2 hr19
              have hF18 := hF11.trans (fp_X5_numberOf hG11 k16r.2 hr19)
              obtain ⟨e1, e2⟩ := sh_some2 h
              exact e2 ▸ hF18
            · rw [if_neg c15] at h
              obtain ⟨e1, e2⟩ := sh_some2 h
              exact e2 ▸ hF11
      · rw [if_neg c6] at h
        obtain ⟨e1, e2⟩ := sh_some2 h
        exact e2 ▸ hF1
theorem fp_X11_asks {a1 : Int32} {a2 : Int32} {μ μ' : sh_Mem} {v : Int32} (hG : sh_G μ) (h : f_X11_asks a1 a2 μ = some (v, μ')) : sh_offM μ μ' := by
  have hF : sh_offM μ μ := sh_offM.rf
  unfold f_X11_asks at h
  obtain ⟨y3, μ1, hr2, h⟩ := sh_bind_e h
  have hG1 := gp_X11_isPerson hG hr2
  have hF1 := hF.trans (fp_X11_isPerson hG hr2)
  by_cases c4 : y3 = 0
  · rw [if_pos c4] at h
    obtain ⟨y7, μ5, hr6, h⟩ := sh_bind_e h
    have hG5 := gp_X11_refuseNumber hG1 hr6
    have hF5 := hF1.trans (fp_X11_refuseNumber hG1 hr6)
    obtain ⟨e1, e2⟩ := sh_some2 h
    exact e2 ▸ hF5
  · rw [if_neg c4] at h
    obtain ⟨y10, μ8, hr9, h⟩ := sh_bind_e h
    have hG8 := gp_X11_isTopic hG1 hr9
    have hF8 := hF1.trans (fp_X11_isTopic hG1 hr9)
    by_cases c11 : y10 = 0
    · rw [if_pos c11] at h
      obtain ⟨y20, μ18, hr19, h⟩ := sh_bind_e h
      have hG18 := gp_X11_refuseNumber hG8 hr19
      have hF18 := hF8.trans (fp_X11_refuseNumber hG8 hr19)
      obtain ⟨e1, e2⟩ := sh_some2 h
      exact e2 ▸ hF18
    · rw [if_neg c11] at h
      obtain ⟨μ12, hr13, h⟩ := sh_bindv_e h
      have hG12 := gp_X4_remember hG8 sh_isL_49 hr13
      have hF12 := hF8.trans (fp_X4_remember hG8 sh_isL_49 hr13)
      obtain ⟨y17, μ15, hr16, h⟩ := sh_bind_e h
      have hG15 := gp_X11_askNow hG12 hr16
      have hF15 := hF12.trans (fp_X11_askNow hG12 hr16)
      obtain ⟨e1, e2⟩ := sh_some2 h
      exact e2 ▸ hF15
theorem fpl_X11_days (fuel : Nat) : (∀ ⦃i1 : Int32⦄ ⦃i2 : Int32⦄ ⦃i3 : Int32⦄ ⦃μ μ' : sh_Mem⦄ ⦃v : Int32⦄, sh_G μ → F_X11_days fuel 1 i1 i2 i3 μ = some (v, μ') → sh_offM μ μ') := by
  induction fuel with
  | zero => intro i1 i2 i3 μ μ' v hG h; cases h
  | succ fuel ih =>
    have ih_32 := ih
    intro i1 i2 i3 μ μ' v hG h
    replace h : ((if i1 ≤ i3 then some (i2, μ) else sh_bind (f_X11_dayNow μ) (fun y19 μ17 => sh_let ((i2 + y19) : Int32) (fun x20 => F_X11_days fuel 1 i1 x20 (i3 + 1) μ17))) : Option (Int32 × sh_Mem)) = some (v, μ') := h
    have hF : sh_offM μ μ := sh_offM.rf
    by_cases c16 : i1 ≤ i3
    · rw [if_pos c16] at h
      obtain ⟨e1, e2⟩ := sh_some2 h
      exact e2 ▸ hF
    · rw [if_neg c16] at h
      obtain ⟨y19, μ17, hr18, h⟩ := sh_bind_e h
      have hG17 := gp_X11_dayNow hG hr18
      have hF17 := hF.trans (fp_X11_dayNow hG hr18)
      obtain ⟨x20, ex20⟩ : ∃ y : Int32, y = (i2 + y19) := ⟨_, rfl⟩
      rw [sh_let_eq ex20] at h
      exact hF17.trans (ih_32 hG17 h)
theorem fp_X11_days {a1 : Int32} {μ μ' : sh_Mem} {v : Int32} (hG : sh_G μ) (h : f_X11_days a1 μ = some (v, μ')) : sh_offM μ μ' := by
  have ih_32 := (fpl_X11_days sh_fuel)
  have hF : sh_offM μ μ := sh_offM.rf
  unfold f_X11_days at h
  obtain ⟨y23, μ21, hr22, h⟩ := sh_bind_e h
  have hG21 := gp_X11_isAhead hG hr22
  have hF21 := hF.trans (fp_X11_isAhead hG hr22)
  by_cases c24 : y23 = 0
  · rw [if_pos c24] at h
    obtain ⟨y30, μ28, hr29, h⟩ := sh_bind_e h
    have hG28 := gp_X11_refuseNumber hG21 hr29
    have hF28 := hF21.trans (fp_X11_refuseNumber hG21 hr29)
    obtain ⟨e1, e2⟩ := sh_some2 h
    exact e2 ▸ hF28
  · rw [if_neg c24] at h
    obtain ⟨μ25, hr26, h⟩ := sh_bindv_e h
    have hG25 := gp_X4_remember hG21 sh_isL_49 hr26
    have hF25 := hF21.trans (fp_X4_remember hG21 sh_isL_49 hr26)
    exact hF25.trans (ih_32 hG25 h)
theorem fpl_X11_chance (fuel : Nat) : (∀ ⦃i1 : Int32⦄ ⦃i2 : Int32⦄ ⦃i3 : Int32⦄ ⦃μ μ' : sh_Mem⦄ ⦃v : Int32⦄, sh_G μ → F_X11_chance fuel 1 i1 i2 i3 μ = some (v, μ') → sh_offM μ μ') := by
  induction fuel with
  | zero => intro i1 i2 i3 μ μ' v hG h; cases h
  | succ fuel ih =>
    have ih_32 := ih
    intro i1 i2 i3 μ μ' v hG h
    replace h : ((if i1 ≤ i3 then some (i2, μ) else sh_bind (f_X11_crowdNow μ) (fun y22 μ20 => sh_let ((i2 + y22) : Int32) (fun x23 => sh_bind (f_X11_dayNow μ20) (fun y26 μ24 => F_X11_chance fuel 1 i1 x23 (i3 + 1) μ24)))) : Option (Int32 × sh_Mem)) = some (v, μ') := h
    have hF : sh_offM μ μ := sh_offM.rf
    by_cases c19 : i1 ≤ i3
    · rw [if_pos c19] at h
      obtain ⟨e1, e2⟩ := sh_some2 h
      exact e2 ▸ hF
    · rw [if_neg c19] at h
      obtain ⟨y22, μ20, hr21, h⟩ := sh_bind_e h
      have hG20 := gp_X11_crowdNow hG hr21
      have hF20 := hF.trans (fp_X11_crowdNow hG hr21)
      obtain ⟨x23, ex23⟩ : ∃ y : Int32, y = (i2 + y22) := ⟨_, rfl⟩
      rw [sh_let_eq ex23] at h
      obtain ⟨y26, μ24, hr25, h⟩ := sh_bind_e h
      have hG24 := gp_X11_dayNow hG20 hr25
      have hF24 := hF20.trans (fp_X11_dayNow hG20 hr25)
      exact hF24.trans (ih_32 hG24 h)
theorem fp_X11_chance {a1 : Int32} {μ μ' : sh_Mem} {v : Int32} (hG : sh_G μ) (h : f_X11_chance a1 μ = some (v, μ')) : sh_offM μ μ' := by
  have ih_32 := (fpl_X11_chance sh_fuel)
  have hF : sh_offM μ μ := sh_offM.rf
  unfold f_X11_chance at h
  obtain ⟨y29, μ27, hr28, h⟩ := sh_bind_e h
  have hG27 := gp_X11_isAhead hG hr28
  have hF27 := hF.trans (fp_X11_isAhead hG hr28)
  by_cases c30 : y29 = 0
  · rw [if_pos c30] at h
    obtain ⟨y36, μ34, hr35, h⟩ := sh_bind_e h
    have hG34 := gp_X11_refuseNumber hG27 hr35
    have hF34 := hF27.trans (fp_X11_refuseNumber hG27 hr35)
    obtain ⟨e1, e2⟩ := sh_some2 h
    exact e2 ▸ hF34
  · rw [if_neg c30] at h
    obtain ⟨μ31, hr32, h⟩ := sh_bindv_e h
    have hG31 := gp_X4_remember hG27 sh_isL_49 hr32
    have hF31 := hF27.trans (fp_X4_remember hG27 sh_isL_49 hr32)
    exact hF31.trans (ih_32 hG31 h)
theorem fpl_X11_answer (fuel : Nat) : (∀ ⦃i1 : Int32⦄ ⦃i2 : Int32⦄ ⦃l3 : Int64⦄ ⦃i5 : Int32⦄ ⦃μ μ' : sh_Mem⦄ ⦃v : Int64⦄, sh_G μ → F_X11_answer fuel 1 i1 i2 l3 i5 μ = some (v, μ') → sh_offM μ μ') := by
  induction fuel with
  | zero => intro i1 i2 l3 i5 μ μ' v hG h; cases h
  | succ fuel ih =>
    have ih_33 := ih
    intro i1 i2 l3 i5 μ μ' v hG h
    replace h : ((if (sh_r μ 0 7 = some (sh_ref μ 0 7) ∧ ((sh_ref μ 0 7) = 8 ∨ (sh_ref μ 0 7) = 29)) then sh_let (sh_ref μ 0 7) (fun r19 => (if (sh_i μ r19 3) ≤ i5 then some (l3, μ) else sh_bindv (f_X10_describe 49 i5 28 i2 μ) (fun μ21 => sh_bind (f_X1_value 3 28 μ21) (fun y26 μ24 => sh_bind (f_X11_joined i1 l3 i5 y26 μ24) (fun y29 μ27 => F_X11_answer fuel 1 i1 i2 y29 (i5 + 1) μ27))))) else none) : Option (Int64 × sh_Mem)) = some (v, μ') := h
    have hF : sh_offM μ μ := sh_offM.rf
    obtain ⟨k18, h⟩ := sh_chk h
    obtain ⟨r19, er19⟩ : ∃ y : Nat, y = (sh_ref μ 0 7) := ⟨_, rfl⟩
    rw [sh_let_eq er19] at h
    have k18r : sh_r μ 0 7 = some r19 ∧ (r19 = 8 ∨ r19 = 29) := by rw [er19]; exact k18
    by_cases c20 : (sh_i μ r19 3) ≤ i5
    · rw [if_pos c20] at h
      obtain ⟨e1, e2⟩ := sh_some2 h
      exact e2 ▸ hF
    · rw [if_neg c20] at h
      obtain ⟨μ21, hr22, h⟩ := sh_bindv_e h
      have hG21 := gp_X10_describe hG sh_isL_49 (sh_LAYat_28) hr22
      have hF21 := hF.trans (fp_X10_describe hG sh_isL_49 (sh_LAYat_28) (by decide) hr22)
      obtain ⟨y26, μ24, hr25, h⟩ := sh_bind_e h
      have hG24 := gp_X1_value hG21 sh_isF_3 (sh_LAYat_28) hr25
      have hF24 := hF21.trans (fp_X1_value hG21 sh_isF_3 (sh_LAYat_28) (by decide) hr25)
      obtain ⟨y29, μ27, hr28, h⟩ := sh_bind_e h
      have hG27 := gp_X11_joined hG24 hr28
      have hF27 := hF24.trans (fp_X11_joined hG24 hr28)
      exact hF27.trans (ih_33 hG27 h)
theorem fp_X11_answer {a1 : Int32} {μ μ' : sh_Mem} {v : Int64} (hG : sh_G μ) (h : f_X11_answer a1 μ = some (v, μ')) : sh_offM μ μ' := by
  have ih_33 := (fpl_X11_answer sh_fuel)
  have hF : sh_offM μ μ := sh_offM.rf
  unfold f_X11_answer at h
  obtain ⟨y32, μ30, hr31, h⟩ := sh_bind_e h
  have hG30 := gp_X1_names hG sh_isF_3 hr31
  have hF30 := hF.trans (fp_X1_names hG sh_isF_3 hr31)
  by_cases c33 : a1 = 27
  · rw [if_pos c33] at h
    exact hF30.trans (ih_33 hG30 h)
  · rw [if_neg c33] at h
    by_cases c34 : a1 = 28
    · rw [if_pos c34] at h
      exact hF30.trans (ih_33 hG30 h)
    · rw [if_neg c34] at h
      exact hF30.trans (ih_33 hG30 h)
theorem fp_X11_ask {μ μ' : sh_Mem} {v : Int64} (hG : sh_G μ) (h : f_X11_ask μ = some (v, μ')) : sh_offM μ μ' := by
  have hF : sh_offM μ μ := sh_offM.rf
  unfold f_X11_ask at h
  obtain ⟨y3, μ1, hr2, h⟩ := sh_bind_e h
  have hG1 := gp_X11_takeTape hG hr2
  have hF1 := hF.trans (fp_X11_takeTape hG hr2)
  obtain ⟨y6, μ4, hr5, h⟩ := sh_bind_e h
  have hG4 := gp_X11_isPlain hG1 hr5
  have hF4 := hF1.trans (fp_X11_isPlain hG1 hr5)
  by_cases c7 : y6 = 0
  · rw [if_pos c7] at h
    obtain ⟨e1, e2⟩ := sh_some2 h
    exact e2 ▸ hF4
  · rw [if_neg c7] at h
    obtain ⟨μ8, hr9, h⟩ := sh_bindv_e h
    have hG8 := gp_X8_begin hG4 hr9
    have hF8 := hF4.trans (fp_X8_begin hG4 hr9)
    obtain ⟨y13, μ11, hr12, h⟩ := sh_bind_e h
    have hG11 := gp_X2_readQuestion hG8 sh_isF_3 hr12
    have hF11 := hF8.trans (fp_X2_readQuestion hG8 sh_isF_3 hr12)
    obtain ⟨μ14, hr15, h⟩ := sh_bindv_e h
    have hG14 := gp_X11_noteFault hG11 hr15
    have hF14 := hF11.trans (fp_X11_noteFault hG11 hr15)
    by_cases c17 : (sh_i μ14 2 10) = 0
    · rw [if_pos c17] at h
      obtain ⟨y20, μ18, hr19, h⟩ := sh_bind_e h
      have hG18 := gp_X11_answer hG14 hr19
      have hF18 := hF14.trans (fp_X11_answer hG14 hr19)
      obtain ⟨e1, e2⟩ := sh_some2 h
      exact e2 ▸ hF18
    · rw [if_neg c17] at h
      obtain ⟨e1, e2⟩ := sh_some2 h
      exact e2 ▸ hF14
