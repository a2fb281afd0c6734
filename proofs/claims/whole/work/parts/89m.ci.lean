/-! THE CLASS: without a fault there is no place of one -/
def cI (μ μ' : sh_Mem) : Prop := (sh_i μ 2 10 = 0 → sh_i μ 2 11 = -1) → (sh_i μ' 2 10 = 0 → sh_i μ' 2 11 = -1)
theorem cI.rf {μ : sh_Mem} : cI μ μ := fun h => h
theorem cI.trans {a b c : sh_Mem} (h : cI a b) (g : cI b c) : cI a c := fun z => g (h z)
theorem cI_I {a μ : sh_Mem} {r k : Nat} {x : Int32} (h : cI a μ) (q : ¬ r = 2 ∨ (¬ k = 10 ∧ ¬ k = 11)) : cI a (sh_setI μ r k x) := fun z => by
  rw [sh_i_set, if_neg (by omega), sh_i_set, if_neg (by omega)]
  exact h z
theorem cI_row {a μ : sh_Mem} {r : Nat} {g : Nat → Int32} (h : cI a μ) (q : ¬ r = 2 ∨ (¬ r = 2 ∧ ¬ r = 2)) : cI a (sh_rowI μ r g) := fun z => by
  rw [sh_i_row, if_neg (by omega)]
  exact h z
theorem cI_L {a μ : sh_Mem} {r k : Nat} {x : Int64} (h : cI a μ) : cI a (sh_setL μ r k x) := h
theorem cI_R {a μ : sh_Mem} {r k : Nat} {x : Option Nat} (h : cI a μ) : cI a (sh_setR μ r k x) := h
theorem sh_n21 : ∀ r ∈ sh_LANDS, 3 ≤ r := by decide +kernel
theorem sh_neL {r : Nat} (hr : sh_isL r) (k : Nat) (hk : k ≤ 5) : ¬ r + k = 2 := by have := sh_n21 r hr; omega
theorem sh_n22 : ∀ r ∈ sh_FORMS, 3 ≤ r := by decide +kernel
theorem sh_neF {r : Nat} (hr : sh_isF r) (k : Nat) (hk : k ≤ 2) : ¬ r + k = 2 := by have := sh_n22 r hr; omega
theorem sh_neP {r : Nat} (hr : sh_isP r) (k : Nat) (hk : k ≤ 19) : ¬ r + k = 2 := by rcases hr with rfl | rfl <;> omega
theorem ci_X8_fails {a1 a2 v : Int32} {μ μ' : sh_Mem} (h : f_X8_fails a1 a2 μ = some (v, μ')) (hn : ¬ a1 = 0) : cI μ μ' := fun z => by
  unfold f_X8_fails at h
  by_cases c : sh_i μ 2 10 = 0
  · rw [if_pos c, shl_ap, shl_ap] at h
    have e := (sh_some2 h).2
    rw [← e, ir_set_k (by omega), ir_set]
    exact fun q => absurd q hn
  · rw [if_neg c] at h
    rw [← (sh_some2 h).2]
    exact z
theorem ci_X1_add {f : Nat} {a1 : Int32} {μ μ' : sh_Mem} (hG : sh_G μ) (hf : sh_isF f) (h : f_X1_add f a1 μ = some μ') : cI μ μ' := by
  have hF : cI μ μ := cI.rf
  unfold f_X1_add at h
  by_cases c1 : (Int32.ofNat 1600) ≤ (sh_i μ f 1)
  · rw [if_pos c1] at h
    have e2 := Option.some.inj h
    exact e2 ▸ hF
  · rw [if_neg c1] at h
    obtain ⟨k2, h⟩ := sh_chk h
    obtain ⟨μ3, eμ3⟩ : ∃ y : sh_Mem, y = (sh_setI μ (f + 1) ((sh_i μ f 1)).toNatClampNeg a1) := ⟨_, rfl⟩
    rw [sh_let_eq eμ3] at h
    have hG3 : sh_G μ3 := by rw [eμ3]; exact hG
    have hF3 : cI μ μ3 := by rw [eμ3]; exact cI_I hF (Or.inl <| sh_neF hf 1 (by decide))
    obtain ⟨μ4, eμ4⟩ : ∃ y : sh_Mem, y = (sh_setI μ3 f 1 ((sh_i μ3 f 1) + 1)) := ⟨_, rfl⟩
    rw [sh_let_eq eμ4] at h
    have hG4 : sh_G μ4 := by rw [eμ4]; exact hG3
    have hF4 : cI μ μ4 := by rw [eμ4]; exact cI_I hF3 (Or.inl <| sh_neF hf 0 (by decide))
    have e2 := Option.some.inj h
    exact e2 ▸ hF4
theorem ci_X1_addWord {f : Nat} {a1 : Int32} {μ μ' : sh_Mem} (hG : sh_G μ) (hf : sh_isF f) (h : f_X1_addWord f a1 μ = some μ') : cI μ μ' := by
  have hF : cI μ μ := cI.rf
  unfold f_X1_addWord at h
  obtain ⟨μ1, hr2, h⟩ := sh_bindv_e h
  have hG1 := gp_X1_add hG hf hr2
  have hF1 := hF.trans (ci_X1_add hG hf hr2)
  have e2 := Option.some.inj h
  exact e2 ▸ hF1
theorem ci_X1_addMark {f : Nat} {a1 : Int32} {μ μ' : sh_Mem} (hG : sh_G μ) (hf : sh_isF f) (h : f_X1_addMark f a1 μ = some μ') : cI μ μ' := by
  have hF : cI μ μ := cI.rf
  unfold f_X1_addMark at h
  obtain ⟨μ1, hr2, h⟩ := sh_bindv_e h
  have hG1 := gp_X1_add hG hf hr2
  have hF1 := hF.trans (ci_X1_add hG hf hr2)
  have e2 := Option.some.inj h
  exact e2 ▸ hF1
theorem ci_X2_begin {f1 : Nat} {a2 : Int32} {μ μ' : sh_Mem} (hG : sh_G μ) (hf1 : sh_isF f1) (h : f_X2_begin f1 a2 μ = some μ') : cI μ μ' := by
  have hF : cI μ μ := cI.rf
  unfold f_X2_begin at h
  obtain ⟨μ1, eμ1⟩ : ∃ y : sh_Mem, y = (sh_setR μ 6 1 (some f1)) := ⟨_, rfl⟩
  rw [sh_let_eq eμ1] at h
  have hG1 : sh_G μ1 := by rw [eμ1]; exact hG.setR (by decide +kernel)
  have hF1 : cI μ μ1 := by rw [eμ1]; exact cI_R hF
  obtain ⟨k2, h⟩ := sh_chk h
  obtain ⟨r3, er3⟩ : ∃ y : Nat, y = (sh_ref μ1 6 1) := ⟨_, rfl⟩
  rw [sh_let_eq er3] at h
  have k2r : sh_r μ1 6 1 = some r3 ∧ r3 ∈ sh_FORMS := by rw [er3]; exact k2
  obtain ⟨μ4, eμ4⟩ : ∃ y : sh_Mem, y = (sh_setI μ1 r3 1 0) := ⟨_, rfl⟩
  rw [sh_let_eq eμ4] at h
  have hG4 : sh_G μ4 := by rw [eμ4]; exact hG1
  have hF4 : cI μ μ4 := by rw [eμ4]; exact cI_I hF1 (Or.inl <| sh_neF k2r.2 0 (by decide))
  obtain ⟨μ5, eμ5⟩ : ∃ y : sh_Mem, y = (sh_setI μ4 6 2 a2) := ⟨_, rfl⟩
  rw [sh_let_eq eμ5] at h
  have hG5 : sh_G μ5 := by rw [eμ5]; exact hG4
  have hF5 : cI μ μ5 := by rw [eμ5]; exact cI_I hF4 (by first | exact Or.inl (by decide) | exact Or.inr (by decide))
  have e2 := Option.some.inj h
  exact e2 ▸ hF5
theorem ci_X2_isFactHere {a1 : Int32} {μ μ' : sh_Mem} {v : Int32} (hG : sh_G μ) (h : f_X2_isFactHere a1 μ = some (v, μ')) : cI μ μ' := by
  have hF : cI μ μ := cI.rf
  unfold f_X2_isFactHere at h
  by_cases c1 : a1 = 3
  · rw [if_pos c1] at h
    by_cases c2 : (sh_i μ 6 2) = 2
    · rw [if_pos c2] at h
      obtain ⟨e1, e2⟩ := sh_some2 h
      exact e2 ▸ hF
    · rw [if_neg c2] at h
      obtain ⟨e1, e2⟩ := sh_some2 h
      exact e2 ▸ hF
  rw [if_neg c1] at h
  by_cases c3 : a1 = 4
  · rw [if_pos c3] at h
    obtain ⟨e1, e2⟩ := sh_some2 h
    exact e2 ▸ hF
  rw [if_neg c3] at h
  by_cases c4 : a1 = 5
  · rw [if_pos c4] at h
    obtain ⟨e1, e2⟩ := sh_some2 h
    exact e2 ▸ hF
  rw [if_neg c4] at h
  by_cases c5 : a1 = 6
  · rw [if_pos c5] at h
    obtain ⟨e1, e2⟩ := sh_some2 h
    exact e2 ▸ hF
  rw [if_neg c5] at h
  by_cases c6 : a1 = 7
  · rw [if_pos c6] at h
    obtain ⟨e1, e2⟩ := sh_some2 h
    exact e2 ▸ hF
  rw [if_neg c6] at h
  by_cases c7 : a1 = 8
  · rw [if_pos c7] at h
    obtain ⟨e1, e2⟩ := sh_some2 h
    exact e2 ▸ hF
  rw [if_neg c7] at h
  by_cases c8 : a1 = 9
  · rw [if_pos c8] at h
    obtain ⟨e1, e2⟩ := sh_some2 h
    exact e2 ▸ hF
  rw [if_neg c8] at h
  by_cases c9 : a1 = 10
  · rw [if_pos c9] at h
    obtain ⟨e1, e2⟩ := sh_some2 h
    exact e2 ▸ hF
  rw [if_neg c9] at h
  by_cases c10 : a1 = 11
  · rw [if_pos c10] at h
    obtain ⟨e1, e2⟩ := sh_some2 h
    exact e2 ▸ hF
  rw [if_neg c10] at h
  by_cases c11 : a1 = 12
  · rw [if_pos c11] at h
    obtain ⟨e1, e2⟩ := sh_some2 h
    exact e2 ▸ hF
  rw [if_neg c11] at h
  by_cases c12 : a1 = 13
  · rw [if_pos c12] at h
    obtain ⟨e1, e2⟩ := sh_some2 h
    exact e2 ▸ hF
  rw [if_neg c12] at h
  by_cases c13 : a1 = 14
  · rw [if_pos c13] at h
    obtain ⟨e1, e2⟩ := sh_some2 h
    exact e2 ▸ hF
  rw [if_neg c13] at h
  by_cases c14 : a1 = 15
  · rw [if_pos c14] at h
    obtain ⟨e1, e2⟩ := sh_some2 h
    exact e2 ▸ hF
  rw [if_neg c14] at h
  by_cases c15 : a1 = 16
  · rw [if_pos c15] at h
    obtain ⟨e1, e2⟩ := sh_some2 h
    exact e2 ▸ hF
  rw [if_neg c15] at h
  by_cases c16 : a1 = 17
  · rw [if_pos c16] at h
    by_cases c17 : (sh_i μ 6 2) = 0
    · rw [if_pos c17] at h
      obtain ⟨e1, e2⟩ := sh_some2 h
      exact e2 ▸ hF
    · rw [if_neg c17] at h
      obtain ⟨e1, e2⟩ := sh_some2 h
      exact e2 ▸ hF
  rw [if_neg c16] at h
  by_cases c18 : a1 = 18
  · rw [if_pos c18] at h
    by_cases c19 : (sh_i μ 6 2) = 2
    · rw [if_pos c19] at h
      obtain ⟨e1, e2⟩ := sh_some2 h
      exact e2 ▸ hF
    · rw [if_neg c19] at h
      obtain ⟨e1, e2⟩ := sh_some2 h
      exact e2 ▸ hF
  rw [if_neg c18] at h
  by_cases c20 : a1 = 19
  · rw [if_pos c20] at h
    by_cases c21 : (sh_i μ 6 2) = 2
    · rw [if_pos c21] at h
      obtain ⟨e1, e2⟩ := sh_some2 h
      exact e2 ▸ hF
    · rw [if_neg c21] at h
      obtain ⟨e1, e2⟩ := sh_some2 h
      exact e2 ▸ hF
  rw [if_neg c20] at h
  by_cases c22 : a1 = 20
  · rw [if_pos c22] at h
    by_cases c23 : (sh_i μ 6 2) = 2
    · rw [if_pos c23] at h
      obtain ⟨e1, e2⟩ := sh_some2 h
      exact e2 ▸ hF
    · rw [if_neg c23] at h
      obtain ⟨e1, e2⟩ := sh_some2 h
      exact e2 ▸ hF
  rw [if_neg c22] at h
  obtain ⟨e1, e2⟩ := sh_some2 h
  exact e2 ▸ hF
theorem cil_X3_isSomeoneAt (fuel : Nat) : (∀ ⦃r0 : Nat⦄ ⦃i1 : Int32⦄ ⦃i2 : Int32⦄ ⦃i3 : Int32⦄ ⦃i4 : Int32⦄ ⦃μ μ' : sh_Mem⦄ ⦃v : Int32⦄, sh_G μ → sh_isL r0 → F_X3_isSomeoneAt fuel 1 r0 i1 i2 i3 i4 μ = some (v, μ') → cI μ μ') := by
  induction fuel with
  | zero => intro r0 i1 i2 i3 i4 μ μ' v hG hr0 h; cases h
  | succ fuel ih =>
    have ih_3 := ih
    intro r0 i1 i2 i3 i4 μ μ' v hG hr0 h
    replace h : ((if i3 ≤ i4 then some (0, μ) else (if 7 ≤ i4 then some (0, μ) else (if sh_in i4 7 then (if (sh_i μ (r0 + 2) i4.toNatClampNeg) = i1 then (if sh_in i4 7 then (if (sh_i μ (r0 + 3) i4.toNatClampNeg) = i2 then some (1, μ) else F_X3_isSomeoneAt fuel 1 r0 i1 i2 i3 (i4 + 1) μ) else none) else F_X3_isSomeoneAt fuel 1 r0 i1 i2 i3 (i4 + 1) μ) else none))) : Option (Int32 × sh_Mem)) = some (v, μ') := h
    have hF : cI μ μ := cI.rf
    by_cases c7 : i3 ≤ i4
    · rw [if_pos c7] at h
      obtain ⟨e1, e2⟩ := sh_some2 h
      exact e2 ▸ hF
    · rw [if_neg c7] at h
      by_cases c8 : 7 ≤ i4
      · rw [if_pos c8] at h
        obtain ⟨e1, e2⟩ := sh_some2 h
        exact e2 ▸ hF
      · rw [if_neg c8] at h
        obtain ⟨k9, h⟩ := sh_chk h
        by_cases c10 : (sh_i μ (r0 + 2) i4.toNatClampNeg) = i1
        · rw [if_pos c10] at h
          obtain ⟨k11, h⟩ := sh_chk h
          by_cases c12 : (sh_i μ (r0 + 3) i4.toNatClampNeg) = i2
          · rw [if_pos c12] at h
            obtain ⟨e1, e2⟩ := sh_some2 h
            exact e2 ▸ hF
          · rw [if_neg c12] at h
            exact hF.trans (ih_3 hG hr0 h)
        · rw [if_neg c10] at h
          exact hF.trans (ih_3 hG hr0 h)
theorem ci_X3_isSomeoneAt {r : Nat} {a1 : Int32} {a2 : Int32} {a3 : Int32} {μ μ' : sh_Mem} {v : Int32} (hG : sh_G μ) (hr : sh_isL r) (h : f_X3_isSomeoneAt r a1 a2 a3 μ = some (v, μ')) : cI μ μ' := by
  have ih_3 := (cil_X3_isSomeoneAt sh_fuel)
  have hF : cI μ μ := cI.rf
  unfold f_X3_isSomeoneAt at h
  exact hF.trans (ih_3 hG hr h)
theorem cil_X5_placeOf (fuel : Nat) : (∀ ⦃n : Nat⦄ ⦃i0 : Int32⦄ ⦃r1 : Nat⦄ ⦃i2 : Int32⦄ ⦃i3 : Int32⦄ ⦃μ μ' : sh_Mem⦄ ⦃v : Int32⦄, sh_G μ → sh_LAY[r1]? = some (13, n) → ¬ r1 = 2 → F_X5_placeOf fuel 1 n i0 r1 i2 i3 μ = some (v, μ') → cI μ μ') := by
  induction fuel with
  | zero => intro n i0 r1 i2 i3 μ μ' v hG hr1 hr1l h; cases h
  | succ fuel ih =>
    have ih_2 := ih
    intro n i0 r1 i2 i3 μ μ' v hG hr1 hr1l h
    replace h : ((if i2 ≤ i3 then some ((-1), μ) else (if (Int32.ofNat n) ≤ i3 then some ((-1), μ) else (if sh_in i3 n then (if (sh_i μ r1 i3.toNatClampNeg) = i0 then some (i3, μ) else F_X5_placeOf fuel 1 n i0 r1 i2 (i3 + 1) μ) else none))) : Option (Int32 × sh_Mem)) = some (v, μ') := h
    have hF : cI μ μ := cI.rf
    by_cases c5 : i2 ≤ i3
    · rw [if_pos c5] at h
      obtain ⟨e1, e2⟩ := sh_some2 h
      exact e2 ▸ hF
    · rw [if_neg c5] at h
      by_cases c6 : (Int32.ofNat n) ≤ i3
      · rw [if_pos c6] at h
        obtain ⟨e1, e2⟩ := sh_some2 h
        exact e2 ▸ hF
      · rw [if_neg c6] at h
        obtain ⟨k7, h⟩ := sh_chk h
        by_cases c8 : (sh_i μ r1 i3.toNatClampNeg) = i0
        · rw [if_pos c8] at h
          obtain ⟨e1, e2⟩ := sh_some2 h
          exact e2 ▸ hF
        · rw [if_neg c8] at h
          exact hF.trans (ih_2 hG hr1 hr1l h)
theorem ci_X5_placeOf {a1 : Int32} {g : Nat} {n : Nat} {a3 : Int32} {μ μ' : sh_Mem} {v : Int32} (hG : sh_G μ) (hg : sh_LAY[g]? = some (13, n)) (hgl : ¬ g = 2) (h : f_X5_placeOf a1 g n a3 μ = some (v, μ')) : cI μ μ' := by
  have ih_2 := (cil_X5_placeOf sh_fuel)
  have hF : cI μ μ := cI.rf
  unfold f_X5_placeOf at h
  exact hF.trans (ih_2 hG hg hgl h)
theorem ci_X6_isOneTooMany {a1 : Int32} {μ μ' : sh_Mem} {v : Int32} (hG : sh_G μ) (h : f_X6_isOneTooMany a1 μ = some (v, μ')) : cI μ μ' := by
  have hF : cI μ μ := cI.rf
  unfold f_X6_isOneTooMany at h
  by_cases c1 : a1 = 3
  · rw [if_pos c1] at h
    obtain ⟨k2, h⟩ := sh_chk h
    obtain ⟨r3, er3⟩ : ∃ y : Nat, y = (sh_ref μ 7 2) := ⟨_, rfl⟩
    rw [sh_let_eq er3] at h
    have k2r : sh_r μ 7 2 = some r3 ∧ (r3 = 8 ∨ r3 = 29) := by rw [er3]; exact k2
    by_cases c4 : (sh_i μ r3 2) < 5
    · rw [if_pos c4] at h
      obtain ⟨e1, e2⟩ := sh_some2 h
      exact e2 ▸ hF
    · rw [if_neg c4] at h
      obtain ⟨e1, e2⟩ := sh_some2 h
      exact e2 ▸ hF
  rw [if_neg c1] at h
  by_cases c5 : a1 = 4
  · rw [if_pos c5] at h
    obtain ⟨k6, h⟩ := sh_chk h
    obtain ⟨r7, er7⟩ : ∃ y : Nat, y = (sh_ref μ 7 2) := ⟨_, rfl⟩
    rw [sh_let_eq er7] at h
    have k6r : sh_r μ 7 2 = some r7 ∧ (r7 = 8 ∨ r7 = 29) := by rw [er7]; exact k6
    by_cases c8 : (sh_i μ r7 3) < 7
    · rw [if_pos c8] at h
      obtain ⟨e1, e2⟩ := sh_some2 h
      exact e2 ▸ hF
    · rw [if_neg c8] at h
      obtain ⟨e1, e2⟩ := sh_some2 h
      exact e2 ▸ hF
  rw [if_neg c5] at h
  by_cases c9 : a1 = 5
  · rw [if_pos c9] at h
    obtain ⟨e1, e2⟩ := sh_some2 h
    exact e2 ▸ hF
  rw [if_neg c9] at h
  by_cases c10 : a1 = 6
  · rw [if_pos c10] at h
    obtain ⟨e1, e2⟩ := sh_some2 h
    exact e2 ▸ hF
  rw [if_neg c10] at h
  by_cases c11 : a1 = 7
  · rw [if_pos c11] at h
    obtain ⟨e1, e2⟩ := sh_some2 h
    exact e2 ▸ hF
  rw [if_neg c11] at h
  by_cases c12 : a1 = 8
  · rw [if_pos c12] at h
    obtain ⟨e1, e2⟩ := sh_some2 h
    exact e2 ▸ hF
  rw [if_neg c12] at h
  by_cases c13 : a1 = 9
  · rw [if_pos c13] at h
    obtain ⟨k14, h⟩ := sh_chk h
    obtain ⟨r15, er15⟩ : ∃ y : Nat, y = (sh_ref μ 7 2) := ⟨_, rfl⟩
    rw [sh_let_eq er15] at h
    have k14r : sh_r μ 7 2 = some r15 ∧ (r15 = 8 ∨ r15 = 29) := by rw [er15]; exact k14
    by_cases c16 : (sh_i μ r15 4) < 12
    · rw [if_pos c16] at h
      obtain ⟨e1, e2⟩ := sh_some2 h
      exact e2 ▸ hF
    · rw [if_neg c16] at h
      obtain ⟨e1, e2⟩ := sh_some2 h
      exact e2 ▸ hF
  rw [if_neg c13] at h
  by_cases c17 : a1 = 10
  · rw [if_pos c17] at h
    obtain ⟨k18, h⟩ := sh_chk h
    obtain ⟨r19, er19⟩ : ∃ y : Nat, y = (sh_ref μ 7 2) := ⟨_, rfl⟩
    rw [sh_let_eq er19] at h
    have k18r : sh_r μ 7 2 = some r19 ∧ (r19 = 8 ∨ r19 = 29) := by rw [er19]; exact k18
    obtain ⟨k20, h⟩ := sh_chk h
    obtain ⟨e1, e2⟩ := sh_some2 h
    exact e2 ▸ hF
  rw [if_neg c17] at h
  by_cases c21 : a1 = 11
  · rw [if_pos c21] at h
    obtain ⟨k22, h⟩ := sh_chk h
    obtain ⟨r23, er23⟩ : ∃ y : Nat, y = (sh_ref μ 7 2) := ⟨_, rfl⟩
    rw [sh_let_eq er23] at h
    have k22r : sh_r μ 7 2 = some r23 ∧ (r23 = 8 ∨ r23 = 29) := by rw [er23]; exact k22
    obtain ⟨k24, h⟩ := sh_chk h
    obtain ⟨e1, e2⟩ := sh_some2 h
    exact e2 ▸ hF
  rw [if_neg c21] at h
  by_cases c25 : a1 = 12
  · rw [if_pos c25] at h
    obtain ⟨k26, h⟩ := sh_chk h
    obtain ⟨r27, er27⟩ : ∃ y : Nat, y = (sh_ref μ 7 2) := ⟨_, rfl⟩
    rw [sh_let_eq er27] at h
    have k26r : sh_r μ 7 2 = some r27 ∧ (r27 = 8 ∨ r27 = 29) := by rw [er27]; exact k26
    obtain ⟨k28, h⟩ := sh_chk h
    obtain ⟨e1, e2⟩ := sh_some2 h
    exact e2 ▸ hF
  rw [if_neg c25] at h
  obtain ⟨e1, e2⟩ := sh_some2 h
  exact e2 ▸ hF
theorem cil_X8_takeLetters (fuel : Nat) : (∀ ⦃μ μ' : sh_Mem⦄, sh_G μ → F_X8_takeLetters fuel 1 μ = some μ' → cI μ μ') := by
  induction fuel with
  | zero => intro μ μ' hG h; cases h
  | succ fuel ih =>
    have ih_5 := ih
    intro μ μ' hG h
    replace h : ((if (sh_i μ 2 1) ≤ (sh_i μ 2 2) then sh_let (sh_setI μ 2 5 ((sh_i μ 2 2) - (sh_i μ 2 4))) (fun μ19 => sh_let (sh_setI μ19 2 3 (-2)) (fun μ20 => some μ20)) else (if sh_in (sh_i μ 2 2) 1600 then (if (sh_i μ 1 ((sh_i μ 2 2)).toNatClampNeg) < 97 then sh_let (sh_setI μ 2 5 ((sh_i μ 2 2) - (sh_i μ 2 4))) (fun μ23 => sh_let (sh_setI μ23 2 3 (-2)) (fun μ24 => some μ24)) else (if sh_in (sh_i μ 2 2) 1600 then (if 122 < (sh_i μ 1 ((sh_i μ 2 2)).toNatClampNeg) then sh_let (sh_setI μ 2 5 ((sh_i μ 2 2) - (sh_i μ 2 4))) (fun μ27 => sh_let (sh_setI μ27 2 3 (-2)) (fun μ28 => some μ28)) else (if 6 ≤ ((sh_i μ 2 2) - (sh_i μ 2 4)) then sh_let (sh_setI μ 2 2 ((sh_i μ 2 2) + 1)) (fun μ30 => F_X8_takeLetters fuel 1  μ30) else (if sh_in (sh_i μ 2 2) 1600 then sh_let (sh_setI μ 2 7 ((sh_i μ 2 7) ||| ((((sh_i μ 1 ((sh_i μ 2 2)).toNatClampNeg) - 97) + 1) <<< ((5 * ((sh_i μ 2 2) - (sh_i μ 2 4))) &&& 31)))) (fun μ32 => sh_let (sh_setI μ32 2 2 ((sh_i μ32 2 2) + 1)) (fun μ33 => F_X8_takeLetters fuel 1  μ33)) else none))) else none)) else none)) : Option sh_Mem) = some μ' := h
    have hF : cI μ μ := cI.rf
    by_cases c18 : (sh_i μ 2 1) ≤ (sh_i μ 2 2)
    · rw [if_pos c18] at h
      obtain ⟨μ19, eμ19⟩ : ∃ y : sh_Mem, y = (sh_setI μ 2 5 ((sh_i μ 2 2) - (sh_i μ 2 4))) := ⟨_, rfl⟩
      rw [sh_let_eq eμ19] at h
      have hG19 : sh_G μ19 := by rw [eμ19]; exact hG
      have hF19 : cI μ μ19 := by rw [eμ19]; exact cI_I hF (by first | exact Or.inl (by decide) | exact Or.inr (by decide))
      obtain ⟨μ20, eμ20⟩ : ∃ y : sh_Mem, y = (sh_setI μ19 2 3 (-2)) := ⟨_, rfl⟩
      rw [sh_let_eq eμ20] at h
      have hG20 : sh_G μ20 := by rw [eμ20]; exact hG19
      have hF20 : cI μ μ20 := by rw [eμ20]; exact cI_I hF19 (by first | exact Or.inl (by decide) | exact Or.inr (by decide))
      have e2 := Option.some.inj h
      exact e2 ▸ hF20
    · rw [if_neg c18] at h
      obtain ⟨k21, h⟩ := sh_chk h
      by_cases c22 : (sh_i μ 1 ((sh_i μ 2 2)).toNatClampNeg) < 97
      · rw [if_pos c22] at h
        obtain ⟨μ23, eμ23⟩ : ∃ y : sh_Mem, y = (sh_setI μ 2 5 ((sh_i μ 2 2) - (sh_i μ 2 4))) := ⟨_, rfl⟩
        rw [sh_let_eq eμ23] at h
        have hG23 : sh_G μ23 := by rw [eμ23]; exact hG
        have hF23 : cI μ μ23 := by rw [eμ23]; exact cI_I hF (by first | exact Or.inl (by decide) | exact Or.inr (by decide))
        obtain ⟨μ24, eμ24⟩ : ∃ y : sh_Mem, y = (sh_setI μ23 2 3 (-2)) := ⟨_, rfl⟩
        rw [sh_let_eq eμ24] at h
        have hG24 : sh_G μ24 := by rw [eμ24]; exact hG23
        have hF24 : cI μ μ24 := by rw [eμ24]; exact cI_I hF23 (by first | exact Or.inl (by decide) | exact Or.inr (by decide))
        have e2 := Option.some.inj h
        exact e2 ▸ hF24
      · rw [if_neg c22] at h
        obtain ⟨k25, h⟩ := sh_chk h
        by_cases c26 : 122 < (sh_i μ 1 ((sh_i μ 2 2)).toNatClampNeg)
        · rw [if_pos c26] at h
          obtain ⟨μ27, eμ27⟩ : ∃ y : sh_Mem, y = (sh_setI μ 2 5 ((sh_i μ 2 2) - (sh_i μ 2 4))) := ⟨_, rfl⟩
          rw [sh_let_eq eμ27] at h
          have hG27 : sh_G μ27 := by rw [eμ27]; exact hG
          have hF27 : cI μ μ27 := by rw [eμ27]; exact cI_I hF (by first | exact Or.inl (by decide) | exact Or.inr (by decide))
          obtain ⟨μ28, eμ28⟩ : ∃ y : sh_Mem, y = (sh_setI μ27 2 3 (-2)) := ⟨_, rfl⟩
          rw [sh_let_eq eμ28] at h
          have hG28 : sh_G μ28 := by rw [eμ28]; exact hG27
          have hF28 : cI μ μ28 := by rw [eμ28]; exact cI_I hF27 (by first | exact Or.inl (by decide) | exact Or.inr (by decide))
          have e2 := Option.some.inj h
          exact e2 ▸ hF28
        · rw [if_neg c26] at h
          by_cases c29 : 6 ≤ ((sh_i μ 2 2) - (sh_i μ 2 4))
          · rw [if_pos c29] at h
            obtain ⟨μ30, eμ30⟩ : ∃ y : sh_Mem, y = (sh_setI μ 2 2 ((sh_i μ 2 2) + 1)) := ⟨_, rfl⟩
            rw [sh_let_eq eμ30] at h
            have hG30 : sh_G μ30 := by rw [eμ30]; exact hG
            have hF30 : cI μ μ30 := by rw [eμ30]; exact cI_I hF (by first | exact Or.inl (by decide) | exact Or.inr (by decide))
            exact hF30.trans (ih_5 hG30 h)
          · rw [if_neg c29] at h
            obtain ⟨k31, h⟩ := sh_chk h
            obtain ⟨μ32, eμ32⟩ : ∃ y : sh_Mem, y = (sh_setI μ 2 7 ((sh_i μ 2 7) ||| ((((sh_i μ 1 ((sh_i μ 2 2)).toNatClampNeg) - 97) + 1) <<< ((5 * ((sh_i μ 2 2) - (sh_i μ 2 4))) &&& 31)))) := ⟨_, rfl⟩
            rw [sh_let_eq eμ32] at h
            have hG32 : sh_G μ32 := by rw [eμ32]; exact hG
            have hF32 : cI μ μ32 := by rw [eμ32]; exact cI_I hF (by first | exact Or.inl (by decide) | exact Or.inr (by decide))
            obtain ⟨μ33, eμ33⟩ : ∃ y : sh_Mem, y = (sh_setI μ32 2 2 ((sh_i μ32 2 2) + 1)) := ⟨_, rfl⟩
            rw [sh_let_eq eμ33] at h
            have hG33 : sh_G μ33 := by rw [eμ33]; exact hG32
            have hF33 : cI μ μ33 := by rw [eμ33]; exact cI_I hF32 (by first | exact Or.inl (by decide) | exact Or.inr (by decide))
            exact hF33.trans (ih_5 hG33 h)
theorem ci_X8_takeLetters {μ μ' : sh_Mem} (hG : sh_G μ) (h : f_X8_takeLetters μ = some μ') : cI μ μ' := by
  have ih_5 := (cil_X8_takeLetters sh_fuel)
  have hF : cI μ μ := cI.rf
  unfold f_X8_takeLetters at h
  obtain ⟨μ34, eμ34⟩ : ∃ y : sh_Mem, y = (sh_setI μ 2 7 0) := ⟨_, rfl⟩
  rw [sh_let_eq eμ34] at h
  have hG34 : sh_G μ34 := by rw [eμ34]; exact hG
  have hF34 : cI μ μ34 := by rw [eμ34]; exact cI_I hF (by first | exact Or.inl (by decide) | exact Or.inr (by decide))
  exact hF34.trans (ih_5 hG34 h)
theorem cil_X8_takeDigits (fuel : Nat) : (∀ ⦃μ μ' : sh_Mem⦄, sh_G μ → F_X8_takeDigits fuel 1 μ = some μ' → cI μ μ') := by
  induction fuel with
  | zero => intro μ μ' hG h; cases h
  | succ fuel ih =>
    have ih_5 := ih
    intro μ μ' hG h
    replace h : ((if (sh_i μ 2 1) ≤ (sh_i μ 2 2) then sh_let (sh_setI μ 2 5 ((sh_i μ 2 2) - (sh_i μ 2 4))) (fun μ19 => sh_let (sh_setI μ19 2 3 (-3)) (fun μ20 => some μ20)) else (if sh_in (sh_i μ 2 2) 1600 then (if (sh_i μ 1 ((sh_i μ 2 2)).toNatClampNeg) < 48 then sh_let (sh_setI μ 2 5 ((sh_i μ 2 2) - (sh_i μ 2 4))) (fun μ23 => sh_let (sh_setI μ23 2 3 (-3)) (fun μ24 => some μ24)) else (if sh_in (sh_i μ 2 2) 1600 then (if 57 < (sh_i μ 1 ((sh_i μ 2 2)).toNatClampNeg) then sh_let (sh_setI μ 2 5 ((sh_i μ 2 2) - (sh_i μ 2 4))) (fun μ27 => sh_let (sh_setI μ27 2 3 (-3)) (fun μ28 => some μ28)) else (if 4 ≤ ((sh_i μ 2 2) - (sh_i μ 2 4)) then sh_let (sh_setI μ 2 2 ((sh_i μ 2 2) + 1)) (fun μ30 => F_X8_takeDigits fuel 1  μ30) else (if sh_in (sh_i μ 2 2) 1600 then sh_let (sh_setI μ 2 8 ((((sh_i μ 2 8) * 10) + (sh_i μ 1 ((sh_i μ 2 2)).toNatClampNeg)) - 48)) (fun μ32 => sh_let (sh_setI μ32 2 2 ((sh_i μ32 2 2) + 1)) (fun μ33 => F_X8_takeDigits fuel 1  μ33)) else none))) else none)) else none)) : Option sh_Mem) = some μ' := h
    have hF : cI μ μ := cI.rf
    by_cases c18 : (sh_i μ 2 1) ≤ (sh_i μ 2 2)
    · rw [if_pos c18] at h
      obtain ⟨μ19, eμ19⟩ : ∃ y : sh_Mem, y = (sh_setI μ 2 5 ((sh_i μ 2 2) - (sh_i μ 2 4))) := ⟨_, rfl⟩
      rw [sh_let_eq eμ19] at h
      have hG19 : sh_G μ19 := by rw [eμ19]; exact hG
      have hF19 : cI μ μ19 := by rw [eμ19]; exact cI_I hF (by first | exact Or.inl (by decide) | exact Or.inr (by decide))
      obtain ⟨μ20, eμ20⟩ : ∃ y : sh_Mem, y = (sh_setI μ19 2 3 (-3)) := ⟨_, rfl⟩
      rw [sh_let_eq eμ20] at h
      have hG20 : sh_G μ20 := by rw [eμ20]; exact hG19
      have hF20 : cI μ μ20 := by rw [eμ20]; exact cI_I hF19 (by first | exact Or.inl (by decide) | exact Or.inr (by decide))
      have e2 := Option.some.inj h
      exact e2 ▸ hF20
    · rw [if_neg c18] at h
      obtain ⟨k21, h⟩ := sh_chk h
      by_cases c22 : (sh_i μ 1 ((sh_i μ 2 2)).toNatClampNeg) < 48
      · rw [if_pos c22] at h
        obtain ⟨μ23, eμ23⟩ : ∃ y : sh_Mem, y = (sh_setI μ 2 5 ((sh_i μ 2 2) - (sh_i μ 2 4))) := ⟨_, rfl⟩
        rw [sh_let_eq eμ23] at h
        have hG23 : sh_G μ23 := by rw [eμ23]; exact hG
        have hF23 : cI μ μ23 := by rw [eμ23]; exact cI_I hF (by first | exact Or.inl (by decide) | exact Or.inr (by decide))
        obtain ⟨μ24, eμ24⟩ : ∃ y : sh_Mem, y = (sh_setI μ23 2 3 (-3)) := ⟨_, rfl⟩
        rw [sh_let_eq eμ24] at h
        have hG24 : sh_G μ24 := by rw [eμ24]; exact hG23
        have hF24 : cI μ μ24 := by rw [eμ24]; exact cI_I hF23 (by first | exact Or.inl (by decide) | exact Or.inr (by decide))
        have e2 := Option.some.inj h
        exact e2 ▸ hF24
      · rw [if_neg c22] at h
        obtain ⟨k25, h⟩ := sh_chk h
        by_cases c26 : 57 < (sh_i μ 1 ((sh_i μ 2 2)).toNatClampNeg)
        · rw [if_pos c26] at h
          obtain ⟨μ27, eμ27⟩ : ∃ y : sh_Mem, y = (sh_setI μ 2 5 ((sh_i μ 2 2) - (sh_i μ 2 4))) := ⟨_, rfl⟩
          rw [sh_let_eq eμ27] at h
          have hG27 : sh_G μ27 := by rw [eμ27]; exact hG
          have hF27 : cI μ μ27 := by rw [eμ27]; exact cI_I hF (by first | exact Or.inl (by decide) | exact Or.inr (by decide))
          obtain ⟨μ28, eμ28⟩ : ∃ y : sh_Mem, y = (sh_setI μ27 2 3 (-3)) := ⟨_, rfl⟩
          rw [sh_let_eq eμ28] at h
          have hG28 : sh_G μ28 := by rw [eμ28]; exact hG27
          have hF28 : cI μ μ28 := by rw [eμ28]; exact cI_I hF27 (by first | exact Or.inl (by decide) | exact Or.inr (by decide))
          have e2 := Option.some.inj h
          exact e2 ▸ hF28
        · rw [if_neg c26] at h
          by_cases c29 : 4 ≤ ((sh_i μ 2 2) - (sh_i μ 2 4))
          · rw [if_pos c29] at h
            obtain ⟨μ30, eμ30⟩ : ∃ y : sh_Mem, y = (sh_setI μ 2 2 ((sh_i μ 2 2) + 1)) := ⟨_, rfl⟩
            rw [sh_let_eq eμ30] at h
            have hG30 : sh_G μ30 := by rw [eμ30]; exact hG
            have hF30 : cI μ μ30 := by rw [eμ30]; exact cI_I hF (by first | exact Or.inl (by decide) | exact Or.inr (by decide))
            exact hF30.trans (ih_5 hG30 h)
          · rw [if_neg c29] at h
            obtain ⟨k31, h⟩ := sh_chk h
            obtain ⟨μ32, eμ32⟩ : ∃ y : sh_Mem, y = (sh_setI μ 2 8 ((((sh_i μ 2 8) * 10) + (sh_i μ 1 ((sh_i μ 2 2)).toNatClampNeg)) - 48)) := ⟨_, rfl⟩
            rw [sh_let_eq eμ32] at h
            have hG32 : sh_G μ32 := by rw [eμ32]; exact hG
            have hF32 : cI μ μ32 := by rw [eμ32]; exact cI_I hF (by first | exact Or.inl (by decide) | exact Or.inr (by decide))
            obtain ⟨μ33, eμ33⟩ : ∃ y : sh_Mem, y = (sh_setI μ32 2 2 ((sh_i μ32 2 2) + 1)) := ⟨_, rfl⟩
            rw [sh_let_eq eμ33] at h
            have hG33 : sh_G μ33 := by rw [eμ33]; exact hG32
            have hF33 : cI μ μ33 := by rw [eμ33]; exact cI_I hF32 (by first | exact Or.inl (by decide) | exact Or.inr (by decide))
            exact hF33.trans (ih_5 hG33 h)
theorem ci_X8_takeDigits {μ μ' : sh_Mem} (hG : sh_G μ) (h : f_X8_takeDigits μ = some μ') : cI μ μ' := by
  have ih_5 := (cil_X8_takeDigits sh_fuel)
  have hF : cI μ μ := cI.rf
  unfold f_X8_takeDigits at h
  obtain ⟨μ34, eμ34⟩ : ∃ y : sh_Mem, y = (sh_setI μ 2 8 0) := ⟨_, rfl⟩
  rw [sh_let_eq eμ34] at h
  have hG34 : sh_G μ34 := by rw [eμ34]; exact hG
  have hF34 : cI μ μ34 := by rw [eμ34]; exact cI_I hF (by first | exact Or.inl (by decide) | exact Or.inr (by decide))
  exact hF34.trans (ih_5 hG34 h)
theorem cil_X8_wordOf (fuel : Nat) : (∀ ⦃i0 : Int32⦄ ⦃i1 : Int32⦄ ⦃i2 : Int32⦄ ⦃i3 : Int32⦄ ⦃i4 : Int32⦄ ⦃μ μ' : sh_Mem⦄ ⦃v : Int32⦄, sh_G μ → F_X8_wordOf fuel 1 i0 i1 i2 i3 i4 μ = some (v, μ') → cI μ μ') := by
  induction fuel with
  | zero => intro i0 i1 i2 i3 i4 μ μ' v hG h; cases h
  | succ fuel ih =>
    have ih_9 := ih
    intro i0 i1 i2 i3 i4 μ μ' v hG h
    replace h : ((if 171 ≤ i4 then some ((-1), μ) else (if sh_in i4 171 then sh_let ((sh_ch i4) : Int32) (fun x9 => (if x9 = 32 then (if i3 = i0 then some (i1, μ) else F_X8_wordOf fuel 1 i0 (i1 + 1) 0 0 (i4 + 1) μ) else sh_let ((i3 ||| (((x9 - 97) + 1) <<< ((5 * i2) &&& 31))) : Int32) (fun x12 => F_X8_wordOf fuel 1 i0 i1 (i2 + 1) x12 (i4 + 1) μ))) else none)) : Option (Int32 × sh_Mem)) = some (v, μ') := h
    have hF : cI μ μ := cI.rf
    by_cases c7 : 171 ≤ i4
    · rw [if_pos c7] at h
      obtain ⟨e1, e2⟩ := sh_some2 h
      exact e2 ▸ hF
    · rw [if_neg c7] at h
      obtain ⟨k8, h⟩ := sh_chk h
      obtain ⟨x9, ex9⟩ : ∃ y : Int32, y = (sh_ch i4) := ⟨_, rfl⟩
      rw [sh_let_eq ex9] at h
      by_cases c10 : x9 = 32
      · rw [if_pos c10] at h
        by_cases c11 : i3 = i0
        · rw [if_pos c11] at h
          obtain ⟨e1, e2⟩ := sh_some2 h
          exact e2 ▸ hF
        · rw [if_neg c11] at h
          exact hF.trans (ih_9 hG h)
      · rw [if_neg c10] at h
        obtain ⟨x12, ex12⟩ : ∃ y : Int32, y = (i3 ||| (((x9 - 97) + 1) <<< ((5 * i2) &&& 31))) := ⟨_, rfl⟩
        rw [sh_let_eq ex12] at h
        exact hF.trans (ih_9 hG h)
theorem ci_X8_wordOf {a1 : Int32} {μ μ' : sh_Mem} {v : Int32} (hG : sh_G μ) (h : f_X8_wordOf a1 μ = some (v, μ')) : cI μ μ' := by
  have ih_9 := (cil_X8_wordOf sh_fuel)
  have hF : cI μ μ := cI.rf
  unfold f_X8_wordOf at h
  exact hF.trans (ih_9 hG h)
theorem cil_J7_fill_53178 (fuel : Nat) : (∀ ⦃n : Nat⦄ ⦃r0 : Nat⦄ ⦃i1 : Int32⦄ ⦃i2 : Int32⦄ ⦃i3 : Int32⦄ ⦃μ μ' : sh_Mem⦄, sh_G μ → sh_LAY[r0]? = some (13, n) → ¬ r0 = 2 → F_J7_fill_53178 fuel 1 n r0 i1 i2 i3 μ = some μ' → cI μ μ') := by
  induction fuel with
  | zero => intro n r0 i1 i2 i3 μ μ' hG hr0 hr0l h; cases h
  | succ fuel ih =>
    have ih_5 := ih
    intro n r0 i1 i2 i3 μ μ' hG hr0 hr0l h
    replace h : ((if i3 ≤ i2 then some μ else (if sh_in i2 n then sh_let (sh_setI μ r0 i2.toNatClampNeg i1) (fun μ7 => F_J7_fill_53178 fuel 1 n r0 i1 (i2 + 1) i3 μ7) else none)) : Option sh_Mem) = some μ' := h
    have hF : cI μ μ := cI.rf
    by_cases c5 : i3 ≤ i2
    · rw [if_pos c5] at h
      have e2 := Option.some.inj h
      exact e2 ▸ hF
    · rw [if_neg c5] at h
      obtain ⟨k6, h⟩ := sh_chk h
      obtain ⟨μ7, eμ7⟩ : ∃ y : sh_Mem, y = (sh_setI μ r0 i2.toNatClampNeg i1) := ⟨_, rfl⟩
      rw [sh_let_eq eμ7] at h
      have hG7 : sh_G μ7 := by rw [eμ7]; exact hG
      have hF7 : cI μ μ7 := by rw [eμ7]; exact cI_I hF (Or.inl hr0l)
      exact hF7.trans (ih_5 hG7 hr0 hr0l h)
theorem ci_J7_fill_53178 {g : Nat} {n : Nat} {a2 : Int32} {μ μ' : sh_Mem} (hG : sh_G μ) (hg : sh_LAY[g]? = some (13, n)) (hgl : ¬ g = 2) (h : f_J7_fill_53178 g n a2 μ = some μ') : cI μ μ' := by
  have ih_5 := (cil_J7_fill_53178 sh_fuel)
  have hF : cI μ μ := cI.rf
  unfold f_J7_fill_53178 at h
  obtain ⟨x8, ex8⟩ : ∃ y : Int32, y = (Int32.ofNat n) := ⟨_, rfl⟩
  rw [sh_let_eq ex8] at h
  exact hF.trans (ih_5 hG hg hgl h)
theorem ci_X5_clear {p : Nat} {μ μ' : sh_Mem} (hG : sh_G μ) (hp : sh_isP p) (h : f_X5_clear p μ = some μ') : cI μ μ' := by
  have hF : cI μ μ := cI.rf
  unfold f_X5_clear at h
  obtain ⟨μ1, eμ1⟩ : ∃ y : sh_Mem, y = (sh_setI μ p 0 0) := ⟨_, rfl⟩
  rw [sh_let_eq eμ1] at h
  have hG1 : sh_G μ1 := by rw [eμ1]; exact hG
  have hF1 : cI μ μ1 := by rw [eμ1]; exact cI_I hF (Or.inl <| sh_neP hp 0 (by decide))
  obtain ⟨μ2, eμ2⟩ : ∃ y : sh_Mem, y = (sh_setI μ1 p 1 0) := ⟨_, rfl⟩
  rw [sh_let_eq eμ2] at h
  have hG2 : sh_G μ2 := by rw [eμ2]; exact hG1
  have hF2 : cI μ μ2 := by rw [eμ2]; exact cI_I hF1 (Or.inl <| sh_neP hp 0 (by decide))
  obtain ⟨μ3, eμ3⟩ : ∃ y : sh_Mem, y = (sh_setI μ2 p 2 0) := ⟨_, rfl⟩
  rw [sh_let_eq eμ3] at h
  have hG3 : sh_G μ3 := by rw [eμ3]; exact hG2
  have hF3 : cI μ μ3 := by rw [eμ3]; exact cI_I hF2 (Or.inl <| sh_neP hp 0 (by decide))
  obtain ⟨μ4, eμ4⟩ : ∃ y : sh_Mem, y = (sh_setI μ3 p 3 0) := ⟨_, rfl⟩
  rw [sh_let_eq eμ4] at h
  have hG4 : sh_G μ4 := by rw [eμ4]; exact hG3
  have hF4 : cI μ μ4 := by rw [eμ4]; exact cI_I hF3 (Or.inl <| sh_neP hp 0 (by decide))
  obtain ⟨μ5, eμ5⟩ : ∃ y : sh_Mem, y = (sh_setI μ4 p 4 0) := ⟨_, rfl⟩
  rw [sh_let_eq eμ5] at h
  have hG5 : sh_G μ5 := by rw [eμ5]; exact hG4
  have hF5 : cI μ μ5 := by rw [eμ5]; exact cI_I hF4 (Or.inl <| sh_neP hp 0 (by decide))
  obtain ⟨μ6, eμ6⟩ : ∃ y : sh_Mem, y = (sh_setI μ5 p 5 0) := ⟨_, rfl⟩
  rw [sh_let_eq eμ6] at h
  have hG6 : sh_G μ6 := by rw [eμ6]; exact hG5
  have hF6 : cI μ μ6 := by rw [eμ6]; exact cI_I hF5 (Or.inl <| sh_neP hp 0 (by decide))
  obtain ⟨μ7, hr8, h⟩ := sh_bindv_e h
  have hG7 := gp_J7_fill_53178 hG6 (gLA1 (gP_land hp)) hr8
  have hF7 := hF6.trans (ci_J7_fill_53178 hG6 (gLA1 (gP_land hp)) (sh_neL (gP_land hp) 1 (by decide)) hr8)
  obtain ⟨μ10, eμ10⟩ : ∃ y : sh_Mem, y = (sh_setI μ7 p 13 0) := ⟨_, rfl⟩
  rw [sh_let_eq eμ10] at h
  have hG10 : sh_G μ10 := by rw [eμ10]; exact hG7
  have hF10 : cI μ μ10 := by rw [eμ10]; exact cI_I hF7 (Or.inl <| sh_neP hp 0 (by decide))
  obtain ⟨μ11, eμ11⟩ : ∃ y : sh_Mem, y = (sh_setI μ10 p 14 0) := ⟨_, rfl⟩
  rw [sh_let_eq eμ11] at h
  have hG11 : sh_G μ11 := by rw [eμ11]; exact hG10
  have hF11 : cI μ μ11 := by rw [eμ11]; exact cI_I hF10 (Or.inl <| sh_neP hp 0 (by decide))
  obtain ⟨μ12, eμ12⟩ : ∃ y : sh_Mem, y = (sh_setI μ11 p 15 0) := ⟨_, rfl⟩
  rw [sh_let_eq eμ12] at h
  have hG12 : sh_G μ12 := by rw [eμ12]; exact hG11
  have hF12 : cI μ μ12 := by rw [eμ12]; exact cI_I hF11 (Or.inl <| sh_neP hp 0 (by decide))
  obtain ⟨μ13, eμ13⟩ : ∃ y : sh_Mem, y = (sh_setI μ12 (p + 5) 1 0) := ⟨_, rfl⟩
  rw [sh_let_eq eμ13] at h
  have hG13 : sh_G μ13 := by rw [eμ13]; exact hG12
  have hF13 : cI μ μ13 := by rw [eμ13]; exact cI_I hF12 (Or.inl <| sh_neF (gP_f10 hp) 0 (by decide))
  obtain ⟨μ14, hr15, h⟩ := sh_bindv_e h
  have hG14 := gp_X1_add hG13 (gP_f10 hp) hr15
  have hF14 := hF13.trans (ci_X1_add hG13 (gP_f10 hp) hr15)
  obtain ⟨μ17, eμ17⟩ : ∃ y : sh_Mem, y = (sh_setI μ14 (p + 8) 1 0) := ⟨_, rfl⟩
  rw [sh_let_eq eμ17] at h
  have hG17 : sh_G μ17 := by rw [eμ17]; exact hG14
  have hF17 : cI μ μ17 := by rw [eμ17]; exact cI_I hF14 (Or.inl <| sh_neF (gP_f11 hp) 0 (by decide))
  obtain ⟨μ18, hr19, h⟩ := sh_bindv_e h
  have hG18 := gp_X1_addWord hG17 (gP_f11 hp) hr19
  have hF18 := hF17.trans (ci_X1_addWord hG17 (gP_f11 hp) hr19)
  obtain ⟨μ21, hr22, h⟩ := sh_bindv_e h
  have hG21 := gp_X1_add hG18 (gP_f11 hp) hr22
  have hF21 := hF18.trans (ci_X1_add hG18 (gP_f11 hp) hr22)
  obtain ⟨μ24, hr25, h⟩ := sh_bindv_e h
  have hG24 := gp_X1_addMark hG21 (gP_f11 hp) hr25
  have hF24 := hF21.trans (ci_X1_addMark hG21 (gP_f11 hp) hr25)
  obtain ⟨μ27, eμ27⟩ : ∃ y : sh_Mem, y = (sh_setI μ24 (p + 11) 1 0) := ⟨_, rfl⟩
  rw [sh_let_eq eμ27] at h
  have hG27 : sh_G μ27 := by rw [eμ27]; exact hG24
  have hF27 : cI μ μ27 := by rw [eμ27]; exact cI_I hF24 (Or.inl <| sh_neF (gP_f12 hp) 0 (by decide))
  obtain ⟨μ28, hr29, h⟩ := sh_bindv_e h
  have hG28 := gp_X1_add hG27 (gP_f12 hp) hr29
  have hF28 := hF27.trans (ci_X1_add hG27 (gP_f12 hp) hr29)
  have e2 := Option.some.inj h
  exact e2 ▸ hF28
theorem ci_X5_topicOf {p : Nat} {a1 : Int32} {μ μ' : sh_Mem} {v : Int32} (hG : sh_G μ) (hp : sh_isP p) (h : f_X5_topicOf p a1 μ = some (v, μ')) : cI μ μ' := by
  have hF : cI μ μ := cI.rf
  unfold f_X5_topicOf at h
  obtain ⟨y3, μ1, hr2, h⟩ := sh_bind_e h
  have hG1 := gp_X5_placeOf hG (gPA6 hp) hr2
  have hF1 := hF.trans (ci_X5_placeOf hG (gPA6 hp) (sh_neP hp 1 (by decide)) hr2)
  obtain ⟨e1, e2⟩ := sh_some2 h
  exact e2 ▸ hF1
theorem ci_X5_personOf {p : Nat} {a1 : Int32} {μ μ' : sh_Mem} {v : Int32} (hG : sh_G μ) (hp : sh_isP p) (h : f_X5_personOf p a1 μ = some (v, μ')) : cI μ μ' := by
  have hF : cI μ μ := cI.rf
  unfold f_X5_personOf at h
  obtain ⟨y3, μ1, hr2, h⟩ := sh_bind_e h
  have hG1 := gp_X5_placeOf hG (gPA7 hp) hr2
  have hF1 := hF.trans (ci_X5_placeOf hG (gPA7 hp) (sh_neP hp 2 (by decide)) hr2)
  obtain ⟨e1, e2⟩ := sh_some2 h
  exact e2 ▸ hF1
theorem ci_X6_isNew {a1 : Int32} {μ μ' : sh_Mem} {v : Int32} (hG : sh_G μ) (h : f_X6_isNew a1 μ = some (v, μ')) : cI μ μ' := by
  have hF : cI μ μ := cI.rf
  unfold f_X6_isNew at h
  by_cases c1 : a1 = (-1)
  · rw [if_pos c1] at h
    obtain ⟨e1, e2⟩ := sh_some2 h
    exact e2 ▸ hF
  · rw [if_neg c1] at h
    obtain ⟨k2, h⟩ := sh_chk h
    obtain ⟨r3, er3⟩ : ∃ y : Nat, y = (sh_ref μ 7 2) := ⟨_, rfl⟩
    rw [sh_let_eq er3] at h
    have k2r : sh_r μ 7 2 = some r3 ∧ (r3 = 8 ∨ r3 = 29) := by rw [er3]; exact k2
    obtain ⟨y6, μ4, hr5, h⟩ := sh_bind_e h
    have hG4 := gp_X5_topicOf hG k2r.2 hr5
    have hF4 := hF.trans (ci_X5_topicOf hG k2r.2 hr5)
    by_cases c7 : y6 = (-1)
    · rw [if_pos c7] at h
      obtain ⟨k12, h⟩ := sh_chk h
      obtain ⟨r13, er13⟩ : ∃ y : Nat, y = (sh_ref μ4 7 2) := ⟨_, rfl⟩
      rw [sh_let_eq er13] at h
      have k12r : sh_r μ4 7 2 = some r13 ∧ (r13 = 8 ∨ r13 = 29) := by rw [er13]; exact k12
      obtain ⟨y16, μ14, hr15, h⟩ := sh_bind_e h
      have hG14 := gp_X5_personOf hG4 k12r.2 hr15
      have hF14 := hF4.trans (ci_X5_personOf hG4 k12r.2 hr15)
      by_cases c17 : y16 = (-1)
      · rw [if_pos c17] at h
        obtain ⟨e1, e2⟩ := sh_some2 h
        exact e2 ▸ hF14
      · rw [if_neg c17] at h
        obtain ⟨y20, μ18, hr19, h⟩ := sh_bind_e h
        have hG18 := gp_X8_fails hG14 hr19
        have hF18 := hF14.trans (ci_X8_fails hr19 (by decide))
        obtain ⟨k21, h⟩ := sh_chk h
        obtain ⟨e1, e2⟩ := sh_some2 h
        exact e2 ▸ hF18
    · rw [if_neg c7] at h
      obtain ⟨y10, μ8, hr9, h⟩ := sh_bind_e h
      have hG8 := gp_X8_fails hG4 hr9
      have hF8 := hF4.trans (ci_X8_fails hr9 (by decide))
      obtain ⟨k11, h⟩ := sh_chk h
      obtain ⟨e1, e2⟩ := sh_some2 h
      exact e2 ▸ hF8
theorem ci_X6_asPerson {a1 : Int32} {μ μ' : sh_Mem} {v : Int32} (hG : sh_G μ) (h : f_X6_asPerson a1 μ = some (v, μ')) : cI μ μ' := by
  have hF : cI μ μ := cI.rf
  unfold f_X6_asPerson at h
  obtain ⟨k1, h⟩ := sh_chk h
  obtain ⟨r2, er2⟩ : ∃ y : Nat, y = (sh_ref μ 7 2) := ⟨_, rfl⟩
  rw [sh_let_eq er2] at h
  have k1r : sh_r μ 7 2 = some r2 ∧ (r2 = 8 ∨ r2 = 29) := by rw [er2]; exact k1
  obtain ⟨y5, μ3, hr4, h⟩ := sh_bind_e h
  have hG3 := gp_X5_personOf hG k1r.2 hr4
  have hF3 := hF.trans (ci_X5_personOf hG k1r.2 hr4)
  by_cases c6 : y5 = (-1)
  · rw [if_pos c6] at h
    obtain ⟨y9, μ7, hr8, h⟩ := sh_bind_e h
    have hG7 := gp_X8_fails hG3 hr8
    have hF7 := hF3.trans (ci_X8_fails hr8 (by decide))
    obtain ⟨e1, e2⟩ := sh_some2 h
    exact e2 ▸ hF7
  · rw [if_neg c6] at h
    obtain ⟨e1, e2⟩ := sh_some2 h
    exact e2 ▸ hF3
theorem ci_X6_asTopic {a1 : Int32} {μ μ' : sh_Mem} {v : Int32} (hG : sh_G μ) (h : f_X6_asTopic a1 μ = some (v, μ')) : cI μ μ' := by
  have hF : cI μ μ := cI.rf
  unfold f_X6_asTopic at h
  obtain ⟨k1, h⟩ := sh_chk h
  obtain ⟨r2, er2⟩ : ∃ y : Nat, y = (sh_ref μ 7 2) := ⟨_, rfl⟩
  rw [sh_let_eq er2] at h
  have k1r : sh_r μ 7 2 = some r2 ∧ (r2 = 8 ∨ r2 = 29) := by rw [er2]; exact k1
  obtain ⟨y5, μ3, hr4, h⟩ := sh_bind_e h
  have hG3 := gp_X5_topicOf hG k1r.2 hr4
  have hF3 := hF.trans (ci_X5_topicOf hG k1r.2 hr4)
  by_cases c6 : y5 = (-1)
  · rw [if_pos c6] at h
    obtain ⟨y9, μ7, hr8, h⟩ := sh_bind_e h
    have hG7 := gp_X8_fails hG3 hr8
    have hF7 := hF3.trans (ci_X8_fails hr8 (by decide))
    obtain ⟨e1, e2⟩ := sh_some2 h
    exact e2 ▸ hF7
  · rw [if_neg c6] at h
    obtain ⟨e1, e2⟩ := sh_some2 h
    exact e2 ▸ hF3
theorem cil_X8_advance (fuel : Nat) : (∀ ⦃i1 : Int32⦄ ⦃i2 : Int32⦄ ⦃μ μ' : sh_Mem⦄, sh_G μ → F_X8_advance fuel 1 i1 i2 μ = some μ' → cI μ μ') ∧ (∀ ⦃i1 : Int32⦄ ⦃i2 : Int32⦄ ⦃μ μ' : sh_Mem⦄, sh_G μ → F_X8_advance fuel 2 i1 i2 μ = some μ' → cI μ μ') ∧ (∀ ⦃i1 : Int32⦄ ⦃i2 : Int32⦄ ⦃μ μ' : sh_Mem⦄, sh_G μ → F_X8_advance fuel 3 i1 i2 μ = some μ' → cI μ μ') ∧ (∀ ⦃i1 : Int32⦄ ⦃i2 : Int32⦄ ⦃μ μ' : sh_Mem⦄, sh_G μ → F_X8_advance fuel 4 i1 i2 μ = some μ' → cI μ μ') ∧ (∀ ⦃i1 : Int32⦄ ⦃i2 : Int32⦄ ⦃μ μ' : sh_Mem⦄, sh_G μ → F_X8_advance fuel 5 i1 i2 μ = some μ' → cI μ μ') ∧ (∀ ⦃i1 : Int32⦄ ⦃i2 : Int32⦄ ⦃μ μ' : sh_Mem⦄, sh_G μ → F_X8_advance fuel 6 i1 i2 μ = some μ' → cI μ μ') ∧ (∀ ⦃i1 : Int32⦄ ⦃i2 : Int32⦄ ⦃μ μ' : sh_Mem⦄, sh_G μ → F_X8_advance fuel 7 i1 i2 μ = some μ' → cI μ μ') ∧ (∀ ⦃i1 : Int32⦄ ⦃i2 : Int32⦄ ⦃μ μ' : sh_Mem⦄, sh_G μ → F_X8_advance fuel 8 i1 i2 μ = some μ' → cI μ μ') ∧ (∀ ⦃i1 : Int32⦄ ⦃i2 : Int32⦄ ⦃μ μ' : sh_Mem⦄, sh_G μ → F_X8_advance fuel 9 i1 i2 μ = some μ' → cI μ μ') := by
  induction fuel with
  | zero => exact ⟨(by intro i1 i2 μ μ' hG h; cases h), (by intro i1 i2 μ μ' hG h; cases h), (by intro i1 i2 μ μ' hG h; cases h), (by intro i1 i2 μ μ' hG h; cases h), (by intro i1 i2 μ μ' hG h; cases h), (by intro i1 i2 μ μ' hG h; cases h), (by intro i1 i2 μ μ' hG h; cases h), (by intro i1 i2 μ μ' hG h; cases h), (by intro i1 i2 μ μ' hG h; cases h)⟩
  | succ fuel ih =>
    obtain ⟨ih_18, ih_37, ih_76, ih_89, ih_175, ih_210, ih_233, ih_263, ih_269⟩ := ih
    refine ⟨?_, ?_, ?_, ?_, ?_, ?_, ?_, ?_, ?_⟩
    · intro i1 i2 μ μ' hG h
      replace h : (sh_let ((sh_i μ 2 2) : Int32) (fun x83 => sh_let (sh_setI μ 2 9 (sh_i μ 2 4)) (fun μ84 => F_X8_advance fuel 2 1 x83 μ84)) : Option sh_Mem) = some μ' := h
      have hF : cI μ μ := cI.rf
      obtain ⟨x83, ex83⟩ : ∃ y : Int32, y = (sh_i μ 2 2) := ⟨_, rfl⟩
      rw [sh_let_eq ex83] at h
      obtain ⟨μ84, eμ84⟩ : ∃ y : sh_Mem, y = (sh_setI μ 2 9 (sh_i μ 2 4)) := ⟨_, rfl⟩
      rw [sh_let_eq eμ84] at h
      have hG84 : sh_G μ84 := by rw [eμ84]; exact hG
      have hF84 : cI μ μ84 := by rw [eμ84]; exact cI_I hF (by first | exact Or.inl (by decide) | exact Or.inr (by decide))
      exact hF84.trans (ih_37 hG84 h)
    · intro i1 i2 μ μ' hG h
      replace h : ((if (sh_i μ 2 1) ≤ (sh_i μ 2 2) then F_X8_advance fuel 4 i1 i2 μ else (if sh_in (sh_i μ 2 2) 1600 then (if (sh_i μ 1 ((sh_i μ 2 2)).toNatClampNeg) = 10 then F_X8_advance fuel 3 i1 i2 μ else (if sh_in (sh_i μ 2 2) 1600 then (if (sh_i μ 1 ((sh_i μ 2 2)).toNatClampNeg) = 32 then F_X8_advance fuel 3 i1 i2 μ else F_X8_advance fuel 4 i1 i2 μ) else none)) else none)) : Option sh_Mem) = some μ' := h
      have hF : cI μ μ := cI.rf
      by_cases c85 : (sh_i μ 2 1) ≤ (sh_i μ 2 2)
      · rw [if_pos c85] at h
        exact hF.trans (ih_89 hG h)
      · rw [if_neg c85] at h
        obtain ⟨k86, h⟩ := sh_chk h
        by_cases c87 : (sh_i μ 1 ((sh_i μ 2 2)).toNatClampNeg) = 10
        · rw [if_pos c87] at h
          exact hF.trans (ih_76 hG h)
        · rw [if_neg c87] at h
          obtain ⟨k88, h⟩ := sh_chk h
          by_cases c89 : (sh_i μ 1 ((sh_i μ 2 2)).toNatClampNeg) = 32
          · rw [if_pos c89] at h
            exact hF.trans (ih_76 hG h)
          · rw [if_neg c89] at h
            exact hF.trans (ih_89 hG h)
    · intro i1 i2 μ μ' hG h
      replace h : (sh_let (sh_setI μ 2 2 ((sh_i μ 2 2) + 1)) (fun μ90 => F_X8_advance fuel 2 i1 i2 μ90) : Option sh_Mem) = some μ' := h
      have hF : cI μ μ := cI.rf
      obtain ⟨μ90, eμ90⟩ : ∃ y : sh_Mem, y = (sh_setI μ 2 2 ((sh_i μ 2 2) + 1)) := ⟨_, rfl⟩
      rw [sh_let_eq eμ90] at h
      have hG90 : sh_G μ90 := by rw [eμ90]; exact hG
      have hF90 : cI μ μ90 := by rw [eμ90]; exact cI_I hF (by first | exact Or.inl (by decide) | exact Or.inr (by decide))
      exact hF90.trans (ih_37 hG90 h)
    · intro i1 i2 μ μ' hG h
      replace h : (sh_let (sh_setI μ 2 4 (sh_i μ 2 2)) (fun μ91 => (if (sh_i μ91 2 2) < (sh_i μ91 2 1) then (if sh_in (sh_i μ91 2 2) 1600 then (if (sh_i μ91 1 ((sh_i μ91 2 2)).toNatClampNeg) < 97 then F_X8_advance fuel 5 i1 i2 μ91 else (if sh_in (sh_i μ91 2 2) 1600 then (if 122 < (sh_i μ91 1 ((sh_i μ91 2 2)).toNatClampNeg) then F_X8_advance fuel 5 i1 i2 μ91 else sh_bindv (f_X8_takeLetters μ91) (fun μ97 => (if (sh_i μ97 2 5) ≤ 6 then sh_bind (f_X8_wordOf (sh_i μ97 2 7) μ97) (fun y103 μ101 => sh_let (sh_setI μ101 2 6 y103) (fun μ104 => F_X8_advance fuel 7 i1 i2 μ104)) else sh_let (sh_setI μ97 2 6 (-1)) (fun μ105 => F_X8_advance fuel 7 i1 i2 μ105)))) else none)) else none) else sh_let (sh_setI μ91 2 3 (-1)) (fun μ106 => F_X8_advance fuel 7 i1 i2 μ106))) : Option sh_Mem) = some μ' := h
      have hF : cI μ μ := cI.rf
      obtain ⟨μ91, eμ91⟩ : ∃ y : sh_Mem, y = (sh_setI μ 2 4 (sh_i μ 2 2)) := ⟨_, rfl⟩
      rw [sh_let_eq eμ91] at h
      have hG91 : sh_G μ91 := by rw [eμ91]; exact hG
      have hF91 : cI μ μ91 := by rw [eμ91]; exact cI_I hF (by first | exact Or.inl (by decide) | exact Or.inr (by decide))
      by_cases c92 : (sh_i μ91 2 2) < (sh_i μ91 2 1)
      · rw [if_pos c92] at h
        obtain ⟨k93, h⟩ := sh_chk h
        by_cases c94 : (sh_i μ91 1 ((sh_i μ91 2 2)).toNatClampNeg) < 97
        · rw [if_pos c94] at h
          exact hF91.trans (ih_175 hG91 h)
        · rw [if_neg c94] at h
          obtain ⟨k95, h⟩ := sh_chk h
          by_cases c96 : 122 < (sh_i μ91 1 ((sh_i μ91 2 2)).toNatClampNeg)
          · rw [if_pos c96] at h
            exact hF91.trans (ih_175 hG91 h)
          · rw [if_neg c96] at h
            obtain ⟨μ97, hr98, h⟩ := sh_bindv_e h
            have hG97 := gp_X8_takeLetters hG91 hr98
            have hF97 := hF91.trans (ci_X8_takeLetters hG91 hr98)
            by_cases c100 : (sh_i μ97 2 5) ≤ 6
            · rw [if_pos c100] at h
              obtain ⟨y103, μ101, hr102, h⟩ := sh_bind_e h
              have hG101 := gp_X8_wordOf hG97 hr102
              have hF101 := hF97.trans (ci_X8_wordOf hG97 hr102)
              obtain ⟨μ104, eμ104⟩ : ∃ y : sh_Mem, y = (sh_setI μ101 2 6 y103) := ⟨_, rfl⟩
              rw [sh_let_eq eμ104] at h
              have hG104 : sh_G μ104 := by rw [eμ104]; exact hG101
              have hF104 : cI μ μ104 := by rw [eμ104]; exact cI_I hF101 (by first | exact Or.inl (by decide) | exact Or.inr (by decide))
              exact hF104.trans (ih_233 hG104 h)
            · rw [if_neg c100] at h
              obtain ⟨μ105, eμ105⟩ : ∃ y : sh_Mem, y = (sh_setI μ97 2 6 (-1)) := ⟨_, rfl⟩
              rw [sh_let_eq eμ105] at h
              have hG105 : sh_G μ105 := by rw [eμ105]; exact hG97
              have hF105 : cI μ μ105 := by rw [eμ105]; exact cI_I hF97 (by first | exact Or.inl (by decide) | exact Or.inr (by decide))
              exact hF105.trans (ih_233 hG105 h)
      · rw [if_neg c92] at h
        obtain ⟨μ106, eμ106⟩ : ∃ y : sh_Mem, y = (sh_setI μ91 2 3 (-1)) := ⟨_, rfl⟩
        rw [sh_let_eq eμ106] at h
        have hG106 : sh_G μ106 := by rw [eμ106]; exact hG91
        have hF106 : cI μ μ106 := by rw [eμ106]; exact cI_I hF91 (by first | exact Or.inl (by decide) | exact Or.inr (by decide))
        exact hF106.trans (ih_233 hG106 h)
    · intro i1 i2 μ μ' hG h
      replace h : ((if sh_in (sh_i μ 2 2) 1600 then (if (sh_i μ 1 ((sh_i μ 2 2)).toNatClampNeg) < 48 then F_X8_advance fuel 6 i1 i2 μ else (if sh_in (sh_i μ 2 2) 1600 then (if 57 < (sh_i μ 1 ((sh_i μ 2 2)).toNatClampNeg) then F_X8_advance fuel 6 i1 i2 μ else sh_bindv (f_X8_takeDigits μ) (fun μ111 => F_X8_advance fuel 7 i1 i2 μ111)) else none)) else none) : Option sh_Mem) = some μ' := h
      have hF : cI μ μ := cI.rf
      obtain ⟨k107, h⟩ := sh_chk h
      by_cases c108 : (sh_i μ 1 ((sh_i μ 2 2)).toNatClampNeg) < 48
      · rw [if_pos c108] at h
        exact hF.trans (ih_210 hG h)
      · rw [if_neg c108] at h
        obtain ⟨k109, h⟩ := sh_chk h
        by_cases c110 : 57 < (sh_i μ 1 ((sh_i μ 2 2)).toNatClampNeg)
        · rw [if_pos c110] at h
          exact hF.trans (ih_210 hG h)
        · rw [if_neg c110] at h
          obtain ⟨μ111, hr112, h⟩ := sh_bindv_e h
          have hG111 := gp_X8_takeDigits hG hr112
          have hF111 := hF.trans (ci_X8_takeDigits hG hr112)
          exact hF111.trans (ih_233 hG111 h)
    · intro i1 i2 μ μ' hG h
      replace h : ((if sh_in (sh_i μ 2 2) 1600 then sh_let (sh_setI μ 2 3 (sh_i μ 1 ((sh_i μ 2 2)).toNatClampNeg)) (fun μ115 => sh_let (sh_setI μ115 2 2 ((sh_i μ115 2 2) + 1)) (fun μ116 => F_X8_advance fuel 7 i1 i2 μ116)) else none) : Option sh_Mem) = some μ' := h
      have hF : cI μ μ := cI.rf
      obtain ⟨k114, h⟩ := sh_chk h
      obtain ⟨μ115, eμ115⟩ : ∃ y : sh_Mem, y = (sh_setI μ 2 3 (sh_i μ 1 ((sh_i μ 2 2)).toNatClampNeg)) := ⟨_, rfl⟩
      rw [sh_let_eq eμ115] at h
      have hG115 : sh_G μ115 := by rw [eμ115]; exact hG
      have hF115 : cI μ μ115 := by rw [eμ115]; exact cI_I hF (by first | exact Or.inl (by decide) | exact Or.inr (by decide))
      obtain ⟨μ116, eμ116⟩ : ∃ y : sh_Mem, y = (sh_setI μ115 2 2 ((sh_i μ115 2 2) + 1)) := ⟨_, rfl⟩
      rw [sh_let_eq eμ116] at h
      have hG116 : sh_G μ116 := by rw [eμ116]; exact hG115
      have hF116 : cI μ μ116 := by rw [eμ116]; exact cI_I hF115 (by first | exact Or.inl (by decide) | exact Or.inr (by decide))
      exact hF116.trans (ih_233 hG116 h)
    · intro i1 i2 μ μ' hG h
      replace h : ((if i1 = 0 then F_X8_advance fuel 9 i1 i2 μ else (if (sh_i μ 2 4) = i2 then (if (sh_i μ 2 3) = (-2) then F_X8_advance fuel 8 i1 i2 μ else (if (sh_i μ 2 3) = (-3) then F_X8_advance fuel 8 i1 i2 μ else F_X8_advance fuel 9 i1 i2 μ)) else F_X8_advance fuel 9 i1 i2 μ)) : Option sh_Mem) = some μ' := h
      have hF : cI μ μ := cI.rf
      by_cases c117 : i1 = 0
      · rw [if_pos c117] at h
        exact hF.trans (ih_269 hG h)
      · rw [if_neg c117] at h
        by_cases c118 : (sh_i μ 2 4) = i2
        · rw [if_pos c118] at h
          by_cases c119 : (sh_i μ 2 3) = (-2)
          · rw [if_pos c119] at h
            exact hF.trans (ih_263 hG h)
          · rw [if_neg c119] at h
            by_cases c120 : (sh_i μ 2 3) = (-3)
            · rw [if_pos c120] at h
              exact hF.trans (ih_263 hG h)
            · rw [if_neg c120] at h
              exact hF.trans (ih_269 hG h)
        · rw [if_neg c118] at h
          exact hF.trans (ih_269 hG h)
    · intro i1 i2 μ μ' hG h
      replace h : (sh_let (sh_setI μ 2 3 (-4)) (fun μ121 => F_X8_advance fuel 9 i1 i2 μ121) : Option sh_Mem) = some μ' := h
      have hF : cI μ μ := cI.rf
      obtain ⟨μ121, eμ121⟩ : ∃ y : sh_Mem, y = (sh_setI μ 2 3 (-4)) := ⟨_, rfl⟩
      rw [sh_let_eq eμ121] at h
      have hG121 : sh_G μ121 := by rw [eμ121]; exact hG
      have hF121 : cI μ μ121 := by rw [eμ121]; exact cI_I hF (by first | exact Or.inl (by decide) | exact Or.inr (by decide))
      exact hF121.trans (ih_269 hG121 h)
    · intro i1 i2 μ μ' hG h
      replace h : (some μ : Option sh_Mem) = some μ' := h
      have hF : cI μ μ := cI.rf
      have e2 := Option.some.inj h
      exact e2 ▸ hF
theorem ci_X8_advance {μ μ' : sh_Mem} (hG : sh_G μ) (h : f_X8_advance μ = some μ') : cI μ μ' := by
  have ih_18 := (cil_X8_advance sh_fuel).1
  have ih_37 := (cil_X8_advance sh_fuel).2.1
  have ih_76 := (cil_X8_advance sh_fuel).2.2.1
  have ih_89 := (cil_X8_advance sh_fuel).2.2.2.1
  have ih_175 := (cil_X8_advance sh_fuel).2.2.2.2.1
  have ih_210 := (cil_X8_advance sh_fuel).2.2.2.2.2.1
  have ih_233 := (cil_X8_advance sh_fuel).2.2.2.2.2.2.1
  have ih_263 := (cil_X8_advance sh_fuel).2.2.2.2.2.2.2.1
  have ih_269 := (cil_X8_advance sh_fuel).2.2.2.2.2.2.2.2
  have hF : cI μ μ := cI.rf
  unfold f_X8_advance at h
  by_cases c122 : (sh_i μ 2 3) = (-2)
  · rw [if_pos c122] at h
    exact hF.trans (ih_18 hG h)
  · rw [if_neg c122] at h
    by_cases c123 : (sh_i μ 2 3) = (-3)
    · rw [if_pos c123] at h
      exact hF.trans (ih_18 hG h)
    · rw [if_neg c123] at h
      obtain ⟨x124, ex124⟩ : ∃ y : Int32, y = (sh_i μ 2 2) := ⟨_, rfl⟩
      rw [sh_let_eq ex124] at h
      obtain ⟨μ125, eμ125⟩ : ∃ y : sh_Mem, y = (sh_setI μ 2 9 (sh_i μ 2 4)) := ⟨_, rfl⟩
      rw [sh_let_eq eμ125] at h
      have hG125 : sh_G μ125 := by rw [eμ125]; exact hG
      have hF125 : cI μ μ125 := by rw [eμ125]; exact cI_I hF (by first | exact Or.inl (by decide) | exact Or.inr (by decide))
      exact hF125.trans (ih_37 hG125 h)
theorem ci_X8_takesWord {a1 : Int32} {μ μ' : sh_Mem} {v : Int32} (hG : sh_G μ) (h : f_X8_takesWord a1 μ = some (v, μ')) : cI μ μ' := by
  have hF : cI μ μ := cI.rf
  unfold f_X8_takesWord at h
  by_cases c1 : (f_X8_isWord μ a1) = 0
  · rw [if_pos c1] at h
    obtain ⟨y7, μ5, hr6, h⟩ := sh_bind_e h
    have hG5 := gp_X8_fails hG hr6
    have hF5 := hF.trans (ci_X8_fails hr6 (by decide))
    obtain ⟨k8, h⟩ := sh_chk h
    obtain ⟨e1, e2⟩ := sh_some2 h
    exact e2 ▸ hF5
  · rw [if_neg c1] at h
    obtain ⟨μ2, hr3, h⟩ := sh_bindv_e h
    have hG2 := gp_X8_advance hG hr3
    have hF2 := hF.trans (ci_X8_advance hG hr3)
    obtain ⟨e1, e2⟩ := sh_some2 h
    exact e2 ▸ hF2
theorem ci_X8_takesMark {a1 : Int32} {μ μ' : sh_Mem} {v : Int32} (hG : sh_G μ) (h : f_X8_takesMark a1 μ = some (v, μ')) : cI μ μ' := by
  have hF : cI μ μ := cI.rf
  unfold f_X8_takesMark at h
  by_cases c1 : (sh_i μ 2 3) = a1
  · rw [if_pos c1] at h
    obtain ⟨μ2, hr3, h⟩ := sh_bindv_e h
    have hG2 := gp_X8_advance hG hr3
    have hF2 := hF.trans (ci_X8_advance hG hr3)
    obtain ⟨e1, e2⟩ := sh_some2 h
    exact e2 ▸ hF2
  · rw [if_neg c1] at h
    obtain ⟨y7, μ5, hr6, h⟩ := sh_bind_e h
    have hG5 := gp_X8_fails hG hr6
    have hF5 := hF.trans (ci_X8_fails hr6 (by decide))
    obtain ⟨k8, h⟩ := sh_chk h
    obtain ⟨e1, e2⟩ := sh_some2 h
    exact e2 ▸ hF5
theorem ci_X8_takeNumber {a1 : Int32} {a2 : Int32} {μ μ' : sh_Mem} {v : Int32} (hG : sh_G μ) (h : f_X8_takeNumber a1 a2 μ = some (v, μ')) : cI μ μ' := by
  have hF : cI μ μ := cI.rf
  unfold f_X8_takeNumber at h
  by_cases c1 : (sh_i μ 2 3) = (-3)
  · rw [if_pos c1] at h
    by_cases c2 : (sh_i μ 2 5) ≤ 4
    · rw [if_pos c2] at h
      by_cases c3 : (sh_i μ 2 8) < a1
      · rw [if_pos c3] at h
        obtain ⟨y6, μ4, hr5, h⟩ := sh_bind_e h
        have hG4 := gp_X8_fails hG hr5
        have hF4 := hF.trans (ci_X8_fails hr5 (by decide))
        obtain ⟨e1, e2⟩ := sh_some2 h
        exact e2 ▸ hF4
      · rw [if_neg c3] at h
        by_cases c7 : (sh_i μ 2 8) ≤ a2
        · rw [if_pos c7] at h
          obtain ⟨x8, ex8⟩ : ∃ y : Int32, y = (sh_i μ 2 8) := ⟨_, rfl⟩
          rw [sh_let_eq ex8] at h
          obtain ⟨μ9, hr10, h⟩ := sh_bindv_e h
          have hG9 := gp_X8_advance hG hr10
          have hF9 := hF.trans (ci_X8_advance hG hr10)
          obtain ⟨e1, e2⟩ := sh_some2 h
          exact e2 ▸ hF9
        · rw [if_neg c7] at h
          obtain ⟨y14, μ12, hr13, h⟩ := sh_bind_e h
          have hG12 := gp_X8_fails hG hr13
          have hF12 := hF.trans (ci_X8_fails hr13 (by decide))
          obtain ⟨e1, e2⟩ := sh_some2 h
          exact e2 ▸ hF12
    · rw [if_neg c2] at h
      obtain ⟨y17, μ15, hr16, h⟩ := sh_bind_e h
      have hG15 := gp_X8_fails hG hr16
      have hF15 := hF.trans (ci_X8_fails hr16 (by decide))
      obtain ⟨e1, e2⟩ := sh_some2 h
      exact e2 ▸ hF15
  · rw [if_neg c1] at h
    obtain ⟨y20, μ18, hr19, h⟩ := sh_bind_e h
    have hG18 := gp_X8_fails hG hr19
    have hF18 := hF.trans (ci_X8_fails hr19 (by decide))
    obtain ⟨e1, e2⟩ := sh_some2 h
    exact e2 ▸ hF18
theorem ci_X8_takeName {μ μ' : sh_Mem} {v : Int32} (hG : sh_G μ) (h : f_X8_takeName μ = some (v, μ')) : cI μ μ' := by
  have hF : cI μ μ := cI.rf
  unfold f_X8_takeName at h
  by_cases c1 : (sh_i μ 2 3) = (-2)
  · rw [if_pos c1] at h
    by_cases c2 : (sh_i μ 2 5) ≤ 6
    · rw [if_pos c2] at h
      by_cases c3 : (sh_i μ 2 6) = (-1)
      · rw [if_pos c3] at h
        obtain ⟨x4, ex4⟩ : ∃ y : Int32, y = (sh_i μ 2 7) := ⟨_, rfl⟩
        rw [sh_let_eq ex4] at h
        obtain ⟨μ5, hr6, h⟩ := sh_bindv_e h
        have hG5 := gp_X8_advance hG hr6
        have hF5 := hF.trans (ci_X8_advance hG hr6)
        obtain ⟨e1, e2⟩ := sh_some2 h
        exact e2 ▸ hF5
      · rw [if_neg c3] at h
        by_cases c8 : 27 ≤ (sh_i μ 2 6)
        · rw [if_pos c8] at h
          obtain ⟨x9, ex9⟩ : ∃ y : Int32, y = (sh_i μ 2 7) := ⟨_, rfl⟩
          rw [sh_let_eq ex9] at h
          obtain ⟨μ10, hr11, h⟩ := sh_bindv_e h
          have hG10 := gp_X8_advance hG hr11
          have hF10 := hF.trans (ci_X8_advance hG hr11)
          obtain ⟨e1, e2⟩ := sh_some2 h
          exact e2 ▸ hF10
        · rw [if_neg c8] at h
          obtain ⟨y15, μ13, hr14, h⟩ := sh_bind_e h
          have hG13 := gp_X8_fails hG hr14
          have hF13 := hF.trans (ci_X8_fails hr14 (by decide))
          obtain ⟨e1, e2⟩ := sh_some2 h
          exact e2 ▸ hF13
    · rw [if_neg c2] at h
      obtain ⟨y18, μ16, hr17, h⟩ := sh_bind_e h
      have hG16 := gp_X8_fails hG hr17
      have hF16 := hF.trans (ci_X8_fails hr17 (by decide))
      obtain ⟨e1, e2⟩ := sh_some2 h
      exact e2 ▸ hF16
  · rw [if_neg c1] at h
    obtain ⟨y21, μ19, hr20, h⟩ := sh_bind_e h
    have hG19 := gp_X8_fails hG hr20
    have hF19 := hF.trans (ci_X8_fails hr20 (by decide))
    obtain ⟨e1, e2⟩ := sh_some2 h
    exact e2 ▸ hF19
theorem ci_X2_opens {a1 : Int32} {μ μ' : sh_Mem} {v : Int32} (hG : sh_G μ) (h : f_X2_opens a1 μ = some (v, μ')) : cI μ μ' := by
  have hF : cI μ μ := cI.rf
  unfold f_X2_opens at h
  by_cases c1 : a1 < 6
  · rw [if_pos c1] at h
    obtain ⟨μ2, hr3, h⟩ := sh_bindv_e h
    have hG2 := gp_X8_advance hG hr3
    have hF2 := hF.trans (ci_X8_advance hG hr3)
    obtain ⟨e1, e2⟩ := sh_some2 h
    exact e2 ▸ hF2
  · rw [if_neg c1] at h
    obtain ⟨y7, μ5, hr6, h⟩ := sh_bind_e h
    have hG5 := gp_X8_fails hG hr6
    have hF5 := hF.trans (ci_X8_fails hr6 (by decide))
    obtain ⟨k8, h⟩ := sh_chk h
    obtain ⟨e1, e2⟩ := sh_some2 h
    exact e2 ▸ hF5
theorem ci_X6_readPlain {μ μ' : sh_Mem} {v : Int32} (hG : sh_G μ) (h : f_X6_readPlain μ = some (v, μ')) : cI μ μ' := by
  have hF : cI μ μ := cI.rf
  unfold f_X6_readPlain at h
  obtain ⟨y3, μ1, hr2, h⟩ := sh_bind_e h
  have hG1 := gp_X8_takesWord hG hr2
  have hF1 := hF.trans (ci_X8_takesWord hG hr2)
  by_cases c4 : y3 = 0
  · rw [if_pos c4] at h
    obtain ⟨e1, e2⟩ := sh_some2 h
    exact e2 ▸ hF1
  · rw [if_neg c4] at h
    obtain ⟨y7, μ5, hr6, h⟩ := sh_bind_e h
    have hG5 := gp_X8_takeNumber hG1 hr6
    have hF5 := hF1.trans (ci_X8_takeNumber hG1 hr6)
    by_cases c8 : y7 = (-1)
    · rw [if_pos c8] at h
      obtain ⟨e1, e2⟩ := sh_some2 h
      exact e2 ▸ hF5
    · rw [if_neg c8] at h
      obtain ⟨y11, μ9, hr10, h⟩ := sh_bind_e h
      have hG9 := gp_X8_takesWord hG5 hr10
      have hF9 := hF5.trans (ci_X8_takesWord hG5 hr10)
      by_cases c12 : y11 = 0
      · rw [if_pos c12] at h
        obtain ⟨e1, e2⟩ := sh_some2 h
        exact e2 ▸ hF9
      · rw [if_neg c12] at h
        obtain ⟨y15, μ13, hr14, h⟩ := sh_bind_e h
        have hG13 := gp_X8_takeNumber hG9 hr14
        have hF13 := hF9.trans (ci_X8_takeNumber hG9 hr14)
        by_cases c16 : y15 = (-1)
        · rw [if_pos c16] at h
          obtain ⟨e1, e2⟩ := sh_some2 h
          exact e2 ▸ hF13
        · rw [if_neg c16] at h
          obtain ⟨y19, μ17, hr18, h⟩ := sh_bind_e h
          have hG17 := gp_X8_takesMark hG13 hr18
          have hF17 := hF13.trans (ci_X8_takesMark hG13 hr18)
          by_cases c20 : y19 = 0
          · rw [if_pos c20] at h
            obtain ⟨e1, e2⟩ := sh_some2 h
            exact e2 ▸ hF17
          · rw [if_neg c20] at h
            obtain ⟨k21, h⟩ := sh_chk h
            obtain ⟨r22, er22⟩ : ∃ y : Nat, y = (sh_ref μ17 7 2) := ⟨_, rfl⟩
            rw [sh_let_eq er22] at h
            have k21r : sh_r μ17 7 2 = some r22 ∧ (r22 = 8 ∨ r22 = 29) := by rw [er22]; exact k21
            obtain ⟨μ23, eμ23⟩ : ∃ y : sh_Mem, y = (sh_setI μ17 r22 0 y7) := ⟨_, rfl⟩
            rw [sh_let_eq eμ23] at h
            have hG23 : sh_G μ23 := by rw [eμ23]; exact hG17
            have hF23 : cI μ μ23 := by rw [eμ23]; exact cI_I hF17 (Or.inl <| sh_neP k21r.2 0 (by decide))
            obtain ⟨k24, h⟩ := sh_chk h
            obtain ⟨r25, er25⟩ : ∃ y : Nat, y = (sh_ref μ23 7 2) := ⟨_, rfl⟩
            rw [sh_let_eq er25] at h
            have k24r : sh_r μ23 7 2 = some r25 ∧ (r25 = 8 ∨ r25 = 29) := by rw [er25]; exact k24
            obtain ⟨μ26, eμ26⟩ : ∃ y : sh_Mem, y = (sh_setI μ23 r25 1 y15) := ⟨_, rfl⟩
            rw [sh_let_eq eμ26] at h
            have hG26 : sh_G μ26 := by rw [eμ26]; exact hG23
            have hF26 : cI μ μ26 := by rw [eμ26]; exact cI_I hF23 (Or.inl <| sh_neP k24r.2 0 (by decide))
            obtain ⟨e1, e2⟩ := sh_some2 h
            exact e2 ▸ hF26
theorem ci_X6_readHigh {μ μ' : sh_Mem} {v : Int32} (hG : sh_G μ) (h : f_X6_readHigh μ = some (v, μ')) : cI μ μ' := by
  have hF : cI μ μ := cI.rf
  unfold f_X6_readHigh at h
  obtain ⟨μ1, hr2, h⟩ := sh_bindv_e h
  have hG1 := gp_X8_advance hG hr2
  have hF1 := hF.trans (ci_X8_advance hG hr2)
  obtain ⟨k4, h⟩ := sh_chk h
  obtain ⟨r5, er5⟩ : ∃ y : Nat, y = (sh_ref μ1 7 2) := ⟨_, rfl⟩
  rw [sh_let_eq er5] at h
  have k4r : sh_r μ1 7 2 = some r5 ∧ (r5 = 8 ∨ r5 = 29) := by rw [er5]; exact k4
  obtain ⟨y8, μ6, hr7, h⟩ := sh_bind_e h
  have hG6 := gp_X8_takeNumber hG1 hr7
  have hF6 := hF1.trans (ci_X8_takeNumber hG1 hr7)
  by_cases c9 : y8 = (-1)
  · rw [if_pos c9] at h
    obtain ⟨e1, e2⟩ := sh_some2 h
    exact e2 ▸ hF6
  · rw [if_neg c9] at h
    obtain ⟨k10, h⟩ := sh_chk h
    obtain ⟨r11, er11⟩ : ∃ y : Nat, y = (sh_ref μ6 7 2) := ⟨_, rfl⟩
    rw [sh_let_eq er11] at h
    have k10r : sh_r μ6 7 2 = some r11 ∧ (r11 = 8 ∨ r11 = 29) := by rw [er11]; exact k10
    obtain ⟨y14, μ12, hr13, h⟩ := sh_bind_e h
    have hG12 := gp_X8_takeNumber hG6 hr13
    have hF12 := hF6.trans (ci_X8_takeNumber hG6 hr13)
    by_cases c15 : y14 = (-1)
    · rw [if_pos c15] at h
      obtain ⟨e1, e2⟩ := sh_some2 h
      exact e2 ▸ hF12
    · rw [if_neg c15] at h
      obtain ⟨y18, μ16, hr17, h⟩ := sh_bind_e h
      have hG16 := gp_X8_takeNumber hG12 hr17
      have hF16 := hF12.trans (ci_X8_takeNumber hG12 hr17)
      obtain ⟨k19, h⟩ := sh_chk h
      obtain ⟨r20, er20⟩ : ∃ y : Nat, y = (sh_ref μ16 7 2) := ⟨_, rfl⟩
      rw [sh_let_eq er20] at h
      have k19r : sh_r μ16 7 2 = some r20 ∧ (r20 = 8 ∨ r20 = 29) := by rw [er20]; exact k19
      obtain ⟨x21, ex21⟩ : ∃ y : Int32, y = (f_X5_cellAt μ16 r20 y8 y14) := ⟨_, rfl⟩
      rw [sh_let_eq ex21] at h
      by_cases c22 : y18 = (-1)
      · rw [if_pos c22] at h
        obtain ⟨e1, e2⟩ := sh_some2 h
        exact e2 ▸ hF16
      · rw [if_neg c22] at h
        by_cases c23 : x21 = (-1)
        · rw [if_pos c23] at h
          obtain ⟨e1, e2⟩ := sh_some2 h
          exact e2 ▸ hF16
        · rw [if_neg c23] at h
          obtain ⟨k24, h⟩ := sh_chk h
          obtain ⟨r25, er25⟩ : ∃ y : Nat, y = (sh_ref μ16 7 2) := ⟨_, rfl⟩
          rw [sh_let_eq er25] at h
          have k24r : sh_r μ16 7 2 = some r25 ∧ (r25 = 8 ∨ r25 = 29) := by rw [er25]; exact k24
          obtain ⟨k26, h⟩ := sh_chk h
          obtain ⟨μ27, eμ27⟩ : ∃ y : sh_Mem, y = (sh_setI μ16 ((r25 + 14) + 1) x21.toNatClampNeg y18) := ⟨_, rfl⟩
          rw [sh_let_eq eμ27] at h
          have hG27 : sh_G μ27 := by rw [eμ27]; exact hG16
          have hF27 : cI μ μ27 := by rw [eμ27]; exact cI_I hF16 (Or.inl <| sh_neL (gP_land k24r.2) 1 (by decide))
          obtain ⟨e1, e2⟩ := sh_some2 h
          exact e2 ▸ hF27
theorem ci_X6_readTopic {μ μ' : sh_Mem} {v : Int32} (hG : sh_G μ) (h : f_X6_readTopic μ = some (v, μ')) : cI μ μ' := by
  have hF : cI μ μ := cI.rf
  unfold f_X6_readTopic at h
  obtain ⟨μ1, hr2, h⟩ := sh_bindv_e h
  have hG1 := gp_X8_advance hG hr2
  have hF1 := hF.trans (ci_X8_advance hG hr2)
  obtain ⟨y6, μ4, hr5, h⟩ := sh_bind_e h
  have hG4 := gp_X8_takeName hG1 hr5
  have hF4 := hF1.trans (ci_X8_takeName hG1 hr5)
  obtain ⟨y9, μ7, hr8, h⟩ := sh_bind_e h
  have hG7 := gp_X6_isNew hG4 hr8
  have hF7 := hF4.trans (ci_X6_isNew hG4 hr8)
  by_cases c10 : y9 = 0
  · rw [if_pos c10] at h
    obtain ⟨e1, e2⟩ := sh_some2 h
    exact e2 ▸ hF7
  · rw [if_neg c10] at h
    obtain ⟨k11, h⟩ := sh_chk h
    obtain ⟨r12, er12⟩ : ∃ y : Nat, y = (sh_ref μ7 7 2) := ⟨_, rfl⟩
    rw [sh_let_eq er12] at h
    have k11r : sh_r μ7 7 2 = some r12 ∧ (r12 = 8 ∨ r12 = 29) := by rw [er12]; exact k11
    obtain ⟨k13, h⟩ := sh_chk h
    obtain ⟨r14, er14⟩ : ∃ y : Nat, y = (sh_ref μ7 7 2) := ⟨_, rfl⟩
    rw [sh_let_eq er14] at h
    have k13r : sh_r μ7 7 2 = some r14 ∧ (r14 = 8 ∨ r14 = 29) := by rw [er14]; exact k13
    obtain ⟨k15, h⟩ := sh_chk h
    obtain ⟨μ16, eμ16⟩ : ∃ y : sh_Mem, y = (sh_setI μ7 (r12 + 1) ((sh_i μ7 r14 2)).toNatClampNeg y6) := ⟨_, rfl⟩
    rw [sh_let_eq eμ16] at h
    have hG16 : sh_G μ16 := by rw [eμ16]; exact hG7
    have hF16 : cI μ μ16 := by rw [eμ16]; exact cI_I hF7 (Or.inl <| sh_neP k11r.2 1 (by decide))
    obtain ⟨k17, h⟩ := sh_chk h
    obtain ⟨r18, er18⟩ : ∃ y : Nat, y = (sh_ref μ16 7 2) := ⟨_, rfl⟩
    rw [sh_let_eq er18] at h
    have k17r : sh_r μ16 7 2 = some r18 ∧ (r18 = 8 ∨ r18 = 29) := by rw [er18]; exact k17
    obtain ⟨μ19, eμ19⟩ : ∃ y : sh_Mem, y = (sh_setI μ16 r18 2 ((sh_i μ16 r18 2) + 1)) := ⟨_, rfl⟩
    rw [sh_let_eq eμ19] at h
    have hG19 : sh_G μ19 := by rw [eμ19]; exact hG16
    have hF19 : cI μ μ19 := by rw [eμ19]; exact cI_I hF16 (Or.inl <| sh_neP k17r.2 0 (by decide))
    obtain ⟨e1, e2⟩ := sh_some2 h
    exact e2 ▸ hF19
theorem ci_X6_readPerson {μ μ' : sh_Mem} {v : Int32} (hG : sh_G μ) (h : f_X6_readPerson μ = some (v, μ')) : cI μ μ' := by
  have hF : cI μ μ := cI.rf
  unfold f_X6_readPerson at h
  obtain ⟨μ1, hr2, h⟩ := sh_bindv_e h
  have hG1 := gp_X8_advance hG hr2
  have hF1 := hF.trans (ci_X8_advance hG hr2)
  obtain ⟨y6, μ4, hr5, h⟩ := sh_bind_e h
  have hG4 := gp_X8_takeName hG1 hr5
  have hF4 := hF1.trans (ci_X8_takeName hG1 hr5)
  obtain ⟨y9, μ7, hr8, h⟩ := sh_bind_e h
  have hG7 := gp_X6_isNew hG4 hr8
  have hF7 := hF4.trans (ci_X6_isNew hG4 hr8)
  by_cases c10 : y9 = 0
  · rw [if_pos c10] at h
    obtain ⟨e1, e2⟩ := sh_some2 h
    exact e2 ▸ hF7
  · rw [if_neg c10] at h
    obtain ⟨y13, μ11, hr12, h⟩ := sh_bind_e h
    have hG11 := gp_X8_takesWord hG7 hr12
    have hF11 := hF7.trans (ci_X8_takesWord hG7 hr12)
    by_cases c14 : y13 = 0
    · rw [if_pos c14] at h
      obtain ⟨e1, e2⟩ := sh_some2 h
      exact e2 ▸ hF11
    · rw [if_neg c14] at h
      obtain ⟨k15, h⟩ := sh_chk h
      obtain ⟨r16, er16⟩ : ∃ y : Nat, y = (sh_ref μ11 7 2) := ⟨_, rfl⟩
      rw [sh_let_eq er16] at h
      have k15r : sh_r μ11 7 2 = some r16 ∧ (r16 = 8 ∨ r16 = 29) := by rw [er16]; exact k15
      obtain ⟨y19, μ17, hr18, h⟩ := sh_bind_e h
      have hG17 := gp_X8_takeNumber hG11 hr18
      have hF17 := hF11.trans (ci_X8_takeNumber hG11 hr18)
      by_cases c20 : y19 = (-1)
      · rw [if_pos c20] at h
        obtain ⟨e1, e2⟩ := sh_some2 h
        exact e2 ▸ hF17
      · rw [if_neg c20] at h
        obtain ⟨k21, h⟩ := sh_chk h
        obtain ⟨r22, er22⟩ : ∃ y : Nat, y = (sh_ref μ17 7 2) := ⟨_, rfl⟩
        rw [sh_let_eq er22] at h
        have k21r : sh_r μ17 7 2 = some r22 ∧ (r22 = 8 ∨ r22 = 29) := by rw [er22]; exact k21
        obtain ⟨y25, μ23, hr24, h⟩ := sh_bind_e h
        have hG23 := gp_X8_takeNumber hG17 hr24
        have hF23 := hF17.trans (ci_X8_takeNumber hG17 hr24)
        by_cases c26 : y25 = (-1)
        · rw [if_pos c26] at h
          obtain ⟨e1, e2⟩ := sh_some2 h
          exact e2 ▸ hF23
        · rw [if_neg c26] at h
          obtain ⟨k27, h⟩ := sh_chk h
          obtain ⟨r28, er28⟩ : ∃ y : Nat, y = (sh_ref μ23 7 2) := ⟨_, rfl⟩
          rw [sh_let_eq er28] at h
          have k27r : sh_r μ23 7 2 = some r28 ∧ (r28 = 8 ∨ r28 = 29) := by rw [er28]; exact k27
          obtain ⟨k29, h⟩ := sh_chk h
          obtain ⟨r30, er30⟩ : ∃ y : Nat, y = (sh_ref μ23 7 2) := ⟨_, rfl⟩
          rw [sh_let_eq er30] at h
          have k29r : sh_r μ23 7 2 = some r30 ∧ (r30 = 8 ∨ r30 = 29) := by rw [er30]; exact k29
          obtain ⟨y33, μ31, hr32, h⟩ := sh_bind_e h
          have hG31 := gp_X3_isSomeoneAt hG23 (gP_land k27r.2) hr32
          have hF31 := hF23.trans (ci_X3_isSomeoneAt hG23 (gP_land k27r.2) hr32)
          by_cases c34 : y33 = 0
          · rw [if_pos c34] at h
            obtain ⟨y37, μ35, hr36, h⟩ := sh_bind_e h
            have hG35 := gp_X8_takesWord hG31 hr36
            have hF35 := hF31.trans (ci_X8_takesWord hG31 hr36)
            by_cases c38 : y37 = 0
            · rw [if_pos c38] at h
              obtain ⟨e1, e2⟩ := sh_some2 h
              exact e2 ▸ hF35
            · rw [if_neg c38] at h
              obtain ⟨y41, μ39, hr40, h⟩ := sh_bind_e h
              have hG39 := gp_X8_takeNumber hG35 hr40
              have hF39 := hF35.trans (ci_X8_takeNumber hG35 hr40)
              by_cases c42 : y41 = (-1)
              · rw [if_pos c42] at h
                obtain ⟨e1, e2⟩ := sh_some2 h
                exact e2 ▸ hF39
              · rw [if_neg c42] at h
                obtain ⟨k43, h⟩ := sh_chk h
                obtain ⟨r44, er44⟩ : ∃ y : Nat, y = (sh_ref μ39 7 2) := ⟨_, rfl⟩
                rw [sh_let_eq er44] at h
                have k43r : sh_r μ39 7 2 = some r44 ∧ (r44 = 8 ∨ r44 = 29) := by rw [er44]; exact k43
                obtain ⟨k45, h⟩ := sh_chk h
                obtain ⟨r46, er46⟩ : ∃ y : Nat, y = (sh_ref μ39 7 2) := ⟨_, rfl⟩
                rw [sh_let_eq er46] at h
                have k45r : sh_r μ39 7 2 = some r46 ∧ (r46 = 8 ∨ r46 = 29) := by rw [er46]; exact k45
                obtain ⟨k47, h⟩ := sh_chk h
                obtain ⟨μ48, eμ48⟩ : ∃ y : sh_Mem, y = (sh_setI μ39 (r44 + 2) ((sh_i μ39 r46 3)).toNatClampNeg y6) := ⟨_, rfl⟩
                rw [sh_let_eq eμ48] at h
                have hG48 : sh_G μ48 := by rw [eμ48]; exact hG39
                have hF48 : cI μ μ48 := by rw [eμ48]; exact cI_I hF39 (Or.inl <| sh_neP k43r.2 2 (by decide))
                obtain ⟨k49, h⟩ := sh_chk h
                obtain ⟨r50, er50⟩ : ∃ y : Nat, y = (sh_ref μ48 7 2) := ⟨_, rfl⟩
                rw [sh_let_eq er50] at h
                have k49r : sh_r μ48 7 2 = some r50 ∧ (r50 = 8 ∨ r50 = 29) := by rw [er50]; exact k49
                obtain ⟨k51, h⟩ := sh_chk h
                obtain ⟨r52, er52⟩ : ∃ y : Nat, y = (sh_ref μ48 7 2) := ⟨_, rfl⟩
                rw [sh_let_eq er52] at h
                have k51r : sh_r μ48 7 2 = some r52 ∧ (r52 = 8 ∨ r52 = 29) := by rw [er52]; exact k51
                obtain ⟨k53, h⟩ := sh_chk h
                obtain ⟨μ54, eμ54⟩ : ∃ y : sh_Mem, y = (sh_setI μ48 ((r50 + 14) + 2) ((sh_i μ48 r52 3)).toNatClampNeg y19) := ⟨_, rfl⟩
                rw [sh_let_eq eμ54] at h
                have hG54 : sh_G μ54 := by rw [eμ54]; exact hG48
                have hF54 : cI μ μ54 := by rw [eμ54]; exact cI_I hF48 (Or.inl <| sh_neL (gP_land k49r.2) 2 (by decide))
                obtain ⟨k55, h⟩ := sh_chk h
                obtain ⟨r56, er56⟩ : ∃ y : Nat, y = (sh_ref μ54 7 2) := ⟨_, rfl⟩
                rw [sh_let_eq er56] at h
                have k55r : sh_r μ54 7 2 = some r56 ∧ (r56 = 8 ∨ r56 = 29) := by rw [er56]; exact k55
                obtain ⟨k57, h⟩ := sh_chk h
                obtain ⟨r58, er58⟩ : ∃ y : Nat, y = (sh_ref μ54 7 2) := ⟨_, rfl⟩
                rw [sh_let_eq er58] at h
                have k57r : sh_r μ54 7 2 = some r58 ∧ (r58 = 8 ∨ r58 = 29) := by rw [er58]; exact k57
                obtain ⟨k59, h⟩ := sh_chk h
                obtain ⟨μ60, eμ60⟩ : ∃ y : sh_Mem, y = (sh_setI μ54 ((r56 + 14) + 3) ((sh_i μ54 r58 3)).toNatClampNeg y25) := ⟨_, rfl⟩
                rw [sh_let_eq eμ60] at h
                have hG60 : sh_G μ60 := by rw [eμ60]; exact hG54
                have hF60 : cI μ μ60 := by rw [eμ60]; exact cI_I hF54 (Or.inl <| sh_neL (gP_land k55r.2) 3 (by decide))
                obtain ⟨k61, h⟩ := sh_chk h
                obtain ⟨r62, er62⟩ : ∃ y : Nat, y = (sh_ref μ60 7 2) := ⟨_, rfl⟩
                rw [sh_let_eq er62] at h
                have k61r : sh_r μ60 7 2 = some r62 ∧ (r62 = 8 ∨ r62 = 29) := by rw [er62]; exact k61
                obtain ⟨k63, h⟩ := sh_chk h
                obtain ⟨r64, er64⟩ : ∃ y : Nat, y = (sh_ref μ60 7 2) := ⟨_, rfl⟩
                rw [sh_let_eq er64] at h
                have k63r : sh_r μ60 7 2 = some r64 ∧ (r64 = 8 ∨ r64 = 29) := by rw [er64]; exact k63
                obtain ⟨k65, h⟩ := sh_chk h
                obtain ⟨μ66, eμ66⟩ : ∃ y : sh_Mem, y = (sh_setI μ60 ((r62 + 14) + 4) ((sh_i μ60 r64 3)).toNatClampNeg y41) := ⟨_, rfl⟩
                rw [sh_let_eq eμ66] at h
                have hG66 : sh_G μ66 := by rw [eμ66]; exact hG60
                have hF66 : cI μ μ66 := by rw [eμ66]; exact cI_I hF60 (Or.inl <| sh_neL (gP_land k61r.2) 4 (by decide))
                obtain ⟨k67, h⟩ := sh_chk h
                obtain ⟨r68, er68⟩ : ∃ y : Nat, y = (sh_ref μ66 7 2) := ⟨_, rfl⟩
                rw [sh_let_eq er68] at h
                have k67r : sh_r μ66 7 2 = some r68 ∧ (r68 = 8 ∨ r68 = 29) := by rw [er68]; exact k67
                obtain ⟨k69, h⟩ := sh_chk h
                obtain ⟨r70, er70⟩ : ∃ y : Nat, y = (sh_ref μ66 7 2) := ⟨_, rfl⟩
                rw [sh_let_eq er70] at h
                have k69r : sh_r μ66 7 2 = some r70 ∧ (r70 = 8 ∨ r70 = 29) := by rw [er70]; exact k69
                obtain ⟨k71, h⟩ := sh_chk h
                obtain ⟨μ72, eμ72⟩ : ∃ y : sh_Mem, y = (sh_setI μ66 ((r68 + 14) + 5) ((sh_i μ66 r70 3)).toNatClampNeg 0) := ⟨_, rfl⟩
                rw [sh_let_eq eμ72] at h
                have hG72 : sh_G μ72 := by rw [eμ72]; exact hG66
                have hF72 : cI μ μ72 := by rw [eμ72]; exact cI_I hF66 (Or.inl <| sh_neL (gP_land k67r.2) 5 (by decide))
                obtain ⟨k73, h⟩ := sh_chk h
                obtain ⟨r74, er74⟩ : ∃ y : Nat, y = (sh_ref μ72 7 2) := ⟨_, rfl⟩
                rw [sh_let_eq er74] at h
                have k73r : sh_r μ72 7 2 = some r74 ∧ (r74 = 8 ∨ r74 = 29) := by rw [er74]; exact k73
                obtain ⟨μ75, eμ75⟩ : ∃ y : sh_Mem, y = (sh_setI μ72 r74 3 ((sh_i μ72 r74 3) + 1)) := ⟨_, rfl⟩
                rw [sh_let_eq eμ75] at h
                have hG75 : sh_G μ75 := by rw [eμ75]; exact hG72
                have hF75 : cI μ μ75 := by rw [eμ75]; exact cI_I hF72 (Or.inl <| sh_neP k73r.2 0 (by decide))
                obtain ⟨e1, e2⟩ := sh_some2 h
                exact e2 ▸ hF75
          · rw [if_neg c34] at h
            obtain ⟨y78, μ76, hr77, h⟩ := sh_bind_e h
            have hG76 := gp_X8_fails hG31 hr77
            have hF76 := hF31.trans (ci_X8_fails hr77 (by decide))
            obtain ⟨k79, h⟩ := sh_chk h
            obtain ⟨e1, e2⟩ := sh_some2 h
            exact e2 ▸ hF76
theorem ci_X6_readKnows {μ μ' : sh_Mem} {v : Int32} (hG : sh_G μ) (h : f_X6_readKnows μ = some (v, μ')) : cI μ μ' := by
  have hF : cI μ μ := cI.rf
  unfold f_X6_readKnows at h
  obtain ⟨μ1, hr2, h⟩ := sh_bindv_e h
  have hG1 := gp_X8_advance hG hr2
  have hF1 := hF.trans (ci_X8_advance hG hr2)
  obtain ⟨y6, μ4, hr5, h⟩ := sh_bind_e h
  have hG4 := gp_X8_takeName hG1 hr5
  have hF4 := hF1.trans (ci_X8_takeName hG1 hr5)
  obtain ⟨y9, μ7, hr8, h⟩ := sh_bind_e h
  have hG7 := gp_X6_asPerson hG4 hr8
  have hF7 := hF4.trans (ci_X6_asPerson hG4 hr8)
  by_cases c10 : y9 = (-1)
  · rw [if_pos c10] at h
    obtain ⟨e1, e2⟩ := sh_some2 h
    exact e2 ▸ hF7
  · rw [if_neg c10] at h
    obtain ⟨y13, μ11, hr12, h⟩ := sh_bind_e h
    have hG11 := gp_X8_takesWord hG7 hr12
    have hF11 := hF7.trans (ci_X8_takesWord hG7 hr12)
    by_cases c14 : y13 = 0
    · rw [if_pos c14] at h
      obtain ⟨e1, e2⟩ := sh_some2 h
      exact e2 ▸ hF11
    · rw [if_neg c14] at h
      obtain ⟨y17, μ15, hr16, h⟩ := sh_bind_e h
      have hG15 := gp_X8_takeName hG11 hr16
      have hF15 := hF11.trans (ci_X8_takeName hG11 hr16)
      obtain ⟨y20, μ18, hr19, h⟩ := sh_bind_e h
      have hG18 := gp_X6_asTopic hG15 hr19
      have hF18 := hF15.trans (ci_X6_asTopic hG15 hr19)
      by_cases c21 : y20 = (-1)
      · rw [if_pos c21] at h
        obtain ⟨e1, e2⟩ := sh_some2 h
        exact e2 ▸ hF18
      · rw [if_neg c21] at h
        obtain ⟨k22, h⟩ := sh_chk h
        obtain ⟨r23, er23⟩ : ∃ y : Nat, y = (sh_ref μ18 7 2) := ⟨_, rfl⟩
        rw [sh_let_eq er23] at h
        have k22r : sh_r μ18 7 2 = some r23 ∧ (r23 = 8 ∨ r23 = 29) := by rw [er23]; exact k22
        obtain ⟨k24, h⟩ := sh_chk h
        by_cases c25 : (((sh_i μ18 ((r23 + 14) + 5) y9.toNatClampNeg) >>> (y20 &&& 31)) &&& 1) = 1
        · rw [if_pos c25] at h
          obtain ⟨y33, μ31, hr32, h⟩ := sh_bind_e h
          have hG31 := gp_X8_fails hG18 hr32
          have hF31 := hF18.trans (ci_X8_fails hr32 (by decide))
          obtain ⟨k34, h⟩ := sh_chk h
          obtain ⟨e1, e2⟩ := sh_some2 h
          exact e2 ▸ hF31
        · rw [if_neg c25] at h
          obtain ⟨k26, h⟩ := sh_chk h
          obtain ⟨r27, er27⟩ : ∃ y : Nat, y = (sh_ref μ18 7 2) := ⟨_, rfl⟩
          rw [sh_let_eq er27] at h
          have k26r : sh_r μ18 7 2 = some r27 ∧ (r27 = 8 ∨ r27 = 29) := by rw [er27]; exact k26
          obtain ⟨k28, h⟩ := sh_chk h
          obtain ⟨k29, h⟩ := sh_chk h
          obtain ⟨μ30, eμ30⟩ : ∃ y : sh_Mem, y = (sh_setI μ18 ((r27 + 14) + 5) y9.toNatClampNeg ((sh_i μ18 ((r27 + 14) + 5) y9.toNatClampNeg) ||| ((1 : Int32) <<< (y20 &&& 31)))) := ⟨_, rfl⟩
          rw [sh_let_eq eμ30] at h
          have hG30 : sh_G μ30 := by rw [eμ30]; exact hG18
          have hF30 : cI μ μ30 := by rw [eμ30]; exact cI_I hF18 (Or.inl <| sh_neL (gP_land k26r.2) 5 (by decide))
          obtain ⟨e1, e2⟩ := sh_some2 h
          exact e2 ▸ hF30
theorem ci_X6_readAsks {μ μ' : sh_Mem} {v : Int32} (hG : sh_G μ) (h : f_X6_readAsks μ = some (v, μ')) : cI μ μ' := by
  have hF : cI μ μ := cI.rf
  unfold f_X6_readAsks at h
  obtain ⟨μ1, hr2, h⟩ := sh_bindv_e h
  have hG1 := gp_X8_advance hG hr2
  have hF1 := hF.trans (ci_X8_advance hG hr2)
  obtain ⟨y6, μ4, hr5, h⟩ := sh_bind_e h
  have hG4 := gp_X8_takeName hG1 hr5
  have hF4 := hF1.trans (ci_X8_takeName hG1 hr5)
  obtain ⟨y9, μ7, hr8, h⟩ := sh_bind_e h
  have hG7 := gp_X6_asPerson hG4 hr8
  have hF7 := hF4.trans (ci_X6_asPerson hG4 hr8)
  by_cases c10 : y9 = (-1)
  · rw [if_pos c10] at h
    obtain ⟨e1, e2⟩ := sh_some2 h
    exact e2 ▸ hF7
  · rw [if_neg c10] at h
    obtain ⟨y13, μ11, hr12, h⟩ := sh_bind_e h
    have hG11 := gp_X8_takesWord hG7 hr12
    have hF11 := hF7.trans (ci_X8_takesWord hG7 hr12)
    by_cases c14 : y13 = 0
    · rw [if_pos c14] at h
      obtain ⟨e1, e2⟩ := sh_some2 h
      exact e2 ▸ hF11
    · rw [if_neg c14] at h
      obtain ⟨y17, μ15, hr16, h⟩ := sh_bind_e h
      have hG15 := gp_X8_takeName hG11 hr16
      have hF15 := hF11.trans (ci_X8_takeName hG11 hr16)
      obtain ⟨y20, μ18, hr19, h⟩ := sh_bind_e h
      have hG18 := gp_X6_asTopic hG15 hr19
      have hF18 := hF15.trans (ci_X6_asTopic hG15 hr19)
      by_cases c21 : y20 = (-1)
      · rw [if_pos c21] at h
        obtain ⟨e1, e2⟩ := sh_some2 h
        exact e2 ▸ hF18
      · rw [if_neg c21] at h
        obtain ⟨k22, h⟩ := sh_chk h
        obtain ⟨r23, er23⟩ : ∃ y : Nat, y = (sh_ref μ18 7 2) := ⟨_, rfl⟩
        rw [sh_let_eq er23] at h
        have k22r : sh_r μ18 7 2 = some r23 ∧ (r23 = 8 ∨ r23 = 29) := by rw [er23]; exact k22
        obtain ⟨k24, h⟩ := sh_chk h
        obtain ⟨r25, er25⟩ : ∃ y : Nat, y = (sh_ref μ18 7 2) := ⟨_, rfl⟩
        rw [sh_let_eq er25] at h
        have k24r : sh_r μ18 7 2 = some r25 ∧ (r25 = 8 ∨ r25 = 29) := by rw [er25]; exact k24
        obtain ⟨k26, h⟩ := sh_chk h
        obtain ⟨μ27, eμ27⟩ : ∃ y : sh_Mem, y = (sh_setI μ18 (r23 + 3) ((sh_i μ18 r25 4)).toNatClampNeg y9) := ⟨_, rfl⟩
        rw [sh_let_eq eμ27] at h
        have hG27 : sh_G μ27 := by rw [eμ27]; exact hG18
        have hF27 : cI μ μ27 := by rw [eμ27]; exact cI_I hF18 (Or.inl <| sh_neP k22r.2 3 (by decide))
        obtain ⟨k28, h⟩ := sh_chk h
        obtain ⟨r29, er29⟩ : ∃ y : Nat, y = (sh_ref μ27 7 2) := ⟨_, rfl⟩
        rw [sh_let_eq er29] at h
        have k28r : sh_r μ27 7 2 = some r29 ∧ (r29 = 8 ∨ r29 = 29) := by rw [er29]; exact k28
        obtain ⟨k30, h⟩ := sh_chk h
        obtain ⟨r31, er31⟩ : ∃ y : Nat, y = (sh_ref μ27 7 2) := ⟨_, rfl⟩
        rw [sh_let_eq er31] at h
        have k30r : sh_r μ27 7 2 = some r31 ∧ (r31 = 8 ∨ r31 = 29) := by rw [er31]; exact k30
        obtain ⟨k32, h⟩ := sh_chk h
        obtain ⟨μ33, eμ33⟩ : ∃ y : sh_Mem, y = (sh_setI μ27 (r29 + 4) ((sh_i μ27 r31 4)).toNatClampNeg y20) := ⟨_, rfl⟩
        rw [sh_let_eq eμ33] at h
        have hG33 : sh_G μ33 := by rw [eμ33]; exact hG27
        have hF33 : cI μ μ33 := by rw [eμ33]; exact cI_I hF27 (Or.inl <| sh_neP k28r.2 4 (by decide))
        obtain ⟨k34, h⟩ := sh_chk h
        obtain ⟨r35, er35⟩ : ∃ y : Nat, y = (sh_ref μ33 7 2) := ⟨_, rfl⟩
        rw [sh_let_eq er35] at h
        have k34r : sh_r μ33 7 2 = some r35 ∧ (r35 = 8 ∨ r35 = 29) := by rw [er35]; exact k34
        obtain ⟨μ36, eμ36⟩ : ∃ y : sh_Mem, y = (sh_setI μ33 r35 4 ((sh_i μ33 r35 4) + 1)) := ⟨_, rfl⟩
        rw [sh_let_eq eμ36] at h
        have hG36 : sh_G μ36 := by rw [eμ36]; exact hG33
        have hF36 : cI μ μ36 := by rw [eμ36]; exact cI_I hF33 (Or.inl <| sh_neP k34r.2 0 (by decide))
        obtain ⟨e1, e2⟩ := sh_some2 h
        exact e2 ▸ hF36
theorem ci_X6_beginRule {f1 : Nat} {a2 : Int32} {μ μ' : sh_Mem} (hG : sh_G μ) (hf1 : sh_isF f1) (h : f_X6_beginRule f1 a2 μ = some μ') : cI μ μ' := by
  have hF : cI μ μ := cI.rf
  unfold f_X6_beginRule at h
  obtain ⟨μ1, hr2, h⟩ := sh_bindv_e h
  have hG1 := gp_X8_advance hG hr2
  have hF1 := hF.trans (ci_X8_advance hG hr2)
  obtain ⟨μ4, hr5, h⟩ := sh_bindv_e h
  have hG4 := gp_X2_begin hG1 hf1 hr5
  have hF4 := hF1.trans (ci_X2_begin hG1 hf1 hr5)
  have e2 := Option.some.inj h
  exact e2 ▸ hF4
theorem ci_X6_readCrowd {μ μ' : sh_Mem} {v : Int32} (hG : sh_G μ) (h : f_X6_readCrowd μ = some (v, μ')) : cI μ μ' := by
  have hF : cI μ μ := cI.rf
  unfold f_X6_readCrowd at h
  obtain ⟨μ1, hr2, h⟩ := sh_bindv_e h
  have hG1 := gp_X8_advance hG hr2
  have hF1 := hF.trans (ci_X8_advance hG hr2)
  obtain ⟨y6, μ4, hr5, h⟩ := sh_bind_e h
  have hG4 := gp_X8_takeNumber hG1 hr5
  have hF4 := hF1.trans (ci_X8_takeNumber hG1 hr5)
  by_cases c7 : y6 = (-1)
  · rw [if_pos c7] at h
    obtain ⟨e1, e2⟩ := sh_some2 h
    exact e2 ▸ hF4
  · rw [if_neg c7] at h
    obtain ⟨k8, h⟩ := sh_chk h
    obtain ⟨r9, er9⟩ : ∃ y : Nat, y = (sh_ref μ4 7 2) := ⟨_, rfl⟩
    rw [sh_let_eq er9] at h
    have k8r : sh_r μ4 7 2 = some r9 ∧ (r9 = 8 ∨ r9 = 29) := by rw [er9]; exact k8
    obtain ⟨μ10, eμ10⟩ : ∃ y : sh_Mem, y = (sh_setI μ4 r9 5 y6) := ⟨_, rfl⟩
    rw [sh_let_eq eμ10] at h
    have hG10 : sh_G μ10 := by rw [eμ10]; exact hG4
    have hF10 : cI μ μ10 := by rw [eμ10]; exact cI_I hF4 (Or.inl <| sh_neP k8r.2 0 (by decide))
    obtain ⟨e1, e2⟩ := sh_some2 h
    exact e2 ▸ hF10
theorem cil_X2_test {rec : Nat → Int32 → Int32 → Int32 → sh_Mem → Option (Int32 × sh_Mem)} (grec : ∀ ⦃k : Nat⦄ ⦃b1 b2 b3 : Int32⦄ ⦃μ μ' : sh_Mem⦄ ⦃v : Int32⦄, sh_G μ → rec k b1 b2 b3 μ = some (v, μ') → sh_G μ') (frec : ∀ ⦃k : Nat⦄ ⦃b1 b2 b3 : Int32⦄ ⦃μ μ' : sh_Mem⦄ ⦃v : Int32⦄, sh_G μ → rec k b1 b2 b3 μ = some (v, μ') → cI μ μ') (fuel : Nat) : (∀ ⦃i1 : Int32⦄ ⦃i2 : Int32⦄ ⦃i3 : Int32⦄ ⦃μ μ' : sh_Mem⦄ ⦃v : Int32⦄, sh_G μ → F_X2_test rec fuel 1 i1 i2 i3 μ = some (v, μ') → cI μ μ') := by
  induction fuel with
  | zero => intro i1 i2 i3 μ μ' v hG h; cases h
  | succ fuel ih =>
    have ih_8 := ih
    intro i1 i2 i3 μ μ' v hG h
    replace h : ((if 1600 ≤ i3 then (if i2 = 0 ∨ i2 = 1 then some (i2, μ) else none) else (if i2 = 0 then (if i2 = 0 ∨ i2 = 1 then some (i2, μ) else none) else (if (f_X8_isWord μ 21) = 0 then (if i2 = 0 ∨ i2 = 1 then some (i2, μ) else none) else sh_bindv (f_X8_advance μ) (fun μ27 => sh_bind (rec 1 i1 0 0 μ27) (fun y32 μ30 => (if (sh_r μ30 6 1 = some (sh_ref μ30 6 1) ∧ (sh_ref μ30 6 1) ∈ sh_FORMS) then sh_let (sh_ref μ30 6 1) (fun r34 => sh_bindv (f_X1_addWord r34 21 μ30) (fun μ35 => F_X2_test rec fuel 1 i1 y32 (i3 + 1) μ35)) else none)))))) : Option (Int32 × sh_Mem)) = some (v, μ') := h
    have hF : cI μ μ := cI.rf
    by_cases c21 : 1600 ≤ i3
    · rw [if_pos c21] at h
      obtain ⟨k22, h⟩ := sh_chk h
      obtain ⟨e1, e2⟩ := sh_some2 h
      exact e2 ▸ hF
    · rw [if_neg c21] at h
      by_cases c23 : i2 = 0
      · rw [if_pos c23] at h
        obtain ⟨k24, h⟩ := sh_chk h
        obtain ⟨e1, e2⟩ := sh_some2 h
        exact e2 ▸ hF
      · rw [if_neg c23] at h
        by_cases c25 : (f_X8_isWord μ 21) = 0
        · rw [if_pos c25] at h
          obtain ⟨k26, h⟩ := sh_chk h
          obtain ⟨e1, e2⟩ := sh_some2 h
          exact e2 ▸ hF
        · rw [if_neg c25] at h
          obtain ⟨μ27, hr28, h⟩ := sh_bindv_e h
          have hG27 := gp_X8_advance hG hr28
          have hF27 := hF.trans (ci_X8_advance hG hr28)
          obtain ⟨y32, μ30, hr31, h⟩ := sh_bind_e h
          have hG30 := grec hG27 hr31
          have hF30 := hF27.trans (frec hG27 hr31)
          obtain ⟨k33, h⟩ := sh_chk h
          obtain ⟨r34, er34⟩ : ∃ y : Nat, y = (sh_ref μ30 6 1) := ⟨_, rfl⟩
          rw [sh_let_eq er34] at h
          have k33r : sh_r μ30 6 1 = some r34 ∧ r34 ∈ sh_FORMS := by rw [er34]; exact k33
          obtain ⟨μ35, hr36, h⟩ := sh_bindv_e h
          have hG35 := gp_X1_addWord hG30 k33r.2 hr36
          have hF35 := hF30.trans (ci_X1_addWord hG30 k33r.2 hr36)
          exact hF35.trans (ih_8 hG35 h)
theorem ci_X2_test {rec : Nat → Int32 → Int32 → Int32 → sh_Mem → Option (Int32 × sh_Mem)} {a1 : Int32} {μ μ' : sh_Mem} {v : Int32}  (grec : ∀ ⦃k : Nat⦄ ⦃b1 b2 b3 : Int32⦄ ⦃μ μ' : sh_Mem⦄ ⦃v : Int32⦄, sh_G μ → rec k b1 b2 b3 μ = some (v, μ') → sh_G μ') (frec : ∀ ⦃k : Nat⦄ ⦃b1 b2 b3 : Int32⦄ ⦃μ μ' : sh_Mem⦄ ⦃v : Int32⦄, sh_G μ → rec k b1 b2 b3 μ = some (v, μ') → cI μ μ')(hG : sh_G μ) (h : f_X2_test rec a1 μ = some (v, μ')) : cI μ μ' := by
  have ih_8 := (cil_X2_test grec frec sh_fuel)
  have hF : cI μ μ := cI.rf
  unfold f_X2_test at h
  obtain ⟨y40, μ38, hr39, h⟩ := sh_bind_e h
  have hG38 := grec hG hr39
  have hF38 := hF.trans (frec hG hr39)
  exact hF38.trans (ih_8 hG38 h)
theorem cil_X2_both {rec : Nat → Int32 → Int32 → Int32 → sh_Mem → Option (Int32 × sh_Mem)} (grec : ∀ ⦃k : Nat⦄ ⦃b1 b2 b3 : Int32⦄ ⦃μ μ' : sh_Mem⦄ ⦃v : Int32⦄, sh_G μ → rec k b1 b2 b3 μ = some (v, μ') → sh_G μ') (frec : ∀ ⦃k : Nat⦄ ⦃b1 b2 b3 : Int32⦄ ⦃μ μ' : sh_Mem⦄ ⦃v : Int32⦄, sh_G μ → rec k b1 b2 b3 μ = some (v, μ') → cI μ μ') (fuel : Nat) : (∀ ⦃i1 : Int32⦄ ⦃i2 : Int32⦄ ⦃i3 : Int32⦄ ⦃μ μ' : sh_Mem⦄ ⦃v : Int32⦄, sh_G μ → F_X2_both rec fuel 1 i1 i2 i3 μ = some (v, μ') → cI μ μ') := by
  induction fuel with
  | zero => intro i1 i2 i3 μ μ' v hG h; cases h
  | succ fuel ih =>
    have ih_8 := ih
    intro i1 i2 i3 μ μ' v hG h
    replace h : ((if 1600 ≤ i3 then (if i2 = 0 ∨ i2 = 1 then some (i2, μ) else none) else (if i2 = 0 then (if i2 = 0 ∨ i2 = 1 then some (i2, μ) else none) else (if (f_X8_isWord μ 22) = 0 then (if i2 = 0 ∨ i2 = 1 then some (i2, μ) else none) else sh_bindv (f_X8_advance μ) (fun μ27 => sh_bind (rec 2 i1 0 0 μ27) (fun y32 μ30 => (if (sh_r μ30 6 1 = some (sh_ref μ30 6 1) ∧ (sh_ref μ30 6 1) ∈ sh_FORMS) then sh_let (sh_ref μ30 6 1) (fun r34 => sh_bindv (f_X1_addWord r34 22 μ30) (fun μ35 => F_X2_both rec fuel 1 i1 y32 (i3 + 1) μ35)) else none)))))) : Option (Int32 × sh_Mem)) = some (v, μ') := h
    have hF : cI μ μ := cI.rf
    by_cases c21 : 1600 ≤ i3
    · rw [if_pos c21] at h
      obtain ⟨k22, h⟩ := sh_chk h
      obtain ⟨e1, e2⟩ := sh_some2 h
      exact e2 ▸ hF
    · rw [if_neg c21] at h
      by_cases c23 : i2 = 0
      · rw [if_pos c23] at h
        obtain ⟨k24, h⟩ := sh_chk h
        obtain ⟨e1, e2⟩ := sh_some2 h
        exact e2 ▸ hF
      · rw [if_neg c23] at h
        by_cases c25 : (f_X8_isWord μ 22) = 0
        · rw [if_pos c25] at h
          obtain ⟨k26, h⟩ := sh_chk h
          obtain ⟨e1, e2⟩ := sh_some2 h
          exact e2 ▸ hF
        · rw [if_neg c25] at h
          obtain ⟨μ27, hr28, h⟩ := sh_bindv_e h
          have hG27 := gp_X8_advance hG hr28
          have hF27 := hF.trans (ci_X8_advance hG hr28)
          obtain ⟨y32, μ30, hr31, h⟩ := sh_bind_e h
          have hG30 := grec hG27 hr31
          have hF30 := hF27.trans (frec hG27 hr31)
          obtain ⟨k33, h⟩ := sh_chk h
          obtain ⟨r34, er34⟩ : ∃ y : Nat, y = (sh_ref μ30 6 1) := ⟨_, rfl⟩
          rw [sh_let_eq er34] at h
          have k33r : sh_r μ30 6 1 = some r34 ∧ r34 ∈ sh_FORMS := by rw [er34]; exact k33
          obtain ⟨μ35, hr36, h⟩ := sh_bindv_e h
          have hG35 := gp_X1_addWord hG30 k33r.2 hr36
          have hF35 := hF30.trans (ci_X1_addWord hG30 k33r.2 hr36)
          exact hF35.trans (ih_8 hG35 h)
theorem ci_X2_both {rec : Nat → Int32 → Int32 → Int32 → sh_Mem → Option (Int32 × sh_Mem)} {a1 : Int32} {μ μ' : sh_Mem} {v : Int32}  (grec : ∀ ⦃k : Nat⦄ ⦃b1 b2 b3 : Int32⦄ ⦃μ μ' : sh_Mem⦄ ⦃v : Int32⦄, sh_G μ → rec k b1 b2 b3 μ = some (v, μ') → sh_G μ') (frec : ∀ ⦃k : Nat⦄ ⦃b1 b2 b3 : Int32⦄ ⦃μ μ' : sh_Mem⦄ ⦃v : Int32⦄, sh_G μ → rec k b1 b2 b3 μ = some (v, μ') → cI μ μ')(hG : sh_G μ) (h : f_X2_both rec a1 μ = some (v, μ')) : cI μ μ' := by
  have ih_8 := (cil_X2_both grec frec sh_fuel)
  have hF : cI μ μ := cI.rf
  unfold f_X2_both at h
  obtain ⟨y40, μ38, hr39, h⟩ := sh_bind_e h
  have hG38 := grec hG hr39
  have hF38 := hF.trans (frec hG hr39)
  exact hF38.trans (ih_8 hG38 h)
theorem ci_X2_fact {rec : Nat → Int32 → Int32 → Int32 → sh_Mem → Option (Int32 × sh_Mem)} {a1 : Int32} {μ μ' : sh_Mem} {v : Int32}  (grec : ∀ ⦃k : Nat⦄ ⦃b1 b2 b3 : Int32⦄ ⦃μ μ' : sh_Mem⦄ ⦃v : Int32⦄, sh_G μ → rec k b1 b2 b3 μ = some (v, μ') → sh_G μ') (frec : ∀ ⦃k : Nat⦄ ⦃b1 b2 b3 : Int32⦄ ⦃μ μ' : sh_Mem⦄ ⦃v : Int32⦄, sh_G μ → rec k b1 b2 b3 μ = some (v, μ') → cI μ μ')(hG : sh_G μ) (h : f_X2_fact rec a1 μ = some (v, μ')) : cI μ μ' := by
  have hF : cI μ μ := cI.rf
  unfold f_X2_fact at h
  by_cases c1 : (f_X8_isWord μ 23) = 0
  · rw [if_pos c1] at h
    by_cases c2 : (sh_i μ 2 3) = 91
    · rw [if_pos c2] at h
      obtain ⟨y62, μ60, hr61, h⟩ := sh_bind_e h
      have hG60 := gp_X2_opens hG hr61
      have hF60 := hF.trans (ci_X2_opens hG hr61)
      by_cases c63 : y62 = 0
      · rw [if_pos c63] at h
        obtain ⟨e1, e2⟩ := sh_some2 h
        exact e2 ▸ hF60
      · rw [if_neg c63] at h
        obtain ⟨y66, μ64, hr65, h⟩ := sh_bind_e h
        have hG64 := grec hG60 hr65
        have hF64 := hF60.trans (frec hG60 hr65)
        by_cases c67 : y66 = 0
        · rw [if_pos c67] at h
          obtain ⟨e1, e2⟩ := sh_some2 h
          exact e2 ▸ hF64
        · rw [if_neg c67] at h
          obtain ⟨y70, μ68, hr69, h⟩ := sh_bind_e h
          have hG68 := gp_X8_takesMark hG64 hr69
          have hF68 := hF64.trans (ci_X8_takesMark hG64 hr69)
          by_cases c71 : y70 = 0
          · rw [if_pos c71] at h
            obtain ⟨e1, e2⟩ := sh_some2 h
            exact e2 ▸ hF68
          · rw [if_neg c71] at h
            obtain ⟨e1, e2⟩ := sh_some2 h
            exact e2 ▸ hF68
    · rw [if_neg c2] at h
      by_cases c3 : (f_X8_isWord μ 24) = 0
      · rw [if_pos c3] at h
        obtain ⟨y6, μ4, hr5, h⟩ := sh_bind_e h
        have hG4 := grec hG hr5
        have hF4 := hF.trans (frec hG hr5)
        by_cases c7 : y6 = 0
        · rw [if_pos c7] at h
          obtain ⟨e1, e2⟩ := sh_some2 h
          exact e2 ▸ hF4
        · rw [if_neg c7] at h
          obtain ⟨x8, ex8⟩ : ∃ y : Int32, y = (sh_i μ4 2 3) := ⟨_, rfl⟩
          rw [sh_let_eq ex8] at h
          by_cases c9 : x8 = 60
          · rw [if_pos c9] at h
            obtain ⟨μ10, hr11, h⟩ := sh_bindv_e h
            have hG10 := gp_X8_advance hG4 hr11
            have hF10 := hF4.trans (ci_X8_advance hG4 hr11)
            obtain ⟨y15, μ13, hr14, h⟩ := sh_bind_e h
            have hG13 := grec hG10 hr14
            have hF13 := hF10.trans (frec hG10 hr14)
            obtain ⟨k16, h⟩ := sh_chk h
            obtain ⟨r17, er17⟩ : ∃ y : Nat, y = (sh_ref μ13 6 1) := ⟨_, rfl⟩
            rw [sh_let_eq er17] at h
            have k16r : sh_r μ13 6 1 = some r17 ∧ r17 ∈ sh_FORMS := by rw [er17]; exact k16
            obtain ⟨μ18, hr19, h⟩ := sh_bindv_e h
            have hG18 := gp_X1_addMark hG13 k16r.2 hr19
            have hF18 := hF13.trans (ci_X1_addMark hG13 k16r.2 hr19)
            obtain ⟨k21, h⟩ := sh_chk h
            obtain ⟨e1, e2⟩ := sh_some2 h
            exact e2 ▸ hF18
          · rw [if_neg c9] at h
            by_cases c22 : x8 = 62
            · rw [if_pos c22] at h
              obtain ⟨μ23, hr24, h⟩ := sh_bindv_e h
              have hG23 := gp_X8_advance hG4 hr24
              have hF23 := hF4.trans (ci_X8_advance hG4 hr24)
              obtain ⟨y28, μ26, hr27, h⟩ := sh_bind_e h
              have hG26 := grec hG23 hr27
              have hF26 := hF23.trans (frec hG23 hr27)
              obtain ⟨k29, h⟩ := sh_chk h
              obtain ⟨r30, er30⟩ : ∃ y : Nat, y = (sh_ref μ26 6 1) := ⟨_, rfl⟩
              rw [sh_let_eq er30] at h
              have k29r : sh_r μ26 6 1 = some r30 ∧ r30 ∈ sh_FORMS := by rw [er30]; exact k29
              obtain ⟨μ31, hr32, h⟩ := sh_bindv_e h
              have hG31 := gp_X1_addMark hG26 k29r.2 hr32
              have hF31 := hF26.trans (ci_X1_addMark hG26 k29r.2 hr32)
              obtain ⟨k34, h⟩ := sh_chk h
              obtain ⟨e1, e2⟩ := sh_some2 h
              exact e2 ▸ hF31
            · rw [if_neg c22] at h
              by_cases c35 : x8 = 61
              · rw [if_pos c35] at h
                obtain ⟨μ36, hr37, h⟩ := sh_bindv_e h
                have hG36 := gp_X8_advance hG4 hr37
                have hF36 := hF4.trans (ci_X8_advance hG4 hr37)
                obtain ⟨y41, μ39, hr40, h⟩ := sh_bind_e h
                have hG39 := grec hG36 hr40
                have hF39 := hF36.trans (frec hG36 hr40)
                obtain ⟨k42, h⟩ := sh_chk h
                obtain ⟨r43, er43⟩ : ∃ y : Nat, y = (sh_ref μ39 6 1) := ⟨_, rfl⟩
                rw [sh_let_eq er43] at h
                have k42r : sh_r μ39 6 1 = some r43 ∧ r43 ∈ sh_FORMS := by rw [er43]; exact k42
                obtain ⟨μ44, hr45, h⟩ := sh_bindv_e h
                have hG44 := gp_X1_addMark hG39 k42r.2 hr45
                have hF44 := hF39.trans (ci_X1_addMark hG39 k42r.2 hr45)
                obtain ⟨k47, h⟩ := sh_chk h
                obtain ⟨e1, e2⟩ := sh_some2 h
                exact e2 ▸ hF44
              · rw [if_neg c35] at h
                obtain ⟨y50, μ48, hr49, h⟩ := sh_bind_e h
                have hG48 := gp_X8_fails hG4 hr49
                have hF48 := hF4.trans (ci_X8_fails hr49 (by decide))
                obtain ⟨k51, h⟩ := sh_chk h
                obtain ⟨e1, e2⟩ := sh_some2 h
                exact e2 ▸ hF48
      · rw [if_neg c3] at h
        obtain ⟨μ52, hr53, h⟩ := sh_bindv_e h
        have hG52 := gp_X8_advance hG hr53
        have hF52 := hF.trans (ci_X8_advance hG hr53)
        obtain ⟨k55, h⟩ := sh_chk h
        obtain ⟨r56, er56⟩ : ∃ y : Nat, y = (sh_ref μ52 6 1) := ⟨_, rfl⟩
        rw [sh_let_eq er56] at h
        have k55r : sh_r μ52 6 1 = some r56 ∧ r56 ∈ sh_FORMS := by rw [er56]; exact k55
        obtain ⟨μ57, hr58, h⟩ := sh_bindv_e h
        have hG57 := gp_X1_add hG52 k55r.2 hr58
        have hF57 := hF52.trans (ci_X1_add hG52 k55r.2 hr58)
        obtain ⟨e1, e2⟩ := sh_some2 h
        exact e2 ▸ hF57
  · rw [if_neg c1] at h
    obtain ⟨y74, μ72, hr73, h⟩ := sh_bind_e h
    have hG72 := gp_X2_opens hG hr73
    have hF72 := hF.trans (ci_X2_opens hG hr73)
    by_cases c75 : y74 = 0
    · rw [if_pos c75] at h
      obtain ⟨k76, h⟩ := sh_chk h
      obtain ⟨r77, er77⟩ : ∃ y : Nat, y = (sh_ref μ72 6 1) := ⟨_, rfl⟩
      rw [sh_let_eq er77] at h
      have k76r : sh_r μ72 6 1 = some r77 ∧ r77 ∈ sh_FORMS := by rw [er77]; exact k76
      obtain ⟨μ78, hr79, h⟩ := sh_bindv_e h
      have hG78 := gp_X1_addWord hG72 k76r.2 hr79
      have hF78 := hF72.trans (ci_X1_addWord hG72 k76r.2 hr79)
      obtain ⟨e1, e2⟩ := sh_some2 h
      exact e2 ▸ hF78
    · rw [if_neg c75] at h
      obtain ⟨y83, μ81, hr82, h⟩ := sh_bind_e h
      have hG81 := grec hG72 hr82
      have hF81 := hF72.trans (frec hG72 hr82)
      by_cases c84 : y83 = 0
      · rw [if_pos c84] at h
        obtain ⟨k85, h⟩ := sh_chk h
        obtain ⟨r86, er86⟩ : ∃ y : Nat, y = (sh_ref μ81 6 1) := ⟨_, rfl⟩
        rw [sh_let_eq er86] at h
        have k85r : sh_r μ81 6 1 = some r86 ∧ r86 ∈ sh_FORMS := by rw [er86]; exact k85
        obtain ⟨μ87, hr88, h⟩ := sh_bindv_e h
        have hG87 := gp_X1_addWord hG81 k85r.2 hr88
        have hF87 := hF81.trans (ci_X1_addWord hG81 k85r.2 hr88)
        obtain ⟨e1, e2⟩ := sh_some2 h
        exact e2 ▸ hF87
      · rw [if_neg c84] at h
        obtain ⟨k90, h⟩ := sh_chk h
        obtain ⟨r91, er91⟩ : ∃ y : Nat, y = (sh_ref μ81 6 1) := ⟨_, rfl⟩
        rw [sh_let_eq er91] at h
        have k90r : sh_r μ81 6 1 = some r91 ∧ r91 ∈ sh_FORMS := by rw [er91]; exact k90
        obtain ⟨μ92, hr93, h⟩ := sh_bindv_e h
        have hG92 := gp_X1_addWord hG81 k90r.2 hr93
        have hF92 := hF81.trans (ci_X1_addWord hG81 k90r.2 hr93)
        obtain ⟨e1, e2⟩ := sh_some2 h
        exact e2 ▸ hF92
theorem cil_X2_sum {rec : Nat → Int32 → Int32 → Int32 → sh_Mem → Option (Int32 × sh_Mem)} (grec : ∀ ⦃k : Nat⦄ ⦃b1 b2 b3 : Int32⦄ ⦃μ μ' : sh_Mem⦄ ⦃v : Int32⦄, sh_G μ → rec k b1 b2 b3 μ = some (v, μ') → sh_G μ') (frec : ∀ ⦃k : Nat⦄ ⦃b1 b2 b3 : Int32⦄ ⦃μ μ' : sh_Mem⦄ ⦃v : Int32⦄, sh_G μ → rec k b1 b2 b3 μ = some (v, μ') → cI μ μ') (fuel : Nat) : (∀ ⦃i1 : Int32⦄ ⦃i2 : Int32⦄ ⦃i3 : Int32⦄ ⦃μ μ' : sh_Mem⦄ ⦃v : Int32⦄, sh_G μ → F_X2_sum rec fuel 1 i1 i2 i3 μ = some (v, μ') → cI μ μ') := by
  induction fuel with
  | zero => intro i1 i2 i3 μ μ' v hG h; cases h
  | succ fuel ih =>
    have ih_8 := ih
    intro i1 i2 i3 μ μ' v hG h
    replace h : ((if 1600 ≤ i3 then (if i2 = 0 ∨ i2 = 1 then some (i2, μ) else none) else (if i2 = 0 then (if i2 = 0 ∨ i2 = 1 then some (i2, μ) else none) else (if (sh_i μ 2 3) = 43 then sh_let ((sh_i μ 2 3) : Int32) (fun x40 => sh_bindv (f_X8_advance μ) (fun μ41 => sh_bind (rec 4 i1 0 0 μ41) (fun y46 μ44 => (if (sh_r μ44 6 1 = some (sh_ref μ44 6 1) ∧ (sh_ref μ44 6 1) ∈ sh_FORMS) then sh_let (sh_ref μ44 6 1) (fun r48 => sh_bindv (f_X1_addMark r48 x40 μ44) (fun μ49 => F_X2_sum rec fuel 1 i1 y46 (i3 + 1) μ49)) else none)))) else (if (sh_i μ 2 3) = 45 then sh_let ((sh_i μ 2 3) : Int32) (fun x54 => sh_bindv (f_X8_advance μ) (fun μ55 => sh_bind (rec 4 i1 0 0 μ55) (fun y60 μ58 => (if (sh_r μ58 6 1 = some (sh_ref μ58 6 1) ∧ (sh_ref μ58 6 1) ∈ sh_FORMS) then sh_let (sh_ref μ58 6 1) (fun r62 => sh_bindv (f_X1_addMark r62 x54 μ58) (fun μ63 => F_X2_sum rec fuel 1 i1 y60 (i3 + 1) μ63)) else none)))) else (if i2 = 0 ∨ i2 = 1 then some (i2, μ) else none))))) : Option (Int32 × sh_Mem)) = some (v, μ') := h
    have hF : cI μ μ := cI.rf
    by_cases c35 : 1600 ≤ i3
    · rw [if_pos c35] at h
      obtain ⟨k36, h⟩ := sh_chk h
      obtain ⟨e1, e2⟩ := sh_some2 h
      exact e2 ▸ hF
    · rw [if_neg c35] at h
      by_cases c37 : i2 = 0
      · rw [if_pos c37] at h
        obtain ⟨k38, h⟩ := sh_chk h
        obtain ⟨e1, e2⟩ := sh_some2 h
        exact e2 ▸ hF
      · rw [if_neg c37] at h
        by_cases c39 : (sh_i μ 2 3) = 43
        · rw [if_pos c39] at h
          obtain ⟨x40, ex40⟩ : ∃ y : Int32, y = (sh_i μ 2 3) := ⟨_, rfl⟩
          rw [sh_let_eq ex40] at h
          obtain ⟨μ41, hr42, h⟩ := sh_bindv_e h
          have hG41 := gp_X8_advance hG hr42
          have hF41 := hF.trans (ci_X8_advance hG hr42)
          obtain ⟨y46, μ44, hr45, h⟩ := sh_bind_e h
          have hG44 := grec hG41 hr45
          have hF44 := hF41.trans (frec hG41 hr45)
          obtain ⟨k47, h⟩ := sh_chk h
          obtain ⟨r48, er48⟩ : ∃ y : Nat, y = (sh_ref μ44 6 1) := ⟨_, rfl⟩
          rw [sh_let_eq er48] at h
          have k47r : sh_r μ44 6 1 = some r48 ∧ r48 ∈ sh_FORMS := by rw [er48]; exact k47
          obtain ⟨μ49, hr50, h⟩ := sh_bindv_e h
          have hG49 := gp_X1_addMark hG44 k47r.2 hr50
          have hF49 := hF44.trans (ci_X1_addMark hG44 k47r.2 hr50)
          exact hF49.trans (ih_8 hG49 h)
        · rw [if_neg c39] at h
          by_cases c52 : (sh_i μ 2 3) = 45
          · rw [if_pos c52] at h
            obtain ⟨x54, ex54⟩ : ∃ y : Int32, y = (sh_i μ 2 3) := ⟨_, rfl⟩
            rw [sh_let_eq ex54] at h
            obtain ⟨μ55, hr56, h⟩ := sh_bindv_e h
            have hG55 := gp_X8_advance hG hr56
            have hF55 := hF.trans (ci_X8_advance hG hr56)
            obtain ⟨y60, μ58, hr59, h⟩ := sh_bind_e h
            have hG58 := grec hG55 hr59
            have hF58 := hF55.trans (frec hG55 hr59)
            obtain ⟨k61, h⟩ := sh_chk h
            obtain ⟨r62, er62⟩ : ∃ y : Nat, y = (sh_ref μ58 6 1) := ⟨_, rfl⟩
            rw [sh_let_eq er62] at h
            have k61r : sh_r μ58 6 1 = some r62 ∧ r62 ∈ sh_FORMS := by rw [er62]; exact k61
            obtain ⟨μ63, hr64, h⟩ := sh_bindv_e h
            have hG63 := gp_X1_addMark hG58 k61r.2 hr64
            have hF63 := hF58.trans (ci_X1_addMark hG58 k61r.2 hr64)
            exact hF63.trans (ih_8 hG63 h)
          · rw [if_neg c52] at h
            obtain ⟨k53, h⟩ := sh_chk h
            obtain ⟨e1, e2⟩ := sh_some2 h
            exact e2 ▸ hF
theorem ci_X2_sum {rec : Nat → Int32 → Int32 → Int32 → sh_Mem → Option (Int32 × sh_Mem)} {a1 : Int32} {μ μ' : sh_Mem} {v : Int32}  (grec : ∀ ⦃k : Nat⦄ ⦃b1 b2 b3 : Int32⦄ ⦃μ μ' : sh_Mem⦄ ⦃v : Int32⦄, sh_G μ → rec k b1 b2 b3 μ = some (v, μ') → sh_G μ') (frec : ∀ ⦃k : Nat⦄ ⦃b1 b2 b3 : Int32⦄ ⦃μ μ' : sh_Mem⦄ ⦃v : Int32⦄, sh_G μ → rec k b1 b2 b3 μ = some (v, μ') → cI μ μ')(hG : sh_G μ) (h : f_X2_sum rec a1 μ = some (v, μ')) : cI μ μ' := by
  have ih_8 := (cil_X2_sum grec frec sh_fuel)
  have hF : cI μ μ := cI.rf
  unfold f_X2_sum at h
  obtain ⟨y68, μ66, hr67, h⟩ := sh_bind_e h
  have hG66 := grec hG hr67
  have hF66 := hF.trans (frec hG hr67)
  exact hF66.trans (ih_8 hG66 h)
theorem cil_X2_product {rec : Nat → Int32 → Int32 → Int32 → sh_Mem → Option (Int32 × sh_Mem)} (grec : ∀ ⦃k : Nat⦄ ⦃b1 b2 b3 : Int32⦄ ⦃μ μ' : sh_Mem⦄ ⦃v : Int32⦄, sh_G μ → rec k b1 b2 b3 μ = some (v, μ') → sh_G μ') (frec : ∀ ⦃k : Nat⦄ ⦃b1 b2 b3 : Int32⦄ ⦃μ μ' : sh_Mem⦄ ⦃v : Int32⦄, sh_G μ → rec k b1 b2 b3 μ = some (v, μ') → cI μ μ') (fuel : Nat) : (∀ ⦃i1 : Int32⦄ ⦃i2 : Int32⦄ ⦃i3 : Int32⦄ ⦃μ μ' : sh_Mem⦄ ⦃v : Int32⦄, sh_G μ → F_X2_product rec fuel 1 i1 i2 i3 μ = some (v, μ') → cI μ μ') := by
  induction fuel with
  | zero => intro i1 i2 i3 μ μ' v hG h; cases h
  | succ fuel ih =>
    have ih_8 := ih
    intro i1 i2 i3 μ μ' v hG h
    replace h : ((if 1600 ≤ i3 then (if i2 = 0 ∨ i2 = 1 then some (i2, μ) else none) else (if i2 = 0 then (if i2 = 0 ∨ i2 = 1 then some (i2, μ) else none) else (if (sh_i μ 2 3) = 42 then sh_let ((sh_i μ 2 3) : Int32) (fun x40 => sh_bindv (f_X8_advance μ) (fun μ41 => sh_bind (rec 5 i1 0 0 μ41) (fun y46 μ44 => (if (sh_r μ44 6 1 = some (sh_ref μ44 6 1) ∧ (sh_ref μ44 6 1) ∈ sh_FORMS) then sh_let (sh_ref μ44 6 1) (fun r48 => sh_bindv (f_X1_addMark r48 x40 μ44) (fun μ49 => F_X2_product rec fuel 1 i1 y46 (i3 + 1) μ49)) else none)))) else (if (sh_i μ 2 3) = 47 then sh_let ((sh_i μ 2 3) : Int32) (fun x54 => sh_bindv (f_X8_advance μ) (fun μ55 => sh_bind (rec 5 i1 0 0 μ55) (fun y60 μ58 => (if (sh_r μ58 6 1 = some (sh_ref μ58 6 1) ∧ (sh_ref μ58 6 1) ∈ sh_FORMS) then sh_let (sh_ref μ58 6 1) (fun r62 => sh_bindv (f_X1_addMark r62 x54 μ58) (fun μ63 => F_X2_product rec fuel 1 i1 y60 (i3 + 1) μ63)) else none)))) else (if i2 = 0 ∨ i2 = 1 then some (i2, μ) else none))))) : Option (Int32 × sh_Mem)) = some (v, μ') := h
    have hF : cI μ μ := cI.rf
    by_cases c35 : 1600 ≤ i3
    · rw [if_pos c35] at h
      obtain ⟨k36, h⟩ := sh_chk h
      obtain ⟨e1, e2⟩ := sh_some2 h
      exact e2 ▸ hF
    · rw [if_neg c35] at h
      by_cases c37 : i2 = 0
      · rw [if_pos c37] at h
        obtain ⟨k38, h⟩ := sh_chk h
        obtain ⟨e1, e2⟩ := sh_some2 h
        exact e2 ▸ hF
      · rw [if_neg c37] at h
        by_cases c39 : (sh_i μ 2 3) = 42
        · rw [if_pos c39] at h
          obtain ⟨x40, ex40⟩ : ∃ y : Int32, y = (sh_i μ 2 3) := ⟨_, rfl⟩
          rw [sh_let_eq ex40] at h
          obtain ⟨μ41, hr42, h⟩ := sh_bindv_e h
          have hG41 := gp_X8_advance hG hr42
          have hF41 := hF.trans (ci_X8_advance hG hr42)
          obtain ⟨y46, μ44, hr45, h⟩ := sh_bind_e h
          have hG44 := grec hG41 hr45
          have hF44 := hF41.trans (frec hG41 hr45)
          obtain ⟨k47, h⟩ := sh_chk h
          obtain ⟨r48, er48⟩ : ∃ y : Nat, y = (sh_ref μ44 6 1) := ⟨_, rfl⟩
          rw [sh_let_eq er48] at h
          have k47r : sh_r μ44 6 1 = some r48 ∧ r48 ∈ sh_FORMS := by rw [er48]; exact k47
          obtain ⟨μ49, hr50, h⟩ := sh_bindv_e h
          have hG49 := gp_X1_addMark hG44 k47r.2 hr50
          have hF49 := hF44.trans (ci_X1_addMark hG44 k47r.2 hr50)
          exact hF49.trans (ih_8 hG49 h)
        · rw [if_neg c39] at h
          by_cases c52 : (sh_i μ 2 3) = 47
          · rw [if_pos c52] at h
            obtain ⟨x54, ex54⟩ : ∃ y : Int32, y = (sh_i μ 2 3) := ⟨_, rfl⟩
            rw [sh_let_eq ex54] at h
            obtain ⟨μ55, hr56, h⟩ := sh_bindv_e h
            have hG55 := gp_X8_advance hG hr56
            have hF55 := hF.trans (ci_X8_advance hG hr56)
            obtain ⟨y60, μ58, hr59, h⟩ := sh_bind_e h
            have hG58 := grec hG55 hr59
            have hF58 := hF55.trans (frec hG55 hr59)
            obtain ⟨k61, h⟩ := sh_chk h
            obtain ⟨r62, er62⟩ : ∃ y : Nat, y = (sh_ref μ58 6 1) := ⟨_, rfl⟩
            rw [sh_let_eq er62] at h
            have k61r : sh_r μ58 6 1 = some r62 ∧ r62 ∈ sh_FORMS := by rw [er62]; exact k61
            obtain ⟨μ63, hr64, h⟩ := sh_bindv_e h
            have hG63 := gp_X1_addMark hG58 k61r.2 hr64
            have hF63 := hF58.trans (ci_X1_addMark hG58 k61r.2 hr64)
            exact hF63.trans (ih_8 hG63 h)
          · rw [if_neg c52] at h
            obtain ⟨k53, h⟩ := sh_chk h
            obtain ⟨e1, e2⟩ := sh_some2 h
            exact e2 ▸ hF
theorem ci_X2_product {rec : Nat → Int32 → Int32 → Int32 → sh_Mem → Option (Int32 × sh_Mem)} {a1 : Int32} {μ μ' : sh_Mem} {v : Int32}  (grec : ∀ ⦃k : Nat⦄ ⦃b1 b2 b3 : Int32⦄ ⦃μ μ' : sh_Mem⦄ ⦃v : Int32⦄, sh_G μ → rec k b1 b2 b3 μ = some (v, μ') → sh_G μ') (frec : ∀ ⦃k : Nat⦄ ⦃b1 b2 b3 : Int32⦄ ⦃μ μ' : sh_Mem⦄ ⦃v : Int32⦄, sh_G μ → rec k b1 b2 b3 μ = some (v, μ') → cI μ μ')(hG : sh_G μ) (h : f_X2_product rec a1 μ = some (v, μ')) : cI μ μ' := by
  have ih_8 := (cil_X2_product grec frec sh_fuel)
  have hF : cI μ μ := cI.rf
  unfold f_X2_product at h
  obtain ⟨y68, μ66, hr67, h⟩ := sh_bind_e h
  have hG66 := grec hG hr67
  have hF66 := hF.trans (frec hG hr67)
  exact hF66.trans (ih_8 hG66 h)
theorem ci_X2_part {rec : Nat → Int32 → Int32 → Int32 → sh_Mem → Option (Int32 × sh_Mem)} {a1 : Int32} {μ μ' : sh_Mem} {v : Int32}  (grec : ∀ ⦃k : Nat⦄ ⦃b1 b2 b3 : Int32⦄ ⦃μ μ' : sh_Mem⦄ ⦃v : Int32⦄, sh_G μ → rec k b1 b2 b3 μ = some (v, μ') → sh_G μ') (frec : ∀ ⦃k : Nat⦄ ⦃b1 b2 b3 : Int32⦄ ⦃μ μ' : sh_Mem⦄ ⦃v : Int32⦄, sh_G μ → rec k b1 b2 b3 μ = some (v, μ') → cI μ μ')(hG : sh_G μ) (h : f_X2_part rec a1 μ = some (v, μ')) : cI μ μ' := by
  have hF : cI μ μ := cI.rf
  unfold f_X2_part at h
  by_cases c1 : (sh_i μ 2 3) = 40
  · rw [if_pos c1] at h
    obtain ⟨y108, μ106, hr107, h⟩ := sh_bind_e h
    have hG106 := gp_X2_opens hG hr107
    have hF106 := hF.trans (ci_X2_opens hG hr107)
    by_cases c109 : y108 = 0
    · rw [if_pos c109] at h
      obtain ⟨e1, e2⟩ := sh_some2 h
      exact e2 ▸ hF106
    · rw [if_neg c109] at h
      obtain ⟨y112, μ110, hr111, h⟩ := sh_bind_e h
      have hG110 := grec hG106 hr111
      have hF110 := hF106.trans (frec hG106 hr111)
      by_cases c113 : y112 = 0
      · rw [if_pos c113] at h
        obtain ⟨e1, e2⟩ := sh_some2 h
        exact e2 ▸ hF110
      · rw [if_neg c113] at h
        obtain ⟨y116, μ114, hr115, h⟩ := sh_bind_e h
        have hG114 := gp_X8_takesMark hG110 hr115
        have hF114 := hF110.trans (ci_X8_takesMark hG110 hr115)
        by_cases c117 : y116 = 0
        · rw [if_pos c117] at h
          obtain ⟨e1, e2⟩ := sh_some2 h
          exact e2 ▸ hF114
        · rw [if_neg c117] at h
          obtain ⟨e1, e2⟩ := sh_some2 h
          exact e2 ▸ hF114
  · rw [if_neg c1] at h
    by_cases c2 : (sh_i μ 2 3) = (-2)
    · rw [if_pos c2] at h
      obtain ⟨x3, ex3⟩ : ∃ y : Int32, y = (sh_i μ 2 6) := ⟨_, rfl⟩
      rw [sh_let_eq ex3] at h
      by_cases c4 : x3 = 25
      · rw [if_pos c4] at h
        obtain ⟨y7, μ5, hr6, h⟩ := sh_bind_e h
        have hG5 := grec hG hr6
        have hF5 := hF.trans (frec hG hr6)
        obtain ⟨k8, h⟩ := sh_chk h
        obtain ⟨e1, e2⟩ := sh_some2 h
        exact e2 ▸ hF5
      · rw [if_neg c4] at h
        by_cases c9 : x3 = 26
        · rw [if_pos c9] at h
          obtain ⟨y93, μ91, hr92, h⟩ := sh_bind_e h
          have hG91 := grec hG hr92
          have hF91 := hF.trans (frec hG hr92)
          obtain ⟨k94, h⟩ := sh_chk h
          obtain ⟨e1, e2⟩ := sh_some2 h
          exact e2 ▸ hF91
        · rw [if_neg c9] at h
          by_cases c10 : (sh_i μ 6 2) = 2
          · rw [if_pos c10] at h
            by_cases c27 : x3 = 7
            · rw [if_pos c27] at h
              obtain ⟨y30, μ28, hr29, h⟩ := sh_bind_e h
              have hG28 := gp_X2_opens hG hr29
              have hF28 := hF.trans (ci_X2_opens hG hr29)
              by_cases c31 : y30 = 0
              · rw [if_pos c31] at h
                obtain ⟨k32, h⟩ := sh_chk h
                obtain ⟨r33, er33⟩ : ∃ y : Nat, y = (sh_ref μ28 6 1) := ⟨_, rfl⟩
                rw [sh_let_eq er33] at h
                have k32r : sh_r μ28 6 1 = some r33 ∧ r33 ∈ sh_FORMS := by rw [er33]; exact k32
                obtain ⟨μ34, hr35, h⟩ := sh_bindv_e h
                have hG34 := gp_X1_addWord hG28 k32r.2 hr35
                have hF34 := hF28.trans (ci_X1_addWord hG28 k32r.2 hr35)
                obtain ⟨e1, e2⟩ := sh_some2 h
                exact e2 ▸ hF34
              · rw [if_neg c31] at h
                obtain ⟨y39, μ37, hr38, h⟩ := sh_bind_e h
                have hG37 := grec hG28 hr38
                have hF37 := hF28.trans (frec hG28 hr38)
                by_cases c40 : y39 = 0
                · rw [if_pos c40] at h
                  obtain ⟨k41, h⟩ := sh_chk h
                  obtain ⟨r42, er42⟩ : ∃ y : Nat, y = (sh_ref μ37 6 1) := ⟨_, rfl⟩
                  rw [sh_let_eq er42] at h
                  have k41r : sh_r μ37 6 1 = some r42 ∧ r42 ∈ sh_FORMS := by rw [er42]; exact k41
                  obtain ⟨μ43, hr44, h⟩ := sh_bindv_e h
                  have hG43 := gp_X1_addWord hG37 k41r.2 hr44
                  have hF43 := hF37.trans (ci_X1_addWord hG37 k41r.2 hr44)
                  obtain ⟨e1, e2⟩ := sh_some2 h
                  exact e2 ▸ hF43
                · rw [if_neg c40] at h
                  obtain ⟨k46, h⟩ := sh_chk h
                  obtain ⟨r47, er47⟩ : ∃ y : Nat, y = (sh_ref μ37 6 1) := ⟨_, rfl⟩
                  rw [sh_let_eq er47] at h
                  have k46r : sh_r μ37 6 1 = some r47 ∧ r47 ∈ sh_FORMS := by rw [er47]; exact k46
                  obtain ⟨μ48, hr49, h⟩ := sh_bindv_e h
                  have hG48 := gp_X1_addWord hG37 k46r.2 hr49
                  have hF48 := hF37.trans (ci_X1_addWord hG37 k46r.2 hr49)
                  obtain ⟨e1, e2⟩ := sh_some2 h
                  exact e2 ▸ hF48
            · rw [if_neg c27] at h
              by_cases c51 : x3 = 10
              · rw [if_pos c51] at h
                obtain ⟨y70, μ68, hr69, h⟩ := sh_bind_e h
                have hG68 := gp_X2_opens hG hr69
                have hF68 := hF.trans (ci_X2_opens hG hr69)
                by_cases c71 : y70 = 0
                · rw [if_pos c71] at h
                  obtain ⟨k72, h⟩ := sh_chk h
                  obtain ⟨r73, er73⟩ : ∃ y : Nat, y = (sh_ref μ68 6 1) := ⟨_, rfl⟩
                  rw [sh_let_eq er73] at h
                  have k72r : sh_r μ68 6 1 = some r73 ∧ r73 ∈ sh_FORMS := by rw [er73]; exact k72
                  obtain ⟨μ74, hr75, h⟩ := sh_bindv_e h
                  have hG74 := gp_X1_addWord hG68 k72r.2 hr75
                  have hF74 := hF68.trans (ci_X1_addWord hG68 k72r.2 hr75)
                  obtain ⟨e1, e2⟩ := sh_some2 h
                  exact e2 ▸ hF74
                · rw [if_neg c71] at h
                  obtain ⟨y79, μ77, hr78, h⟩ := sh_bind_e h
                  have hG77 := grec hG68 hr78
                  have hF77 := hF68.trans (frec hG68 hr78)
                  by_cases c80 : y79 = 0
                  · rw [if_pos c80] at h
                    obtain ⟨k81, h⟩ := sh_chk h
                    obtain ⟨r82, er82⟩ : ∃ y : Nat, y = (sh_ref μ77 6 1) := ⟨_, rfl⟩
                    rw [sh_let_eq er82] at h
                    have k81r : sh_r μ77 6 1 = some r82 ∧ r82 ∈ sh_FORMS := by rw [er82]; exact k81
                    obtain ⟨μ83, hr84, h⟩ := sh_bindv_e h
                    have hG83 := gp_X1_addWord hG77 k81r.2 hr84
                    have hF83 := hF77.trans (ci_X1_addWord hG77 k81r.2 hr84)
                    obtain ⟨e1, e2⟩ := sh_some2 h
                    exact e2 ▸ hF83
                  · rw [if_neg c80] at h
                    obtain ⟨k86, h⟩ := sh_chk h
                    obtain ⟨r87, er87⟩ : ∃ y : Nat, y = (sh_ref μ77 6 1) := ⟨_, rfl⟩
                    rw [sh_let_eq er87] at h
                    have k86r : sh_r μ77 6 1 = some r87 ∧ r87 ∈ sh_FORMS := by rw [er87]; exact k86
                    obtain ⟨μ88, hr89, h⟩ := sh_bindv_e h
                    have hG88 := gp_X1_addWord hG77 k86r.2 hr89
                    have hF88 := hF77.trans (ci_X1_addWord hG77 k86r.2 hr89)
                    obtain ⟨e1, e2⟩ := sh_some2 h
                    exact e2 ▸ hF88
              · rw [if_neg c51] at h
                obtain ⟨y54, μ52, hr53, h⟩ := sh_bind_e h
                have hG52 := gp_X2_isFactHere hG hr53
                have hF52 := hF.trans (ci_X2_isFactHere hG hr53)
                by_cases c55 : y54 = 0
                · rw [if_pos c55] at h
                  obtain ⟨y66, μ64, hr65, h⟩ := sh_bind_e h
                  have hG64 := gp_X8_fails hG52 hr65
                  have hF64 := hF52.trans (ci_X8_fails hr65 (by decide))
                  obtain ⟨k67, h⟩ := sh_chk h
                  obtain ⟨e1, e2⟩ := sh_some2 h
                  exact e2 ▸ hF64
                · rw [if_neg c55] at h
                  obtain ⟨μ56, hr57, h⟩ := sh_bindv_e h
                  have hG56 := gp_X8_advance hG52 hr57
                  have hF56 := hF52.trans (ci_X8_advance hG52 hr57)
                  obtain ⟨k59, h⟩ := sh_chk h
                  obtain ⟨r60, er60⟩ : ∃ y : Nat, y = (sh_ref μ56 6 1) := ⟨_, rfl⟩
                  rw [sh_let_eq er60] at h
                  have k59r : sh_r μ56 6 1 = some r60 ∧ r60 ∈ sh_FORMS := by rw [er60]; exact k59
                  obtain ⟨μ61, hr62, h⟩ := sh_bindv_e h
                  have hG61 := gp_X1_addWord hG56 k59r.2 hr62
                  have hF61 := hF56.trans (ci_X1_addWord hG56 k59r.2 hr62)
                  obtain ⟨e1, e2⟩ := sh_some2 h
                  exact e2 ▸ hF61
          · rw [if_neg c10] at h
            obtain ⟨y13, μ11, hr12, h⟩ := sh_bind_e h
            have hG11 := gp_X2_isFactHere hG hr12
            have hF11 := hF.trans (ci_X2_isFactHere hG hr12)
            by_cases c14 : y13 = 0
            · rw [if_pos c14] at h
              obtain ⟨y25, μ23, hr24, h⟩ := sh_bind_e h
              have hG23 := gp_X8_fails hG11 hr24
              have hF23 := hF11.trans (ci_X8_fails hr24 (by decide))
              obtain ⟨k26, h⟩ := sh_chk h
              obtain ⟨e1, e2⟩ := sh_some2 h
              exact e2 ▸ hF23
            · rw [if_neg c14] at h
              obtain ⟨μ15, hr16, h⟩ := sh_bindv_e h
              have hG15 := gp_X8_advance hG11 hr16
              have hF15 := hF11.trans (ci_X8_advance hG11 hr16)
              obtain ⟨k18, h⟩ := sh_chk h
              obtain ⟨r19, er19⟩ : ∃ y : Nat, y = (sh_ref μ15 6 1) := ⟨_, rfl⟩
              rw [sh_let_eq er19] at h
              have k18r : sh_r μ15 6 1 = some r19 ∧ r19 ∈ sh_FORMS := by rw [er19]; exact k18
              obtain ⟨μ20, hr21, h⟩ := sh_bindv_e h
              have hG20 := gp_X1_addWord hG15 k18r.2 hr21
              have hF20 := hF15.trans (ci_X1_addWord hG15 k18r.2 hr21)
              obtain ⟨e1, e2⟩ := sh_some2 h
              exact e2 ▸ hF20
    · rw [if_neg c2] at h
      obtain ⟨y97, μ95, hr96, h⟩ := sh_bind_e h
      have hG95 := gp_X8_takeNumber hG hr96
      have hF95 := hF.trans (ci_X8_takeNumber hG hr96)
      by_cases c98 : y97 = (-1)
      · rw [if_pos c98] at h
        by_cases c99 : y97 = (-1)
        · rw [if_pos c99] at h
          obtain ⟨e1, e2⟩ := sh_some2 h
          exact e2 ▸ hF95
        · rw [if_neg c99] at h
          obtain ⟨e1, e2⟩ := sh_some2 h
          exact e2 ▸ hF95
      · rw [if_neg c98] at h
        obtain ⟨k100, h⟩ := sh_chk h
        obtain ⟨r101, er101⟩ : ∃ y : Nat, y = (sh_ref μ95 6 1) := ⟨_, rfl⟩
        rw [sh_let_eq er101] at h
        have k100r : sh_r μ95 6 1 = some r101 ∧ r101 ∈ sh_FORMS := by rw [er101]; exact k100
        obtain ⟨μ102, hr103, h⟩ := sh_bindv_e h
        have hG102 := gp_X1_add hG95 k100r.2 hr103
        have hF102 := hF95.trans (ci_X1_add hG95 k100r.2 hr103)
        by_cases c105 : y97 = (-1)
        · rw [if_pos c105] at h
          obtain ⟨e1, e2⟩ := sh_some2 h
          exact e2 ▸ hF102
        · rw [if_neg c105] at h
          obtain ⟨e1, e2⟩ := sh_some2 h
          exact e2 ▸ hF102
theorem ci_X2_ofTwoSums {rec : Nat → Int32 → Int32 → Int32 → sh_Mem → Option (Int32 × sh_Mem)} {a1 : Int32} {a2 : Int32} {μ μ' : sh_Mem} {v : Int32}  (grec : ∀ ⦃k : Nat⦄ ⦃b1 b2 b3 : Int32⦄ ⦃μ μ' : sh_Mem⦄ ⦃v : Int32⦄, sh_G μ → rec k b1 b2 b3 μ = some (v, μ') → sh_G μ') (frec : ∀ ⦃k : Nat⦄ ⦃b1 b2 b3 : Int32⦄ ⦃μ μ' : sh_Mem⦄ ⦃v : Int32⦄, sh_G μ → rec k b1 b2 b3 μ = some (v, μ') → cI μ μ')(hG : sh_G μ) (h : f_X2_ofTwoSums rec a1 a2 μ = some (v, μ')) : cI μ μ' := by
  have hF : cI μ μ := cI.rf
  unfold f_X2_ofTwoSums at h
  obtain ⟨μ1, hr2, h⟩ := sh_bindv_e h
  have hG1 := gp_X8_advance hG hr2
  have hF1 := hF.trans (ci_X8_advance hG hr2)
  by_cases c4 : (sh_i μ1 2 3) = 40
  · rw [if_pos c4] at h
    obtain ⟨y7, μ5, hr6, h⟩ := sh_bind_e h
    have hG5 := gp_X2_opens hG1 hr6
    have hF5 := hF1.trans (ci_X2_opens hG1 hr6)
    by_cases c8 : y7 = 0
    · rw [if_pos c8] at h
      obtain ⟨k9, h⟩ := sh_chk h
      obtain ⟨r10, er10⟩ : ∃ y : Nat, y = (sh_ref μ5 6 1) := ⟨_, rfl⟩
      rw [sh_let_eq er10] at h
      have k9r : sh_r μ5 6 1 = some r10 ∧ r10 ∈ sh_FORMS := by rw [er10]; exact k9
      obtain ⟨μ11, hr12, h⟩ := sh_bindv_e h
      have hG11 := gp_X1_addWord hG5 k9r.2 hr12
      have hF11 := hF5.trans (ci_X1_addWord hG5 k9r.2 hr12)
      obtain ⟨e1, e2⟩ := sh_some2 h
      exact e2 ▸ hF11
    · rw [if_neg c8] at h
      obtain ⟨y16, μ14, hr15, h⟩ := sh_bind_e h
      have hG14 := grec hG5 hr15
      have hF14 := hF5.trans (frec hG5 hr15)
      by_cases c17 : y16 = 0
      · rw [if_pos c17] at h
        obtain ⟨k18, h⟩ := sh_chk h
        obtain ⟨r19, er19⟩ : ∃ y : Nat, y = (sh_ref μ14 6 1) := ⟨_, rfl⟩
        rw [sh_let_eq er19] at h
        have k18r : sh_r μ14 6 1 = some r19 ∧ r19 ∈ sh_FORMS := by rw [er19]; exact k18
        obtain ⟨μ20, hr21, h⟩ := sh_bindv_e h
        have hG20 := gp_X1_addWord hG14 k18r.2 hr21
        have hF20 := hF14.trans (ci_X1_addWord hG14 k18r.2 hr21)
        obtain ⟨e1, e2⟩ := sh_some2 h
        exact e2 ▸ hF20
      · rw [if_neg c17] at h
        obtain ⟨y25, μ23, hr24, h⟩ := sh_bind_e h
        have hG23 := gp_X8_takesMark hG14 hr24
        have hF23 := hF14.trans (ci_X8_takesMark hG14 hr24)
        by_cases c26 : y25 = 0
        · rw [if_pos c26] at h
          obtain ⟨k27, h⟩ := sh_chk h
          obtain ⟨r28, er28⟩ : ∃ y : Nat, y = (sh_ref μ23 6 1) := ⟨_, rfl⟩
          rw [sh_let_eq er28] at h
          have k27r : sh_r μ23 6 1 = some r28 ∧ r28 ∈ sh_FORMS := by rw [er28]; exact k27
          obtain ⟨μ29, hr30, h⟩ := sh_bindv_e h
          have hG29 := gp_X1_addWord hG23 k27r.2 hr30
          have hF29 := hF23.trans (ci_X1_addWord hG23 k27r.2 hr30)
          obtain ⟨e1, e2⟩ := sh_some2 h
          exact e2 ▸ hF29
        · rw [if_neg c26] at h
          obtain ⟨y34, μ32, hr33, h⟩ := sh_bind_e h
          have hG32 := grec hG23 hr33
          have hF32 := hF23.trans (frec hG23 hr33)
          by_cases c35 : y34 = 0
          · rw [if_pos c35] at h
            obtain ⟨k36, h⟩ := sh_chk h
            obtain ⟨r37, er37⟩ : ∃ y : Nat, y = (sh_ref μ32 6 1) := ⟨_, rfl⟩
            rw [sh_let_eq er37] at h
            have k36r : sh_r μ32 6 1 = some r37 ∧ r37 ∈ sh_FORMS := by rw [er37]; exact k36
            obtain ⟨μ38, hr39, h⟩ := sh_bindv_e h
            have hG38 := gp_X1_addWord hG32 k36r.2 hr39
            have hF38 := hF32.trans (ci_X1_addWord hG32 k36r.2 hr39)
            obtain ⟨e1, e2⟩ := sh_some2 h
            exact e2 ▸ hF38
          · rw [if_neg c35] at h
            obtain ⟨y43, μ41, hr42, h⟩ := sh_bind_e h
            have hG41 := gp_X8_takesMark hG32 hr42
            have hF41 := hF32.trans (ci_X8_takesMark hG32 hr42)
            by_cases c44 : y43 = 0
            · rw [if_pos c44] at h
              obtain ⟨k45, h⟩ := sh_chk h
              obtain ⟨r46, er46⟩ : ∃ y : Nat, y = (sh_ref μ41 6 1) := ⟨_, rfl⟩
              rw [sh_let_eq er46] at h
              have k45r : sh_r μ41 6 1 = some r46 ∧ r46 ∈ sh_FORMS := by rw [er46]; exact k45
              obtain ⟨μ47, hr48, h⟩ := sh_bindv_e h
              have hG47 := gp_X1_addWord hG41 k45r.2 hr48
              have hF47 := hF41.trans (ci_X1_addWord hG41 k45r.2 hr48)
              obtain ⟨e1, e2⟩ := sh_some2 h
              exact e2 ▸ hF47
            · rw [if_neg c44] at h
              obtain ⟨k50, h⟩ := sh_chk h
              obtain ⟨r51, er51⟩ : ∃ y : Nat, y = (sh_ref μ41 6 1) := ⟨_, rfl⟩
              rw [sh_let_eq er51] at h
              have k50r : sh_r μ41 6 1 = some r51 ∧ r51 ∈ sh_FORMS := by rw [er51]; exact k50
              obtain ⟨μ52, hr53, h⟩ := sh_bindv_e h
              have hG52 := gp_X1_addWord hG41 k50r.2 hr53
              have hF52 := hF41.trans (ci_X1_addWord hG41 k50r.2 hr53)
              obtain ⟨e1, e2⟩ := sh_some2 h
              exact e2 ▸ hF52
  · rw [if_neg c4] at h
    obtain ⟨y57, μ55, hr56, h⟩ := sh_bind_e h
    have hG55 := gp_X8_fails hG1 hr56
    have hF55 := hF1.trans (ci_X8_fails hr56 (by decide))
    obtain ⟨k58, h⟩ := sh_chk h
    obtain ⟨e1, e2⟩ := sh_some2 h
    exact e2 ▸ hF55
theorem Gi_X2 (dd : Nat) : ∀ ⦃k : Nat⦄ ⦃b1 b2 b3 : Int32⦄ ⦃μ μ' : sh_Mem⦄ ⦃v : Int32⦄, sh_G μ → G_X2 dd k b1 b2 b3 μ = some (v, μ') → cI μ μ' := by
  induction dd with
  | zero => intro k b1 b2 b3 μ μ' v hG h; cases h
  | succ dd ih =>
    intro k b1 b2 b3 μ μ' v hG h
    match k, h with
    | 0, h => exact ci_X2_test (Gg_X2 dd) ih hG h
    | 1, h => exact ci_X2_both (Gg_X2 dd) ih hG h
    | 2, h => exact ci_X2_fact (Gg_X2 dd) ih hG h
    | 3, h => exact ci_X2_sum (Gg_X2 dd) ih hG h
    | 4, h => exact ci_X2_product (Gg_X2 dd) ih hG h
    | 5, h => exact ci_X2_part (Gg_X2 dd) ih hG h
    | 6, h => exact ci_X2_ofTwoSums (Gg_X2 dd) ih hG h
    | n + 7, h => cases h
theorem ci_X2_test_top {b1 : Int32} {μ μ' : sh_Mem} {v : Int32} (hG : sh_G μ) (h : f_X2_test_top b1 μ = some (v, μ')) : cI μ μ' := Gi_X2 64 hG h
theorem ci_X2_sum_top {b1 : Int32} {μ μ' : sh_Mem} {v : Int32} (hG : sh_G μ) (h : f_X2_sum_top b1 μ = some (v, μ')) : cI μ μ' := Gi_X2 64 hG h
theorem ci_X6_readStatement {μ μ' : sh_Mem} {v : Int32} (hG : sh_G μ) (h : f_X6_readStatement μ = some (v, μ')) : cI μ μ' := by
  have hF : cI μ μ := cI.rf
  unfold f_X6_readStatement at h
  by_cases c1 : (sh_i μ 2 3) = (-2)
  · rw [if_pos c1] at h
    obtain ⟨x14, ex14⟩ : ∃ y : Int32, y = (sh_i μ 2 6) := ⟨_, rfl⟩
    rw [sh_let_eq ex14] at h
    obtain ⟨y17, μ15, hr16, h⟩ := sh_bind_e h
    have hG15 := gp_X6_isOneTooMany hG hr16
    have hF15 := hF.trans (ci_X6_isOneTooMany hG hr16)
    by_cases c18 : y17 = 0
    · rw [if_pos c18] at h
      by_cases c19 : x14 = 2
      · rw [if_pos c19] at h
        obtain ⟨y22, μ20, hr21, h⟩ := sh_bind_e h
        have hG20 := gp_X6_readHigh hG15 hr21
        have hF20 := hF15.trans (ci_X6_readHigh hG15 hr21)
        obtain ⟨k23, h⟩ := sh_chk h
        obtain ⟨e1, e2⟩ := sh_some2 h
        exact e2 ▸ hF20
      rw [if_neg c19] at h
      by_cases c24 : x14 = 3
      · rw [if_pos c24] at h
        obtain ⟨y27, μ25, hr26, h⟩ := sh_bind_e h
        have hG25 := gp_X6_readTopic hG15 hr26
        have hF25 := hF15.trans (ci_X6_readTopic hG15 hr26)
        obtain ⟨k28, h⟩ := sh_chk h
        obtain ⟨e1, e2⟩ := sh_some2 h
        exact e2 ▸ hF25
      rw [if_neg c24] at h
      by_cases c29 : x14 = 4
      · rw [if_pos c29] at h
        obtain ⟨y32, μ30, hr31, h⟩ := sh_bind_e h
        have hG30 := gp_X6_readPerson hG15 hr31
        have hF30 := hF15.trans (ci_X6_readPerson hG15 hr31)
        obtain ⟨k33, h⟩ := sh_chk h
        obtain ⟨e1, e2⟩ := sh_some2 h
        exact e2 ▸ hF30
      rw [if_neg c29] at h
      by_cases c34 : x14 = 5
      · rw [if_pos c34] at h
        obtain ⟨y37, μ35, hr36, h⟩ := sh_bind_e h
        have hG35 := gp_X8_fails hG15 hr36
        have hF35 := hF15.trans (ci_X8_fails hr36 (by decide))
        obtain ⟨k38, h⟩ := sh_chk h
        obtain ⟨e1, e2⟩ := sh_some2 h
        exact e2 ▸ hF35
      rw [if_neg c34] at h
      by_cases c39 : x14 = 6
      · rw [if_pos c39] at h
        obtain ⟨y42, μ40, hr41, h⟩ := sh_bind_e h
        have hG40 := gp_X8_fails hG15 hr41
        have hF40 := hF15.trans (ci_X8_fails hr41 (by decide))
        obtain ⟨k43, h⟩ := sh_chk h
        obtain ⟨e1, e2⟩ := sh_some2 h
        exact e2 ▸ hF40
      rw [if_neg c39] at h
      by_cases c44 : x14 = 7
      · rw [if_pos c44] at h
        obtain ⟨y47, μ45, hr46, h⟩ := sh_bind_e h
        have hG45 := gp_X6_readKnows hG15 hr46
        have hF45 := hF15.trans (ci_X6_readKnows hG15 hr46)
        obtain ⟨k48, h⟩ := sh_chk h
        obtain ⟨e1, e2⟩ := sh_some2 h
        exact e2 ▸ hF45
      rw [if_neg c44] at h
      by_cases c49 : x14 = 8
      · rw [if_pos c49] at h
        obtain ⟨y52, μ50, hr51, h⟩ := sh_bind_e h
        have hG50 := gp_X8_fails hG15 hr51
        have hF50 := hF15.trans (ci_X8_fails hr51 (by decide))
        obtain ⟨k53, h⟩ := sh_chk h
        obtain ⟨e1, e2⟩ := sh_some2 h
        exact e2 ▸ hF50
      rw [if_neg c49] at h
      by_cases c54 : x14 = 9
      · rw [if_pos c54] at h
        obtain ⟨y57, μ55, hr56, h⟩ := sh_bind_e h
        have hG55 := gp_X6_readAsks hG15 hr56
        have hF55 := hF15.trans (ci_X6_readAsks hG15 hr56)
        obtain ⟨k58, h⟩ := sh_chk h
        obtain ⟨e1, e2⟩ := sh_some2 h
        exact e2 ▸ hF55
      rw [if_neg c54] at h
      by_cases c59 : x14 = 10
      · rw [if_pos c59] at h
        obtain ⟨k60, h⟩ := sh_chk h
        obtain ⟨r61, er61⟩ : ∃ y : Nat, y = (sh_ref μ15 7 2) := ⟨_, rfl⟩
        rw [sh_let_eq er61] at h
        have k60r : sh_r μ15 7 2 = some r61 ∧ (r61 = 8 ∨ r61 = 29) := by rw [er61]; exact k60
        obtain ⟨μ62, eμ62⟩ : ∃ y : sh_Mem, y = (sh_setI μ15 r61 13 1) := ⟨_, rfl⟩
        rw [sh_let_eq eμ62] at h
        have hG62 : sh_G μ62 := by rw [eμ62]; exact hG15
        have hF62 : cI μ μ62 := by rw [eμ62]; exact cI_I hF15 (Or.inl <| sh_neP k60r.2 0 (by decide))
        obtain ⟨k63, h⟩ := sh_chk h
        obtain ⟨r64, er64⟩ : ∃ y : Nat, y = (sh_ref μ62 7 2) := ⟨_, rfl⟩
        rw [sh_let_eq er64] at h
        have k63r : sh_r μ62 7 2 = some r64 ∧ (r64 = 8 ∨ r64 = 29) := by rw [er64]; exact k63
        obtain ⟨μ65, hr66, h⟩ := sh_bindv_e h
        have hG65 := gp_X6_beginRule hG62 (gP_f10 k63r.2) hr66
        have hF65 := hF62.trans (ci_X6_beginRule hG62 (gP_f10 k63r.2) hr66)
        obtain ⟨y70, μ68, hr69, h⟩ := sh_bind_e h
        have hG68 := gp_X2_sum_top hG65 hr69
        have hF68 := hF65.trans (ci_X2_sum_top hG65 hr69)
        obtain ⟨k71, h⟩ := sh_chk h
        obtain ⟨e1, e2⟩ := sh_some2 h
        exact e2 ▸ hF68
      rw [if_neg c59] at h
      by_cases c72 : x14 = 11
      · rw [if_pos c72] at h
        obtain ⟨k73, h⟩ := sh_chk h
        obtain ⟨r74, er74⟩ : ∃ y : Nat, y = (sh_ref μ15 7 2) := ⟨_, rfl⟩
        rw [sh_let_eq er74] at h
        have k73r : sh_r μ15 7 2 = some r74 ∧ (r74 = 8 ∨ r74 = 29) := by rw [er74]; exact k73
        obtain ⟨μ75, eμ75⟩ : ∃ y : sh_Mem, y = (sh_setI μ15 r74 14 1) := ⟨_, rfl⟩
        rw [sh_let_eq eμ75] at h
        have hG75 : sh_G μ75 := by rw [eμ75]; exact hG15
        have hF75 : cI μ μ75 := by rw [eμ75]; exact cI_I hF15 (Or.inl <| sh_neP k73r.2 0 (by decide))
        obtain ⟨k76, h⟩ := sh_chk h
        obtain ⟨r77, er77⟩ : ∃ y : Nat, y = (sh_ref μ75 7 2) := ⟨_, rfl⟩
        rw [sh_let_eq er77] at h
        have k76r : sh_r μ75 7 2 = some r77 ∧ (r77 = 8 ∨ r77 = 29) := by rw [er77]; exact k76
        obtain ⟨μ78, hr79, h⟩ := sh_bindv_e h
        have hG78 := gp_X6_beginRule hG75 (gP_f11 k76r.2) hr79
        have hF78 := hF75.trans (ci_X6_beginRule hG75 (gP_f11 k76r.2) hr79)
        obtain ⟨y83, μ81, hr82, h⟩ := sh_bind_e h
        have hG81 := gp_X2_sum_top hG78 hr82
        have hF81 := hF78.trans (ci_X2_sum_top hG78 hr82)
        obtain ⟨k84, h⟩ := sh_chk h
        obtain ⟨e1, e2⟩ := sh_some2 h
        exact e2 ▸ hF81
      rw [if_neg c72] at h
      by_cases c85 : x14 = 12
      · rw [if_pos c85] at h
        obtain ⟨k86, h⟩ := sh_chk h
        obtain ⟨r87, er87⟩ : ∃ y : Nat, y = (sh_ref μ15 7 2) := ⟨_, rfl⟩
        rw [sh_let_eq er87] at h
        have k86r : sh_r μ15 7 2 = some r87 ∧ (r87 = 8 ∨ r87 = 29) := by rw [er87]; exact k86
        obtain ⟨μ88, eμ88⟩ : ∃ y : sh_Mem, y = (sh_setI μ15 r87 15 1) := ⟨_, rfl⟩
        rw [sh_let_eq eμ88] at h
        have hG88 : sh_G μ88 := by rw [eμ88]; exact hG15
        have hF88 : cI μ μ88 := by rw [eμ88]; exact cI_I hF15 (Or.inl <| sh_neP k86r.2 0 (by decide))
        obtain ⟨k89, h⟩ := sh_chk h
        obtain ⟨r90, er90⟩ : ∃ y : Nat, y = (sh_ref μ88 7 2) := ⟨_, rfl⟩
        rw [sh_let_eq er90] at h
        have k89r : sh_r μ88 7 2 = some r90 ∧ (r90 = 8 ∨ r90 = 29) := by rw [er90]; exact k89
        obtain ⟨μ91, hr92, h⟩ := sh_bindv_e h
        have hG91 := gp_X6_beginRule hG88 (gP_f12 k89r.2) hr92
        have hF91 := hF88.trans (ci_X6_beginRule hG88 (gP_f12 k89r.2) hr92)
        obtain ⟨y96, μ94, hr95, h⟩ := sh_bind_e h
        have hG94 := gp_X2_test_top hG91 hr95
        have hF94 := hF91.trans (ci_X2_test_top hG91 hr95)
        obtain ⟨k97, h⟩ := sh_chk h
        obtain ⟨e1, e2⟩ := sh_some2 h
        exact e2 ▸ hF94
      rw [if_neg c85] at h
      by_cases c98 : x14 = 13
      · rw [if_pos c98] at h
        obtain ⟨y101, μ99, hr100, h⟩ := sh_bind_e h
        have hG99 := gp_X6_readCrowd hG15 hr100
        have hF99 := hF15.trans (ci_X6_readCrowd hG15 hr100)
        obtain ⟨k102, h⟩ := sh_chk h
        obtain ⟨e1, e2⟩ := sh_some2 h
        exact e2 ▸ hF99
      rw [if_neg c98] at h
      obtain ⟨y105, μ103, hr104, h⟩ := sh_bind_e h
      have hG103 := gp_X8_fails hG15 hr104
      have hF103 := hF15.trans (ci_X8_fails hr104 (by decide))
      obtain ⟨k106, h⟩ := sh_chk h
      obtain ⟨e1, e2⟩ := sh_some2 h
      exact e2 ▸ hF103
    · rw [if_neg c18] at h
      obtain ⟨y109, μ107, hr108, h⟩ := sh_bind_e h
      have hG107 := gp_X8_fails hG15 hr108
      have hF107 := hF15.trans (ci_X8_fails hr108 (by decide))
      obtain ⟨k110, h⟩ := sh_chk h
      obtain ⟨e1, e2⟩ := sh_some2 h
      exact e2 ▸ hF107
  · rw [if_neg c1] at h
    obtain ⟨y4, μ2, hr3, h⟩ := sh_bind_e h
    have hG2 := gp_X6_isOneTooMany hG hr3
    have hF2 := hF.trans (ci_X6_isOneTooMany hG hr3)
    by_cases c5 : y4 = 0
    · rw [if_pos c5] at h
      obtain ⟨y8, μ6, hr7, h⟩ := sh_bind_e h
      have hG6 := gp_X8_fails hG2 hr7
      have hF6 := hF2.trans (ci_X8_fails hr7 (by decide))
      obtain ⟨k9, h⟩ := sh_chk h
      obtain ⟨e1, e2⟩ := sh_some2 h
      exact e2 ▸ hF6
    · rw [if_neg c5] at h
      obtain ⟨y12, μ10, hr11, h⟩ := sh_bind_e h
      have hG10 := gp_X8_fails hG2 hr11
      have hF10 := hF2.trans (ci_X8_fails hr11 (by decide))
      obtain ⟨k13, h⟩ := sh_chk h
      obtain ⟨e1, e2⟩ := sh_some2 h
      exact e2 ▸ hF10
theorem cil_X6_read (fuel : Nat) : (∀ ⦃i1 : Int32⦄ ⦃μ μ' : sh_Mem⦄ ⦃v : Int32⦄, sh_G μ → F_X6_read fuel 1 i1 μ = some (v, μ') → cI μ μ') := by
  induction fuel with
  | zero => intro i1 μ μ' v hG h; cases h
  | succ fuel ih =>
    have ih_18 := ih
    intro i1 μ μ' v hG h
    replace h : ((if 80 ≤ i1 then (if (sh_i μ 2 3) = (-1) then some (i1, μ) else sh_bind (f_X8_fails 5 (sh_i μ 2 4) μ) (fun y32 μ30 => some (i1, μ30))) else (if (sh_i μ 2 3) = (-1) then (if (sh_i μ 2 3) = (-1) then some (i1, μ) else sh_bind (f_X8_fails 5 (sh_i μ 2 4) μ) (fun y37 μ35 => some (i1, μ35))) else sh_bind (f_X6_readStatement μ) (fun y40 μ38 => (if y40 = 0 then some ((-1), μ38) else sh_bind (f_X8_takesMark 59 μ38) (fun y44 μ42 => (if y44 = 0 then some ((-1), μ42) else F_X6_read fuel 1 (i1 + 1) μ42)))))) : Option (Int32 × sh_Mem)) = some (v, μ') := h
    have hF : cI μ μ := cI.rf
    by_cases c28 : 80 ≤ i1
    · rw [if_pos c28] at h
      by_cases c29 : (sh_i μ 2 3) = (-1)
      · rw [if_pos c29] at h
        obtain ⟨e1, e2⟩ := sh_some2 h
        exact e2 ▸ hF
      · rw [if_neg c29] at h
        obtain ⟨y32, μ30, hr31, h⟩ := sh_bind_e h
        have hG30 := gp_X8_fails hG hr31
        have hF30 := hF.trans (ci_X8_fails hr31 (by decide))
        obtain ⟨e1, e2⟩ := sh_some2 h
        exact e2 ▸ hF30
    · rw [if_neg c28] at h
      by_cases c33 : (sh_i μ 2 3) = (-1)
      · rw [if_pos c33] at h
        by_cases c34 : (sh_i μ 2 3) = (-1)
        · rw [if_pos c34] at h
          obtain ⟨e1, e2⟩ := sh_some2 h
          exact e2 ▸ hF
        · rw [if_neg c34] at h
          obtain ⟨y37, μ35, hr36, h⟩ := sh_bind_e h
          have hG35 := gp_X8_fails hG hr36
          have hF35 := hF.trans (ci_X8_fails hr36 (by decide))
          obtain ⟨e1, e2⟩ := sh_some2 h
          exact e2 ▸ hF35
      · rw [if_neg c33] at h
        obtain ⟨y40, μ38, hr39, h⟩ := sh_bind_e h
        have hG38 := gp_X6_readStatement hG hr39
        have hF38 := hF.trans (ci_X6_readStatement hG hr39)
        by_cases c41 : y40 = 0
        · rw [if_pos c41] at h
          obtain ⟨e1, e2⟩ := sh_some2 h
          exact e2 ▸ hF38
        · rw [if_neg c41] at h
          obtain ⟨y44, μ42, hr43, h⟩ := sh_bind_e h
          have hG42 := gp_X8_takesMark hG38 hr43
          have hF42 := hF38.trans (ci_X8_takesMark hG38 hr43)
          by_cases c45 : y44 = 0
          · rw [if_pos c45] at h
            obtain ⟨e1, e2⟩ := sh_some2 h
            exact e2 ▸ hF42
          · rw [if_neg c45] at h
            exact hF42.trans (ih_18 hG42 h)
theorem ci_X6_read {μ μ' : sh_Mem} {v : Int32} (hG : sh_G μ) (h : f_X6_read μ = some (v, μ')) : cI μ μ' := by
  have ih_18 := (cil_X6_read sh_fuel)
  have hF : cI μ μ := cI.rf
  unfold f_X6_read at h
  obtain ⟨k46, h⟩ := sh_chk h
  obtain ⟨r47, er47⟩ : ∃ y : Nat, y = (sh_ref μ 7 2) := ⟨_, rfl⟩
  rw [sh_let_eq er47] at h
  have k46r : sh_r μ 7 2 = some r47 ∧ (r47 = 8 ∨ r47 = 29) := by rw [er47]; exact k46
  obtain ⟨μ48, hr49, h⟩ := sh_bindv_e h
  have hG48 := gp_X5_clear hG k46r.2 hr49
  have hF48 := hF.trans (ci_X5_clear hG k46r.2 hr49)
  obtain ⟨y53, μ51, hr52, h⟩ := sh_bind_e h
  have hG51 := gp_X6_readPlain hG48 hr52
  have hF51 := hF48.trans (ci_X6_readPlain hG48 hr52)
  by_cases c54 : y53 = 0
  · rw [if_pos c54] at h
    obtain ⟨e1, e2⟩ := sh_some2 h
    exact e2 ▸ hF51
  · rw [if_neg c54] at h
    exact hF51.trans (ih_18 hG51 h)
