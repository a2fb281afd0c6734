section
variable {l : Launch} {B : Nat} {D : va_G} {ca : Nat → ClassId} {μ : sh_Mem}
def f_X12_isIn (μ : sh_Mem) (a1 : Int64) (a2 : Int64) (a3 : Int64) : Int32 := (if (lg_cmp a1 a2) < 0 then 0 else (if 0 < (lg_cmp a1 a3) then 0 else 1))
theorem c_X12_isIn (hG : sh_G μ)  {a1 : Int64} {a2 : Int64} {a3 : Int64} : sh_C0 l B D ca 1 M_X12_isIn [.long a1, .long a2, .long a3] μ (fun v μ' => v = some (.int (f_X12_isIn μ a1 a2 a3)) ∧ μ' = μ) := by
  refine vv_lload_n 0 0 dX12_isIn_0 rfl rfl ?_
  refine vv_lload_n 1 2 dX12_isIn_1 rfl rfl ?_
  refine vv_lcmp 2 dX12_isIn_2 ?_
  refine vv_if_lt 3 17 dX12_isIn_3 (by decide) (fun h1 => ?_) (fun h1 => ?_)
  · refine vv_iconst 17 dX12_isIn_17 ik_0 ?_
    refine vv_zret 18 dX12_isIn_18 rfl rfl (Nat.le_refl _) (Nat.le_refl _) ?_
    exact ⟨by show some _ = some (Value.int (f_X12_isIn μ a1 a2 a3)); unfold f_X12_isIn; rw [if_pos h1], rfl⟩
  · refine vv_lload_n 6 0 dX12_isIn_6 rfl rfl ?_
    refine vv_lload 7 4 dX12_isIn_7 rfl ?_
    refine vv_lcmp 9 dX12_isIn_9 ?_
    refine vv_if_gt 10 17 dX12_isIn_10 (by decide) (fun h2 => ?_) (fun h2 => ?_)
    · refine vv_iconst 17 dX12_isIn_17 ik_0 ?_
      refine vv_zret 18 dX12_isIn_18 rfl rfl (Nat.le_refl _) (Nat.le_refl _) ?_
      exact ⟨by show some _ = some (Value.int (f_X12_isIn μ a1 a2 a3)); unfold f_X12_isIn; rw [if_neg h1, if_pos h2], rfl⟩
    · refine vv_iconst 13 dX12_isIn_13 ik_1 ?_
      refine vv_goto 14 18 dX12_isIn_14 (by decide) ?_
      refine vv_zret 18 dX12_isIn_18 rfl rfl (Nat.le_refl _) (Nat.le_refl _) ?_
      exact ⟨by show some _ = some (Value.int (f_X12_isIn μ a1 a2 a3)); unfold f_X12_isIn; rw [if_neg h1, if_neg h2], rfl⟩
def f_X12_cut (μ : sh_Mem) (a1 : Int64) : Int32 := (if 0 ≤ (lg_cmp a1 0) then (if (lg_cmp a1 9) ≤ 0 then (a1).toInt32 else 9) else 0)
theorem c_X12_cut (hG : sh_G μ)  {a1 : Int64} : sh_C0 l B D ca 1 M_X12_cut [.long a1] μ (fun v μ' => v = some (.int (f_X12_cut μ a1)) ∧ μ' = μ) := by
  refine vv_lload_n 0 0 dX12_cut_0 rfl rfl ?_
  refine vv_lconst 1 dX12_cut_1 lk_0 ?_
  refine vv_lcmp 2 dX12_cut_2 ?_
  refine vv_if_ge 3 10 dX12_cut_3 (by decide) (fun h1 => ?_) (fun h1 => ?_)
  · refine vv_lload_n 10 0 dX12_cut_10 rfl rfl ?_
    refine vv_ldc2 11 dX12_cut_11 kl_12_248 ?_
    refine vv_lcmp 14 dX12_cut_14 ?_
    refine vv_if_le 15 23 dX12_cut_15 (by decide) (fun h2 => ?_) (fun h2 => ?_)
    · refine vv_lload_n 23 0 dX12_cut_23 rfl rfl ?_
      refine vv_l2i 24 dX12_cut_24 ?_
      refine vv_iret 25 dX12_cut_25 rfl (Nat.le_refl _) (Nat.le_refl _) ?_
      exact ⟨by show some _ = some (Value.int (f_X12_cut μ a1)); unfold f_X12_cut; rw [if_pos h1, if_pos h2], rfl⟩
    · refine vv_bipush 18 dX12_cut_18 bk_9 ?_
      refine vv_goto 20 25 dX12_cut_20 (by decide) ?_
      refine vv_iret 25 dX12_cut_25 rfl (Nat.le_refl _) (Nat.le_refl _) ?_
      exact ⟨by show some _ = some (Value.int (f_X12_cut μ a1)); unfold f_X12_cut; rw [if_pos h1, if_neg h2], rfl⟩
  · refine vv_iconst 6 dX12_cut_6 ik_0 ?_
    refine vv_goto 7 25 dX12_cut_7 (by decide) ?_
    refine vv_iret 25 dX12_cut_25 rfl (Nat.le_refl _) (Nat.le_refl _) ?_
    exact ⟨by show some _ = some (Value.int (f_X12_cut μ a1)); unfold f_X12_cut; rw [if_neg h1], rfl⟩
noncomputable def F_X12_feed : Nat → Nat → Int32 → Int32 → Int32 → Int32 → Int32 → Int32 → sh_Mem → Option (Int32 × sh_Mem)
  | 0, _, _, _, _, _, _, _, _ => none
  | fuel + 1, lbl, i1, i2, i3, i4, i5, i6, μ => match lbl with
    | 1 => (if 20 ≤ i6 then some ((sh_i μ 291 1), μ) else (if 4 ≤ i6 then (if 8 ≤ i6 then (if 12 ≤ i6 then (if 16 ≤ i6 then (if sh_in (sh_i μ 291 1) 1600 then sh_let (sh_setI μ 292 ((sh_i μ 291 1)).toNatClampNeg ((i5 >>> ((8 * (3 - (i6 - i6 / 4 * 4))) &&& 31)) &&& 255)) (fun μ29 => sh_let (sh_setI μ29 291 1 ((sh_i μ29 291 1) + 1)) (fun μ30 => F_X12_feed fuel 1 i1 i2 i3 i4 i5 (i6 + 1) μ30)) else none) else (if sh_in (sh_i μ 291 1) 1600 then sh_let (sh_setI μ 292 ((sh_i μ 291 1)).toNatClampNeg ((i4 >>> ((8 * (3 - (i6 - i6 / 4 * 4))) &&& 31)) &&& 255)) (fun μ32 => sh_let (sh_setI μ32 291 1 ((sh_i μ32 291 1) + 1)) (fun μ33 => F_X12_feed fuel 1 i1 i2 i3 i4 i5 (i6 + 1) μ33)) else none)) else (if sh_in (sh_i μ 291 1) 1600 then sh_let (sh_setI μ 292 ((sh_i μ 291 1)).toNatClampNeg ((i3 >>> ((8 * (3 - (i6 - i6 / 4 * 4))) &&& 31)) &&& 255)) (fun μ35 => sh_let (sh_setI μ35 291 1 ((sh_i μ35 291 1) + 1)) (fun μ36 => F_X12_feed fuel 1 i1 i2 i3 i4 i5 (i6 + 1) μ36)) else none)) else (if sh_in (sh_i μ 291 1) 1600 then sh_let (sh_setI μ 292 ((sh_i μ 291 1)).toNatClampNeg ((i2 >>> ((8 * (3 - (i6 - i6 / 4 * 4))) &&& 31)) &&& 255)) (fun μ38 => sh_let (sh_setI μ38 291 1 ((sh_i μ38 291 1) + 1)) (fun μ39 => F_X12_feed fuel 1 i1 i2 i3 i4 i5 (i6 + 1) μ39)) else none)) else (if sh_in (sh_i μ 291 1) 1600 then sh_let (sh_setI μ 292 ((sh_i μ 291 1)).toNatClampNeg ((i1 >>> ((8 * (3 - (i6 - i6 / 4 * 4))) &&& 31)) &&& 255)) (fun μ41 => sh_let (sh_setI μ41 291 1 ((sh_i μ41 291 1) + 1)) (fun μ42 => F_X12_feed fuel 1 i1 i2 i3 i4 i5 (i6 + 1) μ42)) else none)))
    | _ => none
noncomputable def f_X12_feed (a1 : Int32) (a2 : Int32) (a3 : Int32) (a4 : Int32) (a5 : Int32) (μ : sh_Mem) : Option (Int32 × sh_Mem) := (if ((sh_i μ 291 1) + 20) ≤ 1600 then F_X12_feed sh_fuel 1 a1 a2 a3 a4 a5 0 μ else sh_let (sh_setI μ 293 (Int32.toNatClampNeg 0) ((sh_i μ 293 (Int32.toNatClampNeg 0)) + 1)) (fun μ44 => some ((-1), μ44)))
theorem gpl_X12_feed (fuel : Nat) : (∀ ⦃i1 : Int32⦄ ⦃i2 : Int32⦄ ⦃i3 : Int32⦄ ⦃i4 : Int32⦄ ⦃i5 : Int32⦄ ⦃i6 : Int32⦄ ⦃μ μ' : sh_Mem⦄ ⦃v : Int32⦄, sh_G μ → F_X12_feed fuel 1 i1 i2 i3 i4 i5 i6 μ = some (v, μ') → sh_G μ') := by
  induction fuel with
  | zero => intro i1 i2 i3 i4 i5 i6 μ μ' v hG h; cases h
  | succ fuel ih =>
    have ih_28 := ih
    intro i1 i2 i3 i4 i5 i6 μ μ' v hG h
    replace h : ((if 20 ≤ i6 then some ((sh_i μ 291 1), μ) else (if 4 ≤ i6 then (if 8 ≤ i6 then (if 12 ≤ i6 then (if 16 ≤ i6 then (if sh_in (sh_i μ 291 1) 1600 then sh_let (sh_setI μ 292 ((sh_i μ 291 1)).toNatClampNeg ((i5 >>> ((8 * (3 - (i6 - i6 / 4 * 4))) &&& 31)) &&& 255)) (fun μ29 => sh_let (sh_setI μ29 291 1 ((sh_i μ29 291 1) + 1)) (fun μ30 => F_X12_feed fuel 1 i1 i2 i3 i4 i5 (i6 + 1) μ30)) else none) else (if sh_in (sh_i μ 291 1) 1600 then sh_let (sh_setI μ 292 ((sh_i μ 291 1)).toNatClampNeg ((i4 >>> ((8 * (3 - (i6 - i6 / 4 * 4))) &&& 31)) &&& 255)) (fun μ32 => sh_let (sh_setI μ32 291 1 ((sh_i μ32 291 1) + 1)) (fun μ33 => F_X12_feed fuel 1 i1 i2 i3 i4 i5 (i6 + 1) μ33)) else none)) else (if sh_in (sh_i μ 291 1) 1600 then sh_let (sh_setI μ 292 ((sh_i μ 291 1)).toNatClampNeg ((i3 >>> ((8 * (3 - (i6 - i6 / 4 * 4))) &&& 31)) &&& 255)) (fun μ35 => sh_let (sh_setI μ35 291 1 ((sh_i μ35 291 1) + 1)) (fun μ36 => F_X12_feed fuel 1 i1 i2 i3 i4 i5 (i6 + 1) μ36)) else none)) else (if sh_in (sh_i μ 291 1) 1600 then sh_let (sh_setI μ 292 ((sh_i μ 291 1)).toNatClampNeg ((i2 >>> ((8 * (3 - (i6 - i6 / 4 * 4))) &&& 31)) &&& 255)) (fun μ38 => sh_let (sh_setI μ38 291 1 ((sh_i μ38 291 1) + 1)) (fun μ39 => F_X12_feed fuel 1 i1 i2 i3 i4 i5 (i6 + 1) μ39)) else none)) else (if sh_in (sh_i μ 291 1) 1600 then sh_let (sh_setI μ 292 ((sh_i μ 291 1)).toNatClampNeg ((i1 >>> ((8 * (3 - (i6 - i6 / 4 * 4))) &&& 31)) &&& 255)) (fun μ41 => sh_let (sh_setI μ41 291 1 ((sh_i μ41 291 1) + 1)) (fun μ42 => F_X12_feed fuel 1 i1 i2 i3 i4 i5 (i6 + 1) μ42)) else none))) : Option (Int32 × sh_Mem)) = some (v, μ') := h
    by_cases c23 : 20 ≤ i6
    · rw [if_pos c23] at h
      obtain ⟨e1, e2⟩ := sh_some2 h
      exact e2 ▸ hG
    · rw [if_neg c23] at h
      by_cases c24 : 4 ≤ i6
      · rw [if_pos c24] at h
        by_cases c25 : 8 ≤ i6
        · rw [if_pos c25] at h
          by_cases c26 : 12 ≤ i6
          · rw [if_pos c26] at h
            by_cases c27 : 16 ≤ i6
            · rw [if_pos c27] at h
              obtain ⟨k28, h⟩ := sh_chk h
              obtain ⟨μ29, eμ29⟩ : ∃ y : sh_Mem, y = (sh_setI μ 292 ((sh_i μ 291 1)).toNatClampNeg ((i5 >>> ((8 * (3 - (i6 - i6 / 4 * 4))) &&& 31)) &&& 255)) := ⟨_, rfl⟩
              rw [sh_let_eq eμ29] at h
              have hG29 : sh_G μ29 := by rw [eμ29]; exact hG
              obtain ⟨μ30, eμ30⟩ : ∃ y : sh_Mem, y = (sh_setI μ29 291 1 ((sh_i μ29 291 1) + 1)) := ⟨_, rfl⟩
              rw [sh_let_eq eμ30] at h
              have hG30 : sh_G μ30 := by rw [eμ30]; exact hG29
              exact ih_28 hG30 h
            · rw [if_neg c27] at h
              obtain ⟨k31, h⟩ := sh_chk h
              obtain ⟨μ32, eμ32⟩ : ∃ y : sh_Mem, y = (sh_setI μ 292 ((sh_i μ 291 1)).toNatClampNeg ((i4 >>> ((8 * (3 - (i6 - i6 / 4 * 4))) &&& 31)) &&& 255)) := ⟨_, rfl⟩
              rw [sh_let_eq eμ32] at h
              have hG32 : sh_G μ32 := by rw [eμ32]; exact hG
              obtain ⟨μ33, eμ33⟩ : ∃ y : sh_Mem, y = (sh_setI μ32 291 1 ((sh_i μ32 291 1) + 1)) := ⟨_, rfl⟩
              rw [sh_let_eq eμ33] at h
              have hG33 : sh_G μ33 := by rw [eμ33]; exact hG32
              exact ih_28 hG33 h
          · rw [if_neg c26] at h
            obtain ⟨k34, h⟩ := sh_chk h
            obtain ⟨μ35, eμ35⟩ : ∃ y : sh_Mem, y = (sh_setI μ 292 ((sh_i μ 291 1)).toNatClampNeg ((i3 >>> ((8 * (3 - (i6 - i6 / 4 * 4))) &&& 31)) &&& 255)) := ⟨_, rfl⟩
            rw [sh_let_eq eμ35] at h
            have hG35 : sh_G μ35 := by rw [eμ35]; exact hG
            obtain ⟨μ36, eμ36⟩ : ∃ y : sh_Mem, y = (sh_setI μ35 291 1 ((sh_i μ35 291 1) + 1)) := ⟨_, rfl⟩
            rw [sh_let_eq eμ36] at h
            have hG36 : sh_G μ36 := by rw [eμ36]; exact hG35
            exact ih_28 hG36 h
        · rw [if_neg c25] at h
          obtain ⟨k37, h⟩ := sh_chk h
          obtain ⟨μ38, eμ38⟩ : ∃ y : sh_Mem, y = (sh_setI μ 292 ((sh_i μ 291 1)).toNatClampNeg ((i2 >>> ((8 * (3 - (i6 - i6 / 4 * 4))) &&& 31)) &&& 255)) := ⟨_, rfl⟩
          rw [sh_let_eq eμ38] at h
          have hG38 : sh_G μ38 := by rw [eμ38]; exact hG
          obtain ⟨μ39, eμ39⟩ : ∃ y : sh_Mem, y = (sh_setI μ38 291 1 ((sh_i μ38 291 1) + 1)) := ⟨_, rfl⟩
          rw [sh_let_eq eμ39] at h
          have hG39 : sh_G μ39 := by rw [eμ39]; exact hG38
          exact ih_28 hG39 h
      · rw [if_neg c24] at h
        obtain ⟨k40, h⟩ := sh_chk h
        obtain ⟨μ41, eμ41⟩ : ∃ y : sh_Mem, y = (sh_setI μ 292 ((sh_i μ 291 1)).toNatClampNeg ((i1 >>> ((8 * (3 - (i6 - i6 / 4 * 4))) &&& 31)) &&& 255)) := ⟨_, rfl⟩
        rw [sh_let_eq eμ41] at h
        have hG41 : sh_G μ41 := by rw [eμ41]; exact hG
        obtain ⟨μ42, eμ42⟩ : ∃ y : sh_Mem, y = (sh_setI μ41 291 1 ((sh_i μ41 291 1) + 1)) := ⟨_, rfl⟩
        rw [sh_let_eq eμ42] at h
        have hG42 : sh_G μ42 := by rw [eμ42]; exact hG41
        exact ih_28 hG42 h
theorem tl_X12_feed (fuel : Nat) : (∀ ⦃i1 : Int32⦄ ⦃i2 : Int32⦄ ⦃i3 : Int32⦄ ⦃i4 : Int32⦄ ⦃i5 : Int32⦄ ⦃i6 : Int32⦄ ⦃μ μ' : sh_Mem⦄ ⦃v : Int32⦄, sh_G μ → F_X12_feed fuel 1 i1 i2 i3 i4 i5 i6 μ = some (v, μ') → sh_V0 l B D ca 1 M_X12_feed 28 [(0, .ref 291), (1, .int i1), (2, .int i2), (3, .int i3), (4, .int i4), (5, .int i5), (6, .int i6)] [] μ (fun v0 μ0 => v0 = some (.int v) ∧ μ0 = μ')) := by
  induction fuel with
  | zero => intro i1 i2 i3 i4 i5 i6 μ μ' v hG h; cases h
  | succ fuel ih =>
    have ih_28 := ih
    intro i1 i2 i3 i4 i5 i6 μ μ' v hG h
    replace h : ((if 20 ≤ i6 then some ((sh_i μ 291 1), μ) else (if 4 ≤ i6 then (if 8 ≤ i6 then (if 12 ≤ i6 then (if 16 ≤ i6 then (if sh_in (sh_i μ 291 1) 1600 then sh_let (sh_setI μ 292 ((sh_i μ 291 1)).toNatClampNeg ((i5 >>> ((8 * (3 - (i6 - i6 / 4 * 4))) &&& 31)) &&& 255)) (fun μ29 => sh_let (sh_setI μ29 291 1 ((sh_i μ29 291 1) + 1)) (fun μ30 => F_X12_feed fuel 1 i1 i2 i3 i4 i5 (i6 + 1) μ30)) else none) else (if sh_in (sh_i μ 291 1) 1600 then sh_let (sh_setI μ 292 ((sh_i μ 291 1)).toNatClampNeg ((i4 >>> ((8 * (3 - (i6 - i6 / 4 * 4))) &&& 31)) &&& 255)) (fun μ32 => sh_let (sh_setI μ32 291 1 ((sh_i μ32 291 1) + 1)) (fun μ33 => F_X12_feed fuel 1 i1 i2 i3 i4 i5 (i6 + 1) μ33)) else none)) else (if sh_in (sh_i μ 291 1) 1600 then sh_let (sh_setI μ 292 ((sh_i μ 291 1)).toNatClampNeg ((i3 >>> ((8 * (3 - (i6 - i6 / 4 * 4))) &&& 31)) &&& 255)) (fun μ35 => sh_let (sh_setI μ35 291 1 ((sh_i μ35 291 1) + 1)) (fun μ36 => F_X12_feed fuel 1 i1 i2 i3 i4 i5 (i6 + 1) μ36)) else none)) else (if sh_in (sh_i μ 291 1) 1600 then sh_let (sh_setI μ 292 ((sh_i μ 291 1)).toNatClampNeg ((i2 >>> ((8 * (3 - (i6 - i6 / 4 * 4))) &&& 31)) &&& 255)) (fun μ38 => sh_let (sh_setI μ38 291 1 ((sh_i μ38 291 1) + 1)) (fun μ39 => F_X12_feed fuel 1 i1 i2 i3 i4 i5 (i6 + 1) μ39)) else none)) else (if sh_in (sh_i μ 291 1) 1600 then sh_let (sh_setI μ 292 ((sh_i μ 291 1)).toNatClampNeg ((i1 >>> ((8 * (3 - (i6 - i6 / 4 * 4))) &&& 31)) &&& 255)) (fun μ41 => sh_let (sh_setI μ41 291 1 ((sh_i μ41 291 1) + 1)) (fun μ42 => F_X12_feed fuel 1 i1 i2 i3 i4 i5 (i6 + 1) μ42)) else none))) : Option (Int32 × sh_Mem)) = some (v, μ') := h
    refine vv_iload 28 6 dX12_feed_28 rfl ?_
    refine vv_bipush 30 dX12_feed_30 bk_20 ?_
    refine vv_icmp_ge 32 124 dX12_feed_32 (by decide) (fun c23 => ?_) (fun c23 => ?_)
    · rw [if_pos c23] at h
      refine vv_aload_n 124 0 dX12_feed_124 rfl rfl ?_
      refine vv_getI 125 dX12_feed_125 fl_12_250 rfl (g_l_291 hG) ?_
      obtain ⟨e1, e2⟩ := sh_some2 h
      refine vv_iret 128 dX12_feed_128 rfl (Nat.le_refl _) (Nat.le_refl _) ⟨by rw [e1], e2⟩
    · rw [if_neg c23] at h
      refine vv_iload 35 6 dX12_feed_35 rfl ?_
      refine vv_iconst 37 dX12_feed_37 ik_4 ?_
      refine vv_icmp_ge 38 45 dX12_feed_38 (by decide) (fun c24 => ?_) (fun c24 => ?_)
      · rw [if_pos c24] at h
        refine vv_iload 45 6 dX12_feed_45 rfl ?_
        refine vv_bipush 47 dX12_feed_47 bk_8 ?_
        refine vv_icmp_ge 49 56 dX12_feed_49 (by decide) (fun c25 => ?_) (fun c25 => ?_)
        · rw [if_pos c25] at h
          refine vv_iload 56 6 dX12_feed_56 rfl ?_
          refine vv_bipush 58 dX12_feed_58 bk_12 ?_
          refine vv_icmp_ge 60 67 dX12_feed_60 (by decide) (fun c26 => ?_) (fun c26 => ?_)
          · rw [if_pos c26] at h
            refine vv_iload 67 6 dX12_feed_67 rfl ?_
            refine vv_bipush 69 dX12_feed_69 bk_16 ?_
            refine vv_icmp_ge 71 79 dX12_feed_71 (by decide) (fun c27 => ?_) (fun c27 => ?_)
            · rw [if_pos c27] at h
              refine vv_iload 79 5 dX12_feed_79 rfl ?_
              refine vv_istore (lv' := [(7, _), (0, _), (1, _), (2, _), (3, _), (4, _), (5, _), (6, _)]) 81 7 dX12_feed_81 (by decide) rfl ?_
              refine vv_aload_n 83 0 dX12_feed_83 rfl rfl ?_
              refine vv_getR 84 dX12_feed_84 fl_12_7 rfl (g_l_291 hG) (g_r_291_0 hG) ?_
              refine vv_aload_n 87 0 dX12_feed_87 rfl rfl ?_
              refine vv_getI 88 dX12_feed_88 fl_12_250 rfl (g_l_291 hG) ?_
              refine vv_iload 91 7 dX12_feed_91 rfl ?_
              refine vv_bipush 93 dX12_feed_93 bk_8 ?_
              refine vv_iconst 95 dX12_feed_95 ik_3 ?_
              refine vv_iload 96 6 dX12_feed_96 rfl ?_
              refine vv_iconst 98 dX12_feed_98 ik_4 ?_
              refine vv_irem 99 dX12_feed_99 (by decide) ?_
              refine vv_isub 100 dX12_feed_100 ?_
              refine vv_imul 101 dX12_feed_101 ?_
              refine vv_ishr 102 dX12_feed_102 ?_
              refine vv_sipush 103 dX12_feed_103 sk_255 ?_
              refine vv_iand 106 dX12_feed_106 ?_
              obtain ⟨k28, h⟩ := sh_chk h
              refine vn_iast 107 dX12_feed_107 (g_l_292 hG) k28 (fun μ29 eμ29 => ?_)
              rw [sh_let_eq eμ29] at h
              have hG29 : sh_G μ29 := by rw [eμ29]; exact hG
              refine vv_aload_n 108 0 dX12_feed_108 rfl rfl ?_
              refine vv_dup_ref 109 dX12_feed_109 ?_
              refine vv_getI 110 dX12_feed_110 fl_12_250 rfl (g_l_291 hG29) ?_
              refine vv_iconst 113 dX12_feed_113 ik_1 ?_
              refine vv_iadd 114 dX12_feed_114 ?_
              refine vn_putI 115 dX12_feed_115 fl_12_250 (Or.inl rfl) rfl (g_l_291 hG29) (fun μ30 eμ30 => ?_)
              rw [sh_let_eq eμ30] at h
              have hG30 : sh_G μ30 := by rw [eμ30]; exact hG29
              refine vv_iincc (lv' := [(6, _), (7, _), (0, _), (1, _), (2, _), (3, _), (4, _), (5, _)]) 118 6 dX12_feed_118 rfl ik_1 (by decide) rfl ?_
              refine vv_goto 121 28 dX12_feed_121 (by decide) ?_
              refine vv_sub [(0, _), (1, _), (2, _), (3, _), (4, _), (5, _), (6, _)] (sh_subm [2, 3, 4, 5, 6, 7, 0] rfl) ?_
              exact ih_28 hG30 h
            · rw [if_neg c27] at h
              refine vv_iload 74 4 dX12_feed_74 rfl ?_
              refine vv_goto 76 81 dX12_feed_76 (by decide) ?_
              refine vv_istore (lv' := [(7, _), (0, _), (1, _), (2, _), (3, _), (4, _), (5, _), (6, _)]) 81 7 dX12_feed_81 (by decide) rfl ?_
              refine vv_aload_n 83 0 dX12_feed_83 rfl rfl ?_
              refine vv_getR 84 dX12_feed_84 fl_12_7 rfl (g_l_291 hG) (g_r_291_0 hG) ?_
              refine vv_aload_n 87 0 dX12_feed_87 rfl rfl ?_
              refine vv_getI 88 dX12_feed_88 fl_12_250 rfl (g_l_291 hG) ?_
              refine vv_iload 91 7 dX12_feed_91 rfl ?_
              refine vv_bipush 93 dX12_feed_93 bk_8 ?_
              refine vv_iconst 95 dX12_feed_95 ik_3 ?_
              refine vv_iload 96 6 dX12_feed_96 rfl ?_
              refine vv_iconst 98 dX12_feed_98 ik_4 ?_
              refine vv_irem 99 dX12_feed_99 (by decide) ?_
              refine vv_isub 100 dX12_feed_100 ?_
              refine vv_imul 101 dX12_feed_101 ?_
              refine vv_ishr 102 dX12_feed_102 ?_
              refine vv_sipush 103 dX12_feed_103 sk_255 ?_
              refine vv_iand 106 dX12_feed_106 ?_
              obtain ⟨k31, h⟩ := sh_chk h
              refine vn_iast 107 dX12_feed_107 (g_l_292 hG) k31 (fun μ32 eμ32 => ?_)
              rw [sh_let_eq eμ32] at h
              have hG32 : sh_G μ32 := by rw [eμ32]; exact hG
              refine vv_aload_n 108 0 dX12_feed_108 rfl rfl ?_
              refine vv_dup_ref 109 dX12_feed_109 ?_
              refine vv_getI 110 dX12_feed_110 fl_12_250 rfl (g_l_291 hG32) ?_
              refine vv_iconst 113 dX12_feed_113 ik_1 ?_
              refine vv_iadd 114 dX12_feed_114 ?_
              refine vn_putI 115 dX12_feed_115 fl_12_250 (Or.inl rfl) rfl (g_l_291 hG32) (fun μ33 eμ33 => ?_)
              rw [sh_let_eq eμ33] at h
              have hG33 : sh_G μ33 := by rw [eμ33]; exact hG32
              refine vv_iincc (lv' := [(6, _), (7, _), (0, _), (1, _), (2, _), (3, _), (4, _), (5, _)]) 118 6 dX12_feed_118 rfl ik_1 (by decide) rfl ?_
              refine vv_goto 121 28 dX12_feed_121 (by decide) ?_
              refine vv_sub [(0, _), (1, _), (2, _), (3, _), (4, _), (5, _), (6, _)] (sh_subm [2, 3, 4, 5, 6, 7, 0] rfl) ?_
              exact ih_28 hG33 h
          · rw [if_neg c26] at h
            refine vv_iload_n 63 3 dX12_feed_63 rfl rfl ?_
            refine vv_goto 64 81 dX12_feed_64 (by decide) ?_
            refine vv_istore (lv' := [(7, _), (0, _), (1, _), (2, _), (3, _), (4, _), (5, _), (6, _)]) 81 7 dX12_feed_81 (by decide) rfl ?_
            refine vv_aload_n 83 0 dX12_feed_83 rfl rfl ?_
            refine vv_getR 84 dX12_feed_84 fl_12_7 rfl (g_l_291 hG) (g_r_291_0 hG) ?_
            refine vv_aload_n 87 0 dX12_feed_87 rfl rfl ?_
            refine vv_getI 88 dX12_feed_88 fl_12_250 rfl (g_l_291 hG) ?_
            refine vv_iload 91 7 dX12_feed_91 rfl ?_
            refine vv_bipush 93 dX12_feed_93 bk_8 ?_
            refine vv_iconst 95 dX12_feed_95 ik_3 ?_
            refine vv_iload 96 6 dX12_feed_96 rfl ?_
            refine vv_iconst 98 dX12_feed_98 ik_4 ?_
            refine vv_irem 99 dX12_feed_99 (by decide) ?_
            refine vv_isub 100 dX12_feed_100 ?_
            refine vv_imul 101 dX12_feed_101 ?_
            refine vv_ishr 102 dX12_feed_102 ?_
            refine vv_sipush 103 dX12_feed_103 sk_255 ?_
            refine vv_iand 106 dX12_feed_106 ?_
            obtain ⟨k34, h⟩ := sh_chk h
            refine vn_iast 107 dX12_feed_107 (g_l_292 hG) k34 (fun μ35 eμ35 => ?_)
            rw [sh_let_eq eμ35] at h
            have hG35 : sh_G μ35 := by rw [eμ35]; exact hG
            refine vv_aload_n 108 0 dX12_feed_108 rfl rfl ?_
            refine vv_dup_ref 109 dX12_feed_109 ?_
            refine vv_getI 110 dX12_feed_110 fl_12_250 rfl (g_l_291 hG35) ?_
            refine vv_iconst 113 dX12_feed_113 ik_1 ?_
            refine vv_iadd 114 dX12_feed_114 ?_
            refine vn_putI 115 dX12_feed_115 fl_12_250 (Or.inl rfl) rfl (g_l_291 hG35) (fun μ36 eμ36 => ?_)
            rw [sh_let_eq eμ36] at h
            have hG36 : sh_G μ36 := by rw [eμ36]; exact hG35
            refine vv_iincc (lv' := [(6, _), (7, _), (0, _), (1, _), (2, _), (3, _), (4, _), (5, _)]) 118 6 dX12_feed_118 rfl ik_1 (by decide) rfl ?_
            refine vv_goto 121 28 dX12_feed_121 (by decide) ?_
            refine vv_sub [(0, _), (1, _), (2, _), (3, _), (4, _), (5, _), (6, _)] (sh_subm [2, 3, 4, 5, 6, 7, 0] rfl) ?_
            exact ih_28 hG36 h
        · rw [if_neg c25] at h
          refine vv_iload_n 52 2 dX12_feed_52 rfl rfl ?_
          refine vv_goto 53 81 dX12_feed_53 (by decide) ?_
          refine vv_istore (lv' := [(7, _), (0, _), (1, _), (2, _), (3, _), (4, _), (5, _), (6, _)]) 81 7 dX12_feed_81 (by decide) rfl ?_
          refine vv_aload_n 83 0 dX12_feed_83 rfl rfl ?_
          refine vv_getR 84 dX12_feed_84 fl_12_7 rfl (g_l_291 hG) (g_r_291_0 hG) ?_
          refine vv_aload_n 87 0 dX12_feed_87 rfl rfl ?_
          refine vv_getI 88 dX12_feed_88 fl_12_250 rfl (g_l_291 hG) ?_
          refine vv_iload 91 7 dX12_feed_91 rfl ?_
          refine vv_bipush 93 dX12_feed_93 bk_8 ?_
          refine vv_iconst 95 dX12_feed_95 ik_3 ?_
          refine vv_iload 96 6 dX12_feed_96 rfl ?_
          refine vv_iconst 98 dX12_feed_98 ik_4 ?_
          refine vv_irem 99 dX12_feed_99 (by decide) ?_
          refine vv_isub 100 dX12_feed_100 ?_
          refine vv_imul 101 dX12_feed_101 ?_
          refine vv_ishr 102 dX12_feed_102 ?_
          refine vv_sipush 103 dX12_feed_103 sk_255 ?_
          refine vv_iand 106 dX12_feed_106 ?_
          obtain ⟨k37, h⟩ := sh_chk h
          refine vn_iast 107 dX12_feed_107 (g_l_292 hG) k37 (fun μ38 eμ38 => ?_)
          rw [sh_let_eq eμ38] at h
          have hG38 : sh_G μ38 := by rw [eμ38]; exact hG
          refine vv_aload_n 108 0 dX12_feed_108 rfl rfl ?_
          refine vv_dup_ref 109 dX12_feed_109 ?_
          refine vv_getI 110 dX12_feed_110 fl_12_250 rfl (g_l_291 hG38) ?_
          refine vv_iconst 113 dX12_feed_113 ik_1 ?_
          refine vv_iadd 114 dX12_feed_114 ?_
          refine vn_putI 115 dX12_feed_115 fl_12_250 (Or.inl rfl) rfl (g_l_291 hG38) (fun μ39 eμ39 => ?_)
          rw [sh_let_eq eμ39] at h
          have hG39 : sh_G μ39 := by rw [eμ39]; exact hG38
          refine vv_iincc (lv' := [(6, _), (7, _), (0, _), (1, _), (2, _), (3, _), (4, _), (5, _)]) 118 6 dX12_feed_118 rfl ik_1 (by decide) rfl ?_
          refine vv_goto 121 28 dX12_feed_121 (by decide) ?_
          refine vv_sub [(0, _), (1, _), (2, _), (3, _), (4, _), (5, _), (6, _)] (sh_subm [2, 3, 4, 5, 6, 7, 0] rfl) ?_
          exact ih_28 hG39 h
      · rw [if_neg c24] at h
        refine vv_iload_n 41 1 dX12_feed_41 rfl rfl ?_
        refine vv_goto 42 81 dX12_feed_42 (by decide) ?_
        refine vv_istore (lv' := [(7, _), (0, _), (1, _), (2, _), (3, _), (4, _), (5, _), (6, _)]) 81 7 dX12_feed_81 (by decide) rfl ?_
        refine vv_aload_n 83 0 dX12_feed_83 rfl rfl ?_
        refine vv_getR 84 dX12_feed_84 fl_12_7 rfl (g_l_291 hG) (g_r_291_0 hG) ?_
        refine vv_aload_n 87 0 dX12_feed_87 rfl rfl ?_
        refine vv_getI 88 dX12_feed_88 fl_12_250 rfl (g_l_291 hG) ?_
        refine vv_iload 91 7 dX12_feed_91 rfl ?_
        refine vv_bipush 93 dX12_feed_93 bk_8 ?_
        refine vv_iconst 95 dX12_feed_95 ik_3 ?_
        refine vv_iload 96 6 dX12_feed_96 rfl ?_
        refine vv_iconst 98 dX12_feed_98 ik_4 ?_
        refine vv_irem 99 dX12_feed_99 (by decide) ?_
        refine vv_isub 100 dX12_feed_100 ?_
        refine vv_imul 101 dX12_feed_101 ?_
        refine vv_ishr 102 dX12_feed_102 ?_
        refine vv_sipush 103 dX12_feed_103 sk_255 ?_
        refine vv_iand 106 dX12_feed_106 ?_
        obtain ⟨k40, h⟩ := sh_chk h
        refine vn_iast 107 dX12_feed_107 (g_l_292 hG) k40 (fun μ41 eμ41 => ?_)
        rw [sh_let_eq eμ41] at h
        have hG41 : sh_G μ41 := by rw [eμ41]; exact hG
        refine vv_aload_n 108 0 dX12_feed_108 rfl rfl ?_
        refine vv_dup_ref 109 dX12_feed_109 ?_
        refine vv_getI 110 dX12_feed_110 fl_12_250 rfl (g_l_291 hG41) ?_
        refine vv_iconst 113 dX12_feed_113 ik_1 ?_
        refine vv_iadd 114 dX12_feed_114 ?_
        refine vn_putI 115 dX12_feed_115 fl_12_250 (Or.inl rfl) rfl (g_l_291 hG41) (fun μ42 eμ42 => ?_)
        rw [sh_let_eq eμ42] at h
        have hG42 : sh_G μ42 := by rw [eμ42]; exact hG41
        refine vv_iincc (lv' := [(6, _), (7, _), (0, _), (1, _), (2, _), (3, _), (4, _), (5, _)]) 118 6 dX12_feed_118 rfl ik_1 (by decide) rfl ?_
        refine vv_goto 121 28 dX12_feed_121 (by decide) ?_
        refine vv_sub [(0, _), (1, _), (2, _), (3, _), (4, _), (5, _), (6, _)] (sh_subm [2, 3, 4, 5, 6, 7, 0] rfl) ?_
        exact ih_28 hG42 h
theorem gp_X12_feed {a1 : Int32} {a2 : Int32} {a3 : Int32} {a4 : Int32} {a5 : Int32} {μ μ' : sh_Mem} {v : Int32} (hG : sh_G μ) (h : f_X12_feed a1 a2 a3 a4 a5 μ = some (v, μ')) : sh_G μ' := by
  have ih_28 := (gpl_X12_feed sh_fuel)
  unfold f_X12_feed at h
  by_cases c43 : ((sh_i μ 291 1) + 20) ≤ 1600
  · rw [if_pos c43] at h
    exact ih_28 hG h
  · rw [if_neg c43] at h
    obtain ⟨μ44, eμ44⟩ : ∃ y : sh_Mem, y = (sh_setI μ 293 (Int32.toNatClampNeg 0) ((sh_i μ 293 (Int32.toNatClampNeg 0)) + 1)) := ⟨_, rfl⟩
    rw [sh_let_eq eμ44] at h
    have hG44 : sh_G μ44 := by rw [eμ44]; exact hG
    obtain ⟨e1, e2⟩ := sh_some2 h
    exact e2 ▸ hG44
theorem t_X12_feed {a1 : Int32} {a2 : Int32} {a3 : Int32} {a4 : Int32} {a5 : Int32} {μ μ' : sh_Mem} {v : Int32} (hG : sh_G μ) (h : f_X12_feed a1 a2 a3 a4 a5 μ = some (v, μ')) : sh_C0 l B D ca 1 M_X12_feed [.ref 291, .int a1, .int a2, .int a3, .int a4, .int a5] μ (fun v0 μ0 => v0 = some (.int v) ∧ μ0 = μ') := by
  have ih_28 := (tl_X12_feed (l := l) (B := B) (D := D) (ca := ca) sh_fuel)
  unfold f_X12_feed at h
  refine vv_aload_n 0 0 dX12_feed_0 rfl rfl ?_
  refine vv_getI 1 dX12_feed_1 fl_12_250 rfl (g_l_291 hG) ?_
  refine vv_bipush 4 dX12_feed_4 bk_20 ?_
  refine vv_iadd 6 dX12_feed_6 ?_
  refine vv_sipush 7 dX12_feed_7 sk_1600 ?_
  refine vv_icmp_le 10 25 dX12_feed_10 (by decide) (fun c43 => ?_) (fun c43 => ?_)
  · rw [if_pos c43] at h
    refine vv_iconst 25 dX12_feed_25 ik_0 ?_
    refine vv_istore (lv' := [(6, _), (0, _), (1, _), (2, _), (3, _), (4, _), (5, _)]) 26 6 dX12_feed_26 (by decide) rfl ?_
    refine vv_sub [(0, _), (1, _), (2, _), (3, _), (4, _), (5, _), (6, _)] (sh_subm [1, 2, 3, 4, 5, 6, 0] rfl) ?_
    exact ih_28 hG h
  · rw [if_neg c43] at h
    refine vv_aload_n 13 0 dX12_feed_13 rfl rfl ?_
    refine vv_getR 14 dX12_feed_14 fl_12_17 rfl (g_l_291 hG) (g_r_291_9 hG) ?_
    refine vv_iconst 17 dX12_feed_17 ik_0 ?_
    refine vv_dup2_ri 18 dX12_feed_18 ?_
    refine vv_iald 19 dX12_feed_19 (g_l_293 hG) (by unfold vp_in; decide) ?_
    refine vv_iconst 20 dX12_feed_20 ik_1 ?_
    refine vv_iadd 21 dX12_feed_21 ?_
    refine vn_iast 22 dX12_feed_22 (g_l_293 hG) (by unfold vp_in; decide) (fun μ44 eμ44 => ?_)
    rw [sh_let_eq eμ44] at h
    have hG44 : sh_G μ44 := by rw [eμ44]; exact hG
    refine vv_iconst 23 dX12_feed_23 ik_m1 ?_
    obtain ⟨e1, e2⟩ := sh_some2 h
    refine vv_iret 24 dX12_feed_24 rfl (Nat.le_refl _) (Nat.le_refl _) ⟨by rw [e1], e2⟩
noncomputable def f_X12_end (a1 : Int32) (μ : sh_Mem) : Option (Int32 × sh_Mem) := (if a1 < 0 then sh_let (sh_setI μ 293 (Int32.toNatClampNeg 0) ((sh_i μ 293 (Int32.toNatClampNeg 0)) + 1)) (fun μ2 => some (0, μ2)) else (if a1 ≤ (sh_i μ 291 1) then sh_let (sh_setI μ 291 1 a1) (fun μ4 => some (1, μ4)) else sh_let (sh_setI μ 293 (Int32.toNatClampNeg 0) ((sh_i μ 293 (Int32.toNatClampNeg 0)) + 1)) (fun μ5 => some (0, μ5))))
theorem gp_X12_end {a1 : Int32} {μ μ' : sh_Mem} {v : Int32} (hG : sh_G μ) (h : f_X12_end a1 μ = some (v, μ')) : sh_G μ' := by
  unfold f_X12_end at h
  by_cases c1 : a1 < 0
  · rw [if_pos c1] at h
    obtain ⟨μ2, eμ2⟩ : ∃ y : sh_Mem, y = (sh_setI μ 293 (Int32.toNatClampNeg 0) ((sh_i μ 293 (Int32.toNatClampNeg 0)) + 1)) := ⟨_, rfl⟩
    rw [sh_let_eq eμ2] at h
    have hG2 : sh_G μ2 := by rw [eμ2]; exact hG
    obtain ⟨e1, e2⟩ := sh_some2 h
    exact e2 ▸ hG2
  · rw [if_neg c1] at h
    by_cases c3 : a1 ≤ (sh_i μ 291 1)
    · rw [if_pos c3] at h
      obtain ⟨μ4, eμ4⟩ : ∃ y : sh_Mem, y = (sh_setI μ 291 1 a1) := ⟨_, rfl⟩
      rw [sh_let_eq eμ4] at h
      have hG4 : sh_G μ4 := by rw [eμ4]; exact hG
      obtain ⟨e1, e2⟩ := sh_some2 h
      exact e2 ▸ hG4
    · rw [if_neg c3] at h
      obtain ⟨μ5, eμ5⟩ : ∃ y : sh_Mem, y = (sh_setI μ 293 (Int32.toNatClampNeg 0) ((sh_i μ 293 (Int32.toNatClampNeg 0)) + 1)) := ⟨_, rfl⟩
      rw [sh_let_eq eμ5] at h
      have hG5 : sh_G μ5 := by rw [eμ5]; exact hG
      obtain ⟨e1, e2⟩ := sh_some2 h
      exact e2 ▸ hG5
theorem t_X12_end {a1 : Int32} {μ μ' : sh_Mem} {v : Int32} (hG : sh_G μ) (h : f_X12_end a1 μ = some (v, μ')) : sh_C0 l B D ca 1 M_X12_end [.ref 291, .int a1] μ (fun v0 μ0 => v0 = some (.int v) ∧ μ0 = μ') := by
  unfold f_X12_end at h
  refine vv_iload_n 0 1 dX12_end_0 rfl rfl ?_
  refine vv_if_lt 1 12 dX12_end_1 (by decide) (fun c1 => ?_) (fun c1 => ?_)
  · rw [if_pos c1] at h
    refine vv_aload_n 12 0 dX12_end_12 rfl rfl ?_
    refine vv_getR 13 dX12_end_13 fl_12_17 rfl (g_l_291 hG) (g_r_291_9 hG) ?_
    refine vv_iconst 16 dX12_end_16 ik_0 ?_
    refine vv_dup2_ri 17 dX12_end_17 ?_
    refine vv_iald 18 dX12_end_18 (g_l_293 hG) (by unfold vp_in; decide) ?_
    refine vv_iconst 19 dX12_end_19 ik_1 ?_
    refine vv_iadd 20 dX12_end_20 ?_
    refine vn_iast 21 dX12_end_21 (g_l_293 hG) (by unfold vp_in; decide) (fun μ2 eμ2 => ?_)
    rw [sh_let_eq eμ2] at h
    have hG2 : sh_G μ2 := by rw [eμ2]; exact hG
    refine vv_iconst 22 dX12_end_22 ik_0 ?_
    obtain ⟨e1, e2⟩ := sh_some2 h
    refine vv_zret 23 dX12_end_23 rfl rfl (Nat.le_refl _) (Nat.le_refl _) ⟨by rw [e1], e2⟩
  · rw [if_neg c1] at h
    refine vv_iload_n 4 1 dX12_end_4 rfl rfl ?_
    refine vv_aload_n 5 0 dX12_end_5 rfl rfl ?_
    refine vv_getI 6 dX12_end_6 fl_12_250 rfl (g_l_291 hG) ?_
    refine vv_icmp_le 9 24 dX12_end_9 (by decide) (fun c3 => ?_) (fun c3 => ?_)
    · rw [if_pos c3] at h
      refine vv_aload_n 24 0 dX12_end_24 rfl rfl ?_
      refine vv_iload_n 25 1 dX12_end_25 rfl rfl ?_
      refine vn_putI 26 dX12_end_26 fl_12_250 (Or.inl rfl) rfl (g_l_291 hG) (fun μ4 eμ4 => ?_)
      rw [sh_let_eq eμ4] at h
      have hG4 : sh_G μ4 := by rw [eμ4]; exact hG
      refine vv_iconst 29 dX12_end_29 ik_1 ?_
      obtain ⟨e1, e2⟩ := sh_some2 h
      refine vv_zret 30 dX12_end_30 rfl rfl (Nat.le_refl _) (Nat.le_refl _) ⟨by rw [e1], e2⟩
    · rw [if_neg c3] at h
      refine vv_aload_n 12 0 dX12_end_12 rfl rfl ?_
      refine vv_getR 13 dX12_end_13 fl_12_17 rfl (g_l_291 hG) (g_r_291_9 hG) ?_
      refine vv_iconst 16 dX12_end_16 ik_0 ?_
      refine vv_dup2_ri 17 dX12_end_17 ?_
      refine vv_iald 18 dX12_end_18 (g_l_293 hG) (by unfold vp_in; decide) ?_
      refine vv_iconst 19 dX12_end_19 ik_1 ?_
      refine vv_iadd 20 dX12_end_20 ?_
      refine vn_iast 21 dX12_end_21 (g_l_293 hG) (by unfold vp_in; decide) (fun μ5 eμ5 => ?_)
      rw [sh_let_eq eμ5] at h
      have hG5 : sh_G μ5 := by rw [eμ5]; exact hG
      refine vv_iconst 22 dX12_end_22 ik_0 ?_
      obtain ⟨e1, e2⟩ := sh_some2 h
      refine vv_zret 23 dX12_end_23 rfl rfl (Nat.le_refl _) (Nat.le_refl _) ⟨by rw [e1], e2⟩
noncomputable def f_X12_fail (a1 : Int32) (a2 : Int32) (μ : sh_Mem) : Option sh_Mem := (if (sh_i μ 291 5) = 0 then sh_let (sh_setI μ 291 5 a1) (fun μ2 => sh_let (sh_setI μ2 291 6 a2) (fun μ3 => some μ3)) else some μ)
theorem gp_X12_fail {a1 : Int32} {a2 : Int32} {μ μ' : sh_Mem} (hG : sh_G μ) (h : f_X12_fail a1 a2 μ = some μ') : sh_G μ' := by
  unfold f_X12_fail at h
  by_cases c1 : (sh_i μ 291 5) = 0
  · rw [if_pos c1] at h
    obtain ⟨μ2, eμ2⟩ : ∃ y : sh_Mem, y = (sh_setI μ 291 5 a1) := ⟨_, rfl⟩
    rw [sh_let_eq eμ2] at h
    have hG2 : sh_G μ2 := by rw [eμ2]; exact hG
    obtain ⟨μ3, eμ3⟩ : ∃ y : sh_Mem, y = (sh_setI μ2 291 6 a2) := ⟨_, rfl⟩
    rw [sh_let_eq eμ3] at h
    have hG3 : sh_G μ3 := by rw [eμ3]; exact hG2
    have e2 := Option.some.inj h
    exact e2 ▸ hG3
  · rw [if_neg c1] at h
    have e2 := Option.some.inj h
    exact e2 ▸ hG
theorem t_X12_fail {a1 : Int32} {a2 : Int32} {μ μ' : sh_Mem} (hG : sh_G μ) (h : f_X12_fail a1 a2 μ = some μ') : sh_C0 l B D ca 1 M_X12_fail [.ref 291, .int a1, .int a2] μ (fun v0 μ0 => v0 = none ∧ μ0 = μ') := by
  unfold f_X12_fail at h
  refine vv_aload_n 0 0 dX12_fail_0 rfl rfl ?_
  refine vv_getI 1 dX12_fail_1 fl_12_253 rfl (g_l_291 hG) ?_
  refine vv_if_eq 4 8 dX12_fail_4 (by decide) (fun c1 => ?_) (fun c1 => ?_)
  · rw [if_pos c1] at h
    refine vv_aload_n 8 0 dX12_fail_8 rfl rfl ?_
    refine vv_iload_n 9 1 dX12_fail_9 rfl rfl ?_
    refine vn_putI 10 dX12_fail_10 fl_12_253 (Or.inl rfl) rfl (g_l_291 hG) (fun μ2 eμ2 => ?_)
    rw [sh_let_eq eμ2] at h
    have hG2 : sh_G μ2 := by rw [eμ2]; exact hG
    refine vv_aload_n 13 0 dX12_fail_13 rfl rfl ?_
    refine vv_iload_n 14 2 dX12_fail_14 rfl rfl ?_
    refine vn_putI 15 dX12_fail_15 fl_12_256 (Or.inl rfl) rfl (g_l_291 hG2) (fun μ3 eμ3 => ?_)
    rw [sh_let_eq eμ3] at h
    have hG3 : sh_G μ3 := by rw [eμ3]; exact hG2
    have e2 := Option.some.inj h
    refine vv_vret 18 dX12_fail_18 rfl (Nat.le_refl _) (Nat.le_refl _) ⟨rfl, e2⟩
  · rw [if_neg c1] at h
    have e2 := Option.some.inj h
    refine vv_vret 7 dX12_fail_7 rfl (Nat.le_refl _) (Nat.le_refl _) ⟨rfl, e2⟩
def f_X12_isLetter (μ : sh_Mem) (a1 : Int32) : Int32 := (if a1 < 97 then 0 else (if 122 < a1 then 0 else 1))
theorem c_X12_isLetter (hG : sh_G μ)  {a1 : Int32} : sh_C0 l B D ca 1 M_X12_isLetter [.int a1] μ (fun v μ' => v = some (.int (f_X12_isLetter μ a1)) ∧ μ' = μ) := by
  refine vv_iload_n 0 0 dX12_isLetter_0 rfl rfl ?_
  refine vv_bipush 1 dX12_isLetter_1 bk_97 ?_
  refine vv_icmp_lt 3 16 dX12_isLetter_3 (by decide) (fun h1 => ?_) (fun h1 => ?_)
  · refine vv_iconst 16 dX12_isLetter_16 ik_0 ?_
    refine vv_zret 17 dX12_isLetter_17 rfl rfl (Nat.le_refl _) (Nat.le_refl _) ?_
    exact ⟨by show some _ = some (Value.int (f_X12_isLetter μ a1)); unfold f_X12_isLetter; rw [if_pos h1], rfl⟩
  · refine vv_iload_n 6 0 dX12_isLetter_6 rfl rfl ?_
    refine vv_bipush 7 dX12_isLetter_7 bk_122 ?_
    refine vv_icmp_gt 9 16 dX12_isLetter_9 (by decide) (fun h2 => ?_) (fun h2 => ?_)
    · refine vv_iconst 16 dX12_isLetter_16 ik_0 ?_
      refine vv_zret 17 dX12_isLetter_17 rfl rfl (Nat.le_refl _) (Nat.le_refl _) ?_
      exact ⟨by show some _ = some (Value.int (f_X12_isLetter μ a1)); unfold f_X12_isLetter; rw [if_neg h1, if_pos h2], rfl⟩
    · refine vv_iconst 12 dX12_isLetter_12 ik_1 ?_
      refine vv_goto 13 17 dX12_isLetter_13 (by decide) ?_
      refine vv_zret 17 dX12_isLetter_17 rfl rfl (Nat.le_refl _) (Nat.le_refl _) ?_
      exact ⟨by show some _ = some (Value.int (f_X12_isLetter μ a1)); unfold f_X12_isLetter; rw [if_neg h1, if_neg h2], rfl⟩
def f_X12_isDigit (μ : sh_Mem) (a1 : Int32) : Int32 := (if a1 < 48 then 0 else (if 57 < a1 then 0 else 1))
theorem c_X12_isDigit (hG : sh_G μ)  {a1 : Int32} : sh_C0 l B D ca 1 M_X12_isDigit [.int a1] μ (fun v μ' => v = some (.int (f_X12_isDigit μ a1)) ∧ μ' = μ) := by
  refine vv_iload_n 0 0 dX12_isDigit_0 rfl rfl ?_
  refine vv_bipush 1 dX12_isDigit_1 bk_48 ?_
  refine vv_icmp_lt 3 16 dX12_isDigit_3 (by decide) (fun h1 => ?_) (fun h1 => ?_)
  · refine vv_iconst 16 dX12_isDigit_16 ik_0 ?_
    refine vv_zret 17 dX12_isDigit_17 rfl rfl (Nat.le_refl _) (Nat.le_refl _) ?_
    exact ⟨by show some _ = some (Value.int (f_X12_isDigit μ a1)); unfold f_X12_isDigit; rw [if_pos h1], rfl⟩
  · refine vv_iload_n 6 0 dX12_isDigit_6 rfl rfl ?_
    refine vv_bipush 7 dX12_isDigit_7 bk_57 ?_
    refine vv_icmp_gt 9 16 dX12_isDigit_9 (by decide) (fun h2 => ?_) (fun h2 => ?_)
    · refine vv_iconst 16 dX12_isDigit_16 ik_0 ?_
      refine vv_zret 17 dX12_isDigit_17 rfl rfl (Nat.le_refl _) (Nat.le_refl _) ?_
      exact ⟨by show some _ = some (Value.int (f_X12_isDigit μ a1)); unfold f_X12_isDigit; rw [if_neg h1, if_pos h2], rfl⟩
    · refine vv_iconst 12 dX12_isDigit_12 ik_1 ?_
      refine vv_goto 13 17 dX12_isDigit_13 (by decide) ?_
      refine vv_zret 17 dX12_isDigit_17 rfl rfl (Nat.le_refl _) (Nat.le_refl _) ?_
      exact ⟨by show some _ = some (Value.int (f_X12_isDigit μ a1)); unfold f_X12_isDigit; rw [if_neg h1, if_neg h2], rfl⟩
noncomputable def F_X12_look : Nat → Nat → sh_Mem → Option (Int32 × sh_Mem)
  | 0, _, _ => none
  | fuel + 1, lbl, μ => match lbl with
    | 1 => (if (sh_i μ 291 3) ≤ (sh_i μ 291 2) then (if (sh_i μ 291 3) ≤ (sh_i μ 291 2) then some ((-1), μ) else (if sh_in (sh_i μ 291 2) 1600 then some ((sh_i μ 292 ((sh_i μ 291 2)).toNatClampNeg), μ) else none)) else (if sh_in (sh_i μ 291 2) 1600 then (if (sh_i μ 292 ((sh_i μ 291 2)).toNatClampNeg) = 10 then sh_let (sh_setI μ 291 2 ((sh_i μ 291 2) + 1)) (fun μ17 => F_X12_look fuel 1  μ17) else (if sh_in (sh_i μ 291 2) 1600 then (if (sh_i μ 292 ((sh_i μ 291 2)).toNatClampNeg) = 32 then sh_let (sh_setI μ 291 2 ((sh_i μ 291 2) + 1)) (fun μ22 => F_X12_look fuel 1  μ22) else (if (sh_i μ 291 3) ≤ (sh_i μ 291 2) then some ((-1), μ) else (if sh_in (sh_i μ 291 2) 1600 then some ((sh_i μ 292 ((sh_i μ 291 2)).toNatClampNeg), μ) else none))) else none)) else none))
    | _ => none
noncomputable def f_X12_look (μ : sh_Mem) : Option (Int32 × sh_Mem) := F_X12_look sh_fuel 1  μ
theorem gpl_X12_look (fuel : Nat) : (∀ ⦃μ μ' : sh_Mem⦄ ⦃v : Int32⦄, sh_G μ → F_X12_look fuel 1 μ = some (v, μ') → sh_G μ') := by
  induction fuel with
  | zero => intro μ μ' v hG h; cases h
  | succ fuel ih =>
    have ih_0 := ih
    intro μ μ' v hG h
    replace h : ((if (sh_i μ 291 3) ≤ (sh_i μ 291 2) then (if (sh_i μ 291 3) ≤ (sh_i μ 291 2) then some ((-1), μ) else (if sh_in (sh_i μ 291 2) 1600 then some ((sh_i μ 292 ((sh_i μ 291 2)).toNatClampNeg), μ) else none)) else (if sh_in (sh_i μ 291 2) 1600 then (if (sh_i μ 292 ((sh_i μ 291 2)).toNatClampNeg) = 10 then sh_let (sh_setI μ 291 2 ((sh_i μ 291 2) + 1)) (fun μ17 => F_X12_look fuel 1  μ17) else (if sh_in (sh_i μ 291 2) 1600 then (if (sh_i μ 292 ((sh_i μ 291 2)).toNatClampNeg) = 32 then sh_let (sh_setI μ 291 2 ((sh_i μ 291 2) + 1)) (fun μ22 => F_X12_look fuel 1  μ22) else (if (sh_i μ 291 3) ≤ (sh_i μ 291 2) then some ((-1), μ) else (if sh_in (sh_i μ 291 2) 1600 then some ((sh_i μ 292 ((sh_i μ 291 2)).toNatClampNeg), μ) else none))) else none)) else none)) : Option (Int32 × sh_Mem)) = some (v, μ') := h
    by_cases c12 : (sh_i μ 291 3) ≤ (sh_i μ 291 2)
    · rw [if_pos c12] at h
      by_cases c13 : (sh_i μ 291 3) ≤ (sh_i μ 291 2)
      · rw [if_pos c13] at h
        obtain ⟨e1, e2⟩ := sh_some2 h
        exact e2 ▸ hG
      · rw [if_neg c13] at h
        obtain ⟨k14, h⟩ := sh_chk h
        obtain ⟨e1, e2⟩ := sh_some2 h
        exact e2 ▸ hG
    · rw [if_neg c12] at h
      obtain ⟨k15, h⟩ := sh_chk h
      by_cases c16 : (sh_i μ 292 ((sh_i μ 291 2)).toNatClampNeg) = 10
      · rw [if_pos c16] at h
        obtain ⟨μ17, eμ17⟩ : ∃ y : sh_Mem, y = (sh_setI μ 291 2 ((sh_i μ 291 2) + 1)) := ⟨_, rfl⟩
        rw [sh_let_eq eμ17] at h
        have hG17 : sh_G μ17 := by rw [eμ17]; exact hG
        exact ih_0 hG17 h
      · rw [if_neg c16] at h
        obtain ⟨k18, h⟩ := sh_chk h
        by_cases c19 : (sh_i μ 292 ((sh_i μ 291 2)).toNatClampNeg) = 32
        · rw [if_pos c19] at h
          obtain ⟨μ22, eμ22⟩ : ∃ y : sh_Mem, y = (sh_setI μ 291 2 ((sh_i μ 291 2) + 1)) := ⟨_, rfl⟩
          rw [sh_let_eq eμ22] at h
          have hG22 : sh_G μ22 := by rw [eμ22]; exact hG
          exact ih_0 hG22 h
        · rw [if_neg c19] at h
          by_cases c20 : (sh_i μ 291 3) ≤ (sh_i μ 291 2)
          · rw [if_pos c20] at h
            obtain ⟨e1, e2⟩ := sh_some2 h
            exact e2 ▸ hG
          · rw [if_neg c20] at h
            obtain ⟨k21, h⟩ := sh_chk h
            obtain ⟨e1, e2⟩ := sh_some2 h
            exact e2 ▸ hG
theorem tl_X12_look (fuel : Nat) : (∀ ⦃μ μ' : sh_Mem⦄ ⦃v : Int32⦄, sh_G μ → F_X12_look fuel 1 μ = some (v, μ') → sh_V0 l B D ca 1 M_X12_look 0 [(0, .ref 291)] [] μ (fun v0 μ0 => v0 = some (.int v) ∧ μ0 = μ')) := by
  induction fuel with
  | zero => intro μ μ' v hG h; cases h
  | succ fuel ih =>
    have ih_0 := ih
    intro μ μ' v hG h
    replace h : ((if (sh_i μ 291 3) ≤ (sh_i μ 291 2) then (if (sh_i μ 291 3) ≤ (sh_i μ 291 2) then some ((-1), μ) else (if sh_in (sh_i μ 291 2) 1600 then some ((sh_i μ 292 ((sh_i μ 291 2)).toNatClampNeg), μ) else none)) else (if sh_in (sh_i μ 291 2) 1600 then (if (sh_i μ 292 ((sh_i μ 291 2)).toNatClampNeg) = 10 then sh_let (sh_setI μ 291 2 ((sh_i μ 291 2) + 1)) (fun μ17 => F_X12_look fuel 1  μ17) else (if sh_in (sh_i μ 291 2) 1600 then (if (sh_i μ 292 ((sh_i μ 291 2)).toNatClampNeg) = 32 then sh_let (sh_setI μ 291 2 ((sh_i μ 291 2) + 1)) (fun μ22 => F_X12_look fuel 1  μ22) else (if (sh_i μ 291 3) ≤ (sh_i μ 291 2) then some ((-1), μ) else (if sh_in (sh_i μ 291 2) 1600 then some ((sh_i μ 292 ((sh_i μ 291 2)).toNatClampNeg), μ) else none))) else none)) else none)) : Option (Int32 × sh_Mem)) = some (v, μ') := h
    refine vv_aload_n 0 0 dX12_look_0 rfl rfl ?_
    refine vv_getI 1 dX12_look_1 fl_12_259 rfl (g_l_291 hG) ?_
    refine vv_aload_n 4 0 dX12_look_4 rfl rfl ?_
    refine vv_getI 5 dX12_look_5 fl_12_262 rfl (g_l_291 hG) ?_
    refine vv_icmp_ge 8 52 dX12_look_8 (by decide) (fun c12 => ?_) (fun c12 => ?_)
    · rw [if_pos c12] at h
      refine vv_aload_n 52 0 dX12_look_52 rfl rfl ?_
      refine vv_getI 53 dX12_look_53 fl_12_259 rfl (g_l_291 hG) ?_
      refine vv_aload_n 56 0 dX12_look_56 rfl rfl ?_
      refine vv_getI 57 dX12_look_57 fl_12_262 rfl (g_l_291 hG) ?_
      refine vv_icmp_ge 60 75 dX12_look_60 (by decide) (fun c13 => ?_) (fun c13 => ?_)
      · rw [if_pos c13] at h
        refine vv_iconst 75 dX12_look_75 ik_m1 ?_
        obtain ⟨e1, e2⟩ := sh_some2 h
        refine vv_iret 76 dX12_look_76 rfl (Nat.le_refl _) (Nat.le_refl _) ⟨by rw [e1], e2⟩
      · rw [if_neg c13] at h
        refine vv_aload_n 63 0 dX12_look_63 rfl rfl ?_
        refine vv_getR 64 dX12_look_64 fl_12_7 rfl (g_l_291 hG) (g_r_291_0 hG) ?_
        refine vv_aload_n 67 0 dX12_look_67 rfl rfl ?_
        refine vv_getI 68 dX12_look_68 fl_12_259 rfl (g_l_291 hG) ?_
        obtain ⟨k14, h⟩ := sh_chk h
        refine vv_iald 71 dX12_look_71 (g_l_292 hG) k14 ?_
        refine vv_goto 72 76 dX12_look_72 (by decide) ?_
        obtain ⟨e1, e2⟩ := sh_some2 h
        refine vv_iret 76 dX12_look_76 rfl (Nat.le_refl _) (Nat.le_refl _) ⟨by rw [e1], e2⟩
    · rw [if_neg c12] at h
      refine vv_aload_n 11 0 dX12_look_11 rfl rfl ?_
      refine vv_getR 12 dX12_look_12 fl_12_7 rfl (g_l_291 hG) (g_r_291_0 hG) ?_
      refine vv_aload_n 15 0 dX12_look_15 rfl rfl ?_
      refine vv_getI 16 dX12_look_16 fl_12_259 rfl (g_l_291 hG) ?_
      obtain ⟨k15, h⟩ := sh_chk h
      refine vv_iald 19 dX12_look_19 (g_l_292 hG) k15 ?_
      refine vv_bipush 20 dX12_look_20 bk_10 ?_
      refine vv_icmp_eq 22 39 dX12_look_22 (by decide) (fun c16 => ?_) (fun c16 => ?_)
      · rw [if_pos c16] at h
        refine vv_aload_n 39 0 dX12_look_39 rfl rfl ?_
        refine vv_dup_ref 40 dX12_look_40 ?_
        refine vv_getI 41 dX12_look_41 fl_12_259 rfl (g_l_291 hG) ?_
        refine vv_iconst 44 dX12_look_44 ik_1 ?_
        refine vv_iadd 45 dX12_look_45 ?_
        refine vn_putI 46 dX12_look_46 fl_12_259 (Or.inl rfl) rfl (g_l_291 hG) (fun μ17 eμ17 => ?_)
        rw [sh_let_eq eμ17] at h
        have hG17 : sh_G μ17 := by rw [eμ17]; exact hG
        refine vv_goto 49 0 dX12_look_49 (by decide) ?_
        refine vv_sub [(0, _)] (sh_subm [0] rfl) ?_
        exact ih_0 hG17 h
      · rw [if_neg c16] at h
        refine vv_aload_n 25 0 dX12_look_25 rfl rfl ?_
        refine vv_getR 26 dX12_look_26 fl_12_7 rfl (g_l_291 hG) (g_r_291_0 hG) ?_
        refine vv_aload_n 29 0 dX12_look_29 rfl rfl ?_
        refine vv_getI 30 dX12_look_30 fl_12_259 rfl (g_l_291 hG) ?_
        obtain ⟨k18, h⟩ := sh_chk h
        refine vv_iald 33 dX12_look_33 (g_l_292 hG) k18 ?_
        refine vv_bipush 34 dX12_look_34 bk_32 ?_
        refine vv_icmp_ne 36 52 dX12_look_36 (by decide) (fun c19 => ?_) (fun c19 => ?_)
        · rw [if_neg c19] at h
          refine vv_aload_n 52 0 dX12_look_52 rfl rfl ?_
          refine vv_getI 53 dX12_look_53 fl_12_259 rfl (g_l_291 hG) ?_
          refine vv_aload_n 56 0 dX12_look_56 rfl rfl ?_
          refine vv_getI 57 dX12_look_57 fl_12_262 rfl (g_l_291 hG) ?_
          refine vv_icmp_ge 60 75 dX12_look_60 (by decide) (fun c20 => ?_) (fun c20 => ?_)
          · rw [if_pos c20] at h
            refine vv_iconst 75 dX12_look_75 ik_m1 ?_
            obtain ⟨e1, e2⟩ := sh_some2 h
            refine vv_iret 76 dX12_look_76 rfl (Nat.le_refl _) (Nat.le_refl _) ⟨by rw [e1], e2⟩
          · rw [if_neg c20] at h
            refine vv_aload_n 63 0 dX12_look_63 rfl rfl ?_
            refine vv_getR 64 dX12_look_64 fl_12_7 rfl (g_l_291 hG) (g_r_291_0 hG) ?_
            refine vv_aload_n 67 0 dX12_look_67 rfl rfl ?_
            refine vv_getI 68 dX12_look_68 fl_12_259 rfl (g_l_291 hG) ?_
            obtain ⟨k21, h⟩ := sh_chk h
            refine vv_iald 71 dX12_look_71 (g_l_292 hG) k21 ?_
            refine vv_goto 72 76 dX12_look_72 (by decide) ?_
            obtain ⟨e1, e2⟩ := sh_some2 h
            refine vv_iret 76 dX12_look_76 rfl (Nat.le_refl _) (Nat.le_refl _) ⟨by rw [e1], e2⟩
        · rw [if_pos c19] at h
          refine vv_aload_n 39 0 dX12_look_39 rfl rfl ?_
          refine vv_dup_ref 40 dX12_look_40 ?_
          refine vv_getI 41 dX12_look_41 fl_12_259 rfl (g_l_291 hG) ?_
          refine vv_iconst 44 dX12_look_44 ik_1 ?_
          refine vv_iadd 45 dX12_look_45 ?_
          refine vn_putI 46 dX12_look_46 fl_12_259 (Or.inl rfl) rfl (g_l_291 hG) (fun μ22 eμ22 => ?_)
          rw [sh_let_eq eμ22] at h
          have hG22 : sh_G μ22 := by rw [eμ22]; exact hG
          refine vv_goto 49 0 dX12_look_49 (by decide) ?_
          refine vv_sub [(0, _)] (sh_subm [0] rfl) ?_
          exact ih_0 hG22 h
theorem gp_X12_look {μ μ' : sh_Mem} {v : Int32} (hG : sh_G μ) (h : f_X12_look μ = some (v, μ')) : sh_G μ' := by
  have ih_0 := (gpl_X12_look sh_fuel)
  unfold f_X12_look at h
  exact ih_0 hG h
theorem t_X12_look {μ μ' : sh_Mem} {v : Int32} (hG : sh_G μ) (h : f_X12_look μ = some (v, μ')) : sh_C0 l B D ca 1 M_X12_look [.ref 291] μ (fun v0 μ0 => v0 = some (.int v) ∧ μ0 = μ') := by
  have ih_0 := (tl_X12_look (l := l) (B := B) (D := D) (ca := ca) sh_fuel)
  unfold f_X12_look at h
  refine vv_sub [(0, _)] (sh_subm [0] rfl) ?_
  exact ih_0 hG h
noncomputable def F_X12_isHere : Nat → Nat → Nat → Nat → Int32 → Int32 → sh_Mem → Option (Int32 × sh_Mem)
  | 0, _, _, _, _, _, _ => none
  | fuel + 1, lbl, n, r1, i2, i3, μ => match lbl with
    | 1 => (if (sh_i μ 291 3) ≤ i2 then (if (i2 - (sh_i μ 291 2)) = (Int32.ofNat n) then F_X12_isHere fuel 2 n r1 i2 0 μ else some (0, μ)) else (if sh_in i2 1600 then (if (f_X12_isLetter μ (sh_i μ 292 i2.toNatClampNeg)) = 0 then (if (i2 - (sh_i μ 291 2)) = (Int32.ofNat n) then F_X12_isHere fuel 2 n r1 i2 0 μ else some (0, μ)) else F_X12_isHere fuel 1 n r1 (i2 + 1) 0 μ) else none))
    | 2 => (if (Int32.ofNat n) ≤ i3 then some (1, μ) else (if sh_in ((sh_i μ 291 2) + i3) 1600 then (if sh_in i3 n then (if (sh_i μ 292 (((sh_i μ 291 2) + i3)).toNatClampNeg) = (sh_i μ r1 i3.toNatClampNeg) then F_X12_isHere fuel 2 n r1 i2 (i3 + 1) μ else some (0, μ)) else none) else none))
    | _ => none
noncomputable def f_X12_isHere (g : Nat) (n : Nat) (μ : sh_Mem) : Option (Int32 × sh_Mem) := (if (sh_i μ 291 5) = 0 then sh_bind (f_X12_look μ) (fun y38 μ36 => (if (f_X12_isLetter μ36 y38) = 0 then some (0, μ36) else (if (sh_i μ36 291 2) = (sh_i μ36 291 4) then some (0, μ36) else sh_let ((sh_i μ36 291 2) : Int32) (fun x41 => F_X12_isHere sh_fuel 1 n g x41 0 μ36)))) else some (0, μ))
theorem gpl_X12_isHere (fuel : Nat) : (∀ ⦃n : Nat⦄ ⦃r1 : Nat⦄ ⦃i2 : Int32⦄ ⦃i3 : Int32⦄ ⦃μ μ' : sh_Mem⦄ ⦃v : Int32⦄, sh_G μ → sh_LAY[r1]? = some (15, n) → F_X12_isHere fuel 1 n r1 i2 i3 μ = some (v, μ') → sh_G μ') ∧ (∀ ⦃n : Nat⦄ ⦃r1 : Nat⦄ ⦃i2 : Int32⦄ ⦃i3 : Int32⦄ ⦃μ μ' : sh_Mem⦄ ⦃v : Int32⦄, sh_G μ → sh_LAY[r1]? = some (15, n) → F_X12_isHere fuel 2 n r1 i2 i3 μ = some (v, μ') → sh_G μ') := by
  induction fuel with
  | zero => exact ⟨(by intro n r1 i2 i3 μ μ' v hG hr1 h; cases h), (by intro n r1 i2 i3 μ μ' v hG hr1 h; cases h)⟩
  | succ fuel ih =>
    obtain ⟨ih_35, ih_76⟩ := ih
    refine ⟨?_, ?_⟩
    · intro n r1 i2 i3 μ μ' v hG hr1 h
      replace h : ((if (sh_i μ 291 3) ≤ i2 then (if (i2 - (sh_i μ 291 2)) = (Int32.ofNat n) then F_X12_isHere fuel 2 n r1 i2 0 μ else some (0, μ)) else (if sh_in i2 1600 then (if (f_X12_isLetter μ (sh_i μ 292 i2.toNatClampNeg)) = 0 then (if (i2 - (sh_i μ 291 2)) = (Int32.ofNat n) then F_X12_isHere fuel 2 n r1 i2 0 μ else some (0, μ)) else F_X12_isHere fuel 1 n r1 (i2 + 1) 0 μ) else none)) : Option (Int32 × sh_Mem)) = some (v, μ') := h
      by_cases c26 : (sh_i μ 291 3) ≤ i2
      · rw [if_pos c26] at h
        by_cases c27 : (i2 - (sh_i μ 291 2)) = (Int32.ofNat n)
        · rw [if_pos c27] at h
          exact ih_76 hG hr1 h
        · rw [if_neg c27] at h
          obtain ⟨e1, e2⟩ := sh_some2 h
          exact e2 ▸ hG
      · rw [if_neg c26] at h
        obtain ⟨k28, h⟩ := sh_chk h
        by_cases c29 : (f_X12_isLetter μ (sh_i μ 292 i2.toNatClampNeg)) = 0
        · rw [if_pos c29] at h
          by_cases c30 : (i2 - (sh_i μ 291 2)) = (Int32.ofNat n)
          · rw [if_pos c30] at h
            exact ih_76 hG hr1 h
          · rw [if_neg c30] at h
            obtain ⟨e1, e2⟩ := sh_some2 h
            exact e2 ▸ hG
        · rw [if_neg c29] at h
          exact ih_35 hG hr1 h
    · intro n r1 i2 i3 μ μ' v hG hr1 h
      replace h : ((if (Int32.ofNat n) ≤ i3 then some (1, μ) else (if sh_in ((sh_i μ 291 2) + i3) 1600 then (if sh_in i3 n then (if (sh_i μ 292 (((sh_i μ 291 2) + i3)).toNatClampNeg) = (sh_i μ r1 i3.toNatClampNeg) then F_X12_isHere fuel 2 n r1 i2 (i3 + 1) μ else some (0, μ)) else none) else none)) : Option (Int32 × sh_Mem)) = some (v, μ') := h
      by_cases c31 : (Int32.ofNat n) ≤ i3
      · rw [if_pos c31] at h
        obtain ⟨e1, e2⟩ := sh_some2 h
        exact e2 ▸ hG
      · rw [if_neg c31] at h
        obtain ⟨k32, h⟩ := sh_chk h
        obtain ⟨k33, h⟩ := sh_chk h
        by_cases c34 : (sh_i μ 292 (((sh_i μ 291 2) + i3)).toNatClampNeg) = (sh_i μ r1 i3.toNatClampNeg)
        · rw [if_pos c34] at h
          exact ih_76 hG hr1 h
        · rw [if_neg c34] at h
          obtain ⟨e1, e2⟩ := sh_some2 h
          exact e2 ▸ hG
theorem tl_X12_isHere (fuel : Nat) : (∀ ⦃n : Nat⦄ ⦃r1 : Nat⦄ ⦃i2 : Int32⦄ ⦃i3 : Int32⦄ ⦃μ μ' : sh_Mem⦄ ⦃v : Int32⦄, sh_G μ → sh_LAY[r1]? = some (15, n) → F_X12_isHere fuel 1 n r1 i2 i3 μ = some (v, μ') → sh_V0 l B D ca 2 M_X12_isHere 35 [(0, .ref 291), (1, .ref r1), (2, .int i2)] [] μ (fun v0 μ0 => v0 = some (.int v) ∧ μ0 = μ')) ∧ (∀ ⦃n : Nat⦄ ⦃r1 : Nat⦄ ⦃i2 : Int32⦄ ⦃i3 : Int32⦄ ⦃μ μ' : sh_Mem⦄ ⦃v : Int32⦄, sh_G μ → sh_LAY[r1]? = some (15, n) → F_X12_isHere fuel 2 n r1 i2 i3 μ = some (v, μ') → sh_V0 l B D ca 2 M_X12_isHere 76 [(0, .ref 291), (1, .ref r1), (2, .int i2), (3, .int i3)] [] μ (fun v0 μ0 => v0 = some (.int v) ∧ μ0 = μ')) := by
  induction fuel with
  | zero => exact ⟨(by intro n r1 i2 i3 μ μ' v hG hr1 h; cases h), (by intro n r1 i2 i3 μ μ' v hG hr1 h; cases h)⟩
  | succ fuel ih =>
    obtain ⟨ih_35, ih_76⟩ := ih
    refine ⟨?_, ?_⟩
    · intro n r1 i2 i3 μ μ' v hG hr1 h
      replace h : ((if (sh_i μ 291 3) ≤ i2 then (if (i2 - (sh_i μ 291 2)) = (Int32.ofNat n) then F_X12_isHere fuel 2 n r1 i2 0 μ else some (0, μ)) else (if sh_in i2 1600 then (if (f_X12_isLetter μ (sh_i μ 292 i2.toNatClampNeg)) = 0 then (if (i2 - (sh_i μ 291 2)) = (Int32.ofNat n) then F_X12_isHere fuel 2 n r1 i2 0 μ else some (0, μ)) else F_X12_isHere fuel 1 n r1 (i2 + 1) 0 μ) else none)) : Option (Int32 × sh_Mem)) = some (v, μ') := h
      refine vv_iload_n 35 2 dX12_isHere_35 rfl rfl ?_
      refine vv_aload_n 36 0 dX12_isHere_36 rfl rfl ?_
      refine vv_getI 37 dX12_isHere_37 fl_12_262 rfl (g_l_291 hG) ?_
      refine vv_icmp_ge 40 61 dX12_isHere_40 (by decide) (fun c26 => ?_) (fun c26 => ?_)
      · rw [if_pos c26] at h
        refine vv_iload_n 61 2 dX12_isHere_61 rfl rfl ?_
        refine vv_aload_n 62 0 dX12_isHere_62 rfl rfl ?_
        refine vv_getI 63 dX12_isHere_63 fl_12_259 rfl (g_l_291 hG) ?_
        refine vv_isub 66 dX12_isHere_66 ?_
        refine vv_aload_n 67 1 dX12_isHere_67 rfl rfl ?_
        refine vv_alen 68 dX12_isHere_68 (gA_l hG hr1) (by decide) ?_
        refine vv_icmp_eq 69 74 dX12_isHere_69 (by decide) (fun c27 => ?_) (fun c27 => ?_)
        · rw [if_pos c27] at h
          refine vv_iconst 74 dX12_isHere_74 ik_0 ?_
          refine vv_istore_n (lv' := [(3, _), (0, _), (1, _), (2, _)]) 75 3 dX12_isHere_75 rfl (by decide) rfl ?_
          refine vv_sub [(0, _), (1, _), (2, _), (3, _)] (sh_subm [1, 2, 3, 0] rfl) ?_
          exact ih_76 hG hr1 h
        · rw [if_neg c27] at h
          refine vv_iconst 72 dX12_isHere_72 ik_0 ?_
          obtain ⟨e1, e2⟩ := sh_some2 h
          refine vv_zret 73 dX12_isHere_73 rfl rfl (Nat.le_refl _) (Nat.le_refl _) ⟨by rw [e1], e2⟩
      · rw [if_neg c26] at h
        refine vv_aload_n 43 0 dX12_isHere_43 rfl rfl ?_
        refine vv_getR 44 dX12_isHere_44 fl_12_7 rfl (g_l_291 hG) (g_r_291_0 hG) ?_
        refine vv_iload_n 47 2 dX12_isHere_47 rfl rfl ?_
        obtain ⟨k28, h⟩ := sh_chk h
        refine vv_iald 48 dX12_isHere_48 (g_l_292 hG) k28 ?_
        refine v1_callS [_] 49 dX12_isHere_49 ck_X12_269 (c_X12_isLetter (μ := μ) hG) (Nat.le_of_ble_eq_true rfl) ⟨Nat.le_of_ble_eq_true rfl, Nat.le_of_ble_eq_true rfl⟩ rfl (Nat.le_of_ble_eq_true rfl) ?_
        refine vv_if_eq 52 61 dX12_isHere_52 (by decide) (fun c29 => ?_) (fun c29 => ?_)
        · rw [if_pos c29] at h
          refine vv_iload_n 61 2 dX12_isHere_61 rfl rfl ?_
          refine vv_aload_n 62 0 dX12_isHere_62 rfl rfl ?_
          refine vv_getI 63 dX12_isHere_63 fl_12_259 rfl (g_l_291 hG) ?_
          refine vv_isub 66 dX12_isHere_66 ?_
          refine vv_aload_n 67 1 dX12_isHere_67 rfl rfl ?_
          refine vv_alen 68 dX12_isHere_68 (gA_l hG hr1) (by decide) ?_
          refine vv_icmp_eq 69 74 dX12_isHere_69 (by decide) (fun c30 => ?_) (fun c30 => ?_)
          · rw [if_pos c30] at h
            refine vv_iconst 74 dX12_isHere_74 ik_0 ?_
            refine vv_istore_n (lv' := [(3, _), (0, _), (1, _), (2, _)]) 75 3 dX12_isHere_75 rfl (by decide) rfl ?_
            refine vv_sub [(0, _), (1, _), (2, _), (3, _)] (sh_subm [1, 2, 3, 0] rfl) ?_
            exact ih_76 hG hr1 h
          · rw [if_neg c30] at h
            refine vv_iconst 72 dX12_isHere_72 ik_0 ?_
            obtain ⟨e1, e2⟩ := sh_some2 h
            refine vv_zret 73 dX12_isHere_73 rfl rfl (Nat.le_refl _) (Nat.le_refl _) ⟨by rw [e1], e2⟩
        · rw [if_neg c29] at h
          refine vv_iincc (lv' := [(2, _), (0, _), (1, _)]) 55 2 dX12_isHere_55 rfl ik_1 (by decide) rfl ?_
          refine vv_goto 58 35 dX12_isHere_58 (by decide) ?_
          refine vv_sub [(0, _), (1, _), (2, _)] (sh_subm [1, 2, 0] rfl) ?_
          exact ih_35 hG hr1 h
    · intro n r1 i2 i3 μ μ' v hG hr1 h
      replace h : ((if (Int32.ofNat n) ≤ i3 then some (1, μ) else (if sh_in ((sh_i μ 291 2) + i3) 1600 then (if sh_in i3 n then (if (sh_i μ 292 (((sh_i μ 291 2) + i3)).toNatClampNeg) = (sh_i μ r1 i3.toNatClampNeg) then F_X12_isHere fuel 2 n r1 i2 (i3 + 1) μ else some (0, μ)) else none) else none)) : Option (Int32 × sh_Mem)) = some (v, μ') := h
      refine vv_iload_n 76 3 dX12_isHere_76 rfl rfl ?_
      refine vv_aload_n 77 1 dX12_isHere_77 rfl rfl ?_
      refine vv_alen 78 dX12_isHere_78 (gA_l hG hr1) (by decide) ?_
      refine vv_icmp_ge 79 107 dX12_isHere_79 (by decide) (fun c31 => ?_) (fun c31 => ?_)
      · rw [if_pos c31] at h
        refine vv_iconst 107 dX12_isHere_107 ik_1 ?_
        obtain ⟨e1, e2⟩ := sh_some2 h
        refine vv_zret 108 dX12_isHere_108 rfl rfl (Nat.le_refl _) (Nat.le_refl _) ⟨by rw [e1], e2⟩
      · rw [if_neg c31] at h
        refine vv_aload_n 82 0 dX12_isHere_82 rfl rfl ?_
        refine vv_getR 83 dX12_isHere_83 fl_12_7 rfl (g_l_291 hG) (g_r_291_0 hG) ?_
        refine vv_aload_n 86 0 dX12_isHere_86 rfl rfl ?_
        refine vv_getI 87 dX12_isHere_87 fl_12_259 rfl (g_l_291 hG) ?_
        refine vv_iload_n 90 3 dX12_isHere_90 rfl rfl ?_
        refine vv_iadd 91 dX12_isHere_91 ?_
        obtain ⟨k32, h⟩ := sh_chk h
        refine vv_iald 92 dX12_isHere_92 (g_l_292 hG) k32 ?_
        refine vv_aload_n 93 1 dX12_isHere_93 rfl rfl ?_
        refine vv_iload_n 94 3 dX12_isHere_94 rfl rfl ?_
        obtain ⟨k33, h⟩ := sh_chk h
        refine vv_cald 95 dX12_isHere_95 (gA_l hG hr1) k33 ?_
        refine vv_icmp_eq 96 101 dX12_isHere_96 (by decide) (fun c34 => ?_) (fun c34 => ?_)
        · rw [if_pos c34] at h
          refine vv_iincc (lv' := [(3, _), (0, _), (1, _), (2, _)]) 101 3 dX12_isHere_101 rfl ik_1 (by decide) rfl ?_
          refine vv_goto 104 76 dX12_isHere_104 (by decide) ?_
          refine vv_sub [(0, _), (1, _), (2, _), (3, _)] (sh_subm [1, 2, 3, 0] rfl) ?_
          exact ih_76 hG hr1 h
        · rw [if_neg c34] at h
          refine vv_iconst 99 dX12_isHere_99 ik_0 ?_
          obtain ⟨e1, e2⟩ := sh_some2 h
          refine vv_zret 100 dX12_isHere_100 rfl rfl (Nat.le_refl _) (Nat.le_refl _) ⟨by rw [e1], e2⟩
theorem gp_X12_isHere {g : Nat} {n : Nat} {μ μ' : sh_Mem} {v : Int32} (hG : sh_G μ) (hg : sh_LAY[g]? = some (15, n)) (h : f_X12_isHere g n μ = some (v, μ')) : sh_G μ' := by
  have ih_35 := (gpl_X12_isHere sh_fuel).1
  have ih_76 := (gpl_X12_isHere sh_fuel).2
  unfold f_X12_isHere at h
  by_cases c35 : (sh_i μ 291 5) = 0
  · rw [if_pos c35] at h
    obtain ⟨y38, μ36, hr37, h⟩ := sh_bind_e h
    have hG36 := gp_X12_look hG hr37
    by_cases c39 : (f_X12_isLetter μ36 y38) = 0
    · rw [if_pos c39] at h
      obtain ⟨e1, e2⟩ := sh_some2 h
      exact e2 ▸ hG36
    · rw [if_neg c39] at h
      by_cases c40 : (sh_i μ36 291 2) = (sh_i μ36 291 4)
      · rw [if_pos c40] at h
        obtain ⟨e1, e2⟩ := sh_some2 h
        exact e2 ▸ hG36
      · rw [if_neg c40] at h
        obtain ⟨x41, ex41⟩ : ∃ y : Int32, y = (sh_i μ36 291 2) := ⟨_, rfl⟩
        rw [sh_let_eq ex41] at h
        exact ih_35 hG36 hg h
  · rw [if_neg c35] at h
    obtain ⟨e1, e2⟩ := sh_some2 h
    exact e2 ▸ hG
theorem t_X12_isHere {g : Nat} {n : Nat} {μ μ' : sh_Mem} {v : Int32} (hG : sh_G μ) (hg : sh_LAY[g]? = some (15, n)) (h : f_X12_isHere g n μ = some (v, μ')) : sh_C0 l B D ca 2 M_X12_isHere [.ref 291, .ref g] μ (fun v0 μ0 => v0 = some (.int v) ∧ μ0 = μ') := by
  have ih_35 := (tl_X12_isHere (l := l) (B := B) (D := D) (ca := ca) sh_fuel).1
  have ih_76 := (tl_X12_isHere (l := l) (B := B) (D := D) (ca := ca) sh_fuel).2
  unfold f_X12_isHere at h
  refine vv_aload_n 0 0 dX12_isHere_0 rfl rfl ?_
  refine vv_getI 1 dX12_isHere_1 fl_12_253 rfl (g_l_291 hG) ?_
  refine vv_if_ne 4 28 dX12_isHere_4 (by decide) (fun c35 => ?_) (fun c35 => ?_)
  · rw [if_neg c35] at h
    refine vv_iconst 28 dX12_isHere_28 ik_0 ?_
    obtain ⟨e1, e2⟩ := sh_some2 h
    refine vv_zret 29 dX12_isHere_29 rfl rfl (Nat.le_refl _) (Nat.le_refl _) ⟨by rw [e1], e2⟩
  · rw [if_pos c35] at h
    refine vv_aload_n 7 0 dX12_isHere_7 rfl rfl ?_
    obtain ⟨y38, μ36, hr37, h⟩ := sh_bind_e h
    refine v1_callV [] 8 dX12_isHere_8 ck_X12_265 (g_l_291 hG) ⟨by decide, rfl⟩ (t_X12_look hG hr37) (Nat.le_of_ble_eq_true rfl) ⟨Nat.le_of_ble_eq_true rfl, Nat.le_of_ble_eq_true rfl⟩ rfl (Nat.le_of_ble_eq_true rfl) ?_
    have hG36 := gp_X12_look hG hr37
    refine v1_callS [_] 11 dX12_isHere_11 ck_X12_269 (c_X12_isLetter (μ := μ36) hG36) (Nat.le_of_ble_eq_true rfl) ⟨Nat.le_of_ble_eq_true rfl, Nat.le_of_ble_eq_true rfl⟩ rfl (Nat.le_of_ble_eq_true rfl) ?_
    refine vv_if_eq 14 28 dX12_isHere_14 (by decide) (fun c39 => ?_) (fun c39 => ?_)
    · rw [if_pos c39] at h
      refine vv_iconst 28 dX12_isHere_28 ik_0 ?_
      obtain ⟨e1, e2⟩ := sh_some2 h
      refine vv_zret 29 dX12_isHere_29 rfl rfl (Nat.le_refl _) (Nat.le_refl _) ⟨by rw [e1], e2⟩
    · rw [if_neg c39] at h
      refine vv_aload_n 17 0 dX12_isHere_17 rfl rfl ?_
      refine vv_getI 18 dX12_isHere_18 fl_12_259 rfl (g_l_291 hG36) ?_
      refine vv_aload_n 21 0 dX12_isHere_21 rfl rfl ?_
      refine vv_getI 22 dX12_isHere_22 fl_12_273 rfl (g_l_291 hG36) ?_
      refine vv_icmp_ne 25 30 dX12_isHere_25 (by decide) (fun c40 => ?_) (fun c40 => ?_)
      · rw [if_neg c40] at h
        refine vv_aload_n 30 0 dX12_isHere_30 rfl rfl ?_
        refine vv_getI 31 dX12_isHere_31 fl_12_259 rfl (g_l_291 hG36) ?_
        refine vv_topi (fun x41 ex41 => ?_)
        rw [sh_let_eq ex41] at h
        refine vv_istore_n (lv' := [(2, _), (0, _), (1, _)]) 34 2 dX12_isHere_34 rfl (by decide) rfl ?_
        refine vv_sub [(0, _), (1, _), (2, _)] (sh_subm [1, 2, 0] rfl) ?_
        exact ih_35 hG36 hg h
      · rw [if_pos c40] at h
        refine vv_iconst 28 dX12_isHere_28 ik_0 ?_
        obtain ⟨e1, e2⟩ := sh_some2 h
        refine vv_zret 29 dX12_isHere_29 rfl rfl (Nat.le_refl _) (Nat.le_refl _) ⟨by rw [e1], e2⟩
noncomputable def f_X12_takes (g : Nat) (n : Nat) (μ : sh_Mem) : Option (Int32 × sh_Mem) := sh_bind (f_X12_isHere g n μ) (fun y3 μ1 => (if y3 = 0 then some (0, μ1) else sh_let (sh_setI μ1 291 2 ((sh_i μ1 291 2) + (Int32.ofNat n))) (fun μ5 => sh_let (sh_setI μ5 291 4 (sh_i μ5 291 2)) (fun μ6 => some (1, μ6)))))
theorem gp_X12_takes {g : Nat} {n : Nat} {μ μ' : sh_Mem} {v : Int32} (hG : sh_G μ) (hg : sh_LAY[g]? = some (15, n)) (h : f_X12_takes g n μ = some (v, μ')) : sh_G μ' := by
  unfold f_X12_takes at h
  obtain ⟨y3, μ1, hr2, h⟩ := sh_bind_e h
  have hG1 := gp_X12_isHere hG hg hr2
  by_cases c4 : y3 = 0
  · rw [if_pos c4] at h
    obtain ⟨e1, e2⟩ := sh_some2 h
    exact e2 ▸ hG1
  · rw [if_neg c4] at h
    obtain ⟨μ5, eμ5⟩ : ∃ y : sh_Mem, y = (sh_setI μ1 291 2 ((sh_i μ1 291 2) + (Int32.ofNat n))) := ⟨_, rfl⟩
    rw [sh_let_eq eμ5] at h
    have hG5 : sh_G μ5 := by rw [eμ5]; exact hG1
    obtain ⟨μ6, eμ6⟩ : ∃ y : sh_Mem, y = (sh_setI μ5 291 4 (sh_i μ5 291 2)) := ⟨_, rfl⟩
    rw [sh_let_eq eμ6] at h
    have hG6 : sh_G μ6 := by rw [eμ6]; exact hG5
    obtain ⟨e1, e2⟩ := sh_some2 h
    exact e2 ▸ hG6
theorem t_X12_takes {g : Nat} {n : Nat} {μ μ' : sh_Mem} {v : Int32} (hG : sh_G μ) (hg : sh_LAY[g]? = some (15, n)) (h : f_X12_takes g n μ = some (v, μ')) : sh_C0 l B D ca 3 M_X12_takes [.ref 291, .ref g] μ (fun v0 μ0 => v0 = some (.int v) ∧ μ0 = μ') := by
  unfold f_X12_takes at h
  refine vv_aload_n 0 0 dX12_takes_0 rfl rfl ?_
  refine vv_aload_n 1 1 dX12_takes_1 rfl rfl ?_
  obtain ⟨y3, μ1, hr2, h⟩ := sh_bind_e h
  refine v1_callV [_] 2 dX12_takes_2 ck_X12_276 (g_l_291 hG) ⟨by decide, rfl⟩ (t_X12_isHere hG hg hr2) (Nat.le_of_ble_eq_true rfl) ⟨Nat.le_of_ble_eq_true rfl, Nat.le_of_ble_eq_true rfl⟩ rfl (Nat.le_of_ble_eq_true rfl) ?_
  have hG1 := gp_X12_isHere hG hg hr2
  refine vv_if_ne 5 10 dX12_takes_5 (by decide) (fun c4 => ?_) (fun c4 => ?_)
  · rw [if_neg c4] at h
    refine vv_aload_n 10 0 dX12_takes_10 rfl rfl ?_
    refine vv_dup_ref 11 dX12_takes_11 ?_
    refine vv_getI 12 dX12_takes_12 fl_12_259 rfl (g_l_291 hG1) ?_
    refine vv_aload_n 15 1 dX12_takes_15 rfl rfl ?_
    refine vv_alen 16 dX12_takes_16 (gA_l hG1 hg) (by decide) ?_
    refine vv_iadd 17 dX12_takes_17 ?_
    refine vn_putI 18 dX12_takes_18 fl_12_259 (Or.inl rfl) rfl (g_l_291 hG1) (fun μ5 eμ5 => ?_)
    rw [sh_let_eq eμ5] at h
    have hG5 : sh_G μ5 := by rw [eμ5]; exact hG1
    refine vv_aload_n 21 0 dX12_takes_21 rfl rfl ?_
    refine vv_aload_n 22 0 dX12_takes_22 rfl rfl ?_
    refine vv_getI 23 dX12_takes_23 fl_12_259 rfl (g_l_291 hG5) ?_
    refine vn_putI 26 dX12_takes_26 fl_12_273 (Or.inl rfl) rfl (g_l_291 hG5) (fun μ6 eμ6 => ?_)
    rw [sh_let_eq eμ6] at h
    have hG6 : sh_G μ6 := by rw [eμ6]; exact hG5
    refine vv_iconst 29 dX12_takes_29 ik_1 ?_
    obtain ⟨e1, e2⟩ := sh_some2 h
    refine vv_zret 30 dX12_takes_30 rfl rfl (Nat.le_refl _) (Nat.le_refl _) ⟨by rw [e1], e2⟩
  · rw [if_pos c4] at h
    refine vv_iconst 8 dX12_takes_8 ik_0 ?_
    obtain ⟨e1, e2⟩ := sh_some2 h
    refine vv_zret 9 dX12_takes_9 rfl rfl (Nat.le_refl _) (Nat.le_refl _) ⟨by rw [e1], e2⟩
noncomputable def f_X12_needs (g : Nat) (n : Nat) (μ : sh_Mem) : Option sh_Mem := (if (sh_i μ 291 5) = 0 then sh_bind (f_X12_takes g n μ) (fun y4 μ2 => (if y4 = 0 then sh_bindv (f_X12_fail 1 (sh_i μ2 291 2) μ2) (fun μ6 => some μ6) else some μ2)) else some μ)
theorem gp_X12_needs {g : Nat} {n : Nat} {μ μ' : sh_Mem} (hG : sh_G μ) (hg : sh_LAY[g]? = some (15, n)) (h : f_X12_needs g n μ = some μ') : sh_G μ' := by
  unfold f_X12_needs at h
  by_cases c1 : (sh_i μ 291 5) = 0
  · rw [if_pos c1] at h
    obtain ⟨y4, μ2, hr3, h⟩ := sh_bind_e h
    have hG2 := gp_X12_takes hG hg hr3
    by_cases c5 : y4 = 0
    · rw [if_pos c5] at h
      obtain ⟨μ6, hr7, h⟩ := sh_bindv_e h
      have hG6 := gp_X12_fail hG2 hr7
      have e2 := Option.some.inj h
      exact e2 ▸ hG6
    · rw [if_neg c5] at h
      have e2 := Option.some.inj h
      exact e2 ▸ hG2
  · rw [if_neg c1] at h
    have e2 := Option.some.inj h
    exact e2 ▸ hG
theorem t_X12_needs {g : Nat} {n : Nat} {μ μ' : sh_Mem} (hG : sh_G μ) (hg : sh_LAY[g]? = some (15, n)) (h : f_X12_needs g n μ = some μ') : sh_C0 l B D ca 4 M_X12_needs [.ref 291, .ref g] μ (fun v0 μ0 => v0 = none ∧ μ0 = μ') := by
  unfold f_X12_needs at h
  refine vv_aload_n 0 0 dX12_needs_0 rfl rfl ?_
  refine vv_getI 1 dX12_needs_1 fl_12_253 rfl (g_l_291 hG) ?_
  refine vv_if_ne 4 24 dX12_needs_4 (by decide) (fun c1 => ?_) (fun c1 => ?_)
  · rw [if_neg c1] at h
    have e2 := Option.some.inj h
    refine vv_vret 24 dX12_needs_24 rfl (Nat.le_refl _) (Nat.le_refl _) ⟨rfl, e2⟩
  · rw [if_pos c1] at h
    refine vv_aload_n 7 0 dX12_needs_7 rfl rfl ?_
    refine vv_aload_n 8 1 dX12_needs_8 rfl rfl ?_
    obtain ⟨y4, μ2, hr3, h⟩ := sh_bind_e h
    refine v1_callV [_] 9 dX12_needs_9 ck_X12_280 (g_l_291 hG) ⟨by decide, rfl⟩ (t_X12_takes hG hg hr3) (Nat.le_of_ble_eq_true rfl) ⟨Nat.le_of_ble_eq_true rfl, Nat.le_of_ble_eq_true rfl⟩ rfl (Nat.le_of_ble_eq_true rfl) ?_
    have hG2 := gp_X12_takes hG hg hr3
    refine vv_if_ne 12 24 dX12_needs_12 (by decide) (fun c5 => ?_) (fun c5 => ?_)
    · rw [if_neg c5] at h
      have e2 := Option.some.inj h
      refine vv_vret 24 dX12_needs_24 rfl (Nat.le_refl _) (Nat.le_refl _) ⟨rfl, e2⟩
    · rw [if_pos c5] at h
      refine vv_aload_n 15 0 dX12_needs_15 rfl rfl ?_
      refine vv_iconst 16 dX12_needs_16 ik_1 ?_
      refine vv_aload_n 17 0 dX12_needs_17 rfl rfl ?_
      refine vv_getI 18 dX12_needs_18 fl_12_259 rfl (g_l_291 hG2) ?_
      obtain ⟨μ6, hr7, h⟩ := sh_bindv_e h
      refine v1_callV [_, _] 21 dX12_needs_21 ck_X12_283 (g_l_291 hG2) ⟨by decide, rfl⟩ (t_X12_fail hG2 hr7) (Nat.le_of_ble_eq_true rfl) ⟨Nat.le_of_ble_eq_true rfl, Nat.le_of_ble_eq_true rfl⟩ rfl (Nat.le_of_ble_eq_true rfl) ?_
      have hG6 := gp_X12_fail hG2 hr7
      have e2 := Option.some.inj h
      refine vv_vret 24 dX12_needs_24 rfl (Nat.le_refl _) (Nat.le_refl _) ⟨rfl, e2⟩
noncomputable def f_X12_takesSign (a1 : Int32) (μ : sh_Mem) : Option (Int32 × sh_Mem) := (if (sh_i μ 291 5) = 0 then sh_bind (f_X12_look μ) (fun y4 μ2 => (if y4 = a1 then sh_let (sh_setI μ2 291 2 ((sh_i μ2 291 2) + 1)) (fun μ6 => some (1, μ6)) else some (0, μ2))) else some (0, μ))
theorem gp_X12_takesSign {a1 : Int32} {μ μ' : sh_Mem} {v : Int32} (hG : sh_G μ) (h : f_X12_takesSign a1 μ = some (v, μ')) : sh_G μ' := by
  unfold f_X12_takesSign at h
  by_cases c1 : (sh_i μ 291 5) = 0
  · rw [if_pos c1] at h
    obtain ⟨y4, μ2, hr3, h⟩ := sh_bind_e h
    have hG2 := gp_X12_look hG hr3
    by_cases c5 : y4 = a1
    · rw [if_pos c5] at h
      obtain ⟨μ6, eμ6⟩ : ∃ y : sh_Mem, y = (sh_setI μ2 291 2 ((sh_i μ2 291 2) + 1)) := ⟨_, rfl⟩
      rw [sh_let_eq eμ6] at h
      have hG6 : sh_G μ6 := by rw [eμ6]; exact hG2
      obtain ⟨e1, e2⟩ := sh_some2 h
      exact e2 ▸ hG6
    · rw [if_neg c5] at h
      obtain ⟨e1, e2⟩ := sh_some2 h
      exact e2 ▸ hG2
  · rw [if_neg c1] at h
    obtain ⟨e1, e2⟩ := sh_some2 h
    exact e2 ▸ hG
theorem t_X12_takesSign {a1 : Int32} {μ μ' : sh_Mem} {v : Int32} (hG : sh_G μ) (h : f_X12_takesSign a1 μ = some (v, μ')) : sh_C0 l B D ca 2 M_X12_takesSign [.ref 291, .int a1] μ (fun v0 μ0 => v0 = some (.int v) ∧ μ0 = μ') := by
  unfold f_X12_takesSign at h
  refine vv_aload_n 0 0 dX12_takesSign_0 rfl rfl ?_
  refine vv_getI 1 dX12_takesSign_1 fl_12_253 rfl (g_l_291 hG) ?_
  refine vv_if_ne 4 15 dX12_takesSign_4 (by decide) (fun c1 => ?_) (fun c1 => ?_)
  · rw [if_neg c1] at h
    refine vv_iconst 15 dX12_takesSign_15 ik_0 ?_
    obtain ⟨e1, e2⟩ := sh_some2 h
    refine vv_zret 16 dX12_takesSign_16 rfl rfl (Nat.le_refl _) (Nat.le_refl _) ⟨by rw [e1], e2⟩
  · rw [if_pos c1] at h
    refine vv_aload_n 7 0 dX12_takesSign_7 rfl rfl ?_
    obtain ⟨y4, μ2, hr3, h⟩ := sh_bind_e h
    refine v1_callV [] 8 dX12_takesSign_8 ck_X12_265 (g_l_291 hG) ⟨by decide, rfl⟩ (t_X12_look hG hr3) (Nat.le_of_ble_eq_true rfl) ⟨Nat.le_of_ble_eq_true rfl, Nat.le_of_ble_eq_true rfl⟩ rfl (Nat.le_of_ble_eq_true rfl) ?_
    have hG2 := gp_X12_look hG hr3
    refine vv_iload_n 11 1 dX12_takesSign_11 rfl rfl ?_
    refine vv_icmp_eq 12 17 dX12_takesSign_12 (by decide) (fun c5 => ?_) (fun c5 => ?_)
    · rw [if_pos c5] at h
      refine vv_aload_n 17 0 dX12_takesSign_17 rfl rfl ?_
      refine vv_dup_ref 18 dX12_takesSign_18 ?_
      refine vv_getI 19 dX12_takesSign_19 fl_12_259 rfl (g_l_291 hG2) ?_
      refine vv_iconst 22 dX12_takesSign_22 ik_1 ?_
      refine vv_iadd 23 dX12_takesSign_23 ?_
      refine vn_putI 24 dX12_takesSign_24 fl_12_259 (Or.inl rfl) rfl (g_l_291 hG2) (fun μ6 eμ6 => ?_)
      rw [sh_let_eq eμ6] at h
      have hG6 : sh_G μ6 := by rw [eμ6]; exact hG2
      refine vv_iconst 27 dX12_takesSign_27 ik_1 ?_
      obtain ⟨e1, e2⟩ := sh_some2 h
      refine vv_zret 28 dX12_takesSign_28 rfl rfl (Nat.le_refl _) (Nat.le_refl _) ⟨by rw [e1], e2⟩
    · rw [if_neg c5] at h
      refine vv_iconst 15 dX12_takesSign_15 ik_0 ?_
      obtain ⟨e1, e2⟩ := sh_some2 h
      refine vv_zret 16 dX12_takesSign_16 rfl rfl (Nat.le_refl _) (Nat.le_refl _) ⟨by rw [e1], e2⟩
noncomputable def f_X12_asksSign (a1 : Int32) (μ : sh_Mem) : Option sh_Mem := (if (sh_i μ 291 5) = 0 then sh_bind (f_X12_takesSign a1 μ) (fun y4 μ2 => (if y4 = 0 then sh_bindv (f_X12_fail 1 (sh_i μ2 291 2) μ2) (fun μ6 => some μ6) else some μ2)) else some μ)
theorem gp_X12_asksSign {a1 : Int32} {μ μ' : sh_Mem} (hG : sh_G μ) (h : f_X12_asksSign a1 μ = some μ') : sh_G μ' := by
  unfold f_X12_asksSign at h
  by_cases c1 : (sh_i μ 291 5) = 0
  · rw [if_pos c1] at h
    obtain ⟨y4, μ2, hr3, h⟩ := sh_bind_e h
    have hG2 := gp_X12_takesSign hG hr3
    by_cases c5 : y4 = 0
    · rw [if_pos c5] at h
      obtain ⟨μ6, hr7, h⟩ := sh_bindv_e h
      have hG6 := gp_X12_fail hG2 hr7
      have e2 := Option.some.inj h
      exact e2 ▸ hG6
    · rw [if_neg c5] at h
      have e2 := Option.some.inj h
      exact e2 ▸ hG2
  · rw [if_neg c1] at h
    have e2 := Option.some.inj h
    exact e2 ▸ hG
theorem t_X12_asksSign {a1 : Int32} {μ μ' : sh_Mem} (hG : sh_G μ) (h : f_X12_asksSign a1 μ = some μ') : sh_C0 l B D ca 3 M_X12_asksSign [.ref 291, .int a1] μ (fun v0 μ0 => v0 = none ∧ μ0 = μ') := by
  unfold f_X12_asksSign at h
  refine vv_aload_n 0 0 dX12_asksSign_0 rfl rfl ?_
  refine vv_getI 1 dX12_asksSign_1 fl_12_253 rfl (g_l_291 hG) ?_
  refine vv_if_ne 4 24 dX12_asksSign_4 (by decide) (fun c1 => ?_) (fun c1 => ?_)
  · rw [if_neg c1] at h
    have e2 := Option.some.inj h
    refine vv_vret 24 dX12_asksSign_24 rfl (Nat.le_refl _) (Nat.le_refl _) ⟨rfl, e2⟩
  · rw [if_pos c1] at h
    refine vv_aload_n 7 0 dX12_asksSign_7 rfl rfl ?_
    refine vv_iload_n 8 1 dX12_asksSign_8 rfl rfl ?_
    obtain ⟨y4, μ2, hr3, h⟩ := sh_bind_e h
    refine v1_callV [_] 9 dX12_asksSign_9 ck_X12_287 (g_l_291 hG) ⟨by decide, rfl⟩ (t_X12_takesSign hG hr3) (Nat.le_of_ble_eq_true rfl) ⟨Nat.le_of_ble_eq_true rfl, Nat.le_of_ble_eq_true rfl⟩ rfl (Nat.le_of_ble_eq_true rfl) ?_
    have hG2 := gp_X12_takesSign hG hr3
    refine vv_if_ne 12 24 dX12_asksSign_12 (by decide) (fun c5 => ?_) (fun c5 => ?_)
    · rw [if_neg c5] at h
      have e2 := Option.some.inj h
      refine vv_vret 24 dX12_asksSign_24 rfl (Nat.le_refl _) (Nat.le_refl _) ⟨rfl, e2⟩
    · rw [if_pos c5] at h
      refine vv_aload_n 15 0 dX12_asksSign_15 rfl rfl ?_
      refine vv_iconst 16 dX12_asksSign_16 ik_1 ?_
      refine vv_aload_n 17 0 dX12_asksSign_17 rfl rfl ?_
      refine vv_getI 18 dX12_asksSign_18 fl_12_259 rfl (g_l_291 hG2) ?_
      obtain ⟨μ6, hr7, h⟩ := sh_bindv_e h
      refine v1_callV [_, _] 21 dX12_asksSign_21 ck_X12_283 (g_l_291 hG2) ⟨by decide, rfl⟩ (t_X12_fail hG2 hr7) (Nat.le_of_ble_eq_true rfl) ⟨Nat.le_of_ble_eq_true rfl, Nat.le_of_ble_eq_true rfl⟩ rfl (Nat.le_of_ble_eq_true rfl) ?_
      have hG6 := gp_X12_fail hG2 hr7
      have e2 := Option.some.inj h
      refine vv_vret 24 dX12_asksSign_24 rfl (Nat.le_refl _) (Nat.le_refl _) ⟨rfl, e2⟩
noncomputable def F_X12_number : Nat → Nat → Int32 → Int32 → Int32 → Int32 → sh_Mem → Option (Int32 × sh_Mem)
  | 0, _, _, _, _, _, _ => none
  | fuel + 1, lbl, i1, i2, i3, i4, μ => match lbl with
    | 1 => (if (sh_i μ 291 3) ≤ (sh_i μ 291 2) then sh_let (sh_setI μ 291 4 (sh_i μ 291 2)) (fun μ37 => sh_let (sh_setI μ37 291 10 i3) (fun μ38 => (if (f_X12_isIn μ38 (i4).toInt64 (i1).toInt64 (i2).toInt64) = 0 then sh_bindv (f_X12_fail 2 (sh_i μ38 291 10) μ38) (fun μ40 => some (i4, μ40)) else some (i4, μ38)))) else (if sh_in (sh_i μ 291 2) 1600 then (if (f_X12_isDigit μ (sh_i μ 292 ((sh_i μ 291 2)).toNatClampNeg)) = 0 then sh_let (sh_setI μ 291 4 (sh_i μ 291 2)) (fun μ45 => sh_let (sh_setI μ45 291 10 i3) (fun μ46 => (if (f_X12_isIn μ46 (i4).toInt64 (i1).toInt64 (i2).toInt64) = 0 then sh_bindv (f_X12_fail 2 (sh_i μ46 291 10) μ46) (fun μ48 => some (i4, μ48)) else some (i4, μ46)))) else (if ((sh_i μ 291 2) - i3) = 4 then sh_bindv (f_X12_fail 1 (sh_i μ 291 2) μ) (fun μ55 => some (0, μ55)) else (if sh_in (sh_i μ 291 2) 1600 then sh_let ((((10 * i4) + (sh_i μ 292 ((sh_i μ 291 2)).toNatClampNeg)) - 48) : Int32) (fun x53 => sh_let (sh_setI μ 291 2 ((sh_i μ 291 2) + 1)) (fun μ54 => F_X12_number fuel 1 i1 i2 i3 x53 μ54)) else none))) else none))
    | _ => none
noncomputable def f_X12_number (a1 : Int32) (a2 : Int32) (μ : sh_Mem) : Option (Int32 × sh_Mem) := (if (sh_i μ 291 5) = 0 then sh_bind (f_X12_look μ) (fun y61 μ59 => (if (f_X12_isDigit μ59 y61) = 0 then sh_bindv (f_X12_fail 1 (sh_i μ59 291 2) μ59) (fun μ63 => some (0, μ63)) else (if (sh_i μ59 291 2) = (sh_i μ59 291 4) then sh_bindv (f_X12_fail 1 (sh_i μ59 291 2) μ59) (fun μ68 => some (0, μ68)) else sh_let ((sh_i μ59 291 2) : Int32) (fun x67 => F_X12_number sh_fuel 1 a1 a2 x67 0 μ59)))) else some (0, μ))
theorem gpl_X12_number (fuel : Nat) : (∀ ⦃i1 : Int32⦄ ⦃i2 : Int32⦄ ⦃i3 : Int32⦄ ⦃i4 : Int32⦄ ⦃μ μ' : sh_Mem⦄ ⦃v : Int32⦄, sh_G μ → F_X12_number fuel 1 i1 i2 i3 i4 μ = some (v, μ') → sh_G μ') := by
  induction fuel with
  | zero => intro i1 i2 i3 i4 μ μ' v hG h; cases h
  | succ fuel ih =>
    have ih_49 := ih
    intro i1 i2 i3 i4 μ μ' v hG h
    replace h : ((if (sh_i μ 291 3) ≤ (sh_i μ 291 2) then sh_let (sh_setI μ 291 4 (sh_i μ 291 2)) (fun μ37 => sh_let (sh_setI μ37 291 10 i3) (fun μ38 => (if (f_X12_isIn μ38 (i4).toInt64 (i1).toInt64 (i2).toInt64) = 0 then sh_bindv (f_X12_fail 2 (sh_i μ38 291 10) μ38) (fun μ40 => some (i4, μ40)) else some (i4, μ38)))) else (if sh_in (sh_i μ 291 2) 1600 then (if (f_X12_isDigit μ (sh_i μ 292 ((sh_i μ 291 2)).toNatClampNeg)) = 0 then sh_let (sh_setI μ 291 4 (sh_i μ 291 2)) (fun μ45 => sh_let (sh_setI μ45 291 10 i3) (fun μ46 => (if (f_X12_isIn μ46 (i4).toInt64 (i1).toInt64 (i2).toInt64) = 0 then sh_bindv (f_X12_fail 2 (sh_i μ46 291 10) μ46) (fun μ48 => some (i4, μ48)) else some (i4, μ46)))) else (if ((sh_i μ 291 2) - i3) = 4 then sh_bindv (f_X12_fail 1 (sh_i μ 291 2) μ) (fun μ55 => some (0, μ55)) else (if sh_in (sh_i μ 291 2) 1600 then sh_let ((((10 * i4) + (sh_i μ 292 ((sh_i μ 291 2)).toNatClampNeg)) - 48) : Int32) (fun x53 => sh_let (sh_setI μ 291 2 ((sh_i μ 291 2) + 1)) (fun μ54 => F_X12_number fuel 1 i1 i2 i3 x53 μ54)) else none))) else none)) : Option (Int32 × sh_Mem)) = some (v, μ') := h
    by_cases c36 : (sh_i μ 291 3) ≤ (sh_i μ 291 2)
    · rw [if_pos c36] at h
      obtain ⟨μ37, eμ37⟩ : ∃ y : sh_Mem, y = (sh_setI μ 291 4 (sh_i μ 291 2)) := ⟨_, rfl⟩
      rw [sh_let_eq eμ37] at h
      have hG37 : sh_G μ37 := by rw [eμ37]; exact hG
      obtain ⟨μ38, eμ38⟩ : ∃ y : sh_Mem, y = (sh_setI μ37 291 10 i3) := ⟨_, rfl⟩
      rw [sh_let_eq eμ38] at h
      have hG38 : sh_G μ38 := by rw [eμ38]; exact hG37
      by_cases c39 : (f_X12_isIn μ38 (i4).toInt64 (i1).toInt64 (i2).toInt64) = 0
      · rw [if_pos c39] at h
        obtain ⟨μ40, hr41, h⟩ := sh_bindv_e h
        have hG40 := gp_X12_fail hG38 hr41
        obtain ⟨e1, e2⟩ := sh_some2 h
        exact e2 ▸ hG40
      · rw [if_neg c39] at h
        obtain ⟨e1, e2⟩ := sh_some2 h
        exact e2 ▸ hG38
    · rw [if_neg c36] at h
      obtain ⟨k43, h⟩ := sh_chk h
      by_cases c44 : (f_X12_isDigit μ (sh_i μ 292 ((sh_i μ 291 2)).toNatClampNeg)) = 0
      · rw [if_pos c44] at h
        obtain ⟨μ45, eμ45⟩ : ∃ y : sh_Mem, y = (sh_setI μ 291 4 (sh_i μ 291 2)) := ⟨_, rfl⟩
        rw [sh_let_eq eμ45] at h
        have hG45 : sh_G μ45 := by rw [eμ45]; exact hG
        obtain ⟨μ46, eμ46⟩ : ∃ y : sh_Mem, y = (sh_setI μ45 291 10 i3) := ⟨_, rfl⟩
        rw [sh_let_eq eμ46] at h
        have hG46 : sh_G μ46 := by rw [eμ46]; exact hG45
        by_cases c47 : (f_X12_isIn μ46 (i4).toInt64 (i1).toInt64 (i2).toInt64) = 0
        · rw [if_pos c47] at h
          obtain ⟨μ48, hr49, h⟩ := sh_bindv_e h
          have hG48 := gp_X12_fail hG46 hr49
          obtain ⟨e1, e2⟩ := sh_some2 h
          exact e2 ▸ hG48
        · rw [if_neg c47] at h
          obtain ⟨e1, e2⟩ := sh_some2 h
          exact e2 ▸ hG46
      · rw [if_neg c44] at h
        by_cases c51 : ((sh_i μ 291 2) - i3) = 4
        · rw [if_pos c51] at h
          obtain ⟨μ55, hr56, h⟩ := sh_bindv_e h
          have hG55 := gp_X12_fail hG hr56
          obtain ⟨e1, e2⟩ := sh_some2 h
          exact e2 ▸ hG55
        · rw [if_neg c51] at h
          obtain ⟨k52, h⟩ := sh_chk h
          obtain ⟨x53, ex53⟩ : ∃ y : Int32, y = (((10 * i4) + (sh_i μ 292 ((sh_i μ 291 2)).toNatClampNeg)) - 48) := ⟨_, rfl⟩
          rw [sh_let_eq ex53] at h
          obtain ⟨μ54, eμ54⟩ : ∃ y : sh_Mem, y = (sh_setI μ 291 2 ((sh_i μ 291 2) + 1)) := ⟨_, rfl⟩
          rw [sh_let_eq eμ54] at h
          have hG54 : sh_G μ54 := by rw [eμ54]; exact hG
          exact ih_49 hG54 h
theorem tl_X12_number (fuel : Nat) : (∀ ⦃i1 : Int32⦄ ⦃i2 : Int32⦄ ⦃i3 : Int32⦄ ⦃i4 : Int32⦄ ⦃μ μ' : sh_Mem⦄ ⦃v : Int32⦄, sh_G μ → F_X12_number fuel 1 i1 i2 i3 i4 μ = some (v, μ') → sh_V0 l B D ca 2 M_X12_number 49 [(0, .ref 291), (1, .int i1), (2, .int i2), (3, .int i3), (4, .int i4)] [] μ (fun v0 μ0 => v0 = some (.int v) ∧ μ0 = μ')) := by
  induction fuel with
  | zero => intro i1 i2 i3 i4 μ μ' v hG h; cases h
  | succ fuel ih =>
    have ih_49 := ih
    intro i1 i2 i3 i4 μ μ' v hG h
    replace h : ((if (sh_i μ 291 3) ≤ (sh_i μ 291 2) then sh_let (sh_setI μ 291 4 (sh_i μ 291 2)) (fun μ37 => sh_let (sh_setI μ37 291 10 i3) (fun μ38 => (if (f_X12_isIn μ38 (i4).toInt64 (i1).toInt64 (i2).toInt64) = 0 then sh_bindv (f_X12_fail 2 (sh_i μ38 291 10) μ38) (fun μ40 => some (i4, μ40)) else some (i4, μ38)))) else (if sh_in (sh_i μ 291 2) 1600 then (if (f_X12_isDigit μ (sh_i μ 292 ((sh_i μ 291 2)).toNatClampNeg)) = 0 then sh_let (sh_setI μ 291 4 (sh_i μ 291 2)) (fun μ45 => sh_let (sh_setI μ45 291 10 i3) (fun μ46 => (if (f_X12_isIn μ46 (i4).toInt64 (i1).toInt64 (i2).toInt64) = 0 then sh_bindv (f_X12_fail 2 (sh_i μ46 291 10) μ46) (fun μ48 => some (i4, μ48)) else some (i4, μ46)))) else (if ((sh_i μ 291 2) - i3) = 4 then sh_bindv (f_X12_fail 1 (sh_i μ 291 2) μ) (fun μ55 => some (0, μ55)) else (if sh_in (sh_i μ 291 2) 1600 then sh_let ((((10 * i4) + (sh_i μ 292 ((sh_i μ 291 2)).toNatClampNeg)) - 48) : Int32) (fun x53 => sh_let (sh_setI μ 291 2 ((sh_i μ 291 2) + 1)) (fun μ54 => F_X12_number fuel 1 i1 i2 i3 x53 μ54)) else none))) else none)) : Option (Int32 × sh_Mem)) = some (v, μ') := h
    refine vv_aload_n 49 0 dX12_number_49 rfl rfl ?_
    refine vv_getI 50 dX12_number_50 fl_12_259 rfl (g_l_291 hG) ?_
    refine vv_aload_n 53 0 dX12_number_53 rfl rfl ?_
    refine vv_getI 54 dX12_number_54 fl_12_262 rfl (g_l_291 hG) ?_
    refine vv_icmp_ge 57 129 dX12_number_57 (by decide) (fun c36 => ?_) (fun c36 => ?_)
    · rw [if_pos c36] at h
      refine vv_aload_n 129 0 dX12_number_129 rfl rfl ?_
      refine vv_aload_n 130 0 dX12_number_130 rfl rfl ?_
      refine vv_getI 131 dX12_number_131 fl_12_259 rfl (g_l_291 hG) ?_
      refine vn_putI 134 dX12_number_134 fl_12_273 (Or.inl rfl) rfl (g_l_291 hG) (fun μ37 eμ37 => ?_)
      rw [sh_let_eq eμ37] at h
      have hG37 : sh_G μ37 := by rw [eμ37]; exact hG
      refine vv_aload_n 137 0 dX12_number_137 rfl rfl ?_
      refine vv_iload_n 138 3 dX12_number_138 rfl rfl ?_
      refine vn_putI 139 dX12_number_139 fl_12_293 (Or.inl rfl) rfl (g_l_291 hG37) (fun μ38 eμ38 => ?_)
      rw [sh_let_eq eμ38] at h
      have hG38 : sh_G μ38 := by rw [eμ38]; exact hG37
      refine vv_iload 142 4 dX12_number_142 rfl ?_
      refine vv_i2l 144 dX12_number_144 ?_
      refine vv_iload_n 145 1 dX12_number_145 rfl rfl ?_
      refine vv_i2l 146 dX12_number_146 ?_
      refine vv_iload_n 147 2 dX12_number_147 rfl rfl ?_
      refine vv_i2l 148 dX12_number_148 ?_
      refine v1_callS [_, _, _] 149 dX12_number_149 ck_X12_296 (c_X12_isIn (μ := μ38) hG38) (Nat.le_of_ble_eq_true rfl) ⟨Nat.le_of_ble_eq_true rfl, Nat.le_of_ble_eq_true rfl⟩ rfl (Nat.le_of_ble_eq_true rfl) ?_
      refine vv_if_ne 152 164 dX12_number_152 (by decide) (fun c39 => ?_) (fun c39 => ?_)
      · rw [if_neg c39] at h
        refine vv_iload 164 4 dX12_number_164 rfl ?_
        obtain ⟨e1, e2⟩ := sh_some2 h
        refine vv_iret 166 dX12_number_166 rfl (Nat.le_refl _) (Nat.le_refl _) ⟨by rw [e1], e2⟩
      · rw [if_pos c39] at h
        refine vv_aload_n 155 0 dX12_number_155 rfl rfl ?_
        refine vv_iconst 156 dX12_number_156 ik_2 ?_
        refine vv_aload_n 157 0 dX12_number_157 rfl rfl ?_
        refine vv_getI 158 dX12_number_158 fl_12_293 rfl (g_l_291 hG38) ?_
        obtain ⟨μ40, hr41, h⟩ := sh_bindv_e h
        refine v1_callV [_, _] 161 dX12_number_161 ck_X12_283 (g_l_291 hG38) ⟨by decide, rfl⟩ (t_X12_fail hG38 hr41) (Nat.le_of_ble_eq_true rfl) ⟨Nat.le_of_ble_eq_true rfl, Nat.le_of_ble_eq_true rfl⟩ rfl (Nat.le_of_ble_eq_true rfl) ?_
        have hG40 := gp_X12_fail hG38 hr41
        refine vv_iload 164 4 dX12_number_164 rfl ?_
        obtain ⟨e1, e2⟩ := sh_some2 h
        refine vv_iret 166 dX12_number_166 rfl (Nat.le_refl _) (Nat.le_refl _) ⟨by rw [e1], e2⟩
    · rw [if_neg c36] at h
      refine vv_aload_n 60 0 dX12_number_60 rfl rfl ?_
      refine vv_getR 61 dX12_number_61 fl_12_7 rfl (g_l_291 hG) (g_r_291_0 hG) ?_
      refine vv_aload_n 64 0 dX12_number_64 rfl rfl ?_
      refine vv_getI 65 dX12_number_65 fl_12_259 rfl (g_l_291 hG) ?_
      obtain ⟨k43, h⟩ := sh_chk h
      refine vv_iald 68 dX12_number_68 (g_l_292 hG) k43 ?_
      refine v1_callS [_] 69 dX12_number_69 ck_X12_290 (c_X12_isDigit (μ := μ) hG) (Nat.le_of_ble_eq_true rfl) ⟨Nat.le_of_ble_eq_true rfl, Nat.le_of_ble_eq_true rfl⟩ rfl (Nat.le_of_ble_eq_true rfl) ?_
      refine vv_if_eq 72 129 dX12_number_72 (by decide) (fun c44 => ?_) (fun c44 => ?_)
      · rw [if_pos c44] at h
        refine vv_aload_n 129 0 dX12_number_129 rfl rfl ?_
        refine vv_aload_n 130 0 dX12_number_130 rfl rfl ?_
        refine vv_getI 131 dX12_number_131 fl_12_259 rfl (g_l_291 hG) ?_
        refine vn_putI 134 dX12_number_134 fl_12_273 (Or.inl rfl) rfl (g_l_291 hG) (fun μ45 eμ45 => ?_)
        rw [sh_let_eq eμ45] at h
        have hG45 : sh_G μ45 := by rw [eμ45]; exact hG
        refine vv_aload_n 137 0 dX12_number_137 rfl rfl ?_
        refine vv_iload_n 138 3 dX12_number_138 rfl rfl ?_
        refine vn_putI 139 dX12_number_139 fl_12_293 (Or.inl rfl) rfl (g_l_291 hG45) (fun μ46 eμ46 => ?_)
        rw [sh_let_eq eμ46] at h
        have hG46 : sh_G μ46 := by rw [eμ46]; exact hG45
        refine vv_iload 142 4 dX12_number_142 rfl ?_
        refine vv_i2l 144 dX12_number_144 ?_
        refine vv_iload_n 145 1 dX12_number_145 rfl rfl ?_
        refine vv_i2l 146 dX12_number_146 ?_
        refine vv_iload_n 147 2 dX12_number_147 rfl rfl ?_
        refine vv_i2l 148 dX12_number_148 ?_
        refine v1_callS [_, _, _] 149 dX12_number_149 ck_X12_296 (c_X12_isIn (μ := μ46) hG46) (Nat.le_of_ble_eq_true rfl) ⟨Nat.le_of_ble_eq_true rfl, Nat.le_of_ble_eq_true rfl⟩ rfl (Nat.le_of_ble_eq_true rfl) ?_
        refine vv_if_ne 152 164 dX12_number_152 (by decide) (fun c47 => ?_) (fun c47 => ?_)
        · rw [if_neg c47] at h
          refine vv_iload 164 4 dX12_number_164 rfl ?_
          obtain ⟨e1, e2⟩ := sh_some2 h
          refine vv_iret 166 dX12_number_166 rfl (Nat.le_refl _) (Nat.le_refl _) ⟨by rw [e1], e2⟩
        · rw [if_pos c47] at h
          refine vv_aload_n 155 0 dX12_number_155 rfl rfl ?_
          refine vv_iconst 156 dX12_number_156 ik_2 ?_
          refine vv_aload_n 157 0 dX12_number_157 rfl rfl ?_
          refine vv_getI 158 dX12_number_158 fl_12_293 rfl (g_l_291 hG46) ?_
          obtain ⟨μ48, hr49, h⟩ := sh_bindv_e h
          refine v1_callV [_, _] 161 dX12_number_161 ck_X12_283 (g_l_291 hG46) ⟨by decide, rfl⟩ (t_X12_fail hG46 hr49) (Nat.le_of_ble_eq_true rfl) ⟨Nat.le_of_ble_eq_true rfl, Nat.le_of_ble_eq_true rfl⟩ rfl (Nat.le_of_ble_eq_true rfl) ?_
          have hG48 := gp_X12_fail hG46 hr49
          refine vv_iload 164 4 dX12_number_164 rfl ?_
          obtain ⟨e1, e2⟩ := sh_some2 h
          refine vv_iret 166 dX12_number_166 rfl (Nat.le_refl _) (Nat.le_refl _) ⟨by rw [e1], e2⟩
      · rw [if_neg c44] at h
        refine vv_aload_n 75 0 dX12_number_75 rfl rfl ?_
        refine vv_getI 76 dX12_number_76 fl_12_259 rfl (g_l_291 hG) ?_
        refine vv_iload_n 79 3 dX12_number_79 rfl rfl ?_
        refine vv_isub 80 dX12_number_80 ?_
        refine vv_iconst 81 dX12_number_81 ik_4 ?_
        refine vv_icmp_ne 82 96 dX12_number_82 (by decide) (fun c51 => ?_) (fun c51 => ?_)
        · rw [if_neg c51] at h
          refine vv_bipush 96 dX12_number_96 bk_10 ?_
          refine vv_iload 98 4 dX12_number_98 rfl ?_
          refine vv_imul 100 dX12_number_100 ?_
          refine vv_aload_n 101 0 dX12_number_101 rfl rfl ?_
          refine vv_getR 102 dX12_number_102 fl_12_7 rfl (g_l_291 hG) (g_r_291_0 hG) ?_
          refine vv_aload_n 105 0 dX12_number_105 rfl rfl ?_
          refine vv_getI 106 dX12_number_106 fl_12_259 rfl (g_l_291 hG) ?_
          obtain ⟨k52, h⟩ := sh_chk h
          refine vv_iald 109 dX12_number_109 (g_l_292 hG) k52 ?_
          refine vv_iadd 110 dX12_number_110 ?_
          refine vv_bipush 111 dX12_number_111 bk_48 ?_
          refine vv_isub 113 dX12_number_113 ?_
          refine vv_topi (fun x53 ex53 => ?_)
          rw [sh_let_eq ex53] at h
          refine vv_istore (lv' := [(4, _), (0, _), (1, _), (2, _), (3, _)]) 114 4 dX12_number_114 (by decide) rfl ?_
          refine vv_aload_n 116 0 dX12_number_116 rfl rfl ?_
          refine vv_dup_ref 117 dX12_number_117 ?_
          refine vv_getI 118 dX12_number_118 fl_12_259 rfl (g_l_291 hG) ?_
          refine vv_iconst 121 dX12_number_121 ik_1 ?_
          refine vv_iadd 122 dX12_number_122 ?_
          refine vn_putI 123 dX12_number_123 fl_12_259 (Or.inl rfl) rfl (g_l_291 hG) (fun μ54 eμ54 => ?_)
          rw [sh_let_eq eμ54] at h
          have hG54 : sh_G μ54 := by rw [eμ54]; exact hG
          refine vv_goto 126 49 dX12_number_126 (by decide) ?_
          refine vv_sub [(0, _), (1, _), (2, _), (3, _), (4, _)] (sh_subm [1, 2, 3, 4, 0] rfl) ?_
          exact ih_49 hG54 h
        · rw [if_pos c51] at h
          refine vv_aload_n 85 0 dX12_number_85 rfl rfl ?_
          refine vv_iconst 86 dX12_number_86 ik_1 ?_
          refine vv_aload_n 87 0 dX12_number_87 rfl rfl ?_
          refine vv_getI 88 dX12_number_88 fl_12_259 rfl (g_l_291 hG) ?_
          obtain ⟨μ55, hr56, h⟩ := sh_bindv_e h
          refine v1_callV [_, _] 91 dX12_number_91 ck_X12_283 (g_l_291 hG) ⟨by decide, rfl⟩ (t_X12_fail hG hr56) (Nat.le_of_ble_eq_true rfl) ⟨Nat.le_of_ble_eq_true rfl, Nat.le_of_ble_eq_true rfl⟩ rfl (Nat.le_of_ble_eq_true rfl) ?_
          have hG55 := gp_X12_fail hG hr56
          refine vv_iconst 94 dX12_number_94 ik_0 ?_
          obtain ⟨e1, e2⟩ := sh_some2 h
          refine vv_iret 95 dX12_number_95 rfl (Nat.le_refl _) (Nat.le_refl _) ⟨by rw [e1], e2⟩
theorem gp_X12_number {a1 : Int32} {a2 : Int32} {μ μ' : sh_Mem} {v : Int32} (hG : sh_G μ) (h : f_X12_number a1 a2 μ = some (v, μ')) : sh_G μ' := by
  have ih_49 := (gpl_X12_number sh_fuel)
  unfold f_X12_number at h
  by_cases c58 : (sh_i μ 291 5) = 0
  · rw [if_pos c58] at h
    obtain ⟨y61, μ59, hr60, h⟩ := sh_bind_e h
    have hG59 := gp_X12_look hG hr60
    by_cases c62 : (f_X12_isDigit μ59 y61) = 0
    · rw [if_pos c62] at h
      obtain ⟨μ63, hr64, h⟩ := sh_bindv_e h
      have hG63 := gp_X12_fail hG59 hr64
      obtain ⟨e1, e2⟩ := sh_some2 h
      exact e2 ▸ hG63
    · rw [if_neg c62] at h
      by_cases c66 : (sh_i μ59 291 2) = (sh_i μ59 291 4)
      · rw [if_pos c66] at h
        obtain ⟨μ68, hr69, h⟩ := sh_bindv_e h
        have hG68 := gp_X12_fail hG59 hr69
        obtain ⟨e1, e2⟩ := sh_some2 h
        exact e2 ▸ hG68
      · rw [if_neg c66] at h
        obtain ⟨x67, ex67⟩ : ∃ y : Int32, y = (sh_i μ59 291 2) := ⟨_, rfl⟩
        rw [sh_let_eq ex67] at h
        exact ih_49 hG59 h
  · rw [if_neg c58] at h
    obtain ⟨e1, e2⟩ := sh_some2 h
    exact e2 ▸ hG
theorem t_X12_number {a1 : Int32} {a2 : Int32} {μ μ' : sh_Mem} {v : Int32} (hG : sh_G μ) (h : f_X12_number a1 a2 μ = some (v, μ')) : sh_C0 l B D ca 2 M_X12_number [.ref 291, .int a1, .int a2] μ (fun v0 μ0 => v0 = some (.int v) ∧ μ0 = μ') := by
  have ih_49 := (tl_X12_number (l := l) (B := B) (D := D) (ca := ca) sh_fuel)
  unfold f_X12_number at h
  refine vv_aload_n 0 0 dX12_number_0 rfl rfl ?_
  refine vv_getI 1 dX12_number_1 fl_12_253 rfl (g_l_291 hG) ?_
  refine vv_if_eq 4 9 dX12_number_4 (by decide) (fun c58 => ?_) (fun c58 => ?_)
  · rw [if_pos c58] at h
    refine vv_aload_n 9 0 dX12_number_9 rfl rfl ?_
    obtain ⟨y61, μ59, hr60, h⟩ := sh_bind_e h
    refine v1_callV [] 10 dX12_number_10 ck_X12_265 (g_l_291 hG) ⟨by decide, rfl⟩ (t_X12_look hG hr60) (Nat.le_of_ble_eq_true rfl) ⟨Nat.le_of_ble_eq_true rfl, Nat.le_of_ble_eq_true rfl⟩ rfl (Nat.le_of_ble_eq_true rfl) ?_
    have hG59 := gp_X12_look hG hr60
    refine v1_callS [_] 13 dX12_number_13 ck_X12_290 (c_X12_isDigit (μ := μ59) hG59) (Nat.le_of_ble_eq_true rfl) ⟨Nat.le_of_ble_eq_true rfl, Nat.le_of_ble_eq_true rfl⟩ rfl (Nat.le_of_ble_eq_true rfl) ?_
    refine vv_if_eq 16 30 dX12_number_16 (by decide) (fun c62 => ?_) (fun c62 => ?_)
    · rw [if_pos c62] at h
      refine vv_aload_n 30 0 dX12_number_30 rfl rfl ?_
      refine vv_iconst 31 dX12_number_31 ik_1 ?_
      refine vv_aload_n 32 0 dX12_number_32 rfl rfl ?_
      refine vv_getI 33 dX12_number_33 fl_12_259 rfl (g_l_291 hG59) ?_
      obtain ⟨μ63, hr64, h⟩ := sh_bindv_e h
      refine v1_callV [_, _] 36 dX12_number_36 ck_X12_283 (g_l_291 hG59) ⟨by decide, rfl⟩ (t_X12_fail hG59 hr64) (Nat.le_of_ble_eq_true rfl) ⟨Nat.le_of_ble_eq_true rfl, Nat.le_of_ble_eq_true rfl⟩ rfl (Nat.le_of_ble_eq_true rfl) ?_
      have hG63 := gp_X12_fail hG59 hr64
      refine vv_iconst 39 dX12_number_39 ik_0 ?_
      obtain ⟨e1, e2⟩ := sh_some2 h
      refine vv_iret 40 dX12_number_40 rfl (Nat.le_refl _) (Nat.le_refl _) ⟨by rw [e1], e2⟩
    · rw [if_neg c62] at h
      refine vv_aload_n 19 0 dX12_number_19 rfl rfl ?_
      refine vv_getI 20 dX12_number_20 fl_12_259 rfl (g_l_291 hG59) ?_
      refine vv_aload_n 23 0 dX12_number_23 rfl rfl ?_
      refine vv_getI 24 dX12_number_24 fl_12_273 rfl (g_l_291 hG59) ?_
      refine vv_icmp_ne 27 41 dX12_number_27 (by decide) (fun c66 => ?_) (fun c66 => ?_)
      · rw [if_neg c66] at h
        refine vv_aload_n 41 0 dX12_number_41 rfl rfl ?_
        refine vv_getI 42 dX12_number_42 fl_12_259 rfl (g_l_291 hG59) ?_
        refine vv_topi (fun x67 ex67 => ?_)
        rw [sh_let_eq ex67] at h
        refine vv_istore_n (lv' := [(3, _), (0, _), (1, _), (2, _)]) 45 3 dX12_number_45 rfl (by decide) rfl ?_
        refine vv_iconst 46 dX12_number_46 ik_0 ?_
        refine vv_istore (lv' := [(4, _), (3, _), (0, _), (1, _), (2, _)]) 47 4 dX12_number_47 (by decide) rfl ?_
        refine vv_sub [(0, _), (1, _), (2, _), (3, _), (4, _)] (sh_subm [2, 3, 4, 1, 0] rfl) ?_
        exact ih_49 hG59 h
      · rw [if_pos c66] at h
        refine vv_aload_n 30 0 dX12_number_30 rfl rfl ?_
        refine vv_iconst 31 dX12_number_31 ik_1 ?_
        refine vv_aload_n 32 0 dX12_number_32 rfl rfl ?_
        refine vv_getI 33 dX12_number_33 fl_12_259 rfl (g_l_291 hG59) ?_
        obtain ⟨μ68, hr69, h⟩ := sh_bindv_e h
        refine v1_callV [_, _] 36 dX12_number_36 ck_X12_283 (g_l_291 hG59) ⟨by decide, rfl⟩ (t_X12_fail hG59 hr69) (Nat.le_of_ble_eq_true rfl) ⟨Nat.le_of_ble_eq_true rfl, Nat.le_of_ble_eq_true rfl⟩ rfl (Nat.le_of_ble_eq_true rfl) ?_
        have hG68 := gp_X12_fail hG59 hr69
        refine vv_iconst 39 dX12_number_39 ik_0 ?_
        obtain ⟨e1, e2⟩ := sh_some2 h
        refine vv_iret 40 dX12_number_40 rfl (Nat.le_refl _) (Nat.le_refl _) ⟨by rw [e1], e2⟩
  · rw [if_neg c58] at h
    refine vv_iconst 7 dX12_number_7 ik_0 ?_
    obtain ⟨e1, e2⟩ := sh_some2 h
    refine vv_iret 8 dX12_number_8 rfl (Nat.le_refl _) (Nat.le_refl _) ⟨by rw [e1], e2⟩
noncomputable def F_X12_isOwnHere : Nat → Nat → Int32 → sh_Mem → Option (Int32 × sh_Mem)
  | 0, _, _, _ => none
  | fuel + 1, lbl, i1, μ => match lbl with
    | 1 => F_X12_isOwnHere fuel 2 1 μ
    | 2 => F_X12_isOwnHere fuel 3 1 μ
    | 3 => F_X12_isOwnHere fuel 4 1 μ
    | 4 => F_X12_isOwnHere fuel 5 1 μ
    | 5 => some (1, μ)
    | _ => none
noncomputable def f_X12_isOwnHere (μ : sh_Mem) : Option (Int32 × sh_Mem) := sh_bind (f_X12_isHere 294 5 μ) (fun y111 μ109 => (if y111 = 0 then sh_bind (f_X12_isHere 295 2 μ109) (fun y115 μ113 => (if y115 = 0 then sh_bind (f_X12_isHere 296 4 μ113) (fun y119 μ117 => (if y119 = 0 then sh_bind (f_X12_isHere 297 5 μ117) (fun y123 μ121 => (if y123 = 0 then sh_bind (f_X12_isHere 298 6 μ121) (fun y127 μ125 => (if y127 = 0 then sh_bind (f_X12_isHere 299 2 μ125) (fun y131 μ129 => (if y131 = 0 then sh_bind (f_X12_isHere 300 5 μ129) (fun y135 μ133 => (if y135 = 0 then sh_bind (f_X12_isHere 301 5 μ133) (fun y139 μ137 => (if y139 = 0 then sh_bind (f_X12_isHere 302 2 μ137) (fun y143 μ141 => (if y143 = 0 then sh_bind (f_X12_isHere 303 4 μ141) (fun y147 μ145 => (if y147 = 0 then sh_bind (f_X12_isHere 304 5 μ145) (fun y151 μ149 => (if y151 = 0 then sh_bind (f_X12_isHere 305 5 μ149) (fun y155 μ153 => (if y155 = 0 then sh_bind (f_X12_isHere 306 5 μ153) (fun y159 μ157 => (if y159 = 0 then sh_bind (f_X12_isHere 307 5 μ157) (fun y163 μ161 => (if y163 = 0 then sh_bind (f_X12_isHere 308 6 μ161) (fun y167 μ165 => (if y167 = 0 then sh_bind (f_X12_isHere 309 5 μ165) (fun y171 μ169 => (if y171 = 0 then sh_bind (f_X12_isHere 310 3 μ169) (fun y175 μ173 => (if y175 = 0 then sh_bind (f_X12_isHere 311 4 μ173) (fun y179 μ177 => (if y179 = 0 then sh_bind (f_X12_isHere 312 6 μ177) (fun y183 μ181 => (if y183 = 0 then sh_bind (f_X12_isHere 313 6 μ181) (fun y187 μ185 => (if y187 = 0 then sh_bind (f_X12_isHere 314 3 μ185) (fun y191 μ189 => (if y191 = 0 then sh_bind (f_X12_isHere 315 2 μ189) (fun y195 μ193 => (if y195 = 0 then sh_bind (f_X12_isHere 316 3 μ193) (fun y199 μ197 => (if y199 = 0 then sh_bind (f_X12_isHere 317 3 μ197) (fun y203 μ201 => (if y203 = 0 then sh_bind (f_X12_isHere 318 3 μ201) (fun y207 μ205 => (if y207 = 0 then sh_bind (f_X12_isHere 319 3 μ205) (fun y211 μ209 => (if y211 = 0 then sh_bind (f_X12_isHere 320 3 μ209) (fun y215 μ213 => (if y215 = 0 then some (0, μ213) else F_X12_isOwnHere sh_fuel 5 0 μ213)) else F_X12_isOwnHere sh_fuel 5 0 μ209)) else F_X12_isOwnHere sh_fuel 5 0 μ205)) else F_X12_isOwnHere sh_fuel 4 0 μ201)) else F_X12_isOwnHere sh_fuel 4 0 μ197)) else F_X12_isOwnHere sh_fuel 4 0 μ193)) else F_X12_isOwnHere sh_fuel 4 0 μ189)) else F_X12_isOwnHere sh_fuel 4 0 μ185)) else F_X12_isOwnHere sh_fuel 4 0 μ181)) else F_X12_isOwnHere sh_fuel 3 0 μ177)) else F_X12_isOwnHere sh_fuel 3 0 μ173)) else F_X12_isOwnHere sh_fuel 3 0 μ169)) else F_X12_isOwnHere sh_fuel 3 0 μ165)) else F_X12_isOwnHere sh_fuel 3 0 μ161)) else F_X12_isOwnHere sh_fuel 3 0 μ157)) else F_X12_isOwnHere sh_fuel 2 0 μ153)) else F_X12_isOwnHere sh_fuel 2 0 μ149)) else F_X12_isOwnHere sh_fuel 2 0 μ145)) else F_X12_isOwnHere sh_fuel 2 0 μ141)) else F_X12_isOwnHere sh_fuel 2 0 μ137)) else F_X12_isOwnHere sh_fuel 2 0 μ133)) else F_X12_isOwnHere sh_fuel 1 0 μ129)) else F_X12_isOwnHere sh_fuel 1 0 μ125)) else F_X12_isOwnHere sh_fuel 1 0 μ121)) else F_X12_isOwnHere sh_fuel 1 0 μ117)) else F_X12_isOwnHere sh_fuel 1 0 μ113)) else F_X12_isOwnHere sh_fuel 1 0 μ109))
theorem gpl_X12_isOwnHere (fuel : Nat) : (∀ ⦃i1 : Int32⦄ ⦃μ μ' : sh_Mem⦄ ⦃v : Int32⦄, sh_G μ → F_X12_isOwnHere fuel 1 i1 μ = some (v, μ') → sh_G μ') ∧ (∀ ⦃i1 : Int32⦄ ⦃μ μ' : sh_Mem⦄ ⦃v : Int32⦄, sh_G μ → F_X12_isOwnHere fuel 2 i1 μ = some (v, μ') → sh_G μ') ∧ (∀ ⦃i1 : Int32⦄ ⦃μ μ' : sh_Mem⦄ ⦃v : Int32⦄, sh_G μ → F_X12_isOwnHere fuel 3 i1 μ = some (v, μ') → sh_G μ') ∧ (∀ ⦃i1 : Int32⦄ ⦃μ μ' : sh_Mem⦄ ⦃v : Int32⦄, sh_G μ → F_X12_isOwnHere fuel 4 i1 μ = some (v, μ') → sh_G μ') ∧ (∀ ⦃i1 : Int32⦄ ⦃μ μ' : sh_Mem⦄ ⦃v : Int32⦄, sh_G μ → F_X12_isOwnHere fuel 5 i1 μ = some (v, μ') → sh_G μ') := by
  induction fuel with
  | zero => exact ⟨(by intro i1 μ μ' v hG h; cases h), (by intro i1 μ μ' v hG h; cases h), (by intro i1 μ μ' v hG h; cases h), (by intro i1 μ μ' v hG h; cases h), (by intro i1 μ μ' v hG h; cases h)⟩
  | succ fuel ih =>
    obtain ⟨ih_66, ih_142, ih_218, ih_294, ih_337⟩ := ih
    refine ⟨?_, ?_, ?_, ?_, ?_⟩
    · intro i1 μ μ' v hG h
      replace h : (F_X12_isOwnHere fuel 2 1 μ : Option (Int32 × sh_Mem)) = some (v, μ') := h
      exact ih_142 hG h
    · intro i1 μ μ' v hG h
      replace h : (F_X12_isOwnHere fuel 3 1 μ : Option (Int32 × sh_Mem)) = some (v, μ') := h
      exact ih_218 hG h
    · intro i1 μ μ' v hG h
      replace h : (F_X12_isOwnHere fuel 4 1 μ : Option (Int32 × sh_Mem)) = some (v, μ') := h
      exact ih_294 hG h
    · intro i1 μ μ' v hG h
      replace h : (F_X12_isOwnHere fuel 5 1 μ : Option (Int32 × sh_Mem)) = some (v, μ') := h
      exact ih_337 hG h
    · intro i1 μ μ' v hG h
      replace h : (some (1, μ) : Option (Int32 × sh_Mem)) = some (v, μ') := h
      obtain ⟨e1, e2⟩ := sh_some2 h
      exact e2 ▸ hG
theorem tl_X12_isOwnHere (fuel : Nat) : (∀ ⦃i1 : Int32⦄ ⦃μ μ' : sh_Mem⦄ ⦃v : Int32⦄, sh_G μ → F_X12_isOwnHere fuel 1 i1 μ = some (v, μ') → sh_V0 l B D ca 3 M_X12_isOwnHere 66 [(0, .ref 291)] [] μ (fun v0 μ0 => v0 = some (.int v) ∧ μ0 = μ')) ∧ (∀ ⦃i1 : Int32⦄ ⦃μ μ' : sh_Mem⦄ ⦃v : Int32⦄, sh_G μ → F_X12_isOwnHere fuel 2 i1 μ = some (v, μ') → sh_V0 l B D ca 3 M_X12_isOwnHere 142 [(0, .ref 291), (1, .int i1)] [] μ (fun v0 μ0 => v0 = some (.int v) ∧ μ0 = μ')) ∧ (∀ ⦃i1 : Int32⦄ ⦃μ μ' : sh_Mem⦄ ⦃v : Int32⦄, sh_G μ → F_X12_isOwnHere fuel 3 i1 μ = some (v, μ') → sh_V0 l B D ca 3 M_X12_isOwnHere 218 [(0, .ref 291), (1, .int i1)] [] μ (fun v0 μ0 => v0 = some (.int v) ∧ μ0 = μ')) ∧ (∀ ⦃i1 : Int32⦄ ⦃μ μ' : sh_Mem⦄ ⦃v : Int32⦄, sh_G μ → F_X12_isOwnHere fuel 4 i1 μ = some (v, μ') → sh_V0 l B D ca 3 M_X12_isOwnHere 294 [(0, .ref 291), (1, .int i1)] [] μ (fun v0 μ0 => v0 = some (.int v) ∧ μ0 = μ')) ∧ (∀ ⦃i1 : Int32⦄ ⦃μ μ' : sh_Mem⦄ ⦃v : Int32⦄, sh_G μ → F_X12_isOwnHere fuel 5 i1 μ = some (v, μ') → sh_V0 l B D ca 3 M_X12_isOwnHere 337 [(0, .ref 291), (1, .int i1)] [] μ (fun v0 μ0 => v0 = some (.int v) ∧ μ0 = μ')) := by
  induction fuel with
  | zero => exact ⟨(by intro i1 μ μ' v hG h; cases h), (by intro i1 μ μ' v hG h; cases h), (by intro i1 μ μ' v hG h; cases h), (by intro i1 μ μ' v hG h; cases h), (by intro i1 μ μ' v hG h; cases h)⟩
  | succ fuel ih =>
    obtain ⟨ih_66, ih_142, ih_218, ih_294, ih_337⟩ := ih
    refine ⟨?_, ?_, ?_, ?_, ?_⟩
    · intro i1 μ μ' v hG h
      replace h : (F_X12_isOwnHere fuel 2 1 μ : Option (Int32 × sh_Mem)) = some (v, μ') := h
      refine vv_iconst 66 dX12_isOwnHere_66 ik_1 ?_
      refine vv_goto 67 71 dX12_isOwnHere_67 (by decide) ?_
      refine vv_istore_n (lv' := [(1, _), (0, _)]) 71 1 dX12_isOwnHere_71 rfl (by decide) rfl ?_
      refine vv_iload_n 72 1 dX12_isOwnHere_72 rfl rfl ?_
      refine vv_if_ne 73 142 dX12_isOwnHere_73 (by decide) (fun _ => ?_) (fun hc => absurd hc (by decide))
      refine vv_sub [(0, _), (1, _)] (sh_subm [1, 0] rfl) ?_
      exact ih_142 hG h
    · intro i1 μ μ' v hG h
      replace h : (F_X12_isOwnHere fuel 3 1 μ : Option (Int32 × sh_Mem)) = some (v, μ') := h
      refine vv_iconst 142 dX12_isOwnHere_142 ik_1 ?_
      refine vv_goto 143 147 dX12_isOwnHere_143 (by decide) ?_
      refine vv_istore_n (lv' := [(1, _), (0, _)]) 147 1 dX12_isOwnHere_147 rfl (by decide) rfl ?_
      refine vv_iload_n 148 1 dX12_isOwnHere_148 rfl rfl ?_
      refine vv_if_ne 149 218 dX12_isOwnHere_149 (by decide) (fun _ => ?_) (fun hc => absurd hc (by decide))
      refine vv_sub [(0, _), (1, _)] (sh_subm [1, 0] rfl) ?_
      exact ih_218 hG h
    · intro i1 μ μ' v hG h
      replace h : (F_X12_isOwnHere fuel 4 1 μ : Option (Int32 × sh_Mem)) = some (v, μ') := h
      refine vv_iconst 218 dX12_isOwnHere_218 ik_1 ?_
      refine vv_goto 219 223 dX12_isOwnHere_219 (by decide) ?_
      refine vv_istore_n (lv' := [(1, _), (0, _)]) 223 1 dX12_isOwnHere_223 rfl (by decide) rfl ?_
      refine vv_iload_n 224 1 dX12_isOwnHere_224 rfl rfl ?_
      refine vv_if_ne 225 294 dX12_isOwnHere_225 (by decide) (fun _ => ?_) (fun hc => absurd hc (by decide))
      refine vv_sub [(0, _), (1, _)] (sh_subm [1, 0] rfl) ?_
      exact ih_294 hG h
    · intro i1 μ μ' v hG h
      replace h : (F_X12_isOwnHere fuel 5 1 μ : Option (Int32 × sh_Mem)) = some (v, μ') := h
      refine vv_iconst 294 dX12_isOwnHere_294 ik_1 ?_
      refine vv_goto 295 299 dX12_isOwnHere_295 (by decide) ?_
      refine vv_istore_n (lv' := [(1, _), (0, _)]) 299 1 dX12_isOwnHere_299 rfl (by decide) rfl ?_
      refine vv_iload_n 300 1 dX12_isOwnHere_300 rfl rfl ?_
      refine vv_if_ne 301 337 dX12_isOwnHere_301 (by decide) (fun _ => ?_) (fun hc => absurd hc (by decide))
      refine vv_sub [(0, _), (1, _)] (sh_subm [1, 0] rfl) ?_
      exact ih_337 hG h
    · intro i1 μ μ' v hG h
      replace h : (some (1, μ) : Option (Int32 × sh_Mem)) = some (v, μ') := h
      refine vv_iconst 337 dX12_isOwnHere_337 ik_1 ?_
      refine vv_goto 338 342 dX12_isOwnHere_338 (by decide) ?_
      refine vv_istore_n (lv' := [(1, _), (0, _)]) 342 1 dX12_isOwnHere_342 rfl (by decide) rfl ?_
      refine vv_iload_n 343 1 dX12_isOwnHere_343 rfl rfl ?_
      obtain ⟨e1, e2⟩ := sh_some2 h
      refine vv_zret 344 dX12_isOwnHere_344 rfl rfl (Nat.le_refl _) (Nat.le_refl _) ⟨by rw [e1], e2⟩
theorem gp_X12_isOwnHere {μ μ' : sh_Mem} {v : Int32} (hG : sh_G μ) (h : f_X12_isOwnHere μ = some (v, μ')) : sh_G μ' := by
  have ih_66 := (gpl_X12_isOwnHere sh_fuel).1
  have ih_142 := (gpl_X12_isOwnHere sh_fuel).2.1
  have ih_218 := (gpl_X12_isOwnHere sh_fuel).2.2.1
  have ih_294 := (gpl_X12_isOwnHere sh_fuel).2.2.2.1
  have ih_337 := (gpl_X12_isOwnHere sh_fuel).2.2.2.2
  unfold f_X12_isOwnHere at h
  obtain ⟨y111, μ109, hr110, h⟩ := sh_bind_e h
  have hG109 := gp_X12_isHere hG (sh_LAYat_294) hr110
  by_cases c112 : y111 = 0
  · rw [if_pos c112] at h
    obtain ⟨y115, μ113, hr114, h⟩ := sh_bind_e h
    have hG113 := gp_X12_isHere hG109 (sh_LAYat_295) hr114
    by_cases c116 : y115 = 0
    · rw [if_pos c116] at h
      obtain ⟨y119, μ117, hr118, h⟩ := sh_bind_e h
      have hG117 := gp_X12_isHere hG113 (sh_LAYat_296) hr118
      by_cases c120 : y119 = 0
      · rw [if_pos c120] at h
        obtain ⟨y123, μ121, hr122, h⟩ := sh_bind_e h
        have hG121 := gp_X12_isHere hG117 (sh_LAYat_297) hr122
        by_cases c124 : y123 = 0
        · rw [if_pos c124] at h
          obtain ⟨y127, μ125, hr126, h⟩ := sh_bind_e h
          have hG125 := gp_X12_isHere hG121 (sh_LAYat_298) hr126
          by_cases c128 : y127 = 0
          · rw [if_pos c128] at h
            obtain ⟨y131, μ129, hr130, h⟩ := sh_bind_e h
            have hG129 := gp_X12_isHere hG125 (sh_LAYat_299) hr130
            by_cases c132 : y131 = 0
            · rw [if_pos c132] at h
              obtain ⟨y135, μ133, hr134, h⟩ := sh_bind_e h
              have hG133 := gp_X12_isHere hG129 (sh_LAYat_300) hr134
              by_cases c136 : y135 = 0
              · rw [if_pos c136] at h
                obtain ⟨y139, μ137, hr138, h⟩ := sh_bind_e h
                have hG137 := gp_X12_isHere hG133 (sh_LAYat_301) hr138
                by_cases c140 : y139 = 0
                · rw [if_pos c140] at h
                  obtain ⟨y143, μ141, hr142, h⟩ := sh_bind_e h
                  have hG141 := gp_X12_isHere hG137 (sh_LAYat_302) hr142
                  by_cases c144 : y143 = 0
                  · rw [if_pos c144] at h
                    obtain ⟨y147, μ145, hr146, h⟩ := sh_bind_e h
                    have hG145 := gp_X12_isHere hG141 (sh_LAYat_303) hr146
                    by_cases c148 : y147 = 0
                    · rw [if_pos c148] at h
                      obtain ⟨y151, μ149, hr150, h⟩ := sh_bind_e h
                      have hG149 := gp_X12_isHere hG145 (sh_LAYat_304) hr150
                      by_cases c152 : y151 = 0
                      · rw [if_pos c152] at h
                        obtain ⟨y155, μ153, hr154, h⟩ := sh_bind_e h
                        have hG153 := gp_X12_isHere hG149 (sh_LAYat_305) hr154
                        by_cases c156 : y155 = 0
                        · rw [if_pos c156] at h
                          obtain ⟨y159, μ157, hr158, h⟩ := sh_bind_e h
                          have hG157 := gp_X12_isHere hG153 (sh_LAYat_306) hr158
                          by_cases c160 : y159 = 0
                          · rw [if_pos c160] at h
                            obtain ⟨y163, μ161, hr162, h⟩ := sh_bind_e h
                            have hG161 := gp_X12_isHere hG157 (sh_LAYat_307) hr162
                            by_cases c164 : y163 = 0
                            · rw [if_pos c164] at h
                              obtain ⟨y167, μ165, hr166, h⟩ := sh_bind_e h
                              have hG165 := gp_X12_isHere hG161 (sh_LAYat_308) hr166
                              by_cases c168 : y167 = 0
                              · rw [if_pos c168] at h
                                obtain ⟨y171, μ169, hr170, h⟩ := sh_bind_e h
                                have hG169 := gp_X12_isHere hG165 (sh_LAYat_309) hr170
                                by_cases c172 : y171 = 0
                                · rw [if_pos c172] at h
                                  obtain ⟨y175, μ173, hr174, h⟩ := sh_bind_e h
                                  have hG173 := gp_X12_isHere hG169 (sh_LAYat_310) hr174
                                  by_cases c176 : y175 = 0
                                  · rw [if_pos c176] at h
                                    obtain ⟨y179, μ177, hr178, h⟩ := sh_bind_e h
                                    have hG177 := gp_X12_isHere hG173 (sh_LAYat_311) hr178
                                    by_cases c180 : y179 = 0
                                    · rw [if_pos c180] at h
                                      obtain ⟨y183, μ181, hr182, h⟩ := sh_bind_e h
                                      have hG181 := gp_X12_isHere hG177 (sh_LAYat_312) hr182
                                      by_cases c184 : y183 = 0
                                      · rw [if_pos c184] at h
                                        obtain ⟨y187, μ185, hr186, h⟩ := sh_bind_e h
                                        have hG185 := gp_X12_isHere hG181 (sh_LAYat_313) hr186
                                        by_cases c188 : y187 = 0
                                        · rw [if_pos c188] at h
                                          obtain ⟨y191, μ189, hr190, h⟩ := sh_bind_e h
                                          have hG189 := gp_X12_isHere hG185 (sh_LAYat_314) hr190
                                          by_cases c192 : y191 = 0
                                          · rw [if_pos c192] at h
                                            obtain ⟨y195, μ193, hr194, h⟩ := sh_bind_e h
                                            have hG193 := gp_X12_isHere hG189 (sh_LAYat_315) hr194
                                            by_cases c196 : y195 = 0
                                            · rw [if_pos c196] at h
                                              obtain ⟨y199, μ197, hr198, h⟩ := sh_bind_e h
                                              have hG197 := gp_X12_isHere hG193 (sh_LAYat_316) hr198
                                              by_cases c200 : y199 = 0
                                              · rw [if_pos c200] at h
                                                obtain ⟨y203, μ201, hr202, h⟩ := sh_bind_e h
                                                have hG201 := gp_X12_isHere hG197 (sh_LAYat_317) hr202
                                                by_cases c204 : y203 = 0
                                                · rw [if_pos c204] at h
                                                  obtain ⟨y207, μ205, hr206, h⟩ := sh_bind_e h
                                                  have hG205 := gp_X12_isHere hG201 (sh_LAYat_318) hr206
                                                  by_cases c208 : y207 = 0
                                                  · rw [if_pos c208] at h
                                                    obtain ⟨y211, μ209, hr210, h⟩ := sh_bind_e h
                                                    have hG209 := gp_X12_isHere hG205 (sh_LAYat_319) hr210
                                                    by_cases c212 : y211 = 0
                                                    · rw [if_pos c212] at h
                                                      obtain ⟨y215, μ213, hr214, h⟩ := sh_bind_e h
                                                      have hG213 := gp_X12_isHere hG209 (sh_LAYat_320) hr214
                                                      by_cases c216 : y215 = 0
                                                      · rw [if_pos c216] at h
                                                        obtain ⟨e1, e2⟩ := sh_some2 h
                                                        exact e2 ▸ hG213
                                                      · rw [if_neg c216] at h
                                                        exact ih_337 hG213 h
                                                    · rw [if_neg c212] at h
                                                      exact ih_337 hG209 h
                                                  · rw [if_neg c208] at h
                                                    exact ih_337 hG205 h
                                                · rw [if_neg c204] at h
                                                  exact ih_294 hG201 h
                                              · rw [if_neg c200] at h
                                                exact ih_294 hG197 h
                                            · rw [if_neg c196] at h
                                              exact ih_294 hG193 h
                                          · rw [if_neg c192] at h
                                            exact ih_294 hG189 h
                                        · rw [if_neg c188] at h
                                          exact ih_294 hG185 h
                                      · rw [if_neg c184] at h
                                        exact ih_294 hG181 h
                                    · rw [if_neg c180] at h
                                      exact ih_218 hG177 h
                                  · rw [if_neg c176] at h
                                    exact ih_218 hG173 h
                                · rw [if_neg c172] at h
                                  exact ih_218 hG169 h
                              · rw [if_neg c168] at h
                                exact ih_218 hG165 h
                            · rw [if_neg c164] at h
                              exact ih_218 hG161 h
                          · rw [if_neg c160] at h
                            exact ih_218 hG157 h
                        · rw [if_neg c156] at h
                          exact ih_142 hG153 h
                      · rw [if_neg c152] at h
                        exact ih_142 hG149 h
                    · rw [if_neg c148] at h
                      exact ih_142 hG145 h
                  · rw [if_neg c144] at h
                    exact ih_142 hG141 h
                · rw [if_neg c140] at h
                  exact ih_142 hG137 h
              · rw [if_neg c136] at h
                exact ih_142 hG133 h
            · rw [if_neg c132] at h
              exact ih_66 hG129 h
          · rw [if_neg c128] at h
            exact ih_66 hG125 h
        · rw [if_neg c124] at h
          exact ih_66 hG121 h
      · rw [if_neg c120] at h
        exact ih_66 hG117 h
    · rw [if_neg c116] at h
      exact ih_66 hG113 h
  · rw [if_neg c112] at h
    exact ih_66 hG109 h
theorem t_X12_isOwnHere {μ μ' : sh_Mem} {v : Int32} (hG : sh_G μ) (h : f_X12_isOwnHere μ = some (v, μ')) : sh_C0 l B D ca 3 M_X12_isOwnHere [.ref 291] μ (fun v0 μ0 => v0 = some (.int v) ∧ μ0 = μ') := by
  have ih_66 := (tl_X12_isOwnHere (l := l) (B := B) (D := D) (ca := ca) sh_fuel).1
  have ih_142 := (tl_X12_isOwnHere (l := l) (B := B) (D := D) (ca := ca) sh_fuel).2.1
  have ih_218 := (tl_X12_isOwnHere (l := l) (B := B) (D := D) (ca := ca) sh_fuel).2.2.1
  have ih_294 := (tl_X12_isOwnHere (l := l) (B := B) (D := D) (ca := ca) sh_fuel).2.2.2.1
  have ih_337 := (tl_X12_isOwnHere (l := l) (B := B) (D := D) (ca := ca) sh_fuel).2.2.2.2
  unfold f_X12_isOwnHere at h
  refine vv_aload_n 0 0 dX12_isOwnHere_0 rfl rfl ?_
  refine vv_aload_n 1 0 dX12_isOwnHere_1 rfl rfl ?_
  refine vv_getR 2 dX12_isOwnHere_2 fl_12_20 rfl (g_l_291 hG) (g_r_291_11 hG) ?_
  obtain ⟨y111, μ109, hr110, h⟩ := sh_bind_e h
  refine v1_callV [_] 5 dX12_isOwnHere_5 ck_X12_276 (g_l_291 hG) ⟨by decide, rfl⟩ (t_X12_isHere hG (sh_LAYat_294) hr110) (Nat.le_of_ble_eq_true rfl) ⟨Nat.le_of_ble_eq_true rfl, Nat.le_of_ble_eq_true rfl⟩ rfl (Nat.le_of_ble_eq_true rfl) ?_
  have hG109 := gp_X12_isHere hG (sh_LAYat_294) hr110
  refine vv_if_ne 8 66 dX12_isOwnHere_8 (by decide) (fun c112 => ?_) (fun c112 => ?_)
  · rw [if_neg c112] at h
    refine vv_sub [(0, _)] (sh_subm [0] rfl) ?_
    exact ih_66 hG109 h
  · rw [if_pos c112] at h
    refine vv_aload_n 11 0 dX12_isOwnHere_11 rfl rfl ?_
    refine vv_aload_n 12 0 dX12_isOwnHere_12 rfl rfl ?_
    refine vv_getR 13 dX12_isOwnHere_13 fl_12_24 rfl (g_l_291 hG109) (g_r_291_12 hG109) ?_
    obtain ⟨y115, μ113, hr114, h⟩ := sh_bind_e h
    refine v1_callV [_] 16 dX12_isOwnHere_16 ck_X12_276 (g_l_291 hG109) ⟨by decide, rfl⟩ (t_X12_isHere hG109 (sh_LAYat_295) hr114) (Nat.le_of_ble_eq_true rfl) ⟨Nat.le_of_ble_eq_true rfl, Nat.le_of_ble_eq_true rfl⟩ rfl (Nat.le_of_ble_eq_true rfl) ?_
    have hG113 := gp_X12_isHere hG109 (sh_LAYat_295) hr114
    refine vv_if_ne 19 66 dX12_isOwnHere_19 (by decide) (fun c116 => ?_) (fun c116 => ?_)
    · rw [if_neg c116] at h
      refine vv_sub [(0, _)] (sh_subm [0] rfl) ?_
      exact ih_66 hG113 h
    · rw [if_pos c116] at h
      refine vv_aload_n 22 0 dX12_isOwnHere_22 rfl rfl ?_
      refine vv_aload_n 23 0 dX12_isOwnHere_23 rfl rfl ?_
      refine vv_getR 24 dX12_isOwnHere_24 fl_12_27 rfl (g_l_291 hG113) (g_r_291_13 hG113) ?_
      obtain ⟨y119, μ117, hr118, h⟩ := sh_bind_e h
      refine v1_callV [_] 27 dX12_isOwnHere_27 ck_X12_276 (g_l_291 hG113) ⟨by decide, rfl⟩ (t_X12_isHere hG113 (sh_LAYat_296) hr118) (Nat.le_of_ble_eq_true rfl) ⟨Nat.le_of_ble_eq_true rfl, Nat.le_of_ble_eq_true rfl⟩ rfl (Nat.le_of_ble_eq_true rfl) ?_
      have hG117 := gp_X12_isHere hG113 (sh_LAYat_296) hr118
      refine vv_if_ne 30 66 dX12_isOwnHere_30 (by decide) (fun c120 => ?_) (fun c120 => ?_)
      · rw [if_neg c120] at h
        refine vv_sub [(0, _)] (sh_subm [0] rfl) ?_
        exact ih_66 hG117 h
      · rw [if_pos c120] at h
        refine vv_aload_n 33 0 dX12_isOwnHere_33 rfl rfl ?_
        refine vv_aload_n 34 0 dX12_isOwnHere_34 rfl rfl ?_
        refine vv_getR 35 dX12_isOwnHere_35 fl_12_30 rfl (g_l_291 hG117) (g_r_291_14 hG117) ?_
        obtain ⟨y123, μ121, hr122, h⟩ := sh_bind_e h
        refine v1_callV [_] 38 dX12_isOwnHere_38 ck_X12_276 (g_l_291 hG117) ⟨by decide, rfl⟩ (t_X12_isHere hG117 (sh_LAYat_297) hr122) (Nat.le_of_ble_eq_true rfl) ⟨Nat.le_of_ble_eq_true rfl, Nat.le_of_ble_eq_true rfl⟩ rfl (Nat.le_of_ble_eq_true rfl) ?_
        have hG121 := gp_X12_isHere hG117 (sh_LAYat_297) hr122
        refine vv_if_ne 41 66 dX12_isOwnHere_41 (by decide) (fun c124 => ?_) (fun c124 => ?_)
        · rw [if_neg c124] at h
          refine vv_sub [(0, _)] (sh_subm [0] rfl) ?_
          exact ih_66 hG121 h
        · rw [if_pos c124] at h
          refine vv_aload_n 44 0 dX12_isOwnHere_44 rfl rfl ?_
          refine vv_aload_n 45 0 dX12_isOwnHere_45 rfl rfl ?_
          refine vv_getR 46 dX12_isOwnHere_46 fl_12_33 rfl (g_l_291 hG121) (g_r_291_15 hG121) ?_
          obtain ⟨y127, μ125, hr126, h⟩ := sh_bind_e h
          refine v1_callV [_] 49 dX12_isOwnHere_49 ck_X12_276 (g_l_291 hG121) ⟨by decide, rfl⟩ (t_X12_isHere hG121 (sh_LAYat_298) hr126) (Nat.le_of_ble_eq_true rfl) ⟨Nat.le_of_ble_eq_true rfl, Nat.le_of_ble_eq_true rfl⟩ rfl (Nat.le_of_ble_eq_true rfl) ?_
          have hG125 := gp_X12_isHere hG121 (sh_LAYat_298) hr126
          refine vv_if_ne 52 66 dX12_isOwnHere_52 (by decide) (fun c128 => ?_) (fun c128 => ?_)
          · rw [if_neg c128] at h
            refine vv_sub [(0, _)] (sh_subm [0] rfl) ?_
            exact ih_66 hG125 h
          · rw [if_pos c128] at h
            refine vv_aload_n 55 0 dX12_isOwnHere_55 rfl rfl ?_
            refine vv_aload_n 56 0 dX12_isOwnHere_56 rfl rfl ?_
            refine vv_getR 57 dX12_isOwnHere_57 fl_12_36 rfl (g_l_291 hG125) (g_r_291_16 hG125) ?_
            obtain ⟨y131, μ129, hr130, h⟩ := sh_bind_e h
            refine v1_callV [_] 60 dX12_isOwnHere_60 ck_X12_276 (g_l_291 hG125) ⟨by decide, rfl⟩ (t_X12_isHere hG125 (sh_LAYat_299) hr130) (Nat.le_of_ble_eq_true rfl) ⟨Nat.le_of_ble_eq_true rfl, Nat.le_of_ble_eq_true rfl⟩ rfl (Nat.le_of_ble_eq_true rfl) ?_
            have hG129 := gp_X12_isHere hG125 (sh_LAYat_299) hr130
            refine vv_if_eq 63 70 dX12_isOwnHere_63 (by decide) (fun c132 => ?_) (fun c132 => ?_)
            · rw [if_pos c132] at h
              refine vv_iconst 70 dX12_isOwnHere_70 ik_0 ?_
              refine vv_istore_n (lv' := [(1, _), (0, _)]) 71 1 dX12_isOwnHere_71 rfl (by decide) rfl ?_
              refine vv_iload_n 72 1 dX12_isOwnHere_72 rfl rfl ?_
              refine vv_if_ne 73 142 dX12_isOwnHere_73 (by decide) (fun hc => absurd (by decide) hc) (fun _ => ?_)
              refine vv_aload_n 76 0 dX12_isOwnHere_76 rfl rfl ?_
              refine vv_aload_n 77 0 dX12_isOwnHere_77 rfl rfl ?_
              refine vv_getR 78 dX12_isOwnHere_78 fl_12_39 rfl (g_l_291 hG129) (g_r_291_17 hG129) ?_
              obtain ⟨y135, μ133, hr134, h⟩ := sh_bind_e h
              refine v1_callV [_] 81 dX12_isOwnHere_81 ck_X12_276 (g_l_291 hG129) ⟨by decide, rfl⟩ (t_X12_isHere hG129 (sh_LAYat_300) hr134) (Nat.le_of_ble_eq_true rfl) ⟨Nat.le_of_ble_eq_true rfl, Nat.le_of_ble_eq_true rfl⟩ rfl (Nat.le_of_ble_eq_true rfl) ?_
              have hG133 := gp_X12_isHere hG129 (sh_LAYat_300) hr134
              refine vv_if_ne 84 142 dX12_isOwnHere_84 (by decide) (fun c136 => ?_) (fun c136 => ?_)
              · rw [if_neg c136] at h
                refine vv_sub [(0, _), (1, _)] (sh_subm [1, 0] rfl) ?_
                exact ih_142 hG133 h
              · rw [if_pos c136] at h
                refine vv_aload_n 87 0 dX12_isOwnHere_87 rfl rfl ?_
                refine vv_aload_n 88 0 dX12_isOwnHere_88 rfl rfl ?_
                refine vv_getR 89 dX12_isOwnHere_89 fl_12_42 rfl (g_l_291 hG133) (g_r_291_18 hG133) ?_
                obtain ⟨y139, μ137, hr138, h⟩ := sh_bind_e h
                refine v1_callV [_] 92 dX12_isOwnHere_92 ck_X12_276 (g_l_291 hG133) ⟨by decide, rfl⟩ (t_X12_isHere hG133 (sh_LAYat_301) hr138) (Nat.le_of_ble_eq_true rfl) ⟨Nat.le_of_ble_eq_true rfl, Nat.le_of_ble_eq_true rfl⟩ rfl (Nat.le_of_ble_eq_true rfl) ?_
                have hG137 := gp_X12_isHere hG133 (sh_LAYat_301) hr138
                refine vv_if_ne 95 142 dX12_isOwnHere_95 (by decide) (fun c140 => ?_) (fun c140 => ?_)
                · rw [if_neg c140] at h
                  refine vv_sub [(0, _), (1, _)] (sh_subm [1, 0] rfl) ?_
                  exact ih_142 hG137 h
                · rw [if_pos c140] at h
                  refine vv_aload_n 98 0 dX12_isOwnHere_98 rfl rfl ?_
                  refine vv_aload_n 99 0 dX12_isOwnHere_99 rfl rfl ?_
                  refine vv_getR 100 dX12_isOwnHere_100 fl_12_45 rfl (g_l_291 hG137) (g_r_291_19 hG137) ?_
                  obtain ⟨y143, μ141, hr142, h⟩ := sh_bind_e h
                  refine v1_callV [_] 103 dX12_isOwnHere_103 ck_X12_276 (g_l_291 hG137) ⟨by decide, rfl⟩ (t_X12_isHere hG137 (sh_LAYat_302) hr142) (Nat.le_of_ble_eq_true rfl) ⟨Nat.le_of_ble_eq_true rfl, Nat.le_of_ble_eq_true rfl⟩ rfl (Nat.le_of_ble_eq_true rfl) ?_
                  have hG141 := gp_X12_isHere hG137 (sh_LAYat_302) hr142
                  refine vv_if_ne 106 142 dX12_isOwnHere_106 (by decide) (fun c144 => ?_) (fun c144 => ?_)
                  · rw [if_neg c144] at h
                    refine vv_sub [(0, _), (1, _)] (sh_subm [1, 0] rfl) ?_
                    exact ih_142 hG141 h
                  · rw [if_pos c144] at h
                    refine vv_aload_n 109 0 dX12_isOwnHere_109 rfl rfl ?_
                    refine vv_aload_n 110 0 dX12_isOwnHere_110 rfl rfl ?_
                    refine vv_getR 111 dX12_isOwnHere_111 fl_12_48 rfl (g_l_291 hG141) (g_r_291_20 hG141) ?_
                    obtain ⟨y147, μ145, hr146, h⟩ := sh_bind_e h
                    refine v1_callV [_] 114 dX12_isOwnHere_114 ck_X12_276 (g_l_291 hG141) ⟨by decide, rfl⟩ (t_X12_isHere hG141 (sh_LAYat_303) hr146) (Nat.le_of_ble_eq_true rfl) ⟨Nat.le_of_ble_eq_true rfl, Nat.le_of_ble_eq_true rfl⟩ rfl (Nat.le_of_ble_eq_true rfl) ?_
                    have hG145 := gp_X12_isHere hG141 (sh_LAYat_303) hr146
                    refine vv_if_ne 117 142 dX12_isOwnHere_117 (by decide) (fun c148 => ?_) (fun c148 => ?_)
                    · rw [if_neg c148] at h
                      refine vv_sub [(0, _), (1, _)] (sh_subm [1, 0] rfl) ?_
                      exact ih_142 hG145 h
                    · rw [if_pos c148] at h
                      refine vv_aload_n 120 0 dX12_isOwnHere_120 rfl rfl ?_
                      refine vv_aload_n 121 0 dX12_isOwnHere_121 rfl rfl ?_
                      refine vv_getR 122 dX12_isOwnHere_122 fl_12_51 rfl (g_l_291 hG145) (g_r_291_21 hG145) ?_
                      obtain ⟨y151, μ149, hr150, h⟩ := sh_bind_e h
                      refine v1_callV [_] 125 dX12_isOwnHere_125 ck_X12_276 (g_l_291 hG145) ⟨by decide, rfl⟩ (t_X12_isHere hG145 (sh_LAYat_304) hr150) (Nat.le_of_ble_eq_true rfl) ⟨Nat.le_of_ble_eq_true rfl, Nat.le_of_ble_eq_true rfl⟩ rfl (Nat.le_of_ble_eq_true rfl) ?_
                      have hG149 := gp_X12_isHere hG145 (sh_LAYat_304) hr150
                      refine vv_if_ne 128 142 dX12_isOwnHere_128 (by decide) (fun c152 => ?_) (fun c152 => ?_)
                      · rw [if_neg c152] at h
                        refine vv_sub [(0, _), (1, _)] (sh_subm [1, 0] rfl) ?_
                        exact ih_142 hG149 h
                      · rw [if_pos c152] at h
                        refine vv_aload_n 131 0 dX12_isOwnHere_131 rfl rfl ?_
                        refine vv_aload_n 132 0 dX12_isOwnHere_132 rfl rfl ?_
                        refine vv_getR 133 dX12_isOwnHere_133 fl_12_54 rfl (g_l_291 hG149) (g_r_291_22 hG149) ?_
                        obtain ⟨y155, μ153, hr154, h⟩ := sh_bind_e h
                        refine v1_callV [_] 136 dX12_isOwnHere_136 ck_X12_276 (g_l_291 hG149) ⟨by decide, rfl⟩ (t_X12_isHere hG149 (sh_LAYat_305) hr154) (Nat.le_of_ble_eq_true rfl) ⟨Nat.le_of_ble_eq_true rfl, Nat.le_of_ble_eq_true rfl⟩ rfl (Nat.le_of_ble_eq_true rfl) ?_
                        have hG153 := gp_X12_isHere hG149 (sh_LAYat_305) hr154
                        refine vv_if_eq 139 146 dX12_isOwnHere_139 (by decide) (fun c156 => ?_) (fun c156 => ?_)
                        · rw [if_pos c156] at h
                          refine vv_iconst 146 dX12_isOwnHere_146 ik_0 ?_
                          refine vv_istore_n (lv' := [(1, _), (0, _)]) 147 1 dX12_isOwnHere_147 rfl (by decide) rfl ?_
                          refine vv_iload_n 148 1 dX12_isOwnHere_148 rfl rfl ?_
                          refine vv_if_ne 149 218 dX12_isOwnHere_149 (by decide) (fun hc => absurd (by decide) hc) (fun _ => ?_)
                          refine vv_aload_n 152 0 dX12_isOwnHere_152 rfl rfl ?_
                          refine vv_aload_n 153 0 dX12_isOwnHere_153 rfl rfl ?_
                          refine vv_getR 154 dX12_isOwnHere_154 fl_12_57 rfl (g_l_291 hG153) (g_r_291_23 hG153) ?_
                          obtain ⟨y159, μ157, hr158, h⟩ := sh_bind_e h
                          refine v1_callV [_] 157 dX12_isOwnHere_157 ck_X12_276 (g_l_291 hG153) ⟨by decide, rfl⟩ (t_X12_isHere hG153 (sh_LAYat_306) hr158) (Nat.le_of_ble_eq_true rfl) ⟨Nat.le_of_ble_eq_true rfl, Nat.le_of_ble_eq_true rfl⟩ rfl (Nat.le_of_ble_eq_true rfl) ?_
                          have hG157 := gp_X12_isHere hG153 (sh_LAYat_306) hr158
                          refine vv_if_ne 160 218 dX12_isOwnHere_160 (by decide) (fun c160 => ?_) (fun c160 => ?_)
                          · rw [if_neg c160] at h
                            refine vv_sub [(0, _), (1, _)] (sh_subm [1, 0] rfl) ?_
                            exact ih_218 hG157 h
                          · rw [if_pos c160] at h
                            refine vv_aload_n 163 0 dX12_isOwnHere_163 rfl rfl ?_
                            refine vv_aload_n 164 0 dX12_isOwnHere_164 rfl rfl ?_
                            refine vv_getR 165 dX12_isOwnHere_165 fl_12_60 rfl (g_l_291 hG157) (g_r_291_24 hG157) ?_
                            obtain ⟨y163, μ161, hr162, h⟩ := sh_bind_e h
                            refine v1_callV [_] 168 dX12_isOwnHere_168 ck_X12_276 (g_l_291 hG157) ⟨by decide, rfl⟩ (t_X12_isHere hG157 (sh_LAYat_307) hr162) (Nat.le_of_ble_eq_true rfl) ⟨Nat.le_of_ble_eq_true rfl, Nat.le_of_ble_eq_true rfl⟩ rfl (Nat.le_of_ble_eq_true rfl) ?_
                            have hG161 := gp_X12_isHere hG157 (sh_LAYat_307) hr162
                            refine vv_if_ne 171 218 dX12_isOwnHere_171 (by decide) (fun c164 => ?_) (fun c164 => ?_)
                            · rw [if_neg c164] at h
                              refine vv_sub [(0, _), (1, _)] (sh_subm [1, 0] rfl) ?_
                              exact ih_218 hG161 h
                            · rw [if_pos c164] at h
                              refine vv_aload_n 174 0 dX12_isOwnHere_174 rfl rfl ?_
                              refine vv_aload_n 175 0 dX12_isOwnHere_175 rfl rfl ?_
                              refine vv_getR 176 dX12_isOwnHere_176 fl_12_63 rfl (g_l_291 hG161) (g_r_291_25 hG161) ?_
                              obtain ⟨y167, μ165, hr166, h⟩ := sh_bind_e h
                              refine v1_callV [_] 179 dX12_isOwnHere_179 ck_X12_276 (g_l_291 hG161) ⟨by decide, rfl⟩ (t_X12_isHere hG161 (sh_LAYat_308) hr166) (Nat.le_of_ble_eq_true rfl) ⟨Nat.le_of_ble_eq_true rfl, Nat.le_of_ble_eq_true rfl⟩ rfl (Nat.le_of_ble_eq_true rfl) ?_
                              have hG165 := gp_X12_isHere hG161 (sh_LAYat_308) hr166
                              refine vv_if_ne 182 218 dX12_isOwnHere_182 (by decide) (fun c168 => ?_) (fun c168 => ?_)
                              · rw [if_neg c168] at h
                                refine vv_sub [(0, _), (1, _)] (sh_subm [1, 0] rfl) ?_
                                exact ih_218 hG165 h
                              · rw [if_pos c168] at h
                                refine vv_aload_n 185 0 dX12_isOwnHere_185 rfl rfl ?_
                                refine vv_aload_n 186 0 dX12_isOwnHere_186 rfl rfl ?_
                                refine vv_getR 187 dX12_isOwnHere_187 fl_12_66 rfl (g_l_291 hG165) (g_r_291_26 hG165) ?_
                                obtain ⟨y171, μ169, hr170, h⟩ := sh_bind_e h
                                refine v1_callV [_] 190 dX12_isOwnHere_190 ck_X12_276 (g_l_291 hG165) ⟨by decide, rfl⟩ (t_X12_isHere hG165 (sh_LAYat_309) hr170) (Nat.le_of_ble_eq_true rfl) ⟨Nat.le_of_ble_eq_true rfl, Nat.le_of_ble_eq_true rfl⟩ rfl (Nat.le_of_ble_eq_true rfl) ?_
                                have hG169 := gp_X12_isHere hG165 (sh_LAYat_309) hr170
                                refine vv_if_ne 193 218 dX12_isOwnHere_193 (by decide) (fun c172 => ?_) (fun c172 => ?_)
                                · rw [if_neg c172] at h
                                  refine vv_sub [(0, _), (1, _)] (sh_subm [1, 0] rfl) ?_
                                  exact ih_218 hG169 h
                                · rw [if_pos c172] at h
                                  refine vv_aload_n 196 0 dX12_isOwnHere_196 rfl rfl ?_
                                  refine vv_aload_n 197 0 dX12_isOwnHere_197 rfl rfl ?_
                                  refine vv_getR 198 dX12_isOwnHere_198 fl_12_69 rfl (g_l_291 hG169) (g_r_291_27 hG169) ?_
                                  obtain ⟨y175, μ173, hr174, h⟩ := sh_bind_e h
                                  refine v1_callV [_] 201 dX12_isOwnHere_201 ck_X12_276 (g_l_291 hG169) ⟨by decide, rfl⟩ (t_X12_isHere hG169 (sh_LAYat_310) hr174) (Nat.le_of_ble_eq_true rfl) ⟨Nat.le_of_ble_eq_true rfl, Nat.le_of_ble_eq_true rfl⟩ rfl (Nat.le_of_ble_eq_true rfl) ?_
                                  have hG173 := gp_X12_isHere hG169 (sh_LAYat_310) hr174
                                  refine vv_if_ne 204 218 dX12_isOwnHere_204 (by decide) (fun c176 => ?_) (fun c176 => ?_)
                                  · rw [if_neg c176] at h
                                    refine vv_sub [(0, _), (1, _)] (sh_subm [1, 0] rfl) ?_
                                    exact ih_218 hG173 h
                                  · rw [if_pos c176] at h
                                    refine vv_aload_n 207 0 dX12_isOwnHere_207 rfl rfl ?_
                                    refine vv_aload_n 208 0 dX12_isOwnHere_208 rfl rfl ?_
                                    refine vv_getR 209 dX12_isOwnHere_209 fl_12_72 rfl (g_l_291 hG173) (g_r_291_28 hG173) ?_
                                    obtain ⟨y179, μ177, hr178, h⟩ := sh_bind_e h
                                    refine v1_callV [_] 212 dX12_isOwnHere_212 ck_X12_276 (g_l_291 hG173) ⟨by decide, rfl⟩ (t_X12_isHere hG173 (sh_LAYat_311) hr178) (Nat.le_of_ble_eq_true rfl) ⟨Nat.le_of_ble_eq_true rfl, Nat.le_of_ble_eq_true rfl⟩ rfl (Nat.le_of_ble_eq_true rfl) ?_
                                    have hG177 := gp_X12_isHere hG173 (sh_LAYat_311) hr178
                                    refine vv_if_eq 215 222 dX12_isOwnHere_215 (by decide) (fun c180 => ?_) (fun c180 => ?_)
                                    · rw [if_pos c180] at h
                                      refine vv_iconst 222 dX12_isOwnHere_222 ik_0 ?_
                                      refine vv_istore_n (lv' := [(1, _), (0, _)]) 223 1 dX12_isOwnHere_223 rfl (by decide) rfl ?_
                                      refine vv_iload_n 224 1 dX12_isOwnHere_224 rfl rfl ?_
                                      refine vv_if_ne 225 294 dX12_isOwnHere_225 (by decide) (fun hc => absurd (by decide) hc) (fun _ => ?_)
                                      refine vv_aload_n 228 0 dX12_isOwnHere_228 rfl rfl ?_
                                      refine vv_aload_n 229 0 dX12_isOwnHere_229 rfl rfl ?_
                                      refine vv_getR 230 dX12_isOwnHere_230 fl_12_75 rfl (g_l_291 hG177) (g_r_291_29 hG177) ?_
                                      obtain ⟨y183, μ181, hr182, h⟩ := sh_bind_e h
                                      refine v1_callV [_] 233 dX12_isOwnHere_233 ck_X12_276 (g_l_291 hG177) ⟨by decide, rfl⟩ (t_X12_isHere hG177 (sh_LAYat_312) hr182) (Nat.le_of_ble_eq_true rfl) ⟨Nat.le_of_ble_eq_true rfl, Nat.le_of_ble_eq_true rfl⟩ rfl (Nat.le_of_ble_eq_true rfl) ?_
                                      have hG181 := gp_X12_isHere hG177 (sh_LAYat_312) hr182
                                      refine vv_if_ne 236 294 dX12_isOwnHere_236 (by decide) (fun c184 => ?_) (fun c184 => ?_)
                                      · rw [if_neg c184] at h
                                        refine vv_sub [(0, _), (1, _)] (sh_subm [1, 0] rfl) ?_
                                        exact ih_294 hG181 h
                                      · rw [if_pos c184] at h
                                        refine vv_aload_n 239 0 dX12_isOwnHere_239 rfl rfl ?_
                                        refine vv_aload_n 240 0 dX12_isOwnHere_240 rfl rfl ?_
                                        refine vv_getR 241 dX12_isOwnHere_241 fl_12_78 rfl (g_l_291 hG181) (g_r_291_30 hG181) ?_
                                        obtain ⟨y187, μ185, hr186, h⟩ := sh_bind_e h
                                        refine v1_callV [_] 244 dX12_isOwnHere_244 ck_X12_276 (g_l_291 hG181) ⟨by decide, rfl⟩ (t_X12_isHere hG181 (sh_LAYat_313) hr186) (Nat.le_of_ble_eq_true rfl) ⟨Nat.le_of_ble_eq_true rfl, Nat.le_of_ble_eq_true rfl⟩ rfl (Nat.le_of_ble_eq_true rfl) ?_
                                        have hG185 := gp_X12_isHere hG181 (sh_LAYat_313) hr186
                                        refine vv_if_ne 247 294 dX12_isOwnHere_247 (by decide) (fun c188 => ?_) (fun c188 => ?_)
                                        · rw [if_neg c188] at h
                                          refine vv_sub [(0, _), (1, _)] (sh_subm [1, 0] rfl) ?_
                                          exact ih_294 hG185 h
                                        · rw [if_pos c188] at h
                                          refine vv_aload_n 250 0 dX12_isOwnHere_250 rfl rfl ?_
                                          refine vv_aload_n 251 0 dX12_isOwnHere_251 rfl rfl ?_
                                          refine vv_getR 252 dX12_isOwnHere_252 fl_12_81 rfl (g_l_291 hG185) (g_r_291_31 hG185) ?_
                                          obtain ⟨y191, μ189, hr190, h⟩ := sh_bind_e h
                                          refine v1_callV [_] 255 dX12_isOwnHere_255 ck_X12_276 (g_l_291 hG185) ⟨by decide, rfl⟩ (t_X12_isHere hG185 (sh_LAYat_314) hr190) (Nat.le_of_ble_eq_true rfl) ⟨Nat.le_of_ble_eq_true rfl, Nat.le_of_ble_eq_true rfl⟩ rfl (Nat.le_of_ble_eq_true rfl) ?_
                                          have hG189 := gp_X12_isHere hG185 (sh_LAYat_314) hr190
                                          refine vv_if_ne 258 294 dX12_isOwnHere_258 (by decide) (fun c192 => ?_) (fun c192 => ?_)
                                          · rw [if_neg c192] at h
                                            refine vv_sub [(0, _), (1, _)] (sh_subm [1, 0] rfl) ?_
                                            exact ih_294 hG189 h
                                          · rw [if_pos c192] at h
                                            refine vv_aload_n 261 0 dX12_isOwnHere_261 rfl rfl ?_
                                            refine vv_aload_n 262 0 dX12_isOwnHere_262 rfl rfl ?_
                                            refine vv_getR 263 dX12_isOwnHere_263 fl_12_84 rfl (g_l_291 hG189) (g_r_291_32 hG189) ?_
                                            obtain ⟨y195, μ193, hr194, h⟩ := sh_bind_e h
                                            refine v1_callV [_] 266 dX12_isOwnHere_266 ck_X12_276 (g_l_291 hG189) ⟨by decide, rfl⟩ (t_X12_isHere hG189 (sh_LAYat_315) hr194) (Nat.le_of_ble_eq_true rfl) ⟨Nat.le_of_ble_eq_true rfl, Nat.le_of_ble_eq_true rfl⟩ rfl (Nat.le_of_ble_eq_true rfl) ?_
                                            have hG193 := gp_X12_isHere hG189 (sh_LAYat_315) hr194
                                            refine vv_if_ne 269 294 dX12_isOwnHere_269 (by decide) (fun c196 => ?_) (fun c196 => ?_)
                                            · rw [if_neg c196] at h
                                              refine vv_sub [(0, _), (1, _)] (sh_subm [1, 0] rfl) ?_
                                              exact ih_294 hG193 h
                                            · rw [if_pos c196] at h
                                              refine vv_aload_n 272 0 dX12_isOwnHere_272 rfl rfl ?_
                                              refine vv_aload_n 273 0 dX12_isOwnHere_273 rfl rfl ?_
                                              refine vv_getR 274 dX12_isOwnHere_274 fl_12_87 rfl (g_l_291 hG193) (g_r_291_33 hG193) ?_
                                              obtain ⟨y199, μ197, hr198, h⟩ := sh_bind_e h
                                              refine v1_callV [_] 277 dX12_isOwnHere_277 ck_X12_276 (g_l_291 hG193) ⟨by decide, rfl⟩ (t_X12_isHere hG193 (sh_LAYat_316) hr198) (Nat.le_of_ble_eq_true rfl) ⟨Nat.le_of_ble_eq_true rfl, Nat.le_of_ble_eq_true rfl⟩ rfl (Nat.le_of_ble_eq_true rfl) ?_
                                              have hG197 := gp_X12_isHere hG193 (sh_LAYat_316) hr198
                                              refine vv_if_ne 280 294 dX12_isOwnHere_280 (by decide) (fun c200 => ?_) (fun c200 => ?_)
                                              · rw [if_neg c200] at h
                                                refine vv_sub [(0, _), (1, _)] (sh_subm [1, 0] rfl) ?_
                                                exact ih_294 hG197 h
                                              · rw [if_pos c200] at h
                                                refine vv_aload_n 283 0 dX12_isOwnHere_283 rfl rfl ?_
                                                refine vv_aload_n 284 0 dX12_isOwnHere_284 rfl rfl ?_
                                                refine vv_getR 285 dX12_isOwnHere_285 fl_12_90 rfl (g_l_291 hG197) (g_r_291_34 hG197) ?_
                                                obtain ⟨y203, μ201, hr202, h⟩ := sh_bind_e h
                                                refine v1_callV [_] 288 dX12_isOwnHere_288 ck_X12_276 (g_l_291 hG197) ⟨by decide, rfl⟩ (t_X12_isHere hG197 (sh_LAYat_317) hr202) (Nat.le_of_ble_eq_true rfl) ⟨Nat.le_of_ble_eq_true rfl, Nat.le_of_ble_eq_true rfl⟩ rfl (Nat.le_of_ble_eq_true rfl) ?_
                                                have hG201 := gp_X12_isHere hG197 (sh_LAYat_317) hr202
                                                refine vv_if_eq 291 298 dX12_isOwnHere_291 (by decide) (fun c204 => ?_) (fun c204 => ?_)
                                                · rw [if_pos c204] at h
                                                  refine vv_iconst 298 dX12_isOwnHere_298 ik_0 ?_
                                                  refine vv_istore_n (lv' := [(1, _), (0, _)]) 299 1 dX12_isOwnHere_299 rfl (by decide) rfl ?_
                                                  refine vv_iload_n 300 1 dX12_isOwnHere_300 rfl rfl ?_
                                                  refine vv_if_ne 301 337 dX12_isOwnHere_301 (by decide) (fun hc => absurd (by decide) hc) (fun _ => ?_)
                                                  refine vv_aload_n 304 0 dX12_isOwnHere_304 rfl rfl ?_
                                                  refine vv_aload_n 305 0 dX12_isOwnHere_305 rfl rfl ?_
                                                  refine vv_getR 306 dX12_isOwnHere_306 fl_12_93 rfl (g_l_291 hG201) (g_r_291_35 hG201) ?_
                                                  obtain ⟨y207, μ205, hr206, h⟩ := sh_bind_e h
                                                  refine v1_callV [_] 309 dX12_isOwnHere_309 ck_X12_276 (g_l_291 hG201) ⟨by decide, rfl⟩ (t_X12_isHere hG201 (sh_LAYat_318) hr206) (Nat.le_of_ble_eq_true rfl) ⟨Nat.le_of_ble_eq_true rfl, Nat.le_of_ble_eq_true rfl⟩ rfl (Nat.le_of_ble_eq_true rfl) ?_
                                                  have hG205 := gp_X12_isHere hG201 (sh_LAYat_318) hr206
                                                  refine vv_if_ne 312 337 dX12_isOwnHere_312 (by decide) (fun c208 => ?_) (fun c208 => ?_)
                                                  · rw [if_neg c208] at h
                                                    refine vv_sub [(0, _), (1, _)] (sh_subm [1, 0] rfl) ?_
                                                    exact ih_337 hG205 h
                                                  · rw [if_pos c208] at h
                                                    refine vv_aload_n 315 0 dX12_isOwnHere_315 rfl rfl ?_
                                                    refine vv_aload_n 316 0 dX12_isOwnHere_316 rfl rfl ?_
                                                    refine vv_getR 317 dX12_isOwnHere_317 fl_12_96 rfl (g_l_291 hG205) (g_r_291_36 hG205) ?_
                                                    obtain ⟨y211, μ209, hr210, h⟩ := sh_bind_e h
                                                    refine v1_callV [_] 320 dX12_isOwnHere_320 ck_X12_276 (g_l_291 hG205) ⟨by decide, rfl⟩ (t_X12_isHere hG205 (sh_LAYat_319) hr210) (Nat.le_of_ble_eq_true rfl) ⟨Nat.le_of_ble_eq_true rfl, Nat.le_of_ble_eq_true rfl⟩ rfl (Nat.le_of_ble_eq_true rfl) ?_
                                                    have hG209 := gp_X12_isHere hG205 (sh_LAYat_319) hr210
                                                    refine vv_if_ne 323 337 dX12_isOwnHere_323 (by decide) (fun c212 => ?_) (fun c212 => ?_)
                                                    · rw [if_neg c212] at h
                                                      refine vv_sub [(0, _), (1, _)] (sh_subm [1, 0] rfl) ?_
                                                      exact ih_337 hG209 h
                                                    · rw [if_pos c212] at h
                                                      refine vv_aload_n 326 0 dX12_isOwnHere_326 rfl rfl ?_
                                                      refine vv_aload_n 327 0 dX12_isOwnHere_327 rfl rfl ?_
                                                      refine vv_getR 328 dX12_isOwnHere_328 fl_12_99 rfl (g_l_291 hG209) (g_r_291_37 hG209) ?_
                                                      obtain ⟨y215, μ213, hr214, h⟩ := sh_bind_e h
                                                      refine v1_callV [_] 331 dX12_isOwnHere_331 ck_X12_276 (g_l_291 hG209) ⟨by decide, rfl⟩ (t_X12_isHere hG209 (sh_LAYat_320) hr214) (Nat.le_of_ble_eq_true rfl) ⟨Nat.le_of_ble_eq_true rfl, Nat.le_of_ble_eq_true rfl⟩ rfl (Nat.le_of_ble_eq_true rfl) ?_
                                                      have hG213 := gp_X12_isHere hG209 (sh_LAYat_320) hr214
                                                      refine vv_if_eq 334 341 dX12_isOwnHere_334 (by decide) (fun c216 => ?_) (fun c216 => ?_)
                                                      · rw [if_pos c216] at h
                                                        refine vv_iconst 341 dX12_isOwnHere_341 ik_0 ?_
                                                        refine vv_istore_n (lv' := [(1, _), (0, _)]) 342 1 dX12_isOwnHere_342 rfl (by decide) rfl ?_
                                                        refine vv_iload_n 343 1 dX12_isOwnHere_343 rfl rfl ?_
                                                        obtain ⟨e1, e2⟩ := sh_some2 h
                                                        refine vv_zret 344 dX12_isOwnHere_344 rfl rfl (Nat.le_refl _) (Nat.le_refl _) ⟨by rw [e1], e2⟩
                                                      · rw [if_neg c216] at h
                                                        refine vv_sub [(0, _), (1, _)] (sh_subm [1, 0] rfl) ?_
                                                        exact ih_337 hG213 h
                                                · rw [if_neg c204] at h
                                                  refine vv_sub [(0, _), (1, _)] (sh_subm [1, 0] rfl) ?_
                                                  exact ih_294 hG201 h
                                    · rw [if_neg c180] at h
                                      refine vv_sub [(0, _), (1, _)] (sh_subm [1, 0] rfl) ?_
                                      exact ih_218 hG177 h
                        · rw [if_neg c156] at h
                          refine vv_sub [(0, _), (1, _)] (sh_subm [1, 0] rfl) ?_
                          exact ih_142 hG153 h
            · rw [if_neg c132] at h
              refine vv_sub [(0, _)] (sh_subm [0] rfl) ?_
              exact ih_66 hG129 h
noncomputable def F_X12_name : Nat → Nat → Int64 → sh_Mem → Option (Int64 × sh_Mem)
  | 0, _, _, _ => none
  | fuel + 1, lbl, l1, μ => match lbl with
    | 1 => (if (sh_i μ 291 3) ≤ (sh_i μ 291 2) then sh_let (sh_setI μ 291 4 (sh_i μ 291 2)) (fun μ34 => some (l1, μ34)) else (if sh_in (sh_i μ 291 2) 1600 then (if (f_X12_isLetter μ (sh_i μ 292 ((sh_i μ 291 2)).toNatClampNeg)) = 0 then sh_let (sh_setI μ 291 4 (sh_i μ 291 2)) (fun μ37 => some (l1, μ37)) else (if ((sh_i μ 291 2) - (sh_i μ 291 38)) = 6 then sh_bindv (f_X12_fail 1 (sh_i μ 291 2) μ) (fun μ42 => some (0, μ42)) else (if sh_in (sh_i μ 291 2) 1600 then sh_let (((((27 * l1) + ((sh_i μ 292 ((sh_i μ 291 2)).toNatClampNeg)).toInt64) - 97) + 1) : Int64) (fun x40 => sh_let (sh_setI μ 291 2 ((sh_i μ 291 2) + 1)) (fun μ41 => F_X12_name fuel 1 x40 μ41)) else none))) else none))
    | _ => none
noncomputable def f_X12_name (μ : sh_Mem) : Option (Int64 × sh_Mem) := (if (sh_i μ 291 5) = 0 then sh_bind (f_X12_look μ) (fun y48 μ46 => (if (f_X12_isLetter μ46 y48) = 0 then sh_bindv (f_X12_fail 1 (sh_i μ46 291 2) μ46) (fun μ50 => some (0, μ50)) else (if (sh_i μ46 291 2) = (sh_i μ46 291 4) then sh_bindv (f_X12_fail 1 (sh_i μ46 291 2) μ46) (fun μ54 => some (0, μ54)) else sh_bind (f_X12_isOwnHere μ46) (fun y59 μ57 => (if y59 = 0 then sh_let (sh_setI μ57 291 38 (sh_i μ57 291 2)) (fun μ61 => F_X12_name sh_fuel 1 0 μ61) else sh_bindv (f_X12_fail 1 (sh_i μ57 291 2) μ57) (fun μ62 => some (0, μ62))))))) else some (0, μ))
theorem gpl_X12_name (fuel : Nat) : (∀ ⦃l1 : Int64⦄ ⦃μ μ' : sh_Mem⦄ ⦃v : Int64⦄, sh_G μ → F_X12_name fuel 1 l1 μ = some (v, μ') → sh_G μ') := by
  induction fuel with
  | zero => intro l1 μ μ' v hG h; cases h
  | succ fuel ih =>
    have ih_58 := ih
    intro l1 μ μ' v hG h
    replace h : ((if (sh_i μ 291 3) ≤ (sh_i μ 291 2) then sh_let (sh_setI μ 291 4 (sh_i μ 291 2)) (fun μ34 => some (l1, μ34)) else (if sh_in (sh_i μ 291 2) 1600 then (if (f_X12_isLetter μ (sh_i μ 292 ((sh_i μ 291 2)).toNatClampNeg)) = 0 then sh_let (sh_setI μ 291 4 (sh_i μ 291 2)) (fun μ37 => some (l1, μ37)) else (if ((sh_i μ 291 2) - (sh_i μ 291 38)) = 6 then sh_bindv (f_X12_fail 1 (sh_i μ 291 2) μ) (fun μ42 => some (0, μ42)) else (if sh_in (sh_i μ 291 2) 1600 then sh_let (((((27 * l1) + ((sh_i μ 292 ((sh_i μ 291 2)).toNatClampNeg)).toInt64) - 97) + 1) : Int64) (fun x40 => sh_let (sh_setI μ 291 2 ((sh_i μ 291 2) + 1)) (fun μ41 => F_X12_name fuel 1 x40 μ41)) else none))) else none)) : Option (Int64 × sh_Mem)) = some (v, μ') := h
    by_cases c33 : (sh_i μ 291 3) ≤ (sh_i μ 291 2)
    · rw [if_pos c33] at h
      obtain ⟨μ34, eμ34⟩ : ∃ y : sh_Mem, y = (sh_setI μ 291 4 (sh_i μ 291 2)) := ⟨_, rfl⟩
      rw [sh_let_eq eμ34] at h
      have hG34 : sh_G μ34 := by rw [eμ34]; exact hG
      obtain ⟨e1, e2⟩ := sh_some2 h
      exact e2 ▸ hG34
    · rw [if_neg c33] at h
      obtain ⟨k35, h⟩ := sh_chk h
      by_cases c36 : (f_X12_isLetter μ (sh_i μ 292 ((sh_i μ 291 2)).toNatClampNeg)) = 0
      · rw [if_pos c36] at h
        obtain ⟨μ37, eμ37⟩ : ∃ y : sh_Mem, y = (sh_setI μ 291 4 (sh_i μ 291 2)) := ⟨_, rfl⟩
        rw [sh_let_eq eμ37] at h
        have hG37 : sh_G μ37 := by rw [eμ37]; exact hG
        obtain ⟨e1, e2⟩ := sh_some2 h
        exact e2 ▸ hG37
      · rw [if_neg c36] at h
        by_cases c38 : ((sh_i μ 291 2) - (sh_i μ 291 38)) = 6
        · rw [if_pos c38] at h
          obtain ⟨μ42, hr43, h⟩ := sh_bindv_e h
          have hG42 := gp_X12_fail hG hr43
          obtain ⟨e1, e2⟩ := sh_some2 h
          exact e2 ▸ hG42
        · rw [if_neg c38] at h
          obtain ⟨k39, h⟩ := sh_chk h
          obtain ⟨x40, ex40⟩ : ∃ y : Int64, y = ((((27 * l1) + ((sh_i μ 292 ((sh_i μ 291 2)).toNatClampNeg)).toInt64) - 97) + 1) := ⟨_, rfl⟩
          rw [sh_let_eq ex40] at h
          obtain ⟨μ41, eμ41⟩ : ∃ y : sh_Mem, y = (sh_setI μ 291 2 ((sh_i μ 291 2) + 1)) := ⟨_, rfl⟩
          rw [sh_let_eq eμ41] at h
          have hG41 : sh_G μ41 := by rw [eμ41]; exact hG
          exact ih_58 hG41 h
theorem tl_X12_name (fuel : Nat) : (∀ ⦃l1 : Int64⦄ ⦃μ μ' : sh_Mem⦄ ⦃v : Int64⦄, sh_G μ → F_X12_name fuel 1 l1 μ = some (v, μ') → sh_V0 l B D ca 4 M_X12_name 58 [(0, .ref 291), (1, .long l1)] [] μ (fun v0 μ0 => v0 = some (.long v) ∧ μ0 = μ')) := by
  induction fuel with
  | zero => intro l1 μ μ' v hG h; cases h
  | succ fuel ih =>
    have ih_58 := ih
    intro l1 μ μ' v hG h
    replace h : ((if (sh_i μ 291 3) ≤ (sh_i μ 291 2) then sh_let (sh_setI μ 291 4 (sh_i μ 291 2)) (fun μ34 => some (l1, μ34)) else (if sh_in (sh_i μ 291 2) 1600 then (if (f_X12_isLetter μ (sh_i μ 292 ((sh_i μ 291 2)).toNatClampNeg)) = 0 then sh_let (sh_setI μ 291 4 (sh_i μ 291 2)) (fun μ37 => some (l1, μ37)) else (if ((sh_i μ 291 2) - (sh_i μ 291 38)) = 6 then sh_bindv (f_X12_fail 1 (sh_i μ 291 2) μ) (fun μ42 => some (0, μ42)) else (if sh_in (sh_i μ 291 2) 1600 then sh_let (((((27 * l1) + ((sh_i μ 292 ((sh_i μ 291 2)).toNatClampNeg)).toInt64) - 97) + 1) : Int64) (fun x40 => sh_let (sh_setI μ 291 2 ((sh_i μ 291 2) + 1)) (fun μ41 => F_X12_name fuel 1 x40 μ41)) else none))) else none)) : Option (Int64 × sh_Mem)) = some (v, μ') := h
    refine vv_aload_n 58 0 dX12_name_58 rfl rfl ?_
    refine vv_getI 59 dX12_name_59 fl_12_259 rfl (g_l_291 hG) ?_
    refine vv_aload_n 62 0 dX12_name_62 rfl rfl ?_
    refine vv_getI 63 dX12_name_63 fl_12_262 rfl (g_l_291 hG) ?_
    refine vv_icmp_ge 66 145 dX12_name_66 (by decide) (fun c33 => ?_) (fun c33 => ?_)
    · rw [if_pos c33] at h
      refine vv_aload_n 145 0 dX12_name_145 rfl rfl ?_
      refine vv_aload_n 146 0 dX12_name_146 rfl rfl ?_
      refine vv_getI 147 dX12_name_147 fl_12_259 rfl (g_l_291 hG) ?_
      refine vn_putI 150 dX12_name_150 fl_12_273 (Or.inl rfl) rfl (g_l_291 hG) (fun μ34 eμ34 => ?_)
      rw [sh_let_eq eμ34] at h
      have hG34 : sh_G μ34 := by rw [eμ34]; exact hG
      refine vv_lload_n 153 1 dX12_name_153 rfl rfl ?_
      obtain ⟨e1, e2⟩ := sh_some2 h
      refine vv_lret 154 dX12_name_154 rfl (Nat.le_refl _) (Nat.le_refl _) ⟨by rw [e1], e2⟩
    · rw [if_neg c33] at h
      refine vv_aload_n 69 0 dX12_name_69 rfl rfl ?_
      refine vv_getR 70 dX12_name_70 fl_12_7 rfl (g_l_291 hG) (g_r_291_0 hG) ?_
      refine vv_aload_n 73 0 dX12_name_73 rfl rfl ?_
      refine vv_getI 74 dX12_name_74 fl_12_259 rfl (g_l_291 hG) ?_
      obtain ⟨k35, h⟩ := sh_chk h
      refine vv_iald 77 dX12_name_77 (g_l_292 hG) k35 ?_
      refine v1_callS [_] 78 dX12_name_78 ck_X12_269 (c_X12_isLetter (μ := μ) hG) (Nat.le_of_ble_eq_true rfl) ⟨Nat.le_of_ble_eq_true rfl, Nat.le_of_ble_eq_true rfl⟩ rfl (Nat.le_of_ble_eq_true rfl) ?_
      refine vv_if_eq 81 145 dX12_name_81 (by decide) (fun c36 => ?_) (fun c36 => ?_)
      · rw [if_pos c36] at h
        refine vv_aload_n 145 0 dX12_name_145 rfl rfl ?_
        refine vv_aload_n 146 0 dX12_name_146 rfl rfl ?_
        refine vv_getI 147 dX12_name_147 fl_12_259 rfl (g_l_291 hG) ?_
        refine vn_putI 150 dX12_name_150 fl_12_273 (Or.inl rfl) rfl (g_l_291 hG) (fun μ37 eμ37 => ?_)
        rw [sh_let_eq eμ37] at h
        have hG37 : sh_G μ37 := by rw [eμ37]; exact hG
        refine vv_lload_n 153 1 dX12_name_153 rfl rfl ?_
        obtain ⟨e1, e2⟩ := sh_some2 h
        refine vv_lret 154 dX12_name_154 rfl (Nat.le_refl _) (Nat.le_refl _) ⟨by rw [e1], e2⟩
      · rw [if_neg c36] at h
        refine vv_aload_n 84 0 dX12_name_84 rfl rfl ?_
        refine vv_getI 85 dX12_name_85 fl_12_259 rfl (g_l_291 hG) ?_
        refine vv_aload_n 88 0 dX12_name_88 rfl rfl ?_
        refine vv_getI 89 dX12_name_89 fl_12_304 rfl (g_l_291 hG) ?_
        refine vv_isub 92 dX12_name_92 ?_
        refine vv_bipush 93 dX12_name_93 bk_6 ?_
        refine vv_icmp_ne 95 109 dX12_name_95 (by decide) (fun c38 => ?_) (fun c38 => ?_)
        · rw [if_neg c38] at h
          refine vv_ldc2 109 dX12_name_109 kl_12_307 ?_
          refine vv_lload_n 112 1 dX12_name_112 rfl rfl ?_
          refine vv_lmul 113 dX12_name_113 ?_
          refine vv_aload_n 114 0 dX12_name_114 rfl rfl ?_
          refine vv_getR 115 dX12_name_115 fl_12_7 rfl (g_l_291 hG) (g_r_291_0 hG) ?_
          refine vv_aload_n 118 0 dX12_name_118 rfl rfl ?_
          refine vv_getI 119 dX12_name_119 fl_12_259 rfl (g_l_291 hG) ?_
          obtain ⟨k39, h⟩ := sh_chk h
          refine vv_iald 122 dX12_name_122 (g_l_292 hG) k39 ?_
          refine vv_i2l 123 dX12_name_123 ?_
          refine vv_ladd 124 dX12_name_124 ?_
          refine vv_ldc2 125 dX12_name_125 kl_12_309 ?_
          refine vv_lsub 128 dX12_name_128 ?_
          refine vv_lconst 129 dX12_name_129 lk_1 ?_
          refine vv_ladd 130 dX12_name_130 ?_
          refine vv_topl (fun x40 ex40 => ?_)
          rw [sh_let_eq ex40] at h
          refine vv_lstore_n (lv' := [(1, _), (0, _)]) 131 1 dX12_name_131 rfl (by decide) rfl ?_
          refine vv_aload_n 132 0 dX12_name_132 rfl rfl ?_
          refine vv_dup_ref 133 dX12_name_133 ?_
          refine vv_getI 134 dX12_name_134 fl_12_259 rfl (g_l_291 hG) ?_
          refine vv_iconst 137 dX12_name_137 ik_1 ?_
          refine vv_iadd 138 dX12_name_138 ?_
          refine vn_putI 139 dX12_name_139 fl_12_259 (Or.inl rfl) rfl (g_l_291 hG) (fun μ41 eμ41 => ?_)
          rw [sh_let_eq eμ41] at h
          have hG41 : sh_G μ41 := by rw [eμ41]; exact hG
          refine vv_goto 142 58 dX12_name_142 (by decide) ?_
          refine vv_sub [(0, _), (1, _)] (sh_subm [1, 0] rfl) ?_
          exact ih_58 hG41 h
        · rw [if_pos c38] at h
          refine vv_aload_n 98 0 dX12_name_98 rfl rfl ?_
          refine vv_iconst 99 dX12_name_99 ik_1 ?_
          refine vv_aload_n 100 0 dX12_name_100 rfl rfl ?_
          refine vv_getI 101 dX12_name_101 fl_12_259 rfl (g_l_291 hG) ?_
          obtain ⟨μ42, hr43, h⟩ := sh_bindv_e h
          refine v1_callV [_, _] 104 dX12_name_104 ck_X12_283 (g_l_291 hG) ⟨by decide, rfl⟩ (t_X12_fail hG hr43) (Nat.le_of_ble_eq_true rfl) ⟨Nat.le_of_ble_eq_true rfl, Nat.le_of_ble_eq_true rfl⟩ rfl (Nat.le_of_ble_eq_true rfl) ?_
          have hG42 := gp_X12_fail hG hr43
          refine vv_lconst 107 dX12_name_107 lk_0 ?_
          obtain ⟨e1, e2⟩ := sh_some2 h
          refine vv_lret 108 dX12_name_108 rfl (Nat.le_refl _) (Nat.le_refl _) ⟨by rw [e1], e2⟩
theorem gp_X12_name {μ μ' : sh_Mem} {v : Int64} (hG : sh_G μ) (h : f_X12_name μ = some (v, μ')) : sh_G μ' := by
  have ih_58 := (gpl_X12_name sh_fuel)
  unfold f_X12_name at h
  by_cases c45 : (sh_i μ 291 5) = 0
  · rw [if_pos c45] at h
    obtain ⟨y48, μ46, hr47, h⟩ := sh_bind_e h
    have hG46 := gp_X12_look hG hr47
    by_cases c49 : (f_X12_isLetter μ46 y48) = 0
    · rw [if_pos c49] at h
      obtain ⟨μ50, hr51, h⟩ := sh_bindv_e h
      have hG50 := gp_X12_fail hG46 hr51
      obtain ⟨e1, e2⟩ := sh_some2 h
      exact e2 ▸ hG50
    · rw [if_neg c49] at h
      by_cases c53 : (sh_i μ46 291 2) = (sh_i μ46 291 4)
      · rw [if_pos c53] at h
        obtain ⟨μ54, hr55, h⟩ := sh_bindv_e h
        have hG54 := gp_X12_fail hG46 hr55
        obtain ⟨e1, e2⟩ := sh_some2 h
        exact e2 ▸ hG54
      · rw [if_neg c53] at h
        obtain ⟨y59, μ57, hr58, h⟩ := sh_bind_e h
        have hG57 := gp_X12_isOwnHere hG46 hr58
        by_cases c60 : y59 = 0
        · rw [if_pos c60] at h
          obtain ⟨μ61, eμ61⟩ : ∃ y : sh_Mem, y = (sh_setI μ57 291 38 (sh_i μ57 291 2)) := ⟨_, rfl⟩
          rw [sh_let_eq eμ61] at h
          have hG61 : sh_G μ61 := by rw [eμ61]; exact hG57
          exact ih_58 hG61 h
        · rw [if_neg c60] at h
          obtain ⟨μ62, hr63, h⟩ := sh_bindv_e h
          have hG62 := gp_X12_fail hG57 hr63
          obtain ⟨e1, e2⟩ := sh_some2 h
          exact e2 ▸ hG62
  · rw [if_neg c45] at h
    obtain ⟨e1, e2⟩ := sh_some2 h
    exact e2 ▸ hG
theorem t_X12_name {μ μ' : sh_Mem} {v : Int64} (hG : sh_G μ) (h : f_X12_name μ = some (v, μ')) : sh_C0 l B D ca 4 M_X12_name [.ref 291] μ (fun v0 μ0 => v0 = some (.long v) ∧ μ0 = μ') := by
  have ih_58 := (tl_X12_name (l := l) (B := B) (D := D) (ca := ca) sh_fuel)
  unfold f_X12_name at h
  refine vv_aload_n 0 0 dX12_name_0 rfl rfl ?_
  refine vv_getI 1 dX12_name_1 fl_12_253 rfl (g_l_291 hG) ?_
  refine vv_if_eq 4 9 dX12_name_4 (by decide) (fun c45 => ?_) (fun c45 => ?_)
  · rw [if_pos c45] at h
    refine vv_aload_n 9 0 dX12_name_9 rfl rfl ?_
    obtain ⟨y48, μ46, hr47, h⟩ := sh_bind_e h
    refine v1_callV [] 10 dX12_name_10 ck_X12_265 (g_l_291 hG) ⟨by decide, rfl⟩ (t_X12_look hG hr47) (Nat.le_of_ble_eq_true rfl) ⟨Nat.le_of_ble_eq_true rfl, Nat.le_of_ble_eq_true rfl⟩ rfl (Nat.le_of_ble_eq_true rfl) ?_
    have hG46 := gp_X12_look hG hr47
    refine v1_callS [_] 13 dX12_name_13 ck_X12_269 (c_X12_isLetter (μ := μ46) hG46) (Nat.le_of_ble_eq_true rfl) ⟨Nat.le_of_ble_eq_true rfl, Nat.le_of_ble_eq_true rfl⟩ rfl (Nat.le_of_ble_eq_true rfl) ?_
    refine vv_if_eq 16 37 dX12_name_16 (by decide) (fun c49 => ?_) (fun c49 => ?_)
    · rw [if_pos c49] at h
      refine vv_aload_n 37 0 dX12_name_37 rfl rfl ?_
      refine vv_iconst 38 dX12_name_38 ik_1 ?_
      refine vv_aload_n 39 0 dX12_name_39 rfl rfl ?_
      refine vv_getI 40 dX12_name_40 fl_12_259 rfl (g_l_291 hG46) ?_
      obtain ⟨μ50, hr51, h⟩ := sh_bindv_e h
      refine v1_callV [_, _] 43 dX12_name_43 ck_X12_283 (g_l_291 hG46) ⟨by decide, rfl⟩ (t_X12_fail hG46 hr51) (Nat.le_of_ble_eq_true rfl) ⟨Nat.le_of_ble_eq_true rfl, Nat.le_of_ble_eq_true rfl⟩ rfl (Nat.le_of_ble_eq_true rfl) ?_
      have hG50 := gp_X12_fail hG46 hr51
      refine vv_lconst 46 dX12_name_46 lk_0 ?_
      obtain ⟨e1, e2⟩ := sh_some2 h
      refine vv_lret 47 dX12_name_47 rfl (Nat.le_refl _) (Nat.le_refl _) ⟨by rw [e1], e2⟩
    · rw [if_neg c49] at h
      refine vv_aload_n 19 0 dX12_name_19 rfl rfl ?_
      refine vv_getI 20 dX12_name_20 fl_12_259 rfl (g_l_291 hG46) ?_
      refine vv_aload_n 23 0 dX12_name_23 rfl rfl ?_
      refine vv_getI 24 dX12_name_24 fl_12_273 rfl (g_l_291 hG46) ?_
      refine vv_icmp_eq 27 37 dX12_name_27 (by decide) (fun c53 => ?_) (fun c53 => ?_)
      · rw [if_pos c53] at h
        refine vv_aload_n 37 0 dX12_name_37 rfl rfl ?_
        refine vv_iconst 38 dX12_name_38 ik_1 ?_
        refine vv_aload_n 39 0 dX12_name_39 rfl rfl ?_
        refine vv_getI 40 dX12_name_40 fl_12_259 rfl (g_l_291 hG46) ?_
        obtain ⟨μ54, hr55, h⟩ := sh_bindv_e h
        refine v1_callV [_, _] 43 dX12_name_43 ck_X12_283 (g_l_291 hG46) ⟨by decide, rfl⟩ (t_X12_fail hG46 hr55) (Nat.le_of_ble_eq_true rfl) ⟨Nat.le_of_ble_eq_true rfl, Nat.le_of_ble_eq_true rfl⟩ rfl (Nat.le_of_ble_eq_true rfl) ?_
        have hG54 := gp_X12_fail hG46 hr55
        refine vv_lconst 46 dX12_name_46 lk_0 ?_
        obtain ⟨e1, e2⟩ := sh_some2 h
        refine vv_lret 47 dX12_name_47 rfl (Nat.le_refl _) (Nat.le_refl _) ⟨by rw [e1], e2⟩
      · rw [if_neg c53] at h
        refine vv_aload_n 30 0 dX12_name_30 rfl rfl ?_
        obtain ⟨y59, μ57, hr58, h⟩ := sh_bind_e h
        refine v1_callV [] 31 dX12_name_31 ck_X12_300 (g_l_291 hG46) ⟨by decide, rfl⟩ (t_X12_isOwnHere hG46 hr58) (Nat.le_of_ble_eq_true rfl) ⟨Nat.le_of_ble_eq_true rfl, Nat.le_of_ble_eq_true rfl⟩ rfl (Nat.le_of_ble_eq_true rfl) ?_
        have hG57 := gp_X12_isOwnHere hG46 hr58
        refine vv_if_eq 34 48 dX12_name_34 (by decide) (fun c60 => ?_) (fun c60 => ?_)
        · rw [if_pos c60] at h
          refine vv_aload_n 48 0 dX12_name_48 rfl rfl ?_
          refine vv_aload_n 49 0 dX12_name_49 rfl rfl ?_
          refine vv_getI 50 dX12_name_50 fl_12_259 rfl (g_l_291 hG57) ?_
          refine vn_putI 53 dX12_name_53 fl_12_304 (Or.inl rfl) rfl (g_l_291 hG57) (fun μ61 eμ61 => ?_)
          rw [sh_let_eq eμ61] at h
          have hG61 : sh_G μ61 := by rw [eμ61]; exact hG57
          refine vv_lconst 56 dX12_name_56 lk_0 ?_
          refine vv_lstore_n (lv' := [(1, _), (0, _)]) 57 1 dX12_name_57 rfl (by decide) rfl ?_
          refine vv_sub [(0, _), (1, _)] (sh_subm [1, 0] rfl) ?_
          exact ih_58 hG61 h
        · rw [if_neg c60] at h
          refine vv_aload_n 37 0 dX12_name_37 rfl rfl ?_
          refine vv_iconst 38 dX12_name_38 ik_1 ?_
          refine vv_aload_n 39 0 dX12_name_39 rfl rfl ?_
          refine vv_getI 40 dX12_name_40 fl_12_259 rfl (g_l_291 hG57) ?_
          obtain ⟨μ62, hr63, h⟩ := sh_bindv_e h
          refine v1_callV [_, _] 43 dX12_name_43 ck_X12_283 (g_l_291 hG57) ⟨by decide, rfl⟩ (t_X12_fail hG57 hr63) (Nat.le_of_ble_eq_true rfl) ⟨Nat.le_of_ble_eq_true rfl, Nat.le_of_ble_eq_true rfl⟩ rfl (Nat.le_of_ble_eq_true rfl) ?_
          have hG62 := gp_X12_fail hG57 hr63
          refine vv_lconst 46 dX12_name_46 lk_0 ?_
          obtain ⟨e1, e2⟩ := sh_some2 h
          refine vv_lret 47 dX12_name_47 rfl (Nat.le_refl _) (Nat.le_refl _) ⟨by rw [e1], e2⟩
  · rw [if_neg c45] at h
    refine vv_lconst 7 dX12_name_7 lk_0 ?_
    obtain ⟨e1, e2⟩ := sh_some2 h
    refine vv_lret 8 dX12_name_8 rfl (Nat.le_refl _) (Nat.le_refl _) ⟨by rw [e1], e2⟩
def f_X12_isAllowed (μ : sh_Mem) (a1 : Int32) : Int32 := (if (sh_i μ 291 51) = 0 then (if 5 ≤ a1 then 0 else 1) else (if (sh_i μ 291 51) = 1 then (if 6 ≤ a1 then 0 else 1) else (if a1 < 4 then 1 else (if a1 ≤ 5 then 0 else 1))))
theorem c_X12_isAllowed (hG : sh_G μ)  {a1 : Int32} : sh_C0 l B D ca 1 M_X12_isAllowed [.ref 291, .int a1] μ (fun v μ' => v = some (.int (f_X12_isAllowed μ a1)) ∧ μ' = μ) := by
  refine vv_aload_n 0 0 dX12_isAllowed_0 rfl rfl ?_
  refine vv_getI 1 dX12_isAllowed_1 fl_12_311 rfl (g_l_291 hG) ?_
  refine vv_if_ne 4 20 dX12_isAllowed_4 (by decide) (fun h1 => ?_) (fun h1 => ?_)
  · refine vv_aload_n 20 0 dX12_isAllowed_20 rfl rfl ?_
    refine vv_getI 21 dX12_isAllowed_21 fl_12_311 rfl (g_l_291 hG) ?_
    refine vv_iconst 24 dX12_isAllowed_24 ik_1 ?_
    refine vv_icmp_ne 25 42 dX12_isAllowed_25 (by decide) (fun h2 => ?_) (fun h2 => ?_)
    · refine vv_iload_n 42 1 dX12_isAllowed_42 rfl rfl ?_
      refine vv_iconst 43 dX12_isAllowed_43 ik_4 ?_
      refine vv_icmp_lt 44 52 dX12_isAllowed_44 (by decide) (fun h3 => ?_) (fun h3 => ?_)
      · refine vv_iconst 52 dX12_isAllowed_52 ik_1 ?_
        refine vv_goto 53 57 dX12_isAllowed_53 (by decide) ?_
        refine vv_zret 57 dX12_isAllowed_57 rfl rfl (Nat.le_refl _) (Nat.le_refl _) ?_
        exact ⟨by show some _ = some (Value.int (f_X12_isAllowed μ a1)); unfold f_X12_isAllowed; rw [if_neg h1, if_neg h2, if_pos h3], rfl⟩
      · refine vv_iload_n 47 1 dX12_isAllowed_47 rfl rfl ?_
        refine vv_iconst 48 dX12_isAllowed_48 ik_5 ?_
        refine vv_icmp_le 49 56 dX12_isAllowed_49 (by decide) (fun h4 => ?_) (fun h4 => ?_)
        · refine vv_iconst 56 dX12_isAllowed_56 ik_0 ?_
          refine vv_zret 57 dX12_isAllowed_57 rfl rfl (Nat.le_refl _) (Nat.le_refl _) ?_
          exact ⟨by show some _ = some (Value.int (f_X12_isAllowed μ a1)); unfold f_X12_isAllowed; rw [if_neg h1, if_neg h2, if_neg h3, if_pos h4], rfl⟩
        · refine vv_iconst 52 dX12_isAllowed_52 ik_1 ?_
          refine vv_goto 53 57 dX12_isAllowed_53 (by decide) ?_
          refine vv_zret 57 dX12_isAllowed_57 rfl rfl (Nat.le_refl _) (Nat.le_refl _) ?_
          exact ⟨by show some _ = some (Value.int (f_X12_isAllowed μ a1)); unfold f_X12_isAllowed; rw [if_neg h1, if_neg h2, if_neg h3, if_neg h4], rfl⟩
    · refine vv_iload_n 28 1 dX12_isAllowed_28 rfl rfl ?_
      refine vv_bipush 29 dX12_isAllowed_29 bk_6 ?_
      refine vv_icmp_ge 31 38 dX12_isAllowed_31 (by decide) (fun h3 => ?_) (fun h3 => ?_)
      · refine vv_iconst 38 dX12_isAllowed_38 ik_0 ?_
        refine vv_goto 39 57 dX12_isAllowed_39 (by decide) ?_
        refine vv_zret 57 dX12_isAllowed_57 rfl rfl (Nat.le_refl _) (Nat.le_refl _) ?_
        exact ⟨by show some _ = some (Value.int (f_X12_isAllowed μ a1)); unfold f_X12_isAllowed; rw [if_neg h1, if_pos h2, if_pos h3], rfl⟩
      · refine vv_iconst 34 dX12_isAllowed_34 ik_1 ?_
        refine vv_goto 35 57 dX12_isAllowed_35 (by decide) ?_
        refine vv_zret 57 dX12_isAllowed_57 rfl rfl (Nat.le_refl _) (Nat.le_refl _) ?_
        exact ⟨by show some _ = some (Value.int (f_X12_isAllowed μ a1)); unfold f_X12_isAllowed; rw [if_neg h1, if_pos h2, if_neg h3], rfl⟩
  · refine vv_iload_n 7 1 dX12_isAllowed_7 rfl rfl ?_
    refine vv_iconst 8 dX12_isAllowed_8 ik_5 ?_
    refine vv_icmp_ge 9 16 dX12_isAllowed_9 (by decide) (fun h2 => ?_) (fun h2 => ?_)
    · refine vv_iconst 16 dX12_isAllowed_16 ik_0 ?_
      refine vv_goto 17 57 dX12_isAllowed_17 (by decide) ?_
      refine vv_zret 57 dX12_isAllowed_57 rfl rfl (Nat.le_refl _) (Nat.le_refl _) ?_
      exact ⟨by show some _ = some (Value.int (f_X12_isAllowed μ a1)); unfold f_X12_isAllowed; rw [if_pos h1, if_pos h2], rfl⟩
    · refine vv_iconst 12 dX12_isAllowed_12 ik_1 ?_
      refine vv_goto 13 57 dX12_isAllowed_13 (by decide) ?_
      refine vv_zret 57 dX12_isAllowed_57 rfl rfl (Nat.le_refl _) (Nat.le_refl _) ?_
      exact ⟨by show some _ = some (Value.int (f_X12_isAllowed μ a1)); unfold f_X12_isAllowed; rw [if_pos h1, if_neg h2], rfl⟩
noncomputable def f_X12_isFull (a1 : Int32) (a2 : Int32) (a3 : Int32) (μ : sh_Mem) : Option (Int32 × sh_Mem) := (if (sh_i μ 291 5) = 0 then (if sh_in a1 6 then (if (sh_i μ 322 a1.toNatClampNeg) = a2 then sh_bindv (f_X12_fail 5 a3 μ) (fun μ6 => (if (sh_i μ6 291 5) = 0 then some (0, μ6) else some (1, μ6))) else (if (sh_i μ 291 5) = 0 then some (0, μ) else some (1, μ))) else none) else (if (sh_i μ 291 5) = 0 then some (0, μ) else some (1, μ)))
theorem gp_X12_isFull {a1 : Int32} {a2 : Int32} {a3 : Int32} {μ μ' : sh_Mem} {v : Int32} (hG : sh_G μ) (h : f_X12_isFull a1 a2 a3 μ = some (v, μ')) : sh_G μ' := by
  unfold f_X12_isFull at h
  by_cases c1 : (sh_i μ 291 5) = 0
  · rw [if_pos c1] at h
    obtain ⟨k3, h⟩ := sh_chk h
    by_cases c4 : (sh_i μ 322 a1.toNatClampNeg) = a2
    · rw [if_pos c4] at h
      obtain ⟨μ6, hr7, h⟩ := sh_bindv_e h
      have hG6 := gp_X12_fail hG hr7
      by_cases c9 : (sh_i μ6 291 5) = 0
      · rw [if_pos c9] at h
        obtain ⟨e1, e2⟩ := sh_some2 h
        exact e2 ▸ hG6
      · rw [if_neg c9] at h
        obtain ⟨e1, e2⟩ := sh_some2 h
        exact e2 ▸ hG6
    · rw [if_neg c4] at h
      by_cases c5 : (sh_i μ 291 5) = 0
      · rw [if_pos c5] at h
        obtain ⟨e1, e2⟩ := sh_some2 h
        exact e2 ▸ hG
      · rw [if_neg c5] at h
        obtain ⟨e1, e2⟩ := sh_some2 h
        exact e2 ▸ hG
  · rw [if_neg c1] at h
    by_cases c2 : (sh_i μ 291 5) = 0
    · rw [if_pos c2] at h
      obtain ⟨e1, e2⟩ := sh_some2 h
      exact e2 ▸ hG
    · rw [if_neg c2] at h
      obtain ⟨e1, e2⟩ := sh_some2 h
      exact e2 ▸ hG
theorem t_X12_isFull {a1 : Int32} {a2 : Int32} {a3 : Int32} {μ μ' : sh_Mem} {v : Int32} (hG : sh_G μ) (h : f_X12_isFull a1 a2 a3 μ = some (v, μ')) : sh_C0 l B D ca 2 M_X12_isFull [.ref 291, .int a1, .int a2, .int a3] μ (fun v0 μ0 => v0 = some (.int v) ∧ μ0 = μ') := by
  unfold f_X12_isFull at h
  refine vv_aload_n 0 0 dX12_isFull_0 rfl rfl ?_
  refine vv_getI 1 dX12_isFull_1 fl_12_253 rfl (g_l_291 hG) ?_
  refine vv_if_ne 4 23 dX12_isFull_4 (by decide) (fun c1 => ?_) (fun c1 => ?_)
  · rw [if_neg c1] at h
    refine vv_aload_n 23 0 dX12_isFull_23 rfl rfl ?_
    refine vv_getI 24 dX12_isFull_24 fl_12_253 rfl (g_l_291 hG) ?_
    refine vv_if_eq 27 34 dX12_isFull_27 (by decide) (fun c2 => ?_) (fun c2 => ?_)
    · rw [if_pos c2] at h
      refine vv_iconst 34 dX12_isFull_34 ik_0 ?_
      obtain ⟨e1, e2⟩ := sh_some2 h
      refine vv_zret 35 dX12_isFull_35 rfl rfl (Nat.le_refl _) (Nat.le_refl _) ⟨by rw [e1], e2⟩
    · rw [if_neg c2] at h
      refine vv_iconst 30 dX12_isFull_30 ik_1 ?_
      refine vv_goto 31 35 dX12_isFull_31 (by decide) ?_
      obtain ⟨e1, e2⟩ := sh_some2 h
      refine vv_zret 35 dX12_isFull_35 rfl rfl (Nat.le_refl _) (Nat.le_refl _) ⟨by rw [e1], e2⟩
  · rw [if_pos c1] at h
    refine vv_aload_n 7 0 dX12_isFull_7 rfl rfl ?_
    refine vv_getR 8 dX12_isFull_8 fl_12_105 rfl (g_l_291 hG) (g_r_291_40 hG) ?_
    refine vv_iload_n 11 1 dX12_isFull_11 rfl rfl ?_
    obtain ⟨k3, h⟩ := sh_chk h
    refine vv_iald 12 dX12_isFull_12 (g_l_322 hG) k3 ?_
    refine vv_iload_n 13 2 dX12_isFull_13 rfl rfl ?_
    refine vv_icmp_ne 14 23 dX12_isFull_14 (by decide) (fun c4 => ?_) (fun c4 => ?_)
    · rw [if_neg c4] at h
      refine vv_aload_n 23 0 dX12_isFull_23 rfl rfl ?_
      refine vv_getI 24 dX12_isFull_24 fl_12_253 rfl (g_l_291 hG) ?_
      refine vv_if_eq 27 34 dX12_isFull_27 (by decide) (fun c5 => ?_) (fun c5 => ?_)
      · rw [if_pos c5] at h
        refine vv_iconst 34 dX12_isFull_34 ik_0 ?_
        obtain ⟨e1, e2⟩ := sh_some2 h
        refine vv_zret 35 dX12_isFull_35 rfl rfl (Nat.le_refl _) (Nat.le_refl _) ⟨by rw [e1], e2⟩
      · rw [if_neg c5] at h
        refine vv_iconst 30 dX12_isFull_30 ik_1 ?_
        refine vv_goto 31 35 dX12_isFull_31 (by decide) ?_
        obtain ⟨e1, e2⟩ := sh_some2 h
        refine vv_zret 35 dX12_isFull_35 rfl rfl (Nat.le_refl _) (Nat.le_refl _) ⟨by rw [e1], e2⟩
    · rw [if_pos c4] at h
      refine vv_aload_n 17 0 dX12_isFull_17 rfl rfl ?_
      refine vv_iconst 18 dX12_isFull_18 ik_5 ?_
      refine vv_iload_n 19 3 dX12_isFull_19 rfl rfl ?_
      obtain ⟨μ6, hr7, h⟩ := sh_bindv_e h
      refine v1_callV [_, _] 20 dX12_isFull_20 ck_X12_283 (g_l_291 hG) ⟨by decide, rfl⟩ (t_X12_fail hG hr7) (Nat.le_of_ble_eq_true rfl) ⟨Nat.le_of_ble_eq_true rfl, Nat.le_of_ble_eq_true rfl⟩ rfl (Nat.le_of_ble_eq_true rfl) ?_
      have hG6 := gp_X12_fail hG hr7
      refine vv_aload_n 23 0 dX12_isFull_23 rfl rfl ?_
      refine vv_getI 24 dX12_isFull_24 fl_12_253 rfl (g_l_291 hG6) ?_
      refine vv_if_eq 27 34 dX12_isFull_27 (by decide) (fun c9 => ?_) (fun c9 => ?_)
      · rw [if_pos c9] at h
        refine vv_iconst 34 dX12_isFull_34 ik_0 ?_
        obtain ⟨e1, e2⟩ := sh_some2 h
        refine vv_zret 35 dX12_isFull_35 rfl rfl (Nat.le_refl _) (Nat.le_refl _) ⟨by rw [e1], e2⟩
      · rw [if_neg c9] at h
        refine vv_iconst 30 dX12_isFull_30 ik_1 ?_
        refine vv_goto 31 35 dX12_isFull_31 (by decide) ?_
        obtain ⟨e1, e2⟩ := sh_some2 h
        refine vv_zret 35 dX12_isFull_35 rfl rfl (Nat.le_refl _) (Nat.le_refl _) ⟨by rw [e1], e2⟩
noncomputable def F_X12_newName : Nat → Nat → Int64 → Int32 → Int32 → sh_Mem → Option (Int64 × sh_Mem)
  | 0, _, _, _, _, _ => none
  | fuel + 1, lbl, l1, i3, i4, μ => match lbl with
    | 1 => (if 2 ≤ i3 then some (l1, μ) else F_X12_newName fuel 2 l1 i3 0 μ)
    | 2 => (if sh_in i3 6 then (if (sh_i μ 322 i3.toNatClampNeg) ≤ i4 then F_X12_newName fuel 1 l1 (i3 + 1) 0 μ else (if (sh_i μ 291 5) = 0 then (if sh_in ((8 * i3) + i4) 32 then (if (lg_cmp (sh_l μ 323 (((8 * i3) + i4)).toNatClampNeg) l1) = 0 then sh_bindv (f_X12_fail 3 (sh_i μ 291 38) μ) (fun μ28 => F_X12_newName fuel 2 l1 i3 (i4 + 1) μ28) else F_X12_newName fuel 2 l1 i3 (i4 + 1) μ) else none) else F_X12_newName fuel 2 l1 i3 (i4 + 1) μ)) else none)
    | _ => none
noncomputable def f_X12_newName (μ : sh_Mem) : Option (Int64 × sh_Mem) := sh_bind (f_X12_name μ) (fun y33 μ31 => F_X12_newName sh_fuel 1 y33 0 0 μ31)
theorem gpl_X12_newName (fuel : Nat) : (∀ ⦃l1 : Int64⦄ ⦃i3 : Int32⦄ ⦃i4 : Int32⦄ ⦃μ μ' : sh_Mem⦄ ⦃v : Int64⦄, sh_G μ → F_X12_newName fuel 1 l1 i3 i4 μ = some (v, μ') → sh_G μ') ∧ (∀ ⦃l1 : Int64⦄ ⦃i3 : Int32⦄ ⦃i4 : Int32⦄ ⦃μ μ' : sh_Mem⦄ ⦃v : Int64⦄, sh_G μ → F_X12_newName fuel 2 l1 i3 i4 μ = some (v, μ') → sh_G μ') := by
  induction fuel with
  | zero => exact ⟨(by intro l1 i3 i4 μ μ' v hG h; cases h), (by intro l1 i3 i4 μ μ' v hG h; cases h)⟩
  | succ fuel ih =>
    obtain ⟨ih_7, ih_15⟩ := ih
    refine ⟨?_, ?_⟩
    · intro l1 i3 i4 μ μ' v hG h
      replace h : ((if 2 ≤ i3 then some (l1, μ) else F_X12_newName fuel 2 l1 i3 0 μ) : Option (Int64 × sh_Mem)) = some (v, μ') := h
      by_cases c22 : 2 ≤ i3
      · rw [if_pos c22] at h
        obtain ⟨e1, e2⟩ := sh_some2 h
        exact e2 ▸ hG
      · rw [if_neg c22] at h
        exact ih_15 hG h
    · intro l1 i3 i4 μ μ' v hG h
      replace h : ((if sh_in i3 6 then (if (sh_i μ 322 i3.toNatClampNeg) ≤ i4 then F_X12_newName fuel 1 l1 (i3 + 1) 0 μ else (if (sh_i μ 291 5) = 0 then (if sh_in ((8 * i3) + i4) 32 then (if (lg_cmp (sh_l μ 323 (((8 * i3) + i4)).toNatClampNeg) l1) = 0 then sh_bindv (f_X12_fail 3 (sh_i μ 291 38) μ) (fun μ28 => F_X12_newName fuel 2 l1 i3 (i4 + 1) μ28) else F_X12_newName fuel 2 l1 i3 (i4 + 1) μ) else none) else F_X12_newName fuel 2 l1 i3 (i4 + 1) μ)) else none) : Option (Int64 × sh_Mem)) = some (v, μ') := h
      obtain ⟨k23, h⟩ := sh_chk h
      by_cases c24 : (sh_i μ 322 i3.toNatClampNeg) ≤ i4
      · rw [if_pos c24] at h
        exact ih_7 hG h
      · rw [if_neg c24] at h
        by_cases c25 : (sh_i μ 291 5) = 0
        · rw [if_pos c25] at h
          obtain ⟨k26, h⟩ := sh_chk h
          by_cases c27 : (lg_cmp (sh_l μ 323 (((8 * i3) + i4)).toNatClampNeg) l1) = 0
          · rw [if_pos c27] at h
            obtain ⟨μ28, hr29, h⟩ := sh_bindv_e h
            have hG28 := gp_X12_fail hG hr29
            exact ih_15 hG28 h
          · rw [if_neg c27] at h
            exact ih_15 hG h
        · rw [if_neg c25] at h
          exact ih_15 hG h
theorem tl_X12_newName (fuel : Nat) : (∀ ⦃l1 : Int64⦄ ⦃i3 : Int32⦄ ⦃i4 : Int32⦄ ⦃μ μ' : sh_Mem⦄ ⦃v : Int64⦄, sh_G μ → F_X12_newName fuel 1 l1 i3 i4 μ = some (v, μ') → sh_V0 l B D ca 5 M_X12_newName 7 [(0, .ref 291), (1, .long l1), (3, .int i3)] [] μ (fun v0 μ0 => v0 = some (.long v) ∧ μ0 = μ')) ∧ (∀ ⦃l1 : Int64⦄ ⦃i3 : Int32⦄ ⦃i4 : Int32⦄ ⦃μ μ' : sh_Mem⦄ ⦃v : Int64⦄, sh_G μ → F_X12_newName fuel 2 l1 i3 i4 μ = some (v, μ') → sh_V0 l B D ca 5 M_X12_newName 15 [(0, .ref 291), (1, .long l1), (3, .int i3), (4, .int i4)] [] μ (fun v0 μ0 => v0 = some (.long v) ∧ μ0 = μ')) := by
  induction fuel with
  | zero => exact ⟨(by intro l1 i3 i4 μ μ' v hG h; cases h), (by intro l1 i3 i4 μ μ' v hG h; cases h)⟩
  | succ fuel ih =>
    obtain ⟨ih_7, ih_15⟩ := ih
    refine ⟨?_, ?_⟩
    · intro l1 i3 i4 μ μ' v hG h
      replace h : ((if 2 ≤ i3 then some (l1, μ) else F_X12_newName fuel 2 l1 i3 0 μ) : Option (Int64 × sh_Mem)) = some (v, μ') := h
      refine vv_iload_n 7 3 dX12_newName_7 rfl rfl ?_
      refine vv_iconst 8 dX12_newName_8 ik_2 ?_
      refine vv_icmp_ge 9 71 dX12_newName_9 (by decide) (fun c22 => ?_) (fun c22 => ?_)
      · rw [if_pos c22] at h
        refine vv_lload_n 71 1 dX12_newName_71 rfl rfl ?_
        obtain ⟨e1, e2⟩ := sh_some2 h
        refine vv_lret 72 dX12_newName_72 rfl (Nat.le_refl _) (Nat.le_refl _) ⟨by rw [e1], e2⟩
      · rw [if_neg c22] at h
        refine vv_iconst 12 dX12_newName_12 ik_0 ?_
        refine vv_istore (lv' := [(4, _), (0, _), (1, _), (3, _)]) 13 4 dX12_newName_13 (by decide) rfl ?_
        refine vv_sub [(0, _), (1, _), (3, _), (4, _)] (sh_subm [1, 2, 3, 0] rfl) ?_
        exact ih_15 hG h
    · intro l1 i3 i4 μ μ' v hG h
      replace h : ((if sh_in i3 6 then (if (sh_i μ 322 i3.toNatClampNeg) ≤ i4 then F_X12_newName fuel 1 l1 (i3 + 1) 0 μ else (if (sh_i μ 291 5) = 0 then (if sh_in ((8 * i3) + i4) 32 then (if (lg_cmp (sh_l μ 323 (((8 * i3) + i4)).toNatClampNeg) l1) = 0 then sh_bindv (f_X12_fail 3 (sh_i μ 291 38) μ) (fun μ28 => F_X12_newName fuel 2 l1 i3 (i4 + 1) μ28) else F_X12_newName fuel 2 l1 i3 (i4 + 1) μ) else none) else F_X12_newName fuel 2 l1 i3 (i4 + 1) μ)) else none) : Option (Int64 × sh_Mem)) = some (v, μ') := h
      refine vv_iload 15 4 dX12_newName_15 rfl ?_
      refine vv_aload_n 17 0 dX12_newName_17 rfl rfl ?_
      refine vv_getR 18 dX12_newName_18 fl_12_105 rfl (g_l_291 hG) (g_r_291_40 hG) ?_
      refine vv_iload_n 21 3 dX12_newName_21 rfl rfl ?_
      obtain ⟨k23, h⟩ := sh_chk h
      refine vv_iald 22 dX12_newName_22 (g_l_322 hG) k23 ?_
      refine vv_icmp_ge 23 65 dX12_newName_23 (by decide) (fun c24 => ?_) (fun c24 => ?_)
      · rw [if_pos c24] at h
        refine vv_iincc (lv' := [(3, _), (0, _), (1, _), (4, _)]) 65 3 dX12_newName_65 rfl ik_1 (by decide) rfl ?_
        refine vv_goto 68 7 dX12_newName_68 (by decide) ?_
        refine vv_sub [(0, _), (1, _), (3, _)] (sh_subm [1, 2, 0] rfl) ?_
        exact ih_7 hG h
      · rw [if_neg c24] at h
        refine vv_aload_n 26 0 dX12_newName_26 rfl rfl ?_
        refine vv_getI 27 dX12_newName_27 fl_12_253 rfl (g_l_291 hG) ?_
        refine vv_if_ne 30 59 dX12_newName_30 (by decide) (fun c25 => ?_) (fun c25 => ?_)
        · rw [if_neg c25] at h
          refine vv_iincc (lv' := [(4, _), (0, _), (1, _), (3, _)]) 59 4 dX12_newName_59 rfl ik_1 (by decide) rfl ?_
          refine vv_goto 62 15 dX12_newName_62 (by decide) ?_
          refine vv_sub [(0, _), (1, _), (3, _), (4, _)] (sh_subm [1, 2, 3, 0] rfl) ?_
          exact ih_15 hG h
        · rw [if_pos c25] at h
          refine vv_aload_n 33 0 dX12_newName_33 rfl rfl ?_
          refine vv_getR 34 dX12_newName_34 fl_12_108 rfl (g_l_291 hG) (g_r_291_41 hG) ?_
          refine vv_bipush 37 dX12_newName_37 bk_8 ?_
          refine vv_iload_n 39 3 dX12_newName_39 rfl rfl ?_
          refine vv_imul 40 dX12_newName_40 ?_
          refine vv_iload 41 4 dX12_newName_41 rfl ?_
          refine vv_iadd 43 dX12_newName_43 ?_
          obtain ⟨k26, h⟩ := sh_chk h
          refine vv_lald 44 dX12_newName_44 (g_l_323 hG) k26 ?_
          refine vv_lload_n 45 1 dX12_newName_45 rfl rfl ?_
          refine vv_lcmp 46 dX12_newName_46 ?_
          refine vv_if_ne 47 59 dX12_newName_47 (by decide) (fun c27 => ?_) (fun c27 => ?_)
          · rw [if_neg c27] at h
            refine vv_iincc (lv' := [(4, _), (0, _), (1, _), (3, _)]) 59 4 dX12_newName_59 rfl ik_1 (by decide) rfl ?_
            refine vv_goto 62 15 dX12_newName_62 (by decide) ?_
            refine vv_sub [(0, _), (1, _), (3, _), (4, _)] (sh_subm [1, 2, 3, 0] rfl) ?_
            exact ih_15 hG h
          · rw [if_pos c27] at h
            refine vv_aload_n 50 0 dX12_newName_50 rfl rfl ?_
            refine vv_iconst 51 dX12_newName_51 ik_3 ?_
            refine vv_aload_n 52 0 dX12_newName_52 rfl rfl ?_
            refine vv_getI 53 dX12_newName_53 fl_12_304 rfl (g_l_291 hG) ?_
            obtain ⟨μ28, hr29, h⟩ := sh_bindv_e h
            refine v1_callV [_, _] 56 dX12_newName_56 ck_X12_283 (g_l_291 hG) ⟨by decide, rfl⟩ (t_X12_fail hG hr29) (Nat.le_of_ble_eq_true rfl) ⟨Nat.le_of_ble_eq_true rfl, Nat.le_of_ble_eq_true rfl⟩ rfl (Nat.le_of_ble_eq_true rfl) ?_
            have hG28 := gp_X12_fail hG hr29
            refine vv_iincc (lv' := [(4, _), (0, _), (1, _), (3, _)]) 59 4 dX12_newName_59 rfl ik_1 (by decide) rfl ?_
            refine vv_goto 62 15 dX12_newName_62 (by decide) ?_
            refine vv_sub [(0, _), (1, _), (3, _), (4, _)] (sh_subm [1, 2, 3, 0] rfl) ?_
            exact ih_15 hG28 h
theorem gp_X12_newName {μ μ' : sh_Mem} {v : Int64} (hG : sh_G μ) (h : f_X12_newName μ = some (v, μ')) : sh_G μ' := by
  have ih_7 := (gpl_X12_newName sh_fuel).1
  have ih_15 := (gpl_X12_newName sh_fuel).2
  unfold f_X12_newName at h
  obtain ⟨y33, μ31, hr32, h⟩ := sh_bind_e h
  have hG31 := gp_X12_name hG hr32
  exact ih_7 hG31 h
theorem t_X12_newName {μ μ' : sh_Mem} {v : Int64} (hG : sh_G μ) (h : f_X12_newName μ = some (v, μ')) : sh_C0 l B D ca 5 M_X12_newName [.ref 291] μ (fun v0 μ0 => v0 = some (.long v) ∧ μ0 = μ') := by
  have ih_7 := (tl_X12_newName (l := l) (B := B) (D := D) (ca := ca) sh_fuel).1
  have ih_15 := (tl_X12_newName (l := l) (B := B) (D := D) (ca := ca) sh_fuel).2
  unfold f_X12_newName at h
  refine vv_aload_n 0 0 dX12_newName_0 rfl rfl ?_
  obtain ⟨y33, μ31, hr32, h⟩ := sh_bind_e h
  refine v1_callV [] 1 dX12_newName_1 ck_X12_314 (g_l_291 hG) ⟨by decide, rfl⟩ (t_X12_name hG hr32) (Nat.le_of_ble_eq_true rfl) ⟨Nat.le_of_ble_eq_true rfl, Nat.le_of_ble_eq_true rfl⟩ rfl (Nat.le_of_ble_eq_true rfl) ?_
  have hG31 := gp_X12_name hG hr32
  refine vv_lstore_n (lv' := [(1, _), (0, _)]) 4 1 dX12_newName_4 rfl (by decide) rfl ?_
  refine vv_iconst 5 dX12_newName_5 ik_0 ?_
  refine vv_istore_n (lv' := [(3, _), (1, _), (0, _)]) 6 3 dX12_newName_6 rfl (by decide) rfl ?_
  refine vv_sub [(0, _), (1, _), (3, _)] (sh_subm [2, 1, 0] rfl) ?_
  exact ih_7 hG31 h
noncomputable def F_X12_named : Nat → Nat → Int32 → Int64 → Int32 → sh_Mem → Option (Int32 × sh_Mem)
  | 0, _, _, _, _, _ => none
  | fuel + 1, lbl, i1, l2, i4, μ => match lbl with
    | 1 => (if sh_in i1 6 then (if (sh_i μ 322 i1.toNatClampNeg) ≤ i4 then (if (sh_i μ 291 5) = 0 then sh_bindv (f_X12_fail 3 (sh_i μ 291 38) μ) (fun μ15 => some (0, μ15)) else some (0, μ)) else (if sh_in ((8 * i1) + i4) 32 then (if (lg_cmp (sh_l μ 323 (((8 * i1) + i4)).toNatClampNeg) l2) = 0 then some (i4, μ) else F_X12_named fuel 1 i1 l2 (i4 + 1) μ) else none)) else none)
    | _ => none
noncomputable def f_X12_named (a1 : Int32) (μ : sh_Mem) : Option (Int32 × sh_Mem) := sh_bind (f_X12_name μ) (fun y22 μ20 => F_X12_named sh_fuel 1 a1 y22 0 μ20)
theorem gpl_X12_named (fuel : Nat) : (∀ ⦃i1 : Int32⦄ ⦃l2 : Int64⦄ ⦃i4 : Int32⦄ ⦃μ μ' : sh_Mem⦄ ⦃v : Int32⦄, sh_G μ → F_X12_named fuel 1 i1 l2 i4 μ = some (v, μ') → sh_G μ') := by
  induction fuel with
  | zero => intro i1 l2 i4 μ μ' v hG h; cases h
  | succ fuel ih =>
    have ih_8 := ih
    intro i1 l2 i4 μ μ' v hG h
    replace h : ((if sh_in i1 6 then (if (sh_i μ 322 i1.toNatClampNeg) ≤ i4 then (if (sh_i μ 291 5) = 0 then sh_bindv (f_X12_fail 3 (sh_i μ 291 38) μ) (fun μ15 => some (0, μ15)) else some (0, μ)) else (if sh_in ((8 * i1) + i4) 32 then (if (lg_cmp (sh_l μ 323 (((8 * i1) + i4)).toNatClampNeg) l2) = 0 then some (i4, μ) else F_X12_named fuel 1 i1 l2 (i4 + 1) μ) else none)) else none) : Option (Int32 × sh_Mem)) = some (v, μ') := h
    obtain ⟨k12, h⟩ := sh_chk h
    by_cases c13 : (sh_i μ 322 i1.toNatClampNeg) ≤ i4
    · rw [if_pos c13] at h
      by_cases c14 : (sh_i μ 291 5) = 0
      · rw [if_pos c14] at h
        obtain ⟨μ15, hr16, h⟩ := sh_bindv_e h
        have hG15 := gp_X12_fail hG hr16
        obtain ⟨e1, e2⟩ := sh_some2 h
        exact e2 ▸ hG15
      · rw [if_neg c14] at h
        obtain ⟨e1, e2⟩ := sh_some2 h
        exact e2 ▸ hG
    · rw [if_neg c13] at h
      obtain ⟨k18, h⟩ := sh_chk h
      by_cases c19 : (lg_cmp (sh_l μ 323 (((8 * i1) + i4)).toNatClampNeg) l2) = 0
      · rw [if_pos c19] at h
        obtain ⟨e1, e2⟩ := sh_some2 h
        exact e2 ▸ hG
      · rw [if_neg c19] at h
        exact ih_8 hG h
theorem tl_X12_named (fuel : Nat) : (∀ ⦃i1 : Int32⦄ ⦃l2 : Int64⦄ ⦃i4 : Int32⦄ ⦃μ μ' : sh_Mem⦄ ⦃v : Int32⦄, sh_G μ → F_X12_named fuel 1 i1 l2 i4 μ = some (v, μ') → sh_V0 l B D ca 5 M_X12_named 8 [(0, .ref 291), (1, .int i1), (2, .long l2), (4, .int i4)] [] μ (fun v0 μ0 => v0 = some (.int v) ∧ μ0 = μ')) := by
  induction fuel with
  | zero => intro i1 l2 i4 μ μ' v hG h; cases h
  | succ fuel ih =>
    have ih_8 := ih
    intro i1 l2 i4 μ μ' v hG h
    replace h : ((if sh_in i1 6 then (if (sh_i μ 322 i1.toNatClampNeg) ≤ i4 then (if (sh_i μ 291 5) = 0 then sh_bindv (f_X12_fail 3 (sh_i μ 291 38) μ) (fun μ15 => some (0, μ15)) else some (0, μ)) else (if sh_in ((8 * i1) + i4) 32 then (if (lg_cmp (sh_l μ 323 (((8 * i1) + i4)).toNatClampNeg) l2) = 0 then some (i4, μ) else F_X12_named fuel 1 i1 l2 (i4 + 1) μ) else none)) else none) : Option (Int32 × sh_Mem)) = some (v, μ') := h
    refine vv_iload 8 4 dX12_named_8 rfl ?_
    refine vv_aload_n 10 0 dX12_named_10 rfl rfl ?_
    refine vv_getR 11 dX12_named_11 fl_12_105 rfl (g_l_291 hG) (g_r_291_40 hG) ?_
    refine vv_iload_n 14 1 dX12_named_14 rfl rfl ?_
    obtain ⟨k12, h⟩ := sh_chk h
    refine vv_iald 15 dX12_named_15 (g_l_322 hG) k12 ?_
    refine vv_icmp_ge 16 45 dX12_named_16 (by decide) (fun c13 => ?_) (fun c13 => ?_)
    · rw [if_pos c13] at h
      refine vv_aload_n 45 0 dX12_named_45 rfl rfl ?_
      refine vv_getI 46 dX12_named_46 fl_12_253 rfl (g_l_291 hG) ?_
      refine vv_if_ne 49 61 dX12_named_49 (by decide) (fun c14 => ?_) (fun c14 => ?_)
      · rw [if_neg c14] at h
        refine vv_iconst 61 dX12_named_61 ik_0 ?_
        obtain ⟨e1, e2⟩ := sh_some2 h
        refine vv_iret 62 dX12_named_62 rfl (Nat.le_refl _) (Nat.le_refl _) ⟨by rw [e1], e2⟩
      · rw [if_pos c14] at h
        refine vv_aload_n 52 0 dX12_named_52 rfl rfl ?_
        refine vv_iconst 53 dX12_named_53 ik_3 ?_
        refine vv_aload_n 54 0 dX12_named_54 rfl rfl ?_
        refine vv_getI 55 dX12_named_55 fl_12_304 rfl (g_l_291 hG) ?_
        obtain ⟨μ15, hr16, h⟩ := sh_bindv_e h
        refine v1_callV [_, _] 58 dX12_named_58 ck_X12_283 (g_l_291 hG) ⟨by decide, rfl⟩ (t_X12_fail hG hr16) (Nat.le_of_ble_eq_true rfl) ⟨Nat.le_of_ble_eq_true rfl, Nat.le_of_ble_eq_true rfl⟩ rfl (Nat.le_of_ble_eq_true rfl) ?_
        have hG15 := gp_X12_fail hG hr16
        refine vv_iconst 61 dX12_named_61 ik_0 ?_
        obtain ⟨e1, e2⟩ := sh_some2 h
        refine vv_iret 62 dX12_named_62 rfl (Nat.le_refl _) (Nat.le_refl _) ⟨by rw [e1], e2⟩
    · rw [if_neg c13] at h
      refine vv_aload_n 19 0 dX12_named_19 rfl rfl ?_
      refine vv_getR 20 dX12_named_20 fl_12_108 rfl (g_l_291 hG) (g_r_291_41 hG) ?_
      refine vv_bipush 23 dX12_named_23 bk_8 ?_
      refine vv_iload_n 25 1 dX12_named_25 rfl rfl ?_
      refine vv_imul 26 dX12_named_26 ?_
      refine vv_iload 27 4 dX12_named_27 rfl ?_
      refine vv_iadd 29 dX12_named_29 ?_
      obtain ⟨k18, h⟩ := sh_chk h
      refine vv_lald 30 dX12_named_30 (g_l_323 hG) k18 ?_
      refine vv_lload_n 31 2 dX12_named_31 rfl rfl ?_
      refine vv_lcmp 32 dX12_named_32 ?_
      refine vv_if_ne 33 39 dX12_named_33 (by decide) (fun c19 => ?_) (fun c19 => ?_)
      · rw [if_neg c19] at h
        refine vv_iincc (lv' := [(4, _), (0, _), (1, _), (2, _)]) 39 4 dX12_named_39 rfl ik_1 (by decide) rfl ?_
        refine vv_goto 42 8 dX12_named_42 (by decide) ?_
        refine vv_sub [(0, _), (1, _), (2, _), (4, _)] (sh_subm [1, 2, 3, 0] rfl) ?_
        exact ih_8 hG h
      · rw [if_pos c19] at h
        refine vv_iload 36 4 dX12_named_36 rfl ?_
        obtain ⟨e1, e2⟩ := sh_some2 h
        refine vv_iret 38 dX12_named_38 rfl (Nat.le_refl _) (Nat.le_refl _) ⟨by rw [e1], e2⟩
theorem gp_X12_named {a1 : Int32} {μ μ' : sh_Mem} {v : Int32} (hG : sh_G μ) (h : f_X12_named a1 μ = some (v, μ')) : sh_G μ' := by
  have ih_8 := (gpl_X12_named sh_fuel)
  unfold f_X12_named at h
  obtain ⟨y22, μ20, hr21, h⟩ := sh_bind_e h
  have hG20 := gp_X12_name hG hr21
  exact ih_8 hG20 h
theorem t_X12_named {a1 : Int32} {μ μ' : sh_Mem} {v : Int32} (hG : sh_G μ) (h : f_X12_named a1 μ = some (v, μ')) : sh_C0 l B D ca 5 M_X12_named [.ref 291, .int a1] μ (fun v0 μ0 => v0 = some (.int v) ∧ μ0 = μ') := by
  have ih_8 := (tl_X12_named (l := l) (B := B) (D := D) (ca := ca) sh_fuel)
  unfold f_X12_named at h
  refine vv_aload_n 0 0 dX12_named_0 rfl rfl ?_
  obtain ⟨y22, μ20, hr21, h⟩ := sh_bind_e h
  refine v1_callV [] 1 dX12_named_1 ck_X12_314 (g_l_291 hG) ⟨by decide, rfl⟩ (t_X12_name hG hr21) (Nat.le_of_ble_eq_true rfl) ⟨Nat.le_of_ble_eq_true rfl, Nat.le_of_ble_eq_true rfl⟩ rfl (Nat.le_of_ble_eq_true rfl) ?_
  have hG20 := gp_X12_name hG hr21
  refine vv_lstore_n (lv' := [(2, _), (0, _), (1, _)]) 4 2 dX12_named_4 rfl (by decide) rfl ?_
  refine vv_iconst 5 dX12_named_5 ik_0 ?_
  refine vv_istore (lv' := [(4, _), (2, _), (0, _), (1, _)]) 6 4 dX12_named_6 (by decide) rfl ?_
  refine vv_sub [(0, _), (1, _), (2, _), (4, _)] (sh_subm [2, 3, 1, 0] rfl) ?_
  exact ih_8 hG20 h
noncomputable def f_X12_plainTold (μ : sh_Mem) : Option sh_Mem := sh_bindv (f_X12_needs 294 5 μ) (fun μ1 => sh_bind (f_X12_number 3 7 μ1) (fun y6 μ4 => sh_let (sh_setI μ4 321 (Int32.toNatClampNeg 0) y6) (fun μ7 => sh_bindv (f_X12_needs 295 2 μ7) (fun μ8 => sh_bind (f_X12_number 3 7 μ8) (fun y13 μ11 => sh_let (sh_setI μ11 321 (Int32.toNatClampNeg 1) y13) (fun μ14 => sh_bindv (f_X12_asksSign 59 μ14) (fun μ15 => some μ15)))))))
theorem gp_X12_plainTold {μ μ' : sh_Mem} (hG : sh_G μ) (h : f_X12_plainTold μ = some μ') : sh_G μ' := by
  unfold f_X12_plainTold at h
  obtain ⟨μ1, hr2, h⟩ := sh_bindv_e h
  have hG1 := gp_X12_needs hG (sh_LAYat_294) hr2
  obtain ⟨y6, μ4, hr5, h⟩ := sh_bind_e h
  have hG4 := gp_X12_number hG1 hr5
  obtain ⟨μ7, eμ7⟩ : ∃ y : sh_Mem, y = (sh_setI μ4 321 (Int32.toNatClampNeg 0) y6) := ⟨_, rfl⟩
  rw [sh_let_eq eμ7] at h
  have hG7 : sh_G μ7 := by rw [eμ7]; exact hG4
  obtain ⟨μ8, hr9, h⟩ := sh_bindv_e h
  have hG8 := gp_X12_needs hG7 (sh_LAYat_295) hr9
  obtain ⟨y13, μ11, hr12, h⟩ := sh_bind_e h
  have hG11 := gp_X12_number hG8 hr12
  obtain ⟨μ14, eμ14⟩ : ∃ y : sh_Mem, y = (sh_setI μ11 321 (Int32.toNatClampNeg 1) y13) := ⟨_, rfl⟩
  rw [sh_let_eq eμ14] at h
  have hG14 : sh_G μ14 := by rw [eμ14]; exact hG11
  obtain ⟨μ15, hr16, h⟩ := sh_bindv_e h
  have hG15 := gp_X12_asksSign hG14 hr16
  have e2 := Option.some.inj h
  exact e2 ▸ hG15
theorem t_X12_plainTold {μ μ' : sh_Mem} (hG : sh_G μ) (h : f_X12_plainTold μ = some μ') : sh_C0 l B D ca 5 M_X12_plainTold [.ref 291] μ (fun v0 μ0 => v0 = none ∧ μ0 = μ') := by
  unfold f_X12_plainTold at h
  refine vv_aload_n 0 0 dX12_plainTold_0 rfl rfl ?_
  refine vv_aload_n 1 0 dX12_plainTold_1 rfl rfl ?_
  refine vv_getR 2 dX12_plainTold_2 fl_12_20 rfl (g_l_291 hG) (g_r_291_11 hG) ?_
  obtain ⟨μ1, hr2, h⟩ := sh_bindv_e h
  refine v1_callV [_] 5 dX12_plainTold_5 ck_X12_318 (g_l_291 hG) ⟨by decide, rfl⟩ (t_X12_needs hG (sh_LAYat_294) hr2) (Nat.le_of_ble_eq_true rfl) ⟨Nat.le_of_ble_eq_true rfl, Nat.le_of_ble_eq_true rfl⟩ rfl (Nat.le_of_ble_eq_true rfl) ?_
  have hG1 := gp_X12_needs hG (sh_LAYat_294) hr2
  refine vv_aload_n 8 0 dX12_plainTold_8 rfl rfl ?_
  refine vv_getR 9 dX12_plainTold_9 fl_12_102 rfl (g_l_291 hG1) (g_r_291_39 hG1) ?_
  refine vv_iconst 12 dX12_plainTold_12 ik_0 ?_
  refine vv_aload_n 13 0 dX12_plainTold_13 rfl rfl ?_
  refine vv_iconst 14 dX12_plainTold_14 ik_3 ?_
  refine vv_bipush 15 dX12_plainTold_15 bk_7 ?_
  obtain ⟨y6, μ4, hr5, h⟩ := sh_bind_e h
  refine v1_callV [_, _] 17 dX12_plainTold_17 ck_X12_322 (g_l_291 hG1) ⟨by decide, rfl⟩ (t_X12_number hG1 hr5) (Nat.le_of_ble_eq_true rfl) ⟨Nat.le_of_ble_eq_true rfl, Nat.le_of_ble_eq_true rfl⟩ rfl (Nat.le_of_ble_eq_true rfl) ?_
  have hG4 := gp_X12_number hG1 hr5
  refine vn_iast 20 dX12_plainTold_20 (g_l_321 hG4) (by unfold vp_in; decide) (fun μ7 eμ7 => ?_)
  rw [sh_let_eq eμ7] at h
  have hG7 : sh_G μ7 := by rw [eμ7]; exact hG4
  refine vv_aload_n 21 0 dX12_plainTold_21 rfl rfl ?_
  refine vv_aload_n 22 0 dX12_plainTold_22 rfl rfl ?_
  refine vv_getR 23 dX12_plainTold_23 fl_12_24 rfl (g_l_291 hG7) (g_r_291_12 hG7) ?_
  obtain ⟨μ8, hr9, h⟩ := sh_bindv_e h
  refine v1_callV [_] 26 dX12_plainTold_26 ck_X12_318 (g_l_291 hG7) ⟨by decide, rfl⟩ (t_X12_needs hG7 (sh_LAYat_295) hr9) (Nat.le_of_ble_eq_true rfl) ⟨Nat.le_of_ble_eq_true rfl, Nat.le_of_ble_eq_true rfl⟩ rfl (Nat.le_of_ble_eq_true rfl) ?_
  have hG8 := gp_X12_needs hG7 (sh_LAYat_295) hr9
  refine vv_aload_n 29 0 dX12_plainTold_29 rfl rfl ?_
  refine vv_getR 30 dX12_plainTold_30 fl_12_102 rfl (g_l_291 hG8) (g_r_291_39 hG8) ?_
  refine vv_iconst 33 dX12_plainTold_33 ik_1 ?_
  refine vv_aload_n 34 0 dX12_plainTold_34 rfl rfl ?_
  refine vv_iconst 35 dX12_plainTold_35 ik_3 ?_
  refine vv_bipush 36 dX12_plainTold_36 bk_7 ?_
  obtain ⟨y13, μ11, hr12, h⟩ := sh_bind_e h
  refine v1_callV [_, _] 38 dX12_plainTold_38 ck_X12_322 (g_l_291 hG8) ⟨by decide, rfl⟩ (t_X12_number hG8 hr12) (Nat.le_of_ble_eq_true rfl) ⟨Nat.le_of_ble_eq_true rfl, Nat.le_of_ble_eq_true rfl⟩ rfl (Nat.le_of_ble_eq_true rfl) ?_
  have hG11 := gp_X12_number hG8 hr12
  refine vn_iast 41 dX12_plainTold_41 (g_l_321 hG11) (by unfold vp_in; decide) (fun μ14 eμ14 => ?_)
  rw [sh_let_eq eμ14] at h
  have hG14 : sh_G μ14 := by rw [eμ14]; exact hG11
  refine vv_aload_n 42 0 dX12_plainTold_42 rfl rfl ?_
  refine vv_bipush 43 dX12_plainTold_43 bk_59 ?_
  obtain ⟨μ15, hr16, h⟩ := sh_bindv_e h
  refine v1_callV [_] 45 dX12_plainTold_45 ck_X12_326 (g_l_291 hG14) ⟨by decide, rfl⟩ (t_X12_asksSign hG14 hr16) (Nat.le_of_ble_eq_true rfl) ⟨Nat.le_of_ble_eq_true rfl, Nat.le_of_ble_eq_true rfl⟩ rfl (Nat.le_of_ble_eq_true rfl) ?_
  have hG15 := gp_X12_asksSign hG14 hr16
  have e2 := Option.some.inj h
  refine vv_vret 48 dX12_plainTold_48 rfl (Nat.le_refl _) (Nat.le_refl _) ⟨rfl, e2⟩
noncomputable def f_X12_cellTold (μ : sh_Mem) : Option (Int32 × sh_Mem) := sh_bind (f_X12_number 0 ((sh_i μ 321 (Int32.toNatClampNeg 0)) - 1) μ) (fun y3 μ1 => sh_bind (f_X12_number 0 ((sh_i μ1 321 (Int32.toNatClampNeg 1)) - 1) μ1) (fun y6 μ4 => (if (sh_i μ4 291 5) = 0 then some ((y3 + (7 * y6)), μ4) else some (0, μ4))))
theorem gp_X12_cellTold {μ μ' : sh_Mem} {v : Int32} (hG : sh_G μ) (h : f_X12_cellTold μ = some (v, μ')) : sh_G μ' := by
  unfold f_X12_cellTold at h
  obtain ⟨y3, μ1, hr2, h⟩ := sh_bind_e h
  have hG1 := gp_X12_number hG hr2
  obtain ⟨y6, μ4, hr5, h⟩ := sh_bind_e h
  have hG4 := gp_X12_number hG1 hr5
  by_cases c7 : (sh_i μ4 291 5) = 0
  · rw [if_pos c7] at h
    obtain ⟨e1, e2⟩ := sh_some2 h
    exact e2 ▸ hG4
  · rw [if_neg c7] at h
    obtain ⟨e1, e2⟩ := sh_some2 h
    exact e2 ▸ hG4
theorem t_X12_cellTold {μ μ' : sh_Mem} {v : Int32} (hG : sh_G μ) (h : f_X12_cellTold μ = some (v, μ')) : sh_C0 l B D ca 3 M_X12_cellTold [.ref 291] μ (fun v0 μ0 => v0 = some (.int v) ∧ μ0 = μ') := by
  unfold f_X12_cellTold at h
  refine vv_aload_n 0 0 dX12_cellTold_0 rfl rfl ?_
  refine vv_iconst 1 dX12_cellTold_1 ik_0 ?_
  refine vv_aload_n 2 0 dX12_cellTold_2 rfl rfl ?_
  refine vv_getR 3 dX12_cellTold_3 fl_12_102 rfl (g_l_291 hG) (g_r_291_39 hG) ?_
  refine vv_iconst 6 dX12_cellTold_6 ik_0 ?_
  refine vv_iald 7 dX12_cellTold_7 (g_l_321 hG) (by unfold vp_in; decide) ?_
  refine vv_iconst 8 dX12_cellTold_8 ik_1 ?_
  refine vv_isub 9 dX12_cellTold_9 ?_
  obtain ⟨y3, μ1, hr2, h⟩ := sh_bind_e h
  refine v1_callV [_, _] 10 dX12_cellTold_10 ck_X12_322 (g_l_291 hG) ⟨by decide, rfl⟩ (t_X12_number hG hr2) (Nat.le_of_ble_eq_true rfl) ⟨Nat.le_of_ble_eq_true rfl, Nat.le_of_ble_eq_true rfl⟩ rfl (Nat.le_of_ble_eq_true rfl) ?_
  have hG1 := gp_X12_number hG hr2
  refine vv_istore_n (lv' := [(1, _), (0, _)]) 13 1 dX12_cellTold_13 rfl (by decide) rfl ?_
  refine vv_aload_n 14 0 dX12_cellTold_14 rfl rfl ?_
  refine vv_iconst 15 dX12_cellTold_15 ik_0 ?_
  refine vv_aload_n 16 0 dX12_cellTold_16 rfl rfl ?_
  refine vv_getR 17 dX12_cellTold_17 fl_12_102 rfl (g_l_291 hG1) (g_r_291_39 hG1) ?_
  refine vv_iconst 20 dX12_cellTold_20 ik_1 ?_
  refine vv_iald 21 dX12_cellTold_21 (g_l_321 hG1) (by unfold vp_in; decide) ?_
  refine vv_iconst 22 dX12_cellTold_22 ik_1 ?_
  refine vv_isub 23 dX12_cellTold_23 ?_
  obtain ⟨y6, μ4, hr5, h⟩ := sh_bind_e h
  refine v1_callV [_, _] 24 dX12_cellTold_24 ck_X12_322 (g_l_291 hG1) ⟨by decide, rfl⟩ (t_X12_number hG1 hr5) (Nat.le_of_ble_eq_true rfl) ⟨Nat.le_of_ble_eq_true rfl, Nat.le_of_ble_eq_true rfl⟩ rfl (Nat.le_of_ble_eq_true rfl) ?_
  have hG4 := gp_X12_number hG1 hr5
  refine vv_istore_n (lv' := [(2, _), (1, _), (0, _)]) 27 2 dX12_cellTold_27 rfl (by decide) rfl ?_
  refine vv_aload_n 28 0 dX12_cellTold_28 rfl rfl ?_
  refine vv_getI 29 dX12_cellTold_29 fl_12_253 rfl (g_l_291 hG4) ?_
  refine vv_if_ne 32 44 dX12_cellTold_32 (by decide) (fun c7 => ?_) (fun c7 => ?_)
  · rw [if_neg c7] at h
    refine vv_iconst 44 dX12_cellTold_44 ik_0 ?_
    obtain ⟨e1, e2⟩ := sh_some2 h
    refine vv_iret 45 dX12_cellTold_45 rfl (Nat.le_refl _) (Nat.le_refl _) ⟨by rw [e1], e2⟩
  · rw [if_pos c7] at h
    refine vv_iload_n 35 1 dX12_cellTold_35 rfl rfl ?_
    refine vv_bipush 36 dX12_cellTold_36 bk_7 ?_
    refine vv_iload_n 38 2 dX12_cellTold_38 rfl rfl ?_
    refine vv_imul 39 dX12_cellTold_39 ?_
    refine vv_iadd 40 dX12_cellTold_40 ?_
    refine vv_goto 41 45 dX12_cellTold_41 (by decide) ?_
    obtain ⟨e1, e2⟩ := sh_some2 h
    refine vv_iret 45 dX12_cellTold_45 rfl (Nat.le_refl _) (Nat.le_refl _) ⟨by rw [e1], e2⟩
noncomputable def f_X12_highTold (μ : sh_Mem) : Option sh_Mem := sh_bind (f_X12_cellTold μ) (fun y3 μ1 => sh_bind (f_X12_number 0 99 μ1) (fun y6 μ4 => (if (sh_i μ4 291 5) = 0 then (if sh_in y3 49 then sh_let (sh_setI μ4 324 y3.toNatClampNeg y6) (fun μ9 => some μ9) else none) else some μ4)))
theorem gp_X12_highTold {μ μ' : sh_Mem} (hG : sh_G μ) (h : f_X12_highTold μ = some μ') : sh_G μ' := by
  unfold f_X12_highTold at h
  obtain ⟨y3, μ1, hr2, h⟩ := sh_bind_e h
  have hG1 := gp_X12_cellTold hG hr2
  obtain ⟨y6, μ4, hr5, h⟩ := sh_bind_e h
  have hG4 := gp_X12_number hG1 hr5
  by_cases c7 : (sh_i μ4 291 5) = 0
  · rw [if_pos c7] at h
    obtain ⟨k8, h⟩ := sh_chk h
    obtain ⟨μ9, eμ9⟩ : ∃ y : sh_Mem, y = (sh_setI μ4 324 y3.toNatClampNeg y6) := ⟨_, rfl⟩
    rw [sh_let_eq eμ9] at h
    have hG9 : sh_G μ9 := by rw [eμ9]; exact hG4
    have e2 := Option.some.inj h
    exact e2 ▸ hG9
  · rw [if_neg c7] at h
    have e2 := Option.some.inj h
    exact e2 ▸ hG4
theorem t_X12_highTold {μ μ' : sh_Mem} (hG : sh_G μ) (h : f_X12_highTold μ = some μ') : sh_C0 l B D ca 4 M_X12_highTold [.ref 291] μ (fun v0 μ0 => v0 = none ∧ μ0 = μ') := by
  unfold f_X12_highTold at h
  refine vv_aload_n 0 0 dX12_highTold_0 rfl rfl ?_
  obtain ⟨y3, μ1, hr2, h⟩ := sh_bind_e h
  refine v1_callV [] 1 dX12_highTold_1 ck_X12_330 (g_l_291 hG) ⟨by decide, rfl⟩ (t_X12_cellTold hG hr2) (Nat.le_of_ble_eq_true rfl) ⟨Nat.le_of_ble_eq_true rfl, Nat.le_of_ble_eq_true rfl⟩ rfl (Nat.le_of_ble_eq_true rfl) ?_
  have hG1 := gp_X12_cellTold hG hr2
  refine vv_istore_n (lv' := [(1, _), (0, _)]) 4 1 dX12_highTold_4 rfl (by decide) rfl ?_
  refine vv_aload_n 5 0 dX12_highTold_5 rfl rfl ?_
  refine vv_iconst 6 dX12_highTold_6 ik_0 ?_
  refine vv_bipush 7 dX12_highTold_7 bk_99 ?_
  obtain ⟨y6, μ4, hr5, h⟩ := sh_bind_e h
  refine v1_callV [_, _] 9 dX12_highTold_9 ck_X12_322 (g_l_291 hG1) ⟨by decide, rfl⟩ (t_X12_number hG1 hr5) (Nat.le_of_ble_eq_true rfl) ⟨Nat.le_of_ble_eq_true rfl, Nat.le_of_ble_eq_true rfl⟩ rfl (Nat.le_of_ble_eq_true rfl) ?_
  have hG4 := gp_X12_number hG1 hr5
  refine vv_istore_n (lv' := [(2, _), (1, _), (0, _)]) 12 2 dX12_highTold_12 rfl (by decide) rfl ?_
  refine vv_aload_n 13 0 dX12_highTold_13 rfl rfl ?_
  refine vv_getI 14 dX12_highTold_14 fl_12_253 rfl (g_l_291 hG4) ?_
  refine vv_if_ne 17 27 dX12_highTold_17 (by decide) (fun c7 => ?_) (fun c7 => ?_)
  · rw [if_neg c7] at h
    have e2 := Option.some.inj h
    refine vv_vret 27 dX12_highTold_27 rfl (Nat.le_refl _) (Nat.le_refl _) ⟨rfl, e2⟩
  · rw [if_pos c7] at h
    refine vv_aload_n 20 0 dX12_highTold_20 rfl rfl ?_
    refine vv_getR 21 dX12_highTold_21 fl_12_112 rfl (g_l_291 hG4) (g_r_291_42 hG4) ?_
    refine vv_iload_n 24 1 dX12_highTold_24 rfl rfl ?_
    refine vv_iload_n 25 2 dX12_highTold_25 rfl rfl ?_
    obtain ⟨k8, h⟩ := sh_chk h
    refine vn_iast 26 dX12_highTold_26 (g_l_324 hG4) k8 (fun μ9 eμ9 => ?_)
    rw [sh_let_eq eμ9] at h
    have hG9 : sh_G μ9 := by rw [eμ9]; exact hG4
    have e2 := Option.some.inj h
    refine vv_vret 27 dX12_highTold_27 rfl (Nat.le_refl _) (Nat.le_refl _) ⟨rfl, e2⟩
noncomputable def f_X12_topicTold (a1 : Int32) (μ : sh_Mem) : Option sh_Mem := sh_bind (f_X12_isFull 0 5 a1 μ) (fun y3 μ1 => (if y3 = 0 then sh_bind (f_X12_newName μ1) (fun y7 μ5 => (if (sh_i μ5 291 5) = 0 then (if sh_in (sh_i μ5 322 (Int32.toNatClampNeg 0)) 32 then sh_let (sh_setL μ5 323 ((sh_i μ5 322 (Int32.toNatClampNeg 0))).toNatClampNeg y7) (fun μ10 => sh_let (sh_setI μ10 322 (Int32.toNatClampNeg 0) ((sh_i μ10 322 (Int32.toNatClampNeg 0)) + 1)) (fun μ11 => some μ11)) else none) else some μ5)) else some μ1))
theorem gp_X12_topicTold {a1 : Int32} {μ μ' : sh_Mem} (hG : sh_G μ) (h : f_X12_topicTold a1 μ = some μ') : sh_G μ' := by
  unfold f_X12_topicTold at h
  obtain ⟨y3, μ1, hr2, h⟩ := sh_bind_e h
  have hG1 := gp_X12_isFull hG hr2
  by_cases c4 : y3 = 0
  · rw [if_pos c4] at h
    obtain ⟨y7, μ5, hr6, h⟩ := sh_bind_e h
    have hG5 := gp_X12_newName hG1 hr6
    by_cases c8 : (sh_i μ5 291 5) = 0
    · rw [if_pos c8] at h
      obtain ⟨k9, h⟩ := sh_chk h
      obtain ⟨μ10, eμ10⟩ : ∃ y : sh_Mem, y = (sh_setL μ5 323 ((sh_i μ5 322 (Int32.toNatClampNeg 0))).toNatClampNeg y7) := ⟨_, rfl⟩
      rw [sh_let_eq eμ10] at h
      have hG10 : sh_G μ10 := by rw [eμ10]; exact hG5
      obtain ⟨μ11, eμ11⟩ : ∃ y : sh_Mem, y = (sh_setI μ10 322 (Int32.toNatClampNeg 0) ((sh_i μ10 322 (Int32.toNatClampNeg 0)) + 1)) := ⟨_, rfl⟩
      rw [sh_let_eq eμ11] at h
      have hG11 : sh_G μ11 := by rw [eμ11]; exact hG10
      have e2 := Option.some.inj h
      exact e2 ▸ hG11
    · rw [if_neg c8] at h
      have e2 := Option.some.inj h
      exact e2 ▸ hG5
  · rw [if_neg c4] at h
    have e2 := Option.some.inj h
    exact e2 ▸ hG1
theorem t_X12_topicTold {a1 : Int32} {μ μ' : sh_Mem} (hG : sh_G μ) (h : f_X12_topicTold a1 μ = some μ') : sh_C0 l B D ca 6 M_X12_topicTold [.ref 291, .int a1] μ (fun v0 μ0 => v0 = none ∧ μ0 = μ') := by
  unfold f_X12_topicTold at h
  refine vv_aload_n 0 0 dX12_topicTold_0 rfl rfl ?_
  refine vv_iconst 1 dX12_topicTold_1 ik_0 ?_
  refine vv_iconst 2 dX12_topicTold_2 ik_5 ?_
  refine vv_iload_n 3 1 dX12_topicTold_3 rfl rfl ?_
  obtain ⟨y3, μ1, hr2, h⟩ := sh_bind_e h
  refine v1_callV [_, _, _] 4 dX12_topicTold_4 ck_X12_333 (g_l_291 hG) ⟨by decide, rfl⟩ (t_X12_isFull hG hr2) (Nat.le_of_ble_eq_true rfl) ⟨Nat.le_of_ble_eq_true rfl, Nat.le_of_ble_eq_true rfl⟩ rfl (Nat.le_of_ble_eq_true rfl) ?_
  have hG1 := gp_X12_isFull hG hr2
  refine vv_if_eq 7 11 dX12_topicTold_7 (by decide) (fun c4 => ?_) (fun c4 => ?_)
  · rw [if_pos c4] at h
    refine vv_aload_n 11 0 dX12_topicTold_11 rfl rfl ?_
    obtain ⟨y7, μ5, hr6, h⟩ := sh_bind_e h
    refine v1_callV [] 12 dX12_topicTold_12 ck_X12_337 (g_l_291 hG1) ⟨by decide, rfl⟩ (t_X12_newName hG1 hr6) (Nat.le_of_ble_eq_true rfl) ⟨Nat.le_of_ble_eq_true rfl, Nat.le_of_ble_eq_true rfl⟩ rfl (Nat.le_of_ble_eq_true rfl) ?_
    have hG5 := gp_X12_newName hG1 hr6
    refine vv_lstore_n (lv' := [(2, _), (0, _), (1, _)]) 15 2 dX12_topicTold_15 rfl (by decide) rfl ?_
    refine vv_aload_n 16 0 dX12_topicTold_16 rfl rfl ?_
    refine vv_getI 17 dX12_topicTold_17 fl_12_253 rfl (g_l_291 hG5) ?_
    refine vv_if_eq 20 24 dX12_topicTold_20 (by decide) (fun c8 => ?_) (fun c8 => ?_)
    · rw [if_pos c8] at h
      refine vv_aload_n 24 0 dX12_topicTold_24 rfl rfl ?_
      refine vv_getR 25 dX12_topicTold_25 fl_12_108 rfl (g_l_291 hG5) (g_r_291_41 hG5) ?_
      refine vv_aload_n 28 0 dX12_topicTold_28 rfl rfl ?_
      refine vv_getR 29 dX12_topicTold_29 fl_12_105 rfl (g_l_291 hG5) (g_r_291_40 hG5) ?_
      refine vv_iconst 32 dX12_topicTold_32 ik_0 ?_
      refine vv_iald 33 dX12_topicTold_33 (g_l_322 hG5) (by unfold vp_in; decide) ?_
      refine vv_lload_n 34 2 dX12_topicTold_34 rfl rfl ?_
      obtain ⟨k9, h⟩ := sh_chk h
      refine vn_last 35 dX12_topicTold_35 (g_l_323 hG5) k9 (fun μ10 eμ10 => ?_)
      rw [sh_let_eq eμ10] at h
      have hG10 : sh_G μ10 := by rw [eμ10]; exact hG5
      refine vv_aload_n 36 0 dX12_topicTold_36 rfl rfl ?_
      refine vv_getR 37 dX12_topicTold_37 fl_12_105 rfl (g_l_291 hG10) (g_r_291_40 hG10) ?_
      refine vv_iconst 40 dX12_topicTold_40 ik_0 ?_
      refine vv_dup2_ri 41 dX12_topicTold_41 ?_
      refine vv_iald 42 dX12_topicTold_42 (g_l_322 hG10) (by unfold vp_in; decide) ?_
      refine vv_iconst 43 dX12_topicTold_43 ik_1 ?_
      refine vv_iadd 44 dX12_topicTold_44 ?_
      refine vn_iast 45 dX12_topicTold_45 (g_l_322 hG10) (by unfold vp_in; decide) (fun μ11 eμ11 => ?_)
      rw [sh_let_eq eμ11] at h
      have hG11 : sh_G μ11 := by rw [eμ11]; exact hG10
      have e2 := Option.some.inj h
      refine vv_vret 46 dX12_topicTold_46 rfl (Nat.le_refl _) (Nat.le_refl _) ⟨rfl, e2⟩
    · rw [if_neg c8] at h
      have e2 := Option.some.inj h
      refine vv_vret 23 dX12_topicTold_23 rfl (Nat.le_refl _) (Nat.le_refl _) ⟨rfl, e2⟩
  · rw [if_neg c4] at h
    have e2 := Option.some.inj h
    refine vv_vret 10 dX12_topicTold_10 rfl (Nat.le_refl _) (Nat.le_refl _) ⟨rfl, e2⟩
noncomputable def F_X12_personTold : Nat → Nat → Int32 → Int64 → Int32 → Int32 → sh_Mem → Option sh_Mem
  | 0, _, _, _, _, _, _ => none
  | fuel + 1, lbl, i1, l2, i4, i5, μ => match lbl with
    | 1 => (if (sh_i μ 322 (Int32.toNatClampNeg 1)) ≤ i5 then sh_bindv (f_X12_needs 300 5 μ) (fun μ39 => sh_bind (f_X12_number 0 9 μ39) (fun y44 μ42 => (if (sh_i μ42 291 5) = 0 then sh_let ((3 * (sh_i μ42 322 (Int32.toNatClampNeg 1))) : Int32) (fun x46 => (if sh_in (8 + (sh_i μ42 322 (Int32.toNatClampNeg 1))) 32 then sh_let (sh_setL μ42 323 ((8 + (sh_i μ42 322 (Int32.toNatClampNeg 1)))).toNatClampNeg l2) (fun μ48 => (if sh_in x46 21 then sh_let (sh_setI μ48 325 x46.toNatClampNeg i4) (fun μ50 => (if sh_in (x46 + 1) 21 then sh_let (sh_setI μ50 325 ((x46 + 1)).toNatClampNeg y44) (fun μ52 => (if sh_in (x46 + 2) 21 then sh_let (sh_setI μ52 325 ((x46 + 2)).toNatClampNeg 0) (fun μ54 => sh_let (sh_setI μ54 322 (Int32.toNatClampNeg 1) ((sh_i μ54 322 (Int32.toNatClampNeg 1)) + 1)) (fun μ55 => some μ55)) else none)) else none)) else none)) else none)) else some μ42))) else (if (sh_i μ 291 5) = 0 then (if sh_in (3 * i5) 21 then (if (sh_i μ 325 ((3 * i5)).toNatClampNeg) = i4 then sh_bindv (f_X12_fail 2 (sh_i μ 291 10) μ) (fun μ59 => F_X12_personTold fuel 1 i1 l2 i4 (i5 + 1) μ59) else F_X12_personTold fuel 1 i1 l2 i4 (i5 + 1) μ) else none) else F_X12_personTold fuel 1 i1 l2 i4 (i5 + 1) μ))
    | _ => none
noncomputable def f_X12_personTold (a1 : Int32) (μ : sh_Mem) : Option sh_Mem := sh_bind (f_X12_isFull 1 7 a1 μ) (fun y64 μ62 => (if y64 = 0 then sh_bind (f_X12_newName μ62) (fun y68 μ66 => sh_bindv (f_X12_needs 299 2 μ66) (fun μ69 => sh_bind (f_X12_cellTold μ69) (fun y74 μ72 => F_X12_personTold sh_fuel 1 a1 y68 y74 0 μ72))) else some μ62))
theorem gpl_X12_personTold (fuel : Nat) : (∀ ⦃i1 : Int32⦄ ⦃l2 : Int64⦄ ⦃i4 : Int32⦄ ⦃i5 : Int32⦄ ⦃μ μ' : sh_Mem⦄, sh_G μ → F_X12_personTold fuel 1 i1 l2 i4 i5 μ = some μ' → sh_G μ') := by
  induction fuel with
  | zero => intro i1 l2 i4 i5 μ μ' hG h; cases h
  | succ fuel ih =>
    have ih_34 := ih
    intro i1 l2 i4 i5 μ μ' hG h
    replace h : ((if (sh_i μ 322 (Int32.toNatClampNeg 1)) ≤ i5 then sh_bindv (f_X12_needs 300 5 μ) (fun μ39 => sh_bind (f_X12_number 0 9 μ39) (fun y44 μ42 => (if (sh_i μ42 291 5) = 0 then sh_let ((3 * (sh_i μ42 322 (Int32.toNatClampNeg 1))) : Int32) (fun x46 => (if sh_in (8 + (sh_i μ42 322 (Int32.toNatClampNeg 1))) 32 then sh_let (sh_setL μ42 323 ((8 + (sh_i μ42 322 (Int32.toNatClampNeg 1)))).toNatClampNeg l2) (fun μ48 => (if sh_in x46 21 then sh_let (sh_setI μ48 325 x46.toNatClampNeg i4) (fun μ50 => (if sh_in (x46 + 1) 21 then sh_let (sh_setI μ50 325 ((x46 + 1)).toNatClampNeg y44) (fun μ52 => (if sh_in (x46 + 2) 21 then sh_let (sh_setI μ52 325 ((x46 + 2)).toNatClampNeg 0) (fun μ54 => sh_let (sh_setI μ54 322 (Int32.toNatClampNeg 1) ((sh_i μ54 322 (Int32.toNatClampNeg 1)) + 1)) (fun μ55 => some μ55)) else none)) else none)) else none)) else none)) else some μ42))) else (if (sh_i μ 291 5) = 0 then (if sh_in (3 * i5) 21 then (if (sh_i μ 325 ((3 * i5)).toNatClampNeg) = i4 then sh_bindv (f_X12_fail 2 (sh_i μ 291 10) μ) (fun μ59 => F_X12_personTold fuel 1 i1 l2 i4 (i5 + 1) μ59) else F_X12_personTold fuel 1 i1 l2 i4 (i5 + 1) μ) else none) else F_X12_personTold fuel 1 i1 l2 i4 (i5 + 1) μ)) : Option sh_Mem) = some μ' := h
    by_cases c38 : (sh_i μ 322 (Int32.toNatClampNeg 1)) ≤ i5
    · rw [if_pos c38] at h
      obtain ⟨μ39, hr40, h⟩ := sh_bindv_e h
      have hG39 := gp_X12_needs hG (sh_LAYat_300) hr40
      obtain ⟨y44, μ42, hr43, h⟩ := sh_bind_e h
      have hG42 := gp_X12_number hG39 hr43
      by_cases c45 : (sh_i μ42 291 5) = 0
      · rw [if_pos c45] at h
        obtain ⟨x46, ex46⟩ : ∃ y : Int32, y = (3 * (sh_i μ42 322 (Int32.toNatClampNeg 1))) := ⟨_, rfl⟩
        rw [sh_let_eq ex46] at h
        obtain ⟨k47, h⟩ := sh_chk h
        obtain ⟨μ48, eμ48⟩ : ∃ y : sh_Mem, y = (sh_setL μ42 323 ((8 + (sh_i μ42 322 (Int32.toNatClampNeg 1)))).toNatClampNeg l2) := ⟨_, rfl⟩
        rw [sh_let_eq eμ48] at h
        have hG48 : sh_G μ48 := by rw [eμ48]; exact hG42
        obtain ⟨k49, h⟩ := sh_chk h
        obtain ⟨μ50, eμ50⟩ : ∃ y : sh_Mem, y = (sh_setI μ48 325 x46.toNatClampNeg i4) := ⟨_, rfl⟩
        rw [sh_let_eq eμ50] at h
        have hG50 : sh_G μ50 := by rw [eμ50]; exact hG48
        obtain ⟨k51, h⟩ := sh_chk h
        obtain ⟨μ52, eμ52⟩ : ∃ y : sh_Mem, y = (sh_setI μ50 325 ((x46 + 1)).toNatClampNeg y44) := ⟨_, rfl⟩
        rw [sh_let_eq eμ52] at h
        have hG52 : sh_G μ52 := by rw [eμ52]; exact hG50
        obtain ⟨k53, h⟩ := sh_chk h
        obtain ⟨μ54, eμ54⟩ : ∃ y : sh_Mem, y = (sh_setI μ52 325 ((x46 + 2)).toNatClampNeg 0) := ⟨_, rfl⟩
        rw [sh_let_eq eμ54] at h
        have hG54 : sh_G μ54 := by rw [eμ54]; exact hG52
        obtain ⟨μ55, eμ55⟩ : ∃ y : sh_Mem, y = (sh_setI μ54 322 (Int32.toNatClampNeg 1) ((sh_i μ54 322 (Int32.toNatClampNeg 1)) + 1)) := ⟨_, rfl⟩
        rw [sh_let_eq eμ55] at h
        have hG55 : sh_G μ55 := by rw [eμ55]; exact hG54
        have e2 := Option.some.inj h
        exact e2 ▸ hG55
      · rw [if_neg c45] at h
        have e2 := Option.some.inj h
        exact e2 ▸ hG42
    · rw [if_neg c38] at h
      by_cases c56 : (sh_i μ 291 5) = 0
      · rw [if_pos c56] at h
        obtain ⟨k57, h⟩ := sh_chk h
        by_cases c58 : (sh_i μ 325 ((3 * i5)).toNatClampNeg) = i4
        · rw [if_pos c58] at h
          obtain ⟨μ59, hr60, h⟩ := sh_bindv_e h
          have hG59 := gp_X12_fail hG hr60
          exact ih_34 hG59 h
        · rw [if_neg c58] at h
          exact ih_34 hG h
      · rw [if_neg c56] at h
        exact ih_34 hG h
theorem tl_X12_personTold (fuel : Nat) : (∀ ⦃i1 : Int32⦄ ⦃l2 : Int64⦄ ⦃i4 : Int32⦄ ⦃i5 : Int32⦄ ⦃μ μ' : sh_Mem⦄, sh_G μ → F_X12_personTold fuel 1 i1 l2 i4 i5 μ = some μ' → sh_V0 l B D ca 6 M_X12_personTold 34 [(0, .ref 291), (1, .int i1), (2, .long l2), (4, .int i4), (5, .int i5)] [] μ (fun v0 μ0 => v0 = none ∧ μ0 = μ')) := by
  induction fuel with
  | zero => intro i1 l2 i4 i5 μ μ' hG h; cases h
  | succ fuel ih =>
    have ih_34 := ih
    intro i1 l2 i4 i5 μ μ' hG h
    replace h : ((if (sh_i μ 322 (Int32.toNatClampNeg 1)) ≤ i5 then sh_bindv (f_X12_needs 300 5 μ) (fun μ39 => sh_bind (f_X12_number 0 9 μ39) (fun y44 μ42 => (if (sh_i μ42 291 5) = 0 then sh_let ((3 * (sh_i μ42 322 (Int32.toNatClampNeg 1))) : Int32) (fun x46 => (if sh_in (8 + (sh_i μ42 322 (Int32.toNatClampNeg 1))) 32 then sh_let (sh_setL μ42 323 ((8 + (sh_i μ42 322 (Int32.toNatClampNeg 1)))).toNatClampNeg l2) (fun μ48 => (if sh_in x46 21 then sh_let (sh_setI μ48 325 x46.toNatClampNeg i4) (fun μ50 => (if sh_in (x46 + 1) 21 then sh_let (sh_setI μ50 325 ((x46 + 1)).toNatClampNeg y44) (fun μ52 => (if sh_in (x46 + 2) 21 then sh_let (sh_setI μ52 325 ((x46 + 2)).toNatClampNeg 0) (fun μ54 => sh_let (sh_setI μ54 322 (Int32.toNatClampNeg 1) ((sh_i μ54 322 (Int32.toNatClampNeg 1)) + 1)) (fun μ55 => some μ55)) else none)) else none)) else none)) else none)) else some μ42))) else (if (sh_i μ 291 5) = 0 then (if sh_in (3 * i5) 21 then (if (sh_i μ 325 ((3 * i5)).toNatClampNeg) = i4 then sh_bindv (f_X12_fail 2 (sh_i μ 291 10) μ) (fun μ59 => F_X12_personTold fuel 1 i1 l2 i4 (i5 + 1) μ59) else F_X12_personTold fuel 1 i1 l2 i4 (i5 + 1) μ) else none) else F_X12_personTold fuel 1 i1 l2 i4 (i5 + 1) μ)) : Option sh_Mem) = some μ' := h
    refine vv_iload 34 5 dX12_personTold_34 rfl ?_
    refine vv_aload_n 36 0 dX12_personTold_36 rfl rfl ?_
    refine vv_getR 37 dX12_personTold_37 fl_12_105 rfl (g_l_291 hG) (g_r_291_40 hG) ?_
    refine vv_iconst 40 dX12_personTold_40 ik_1 ?_
    refine vv_iald 41 dX12_personTold_41 (g_l_322 hG) (by unfold vp_in; decide) ?_
    refine vv_icmp_ge 42 81 dX12_personTold_42 (by decide) (fun c38 => ?_) (fun c38 => ?_)
    · rw [if_pos c38] at h
      refine vv_aload_n 81 0 dX12_personTold_81 rfl rfl ?_
      refine vv_aload_n 82 0 dX12_personTold_82 rfl rfl ?_
      refine vv_getR 83 dX12_personTold_83 fl_12_39 rfl (g_l_291 hG) (g_r_291_17 hG) ?_
      obtain ⟨μ39, hr40, h⟩ := sh_bindv_e h
      refine v1_callV [_] 86 dX12_personTold_86 ck_X12_318 (g_l_291 hG) ⟨by decide, rfl⟩ (t_X12_needs hG (sh_LAYat_300) hr40) (Nat.le_of_ble_eq_true rfl) ⟨Nat.le_of_ble_eq_true rfl, Nat.le_of_ble_eq_true rfl⟩ rfl (Nat.le_of_ble_eq_true rfl) ?_
      have hG39 := gp_X12_needs hG (sh_LAYat_300) hr40
      refine vv_aload_n 89 0 dX12_personTold_89 rfl rfl ?_
      refine vv_iconst 90 dX12_personTold_90 ik_0 ?_
      refine vv_bipush 91 dX12_personTold_91 bk_9 ?_
      obtain ⟨y44, μ42, hr43, h⟩ := sh_bind_e h
      refine v1_callV [_, _] 93 dX12_personTold_93 ck_X12_322 (g_l_291 hG39) ⟨by decide, rfl⟩ (t_X12_number hG39 hr43) (Nat.le_of_ble_eq_true rfl) ⟨Nat.le_of_ble_eq_true rfl, Nat.le_of_ble_eq_true rfl⟩ rfl (Nat.le_of_ble_eq_true rfl) ?_
      have hG42 := gp_X12_number hG39 hr43
      refine vv_istore (lv' := [(5, _), (0, _), (1, _), (2, _), (4, _)]) 96 5 dX12_personTold_96 (by decide) rfl ?_
      refine vv_aload_n 98 0 dX12_personTold_98 rfl rfl ?_
      refine vv_getI 99 dX12_personTold_99 fl_12_253 rfl (g_l_291 hG42) ?_
      refine vv_if_eq 102 106 dX12_personTold_102 (by decide) (fun c45 => ?_) (fun c45 => ?_)
      · rw [if_pos c45] at h
        refine vv_iconst 106 dX12_personTold_106 ik_3 ?_
        refine vv_aload_n 107 0 dX12_personTold_107 rfl rfl ?_
        refine vv_getR 108 dX12_personTold_108 fl_12_105 rfl (g_l_291 hG42) (g_r_291_40 hG42) ?_
        refine vv_iconst 111 dX12_personTold_111 ik_1 ?_
        refine vv_iald 112 dX12_personTold_112 (g_l_322 hG42) (by unfold vp_in; decide) ?_
        refine vv_imul 113 dX12_personTold_113 ?_
        refine vv_topi (fun x46 ex46 => ?_)
        rw [sh_let_eq ex46] at h
        refine vv_istore (lv' := [(6, _), (5, _), (0, _), (1, _), (2, _), (4, _)]) 114 6 dX12_personTold_114 (by decide) rfl ?_
        refine vv_aload_n 116 0 dX12_personTold_116 rfl rfl ?_
        refine vv_getR 117 dX12_personTold_117 fl_12_108 rfl (g_l_291 hG42) (g_r_291_41 hG42) ?_
        refine vv_bipush 120 dX12_personTold_120 bk_8 ?_
        refine vv_aload_n 122 0 dX12_personTold_122 rfl rfl ?_
        refine vv_getR 123 dX12_personTold_123 fl_12_105 rfl (g_l_291 hG42) (g_r_291_40 hG42) ?_
        refine vv_iconst 126 dX12_personTold_126 ik_1 ?_
        refine vv_iald 127 dX12_personTold_127 (g_l_322 hG42) (by unfold vp_in; decide) ?_
        refine vv_iadd 128 dX12_personTold_128 ?_
        refine vv_lload_n 129 2 dX12_personTold_129 rfl rfl ?_
        obtain ⟨k47, h⟩ := sh_chk h
        refine vn_last 130 dX12_personTold_130 (g_l_323 hG42) k47 (fun μ48 eμ48 => ?_)
        rw [sh_let_eq eμ48] at h
        have hG48 : sh_G μ48 := by rw [eμ48]; exact hG42
        refine vv_aload_n 131 0 dX12_personTold_131 rfl rfl ?_
        refine vv_getR 132 dX12_personTold_132 fl_12_115 rfl (g_l_291 hG48) (g_r_291_43 hG48) ?_
        refine vv_iload 135 6 dX12_personTold_135 rfl ?_
        refine vv_iload 137 4 dX12_personTold_137 rfl ?_
        obtain ⟨k49, h⟩ := sh_chk h
        refine vn_iast 139 dX12_personTold_139 (g_l_325 hG48) k49 (fun μ50 eμ50 => ?_)
        rw [sh_let_eq eμ50] at h
        have hG50 : sh_G μ50 := by rw [eμ50]; exact hG48
        refine vv_aload_n 140 0 dX12_personTold_140 rfl rfl ?_
        refine vv_getR 141 dX12_personTold_141 fl_12_115 rfl (g_l_291 hG50) (g_r_291_43 hG50) ?_
        refine vv_iload 144 6 dX12_personTold_144 rfl ?_
        refine vv_iconst 146 dX12_personTold_146 ik_1 ?_
        refine vv_iadd 147 dX12_personTold_147 ?_
        refine vv_iload 148 5 dX12_personTold_148 rfl ?_
        obtain ⟨k51, h⟩ := sh_chk h
        refine vn_iast 150 dX12_personTold_150 (g_l_325 hG50) k51 (fun μ52 eμ52 => ?_)
        rw [sh_let_eq eμ52] at h
        have hG52 : sh_G μ52 := by rw [eμ52]; exact hG50
        refine vv_aload_n 151 0 dX12_personTold_151 rfl rfl ?_
        refine vv_getR 152 dX12_personTold_152 fl_12_115 rfl (g_l_291 hG52) (g_r_291_43 hG52) ?_
        refine vv_iload 155 6 dX12_personTold_155 rfl ?_
        refine vv_iconst 157 dX12_personTold_157 ik_2 ?_
        refine vv_iadd 158 dX12_personTold_158 ?_
        refine vv_iconst 159 dX12_personTold_159 ik_0 ?_
        obtain ⟨k53, h⟩ := sh_chk h
        refine vn_iast 160 dX12_personTold_160 (g_l_325 hG52) k53 (fun μ54 eμ54 => ?_)
        rw [sh_let_eq eμ54] at h
        have hG54 : sh_G μ54 := by rw [eμ54]; exact hG52
        refine vv_aload_n 161 0 dX12_personTold_161 rfl rfl ?_
        refine vv_getR 162 dX12_personTold_162 fl_12_105 rfl (g_l_291 hG54) (g_r_291_40 hG54) ?_
        refine vv_iconst 165 dX12_personTold_165 ik_1 ?_
        refine vv_dup2_ri 166 dX12_personTold_166 ?_
        refine vv_iald 167 dX12_personTold_167 (g_l_322 hG54) (by unfold vp_in; decide) ?_
        refine vv_iconst 168 dX12_personTold_168 ik_1 ?_
        refine vv_iadd 169 dX12_personTold_169 ?_
        refine vn_iast 170 dX12_personTold_170 (g_l_322 hG54) (by unfold vp_in; decide) (fun μ55 eμ55 => ?_)
        rw [sh_let_eq eμ55] at h
        have hG55 : sh_G μ55 := by rw [eμ55]; exact hG54
        have e2 := Option.some.inj h
        refine vv_vret 171 dX12_personTold_171 rfl (Nat.le_refl _) (Nat.le_refl _) ⟨rfl, e2⟩
      · rw [if_neg c45] at h
        have e2 := Option.some.inj h
        refine vv_vret 105 dX12_personTold_105 rfl (Nat.le_refl _) (Nat.le_refl _) ⟨rfl, e2⟩
    · rw [if_neg c38] at h
      refine vv_aload_n 45 0 dX12_personTold_45 rfl rfl ?_
      refine vv_getI 46 dX12_personTold_46 fl_12_253 rfl (g_l_291 hG) ?_
      refine vv_if_ne 49 75 dX12_personTold_49 (by decide) (fun c56 => ?_) (fun c56 => ?_)
      · rw [if_neg c56] at h
        refine vv_iincc (lv' := [(5, _), (0, _), (1, _), (2, _), (4, _)]) 75 5 dX12_personTold_75 rfl ik_1 (by decide) rfl ?_
        refine vv_goto 78 34 dX12_personTold_78 (by decide) ?_
        refine vv_sub [(0, _), (1, _), (2, _), (4, _), (5, _)] (sh_subm [1, 2, 3, 4, 0] rfl) ?_
        exact ih_34 hG h
      · rw [if_pos c56] at h
        refine vv_aload_n 52 0 dX12_personTold_52 rfl rfl ?_
        refine vv_getR 53 dX12_personTold_53 fl_12_115 rfl (g_l_291 hG) (g_r_291_43 hG) ?_
        refine vv_iconst 56 dX12_personTold_56 ik_3 ?_
        refine vv_iload 57 5 dX12_personTold_57 rfl ?_
        refine vv_imul 59 dX12_personTold_59 ?_
        obtain ⟨k57, h⟩ := sh_chk h
        refine vv_iald 60 dX12_personTold_60 (g_l_325 hG) k57 ?_
        refine vv_iload 61 4 dX12_personTold_61 rfl ?_
        refine vv_icmp_ne 63 75 dX12_personTold_63 (by decide) (fun c58 => ?_) (fun c58 => ?_)
        · rw [if_neg c58] at h
          refine vv_iincc (lv' := [(5, _), (0, _), (1, _), (2, _), (4, _)]) 75 5 dX12_personTold_75 rfl ik_1 (by decide) rfl ?_
          refine vv_goto 78 34 dX12_personTold_78 (by decide) ?_
          refine vv_sub [(0, _), (1, _), (2, _), (4, _), (5, _)] (sh_subm [1, 2, 3, 4, 0] rfl) ?_
          exact ih_34 hG h
        · rw [if_pos c58] at h
          refine vv_aload_n 66 0 dX12_personTold_66 rfl rfl ?_
          refine vv_iconst 67 dX12_personTold_67 ik_2 ?_
          refine vv_aload_n 68 0 dX12_personTold_68 rfl rfl ?_
          refine vv_getI 69 dX12_personTold_69 fl_12_293 rfl (g_l_291 hG) ?_
          obtain ⟨μ59, hr60, h⟩ := sh_bindv_e h
          refine v1_callV [_, _] 72 dX12_personTold_72 ck_X12_283 (g_l_291 hG) ⟨by decide, rfl⟩ (t_X12_fail hG hr60) (Nat.le_of_ble_eq_true rfl) ⟨Nat.le_of_ble_eq_true rfl, Nat.le_of_ble_eq_true rfl⟩ rfl (Nat.le_of_ble_eq_true rfl) ?_
          have hG59 := gp_X12_fail hG hr60
          refine vv_iincc (lv' := [(5, _), (0, _), (1, _), (2, _), (4, _)]) 75 5 dX12_personTold_75 rfl ik_1 (by decide) rfl ?_
          refine vv_goto 78 34 dX12_personTold_78 (by decide) ?_
          refine vv_sub [(0, _), (1, _), (2, _), (4, _), (5, _)] (sh_subm [1, 2, 3, 4, 0] rfl) ?_
          exact ih_34 hG59 h
theorem gp_X12_personTold {a1 : Int32} {μ μ' : sh_Mem} (hG : sh_G μ) (h : f_X12_personTold a1 μ = some μ') : sh_G μ' := by
  have ih_34 := (gpl_X12_personTold sh_fuel)
  unfold f_X12_personTold at h
  obtain ⟨y64, μ62, hr63, h⟩ := sh_bind_e h
  have hG62 := gp_X12_isFull hG hr63
  by_cases c65 : y64 = 0
  · rw [if_pos c65] at h
    obtain ⟨y68, μ66, hr67, h⟩ := sh_bind_e h
    have hG66 := gp_X12_newName hG62 hr67
    obtain ⟨μ69, hr70, h⟩ := sh_bindv_e h
    have hG69 := gp_X12_needs hG66 (sh_LAYat_299) hr70
    obtain ⟨y74, μ72, hr73, h⟩ := sh_bind_e h
    have hG72 := gp_X12_cellTold hG69 hr73
    exact ih_34 hG72 h
  · rw [if_neg c65] at h
    have e2 := Option.some.inj h
    exact e2 ▸ hG62
theorem t_X12_personTold {a1 : Int32} {μ μ' : sh_Mem} (hG : sh_G μ) (h : f_X12_personTold a1 μ = some μ') : sh_C0 l B D ca 6 M_X12_personTold [.ref 291, .int a1] μ (fun v0 μ0 => v0 = none ∧ μ0 = μ') := by
  have ih_34 := (tl_X12_personTold (l := l) (B := B) (D := D) (ca := ca) sh_fuel)
  unfold f_X12_personTold at h
  refine vv_aload_n 0 0 dX12_personTold_0 rfl rfl ?_
  refine vv_iconst 1 dX12_personTold_1 ik_1 ?_
  refine vv_bipush 2 dX12_personTold_2 bk_7 ?_
  refine vv_iload_n 4 1 dX12_personTold_4 rfl rfl ?_
  obtain ⟨y64, μ62, hr63, h⟩ := sh_bind_e h
  refine v1_callV [_, _, _] 5 dX12_personTold_5 ck_X12_333 (g_l_291 hG) ⟨by decide, rfl⟩ (t_X12_isFull hG hr63) (Nat.le_of_ble_eq_true rfl) ⟨Nat.le_of_ble_eq_true rfl, Nat.le_of_ble_eq_true rfl⟩ rfl (Nat.le_of_ble_eq_true rfl) ?_
  have hG62 := gp_X12_isFull hG hr63
  refine vv_if_eq 8 12 dX12_personTold_8 (by decide) (fun c65 => ?_) (fun c65 => ?_)
  · rw [if_pos c65] at h
    refine vv_aload_n 12 0 dX12_personTold_12 rfl rfl ?_
    obtain ⟨y68, μ66, hr67, h⟩ := sh_bind_e h
    refine v1_callV [] 13 dX12_personTold_13 ck_X12_337 (g_l_291 hG62) ⟨by decide, rfl⟩ (t_X12_newName hG62 hr67) (Nat.le_of_ble_eq_true rfl) ⟨Nat.le_of_ble_eq_true rfl, Nat.le_of_ble_eq_true rfl⟩ rfl (Nat.le_of_ble_eq_true rfl) ?_
    have hG66 := gp_X12_newName hG62 hr67
    refine vv_lstore_n (lv' := [(2, _), (0, _), (1, _)]) 16 2 dX12_personTold_16 rfl (by decide) rfl ?_
    refine vv_aload_n 17 0 dX12_personTold_17 rfl rfl ?_
    refine vv_aload_n 18 0 dX12_personTold_18 rfl rfl ?_
    refine vv_getR 19 dX12_personTold_19 fl_12_36 rfl (g_l_291 hG66) (g_r_291_16 hG66) ?_
    obtain ⟨μ69, hr70, h⟩ := sh_bindv_e h
    refine v1_callV [_] 22 dX12_personTold_22 ck_X12_318 (g_l_291 hG66) ⟨by decide, rfl⟩ (t_X12_needs hG66 (sh_LAYat_299) hr70) (Nat.le_of_ble_eq_true rfl) ⟨Nat.le_of_ble_eq_true rfl, Nat.le_of_ble_eq_true rfl⟩ rfl (Nat.le_of_ble_eq_true rfl) ?_
    have hG69 := gp_X12_needs hG66 (sh_LAYat_299) hr70
    refine vv_aload_n 25 0 dX12_personTold_25 rfl rfl ?_
    obtain ⟨y74, μ72, hr73, h⟩ := sh_bind_e h
    refine v1_callV [] 26 dX12_personTold_26 ck_X12_330 (g_l_291 hG69) ⟨by decide, rfl⟩ (t_X12_cellTold hG69 hr73) (Nat.le_of_ble_eq_true rfl) ⟨Nat.le_of_ble_eq_true rfl, Nat.le_of_ble_eq_true rfl⟩ rfl (Nat.le_of_ble_eq_true rfl) ?_
    have hG72 := gp_X12_cellTold hG69 hr73
    refine vv_istore (lv' := [(4, _), (2, _), (0, _), (1, _)]) 29 4 dX12_personTold_29 (by decide) rfl ?_
    refine vv_iconst 31 dX12_personTold_31 ik_0 ?_
    refine vv_istore (lv' := [(5, _), (4, _), (2, _), (0, _), (1, _)]) 32 5 dX12_personTold_32 (by decide) rfl ?_
    refine vv_sub [(0, _), (1, _), (2, _), (4, _), (5, _)] (sh_subm [3, 4, 2, 1, 0] rfl) ?_
    exact ih_34 hG72 h
  · rw [if_neg c65] at h
    have e2 := Option.some.inj h
    refine vv_vret 11 dX12_personTold_11 rfl (Nat.le_refl _) (Nat.le_refl _) ⟨rfl, e2⟩
noncomputable def f_X12_knowsTold (μ : sh_Mem) : Option sh_Mem := sh_bind (f_X12_named 1 μ) (fun y3 μ1 => sh_bindv (f_X12_needs 302 2 μ1) (fun μ4 => sh_bind (f_X12_named 0 μ4) (fun y9 μ7 => (if (sh_i μ7 291 5) = 0 then (if sh_in ((3 * y3) + 2) 21 then (if (((sh_i μ7 325 (((3 * y3) + 2)).toNatClampNeg) >>> (y9 &&& 31)) &&& 1) = 1 then sh_bindv (f_X12_fail 3 (sh_i μ7 291 38) μ7) (fun μ21 => (if (sh_i μ21 291 5) = 0 then (if sh_in ((3 * y3) + 2) 21 then (if sh_in ((3 * y3) + 2) 21 then sh_let (sh_setI μ21 325 (((3 * y3) + 2)).toNatClampNeg ((sh_i μ21 325 (((3 * y3) + 2)).toNatClampNeg) ||| ((1 : Int32) <<< (y9 &&& 31)))) (fun μ27 => some μ27) else none) else none) else some μ21)) else (if (sh_i μ7 291 5) = 0 then (if sh_in ((3 * y3) + 2) 21 then (if sh_in ((3 * y3) + 2) 21 then sh_let (sh_setI μ7 325 (((3 * y3) + 2)).toNatClampNeg ((sh_i μ7 325 (((3 * y3) + 2)).toNatClampNeg) ||| ((1 : Int32) <<< (y9 &&& 31)))) (fun μ20 => some μ20) else none) else none) else some μ7)) else none) else (if (sh_i μ7 291 5) = 0 then (if sh_in ((3 * y3) + 2) 21 then (if sh_in ((3 * y3) + 2) 21 then sh_let (sh_setI μ7 325 (((3 * y3) + 2)).toNatClampNeg ((sh_i μ7 325 (((3 * y3) + 2)).toNatClampNeg) ||| ((1 : Int32) <<< (y9 &&& 31)))) (fun μ14 => some μ14) else none) else none) else some μ7)))))
theorem gp_X12_knowsTold {μ μ' : sh_Mem} (hG : sh_G μ) (h : f_X12_knowsTold μ = some μ') : sh_G μ' := by
  unfold f_X12_knowsTold at h
  obtain ⟨y3, μ1, hr2, h⟩ := sh_bind_e h
  have hG1 := gp_X12_named hG hr2
  obtain ⟨μ4, hr5, h⟩ := sh_bindv_e h
  have hG4 := gp_X12_needs hG1 (sh_LAYat_302) hr5
  obtain ⟨y9, μ7, hr8, h⟩ := sh_bind_e h
  have hG7 := gp_X12_named hG4 hr8
  by_cases c10 : (sh_i μ7 291 5) = 0
  · rw [if_pos c10] at h
    obtain ⟨k15, h⟩ := sh_chk h
    by_cases c16 : (((sh_i μ7 325 (((3 * y3) + 2)).toNatClampNeg) >>> (y9 &&& 31)) &&& 1) = 1
    · rw [if_pos c16] at h
      obtain ⟨μ21, hr22, h⟩ := sh_bindv_e h
      have hG21 := gp_X12_fail hG7 hr22
      by_cases c24 : (sh_i μ21 291 5) = 0
      · rw [if_pos c24] at h
        obtain ⟨k25, h⟩ := sh_chk h
        obtain ⟨k26, h⟩ := sh_chk h
        obtain ⟨μ27, eμ27⟩ : ∃ y : sh_Mem, y = (sh_setI μ21 325 (((3 * y3) + 2)).toNatClampNeg ((sh_i μ21 325 (((3 * y3) + 2)).toNatClampNeg) ||| ((1 : Int32) <<< (y9 &&& 31)))) := ⟨_, rfl⟩
        rw [sh_let_eq eμ27] at h
        have hG27 : sh_G μ27 := by rw [eμ27]; exact hG21
        have e2 := Option.some.inj h
        exact e2 ▸ hG27
      · rw [if_neg c24] at h
        have e2 := Option.some.inj h
        exact e2 ▸ hG21
    · rw [if_neg c16] at h
      by_cases c17 : (sh_i μ7 291 5) = 0
      · rw [if_pos c17] at h
        obtain ⟨k18, h⟩ := sh_chk h
        obtain ⟨k19, h⟩ := sh_chk h
        obtain ⟨μ20, eμ20⟩ : ∃ y : sh_Mem, y = (sh_setI μ7 325 (((3 * y3) + 2)).toNatClampNeg ((sh_i μ7 325 (((3 * y3) + 2)).toNatClampNeg) ||| ((1 : Int32) <<< (y9 &&& 31)))) := ⟨_, rfl⟩
        rw [sh_let_eq eμ20] at h
        have hG20 : sh_G μ20 := by rw [eμ20]; exact hG7
        have e2 := Option.some.inj h
        exact e2 ▸ hG20
      · rw [if_neg c17] at h
        have e2 := Option.some.inj h
        exact e2 ▸ hG7
  · rw [if_neg c10] at h
    by_cases c11 : (sh_i μ7 291 5) = 0
    · rw [if_pos c11] at h
      obtain ⟨k12, h⟩ := sh_chk h
      obtain ⟨k13, h⟩ := sh_chk h
      obtain ⟨μ14, eμ14⟩ : ∃ y : sh_Mem, y = (sh_setI μ7 325 (((3 * y3) + 2)).toNatClampNeg ((sh_i μ7 325 (((3 * y3) + 2)).toNatClampNeg) ||| ((1 : Int32) <<< (y9 &&& 31)))) := ⟨_, rfl⟩
      rw [sh_let_eq eμ14] at h
      have hG14 : sh_G μ14 := by rw [eμ14]; exact hG7
      have e2 := Option.some.inj h
      exact e2 ▸ hG14
    · rw [if_neg c11] at h
      have e2 := Option.some.inj h
      exact e2 ▸ hG7
theorem t_X12_knowsTold {μ μ' : sh_Mem} (hG : sh_G μ) (h : f_X12_knowsTold μ = some μ') : sh_C0 l B D ca 6 M_X12_knowsTold [.ref 291] μ (fun v0 μ0 => v0 = none ∧ μ0 = μ') := by
  unfold f_X12_knowsTold at h
  refine vv_aload_n 0 0 dX12_knowsTold_0 rfl rfl ?_
  refine vv_iconst 1 dX12_knowsTold_1 ik_1 ?_
  obtain ⟨y3, μ1, hr2, h⟩ := sh_bind_e h
  refine v1_callV [_] 2 dX12_knowsTold_2 ck_X12_340 (g_l_291 hG) ⟨by decide, rfl⟩ (t_X12_named hG hr2) (Nat.le_of_ble_eq_true rfl) ⟨Nat.le_of_ble_eq_true rfl, Nat.le_of_ble_eq_true rfl⟩ rfl (Nat.le_of_ble_eq_true rfl) ?_
  have hG1 := gp_X12_named hG hr2
  refine vv_istore_n (lv' := [(1, _), (0, _)]) 5 1 dX12_knowsTold_5 rfl (by decide) rfl ?_
  refine vv_aload_n 6 0 dX12_knowsTold_6 rfl rfl ?_
  refine vv_aload_n 7 0 dX12_knowsTold_7 rfl rfl ?_
  refine vv_getR 8 dX12_knowsTold_8 fl_12_45 rfl (g_l_291 hG1) (g_r_291_19 hG1) ?_
  obtain ⟨μ4, hr5, h⟩ := sh_bindv_e h
  refine v1_callV [_] 11 dX12_knowsTold_11 ck_X12_318 (g_l_291 hG1) ⟨by decide, rfl⟩ (t_X12_needs hG1 (sh_LAYat_302) hr5) (Nat.le_of_ble_eq_true rfl) ⟨Nat.le_of_ble_eq_true rfl, Nat.le_of_ble_eq_true rfl⟩ rfl (Nat.le_of_ble_eq_true rfl) ?_
  have hG4 := gp_X12_needs hG1 (sh_LAYat_302) hr5
  refine vv_aload_n 14 0 dX12_knowsTold_14 rfl rfl ?_
  refine vv_iconst 15 dX12_knowsTold_15 ik_0 ?_
  obtain ⟨y9, μ7, hr8, h⟩ := sh_bind_e h
  refine v1_callV [_] 16 dX12_knowsTold_16 ck_X12_340 (g_l_291 hG4) ⟨by decide, rfl⟩ (t_X12_named hG4 hr8) (Nat.le_of_ble_eq_true rfl) ⟨Nat.le_of_ble_eq_true rfl, Nat.le_of_ble_eq_true rfl⟩ rfl (Nat.le_of_ble_eq_true rfl) ?_
  have hG7 := gp_X12_named hG4 hr8
  refine vv_istore_n (lv' := [(2, _), (1, _), (0, _)]) 19 2 dX12_knowsTold_19 rfl (by decide) rfl ?_
  refine vv_aload_n 20 0 dX12_knowsTold_20 rfl rfl ?_
  refine vv_getI 21 dX12_knowsTold_21 fl_12_253 rfl (g_l_291 hG7) ?_
  refine vv_if_ne 24 54 dX12_knowsTold_24 (by decide) (fun c10 => ?_) (fun c10 => ?_)
  · rw [if_neg c10] at h
    refine vv_aload_n 54 0 dX12_knowsTold_54 rfl rfl ?_
    refine vv_getI 55 dX12_knowsTold_55 fl_12_253 rfl (g_l_291 hG7) ?_
    refine vv_if_ne 58 77 dX12_knowsTold_58 (by decide) (fun c11 => ?_) (fun c11 => ?_)
    · rw [if_neg c11] at h
      have e2 := Option.some.inj h
      refine vv_vret 77 dX12_knowsTold_77 rfl (Nat.le_refl _) (Nat.le_refl _) ⟨rfl, e2⟩
    · rw [if_pos c11] at h
      refine vv_aload_n 61 0 dX12_knowsTold_61 rfl rfl ?_
      refine vv_getR 62 dX12_knowsTold_62 fl_12_115 rfl (g_l_291 hG7) (g_r_291_43 hG7) ?_
      refine vv_iconst 65 dX12_knowsTold_65 ik_3 ?_
      refine vv_iload_n 66 1 dX12_knowsTold_66 rfl rfl ?_
      refine vv_imul 67 dX12_knowsTold_67 ?_
      refine vv_iconst 68 dX12_knowsTold_68 ik_2 ?_
      refine vv_iadd 69 dX12_knowsTold_69 ?_
      refine vv_dup2_ri 70 dX12_knowsTold_70 ?_
      obtain ⟨k12, h⟩ := sh_chk h
      refine vv_iald 71 dX12_knowsTold_71 (g_l_325 hG7) k12 ?_
      refine vv_iconst 72 dX12_knowsTold_72 ik_1 ?_
      refine vv_iload_n 73 2 dX12_knowsTold_73 rfl rfl ?_
      refine vv_ishl 74 dX12_knowsTold_74 ?_
      refine vv_ior 75 dX12_knowsTold_75 ?_
      obtain ⟨k13, h⟩ := sh_chk h
      refine vn_iast 76 dX12_knowsTold_76 (g_l_325 hG7) k13 (fun μ14 eμ14 => ?_)
      rw [sh_let_eq eμ14] at h
      have hG14 : sh_G μ14 := by rw [eμ14]; exact hG7
      have e2 := Option.some.inj h
      refine vv_vret 77 dX12_knowsTold_77 rfl (Nat.le_refl _) (Nat.le_refl _) ⟨rfl, e2⟩
  · rw [if_pos c10] at h
    refine vv_aload_n 27 0 dX12_knowsTold_27 rfl rfl ?_
    refine vv_getR 28 dX12_knowsTold_28 fl_12_115 rfl (g_l_291 hG7) (g_r_291_43 hG7) ?_
    refine vv_iconst 31 dX12_knowsTold_31 ik_3 ?_
    refine vv_iload_n 32 1 dX12_knowsTold_32 rfl rfl ?_
    refine vv_imul 33 dX12_knowsTold_33 ?_
    refine vv_iconst 34 dX12_knowsTold_34 ik_2 ?_
    refine vv_iadd 35 dX12_knowsTold_35 ?_
    obtain ⟨k15, h⟩ := sh_chk h
    refine vv_iald 36 dX12_knowsTold_36 (g_l_325 hG7) k15 ?_
    refine vv_iload_n 37 2 dX12_knowsTold_37 rfl rfl ?_
    refine vv_ishr 38 dX12_knowsTold_38 ?_
    refine vv_iconst 39 dX12_knowsTold_39 ik_1 ?_
    refine vv_iand 40 dX12_knowsTold_40 ?_
    refine vv_iconst 41 dX12_knowsTold_41 ik_1 ?_
    refine vv_icmp_ne 42 54 dX12_knowsTold_42 (by decide) (fun c16 => ?_) (fun c16 => ?_)
    · rw [if_neg c16] at h
      refine vv_aload_n 54 0 dX12_knowsTold_54 rfl rfl ?_
      refine vv_getI 55 dX12_knowsTold_55 fl_12_253 rfl (g_l_291 hG7) ?_
      refine vv_if_ne 58 77 dX12_knowsTold_58 (by decide) (fun c17 => ?_) (fun c17 => ?_)
      · rw [if_neg c17] at h
        have e2 := Option.some.inj h
        refine vv_vret 77 dX12_knowsTold_77 rfl (Nat.le_refl _) (Nat.le_refl _) ⟨rfl, e2⟩
      · rw [if_pos c17] at h
        refine vv_aload_n 61 0 dX12_knowsTold_61 rfl rfl ?_
        refine vv_getR 62 dX12_knowsTold_62 fl_12_115 rfl (g_l_291 hG7) (g_r_291_43 hG7) ?_
        refine vv_iconst 65 dX12_knowsTold_65 ik_3 ?_
        refine vv_iload_n 66 1 dX12_knowsTold_66 rfl rfl ?_
        refine vv_imul 67 dX12_knowsTold_67 ?_
        refine vv_iconst 68 dX12_knowsTold_68 ik_2 ?_
        refine vv_iadd 69 dX12_knowsTold_69 ?_
        refine vv_dup2_ri 70 dX12_knowsTold_70 ?_
        obtain ⟨k18, h⟩ := sh_chk h
        refine vv_iald 71 dX12_knowsTold_71 (g_l_325 hG7) k18 ?_
        refine vv_iconst 72 dX12_knowsTold_72 ik_1 ?_
        refine vv_iload_n 73 2 dX12_knowsTold_73 rfl rfl ?_
        refine vv_ishl 74 dX12_knowsTold_74 ?_
        refine vv_ior 75 dX12_knowsTold_75 ?_
        obtain ⟨k19, h⟩ := sh_chk h
        refine vn_iast 76 dX12_knowsTold_76 (g_l_325 hG7) k19 (fun μ20 eμ20 => ?_)
        rw [sh_let_eq eμ20] at h
        have hG20 : sh_G μ20 := by rw [eμ20]; exact hG7
        have e2 := Option.some.inj h
        refine vv_vret 77 dX12_knowsTold_77 rfl (Nat.le_refl _) (Nat.le_refl _) ⟨rfl, e2⟩
    · rw [if_pos c16] at h
      refine vv_aload_n 45 0 dX12_knowsTold_45 rfl rfl ?_
      refine vv_iconst 46 dX12_knowsTold_46 ik_3 ?_
      refine vv_aload_n 47 0 dX12_knowsTold_47 rfl rfl ?_
      refine vv_getI 48 dX12_knowsTold_48 fl_12_304 rfl (g_l_291 hG7) ?_
      obtain ⟨μ21, hr22, h⟩ := sh_bindv_e h
      refine v1_callV [_, _] 51 dX12_knowsTold_51 ck_X12_283 (g_l_291 hG7) ⟨by decide, rfl⟩ (t_X12_fail hG7 hr22) (Nat.le_of_ble_eq_true rfl) ⟨Nat.le_of_ble_eq_true rfl, Nat.le_of_ble_eq_true rfl⟩ rfl (Nat.le_of_ble_eq_true rfl) ?_
      have hG21 := gp_X12_fail hG7 hr22
      refine vv_aload_n 54 0 dX12_knowsTold_54 rfl rfl ?_
      refine vv_getI 55 dX12_knowsTold_55 fl_12_253 rfl (g_l_291 hG21) ?_
      refine vv_if_ne 58 77 dX12_knowsTold_58 (by decide) (fun c24 => ?_) (fun c24 => ?_)
      · rw [if_neg c24] at h
        have e2 := Option.some.inj h
        refine vv_vret 77 dX12_knowsTold_77 rfl (Nat.le_refl _) (Nat.le_refl _) ⟨rfl, e2⟩
      · rw [if_pos c24] at h
        refine vv_aload_n 61 0 dX12_knowsTold_61 rfl rfl ?_
        refine vv_getR 62 dX12_knowsTold_62 fl_12_115 rfl (g_l_291 hG21) (g_r_291_43 hG21) ?_
        refine vv_iconst 65 dX12_knowsTold_65 ik_3 ?_
        refine vv_iload_n 66 1 dX12_knowsTold_66 rfl rfl ?_
        refine vv_imul 67 dX12_knowsTold_67 ?_
        refine vv_iconst 68 dX12_knowsTold_68 ik_2 ?_
        refine vv_iadd 69 dX12_knowsTold_69 ?_
        refine vv_dup2_ri 70 dX12_knowsTold_70 ?_
        obtain ⟨k25, h⟩ := sh_chk h
        refine vv_iald 71 dX12_knowsTold_71 (g_l_325 hG21) k25 ?_
        refine vv_iconst 72 dX12_knowsTold_72 ik_1 ?_
        refine vv_iload_n 73 2 dX12_knowsTold_73 rfl rfl ?_
        refine vv_ishl 74 dX12_knowsTold_74 ?_
        refine vv_ior 75 dX12_knowsTold_75 ?_
        obtain ⟨k26, h⟩ := sh_chk h
        refine vn_iast 76 dX12_knowsTold_76 (g_l_325 hG21) k26 (fun μ27 eμ27 => ?_)
        rw [sh_let_eq eμ27] at h
        have hG27 : sh_G μ27 := by rw [eμ27]; exact hG21
        have e2 := Option.some.inj h
        refine vv_vret 77 dX12_knowsTold_77 rfl (Nat.le_refl _) (Nat.le_refl _) ⟨rfl, e2⟩
noncomputable def f_X12_listTold (a1 : Int32) (μ : sh_Mem) : Option sh_Mem := sh_bind (f_X12_isFull 2 12 a1 μ) (fun y3 μ1 => (if y3 = 0 then sh_bind (f_X12_named 1 μ1) (fun y7 μ5 => sh_bindv (f_X12_needs 302 2 μ5) (fun μ8 => sh_bind (f_X12_named 0 μ8) (fun y13 μ11 => (if (sh_i μ11 291 5) = 0 then (if sh_in (2 * (sh_i μ11 322 (Int32.toNatClampNeg 2))) 48 then sh_let (sh_setI μ11 326 ((2 * (sh_i μ11 322 (Int32.toNatClampNeg 2)))).toNatClampNeg y7) (fun μ16 => (if sh_in ((2 * (sh_i μ16 322 (Int32.toNatClampNeg 2))) + 1) 48 then sh_let (sh_setI μ16 326 (((2 * (sh_i μ16 322 (Int32.toNatClampNeg 2))) + 1)).toNatClampNeg y13) (fun μ18 => sh_let (sh_setI μ18 322 (Int32.toNatClampNeg 2) ((sh_i μ18 322 (Int32.toNatClampNeg 2)) + 1)) (fun μ19 => some μ19)) else none)) else none) else some μ11)))) else some μ1))
theorem gp_X12_listTold {a1 : Int32} {μ μ' : sh_Mem} (hG : sh_G μ) (h : f_X12_listTold a1 μ = some μ') : sh_G μ' := by
  unfold f_X12_listTold at h
  obtain ⟨y3, μ1, hr2, h⟩ := sh_bind_e h
  have hG1 := gp_X12_isFull hG hr2
  by_cases c4 : y3 = 0
  · rw [if_pos c4] at h
    obtain ⟨y7, μ5, hr6, h⟩ := sh_bind_e h
    have hG5 := gp_X12_named hG1 hr6
    obtain ⟨μ8, hr9, h⟩ := sh_bindv_e h
    have hG8 := gp_X12_needs hG5 (sh_LAYat_302) hr9
    obtain ⟨y13, μ11, hr12, h⟩ := sh_bind_e h
    have hG11 := gp_X12_named hG8 hr12
    by_cases c14 : (sh_i μ11 291 5) = 0
    · rw [if_pos c14] at h
      obtain ⟨k15, h⟩ := sh_chk h
      obtain ⟨μ16, eμ16⟩ : ∃ y : sh_Mem, y = (sh_setI μ11 326 ((2 * (sh_i μ11 322 (Int32.toNatClampNeg 2)))).toNatClampNeg y7) := ⟨_, rfl⟩
      rw [sh_let_eq eμ16] at h
      have hG16 : sh_G μ16 := by rw [eμ16]; exact hG11
      obtain ⟨k17, h⟩ := sh_chk h
      obtain ⟨μ18, eμ18⟩ : ∃ y : sh_Mem, y = (sh_setI μ16 326 (((2 * (sh_i μ16 322 (Int32.toNatClampNeg 2))) + 1)).toNatClampNeg y13) := ⟨_, rfl⟩
      rw [sh_let_eq eμ18] at h
      have hG18 : sh_G μ18 := by rw [eμ18]; exact hG16
      obtain ⟨μ19, eμ19⟩ : ∃ y : sh_Mem, y = (sh_setI μ18 322 (Int32.toNatClampNeg 2) ((sh_i μ18 322 (Int32.toNatClampNeg 2)) + 1)) := ⟨_, rfl⟩
      rw [sh_let_eq eμ19] at h
      have hG19 : sh_G μ19 := by rw [eμ19]; exact hG18
      have e2 := Option.some.inj h
      exact e2 ▸ hG19
    · rw [if_neg c14] at h
      have e2 := Option.some.inj h
      exact e2 ▸ hG11
  · rw [if_neg c4] at h
    have e2 := Option.some.inj h
    exact e2 ▸ hG1
theorem t_X12_listTold {a1 : Int32} {μ μ' : sh_Mem} (hG : sh_G μ) (h : f_X12_listTold a1 μ = some μ') : sh_C0 l B D ca 6 M_X12_listTold [.ref 291, .int a1] μ (fun v0 μ0 => v0 = none ∧ μ0 = μ') := by
  unfold f_X12_listTold at h
  refine vv_aload_n 0 0 dX12_listTold_0 rfl rfl ?_
  refine vv_iconst 1 dX12_listTold_1 ik_2 ?_
  refine vv_bipush 2 dX12_listTold_2 bk_12 ?_
  refine vv_iload_n 4 1 dX12_listTold_4 rfl rfl ?_
  obtain ⟨y3, μ1, hr2, h⟩ := sh_bind_e h
  refine v1_callV [_, _, _] 5 dX12_listTold_5 ck_X12_333 (g_l_291 hG) ⟨by decide, rfl⟩ (t_X12_isFull hG hr2) (Nat.le_of_ble_eq_true rfl) ⟨Nat.le_of_ble_eq_true rfl, Nat.le_of_ble_eq_true rfl⟩ rfl (Nat.le_of_ble_eq_true rfl) ?_
  have hG1 := gp_X12_isFull hG hr2
  refine vv_if_eq 8 12 dX12_listTold_8 (by decide) (fun c4 => ?_) (fun c4 => ?_)
  · rw [if_pos c4] at h
    refine vv_aload_n 12 0 dX12_listTold_12 rfl rfl ?_
    refine vv_iconst 13 dX12_listTold_13 ik_1 ?_
    obtain ⟨y7, μ5, hr6, h⟩ := sh_bind_e h
    refine v1_callV [_] 14 dX12_listTold_14 ck_X12_340 (g_l_291 hG1) ⟨by decide, rfl⟩ (t_X12_named hG1 hr6) (Nat.le_of_ble_eq_true rfl) ⟨Nat.le_of_ble_eq_true rfl, Nat.le_of_ble_eq_true rfl⟩ rfl (Nat.le_of_ble_eq_true rfl) ?_
    have hG5 := gp_X12_named hG1 hr6
    refine vv_istore_n (lv' := [(2, _), (0, _), (1, _)]) 17 2 dX12_listTold_17 rfl (by decide) rfl ?_
    refine vv_aload_n 18 0 dX12_listTold_18 rfl rfl ?_
    refine vv_aload_n 19 0 dX12_listTold_19 rfl rfl ?_
    refine vv_getR 20 dX12_listTold_20 fl_12_45 rfl (g_l_291 hG5) (g_r_291_19 hG5) ?_
    obtain ⟨μ8, hr9, h⟩ := sh_bindv_e h
    refine v1_callV [_] 23 dX12_listTold_23 ck_X12_318 (g_l_291 hG5) ⟨by decide, rfl⟩ (t_X12_needs hG5 (sh_LAYat_302) hr9) (Nat.le_of_ble_eq_true rfl) ⟨Nat.le_of_ble_eq_true rfl, Nat.le_of_ble_eq_true rfl⟩ rfl (Nat.le_of_ble_eq_true rfl) ?_
    have hG8 := gp_X12_needs hG5 (sh_LAYat_302) hr9
    refine vv_aload_n 26 0 dX12_listTold_26 rfl rfl ?_
    refine vv_iconst 27 dX12_listTold_27 ik_0 ?_
    obtain ⟨y13, μ11, hr12, h⟩ := sh_bind_e h
    refine v1_callV [_] 28 dX12_listTold_28 ck_X12_340 (g_l_291 hG8) ⟨by decide, rfl⟩ (t_X12_named hG8 hr12) (Nat.le_of_ble_eq_true rfl) ⟨Nat.le_of_ble_eq_true rfl, Nat.le_of_ble_eq_true rfl⟩ rfl (Nat.le_of_ble_eq_true rfl) ?_
    have hG11 := gp_X12_named hG8 hr12
    refine vv_istore_n (lv' := [(3, _), (2, _), (0, _), (1, _)]) 31 3 dX12_listTold_31 rfl (by decide) rfl ?_
    refine vv_aload_n 32 0 dX12_listTold_32 rfl rfl ?_
    refine vv_getI 33 dX12_listTold_33 fl_12_253 rfl (g_l_291 hG11) ?_
    refine vv_if_eq 36 40 dX12_listTold_36 (by decide) (fun c14 => ?_) (fun c14 => ?_)
    · rw [if_pos c14] at h
      refine vv_aload_n 40 0 dX12_listTold_40 rfl rfl ?_
      refine vv_getR 41 dX12_listTold_41 fl_12_118 rfl (g_l_291 hG11) (g_r_291_44 hG11) ?_
      refine vv_iconst 44 dX12_listTold_44 ik_2 ?_
      refine vv_aload_n 45 0 dX12_listTold_45 rfl rfl ?_
      refine vv_getR 46 dX12_listTold_46 fl_12_105 rfl (g_l_291 hG11) (g_r_291_40 hG11) ?_
      refine vv_iconst 49 dX12_listTold_49 ik_2 ?_
      refine vv_iald 50 dX12_listTold_50 (g_l_322 hG11) (by unfold vp_in; decide) ?_
      refine vv_imul 51 dX12_listTold_51 ?_
      refine vv_iload_n 52 2 dX12_listTold_52 rfl rfl ?_
      obtain ⟨k15, h⟩ := sh_chk h
      refine vn_iast 53 dX12_listTold_53 (g_l_326 hG11) k15 (fun μ16 eμ16 => ?_)
      rw [sh_let_eq eμ16] at h
      have hG16 : sh_G μ16 := by rw [eμ16]; exact hG11
      refine vv_aload_n 54 0 dX12_listTold_54 rfl rfl ?_
      refine vv_getR 55 dX12_listTold_55 fl_12_118 rfl (g_l_291 hG16) (g_r_291_44 hG16) ?_
      refine vv_iconst 58 dX12_listTold_58 ik_2 ?_
      refine vv_aload_n 59 0 dX12_listTold_59 rfl rfl ?_
      refine vv_getR 60 dX12_listTold_60 fl_12_105 rfl (g_l_291 hG16) (g_r_291_40 hG16) ?_
      refine vv_iconst 63 dX12_listTold_63 ik_2 ?_
      refine vv_iald 64 dX12_listTold_64 (g_l_322 hG16) (by unfold vp_in; decide) ?_
      refine vv_imul 65 dX12_listTold_65 ?_
      refine vv_iconst 66 dX12_listTold_66 ik_1 ?_
      refine vv_iadd 67 dX12_listTold_67 ?_
      refine vv_iload_n 68 3 dX12_listTold_68 rfl rfl ?_
      obtain ⟨k17, h⟩ := sh_chk h
      refine vn_iast 69 dX12_listTold_69 (g_l_326 hG16) k17 (fun μ18 eμ18 => ?_)
      rw [sh_let_eq eμ18] at h
      have hG18 : sh_G μ18 := by rw [eμ18]; exact hG16
      refine vv_aload_n 70 0 dX12_listTold_70 rfl rfl ?_
      refine vv_getR 71 dX12_listTold_71 fl_12_105 rfl (g_l_291 hG18) (g_r_291_40 hG18) ?_
      refine vv_iconst 74 dX12_listTold_74 ik_2 ?_
      refine vv_dup2_ri 75 dX12_listTold_75 ?_
      refine vv_iald 76 dX12_listTold_76 (g_l_322 hG18) (by unfold vp_in; decide) ?_
      refine vv_iconst 77 dX12_listTold_77 ik_1 ?_
      refine vv_iadd 78 dX12_listTold_78 ?_
      refine vn_iast 79 dX12_listTold_79 (g_l_322 hG18) (by unfold vp_in; decide) (fun μ19 eμ19 => ?_)
      rw [sh_let_eq eμ19] at h
      have hG19 : sh_G μ19 := by rw [eμ19]; exact hG18
      have e2 := Option.some.inj h
      refine vv_vret 80 dX12_listTold_80 rfl (Nat.le_refl _) (Nat.le_refl _) ⟨rfl, e2⟩
    · rw [if_neg c14] at h
      have e2 := Option.some.inj h
      refine vv_vret 39 dX12_listTold_39 rfl (Nat.le_refl _) (Nat.le_refl _) ⟨rfl, e2⟩
  · rw [if_neg c4] at h
    have e2 := Option.some.inj h
    refine vv_vret 11 dX12_listTold_11 rfl (Nat.le_refl _) (Nat.le_refl _) ⟨rfl, e2⟩
noncomputable def F_X12_stands : Nat → Nat → Int32 → sh_Mem → Option sh_Mem
  | 0, _, _, _ => none
  | fuel + 1, lbl, i1, μ => match lbl with
    | 1 => (if 3 ≤ i1 then F_X12_stands fuel 2 0 μ else (if sh_in i1 6 then (if sh_in (3 + i1) 6 then sh_let (sh_setI μ 321 ((3 + i1)).toNatClampNeg (sh_i μ 321 i1.toNatClampNeg)) (fun μ81 => (if sh_in i1 6 then (if sh_in (3 + i1) 6 then sh_let (sh_setI μ81 322 ((3 + i1)).toNatClampNeg (sh_i μ81 322 i1.toNatClampNeg)) (fun μ84 => (if sh_in i1 6 then (if sh_in (3 + i1) 6 then sh_let (sh_setI μ84 327 ((3 + i1)).toNatClampNeg (sh_i μ84 327 i1.toNatClampNeg)) (fun μ87 => (if sh_in i1 6 then (if sh_in (3 + i1) 6 then sh_let (sh_setI μ87 328 ((3 + i1)).toNatClampNeg (sh_i μ87 328 i1.toNatClampNeg)) (fun μ90 => F_X12_stands fuel 1 (i1 + 1) μ90) else none) else none)) else none) else none)) else none) else none)) else none) else none))
    | 2 => (if 16 ≤ i1 then F_X12_stands fuel 3 0 μ else (if sh_in i1 32 then (if sh_in (16 + i1) 32 then sh_let (sh_setL μ 323 ((16 + i1)).toNatClampNeg (sh_l μ 323 i1.toNatClampNeg)) (fun μ94 => F_X12_stands fuel 2 (i1 + 1) μ94) else none) else none))
    | 3 => (if 24 ≤ i1 then F_X12_stands fuel 4 0 μ else (if sh_in i1 48 then (if sh_in (24 + i1) 48 then sh_let (sh_setI μ 326 ((24 + i1)).toNatClampNeg (sh_i μ 326 i1.toNatClampNeg)) (fun μ98 => F_X12_stands fuel 3 (i1 + 1) μ98) else none) else none))
    | 4 => (if (sh_i μ 291 48) ≤ i1 then F_X12_stands fuel 5 0 μ else (if sh_in i1 3200 then (if sh_in (1600 + i1) 3200 then sh_let (sh_setI μ 329 ((1600 + i1)).toNatClampNeg (sh_i μ 329 i1.toNatClampNeg)) (fun μ102 => F_X12_stands fuel 4 (i1 + 1) μ102) else none) else none))
    | 5 => (if 232 ≤ i1 then F_X12_stands fuel 6 0 μ else (if sh_in i1 232 then sh_let (sh_setI μ 330 i1.toNatClampNeg 0) (fun μ105 => F_X12_stands fuel 5 (i1 + 1) μ105) else none))
    | 6 => (if 49 ≤ i1 then F_X12_stands fuel 7 0 μ else (if sh_in i1 49 then (if sh_in (1 + i1) 232 then sh_let (sh_setI μ 330 ((1 + i1)).toNatClampNeg (sh_i μ 324 i1.toNatClampNeg)) (fun μ109 => F_X12_stands fuel 6 (i1 + 1) μ109) else none) else none))
    | 7 => (if (3 * (sh_i μ 322 (Int32.toNatClampNeg 1))) ≤ i1 then sh_let (sh_setI μ 291 76 0) (fun μ111 => sh_let (sh_setI μ111 291 71 0) (fun μ112 => some μ112)) else (if sh_in i1 21 then (if sh_in (50 + i1) 232 then sh_let (sh_setI μ 330 ((50 + i1)).toNatClampNeg (sh_i μ 325 i1.toNatClampNeg)) (fun μ115 => F_X12_stands fuel 7 (i1 + 1) μ115) else none) else none))
    | _ => none
noncomputable def f_X12_stands (μ : sh_Mem) : Option sh_Mem := sh_let (sh_setI μ 291 50 1) (fun μ116 => F_X12_stands sh_fuel 1 0 μ116)
theorem gpl_X12_stands (fuel : Nat) : (∀ ⦃i1 : Int32⦄ ⦃μ μ' : sh_Mem⦄, sh_G μ → F_X12_stands fuel 1 i1 μ = some μ' → sh_G μ') ∧ (∀ ⦃i1 : Int32⦄ ⦃μ μ' : sh_Mem⦄, sh_G μ → F_X12_stands fuel 2 i1 μ = some μ' → sh_G μ') ∧ (∀ ⦃i1 : Int32⦄ ⦃μ μ' : sh_Mem⦄, sh_G μ → F_X12_stands fuel 3 i1 μ = some μ' → sh_G μ') ∧ (∀ ⦃i1 : Int32⦄ ⦃μ μ' : sh_Mem⦄, sh_G μ → F_X12_stands fuel 4 i1 μ = some μ' → sh_G μ') ∧ (∀ ⦃i1 : Int32⦄ ⦃μ μ' : sh_Mem⦄, sh_G μ → F_X12_stands fuel 5 i1 μ = some μ' → sh_G μ') ∧ (∀ ⦃i1 : Int32⦄ ⦃μ μ' : sh_Mem⦄, sh_G μ → F_X12_stands fuel 6 i1 μ = some μ' → sh_G μ') ∧ (∀ ⦃i1 : Int32⦄ ⦃μ μ' : sh_Mem⦄, sh_G μ → F_X12_stands fuel 7 i1 μ = some μ' → sh_G μ') := by
  induction fuel with
  | zero => exact ⟨(by intro i1 μ μ' hG h; cases h), (by intro i1 μ μ' hG h; cases h), (by intro i1 μ μ' hG h; cases h), (by intro i1 μ μ' hG h; cases h), (by intro i1 μ μ' hG h; cases h), (by intro i1 μ μ' hG h; cases h), (by intro i1 μ μ' hG h; cases h)⟩
  | succ fuel ih =>
    obtain ⟨ih_7, ih_76, ih_105, ih_134, ih_166, ih_188, ih_216⟩ := ih
    refine ⟨?_, ?_, ?_, ?_, ?_, ?_, ?_⟩
    · intro i1 μ μ' hG h
      replace h : ((if 3 ≤ i1 then F_X12_stands fuel 2 0 μ else (if sh_in i1 6 then (if sh_in (3 + i1) 6 then sh_let (sh_setI μ 321 ((3 + i1)).toNatClampNeg (sh_i μ 321 i1.toNatClampNeg)) (fun μ81 => (if sh_in i1 6 then (if sh_in (3 + i1) 6 then sh_let (sh_setI μ81 322 ((3 + i1)).toNatClampNeg (sh_i μ81 322 i1.toNatClampNeg)) (fun μ84 => (if sh_in i1 6 then (if sh_in (3 + i1) 6 then sh_let (sh_setI μ84 327 ((3 + i1)).toNatClampNeg (sh_i μ84 327 i1.toNatClampNeg)) (fun μ87 => (if sh_in i1 6 then (if sh_in (3 + i1) 6 then sh_let (sh_setI μ87 328 ((3 + i1)).toNatClampNeg (sh_i μ87 328 i1.toNatClampNeg)) (fun μ90 => F_X12_stands fuel 1 (i1 + 1) μ90) else none) else none)) else none) else none)) else none) else none)) else none) else none)) : Option sh_Mem) = some μ' := h
      by_cases c78 : 3 ≤ i1
      · rw [if_pos c78] at h
        exact ih_76 hG h
      · rw [if_neg c78] at h
        obtain ⟨k79, h⟩ := sh_chk h
        obtain ⟨k80, h⟩ := sh_chk h
        obtain ⟨μ81, eμ81⟩ : ∃ y : sh_Mem, y = (sh_setI μ 321 ((3 + i1)).toNatClampNeg (sh_i μ 321 i1.toNatClampNeg)) := ⟨_, rfl⟩
        rw [sh_let_eq eμ81] at h
        have hG81 : sh_G μ81 := by rw [eμ81]; exact hG
        obtain ⟨k82, h⟩ := sh_chk h
        obtain ⟨k83, h⟩ := sh_chk h
        obtain ⟨μ84, eμ84⟩ : ∃ y : sh_Mem, y = (sh_setI μ81 322 ((3 + i1)).toNatClampNeg (sh_i μ81 322 i1.toNatClampNeg)) := ⟨_, rfl⟩
        rw [sh_let_eq eμ84] at h
        have hG84 : sh_G μ84 := by rw [eμ84]; exact hG81
        obtain ⟨k85, h⟩ := sh_chk h
        obtain ⟨k86, h⟩ := sh_chk h
        obtain ⟨μ87, eμ87⟩ : ∃ y : sh_Mem, y = (sh_setI μ84 327 ((3 + i1)).toNatClampNeg (sh_i μ84 327 i1.toNatClampNeg)) := ⟨_, rfl⟩
        rw [sh_let_eq eμ87] at h
        have hG87 : sh_G μ87 := by rw [eμ87]; exact hG84
        obtain ⟨k88, h⟩ := sh_chk h
        obtain ⟨k89, h⟩ := sh_chk h
        obtain ⟨μ90, eμ90⟩ : ∃ y : sh_Mem, y = (sh_setI μ87 328 ((3 + i1)).toNatClampNeg (sh_i μ87 328 i1.toNatClampNeg)) := ⟨_, rfl⟩
        rw [sh_let_eq eμ90] at h
        have hG90 : sh_G μ90 := by rw [eμ90]; exact hG87
        exact ih_7 hG90 h
    · intro i1 μ μ' hG h
      replace h : ((if 16 ≤ i1 then F_X12_stands fuel 3 0 μ else (if sh_in i1 32 then (if sh_in (16 + i1) 32 then sh_let (sh_setL μ 323 ((16 + i1)).toNatClampNeg (sh_l μ 323 i1.toNatClampNeg)) (fun μ94 => F_X12_stands fuel 2 (i1 + 1) μ94) else none) else none)) : Option sh_Mem) = some μ' := h
      by_cases c91 : 16 ≤ i1
      · rw [if_pos c91] at h
        exact ih_105 hG h
      · rw [if_neg c91] at h
        obtain ⟨k92, h⟩ := sh_chk h
        obtain ⟨k93, h⟩ := sh_chk h
        obtain ⟨μ94, eμ94⟩ : ∃ y : sh_Mem, y = (sh_setL μ 323 ((16 + i1)).toNatClampNeg (sh_l μ 323 i1.toNatClampNeg)) := ⟨_, rfl⟩
        rw [sh_let_eq eμ94] at h
        have hG94 : sh_G μ94 := by rw [eμ94]; exact hG
        exact ih_76 hG94 h
    · intro i1 μ μ' hG h
      replace h : ((if 24 ≤ i1 then F_X12_stands fuel 4 0 μ else (if sh_in i1 48 then (if sh_in (24 + i1) 48 then sh_let (sh_setI μ 326 ((24 + i1)).toNatClampNeg (sh_i μ 326 i1.toNatClampNeg)) (fun μ98 => F_X12_stands fuel 3 (i1 + 1) μ98) else none) else none)) : Option sh_Mem) = some μ' := h
      by_cases c95 : 24 ≤ i1
      · rw [if_pos c95] at h
        exact ih_134 hG h
      · rw [if_neg c95] at h
        obtain ⟨k96, h⟩ := sh_chk h
        obtain ⟨k97, h⟩ := sh_chk h
        obtain ⟨μ98, eμ98⟩ : ∃ y : sh_Mem, y = (sh_setI μ 326 ((24 + i1)).toNatClampNeg (sh_i μ 326 i1.toNatClampNeg)) := ⟨_, rfl⟩
        rw [sh_let_eq eμ98] at h
        have hG98 : sh_G μ98 := by rw [eμ98]; exact hG
        exact ih_105 hG98 h
    · intro i1 μ μ' hG h
      replace h : ((if (sh_i μ 291 48) ≤ i1 then F_X12_stands fuel 5 0 μ else (if sh_in i1 3200 then (if sh_in (1600 + i1) 3200 then sh_let (sh_setI μ 329 ((1600 + i1)).toNatClampNeg (sh_i μ 329 i1.toNatClampNeg)) (fun μ102 => F_X12_stands fuel 4 (i1 + 1) μ102) else none) else none)) : Option sh_Mem) = some μ' := h
      by_cases c99 : (sh_i μ 291 48) ≤ i1
      · rw [if_pos c99] at h
        exact ih_166 hG h
      · rw [if_neg c99] at h
        obtain ⟨k100, h⟩ := sh_chk h
        obtain ⟨k101, h⟩ := sh_chk h
        obtain ⟨μ102, eμ102⟩ : ∃ y : sh_Mem, y = (sh_setI μ 329 ((1600 + i1)).toNatClampNeg (sh_i μ 329 i1.toNatClampNeg)) := ⟨_, rfl⟩
        rw [sh_let_eq eμ102] at h
        have hG102 : sh_G μ102 := by rw [eμ102]; exact hG
        exact ih_134 hG102 h
    · intro i1 μ μ' hG h
      replace h : ((if 232 ≤ i1 then F_X12_stands fuel 6 0 μ else (if sh_in i1 232 then sh_let (sh_setI μ 330 i1.toNatClampNeg 0) (fun μ105 => F_X12_stands fuel 5 (i1 + 1) μ105) else none)) : Option sh_Mem) = some μ' := h
      by_cases c103 : 232 ≤ i1
      · rw [if_pos c103] at h
        exact ih_188 hG h
      · rw [if_neg c103] at h
        obtain ⟨k104, h⟩ := sh_chk h
        obtain ⟨μ105, eμ105⟩ : ∃ y : sh_Mem, y = (sh_setI μ 330 i1.toNatClampNeg 0) := ⟨_, rfl⟩
        rw [sh_let_eq eμ105] at h
        have hG105 : sh_G μ105 := by rw [eμ105]; exact hG
        exact ih_166 hG105 h
    · intro i1 μ μ' hG h
      replace h : ((if 49 ≤ i1 then F_X12_stands fuel 7 0 μ else (if sh_in i1 49 then (if sh_in (1 + i1) 232 then sh_let (sh_setI μ 330 ((1 + i1)).toNatClampNeg (sh_i μ 324 i1.toNatClampNeg)) (fun μ109 => F_X12_stands fuel 6 (i1 + 1) μ109) else none) else none)) : Option sh_Mem) = some μ' := h
      by_cases c106 : 49 ≤ i1
      · rw [if_pos c106] at h
        exact ih_216 hG h
      · rw [if_neg c106] at h
        obtain ⟨k107, h⟩ := sh_chk h
        obtain ⟨k108, h⟩ := sh_chk h
        obtain ⟨μ109, eμ109⟩ : ∃ y : sh_Mem, y = (sh_setI μ 330 ((1 + i1)).toNatClampNeg (sh_i μ 324 i1.toNatClampNeg)) := ⟨_, rfl⟩
        rw [sh_let_eq eμ109] at h
        have hG109 : sh_G μ109 := by rw [eμ109]; exact hG
        exact ih_188 hG109 h
    · intro i1 μ μ' hG h
      replace h : ((if (3 * (sh_i μ 322 (Int32.toNatClampNeg 1))) ≤ i1 then sh_let (sh_setI μ 291 76 0) (fun μ111 => sh_let (sh_setI μ111 291 71 0) (fun μ112 => some μ112)) else (if sh_in i1 21 then (if sh_in (50 + i1) 232 then sh_let (sh_setI μ 330 ((50 + i1)).toNatClampNeg (sh_i μ 325 i1.toNatClampNeg)) (fun μ115 => F_X12_stands fuel 7 (i1 + 1) μ115) else none) else none)) : Option sh_Mem) = some μ' := h
      by_cases c110 : (3 * (sh_i μ 322 (Int32.toNatClampNeg 1))) ≤ i1
      · rw [if_pos c110] at h
        obtain ⟨μ111, eμ111⟩ : ∃ y : sh_Mem, y = (sh_setI μ 291 76 0) := ⟨_, rfl⟩
        rw [sh_let_eq eμ111] at h
        have hG111 : sh_G μ111 := by rw [eμ111]; exact hG
        obtain ⟨μ112, eμ112⟩ : ∃ y : sh_Mem, y = (sh_setI μ111 291 71 0) := ⟨_, rfl⟩
        rw [sh_let_eq eμ112] at h
        have hG112 : sh_G μ112 := by rw [eμ112]; exact hG111
        have e2 := Option.some.inj h
        exact e2 ▸ hG112
      · rw [if_neg c110] at h
        obtain ⟨k113, h⟩ := sh_chk h
        obtain ⟨k114, h⟩ := sh_chk h
        obtain ⟨μ115, eμ115⟩ : ∃ y : sh_Mem, y = (sh_setI μ 330 ((50 + i1)).toNatClampNeg (sh_i μ 325 i1.toNatClampNeg)) := ⟨_, rfl⟩
        rw [sh_let_eq eμ115] at h
        have hG115 : sh_G μ115 := by rw [eμ115]; exact hG
        exact ih_216 hG115 h
theorem tl_X12_stands (fuel : Nat) : (∀ ⦃i1 : Int32⦄ ⦃μ μ' : sh_Mem⦄, sh_G μ → F_X12_stands fuel 1 i1 μ = some μ' → sh_V0 l B D ca 1 M_X12_stands 7 [(0, .ref 291), (1, .int i1)] [] μ (fun v0 μ0 => v0 = none ∧ μ0 = μ')) ∧ (∀ ⦃i1 : Int32⦄ ⦃μ μ' : sh_Mem⦄, sh_G μ → F_X12_stands fuel 2 i1 μ = some μ' → sh_V0 l B D ca 1 M_X12_stands 76 [(0, .ref 291), (1, .int i1)] [] μ (fun v0 μ0 => v0 = none ∧ μ0 = μ')) ∧ (∀ ⦃i1 : Int32⦄ ⦃μ μ' : sh_Mem⦄, sh_G μ → F_X12_stands fuel 3 i1 μ = some μ' → sh_V0 l B D ca 1 M_X12_stands 105 [(0, .ref 291), (1, .int i1)] [] μ (fun v0 μ0 => v0 = none ∧ μ0 = μ')) ∧ (∀ ⦃i1 : Int32⦄ ⦃μ μ' : sh_Mem⦄, sh_G μ → F_X12_stands fuel 4 i1 μ = some μ' → sh_V0 l B D ca 1 M_X12_stands 134 [(0, .ref 291), (1, .int i1)] [] μ (fun v0 μ0 => v0 = none ∧ μ0 = μ')) ∧ (∀ ⦃i1 : Int32⦄ ⦃μ μ' : sh_Mem⦄, sh_G μ → F_X12_stands fuel 5 i1 μ = some μ' → sh_V0 l B D ca 1 M_X12_stands 166 [(0, .ref 291), (1, .int i1)] [] μ (fun v0 μ0 => v0 = none ∧ μ0 = μ')) ∧ (∀ ⦃i1 : Int32⦄ ⦃μ μ' : sh_Mem⦄, sh_G μ → F_X12_stands fuel 6 i1 μ = some μ' → sh_V0 l B D ca 1 M_X12_stands 188 [(0, .ref 291), (1, .int i1)] [] μ (fun v0 μ0 => v0 = none ∧ μ0 = μ')) ∧ (∀ ⦃i1 : Int32⦄ ⦃μ μ' : sh_Mem⦄, sh_G μ → F_X12_stands fuel 7 i1 μ = some μ' → sh_V0 l B D ca 1 M_X12_stands 216 [(0, .ref 291), (1, .int i1)] [] μ (fun v0 μ0 => v0 = none ∧ μ0 = μ')) := by
  induction fuel with
  | zero => exact ⟨(by intro i1 μ μ' hG h; cases h), (by intro i1 μ μ' hG h; cases h), (by intro i1 μ μ' hG h; cases h), (by intro i1 μ μ' hG h; cases h), (by intro i1 μ μ' hG h; cases h), (by intro i1 μ μ' hG h; cases h), (by intro i1 μ μ' hG h; cases h)⟩
  | succ fuel ih =>
    obtain ⟨ih_7, ih_76, ih_105, ih_134, ih_166, ih_188, ih_216⟩ := ih
    refine ⟨?_, ?_, ?_, ?_, ?_, ?_, ?_⟩
    · intro i1 μ μ' hG h
      replace h : ((if 3 ≤ i1 then F_X12_stands fuel 2 0 μ else (if sh_in i1 6 then (if sh_in (3 + i1) 6 then sh_let (sh_setI μ 321 ((3 + i1)).toNatClampNeg (sh_i μ 321 i1.toNatClampNeg)) (fun μ81 => (if sh_in i1 6 then (if sh_in (3 + i1) 6 then sh_let (sh_setI μ81 322 ((3 + i1)).toNatClampNeg (sh_i μ81 322 i1.toNatClampNeg)) (fun μ84 => (if sh_in i1 6 then (if sh_in (3 + i1) 6 then sh_let (sh_setI μ84 327 ((3 + i1)).toNatClampNeg (sh_i μ84 327 i1.toNatClampNeg)) (fun μ87 => (if sh_in i1 6 then (if sh_in (3 + i1) 6 then sh_let (sh_setI μ87 328 ((3 + i1)).toNatClampNeg (sh_i μ87 328 i1.toNatClampNeg)) (fun μ90 => F_X12_stands fuel 1 (i1 + 1) μ90) else none) else none)) else none) else none)) else none) else none)) else none) else none)) : Option sh_Mem) = some μ' := h
      refine vv_iload_n 7 1 dX12_stands_7 rfl rfl ?_
      refine vv_iconst 8 dX12_stands_8 ik_3 ?_
      refine vv_icmp_ge 9 74 dX12_stands_9 (by decide) (fun c78 => ?_) (fun c78 => ?_)
      · rw [if_pos c78] at h
        refine vv_iconst 74 dX12_stands_74 ik_0 ?_
        refine vv_istore_n (lv' := [(1, _), (0, _)]) 75 1 dX12_stands_75 rfl (by decide) rfl ?_
        refine vv_sub [(0, _), (1, _)] (sh_subm [1, 0] rfl) ?_
        exact ih_76 hG h
      · rw [if_neg c78] at h
        refine vv_aload_n 12 0 dX12_stands_12 rfl rfl ?_
        refine vv_getR 13 dX12_stands_13 fl_12_102 rfl (g_l_291 hG) (g_r_291_39 hG) ?_
        refine vv_iconst 16 dX12_stands_16 ik_3 ?_
        refine vv_iload_n 17 1 dX12_stands_17 rfl rfl ?_
        refine vv_iadd 18 dX12_stands_18 ?_
        refine vv_aload_n 19 0 dX12_stands_19 rfl rfl ?_
        refine vv_getR 20 dX12_stands_20 fl_12_102 rfl (g_l_291 hG) (g_r_291_39 hG) ?_
        refine vv_iload_n 23 1 dX12_stands_23 rfl rfl ?_
        obtain ⟨k79, h⟩ := sh_chk h
        refine vv_iald 24 dX12_stands_24 (g_l_321 hG) k79 ?_
        obtain ⟨k80, h⟩ := sh_chk h
        refine vn_iast 25 dX12_stands_25 (g_l_321 hG) k80 (fun μ81 eμ81 => ?_)
        rw [sh_let_eq eμ81] at h
        have hG81 : sh_G μ81 := by rw [eμ81]; exact hG
        refine vv_aload_n 26 0 dX12_stands_26 rfl rfl ?_
        refine vv_getR 27 dX12_stands_27 fl_12_105 rfl (g_l_291 hG81) (g_r_291_40 hG81) ?_
        refine vv_iconst 30 dX12_stands_30 ik_3 ?_
        refine vv_iload_n 31 1 dX12_stands_31 rfl rfl ?_
        refine vv_iadd 32 dX12_stands_32 ?_
        refine vv_aload_n 33 0 dX12_stands_33 rfl rfl ?_
        refine vv_getR 34 dX12_stands_34 fl_12_105 rfl (g_l_291 hG81) (g_r_291_40 hG81) ?_
        refine vv_iload_n 37 1 dX12_stands_37 rfl rfl ?_
        obtain ⟨k82, h⟩ := sh_chk h
        refine vv_iald 38 dX12_stands_38 (g_l_322 hG81) k82 ?_
        obtain ⟨k83, h⟩ := sh_chk h
        refine vn_iast 39 dX12_stands_39 (g_l_322 hG81) k83 (fun μ84 eμ84 => ?_)
        rw [sh_let_eq eμ84] at h
        have hG84 : sh_G μ84 := by rw [eμ84]; exact hG81
        refine vv_aload_n 40 0 dX12_stands_40 rfl rfl ?_
        refine vv_getR 41 dX12_stands_41 fl_12_121 rfl (g_l_291 hG84) (g_r_291_45 hG84) ?_
        refine vv_iconst 44 dX12_stands_44 ik_3 ?_
        refine vv_iload_n 45 1 dX12_stands_45 rfl rfl ?_
        refine vv_iadd 46 dX12_stands_46 ?_
        refine vv_aload_n 47 0 dX12_stands_47 rfl rfl ?_
        refine vv_getR 48 dX12_stands_48 fl_12_121 rfl (g_l_291 hG84) (g_r_291_45 hG84) ?_
        refine vv_iload_n 51 1 dX12_stands_51 rfl rfl ?_
        obtain ⟨k85, h⟩ := sh_chk h
        refine vv_iald 52 dX12_stands_52 (g_l_327 hG84) k85 ?_
        obtain ⟨k86, h⟩ := sh_chk h
        refine vn_iast 53 dX12_stands_53 (g_l_327 hG84) k86 (fun μ87 eμ87 => ?_)
        rw [sh_let_eq eμ87] at h
        have hG87 : sh_G μ87 := by rw [eμ87]; exact hG84
        refine vv_aload_n 54 0 dX12_stands_54 rfl rfl ?_
        refine vv_getR 55 dX12_stands_55 fl_12_124 rfl (g_l_291 hG87) (g_r_291_46 hG87) ?_
        refine vv_iconst 58 dX12_stands_58 ik_3 ?_
        refine vv_iload_n 59 1 dX12_stands_59 rfl rfl ?_
        refine vv_iadd 60 dX12_stands_60 ?_
        refine vv_aload_n 61 0 dX12_stands_61 rfl rfl ?_
        refine vv_getR 62 dX12_stands_62 fl_12_124 rfl (g_l_291 hG87) (g_r_291_46 hG87) ?_
        refine vv_iload_n 65 1 dX12_stands_65 rfl rfl ?_
        obtain ⟨k88, h⟩ := sh_chk h
        refine vv_iald 66 dX12_stands_66 (g_l_328 hG87) k88 ?_
        obtain ⟨k89, h⟩ := sh_chk h
        refine vn_iast 67 dX12_stands_67 (g_l_328 hG87) k89 (fun μ90 eμ90 => ?_)
        rw [sh_let_eq eμ90] at h
        have hG90 : sh_G μ90 := by rw [eμ90]; exact hG87
        refine vv_iincc (lv' := [(1, _), (0, _)]) 68 1 dX12_stands_68 rfl ik_1 (by decide) rfl ?_
        refine vv_goto 71 7 dX12_stands_71 (by decide) ?_
        refine vv_sub [(0, _), (1, _)] (sh_subm [1, 0] rfl) ?_
        exact ih_7 hG90 h
    · intro i1 μ μ' hG h
      replace h : ((if 16 ≤ i1 then F_X12_stands fuel 3 0 μ else (if sh_in i1 32 then (if sh_in (16 + i1) 32 then sh_let (sh_setL μ 323 ((16 + i1)).toNatClampNeg (sh_l μ 323 i1.toNatClampNeg)) (fun μ94 => F_X12_stands fuel 2 (i1 + 1) μ94) else none) else none)) : Option sh_Mem) = some μ' := h
      refine vv_iload_n 76 1 dX12_stands_76 rfl rfl ?_
      refine vv_bipush 77 dX12_stands_77 bk_16 ?_
      refine vv_icmp_ge 79 103 dX12_stands_79 (by decide) (fun c91 => ?_) (fun c91 => ?_)
      · rw [if_pos c91] at h
        refine vv_iconst 103 dX12_stands_103 ik_0 ?_
        refine vv_istore_n (lv' := [(1, _), (0, _)]) 104 1 dX12_stands_104 rfl (by decide) rfl ?_
        refine vv_sub [(0, _), (1, _)] (sh_subm [1, 0] rfl) ?_
        exact ih_105 hG h
      · rw [if_neg c91] at h
        refine vv_aload_n 82 0 dX12_stands_82 rfl rfl ?_
        refine vv_getR 83 dX12_stands_83 fl_12_108 rfl (g_l_291 hG) (g_r_291_41 hG) ?_
        refine vv_bipush 86 dX12_stands_86 bk_16 ?_
        refine vv_iload_n 88 1 dX12_stands_88 rfl rfl ?_
        refine vv_iadd 89 dX12_stands_89 ?_
        refine vv_aload_n 90 0 dX12_stands_90 rfl rfl ?_
        refine vv_getR 91 dX12_stands_91 fl_12_108 rfl (g_l_291 hG) (g_r_291_41 hG) ?_
        refine vv_iload_n 94 1 dX12_stands_94 rfl rfl ?_
        obtain ⟨k92, h⟩ := sh_chk h
        refine vv_lald 95 dX12_stands_95 (g_l_323 hG) k92 ?_
        obtain ⟨k93, h⟩ := sh_chk h
        refine vn_last 96 dX12_stands_96 (g_l_323 hG) k93 (fun μ94 eμ94 => ?_)
        rw [sh_let_eq eμ94] at h
        have hG94 : sh_G μ94 := by rw [eμ94]; exact hG
        refine vv_iincc (lv' := [(1, _), (0, _)]) 97 1 dX12_stands_97 rfl ik_1 (by decide) rfl ?_
        refine vv_goto 100 76 dX12_stands_100 (by decide) ?_
        refine vv_sub [(0, _), (1, _)] (sh_subm [1, 0] rfl) ?_
        exact ih_76 hG94 h
    · intro i1 μ μ' hG h
      replace h : ((if 24 ≤ i1 then F_X12_stands fuel 4 0 μ else (if sh_in i1 48 then (if sh_in (24 + i1) 48 then sh_let (sh_setI μ 326 ((24 + i1)).toNatClampNeg (sh_i μ 326 i1.toNatClampNeg)) (fun μ98 => F_X12_stands fuel 3 (i1 + 1) μ98) else none) else none)) : Option sh_Mem) = some μ' := h
      refine vv_iload_n 105 1 dX12_stands_105 rfl rfl ?_
      refine vv_bipush 106 dX12_stands_106 bk_24 ?_
      refine vv_icmp_ge 108 132 dX12_stands_108 (by decide) (fun c95 => ?_) (fun c95 => ?_)
      · rw [if_pos c95] at h
        refine vv_iconst 132 dX12_stands_132 ik_0 ?_
        refine vv_istore_n (lv' := [(1, _), (0, _)]) 133 1 dX12_stands_133 rfl (by decide) rfl ?_
        refine vv_sub [(0, _), (1, _)] (sh_subm [1, 0] rfl) ?_
        exact ih_134 hG h
      · rw [if_neg c95] at h
        refine vv_aload_n 111 0 dX12_stands_111 rfl rfl ?_
        refine vv_getR 112 dX12_stands_112 fl_12_118 rfl (g_l_291 hG) (g_r_291_44 hG) ?_
        refine vv_bipush 115 dX12_stands_115 bk_24 ?_
        refine vv_iload_n 117 1 dX12_stands_117 rfl rfl ?_
        refine vv_iadd 118 dX12_stands_118 ?_
        refine vv_aload_n 119 0 dX12_stands_119 rfl rfl ?_
        refine vv_getR 120 dX12_stands_120 fl_12_118 rfl (g_l_291 hG) (g_r_291_44 hG) ?_
        refine vv_iload_n 123 1 dX12_stands_123 rfl rfl ?_
        obtain ⟨k96, h⟩ := sh_chk h
        refine vv_iald 124 dX12_stands_124 (g_l_326 hG) k96 ?_
        obtain ⟨k97, h⟩ := sh_chk h
        refine vn_iast 125 dX12_stands_125 (g_l_326 hG) k97 (fun μ98 eμ98 => ?_)
        rw [sh_let_eq eμ98] at h
        have hG98 : sh_G μ98 := by rw [eμ98]; exact hG
        refine vv_iincc (lv' := [(1, _), (0, _)]) 126 1 dX12_stands_126 rfl ik_1 (by decide) rfl ?_
        refine vv_goto 129 105 dX12_stands_129 (by decide) ?_
        refine vv_sub [(0, _), (1, _)] (sh_subm [1, 0] rfl) ?_
        exact ih_105 hG98 h
    · intro i1 μ μ' hG h
      replace h : ((if (sh_i μ 291 48) ≤ i1 then F_X12_stands fuel 5 0 μ else (if sh_in i1 3200 then (if sh_in (1600 + i1) 3200 then sh_let (sh_setI μ 329 ((1600 + i1)).toNatClampNeg (sh_i μ 329 i1.toNatClampNeg)) (fun μ102 => F_X12_stands fuel 4 (i1 + 1) μ102) else none) else none)) : Option sh_Mem) = some μ' := h
      refine vv_iload_n 134 1 dX12_stands_134 rfl rfl ?_
      refine vv_aload_n 135 0 dX12_stands_135 rfl rfl ?_
      refine vv_getI 136 dX12_stands_136 fl_12_362 rfl (g_l_291 hG) ?_
      refine vv_icmp_ge 139 164 dX12_stands_139 (by decide) (fun c99 => ?_) (fun c99 => ?_)
      · rw [if_pos c99] at h
        refine vv_iconst 164 dX12_stands_164 ik_0 ?_
        refine vv_istore_n (lv' := [(1, _), (0, _)]) 165 1 dX12_stands_165 rfl (by decide) rfl ?_
        refine vv_sub [(0, _), (1, _)] (sh_subm [1, 0] rfl) ?_
        exact ih_166 hG h
      · rw [if_neg c99] at h
        refine vv_aload_n 142 0 dX12_stands_142 rfl rfl ?_
        refine vv_getR 143 dX12_stands_143 fl_12_127 rfl (g_l_291 hG) (g_r_291_47 hG) ?_
        refine vv_sipush 146 dX12_stands_146 sk_1600 ?_
        refine vv_iload_n 149 1 dX12_stands_149 rfl rfl ?_
        refine vv_iadd 150 dX12_stands_150 ?_
        refine vv_aload_n 151 0 dX12_stands_151 rfl rfl ?_
        refine vv_getR 152 dX12_stands_152 fl_12_127 rfl (g_l_291 hG) (g_r_291_47 hG) ?_
        refine vv_iload_n 155 1 dX12_stands_155 rfl rfl ?_
        obtain ⟨k100, h⟩ := sh_chk h
        refine vv_iald 156 dX12_stands_156 (g_l_329 hG) k100 ?_
        obtain ⟨k101, h⟩ := sh_chk h
        refine vn_iast 157 dX12_stands_157 (g_l_329 hG) k101 (fun μ102 eμ102 => ?_)
        rw [sh_let_eq eμ102] at h
        have hG102 : sh_G μ102 := by rw [eμ102]; exact hG
        refine vv_iincc (lv' := [(1, _), (0, _)]) 158 1 dX12_stands_158 rfl ik_1 (by decide) rfl ?_
        refine vv_goto 161 134 dX12_stands_161 (by decide) ?_
        refine vv_sub [(0, _), (1, _)] (sh_subm [1, 0] rfl) ?_
        exact ih_134 hG102 h
    · intro i1 μ μ' hG h
      replace h : ((if 232 ≤ i1 then F_X12_stands fuel 6 0 μ else (if sh_in i1 232 then sh_let (sh_setI μ 330 i1.toNatClampNeg 0) (fun μ105 => F_X12_stands fuel 5 (i1 + 1) μ105) else none)) : Option sh_Mem) = some μ' := h
      refine vv_iload_n 166 1 dX12_stands_166 rfl rfl ?_
      refine vv_sipush 167 dX12_stands_167 sk_232 ?_
      refine vv_icmp_ge 170 186 dX12_stands_170 (by decide) (fun c103 => ?_) (fun c103 => ?_)
      · rw [if_pos c103] at h
        refine vv_iconst 186 dX12_stands_186 ik_0 ?_
        refine vv_istore_n (lv' := [(1, _), (0, _)]) 187 1 dX12_stands_187 rfl (by decide) rfl ?_
        refine vv_sub [(0, _), (1, _)] (sh_subm [1, 0] rfl) ?_
        exact ih_188 hG h
      · rw [if_neg c103] at h
        refine vv_aload_n 173 0 dX12_stands_173 rfl rfl ?_
        refine vv_getR 174 dX12_stands_174 fl_12_130 rfl (g_l_291 hG) (g_r_291_52 hG) ?_
        refine vv_iload_n 177 1 dX12_stands_177 rfl rfl ?_
        refine vv_iconst 178 dX12_stands_178 ik_0 ?_
        obtain ⟨k104, h⟩ := sh_chk h
        refine vn_iast 179 dX12_stands_179 (g_l_330 hG) k104 (fun μ105 eμ105 => ?_)
        rw [sh_let_eq eμ105] at h
        have hG105 : sh_G μ105 := by rw [eμ105]; exact hG
        refine vv_iincc (lv' := [(1, _), (0, _)]) 180 1 dX12_stands_180 rfl ik_1 (by decide) rfl ?_
        refine vv_goto 183 166 dX12_stands_183 (by decide) ?_
        refine vv_sub [(0, _), (1, _)] (sh_subm [1, 0] rfl) ?_
        exact ih_166 hG105 h
    · intro i1 μ μ' hG h
      replace h : ((if 49 ≤ i1 then F_X12_stands fuel 7 0 μ else (if sh_in i1 49 then (if sh_in (1 + i1) 232 then sh_let (sh_setI μ 330 ((1 + i1)).toNatClampNeg (sh_i μ 324 i1.toNatClampNeg)) (fun μ109 => F_X12_stands fuel 6 (i1 + 1) μ109) else none) else none)) : Option sh_Mem) = some μ' := h
      refine vv_iload_n 188 1 dX12_stands_188 rfl rfl ?_
      refine vv_bipush 189 dX12_stands_189 bk_49 ?_
      refine vv_icmp_ge 191 214 dX12_stands_191 (by decide) (fun c106 => ?_) (fun c106 => ?_)
      · rw [if_pos c106] at h
        refine vv_iconst 214 dX12_stands_214 ik_0 ?_
        refine vv_istore_n (lv' := [(1, _), (0, _)]) 215 1 dX12_stands_215 rfl (by decide) rfl ?_
        refine vv_sub [(0, _), (1, _)] (sh_subm [1, 0] rfl) ?_
        exact ih_216 hG h
      · rw [if_neg c106] at h
        refine vv_aload_n 194 0 dX12_stands_194 rfl rfl ?_
        refine vv_getR 195 dX12_stands_195 fl_12_130 rfl (g_l_291 hG) (g_r_291_52 hG) ?_
        refine vv_iconst 198 dX12_stands_198 ik_1 ?_
        refine vv_iload_n 199 1 dX12_stands_199 rfl rfl ?_
        refine vv_iadd 200 dX12_stands_200 ?_
        refine vv_aload_n 201 0 dX12_stands_201 rfl rfl ?_
        refine vv_getR 202 dX12_stands_202 fl_12_112 rfl (g_l_291 hG) (g_r_291_42 hG) ?_
        refine vv_iload_n 205 1 dX12_stands_205 rfl rfl ?_
        obtain ⟨k107, h⟩ := sh_chk h
        refine vv_iald 206 dX12_stands_206 (g_l_324 hG) k107 ?_
        obtain ⟨k108, h⟩ := sh_chk h
        refine vn_iast 207 dX12_stands_207 (g_l_330 hG) k108 (fun μ109 eμ109 => ?_)
        rw [sh_let_eq eμ109] at h
        have hG109 : sh_G μ109 := by rw [eμ109]; exact hG
        refine vv_iincc (lv' := [(1, _), (0, _)]) 208 1 dX12_stands_208 rfl ik_1 (by decide) rfl ?_
        refine vv_goto 211 188 dX12_stands_211 (by decide) ?_
        refine vv_sub [(0, _), (1, _)] (sh_subm [1, 0] rfl) ?_
        exact ih_188 hG109 h
    · intro i1 μ μ' hG h
      replace h : ((if (3 * (sh_i μ 322 (Int32.toNatClampNeg 1))) ≤ i1 then sh_let (sh_setI μ 291 76 0) (fun μ111 => sh_let (sh_setI μ111 291 71 0) (fun μ112 => some μ112)) else (if sh_in i1 21 then (if sh_in (50 + i1) 232 then sh_let (sh_setI μ 330 ((50 + i1)).toNatClampNeg (sh_i μ 325 i1.toNatClampNeg)) (fun μ115 => F_X12_stands fuel 7 (i1 + 1) μ115) else none) else none)) : Option sh_Mem) = some μ' := h
      refine vv_iload_n 216 1 dX12_stands_216 rfl rfl ?_
      refine vv_iconst 217 dX12_stands_217 ik_3 ?_
      refine vv_aload_n 218 0 dX12_stands_218 rfl rfl ?_
      refine vv_getR 219 dX12_stands_219 fl_12_105 rfl (g_l_291 hG) (g_r_291_40 hG) ?_
      refine vv_iconst 222 dX12_stands_222 ik_1 ?_
      refine vv_iald 223 dX12_stands_223 (g_l_322 hG) (by unfold vp_in; decide) ?_
      refine vv_imul 224 dX12_stands_224 ?_
      refine vv_icmp_ge 225 249 dX12_stands_225 (by decide) (fun c110 => ?_) (fun c110 => ?_)
      · rw [if_pos c110] at h
        refine vv_aload_n 249 0 dX12_stands_249 rfl rfl ?_
        refine vv_iconst 250 dX12_stands_250 ik_0 ?_
        refine vn_putI 251 dX12_stands_251 fl_12_402 (Or.inl rfl) rfl (g_l_291 hG) (fun μ111 eμ111 => ?_)
        rw [sh_let_eq eμ111] at h
        have hG111 : sh_G μ111 := by rw [eμ111]; exact hG
        refine vv_aload_n 254 0 dX12_stands_254 rfl rfl ?_
        refine vv_iconst 255 dX12_stands_255 ik_0 ?_
        refine vn_putI 256 dX12_stands_256 fl_12_405 (Or.inl rfl) rfl (g_l_291 hG111) (fun μ112 eμ112 => ?_)
        rw [sh_let_eq eμ112] at h
        have hG112 : sh_G μ112 := by rw [eμ112]; exact hG111
        have e2 := Option.some.inj h
        refine vv_vret 259 dX12_stands_259 rfl (Nat.le_refl _) (Nat.le_refl _) ⟨rfl, e2⟩
      · rw [if_neg c110] at h
        refine vv_aload_n 228 0 dX12_stands_228 rfl rfl ?_
        refine vv_getR 229 dX12_stands_229 fl_12_130 rfl (g_l_291 hG) (g_r_291_52 hG) ?_
        refine vv_bipush 232 dX12_stands_232 bk_50 ?_
        refine vv_iload_n 234 1 dX12_stands_234 rfl rfl ?_
        refine vv_iadd 235 dX12_stands_235 ?_
        refine vv_aload_n 236 0 dX12_stands_236 rfl rfl ?_
        refine vv_getR 237 dX12_stands_237 fl_12_115 rfl (g_l_291 hG) (g_r_291_43 hG) ?_
        refine vv_iload_n 240 1 dX12_stands_240 rfl rfl ?_
        obtain ⟨k113, h⟩ := sh_chk h
        refine vv_iald 241 dX12_stands_241 (g_l_325 hG) k113 ?_
        obtain ⟨k114, h⟩ := sh_chk h
        refine vn_iast 242 dX12_stands_242 (g_l_330 hG) k114 (fun μ115 eμ115 => ?_)
        rw [sh_let_eq eμ115] at h
        have hG115 : sh_G μ115 := by rw [eμ115]; exact hG
        refine vv_iincc (lv' := [(1, _), (0, _)]) 243 1 dX12_stands_243 rfl ik_1 (by decide) rfl ?_
        refine vv_goto 246 216 dX12_stands_246 (by decide) ?_
        refine vv_sub [(0, _), (1, _)] (sh_subm [1, 0] rfl) ?_
        exact ih_216 hG115 h
theorem gp_X12_stands {μ μ' : sh_Mem} (hG : sh_G μ) (h : f_X12_stands μ = some μ') : sh_G μ' := by
  have ih_7 := (gpl_X12_stands sh_fuel).1
  have ih_76 := (gpl_X12_stands sh_fuel).2.1
  have ih_105 := (gpl_X12_stands sh_fuel).2.2.1
  have ih_134 := (gpl_X12_stands sh_fuel).2.2.2.1
  have ih_166 := (gpl_X12_stands sh_fuel).2.2.2.2.1
  have ih_188 := (gpl_X12_stands sh_fuel).2.2.2.2.2.1
  have ih_216 := (gpl_X12_stands sh_fuel).2.2.2.2.2.2
  unfold f_X12_stands at h
  obtain ⟨μ116, eμ116⟩ : ∃ y : sh_Mem, y = (sh_setI μ 291 50 1) := ⟨_, rfl⟩
  rw [sh_let_eq eμ116] at h
  have hG116 : sh_G μ116 := by rw [eμ116]; exact hG
  exact ih_7 hG116 h
theorem t_X12_stands {μ μ' : sh_Mem} (hG : sh_G μ) (h : f_X12_stands μ = some μ') : sh_C0 l B D ca 1 M_X12_stands [.ref 291] μ (fun v0 μ0 => v0 = none ∧ μ0 = μ') := by
  have ih_7 := (tl_X12_stands (l := l) (B := B) (D := D) (ca := ca) sh_fuel).1
  have ih_76 := (tl_X12_stands (l := l) (B := B) (D := D) (ca := ca) sh_fuel).2.1
  have ih_105 := (tl_X12_stands (l := l) (B := B) (D := D) (ca := ca) sh_fuel).2.2.1
  have ih_134 := (tl_X12_stands (l := l) (B := B) (D := D) (ca := ca) sh_fuel).2.2.2.1
  have ih_166 := (tl_X12_stands (l := l) (B := B) (D := D) (ca := ca) sh_fuel).2.2.2.2.1
  have ih_188 := (tl_X12_stands (l := l) (B := B) (D := D) (ca := ca) sh_fuel).2.2.2.2.2.1
  have ih_216 := (tl_X12_stands (l := l) (B := B) (D := D) (ca := ca) sh_fuel).2.2.2.2.2.2
  unfold f_X12_stands at h
  refine vv_aload_n 0 0 dX12_stands_0 rfl rfl ?_
  refine vv_iconst 1 dX12_stands_1 ik_1 ?_
  refine vn_putZ 2 dX12_stands_2 fl_12_398 (Or.inl rfl) rfl (by decide) (g_l_291 hG) (fun μ116 eμ116 => ?_)
  rw [sh_let_eq eμ116] at h
  have hG116 : sh_G μ116 := by rw [eμ116]; exact hG
  refine vv_iconst 5 dX12_stands_5 ik_0 ?_
  refine vv_istore_n (lv' := [(1, _), (0, _)]) 6 1 dX12_stands_6 rfl (by decide) rfl ?_
  refine vv_sub [(0, _), (1, _)] (sh_subm [1, 0] rfl) ?_
  exact ih_7 hG116 h
end
