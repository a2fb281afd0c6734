/-! what was ahead of acts: kept and brought back -/
theorem cpy_all {α : Type} {f g : Nat → α} {n k : Nat} (h : k < n) : va_cpy f g 0 0 n k = f k := by
  unfold va_cpy
  rw [if_pos (by omega)]
  congr 1
  omega
theorem cpy_out {α : Type} {f g : Nat → α} {n k : Nat} (h : n ≤ k) : va_cpy f g 0 0 n k = g k := by
  unfold va_cpy
  rw [if_neg (by omega)]
/-- a land is copied onto another -/
theorem cl_copy {μ : sh_Mem} {r q : Nat} (hrq : r + 5 < q ∨ q + 5 < r) : ∃ μ', f_X3_copyFrom r q μ = some μ' ∧ sh_fr (fun a _ => r ≤ a ∧ a ≤ r + 5) μ μ' ∧ sh_i μ' r 0 = sh_i μ q 0 ∧ (∀ k, k < 49 → sh_i μ' (r + 1) k = sh_i μ (q + 1) k) ∧ ∀ i, 2 ≤ i → i ≤ 5 → ∀ k, k < 7 → sh_i μ' (r + i) k = sh_i μ (q + i) k := by
  unfold f_X3_copyFrom
  refine ⟨_, by simp (disch := omega) only [↓reduceIte, ↓shl_ap, shb_ap, shv_ap, zI_lit, zL_lit, nI_z, lN_z, ofN_z, zI_add, zI_sub, zI_mul, zI_neg, zL_add, zL_sub, zL_mul, zL_neg, zI_l, zI_cl, zI_le_t, zI_le_f, zI_lt_t, zI_lt_f, zI_eq_t, zI_eq_f, zI_in_t, zz_isIn_t, zz_isIn_f, not_true_eq_false, not_false_eq_true, true_or, or_true, false_or, or_false, true_and, and_true, false_and, and_false, Nat.reduceLeDiff, Int.reduceAdd, Int.reduceSub, Int.reduceMul, Int.reduceNeg, Int.reduceToNat, Nat.reduceAdd, Nat.reduceMul, Nat.reduceSub, Int.toNat_natCast]; rfl, ?_, ?_, ?_, ?_⟩
  · exact sh_fr_row (sh_fr_row (sh_fr_row (sh_fr_row (sh_fr_row (sh_fr_I sh_fr.rf (by omega)) (fun _ => by omega)) (fun _ => by omega)) (fun _ => by omega)) (fun _ => by omega)) (fun _ => by omega)
  · simp (disch := omega) only [↓reduceIte, ↓shl_ap, shb_ap, shv_ap, zI_lit, zL_lit, nI_z, lN_z, ofN_z, zI_add, zI_sub, zI_mul, zI_neg, zL_add, zL_sub, zL_mul, zL_neg, zI_l, zI_cl, zI_le_t, zI_le_f, zI_lt_t, zI_lt_f, zI_eq_t, zI_eq_f, zI_in_t, zz_isIn_t, zz_isIn_f, not_true_eq_false, not_false_eq_true, true_or, or_true, false_or, or_false, true_and, and_true, false_and, and_false, ir_set, ir_set_k, ir_set_r, ir_row, ir_row_r, sh_i_setL, sh_i_setR, sh_r_setI, sh_r_setL, sh_r_rowI, sh_l_setI, sh_l_rowI, lr_set, lr_set_k, lr_set_r, Nat.reduceLeDiff, Int.reduceAdd, Int.reduceSub, Int.reduceMul, Int.reduceNeg, Int.reduceToNat, Nat.reduceAdd, Nat.reduceMul, Nat.reduceSub, Int.toNat_natCast]
  · intro k hk
    simp (disch := omega) only [↓reduceIte, ↓shl_ap, shb_ap, shv_ap, zI_lit, zL_lit, nI_z, lN_z, ofN_z, zI_add, zI_sub, zI_mul, zI_neg, zL_add, zL_sub, zL_mul, zL_neg, zI_l, zI_cl, zI_le_t, zI_le_f, zI_lt_t, zI_lt_f, zI_eq_t, zI_eq_f, zI_in_t, zz_isIn_t, zz_isIn_f, not_true_eq_false, not_false_eq_true, true_or, or_true, false_or, or_false, true_and, and_true, false_and, and_false, ir_set, ir_set_k, ir_set_r, ir_row, ir_row_r, sh_i_setL, sh_i_setR, sh_r_setI, sh_r_setL, sh_r_rowI, sh_l_setI, sh_l_rowI, lr_set, lr_set_k, lr_set_r, Nat.reduceLeDiff, Int.reduceAdd, Int.reduceSub, Int.reduceMul, Int.reduceNeg, Int.reduceToNat, Nat.reduceAdd, Nat.reduceMul, Nat.reduceSub, Int.toNat_natCast, cpy_all hk]
  · intro i h2 h5 k hk
    have hi : i = 2 ∨ i = 3 ∨ i = 4 ∨ i = 5 := by omega
    rcases hi with rfl | rfl | rfl | rfl
    · simp (disch := omega) only [↓reduceIte, ↓shl_ap, shb_ap, shv_ap, zI_lit, zL_lit, nI_z, lN_z, ofN_z, zI_add, zI_sub, zI_mul, zI_neg, zL_add, zL_sub, zL_mul, zL_neg, zI_l, zI_cl, zI_le_t, zI_le_f, zI_lt_t, zI_lt_f, zI_eq_t, zI_eq_f, zI_in_t, zz_isIn_t, zz_isIn_f, not_true_eq_false, not_false_eq_true, true_or, or_true, false_or, or_false, true_and, and_true, false_and, and_false, ir_set, ir_set_k, ir_set_r, ir_row, ir_row_r, sh_i_setL, sh_i_setR, sh_r_setI, sh_r_setL, sh_r_rowI, sh_l_setI, sh_l_rowI, lr_set, lr_set_k, lr_set_r, Nat.reduceLeDiff, Int.reduceAdd, Int.reduceSub, Int.reduceMul, Int.reduceNeg, Int.reduceToNat, Nat.reduceAdd, Nat.reduceMul, Nat.reduceSub, Int.toNat_natCast, cpy_all hk]
    · simp (disch := omega) only [↓reduceIte, ↓shl_ap, shb_ap, shv_ap, zI_lit, zL_lit, nI_z, lN_z, ofN_z, zI_add, zI_sub, zI_mul, zI_neg, zL_add, zL_sub, zL_mul, zL_neg, zI_l, zI_cl, zI_le_t, zI_le_f, zI_lt_t, zI_lt_f, zI_eq_t, zI_eq_f, zI_in_t, zz_isIn_t, zz_isIn_f, not_true_eq_false, not_false_eq_true, true_or, or_true, false_or, or_false, true_and, and_true, false_and, and_false, ir_set, ir_set_k, ir_set_r, ir_row, ir_row_r, sh_i_setL, sh_i_setR, sh_r_setI, sh_r_setL, sh_r_rowI, sh_l_setI, sh_l_rowI, lr_set, lr_set_k, lr_set_r, Nat.reduceLeDiff, Int.reduceAdd, Int.reduceSub, Int.reduceMul, Int.reduceNeg, Int.reduceToNat, Nat.reduceAdd, Nat.reduceMul, Nat.reduceSub, Int.toNat_natCast, cpy_all hk]
    · simp (disch := omega) only [↓reduceIte, ↓shl_ap, shb_ap, shv_ap, zI_lit, zL_lit, nI_z, lN_z, ofN_z, zI_add, zI_sub, zI_mul, zI_neg, zL_add, zL_sub, zL_mul, zL_neg, zI_l, zI_cl, zI_le_t, zI_le_f, zI_lt_t, zI_lt_f, zI_eq_t, zI_eq_f, zI_in_t, zz_isIn_t, zz_isIn_f, not_true_eq_false, not_false_eq_true, true_or, or_true, false_or, or_false, true_and, and_true, false_and, and_false, ir_set, ir_set_k, ir_set_r, ir_row, ir_row_r, sh_i_setL, sh_i_setR, sh_r_setI, sh_r_setL, sh_r_rowI, sh_l_setI, sh_l_rowI, lr_set, lr_set_k, lr_set_r, Nat.reduceLeDiff, Int.reduceAdd, Int.reduceSub, Int.reduceMul, Int.reduceNeg, Int.reduceToNat, Nat.reduceAdd, Nat.reduceMul, Nat.reduceSub, Int.toNat_natCast, cpy_all hk]
    · simp (disch := omega) only [↓reduceIte, ↓shl_ap, shb_ap, shv_ap, zI_lit, zL_lit, nI_z, lN_z, ofN_z, zI_add, zI_sub, zI_mul, zI_neg, zL_add, zL_sub, zL_mul, zL_neg, zI_l, zI_cl, zI_le_t, zI_le_f, zI_lt_t, zI_lt_f, zI_eq_t, zI_eq_f, zI_in_t, zz_isIn_t, zz_isIn_f, not_true_eq_false, not_false_eq_true, true_or, or_true, false_or, or_false, true_and, and_true, false_and, and_false, ir_set, ir_set_k, ir_set_r, ir_row, ir_row_r, sh_i_setL, sh_i_setR, sh_r_setI, sh_r_setL, sh_r_rowI, sh_l_setI, sh_l_rowI, lr_set, lr_set_k, lr_set_r, Nat.reduceLeDiff, Int.reduceAdd, Int.reduceSub, Int.reduceMul, Int.reduceNeg, Int.reduceToNat, Nat.reduceAdd, Nat.reduceMul, Nat.reduceSub, Int.toNat_natCast, cpy_all hk]
theorem sm_cL.of {μ μ' : sh_Mem} {r q : Nat} {P : sp_T} {L : sl_T} (hk : sp_ok P) (h : sm_cL μ q P L) (h0 : sh_i μ' r 0 = sh_i μ q 0) (h1 : ∀ k, k < 49 → sh_i μ' (r + 1) k = sh_i μ (q + 1) k) (h2 : ∀ i, 2 ≤ i → i ≤ 5 → ∀ k, k < 7 → sh_i μ' (r + i) k = sh_i μ (q + i) k) : sm_cL μ' r P L := by
  have hb := sp_bd hk
  have hc := sp_cells hk
  obtain ⟨a, b, c⟩ := h
  refine ⟨h0.trans a, fun j hj => (h1 j (by omega)).trans (b j hj), fun p hp => ?_⟩
  obtain ⟨c1, c2, c3, c4⟩ := c p hp
  exact ⟨(h2 2 (by omega) (by omega) p (by omega)).trans c1, (h2 3 (by omega) (by omega) p (by omega)).trans c2, (h2 4 (by omega) (by omega) p (by omega)).trans c3, (h2 5 (by omega) (by omega) p (by omega)).trans c4⟩
/-- 'remember': the place it goes to -/
theorem cl_remember {μ : sh_Mem} {a o : Nat} (ha : a ≤ 20) (ho : o < 20) (e1 : sh_i μ 63 2 = nI a) (e2 : sh_i μ 63 3 = nI o) : ∃ μ', f_X4_remember 49 μ = some μ' ∧ sh_fr (fun r k => (88 + 6 * ((o + a) % 20) ≤ r ∧ r ≤ 93 + 6 * ((o + a) % 20)) ∨ r = 67 + (o + a) % 20 ∨ (r = 87 ∧ k = (o + a) % 20) ∨ (r = 63 ∧ (k = 2 ∨ k = 3))) μ μ' ∧
    sh_i μ' (88 + 6 * ((o + a) % 20)) 0 = sh_i μ 49 0 ∧ (∀ k, k < 49 → sh_i μ' (88 + 6 * ((o + a) % 20) + 1) k = sh_i μ 50 k) ∧ (∀ i, 2 ≤ i → i ≤ 5 → ∀ k, k < 7 → sh_i μ' (88 + 6 * ((o + a) % 20) + i) k = sh_i μ (49 + i) k) ∧
    (∀ k, k < 160 → sh_i μ' (67 + (o + a) % 20) k = sh_i μ 64 k) ∧ sh_i μ' 87 ((o + a) % 20) = sh_i μ 63 1 ∧ sh_i μ' 63 2 = nI (if a < 20 then a + 1 else 20) ∧ sh_i μ' 63 3 = nI (if a < 20 then o else (o + 1) % 20) := by
  obtain ⟨w, hw⟩ : ∃ w, w = (o + a) % 20 := ⟨_, rfl⟩
  have hw20 : w < 20 := by omega
  obtain ⟨μ3, k1, k2, k3, k4, k5⟩ := cl_copy (μ := μ) (r := 88 + 6 * w) (q := 49) (by omega)
  have g1 : sh_i μ3 63 2 = zI a := by rw [k2.i _ _ (by omega), e1, nI_z]
  have g2 : sh_i μ3 63 3 = zI o := by rw [k2.i _ _ (by omega), e2, nI_z]
  have g3 : sh_i μ3 64 = sh_i μ 64 := k2.row _ (fun k => by omega)
  have g4 : sh_i μ3 63 1 = sh_i μ 63 1 := k2.i _ _ (by omega)
  have hx : (sh_i μ 63 3 + sh_i μ 63 2 - (sh_i μ 63 3 + sh_i μ 63 2) / 20 * 20) = zI w := by
    rw [e1, e2]
    simp (disch := omega) only [↓reduceIte, ↓shl_ap, shb_ap, shv_ap, zI_lit, zL_lit, nI_z, lN_z, ofN_z, zI_add, zI_sub, zI_mul, zI_neg, zL_add, zL_sub, zL_mul, zL_neg, zI_l, zI_cl, zI_le_t, zI_le_f, zI_lt_t, zI_lt_f, zI_eq_t, zI_eq_f, zI_in_t, zz_isIn_t, zz_isIn_f, not_true_eq_false, not_false_eq_true, true_or, or_true, false_or, or_false, true_and, and_true, false_and, and_false, Nat.reduceLeDiff, Int.reduceAdd, Int.reduceSub, Int.reduceMul, Int.reduceNeg, Int.reduceToNat, Nat.reduceAdd, Nat.reduceMul, Nat.reduceSub, Int.toNat_natCast, zI_div, zI_mod]
  rw [← hw]
  by_cases ha20 : a < 20
  · rw [if_pos ha20, if_pos ha20]
    have hr : f_X4_remember 49 μ = some (sh_setI (sh_setI (sh_rowI μ3 (67 + w) (va_cpy (sh_i μ3 64) (sh_i μ3 (67 + w)) 0 0 160)) 87 w (sh_i μ3 63 1)) 63 2 (zI (a + 1 : Nat))) := by
      unfold f_X4_remember
      rw [hx]
      simp (disch := omega) only [↓reduceIte, ↓shl_ap, shb_ap, shv_ap, zI_lit, zL_lit, nI_z, lN_z, ofN_z, zI_add, zI_sub, zI_mul, zI_neg, zL_add, zL_sub, zL_mul, zL_neg, zI_l, zI_cl, zI_le_t, zI_le_f, zI_lt_t, zI_lt_f, zI_eq_t, zI_eq_f, zI_in_t, zz_isIn_t, zz_isIn_f, not_true_eq_false, not_false_eq_true, true_or, or_true, false_or, or_false, true_and, and_true, false_and, and_false, ir_set, ir_set_k, ir_set_r, ir_row, ir_row_r, sh_i_setL, sh_i_setR, sh_r_setI, sh_r_setL, sh_r_rowI, sh_l_setI, sh_l_rowI, lr_set, lr_set_k, lr_set_r, Nat.reduceLeDiff, Int.reduceAdd, Int.reduceSub, Int.reduceMul, Int.reduceNeg, Int.reduceToNat, Nat.reduceAdd, Nat.reduceMul, Nat.reduceSub, Int.toNat_natCast, k1, g1]
      rfl
    refine ⟨_, hr, sh_fr_I (sh_fr_I (sh_fr_row (k2.mono (fun r k q => by omega)) (fun k => by omega)) (by omega)) (by omega), ?_, ?_, ?_, ?_, ?_, ?_, ?_⟩
    · simp (disch := omega) only [↓reduceIte, ↓shl_ap, shb_ap, shv_ap, zI_lit, zL_lit, nI_z, lN_z, ofN_z, zI_add, zI_sub, zI_mul, zI_neg, zL_add, zL_sub, zL_mul, zL_neg, zI_l, zI_cl, zI_le_t, zI_le_f, zI_lt_t, zI_lt_f, zI_eq_t, zI_eq_f, zI_in_t, zz_isIn_t, zz_isIn_f, not_true_eq_false, not_false_eq_true, true_or, or_true, false_or, or_false, true_and, and_true, false_and, and_false, ir_set, ir_set_k, ir_set_r, ir_row, ir_row_r, sh_i_setL, sh_i_setR, sh_r_setI, sh_r_setL, sh_r_rowI, sh_l_setI, sh_l_rowI, lr_set, lr_set_k, lr_set_r, Nat.reduceLeDiff, Int.reduceAdd, Int.reduceSub, Int.reduceMul, Int.reduceNeg, Int.reduceToNat, Nat.reduceAdd, Nat.reduceMul, Nat.reduceSub, Int.toNat_natCast, k3]
    · intro k hk; simp (disch := omega) only [↓reduceIte, ↓shl_ap, shb_ap, shv_ap, zI_lit, zL_lit, nI_z, lN_z, ofN_z, zI_add, zI_sub, zI_mul, zI_neg, zL_add, zL_sub, zL_mul, zL_neg, zI_l, zI_cl, zI_le_t, zI_le_f, zI_lt_t, zI_lt_f, zI_eq_t, zI_eq_f, zI_in_t, zz_isIn_t, zz_isIn_f, not_true_eq_false, not_false_eq_true, true_or, or_true, false_or, or_false, true_and, and_true, false_and, and_false, ir_set, ir_set_k, ir_set_r, ir_row, ir_row_r, sh_i_setL, sh_i_setR, sh_r_setI, sh_r_setL, sh_r_rowI, sh_l_setI, sh_l_rowI, lr_set, lr_set_k, lr_set_r, Nat.reduceLeDiff, Int.reduceAdd, Int.reduceSub, Int.reduceMul, Int.reduceNeg, Int.reduceToNat, Nat.reduceAdd, Nat.reduceMul, Nat.reduceSub, Int.toNat_natCast, k4 k hk]
    · intro i h2 h5 k hk
      simp (disch := omega) only [↓reduceIte, ↓shl_ap, shb_ap, shv_ap, zI_lit, zL_lit, nI_z, lN_z, ofN_z, zI_add, zI_sub, zI_mul, zI_neg, zL_add, zL_sub, zL_mul, zL_neg, zI_l, zI_cl, zI_le_t, zI_le_f, zI_lt_t, zI_lt_f, zI_eq_t, zI_eq_f, zI_in_t, zz_isIn_t, zz_isIn_f, not_true_eq_false, not_false_eq_true, true_or, or_true, false_or, or_false, true_and, and_true, false_and, and_false, ir_set, ir_set_k, ir_set_r, ir_row, ir_row_r, sh_i_setL, sh_i_setR, sh_r_setI, sh_r_setL, sh_r_rowI, sh_l_setI, sh_l_rowI, lr_set, lr_set_k, lr_set_r, Nat.reduceLeDiff, Int.reduceAdd, Int.reduceSub, Int.reduceMul, Int.reduceNeg, Int.reduceToNat, Nat.reduceAdd, Nat.reduceMul, Nat.reduceSub, Int.toNat_natCast, k5 i h2 h5 k hk]
    · intro k hk; simp (disch := omega) only [↓reduceIte, ↓shl_ap, shb_ap, shv_ap, zI_lit, zL_lit, nI_z, lN_z, ofN_z, zI_add, zI_sub, zI_mul, zI_neg, zL_add, zL_sub, zL_mul, zL_neg, zI_l, zI_cl, zI_le_t, zI_le_f, zI_lt_t, zI_lt_f, zI_eq_t, zI_eq_f, zI_in_t, zz_isIn_t, zz_isIn_f, not_true_eq_false, not_false_eq_true, true_or, or_true, false_or, or_false, true_and, and_true, false_and, and_false, ir_set, ir_set_k, ir_set_r, ir_row, ir_row_r, sh_i_setL, sh_i_setR, sh_r_setI, sh_r_setL, sh_r_rowI, sh_l_setI, sh_l_rowI, lr_set, lr_set_k, lr_set_r, Nat.reduceLeDiff, Int.reduceAdd, Int.reduceSub, Int.reduceMul, Int.reduceNeg, Int.reduceToNat, Nat.reduceAdd, Nat.reduceMul, Nat.reduceSub, Int.toNat_natCast, cpy_all hk, g3]
    · simp (disch := omega) only [↓reduceIte, ↓shl_ap, shb_ap, shv_ap, zI_lit, zL_lit, nI_z, lN_z, ofN_z, zI_add, zI_sub, zI_mul, zI_neg, zL_add, zL_sub, zL_mul, zL_neg, zI_l, zI_cl, zI_le_t, zI_le_f, zI_lt_t, zI_lt_f, zI_eq_t, zI_eq_f, zI_in_t, zz_isIn_t, zz_isIn_f, not_true_eq_false, not_false_eq_true, true_or, or_true, false_or, or_false, true_and, and_true, false_and, and_false, ir_set, ir_set_k, ir_set_r, ir_row, ir_row_r, sh_i_setL, sh_i_setR, sh_r_setI, sh_r_setL, sh_r_rowI, sh_l_setI, sh_l_rowI, lr_set, lr_set_k, lr_set_r, Nat.reduceLeDiff, Int.reduceAdd, Int.reduceSub, Int.reduceMul, Int.reduceNeg, Int.reduceToNat, Nat.reduceAdd, Nat.reduceMul, Nat.reduceSub, Int.toNat_natCast, g4]
    · simp (disch := omega) only [↓reduceIte, ↓shl_ap, shb_ap, shv_ap, zI_lit, zL_lit, nI_z, lN_z, ofN_z, zI_add, zI_sub, zI_mul, zI_neg, zL_add, zL_sub, zL_mul, zL_neg, zI_l, zI_cl, zI_le_t, zI_le_f, zI_lt_t, zI_lt_f, zI_eq_t, zI_eq_f, zI_in_t, zz_isIn_t, zz_isIn_f, not_true_eq_false, not_false_eq_true, true_or, or_true, false_or, or_false, true_and, and_true, false_and, and_false, ir_set, ir_set_k, ir_set_r, ir_row, ir_row_r, sh_i_setL, sh_i_setR, sh_r_setI, sh_r_setL, sh_r_rowI, sh_l_setI, sh_l_rowI, lr_set, lr_set_k, lr_set_r, Nat.reduceLeDiff, Int.reduceAdd, Int.reduceSub, Int.reduceMul, Int.reduceNeg, Int.reduceToNat, Nat.reduceAdd, Nat.reduceMul, Nat.reduceSub, Int.toNat_natCast]
    · simp (disch := omega) only [↓reduceIte, ↓shl_ap, shb_ap, shv_ap, zI_lit, zL_lit, nI_z, lN_z, ofN_z, zI_add, zI_sub, zI_mul, zI_neg, zL_add, zL_sub, zL_mul, zL_neg, zI_l, zI_cl, zI_le_t, zI_le_f, zI_lt_t, zI_lt_f, zI_eq_t, zI_eq_f, zI_in_t, zz_isIn_t, zz_isIn_f, not_true_eq_false, not_false_eq_true, true_or, or_true, false_or, or_false, true_and, and_true, false_and, and_false, ir_set, ir_set_k, ir_set_r, ir_row, ir_row_r, sh_i_setL, sh_i_setR, sh_r_setI, sh_r_setL, sh_r_rowI, sh_l_setI, sh_l_rowI, lr_set, lr_set_k, lr_set_r, Nat.reduceLeDiff, Int.reduceAdd, Int.reduceSub, Int.reduceMul, Int.reduceNeg, Int.reduceToNat, Nat.reduceAdd, Nat.reduceMul, Nat.reduceSub, Int.toNat_natCast, g2]
  · have h20 : a = 20 := by omega
    rw [if_neg ha20, if_neg ha20]
    have hr : f_X4_remember 49 μ = some (sh_setI (sh_setI (sh_rowI μ3 (67 + w) (va_cpy (sh_i μ3 64) (sh_i μ3 (67 + w)) 0 0 160)) 87 w (sh_i μ3 63 1)) 63 3 (zI (((o : Int) + 1) % 20))) := by
      unfold f_X4_remember
      rw [hx]
      simp (disch := omega) only [↓reduceIte, ↓shl_ap, shb_ap, shv_ap, zI_lit, zL_lit, nI_z, lN_z, ofN_z, zI_add, zI_sub, zI_mul, zI_neg, zL_add, zL_sub, zL_mul, zL_neg, zI_l, zI_cl, zI_le_t, zI_le_f, zI_lt_t, zI_lt_f, zI_eq_t, zI_eq_f, zI_in_t, zz_isIn_t, zz_isIn_f, not_true_eq_false, not_false_eq_true, true_or, or_true, false_or, or_false, true_and, and_true, false_and, and_false, ir_set, ir_set_k, ir_set_r, ir_row, ir_row_r, sh_i_setL, sh_i_setR, sh_r_setI, sh_r_setL, sh_r_rowI, sh_l_setI, sh_l_rowI, lr_set, lr_set_k, lr_set_r, Nat.reduceLeDiff, Int.reduceAdd, Int.reduceSub, Int.reduceMul, Int.reduceNeg, Int.reduceToNat, Nat.reduceAdd, Nat.reduceMul, Nat.reduceSub, Int.toNat_natCast, k1, g1, g2, zI_div, zI_mod]
    refine ⟨_, hr, sh_fr_I (sh_fr_I (sh_fr_row (k2.mono (fun r k q => by omega)) (fun k => by omega)) (by omega)) (by omega), ?_, ?_, ?_, ?_, ?_, ?_, ?_⟩
    · simp (disch := omega) only [↓reduceIte, ↓shl_ap, shb_ap, shv_ap, zI_lit, zL_lit, nI_z, lN_z, ofN_z, zI_add, zI_sub, zI_mul, zI_neg, zL_add, zL_sub, zL_mul, zL_neg, zI_l, zI_cl, zI_le_t, zI_le_f, zI_lt_t, zI_lt_f, zI_eq_t, zI_eq_f, zI_in_t, zz_isIn_t, zz_isIn_f, not_true_eq_false, not_false_eq_true, true_or, or_true, false_or, or_false, true_and, and_true, false_and, and_false, ir_set, ir_set_k, ir_set_r, ir_row, ir_row_r, sh_i_setL, sh_i_setR, sh_r_setI, sh_r_setL, sh_r_rowI, sh_l_setI, sh_l_rowI, lr_set, lr_set_k, lr_set_r, Nat.reduceLeDiff, Int.reduceAdd, Int.reduceSub, Int.reduceMul, Int.reduceNeg, Int.reduceToNat, Nat.reduceAdd, Nat.reduceMul, Nat.reduceSub, Int.toNat_natCast, k3]
    · intro k hk; simp (disch := omega) only [↓reduceIte, ↓shl_ap, shb_ap, shv_ap, zI_lit, zL_lit, nI_z, lN_z, ofN_z, zI_add, zI_sub, zI_mul, zI_neg, zL_add, zL_sub, zL_mul, zL_neg, zI_l, zI_cl, zI_le_t, zI_le_f, zI_lt_t, zI_lt_f, zI_eq_t, zI_eq_f, zI_in_t, zz_isIn_t, zz_isIn_f, not_true_eq_false, not_false_eq_true, true_or, or_true, false_or, or_false, true_and, and_true, false_and, and_false, ir_set, ir_set_k, ir_set_r, ir_row, ir_row_r, sh_i_setL, sh_i_setR, sh_r_setI, sh_r_setL, sh_r_rowI, sh_l_setI, sh_l_rowI, lr_set, lr_set_k, lr_set_r, Nat.reduceLeDiff, Int.reduceAdd, Int.reduceSub, Int.reduceMul, Int.reduceNeg, Int.reduceToNat, Nat.reduceAdd, Nat.reduceMul, Nat.reduceSub, Int.toNat_natCast, k4 k hk]
    · intro i h2 h5 k hk
      simp (disch := omega) only [↓reduceIte, ↓shl_ap, shb_ap, shv_ap, zI_lit, zL_lit, nI_z, lN_z, ofN_z, zI_add, zI_sub, zI_mul, zI_neg, zL_add, zL_sub, zL_mul, zL_neg, zI_l, zI_cl, zI_le_t, zI_le_f, zI_lt_t, zI_lt_f, zI_eq_t, zI_eq_f, zI_in_t, zz_isIn_t, zz_isIn_f, not_true_eq_false, not_false_eq_true, true_or, or_true, false_or, or_false, true_and, and_true, false_and, and_false, ir_set, ir_set_k, ir_set_r, ir_row, ir_row_r, sh_i_setL, sh_i_setR, sh_r_setI, sh_r_setL, sh_r_rowI, sh_l_setI, sh_l_rowI, lr_set, lr_set_k, lr_set_r, Nat.reduceLeDiff, Int.reduceAdd, Int.reduceSub, Int.reduceMul, Int.reduceNeg, Int.reduceToNat, Nat.reduceAdd, Nat.reduceMul, Nat.reduceSub, Int.toNat_natCast, k5 i h2 h5 k hk]
    · intro k hk; simp (disch := omega) only [↓reduceIte, ↓shl_ap, shb_ap, shv_ap, zI_lit, zL_lit, nI_z, lN_z, ofN_z, zI_add, zI_sub, zI_mul, zI_neg, zL_add, zL_sub, zL_mul, zL_neg, zI_l, zI_cl, zI_le_t, zI_le_f, zI_lt_t, zI_lt_f, zI_eq_t, zI_eq_f, zI_in_t, zz_isIn_t, zz_isIn_f, not_true_eq_false, not_false_eq_true, true_or, or_true, false_or, or_false, true_and, and_true, false_and, and_false, ir_set, ir_set_k, ir_set_r, ir_row, ir_row_r, sh_i_setL, sh_i_setR, sh_r_setI, sh_r_setL, sh_r_rowI, sh_l_setI, sh_l_rowI, lr_set, lr_set_k, lr_set_r, Nat.reduceLeDiff, Int.reduceAdd, Int.reduceSub, Int.reduceMul, Int.reduceNeg, Int.reduceToNat, Nat.reduceAdd, Nat.reduceMul, Nat.reduceSub, Int.toNat_natCast, cpy_all hk, g3]
    · simp (disch := omega) only [↓reduceIte, ↓shl_ap, shb_ap, shv_ap, zI_lit, zL_lit, nI_z, lN_z, ofN_z, zI_add, zI_sub, zI_mul, zI_neg, zL_add, zL_sub, zL_mul, zL_neg, zI_l, zI_cl, zI_le_t, zI_le_f, zI_lt_t, zI_lt_f, zI_eq_t, zI_eq_f, zI_in_t, zz_isIn_t, zz_isIn_f, not_true_eq_false, not_false_eq_true, true_or, or_true, false_or, or_false, true_and, and_true, false_and, and_false, ir_set, ir_set_k, ir_set_r, ir_row, ir_row_r, sh_i_setL, sh_i_setR, sh_r_setI, sh_r_setL, sh_r_rowI, sh_l_setI, sh_l_rowI, lr_set, lr_set_k, lr_set_r, Nat.reduceLeDiff, Int.reduceAdd, Int.reduceSub, Int.reduceMul, Int.reduceNeg, Int.reduceToNat, Nat.reduceAdd, Nat.reduceMul, Nat.reduceSub, Int.toNat_natCast, g4]
    · simp (disch := omega) only [↓reduceIte, ↓shl_ap, shb_ap, shv_ap, zI_lit, zL_lit, nI_z, lN_z, ofN_z, zI_add, zI_sub, zI_mul, zI_neg, zL_add, zL_sub, zL_mul, zL_neg, zI_l, zI_cl, zI_le_t, zI_le_f, zI_lt_t, zI_lt_f, zI_eq_t, zI_eq_f, zI_in_t, zz_isIn_t, zz_isIn_f, not_true_eq_false, not_false_eq_true, true_or, or_true, false_or, or_false, true_and, and_true, false_and, and_false, ir_set, ir_set_k, ir_set_r, ir_row, ir_row_r, sh_i_setL, sh_i_setR, sh_r_setI, sh_r_setL, sh_r_rowI, sh_l_setI, sh_l_rowI, lr_set, lr_set_k, lr_set_r, Nat.reduceLeDiff, Int.reduceAdd, Int.reduceSub, Int.reduceMul, Int.reduceNeg, Int.reduceToNat, Nat.reduceAdd, Nat.reduceMul, Nat.reduceSub, Int.toNat_natCast, g1, h20]
    · simp (disch := omega) only [↓reduceIte, ↓shl_ap, shb_ap, shv_ap, zI_lit, zL_lit, nI_z, lN_z, ofN_z, zI_add, zI_sub, zI_mul, zI_neg, zL_add, zL_sub, zL_mul, zL_neg, zI_l, zI_cl, zI_le_t, zI_le_f, zI_lt_t, zI_lt_f, zI_eq_t, zI_eq_f, zI_in_t, zz_isIn_t, zz_isIn_f, not_true_eq_false, not_false_eq_true, true_or, or_true, false_or, or_false, true_and, and_true, false_and, and_false, ir_set, ir_set_k, ir_set_r, ir_row, ir_row_r, sh_i_setL, sh_i_setR, sh_r_setI, sh_r_setL, sh_r_rowI, sh_l_setI, sh_l_rowI, lr_set, lr_set_k, lr_set_r, Nat.reduceLeDiff, Int.reduceAdd, Int.reduceSub, Int.reduceMul, Int.reduceNeg, Int.reduceToNat, Nat.reduceAdd, Nat.reduceMul, Nat.reduceSub, Int.toNat_natCast]
/-- 'stores' -/
theorem rf_stores1 {w : Nat} (hw : w < 20) : ∀ (g f i : Nat) (μ : sh_Mem), i + g = 232 → g < f → sh_i μ 291 77 = zI w → ∃ μ', F_X12_stores f 1 (zI i) μ = F_X12_stores (f - g) 1 (zI 232) μ' ∧ sh_fr (fun r k => r = 340 ∧ 232 * w + i ≤ k ∧ k < 232 * w + 232) μ μ' ∧ ∀ k, i ≤ k → k < 232 → sh_i μ' 340 (232 * w + k) = sh_i μ 330 k := by
  intro g
  induction g with
  | zero =>
    intro f i μ hi hf e
    have hi : i = 232 := by omega
    subst hi
    exact ⟨μ, rfl, sh_fr.rf, fun k h1 h2 => by omega⟩
  | succ g ih =>
    intro f i μ hi hf e
    obtain ⟨f, rfl⟩ : ∃ q, f = q + 1 := ⟨f - 1, by omega⟩
    obtain ⟨μ', a, b, c⟩ := ih f (i + 1) (sh_setI μ 340 (232 * w + i) (sh_i μ 330 i)) (by omega) (by omega) (by rw [ir_set_r (by omega)]; exact e)
    refine ⟨μ', ?_, (sh_fr_I sh_fr.rf (by omega)).trans (b.mono (fun r k q => by omega)), fun k h1 h2 => ?_⟩
    · rw [show f + 1 - (g + 1) = f - g by omega, ← a, F_X12_stores]
      simp (disch := omega) only [↓reduceIte, ↓shl_ap, shb_ap, shv_ap, zI_lit, zL_lit, nI_z, lN_z, ofN_z, zI_add, zI_sub, zI_mul, zI_neg, zL_add, zL_sub, zL_mul, zL_neg, zI_l, zI_cl, zI_le_t, zI_le_f, zI_lt_t, zI_lt_f, zI_eq_t, zI_eq_f, zI_in_t, zz_isIn_t, zz_isIn_f, not_true_eq_false, not_false_eq_true, true_or, or_true, false_or, or_false, true_and, and_true, false_and, and_false, ir_set, ir_set_k, ir_set_r, ir_row, ir_row_r, sh_i_setL, sh_i_setR, sh_r_setI, sh_r_setL, sh_r_rowI, sh_l_setI, sh_l_rowI, lr_set, lr_set_k, lr_set_r, Nat.reduceLeDiff, Int.reduceAdd, Int.reduceSub, Int.reduceMul, Int.reduceNeg, Int.reduceToNat, Nat.reduceAdd, Nat.reduceMul, Nat.reduceSub, Int.toNat_natCast, e]
      rw [show (232 * (w : Int) + i).toNat = 232 * w + i by omega]
      rfl
    · by_cases q : k = i
      · subst q
        rw [b.i _ _ (by omega), ir_set]
      · rw [c k (by omega) h2, ir_set_r (by omega)]
theorem rf_stores {μ : sh_Mem} {a w : Nat} (ha : a ≤ 20) (hw : w < 20) (e1 : sh_i μ 291 76 = nI a) (e2 : sh_i μ 291 77 = nI w) : ∃ μ', f_X12_stores μ = some μ' ∧ sh_fr (fun r k => (r = 340 ∧ 232 * ((w + 1) % 20) ≤ k ∧ k < 232 * ((w + 1) % 20) + 232) ∨ (r = 291 ∧ (k = 76 ∨ k = 77))) μ μ' ∧ (∀ k, k < 232 → sh_i μ' 340 (232 * ((w + 1) % 20) + k) = sh_i μ 330 k) ∧ sh_i μ' 291 76 = nI (if a < 20 then a + 1 else 20) ∧ sh_i μ' 291 77 = nI ((w + 1) % 20) := by
  obtain ⟨v, hv⟩ : ∃ v, v = (w + 1) % 20 := ⟨_, rfl⟩
  rw [← hv]
  obtain ⟨μ', k1, k2, k3⟩ := rf_stores1 (w := v) (by omega) 232 sh_fuel 0 (sh_setI μ 291 77 (zI v)) (by omega) (by rw [sh_fuel_eq]; omega) ir_set
  obtain ⟨f, hf⟩ : ∃ f, sh_fuel - 232 = f + 1 := ⟨sh_fuel - 233, by rw [sh_fuel_eq]⟩
  have hx : (sh_i μ 291 77 + 1 - (sh_i μ 291 77 + 1) / 20 * 20) = zI v := by
    rw [e2]
    simp (disch := omega) only [↓reduceIte, ↓shl_ap, shb_ap, shv_ap, zI_lit, zL_lit, nI_z, lN_z, ofN_z, zI_add, zI_sub, zI_mul, zI_neg, zL_add, zL_sub, zL_mul, zL_neg, zI_l, zI_cl, zI_le_t, zI_le_f, zI_lt_t, zI_lt_f, zI_eq_t, zI_eq_f, zI_in_t, zz_isIn_t, zz_isIn_f, not_true_eq_false, not_false_eq_true, true_or, or_true, false_or, or_false, true_and, and_true, false_and, and_false, Nat.reduceLeDiff, Int.reduceAdd, Int.reduceSub, Int.reduceMul, Int.reduceNeg, Int.reduceToNat, Nat.reduceAdd, Nat.reduceMul, Nat.reduceSub, Int.toNat_natCast, zI_div, zI_mod]
  have g1 : sh_i μ' 291 76 = zI a := by rw [k2.i _ _ (by omega), ir_set_k (by omega), e1, nI_z]
  have g2 : sh_i μ' 291 77 = zI v := by rw [k2.i _ _ (by omega), ir_set]
  have hr : f_X12_stores μ = F_X12_stores (f + 1) 1 (zI 232) μ' := by
    unfold f_X12_stores
    rw [hx, ← hf, ← k1]
    rfl
  have hfr : sh_fr (fun r k => (r = 340 ∧ 232 * v ≤ k ∧ k < 232 * v + 232) ∨ (r = 291 ∧ (k = 76 ∨ k = 77))) μ μ' := (sh_fr_I sh_fr.rf (by omega)).trans (k2.mono (fun r k q => by omega))
  have h330 : ∀ k, sh_i (sh_setI μ 291 77 (zI v)) 330 k = sh_i μ 330 k := fun k => by rw [ir_set_r (by omega)]
  by_cases ha20 : a < 20
  · rw [if_pos ha20]
    refine ⟨sh_setI μ' 291 76 (zI (a + 1 : Nat)), ?_, sh_fr_I hfr (by omega), fun k hk => ?_, ?_, ?_⟩
    · rw [hr, F_X12_stores]
      simp (disch := omega) only [↓reduceIte, ↓shl_ap, shb_ap, shv_ap, zI_lit, zL_lit, nI_z, lN_z, ofN_z, zI_add, zI_sub, zI_mul, zI_neg, zL_add, zL_sub, zL_mul, zL_neg, zI_l, zI_cl, zI_le_t, zI_le_f, zI_lt_t, zI_lt_f, zI_eq_t, zI_eq_f, zI_in_t, zz_isIn_t, zz_isIn_f, not_true_eq_false, not_false_eq_true, true_or, or_true, false_or, or_false, true_and, and_true, false_and, and_false, ir_set, ir_set_k, ir_set_r, ir_row, ir_row_r, sh_i_setL, sh_i_setR, sh_r_setI, sh_r_setL, sh_r_rowI, sh_l_setI, sh_l_rowI, lr_set, lr_set_k, lr_set_r, Nat.reduceLeDiff, Int.reduceAdd, Int.reduceSub, Int.reduceMul, Int.reduceNeg, Int.reduceToNat, Nat.reduceAdd, Nat.reduceMul, Nat.reduceSub, Int.toNat_natCast, g1]
      rfl
    · rw [ir_set_r (by omega), k3 k (by omega) hk, h330]
    · rw [ir_set, nI_z]
    · rw [ir_set_k (by omega), g2, nI_z]
  · rw [if_neg ha20]
    refine ⟨μ', ?_, hfr, fun k hk => ?_, ?_, ?_⟩
    · rw [hr, F_X12_stores]
      simp (disch := omega) only [↓reduceIte, ↓shl_ap, shb_ap, shv_ap, zI_lit, zL_lit, nI_z, lN_z, ofN_z, zI_add, zI_sub, zI_mul, zI_neg, zL_add, zL_sub, zL_mul, zL_neg, zI_l, zI_cl, zI_le_t, zI_le_f, zI_lt_t, zI_lt_f, zI_eq_t, zI_eq_f, zI_in_t, zz_isIn_t, zz_isIn_f, not_true_eq_false, not_false_eq_true, true_or, or_true, false_or, or_false, true_and, and_true, false_and, and_false, ir_set, ir_set_k, ir_set_r, ir_row, ir_row_r, sh_i_setL, sh_i_setR, sh_r_setI, sh_r_setL, sh_r_rowI, sh_l_setI, sh_l_rowI, lr_set, lr_set_k, lr_set_r, Nat.reduceLeDiff, Int.reduceAdd, Int.reduceSub, Int.reduceMul, Int.reduceNeg, Int.reduceToNat, Nat.reduceAdd, Nat.reduceMul, Nat.reduceSub, Int.toNat_natCast, g1]
    · rw [k3 k (by omega) hk, h330]
    · rw [g1, nI_z, show a = 20 by omega]
    · rw [g2, nI_z]
theorem sm_mL.sh {f g : Nat → Int32} {o o' : Nat} {P : sp_T} {L : sl_T} (hk : sp_ok P) (h : sm_mL f o P L) (e : ∀ k, k < 232 → g (o' + k) = f (o + k)) : sm_mL g o' P L := by
  have hb := sp_bd hk
  obtain ⟨a, b, c⟩ := h
  refine ⟨(e 0 (by omega)).trans a, fun x y hx hy => ?_, fun p hp => ?_⟩
  · have := e (1 + x + 7 * y) (by omega)
    rw [show o' + 1 + x + 7 * y = o' + (1 + x + 7 * y) by omega, this, show o + (1 + x + 7 * y) = o + 1 + x + 7 * y by omega]
    exact b x y hx hy
  · obtain ⟨c1, c2, c3⟩ := c p hp
    have e1 := e (50 + 3 * p) (by omega)
    have e2 := e (51 + 3 * p) (by omega)
    have e3 := e (52 + 3 * p) (by omega)
    rw [← Nat.add_assoc, ← Nat.add_assoc] at e1 e2 e3
    exact ⟨e1.trans c1, e2.trans c2, e3.trans c3⟩
theorem sm_kept.sh {c c' f g : Nat → Int32} {n n' : Int32} {o o' : Nat} (h : sm_kept c n f o) (e0 : n' = n) (e1 : ∀ k, k < 160 → c' k = c k) (e : ∀ k, k < 232 → g (o' + k) = f (o + k)) : sm_kept c' n' g o' := by
  obtain ⟨m, a, b, d, k⟩ := h
  refine ⟨m, a, e0.trans b, (e 71 (by omega)).trans d, fun j hj => ?_⟩
  have := e (72 + j) (by omega)
  rw [← Nat.add_assoc, ← Nat.add_assoc] at this
  rw [e1 j (by omega), this]
  exact k j hj
theorem sm_undo.push {μ μr μ' μs μ2 : sh_Mem} {P : sp_T} {L : sl_T} (hk : sp_ok P) (h : sm_undo μ P) (hl : sl_ok P L) (hc : sm_cL μ 49 P L) (hm : sm_mL (sh_i μ 330) 0 P L) (hp : sm_kept (sh_i μ 64) (sh_i μ 63 1) (sh_i μ 330) 0) (hr : f_X4_remember 49 μ = some μr)
    (h1 : sh_i μ' 330 = sh_i μ 330) (h2 : sh_i μ' 340 = sh_i μ 340) (h3 : sh_i μ' 291 76 = sh_i μ 291 76) (h4 : sh_i μ' 291 77 = sh_i μ 291 77) (hs : f_X12_stores μ' = some μs)
    (q1 : ∀ r, 67 ≤ r → r ≤ 207 → sh_i μ2 r = sh_i μr r) (q2 : sh_i μ2 63 2 = sh_i μr 63 2) (q3 : sh_i μ2 63 3 = sh_i μr 63 3) (q4 : sh_i μ2 340 = sh_i μs 340) (q5 : sh_i μ2 291 76 = sh_i μs 291 76) (q6 : sh_i μ2 291 77 = sh_i μs 291 77) : sm_undo μ2 P := by
  obtain ⟨a, o, w, b1, b2, b3, b4, b5, b6, b7, b8⟩ := h
  obtain ⟨μr', x1, x2, x3, x4, x5, x6, x7, x8, x9⟩ := cl_remember b1 b2 b4 b5
  obtain rfl : μr' = μr := Option.some.inj (x1.symm.trans hr)
  obtain ⟨μs', y1, y2, y3, y4, y5⟩ := rf_stores b1 b3 (h3.trans b6) (h4.trans b7)
  obtain rfl : μs' = μs := Option.some.inj (y1.symm.trans hs)
  refine ⟨if a < 20 then a + 1 else 20, if a < 20 then o else (o + 1) % 20, (w + 1) % 20, by split <;> omega, by split <;> omega, by omega, q2.trans x8, q3.trans x9, q5.trans y4, q6.trans y5, fun i hi => ?_⟩
  have hi20 : i < 20 := by split at hi <;> omega
  have ix : ((if a < 20 then o else (o + 1) % 20) + ((if a < 20 then a + 1 else 20) - 1 - i)) % 20 = if i = 0 then (o + a) % 20 else (o + (a - 1 - (i - 1))) % 20 := by
    by_cases ha : a < 20
    · rw [if_pos ha, if_pos ha]; rw [if_pos ha] at hi; split <;> omega
    · rw [if_neg ha, if_neg ha]; split <;> omega
  have iy : ((w + 1) % 20 + 20 - i) % 20 = if i = 0 then (w + 1) % 20 else (w + 20 - (i - 1)) % 20 := by split <;> omega
  rw [ix, iy, q4]
  by_cases i0 : i = 0
  · rw [if_pos i0, if_pos i0]
    have hE : ∀ k, k < 232 → sh_i μs' 340 (232 * ((w + 1) % 20) + k) = sh_i μ 330 (0 + k) := fun k hk => by rw [y3 k hk, h1, Nat.zero_add]
    refine ⟨⟨L, hl, ?_, hm.sh hk hE⟩, ?_⟩
    · refine sm_cL.cg (μ := μr') (hc.of hk x3 x4 x5) (fun j hj => q1 _ (by omega) (by omega))
    · rw [q1 (67 + (o + a) % 20) (by omega) (by omega), q1 87 (by omega) (by omega)]
      exact hp.sh x7 x6 hE
  · rw [if_neg i0, if_neg i0]
    have hi1 : i - 1 < a := by split at hi <;> omega
    obtain ⟨⟨L', c1, c2, c3⟩, c4⟩ := b8 (i - 1) hi1
    have hE : ∀ k, k < 232 → sh_i μs' 340 (232 * ((w + 20 - (i - 1)) % 20) + k) = sh_i μ 340 (232 * ((w + 20 - (i - 1)) % 20) + k) := fun k hk => by rw [y2.i _ _ (by omega), h2]
    have hne : ¬ (o + (a - 1 - (i - 1))) % 20 = (o + a) % 20 := by omega
    refine ⟨⟨L', c1, ?_, c3.sh hk hE⟩, ?_⟩
    · refine sm_cL.cg (μ := μ) c2 (fun j hj => ?_)
      rw [q1 _ (by omega) (by omega), x2.row _ (fun k => by omega)]
    · rw [q1 (67 + (o + (a - 1 - (i - 1))) % 20) (by omega) (by omega), q1 87 (by omega) (by omega)]
      refine c4.sh ?_ (fun k hk => ?_) hE
      · rw [x2.i _ _ (by omega)]
      · rw [x2.i _ _ (by omega)]
