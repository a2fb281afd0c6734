/-! the reference's 'codesTell' -/
theorem zN_le_t {a b : Nat} (h : a ≤ b) : (a ≤ b) = True := eq_true h
theorem zN_le_f {a b : Nat} (h : ¬ a ≤ b) : (a ≤ b) = False := eq_false h
def rk (μ : sh_Mem) (s : List Int) : Prop := sh_i μ 291 109 = zI s.length ∧ sk (sh_l μ 366) s
def rN (r k : Nat) : Prop := r = 366 ∨ (r = 291 ∧ k = 109)
theorem rf_puts {μ : sh_Mem} {s : List Int} {v : Int} (h : rk μ s) (hl : s.length < 1700) : ∃ μ', f_X12_qPuts (zL v) μ = some μ' ∧ rk μ' (v :: s) ∧ sh_fr rN μ μ' := by
  refine ⟨sh_setI (sh_setL μ 366 s.length (zL v)) 291 109 (zI (s.length + 1 : Nat)), ?_, ⟨ir_set, sk_set h.2⟩, sh_fr_I (sh_fr_L sh_fr.rf (Or.inl rfl)) (Or.inr ⟨rfl, rfl⟩)⟩
  unfold f_X12_qPuts
  simp (disch := omega) only [↓reduceIte, ↓shl_ap, shb_ap, shv_ap, zI_lit, zL_lit, nI_z, lN_z, ofN_z, zI_add, zI_sub, zI_mul, zI_neg, zL_add, zL_sub, zL_mul, zL_neg, zI_l, zI_cl, zI_le_t, zI_le_f, zI_lt_t, zI_lt_f, zI_eq_t, zI_eq_f, zI_in_t, zz_isIn_t, zz_isIn_f, not_true_eq_false, not_false_eq_true, true_or, or_true, false_or, or_false, true_and, and_true, false_and, and_false, ir_set, ir_set_k, ir_set_r, ir_row, ir_row_r, sh_i_setL, sh_i_setR, sh_r_setI, sh_r_setL, sh_r_rowI, sh_l_setI, sh_l_rowI, lr_set, lr_set_k, lr_set_r, Nat.reduceLeDiff, Int.reduceAdd, Int.reduceSub, Int.reduceMul, Int.reduceNeg, Int.reduceToNat, Nat.reduceAdd, Nat.reduceMul, Nat.reduceSub, Int.toNat_natCast, h.1, zN_le_t, zN_le_f]
  rfl
theorem rf_joins {μ : sh_Mem} {t : Nat} {a b : Int} {r : List Int} (h1 : 11 ≤ t) (h2 : t ≤ 21) (ha : ein a) (hb : ein b) (h3 : 20 ≤ t → (a = 0 ∨ a = 1) ∧ (b = 0 ∨ b = 1)) (hk : rk μ (b :: a :: r)) (hl : r.length < 1600) : ∃ μ', f_X12_qJoins (zI (sg_m t)) μ = some μ' ∧ rk μ' (eo t a b :: r) ∧ sh_fr rN μ μ' := by
  have e0 : sh_i μ 291 109 = zI ((r.length : Int) + 1 + 1) := hk.1
  have e1 : sh_l μ 366 (r.length + 1) = zL b := hk.2.1
  have e2 : sh_l μ 366 r.length = zL a := hk.2.2.1
  have k5 : rk (sh_setI μ 291 109 (zI r.length)) r := ⟨ir_set, hk.2.2.2⟩
  obtain ⟨μ', p1, p2, p3⟩ := rf_puts (v := eo t a b) k5 (by omega)
  refine ⟨μ', ?_, p2, (sh_fr_I sh_fr.rf (Or.inr ⟨rfl, rfl⟩)).trans p3⟩
  have hm := ein_mul ha hb
  have hfl := rf_floor (μ := sh_setI μ 291 109 (zI r.length)) ha hb
  have x1 : (((r.length : Int) + 1 + 1 - 1)) = ((r.length + 1 : Nat) : Int) := by omega
  have x2 : (((r.length : Int) + 1 + 1 - 2)) = (r.length : Int) := by omega
  unfold ein at ha hb
  unfold f_X12_qJoins
  rcases sg_two h1 h2 with rfl | rfl | rfl | rfl | rfl | rfl | rfl | rfl | rfl | rfl | rfl
  · rw [show eo 11 a b = ec (a + b) from rfl] at p1
    rw [show sg_m 11 = 1 from rfl]
    simp (disch := omega) only [↓reduceIte, ↓shl_ap, shb_ap, shv_ap, zI_lit, zL_lit, nI_z, lN_z, ofN_z, zI_add, zI_sub, zI_mul, zI_neg, zL_add, zL_sub, zL_mul, zL_neg, zI_l, zI_cl, zI_le_t, zI_le_f, zI_lt_t, zI_lt_f, zI_eq_t, zI_eq_f, zI_in_t, zz_isIn_t, zz_isIn_f, not_true_eq_false, not_false_eq_true, true_or, or_true, false_or, or_false, true_and, and_true, false_and, and_false, Nat.reduceLeDiff, Int.reduceAdd, Int.reduceSub, Int.reduceMul, Int.reduceNeg, Int.reduceToNat, Nat.reduceAdd, Nat.reduceMul, Nat.reduceSub, Int.toNat_natCast, e0, x1, x2, e1, e2, rf_clip, p1, zN_le_t, zN_le_f]
  · rw [eo_12] at p1
    rw [show sg_m 12 = 2 from rfl]
    simp (disch := omega) only [↓reduceIte, ↓shl_ap, shb_ap, shv_ap, zI_lit, zL_lit, nI_z, lN_z, ofN_z, zI_add, zI_sub, zI_mul, zI_neg, zL_add, zL_sub, zL_mul, zL_neg, zI_l, zI_cl, zI_le_t, zI_le_f, zI_lt_t, zI_lt_f, zI_eq_t, zI_eq_f, zI_in_t, zz_isIn_t, zz_isIn_f, not_true_eq_false, not_false_eq_true, true_or, or_true, false_or, or_false, true_and, and_true, false_and, and_false, Nat.reduceLeDiff, Int.reduceAdd, Int.reduceSub, Int.reduceMul, Int.reduceNeg, Int.reduceToNat, Nat.reduceAdd, Nat.reduceMul, Nat.reduceSub, Int.toNat_natCast, e0, x1, x2, e1, e2, rf_clip, p1, zN_le_t, zN_le_f]
  · rw [eo_13] at p1
    rw [show sg_m 13 = 3 from rfl]
    simp (disch := omega) only [↓reduceIte, ↓shl_ap, shb_ap, shv_ap, zI_lit, zL_lit, nI_z, lN_z, ofN_z, zI_add, zI_sub, zI_mul, zI_neg, zL_add, zL_sub, zL_mul, zL_neg, zI_l, zI_cl, zI_le_t, zI_le_f, zI_lt_t, zI_lt_f, zI_eq_t, zI_eq_f, zI_in_t, zz_isIn_t, zz_isIn_f, not_true_eq_false, not_false_eq_true, true_or, or_true, false_or, or_false, true_and, and_true, false_and, and_false, Nat.reduceLeDiff, Int.reduceAdd, Int.reduceSub, Int.reduceMul, Int.reduceNeg, Int.reduceToNat, Nat.reduceAdd, Nat.reduceMul, Nat.reduceSub, Int.toNat_natCast, e0, x1, x2, e1, e2, rf_clip, p1, zN_le_t, zN_le_f]
  · rw [show eo 14 a b = ef a b from rfl] at p1
    rw [show sg_m 14 = 4 from rfl]
    simp (disch := omega) only [↓reduceIte, ↓shl_ap, shb_ap, shv_ap, zI_lit, zL_lit, nI_z, lN_z, ofN_z, zI_add, zI_sub, zI_mul, zI_neg, zL_add, zL_sub, zL_mul, zL_neg, zI_l, zI_cl, zI_le_t, zI_le_f, zI_lt_t, zI_lt_f, zI_eq_t, zI_eq_f, zI_in_t, zz_isIn_t, zz_isIn_f, not_true_eq_false, not_false_eq_true, true_or, or_true, false_or, or_false, true_and, and_true, false_and, and_false, Nat.reduceLeDiff, Int.reduceAdd, Int.reduceSub, Int.reduceMul, Int.reduceNeg, Int.reduceToNat, Nat.reduceAdd, Nat.reduceMul, Nat.reduceSub, Int.toNat_natCast, e0, x1, x2, e1, e2, hfl, p1, zN_le_t, zN_le_f]
  · rw [show eo 15 a b = if a < b then a else b from rfl] at p1
    rw [show sg_m 15 = 5 from rfl]
    by_cases c : a < b
    · rw [if_pos c] at p1
      simp (disch := omega) only [↓reduceIte, ↓shl_ap, shb_ap, shv_ap, zI_lit, zL_lit, nI_z, lN_z, ofN_z, zI_add, zI_sub, zI_mul, zI_neg, zL_add, zL_sub, zL_mul, zL_neg, zI_l, zI_cl, zI_le_t, zI_le_f, zI_lt_t, zI_lt_f, zI_eq_t, zI_eq_f, zI_in_t, zz_isIn_t, zz_isIn_f, not_true_eq_false, not_false_eq_true, true_or, or_true, false_or, or_false, true_and, and_true, false_and, and_false, Nat.reduceLeDiff, Int.reduceAdd, Int.reduceSub, Int.reduceMul, Int.reduceNeg, Int.reduceToNat, Nat.reduceAdd, Nat.reduceMul, Nat.reduceSub, Int.toNat_natCast, e0, x1, x2, e1, e2, lg_ge0, eq_false (show ¬ b ≤ a by omega), p1, zN_le_t, zN_le_f]
    · rw [if_neg c] at p1
      simp (disch := omega) only [↓reduceIte, ↓shl_ap, shb_ap, shv_ap, zI_lit, zL_lit, nI_z, lN_z, ofN_z, zI_add, zI_sub, zI_mul, zI_neg, zL_add, zL_sub, zL_mul, zL_neg, zI_l, zI_cl, zI_le_t, zI_le_f, zI_lt_t, zI_lt_f, zI_eq_t, zI_eq_f, zI_in_t, zz_isIn_t, zz_isIn_f, not_true_eq_false, not_false_eq_true, true_or, or_true, false_or, or_false, true_and, and_true, false_and, and_false, Nat.reduceLeDiff, Int.reduceAdd, Int.reduceSub, Int.reduceMul, Int.reduceNeg, Int.reduceToNat, Nat.reduceAdd, Nat.reduceMul, Nat.reduceSub, Int.toNat_natCast, e0, x1, x2, e1, e2, lg_ge0, eq_true (show b ≤ a by omega), p1, zN_le_t, zN_le_f]
  · rw [show eo 16 a b = if b < a then a else b from rfl] at p1
    rw [show sg_m 16 = 6 from rfl]
    by_cases c : b < a
    · rw [if_pos c] at p1
      simp (disch := omega) only [↓reduceIte, ↓shl_ap, shb_ap, shv_ap, zI_lit, zL_lit, nI_z, lN_z, ofN_z, zI_add, zI_sub, zI_mul, zI_neg, zL_add, zL_sub, zL_mul, zL_neg, zI_l, zI_cl, zI_le_t, zI_le_f, zI_lt_t, zI_lt_f, zI_eq_t, zI_eq_f, zI_in_t, zz_isIn_t, zz_isIn_f, not_true_eq_false, not_false_eq_true, true_or, or_true, false_or, or_false, true_and, and_true, false_and, and_false, Nat.reduceLeDiff, Int.reduceAdd, Int.reduceSub, Int.reduceMul, Int.reduceNeg, Int.reduceToNat, Nat.reduceAdd, Nat.reduceMul, Nat.reduceSub, Int.toNat_natCast, e0, x1, x2, e1, e2, lg_le0, eq_false (show ¬ a ≤ b by omega), p1, zN_le_t, zN_le_f]
    · rw [if_neg c] at p1
      simp (disch := omega) only [↓reduceIte, ↓shl_ap, shb_ap, shv_ap, zI_lit, zL_lit, nI_z, lN_z, ofN_z, zI_add, zI_sub, zI_mul, zI_neg, zL_add, zL_sub, zL_mul, zL_neg, zI_l, zI_cl, zI_le_t, zI_le_f, zI_lt_t, zI_lt_f, zI_eq_t, zI_eq_f, zI_in_t, zz_isIn_t, zz_isIn_f, not_true_eq_false, not_false_eq_true, true_or, or_true, false_or, or_false, true_and, and_true, false_and, and_false, Nat.reduceLeDiff, Int.reduceAdd, Int.reduceSub, Int.reduceMul, Int.reduceNeg, Int.reduceToNat, Nat.reduceAdd, Nat.reduceMul, Nat.reduceSub, Int.toNat_natCast, e0, x1, x2, e1, e2, lg_le0, eq_true (show a ≤ b by omega), p1, zN_le_t, zN_le_f]
  · rw [show eo 17 a b = if a < b then 1 else 0 from rfl] at p1
    rw [show sg_m 17 = 7 from rfl]
    by_cases c : a < b
    · rw [if_pos c] at p1
      simp (disch := omega) only [↓reduceIte, ↓shl_ap, shb_ap, shv_ap, zI_lit, zL_lit, nI_z, lN_z, ofN_z, zI_add, zI_sub, zI_mul, zI_neg, zL_add, zL_sub, zL_mul, zL_neg, zI_l, zI_cl, zI_le_t, zI_le_f, zI_lt_t, zI_lt_f, zI_eq_t, zI_eq_f, zI_in_t, zz_isIn_t, zz_isIn_f, not_true_eq_false, not_false_eq_true, true_or, or_true, false_or, or_false, true_and, and_true, false_and, and_false, Nat.reduceLeDiff, Int.reduceAdd, Int.reduceSub, Int.reduceMul, Int.reduceNeg, Int.reduceToNat, Nat.reduceAdd, Nat.reduceMul, Nat.reduceSub, Int.toNat_natCast, e0, x1, x2, e1, e2, lg_ge0, eq_false (show ¬ b ≤ a by omega), p1, zN_le_t, zN_le_f]
    · rw [if_neg c] at p1
      simp (disch := omega) only [↓reduceIte, ↓shl_ap, shb_ap, shv_ap, zI_lit, zL_lit, nI_z, lN_z, ofN_z, zI_add, zI_sub, zI_mul, zI_neg, zL_add, zL_sub, zL_mul, zL_neg, zI_l, zI_cl, zI_le_t, zI_le_f, zI_lt_t, zI_lt_f, zI_eq_t, zI_eq_f, zI_in_t, zz_isIn_t, zz_isIn_f, not_true_eq_false, not_false_eq_true, true_or, or_true, false_or, or_false, true_and, and_true, false_and, and_false, Nat.reduceLeDiff, Int.reduceAdd, Int.reduceSub, Int.reduceMul, Int.reduceNeg, Int.reduceToNat, Nat.reduceAdd, Nat.reduceMul, Nat.reduceSub, Int.toNat_natCast, e0, x1, x2, e1, e2, lg_ge0, eq_true (show b ≤ a by omega), p1, zN_le_t, zN_le_f]
  · rw [show eo 18 a b = if b < a then 1 else 0 from rfl] at p1
    rw [show sg_m 18 = 8 from rfl]
    by_cases c : b < a
    · rw [if_pos c] at p1
      simp (disch := omega) only [↓reduceIte, ↓shl_ap, shb_ap, shv_ap, zI_lit, zL_lit, nI_z, lN_z, ofN_z, zI_add, zI_sub, zI_mul, zI_neg, zL_add, zL_sub, zL_mul, zL_neg, zI_l, zI_cl, zI_le_t, zI_le_f, zI_lt_t, zI_lt_f, zI_eq_t, zI_eq_f, zI_in_t, zz_isIn_t, zz_isIn_f, not_true_eq_false, not_false_eq_true, true_or, or_true, false_or, or_false, true_and, and_true, false_and, and_false, Nat.reduceLeDiff, Int.reduceAdd, Int.reduceSub, Int.reduceMul, Int.reduceNeg, Int.reduceToNat, Nat.reduceAdd, Nat.reduceMul, Nat.reduceSub, Int.toNat_natCast, e0, x1, x2, e1, e2, lg_le0, eq_false (show ¬ a ≤ b by omega), p1, zN_le_t, zN_le_f]
    · rw [if_neg c] at p1
      simp (disch := omega) only [↓reduceIte, ↓shl_ap, shb_ap, shv_ap, zI_lit, zL_lit, nI_z, lN_z, ofN_z, zI_add, zI_sub, zI_mul, zI_neg, zL_add, zL_sub, zL_mul, zL_neg, zI_l, zI_cl, zI_le_t, zI_le_f, zI_lt_t, zI_lt_f, zI_eq_t, zI_eq_f, zI_in_t, zz_isIn_t, zz_isIn_f, not_true_eq_false, not_false_eq_true, true_or, or_true, false_or, or_false, true_and, and_true, false_and, and_false, Nat.reduceLeDiff, Int.reduceAdd, Int.reduceSub, Int.reduceMul, Int.reduceNeg, Int.reduceToNat, Nat.reduceAdd, Nat.reduceMul, Nat.reduceSub, Int.toNat_natCast, e0, x1, x2, e1, e2, lg_le0, eq_true (show a ≤ b by omega), p1, zN_le_t, zN_le_f]
  · rw [show eo 19 a b = if a = b then 1 else 0 from rfl] at p1
    rw [show sg_m 19 = 9 from rfl]
    by_cases c : a = b
    · rw [if_pos c] at p1
      simp (disch := omega) only [↓reduceIte, ↓shl_ap, shb_ap, shv_ap, zI_lit, zL_lit, nI_z, lN_z, ofN_z, zI_add, zI_sub, zI_mul, zI_neg, zL_add, zL_sub, zL_mul, zL_neg, zI_l, zI_cl, zI_le_t, zI_le_f, zI_lt_t, zI_lt_f, zI_eq_t, zI_eq_f, zI_in_t, zz_isIn_t, zz_isIn_f, not_true_eq_false, not_false_eq_true, true_or, or_true, false_or, or_false, true_and, and_true, false_and, and_false, Nat.reduceLeDiff, Int.reduceAdd, Int.reduceSub, Int.reduceMul, Int.reduceNeg, Int.reduceToNat, Nat.reduceAdd, Nat.reduceMul, Nat.reduceSub, Int.toNat_natCast, e0, x1, x2, e1, e2, lg_eq0, eq_true c, p1, zN_le_t, zN_le_f]
    · rw [if_neg c] at p1
      simp (disch := omega) only [↓reduceIte, ↓shl_ap, shb_ap, shv_ap, zI_lit, zL_lit, nI_z, lN_z, ofN_z, zI_add, zI_sub, zI_mul, zI_neg, zL_add, zL_sub, zL_mul, zL_neg, zI_l, zI_cl, zI_le_t, zI_le_f, zI_lt_t, zI_lt_f, zI_eq_t, zI_eq_f, zI_in_t, zz_isIn_t, zz_isIn_f, not_true_eq_false, not_false_eq_true, true_or, or_true, false_or, or_false, true_and, and_true, false_and, and_false, Nat.reduceLeDiff, Int.reduceAdd, Int.reduceSub, Int.reduceMul, Int.reduceNeg, Int.reduceToNat, Nat.reduceAdd, Nat.reduceMul, Nat.reduceSub, Int.toNat_natCast, e0, x1, x2, e1, e2, lg_eq0, eq_false c, p1, zN_le_t, zN_le_f]
  · rw [show eo 20 a b = if a < b then a else b from rfl] at p1
    rw [show sg_m 20 = 10 from rfl]
    have hab : (if a < b then a else b) = a * b := by
      obtain ⟨q1, q2⟩ := h3 (by omega)
      rcases q1 with rfl | rfl
      · rcases q2 with rfl | rfl <;> rfl
      · rcases q2 with rfl | rfl <;> rfl
    rw [hab] at p1
    simp (disch := omega) only [↓reduceIte, ↓shl_ap, shb_ap, shv_ap, zI_lit, zL_lit, nI_z, lN_z, ofN_z, zI_add, zI_sub, zI_mul, zI_neg, zL_add, zL_sub, zL_mul, zL_neg, zI_l, zI_cl, zI_le_t, zI_le_f, zI_lt_t, zI_lt_f, zI_eq_t, zI_eq_f, zI_in_t, zz_isIn_t, zz_isIn_f, not_true_eq_false, not_false_eq_true, true_or, or_true, false_or, or_false, true_and, and_true, false_and, and_false, Nat.reduceLeDiff, Int.reduceAdd, Int.reduceSub, Int.reduceMul, Int.reduceNeg, Int.reduceToNat, Nat.reduceAdd, Nat.reduceMul, Nat.reduceSub, Int.toNat_natCast, e0, x1, x2, e1, e2, p1, zN_le_t, zN_le_f]
  · rw [show eo 21 a b = if b < a then a else b from rfl] at p1
    rw [show sg_m 21 = 11 from rfl]
    obtain ⟨q1, q2⟩ := h3 (by omega)
    by_cases c : a + b ≤ 0
    · rw [show (if b < a then a else b) = 0 by split <;> omega] at p1
      simp (disch := omega) only [↓reduceIte, ↓shl_ap, shb_ap, shv_ap, zI_lit, zL_lit, nI_z, lN_z, ofN_z, zI_add, zI_sub, zI_mul, zI_neg, zL_add, zL_sub, zL_mul, zL_neg, zI_l, zI_cl, zI_le_t, zI_le_f, zI_lt_t, zI_lt_f, zI_eq_t, zI_eq_f, zI_in_t, zz_isIn_t, zz_isIn_f, not_true_eq_false, not_false_eq_true, true_or, or_true, false_or, or_false, true_and, and_true, false_and, and_false, Nat.reduceLeDiff, Int.reduceAdd, Int.reduceSub, Int.reduceMul, Int.reduceNeg, Int.reduceToNat, Nat.reduceAdd, Nat.reduceMul, Nat.reduceSub, Int.toNat_natCast, e0, x1, x2, e1, e2, lg_le0, eq_true c, p1, zN_le_t, zN_le_f]
    · rw [show (if b < a then a else b) = 1 by split <;> omega] at p1
      simp (disch := omega) only [↓reduceIte, ↓shl_ap, shb_ap, shv_ap, zI_lit, zL_lit, nI_z, lN_z, ofN_z, zI_add, zI_sub, zI_mul, zI_neg, zL_add, zL_sub, zL_mul, zL_neg, zI_l, zI_cl, zI_le_t, zI_le_f, zI_lt_t, zI_lt_f, zI_eq_t, zI_eq_f, zI_in_t, zz_isIn_t, zz_isIn_f, not_true_eq_false, not_false_eq_true, true_or, or_true, false_or, or_false, true_and, and_true, false_and, and_false, Nat.reduceLeDiff, Int.reduceAdd, Int.reduceSub, Int.reduceMul, Int.reduceNeg, Int.reduceToNat, Nat.reduceAdd, Nat.reduceMul, Nat.reduceSub, Int.toNat_natCast, e0, x1, x2, e1, e2, lg_le0, eq_false c, p1, zN_le_t, zN_le_f]
theorem sgm_fact {t : Nat} (h : t < 9) : sg_m t = 40 + t := by
  have ht : t = 0 ∨ t = 1 ∨ t = 2 ∨ t = 3 ∨ t = 4 ∨ t = 5 ∨ t = 6 ∨ t = 7 ∨ t = 8 := by omega
  rcases ht with rfl | rfl | rfl | rfl | rfl | rfl | rfl | rfl | rfl <;> rfl
theorem sgm_num {t : Nat} (h : 100 ≤ t) : sg_m t = 900 + t := if_pos h
theorem sgm_two {t : Nat} (h1 : 11 ≤ t) (h2 : t ≤ 21) : sg_m t = (t : Int) - 10 := by
  rcases sg_two h1 h2 with rfl | rfl | rfl | rfl | rfl | rfl | rfl | rfl | rfl | rfl | rfl <;> rfl
/-- one sign -/
theorem rf_c1 {F : Nat → Int} {K W : Int → Int} {kd t : Nat} {B B' : List Bool} {s : List Int} {μ : sh_Mem} {k fu i n : Nat} (hkd : kd < 2) (h : sg_st kd t B B') (hs : es B s) (hB : B.length ≤ 60) (hk : rk μ s) (hk3 : k < 3) (h1 : sh_i μ 328 (3 + k) = zI n) (hn : n ≤ 1600) (hi : i < n) (e : sh_i μ 329 (1600 + i) = zI (sg_m t))
    (h2 : ∀ t : Nat, t < 9 → sg_may kd t → f_X12_qPartOf (zI t) (sh_i μ 291 54) μ = some (zL (F t), μ)) :
    ∃ μ', F_X12_codesTell (fu + 1) 1 (zI k) (zI i) μ = F_X12_codesTell fu 1 (zI k) (zI (i + 1 : Nat)) μ' ∧ rk μ' (e1 F K W t s) ∧ sh_fr rN μ μ' := by
  have hl := es_len hs
  have hx : (3 + (k : Int)).toNat = 3 + k := by omega
  have hy : (1600 + (i : Int)).toNat = 1600 + i := by omega
  rw [F_X12_codesTell]
  rcases sg_st_rng h with q | q | ⟨q, q2, B, rfl⟩ | q | ⟨q, B, rfl⟩ | q
  · obtain ⟨μ', p1, p2, p3⟩ := rf_puts (v := (t : Int) - 100) hk (by omega)
    rw [e1_num q.1]
    refine ⟨μ', ?_, p2, p3⟩
    rw [sgm_num q.1] at e
    simp (disch := omega) only [↓reduceIte, ↓shl_ap, shb_ap, shv_ap, zI_lit, zL_lit, nI_z, lN_z, ofN_z, zI_add, zI_sub, zI_mul, zI_neg, zL_add, zL_sub, zL_mul, zL_neg, zI_l, zI_cl, zI_le_t, zI_le_f, zI_lt_t, zI_lt_f, zI_eq_t, zI_eq_f, zI_in_t, zz_isIn_t, zz_isIn_f, not_true_eq_false, not_false_eq_true, true_or, or_true, false_or, or_false, true_and, and_true, false_and, and_false, Nat.reduceLeDiff, Int.reduceAdd, Int.reduceSub, Int.reduceMul, Int.reduceNeg, Int.reduceToNat, Nat.reduceAdd, Nat.reduceMul, Nat.reduceSub, Int.toNat_natCast, hx, hy, h1, e, show (900 + (t : Int) - 1000) = (t : Int) - 100 by omega, p1, zN_le_t, zN_le_f]
    rfl
  · obtain ⟨μ', p1, p2, p3⟩ := rf_puts (v := F t) hk (by omega)
    rw [e1_fact q.1]
    refine ⟨μ', ?_, p2, p3⟩
    rw [sgm_fact q.1] at e
    simp (disch := omega) only [↓reduceIte, ↓shl_ap, shb_ap, shv_ap, zI_lit, zL_lit, nI_z, lN_z, ofN_z, zI_add, zI_sub, zI_mul, zI_neg, zL_add, zL_sub, zL_mul, zL_neg, zI_l, zI_cl, zI_le_t, zI_le_f, zI_lt_t, zI_lt_f, zI_eq_t, zI_eq_f, zI_in_t, zz_isIn_t, zz_isIn_f, not_true_eq_false, not_false_eq_true, true_or, or_true, false_or, or_false, true_and, and_true, false_and, and_false, Nat.reduceLeDiff, Int.reduceAdd, Int.reduceSub, Int.reduceMul, Int.reduceNeg, Int.reduceToNat, Nat.reduceAdd, Nat.reduceMul, Nat.reduceSub, Int.toNat_natCast, hx, hy, h1, e, show (40 + (t : Int) - 40) = (t : Int) by omega, h2 t q.1 q.2, p1, zN_le_t, zN_le_f]
    rfl
  · omega
  · obtain ⟨x, y, B, z, rfl, rfl, hxy⟩ := sg_st_two h q.1 q.2
    obtain ⟨b, r', rfl, h4, h5, h6⟩ := es_pop hs
    obtain ⟨a, r, rfl, h7, h8, h9⟩ := es_pop h6
    have hl3 : r.length + 1 + 1 = B.length + 1 + 1 := hl
    have hB3 : B.length + 1 + 1 ≤ 60 := hB
    obtain ⟨μ', p1, p2, p3⟩ := rf_joins q.1 q.2 h7 h4 (fun z => ⟨h8 (hxy z).2, h5 (hxy z).1⟩) hk (by omega)
    rw [e1_two q.1 q.2]
    refine ⟨μ', ?_, p2, p3⟩
    rw [sgm_two q.1 q.2] at e p1
    simp (disch := omega) only [↓reduceIte, ↓shl_ap, shb_ap, shv_ap, zI_lit, zL_lit, nI_z, lN_z, ofN_z, zI_add, zI_sub, zI_mul, zI_neg, zL_add, zL_sub, zL_mul, zL_neg, zI_l, zI_cl, zI_le_t, zI_le_f, zI_lt_t, zI_lt_f, zI_eq_t, zI_eq_f, zI_in_t, zz_isIn_t, zz_isIn_f, not_true_eq_false, not_false_eq_true, true_or, or_true, false_or, or_false, true_and, and_true, false_and, and_false, Nat.reduceLeDiff, Int.reduceAdd, Int.reduceSub, Int.reduceMul, Int.reduceNeg, Int.reduceToNat, Nat.reduceAdd, Nat.reduceMul, Nat.reduceSub, Int.toNat_natCast, hx, hy, h1, e, p1, zN_le_t, zN_le_f]
    rfl
  · obtain ⟨a, r, rfl, h4, h5, h6⟩ := es_pop hs
    subst q
    have hl3 : r.length + 1 = B.length + 1 := hl
    have hB3 : B.length + 1 ≤ 60 := hB
    have e0 : sh_i μ 291 109 = zI ((r.length : Int) + 1) := hk.1
    have e2 : sh_l μ 366 r.length = zL a := hk.2.1
    rw [e1_not]
    refine ⟨sh_setL μ 366 r.length (zL (1 - a)), ?_, ⟨hk.1, sk_set hk.2.2⟩, sh_fr_L sh_fr.rf (Or.inl rfl)⟩
    rw [show sg_m 22 = 12 from rfl] at e
    simp (disch := omega) only [↓reduceIte, ↓shl_ap, shb_ap, shv_ap, zI_lit, zL_lit, nI_z, lN_z, ofN_z, zI_add, zI_sub, zI_mul, zI_neg, zL_add, zL_sub, zL_mul, zL_neg, zI_l, zI_cl, zI_le_t, zI_le_f, zI_lt_t, zI_lt_f, zI_eq_t, zI_eq_f, zI_in_t, zz_isIn_t, zz_isIn_f, not_true_eq_false, not_false_eq_true, true_or, or_true, false_or, or_false, true_and, and_true, false_and, and_false, Nat.reduceLeDiff, Int.reduceAdd, Int.reduceSub, Int.reduceMul, Int.reduceNeg, Int.reduceToNat, Nat.reduceAdd, Nat.reduceMul, Nat.reduceSub, Int.toNat_natCast, hx, hy, h1, e, e0, show ((r.length : Int) + 1 - 1) = r.length by omega, e2, zN_le_t, zN_le_f]
    rfl
  · subst q
    obtain ⟨μ', p1, p2, p3⟩ := rf_puts (v := 1) hk (by omega)
    rw [e1_all]
    refine ⟨μ', ?_, p2, p3⟩
    rw [show sg_m 23 = 13 from rfl] at e
    simp (disch := omega) only [↓reduceIte, ↓shl_ap, shb_ap, shv_ap, zI_lit, zL_lit, nI_z, lN_z, ofN_z, zI_add, zI_sub, zI_mul, zI_neg, zL_add, zL_sub, zL_mul, zL_neg, zI_l, zI_cl, zI_le_t, zI_le_f, zI_lt_t, zI_lt_f, zI_eq_t, zI_eq_f, zI_in_t, zz_isIn_t, zz_isIn_f, not_true_eq_false, not_false_eq_true, true_or, or_true, false_or, or_false, true_and, and_true, false_and, and_false, Nat.reduceLeDiff, Int.reduceAdd, Int.reduceSub, Int.reduceMul, Int.reduceNeg, Int.reduceToNat, Nat.reduceAdd, Nat.reduceMul, Nat.reduceSub, Int.toNat_natCast, hx, hy, h1, e, p1, zN_le_t, zN_le_f]
    rfl
theorem rf_val {F : Nat → Int} {K W : Int → Int} {kd : Nat} {res : Bool} {k n : Nat} (hkd : kd < 2) (hF : ∀ t, t < 9 → ein (F t)) (hK : ∀ a, ein (K a)) (hW : ∀ a, ein (W a)) (hk3 : k < 3) (hn : n ≤ 1600) : ∀ (l : List Nat) (i fu : Nat) (B : List Bool) (s : List Int) (μ : sh_Mem), sg_ok kd res l B → es B s → B.length ≤ 60 → rk μ s → i + l.length = n → l.length < fu → sh_i μ 328 (3 + k) = zI n → (∀ j, j < l.length → sh_i μ 329 (1600 + i + j) = zI (sg_m (l.getD j 0))) →
    (∀ t : Nat, t < 9 → sg_may kd t → ∀ μ', sh_fr rN μ μ' → f_X12_qPartOf (zI t) (sh_i μ' 291 54) μ' = some (zL (F t), μ')) →
    ∃ (v : Int) (μ' : sh_Mem), F_X12_codesTell fu 1 (zI k) (zI i) μ = some (zL v, μ') ∧ ev F K W l s = [v] ∧ es [res] [v] ∧ sh_fr rN μ μ' := by
  have hx : (3 + (k : Int)).toNat = 3 + k := by omega
  intro l
  induction l with
  | nil =>
    intro i fu B s μ hok hs hB hk hi hf h1 hc h2
    obtain ⟨fu, rfl⟩ : ∃ q, fu = q + 1 := ⟨fu - 1, by have : 0 < fu := hf; omega⟩
    have hB2 : B = [res] := hok
    subst hB2
    obtain ⟨v, r, rfl, h4, h5, h6⟩ := es_pop hs
    have hr : r = [] := by
      cases r with
      | nil => rfl
      | cons a b => exact h6.elim
    subst hr
    have hi : i = n := hi
    refine ⟨v, μ, ?_, rfl, hs, sh_fr.rf⟩
    rw [F_X12_codesTell]
    simp (disch := omega) only [↓reduceIte, ↓shl_ap, shb_ap, shv_ap, zI_lit, zL_lit, nI_z, lN_z, ofN_z, zI_add, zI_sub, zI_mul, zI_neg, zL_add, zL_sub, zL_mul, zL_neg, zI_l, zI_cl, zI_le_t, zI_le_f, zI_lt_t, zI_lt_f, zI_eq_t, zI_eq_f, zI_in_t, zz_isIn_t, zz_isIn_f, not_true_eq_false, not_false_eq_true, true_or, or_true, false_or, or_false, true_and, and_true, false_and, and_false, Nat.reduceLeDiff, Int.reduceAdd, Int.reduceSub, Int.reduceMul, Int.reduceNeg, Int.reduceToNat, Nat.reduceAdd, Nat.reduceMul, Nat.reduceSub, Int.toNat_natCast, hx, h1, sk_0 hk.2, zN_le_t, zN_le_f]
  | cons t l ih =>
    intro i fu B s μ hok hs hB hk hi hf h1 hc h2
    have hlen : (t :: l).length = l.length + 1 := rfl
    obtain ⟨fu, rfl⟩ : ∃ q, fu = q + 1 := ⟨fu - 1, by omega⟩
    obtain ⟨B', b1, b2, b3⟩ := hok
    have hc0 : sh_i μ 329 (1600 + i) = zI (sg_m t) := hc 0 (by omega)
    obtain ⟨μ1, c1, c2, c3⟩ := rf_c1 (K := K) (W := W) (fu := fu) hkd b1 hs hB hk hk3 h1 hn (by omega) hc0 (fun t ht hm => h2 t ht hm μ sh_fr.rf)
    have n1 : ∀ r k, ¬ r = 366 → ¬ r = 291 → sh_i μ1 r k = sh_i μ r k := fun r k q1 q2 => c3.i r k (fun z => by unfold rN at z; omega)
    obtain ⟨v', μ', d1, d2, d3, d4⟩ := ih (i + 1) fu B' (e1 F K W t s) μ1 b3 (e1_ty hF hK hW b1 hs) b2 c2 (by omega) (by omega) (by rw [n1 _ _ (by omega) (by omega)]; exact h1) (fun j hj => by rw [n1 _ _ (by omega) (by omega), show 1600 + (i + 1) + j = 1600 + i + (j + 1) by omega]; exact hc (j + 1) (by omega)) (fun t ht hm μ' hf => h2 t ht hm μ' (c3.trans hf))
    exact ⟨v', μ', c1.trans d1, d2, d3, c3.trans d4⟩
def rN2 (r k : Nat) : Prop := r = 366 ∨ (r = 291 ∧ (k = 51 ∨ k = 109))
theorem rf_codes {F : Nat → Int} {K W : Int → Int} {kd : Nat} {res : Bool} {k : Nat} {l : List Nat} {μ : sh_Mem} (hkd : kd < 2) (hF : ∀ t, t < 9 → ein (F t)) (hK : ∀ a, ein (K a)) (hW : ∀ a, ein (W a)) (hk3 : k < 3) (hok : sg_ok kd res l []) (hm : sm_mF μ k true l) (h2 : ∀ t : Nat, t < 9 → sg_may kd t → ∀ μ', sh_fr rN2 μ μ' → f_X12_qPartOf (zI t) (sh_i μ' 291 54) μ' = some (zL (F t), μ')) :
    ∃ (v : Int) (μ' : sh_Mem), f_X12_codesTell (zI k) μ = some (zL v, μ') ∧ ev F K W l [] = [v] ∧ es [res] [v] ∧ sh_fr rN2 μ μ' := by
  unfold sm_mF at hm
  rw [if_neg (by decide)] at hm
  obtain ⟨a, b, m1, m2, m3, m4, m5, m6⟩ := hm
  rw [nI_z] at m4 m5
  have hx : (3 + (k : Int)).toNat = 3 + k := by omega
  have hz : sh_fr rN2 μ (sh_setI (sh_setI μ 291 51 (zI (if k = 0 then 1 else 0))) 291 109 (zI 0)) := sh_fr_I (sh_fr_I sh_fr.rf (by unfold rN2; omega)) (by unfold rN2; omega)
  have n1 : ∀ r k', ¬ r = 291 → sh_i (sh_setI (sh_setI μ 291 51 (zI (if k = 0 then 1 else 0))) 291 109 (zI 0)) r k' = sh_i μ r k' := fun r k' q => by rw [ir_set_r q, ir_set_r q]
  obtain ⟨v, μ', d1, d2, d3, d4⟩ := rf_val (K := K) (W := W) (k := k) (n := b) hkd hF hK hW hk3 m2 l a sh_fuel [] [] (sh_setI (sh_setI μ 291 51 (zI (if k = 0 then 1 else 0))) 291 109 (zI 0)) hok trivial (by show 0 ≤ 60; omega) ⟨ir_set, trivial⟩ (by omega) (by rw [sh_fuel_eq]; omega) (by rw [n1 _ _ (by omega)]; exact m5) (fun j hj => by rw [n1 _ _ (by omega)]; exact m6 j hj) (fun t ht hm μ' hf => h2 t ht hm μ' (hz.trans (hf.mono (fun r k q => by unfold rN at q; unfold rN2; omega))))
  refine ⟨v, μ', ?_, d2, d3, hz.trans (d4.mono (fun r k q => by unfold rN at q; unfold rN2; omega))⟩
  unfold f_X12_codesTell
  by_cases c : k = 0
  · subst c
    rw [if_pos rfl] at d1
    simp (disch := omega) only [↓reduceIte, ↓shl_ap, shb_ap, shv_ap, zI_lit, zL_lit, nI_z, lN_z, ofN_z, zI_add, zI_sub, zI_mul, zI_neg, zL_add, zL_sub, zL_mul, zL_neg, zI_l, zI_cl, zI_le_t, zI_le_f, zI_lt_t, zI_lt_f, zI_eq_t, zI_eq_f, zI_in_t, zz_isIn_t, zz_isIn_f, not_true_eq_false, not_false_eq_true, true_or, or_true, false_or, or_false, true_and, and_true, false_and, and_false, Nat.reduceLeDiff, Int.reduceAdd, Int.reduceSub, Int.reduceMul, Int.reduceNeg, Int.reduceToNat, Nat.reduceAdd, Nat.reduceMul, Nat.reduceSub, Int.toNat_natCast, m4, ir_set_r, hx, zN_le_t, zN_le_f]
    exact d1
  · rw [if_neg c] at d1
    simp (disch := omega) only [↓reduceIte, ↓shl_ap, shb_ap, shv_ap, zI_lit, zL_lit, nI_z, lN_z, ofN_z, zI_add, zI_sub, zI_mul, zI_neg, zL_add, zL_sub, zL_mul, zL_neg, zI_l, zI_cl, zI_le_t, zI_le_f, zI_lt_t, zI_lt_f, zI_eq_t, zI_eq_f, zI_in_t, zz_isIn_t, zz_isIn_f, not_true_eq_false, not_false_eq_true, true_or, or_true, false_or, or_false, true_and, and_true, false_and, and_false, Nat.reduceLeDiff, Int.reduceAdd, Int.reduceSub, Int.reduceMul, Int.reduceNeg, Int.reduceToNat, Nat.reduceAdd, Nat.reduceMul, Nat.reduceSub, Int.toNat_natCast, m4, ir_set_r, hx, zN_le_t, zN_le_f]
    exact d1
/-! how many bits -/
def pc (n : Nat) : Nat := n % 2 + n / 2 % 2 + n / 4 % 2 + n / 8 % 2 + n / 16 % 2 + n / 32 % 2 + n / 64 % 2
def bcx (a1 : Int32) : Int32 :=
  let x1 := a1 - ((a1.toUInt32 >>> (Int32.toUInt32 1 &&& Int32.toUInt32 31)).toInt32 &&& 1431655765)
  let x2 := (x1 &&& 858993459) + ((x1.toUInt32 >>> (Int32.toUInt32 2 &&& Int32.toUInt32 31)).toInt32 &&& 858993459)
  let x3 := (x2 + (x2.toUInt32 >>> (Int32.toUInt32 4 &&& Int32.toUInt32 31)).toInt32) &&& 252645135
  let x4 := x3 + (x3.toUInt32 >>> (Int32.toUInt32 8 &&& Int32.toUInt32 31)).toInt32
  let x5 := x4 + (x4.toUInt32 >>> (Int32.toUInt32 16 &&& Int32.toUInt32 31)).toInt32
  x5 &&& 63
theorem cl_bits {μ : sh_Mem} {k : Nat} (hk : k < 128) : f_J6_bitCount_0f7a4 (zI k) μ = some (zI (pc k), μ) := by
  have h : ∀ k : Nat, k < 128 → bcx (zI k) = zI (pc k) := by decide +kernel
  rw [← h k hk]
  rfl
theorem pc_le {n : Nat} : pc n ≤ 7 := by unfold pc; omega
theorem rf_bits1 {μ : sh_Mem} {i0 : Int32} : ∀ (n k c fu : Nat), k ≤ n → k < 128 → n < fu → F_X12_bits fu 1 i0 (zI c) (zI k) μ = some (zI (c + pc k : Nat), μ) := by
  have s1 : ∀ k : Nat, k < 128 → ¬ k = 0 → (zI k &&& zI ((k : Int) - 1)) = zI (k &&& (k - 1) : Nat) := by decide +kernel
  have s2 : ∀ k : Nat, k < 128 → ¬ k = 0 → pc k = pc (k &&& (k - 1)) + 1 := by decide +kernel
  have s3 : ∀ k : Nat, k < 128 → ¬ k = 0 → (k &&& (k - 1)) < k := by decide +kernel
  intro n
  induction n with
  | zero =>
    intro k c fu hk h1 h2
    obtain ⟨fu, rfl⟩ : ∃ q, fu = q + 1 := ⟨fu - 1, by omega⟩
    have : k = 0 := by omega
    subst this
    rw [F_X12_bits]
    rfl
  | succ n ih =>
    intro k c fu hk h1 h2
    obtain ⟨fu, rfl⟩ : ∃ q, fu = q + 1 := ⟨fu - 1, by omega⟩
    by_cases h0 : k = 0
    · subst h0
      rw [F_X12_bits]
      rfl
    · have h3 := s3 k h1 h0
      have := ih (k &&& (k - 1)) (c + 1) fu (by omega) (by omega) (by omega)
      rw [s2 k h1 h0, F_X12_bits]
      simp (disch := omega) only [↓reduceIte, ↓shl_ap, shb_ap, shv_ap, zI_lit, zL_lit, nI_z, lN_z, ofN_z, zI_add, zI_sub, zI_mul, zI_neg, zL_add, zL_sub, zL_mul, zL_neg, zI_l, zI_cl, zI_le_t, zI_le_f, zI_lt_t, zI_lt_f, zI_eq_t, zI_eq_f, zI_in_t, zz_isIn_t, zz_isIn_f, not_true_eq_false, not_false_eq_true, true_or, or_true, false_or, or_false, true_and, and_true, false_and, and_false, Nat.reduceLeDiff, Int.reduceAdd, Int.reduceSub, Int.reduceMul, Int.reduceNeg, Int.reduceToNat, Nat.reduceAdd, Nat.reduceMul, Nat.reduceSub, Int.toNat_natCast, zN_le_t, zN_le_f]
      rw [s1 k h1 h0, show c + (pc (k &&& (k - 1)) + 1) = c + 1 + pc (k &&& (k - 1)) by omega]
      exact this
theorem rf_bits {μ : sh_Mem} {k : Nat} (hk : k < 128) : f_X12_bits (zI k) μ = some (zI (pc k), μ) := by
  have := rf_bits1 (μ := μ) (i0 := zI k) 127 k 0 sh_fuel (by omega) hk (by rw [sh_fuel_eq]; omega)
  rw [Nat.zero_add] at this
  exact this
