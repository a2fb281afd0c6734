/-! feed -/
theorem zI_and31 {s : Int} (h : 0 ≤ s ∧ s < 32) : zI s &&& zI 31 = zI s := by
  obtain ⟨n, rfl⟩ := Int.eq_ofNat_of_zero_le h.1
  have : ∀ n : Nat, n < 32 → zI n &&& zI 31 = zI n := by decide +kernel
  exact this n (by omega)
theorem zI_and255 (x : Int32) : ∃ b : Nat, b < 256 ∧ x &&& zI 255 = nI b := by
  refine ⟨(x.toBitVec &&& 255#32).toNat, ?_, ?_⟩
  · rw [BitVec.toNat_and]
    exact Nat.lt_of_le_of_lt Nat.and_le_right (by decide)
  · apply Int32.toBitVec_inj.mp
    rw [Int32.toBitVec_and]
    show x.toBitVec &&& 255#32 = BitVec.ofNat 32 _
    rw [BitVec.ofNat_toNat, BitVec.setWidth_eq]
/-- byte j of a number -/
def bt (x : Int32) (j : Nat) : Int32 := (x >>> zI (8 * (3 - (j : Int)))) &&& zI 255
theorem cl_app1 {μ : sh_Mem} {n f : Nat} {x : Int32} {j : Nat} (hj : j < 4) (e : sh_i μ 0 1 = zI n) (hn : n < 1600) : F_X11_append (f + 1) 1 x (zI (8 * (3 - (j : Int)))) μ = F_X11_append f 1 x (zI (8 * (3 - ((j + 1 : Nat) : Int)))) (sh_setI (sh_setI μ 1 n (bt x j)) 0 1 (zI (n + 1 : Nat))) := by
  rw [F_X11_append]
  simp (disch := omega) only [↓reduceIte, ↓shl_ap, shb_ap, shv_ap, zI_lit, zL_lit, nI_z, lN_z, ofN_z, zI_add, zI_sub, zI_mul, zI_neg, zL_add, zL_sub, zL_mul, zL_neg, zI_l, zI_cl, zI_le_t, zI_le_f, zI_lt_t, zI_lt_f, zI_eq_t, zI_eq_f, zI_in_t, zz_isIn_t, zz_isIn_f, not_true_eq_false, not_false_eq_true, true_or, or_true, false_or, or_false, true_and, and_true, false_and, and_false, ir_set, ir_set_k, ir_set_r, ir_row, ir_row_r, sh_i_setL, sh_i_setR, sh_r_setI, sh_r_setL, sh_r_rowI, sh_l_setI, sh_l_rowI, lr_set, lr_set_k, lr_set_r, Nat.reduceLeDiff, Int.reduceAdd, Int.reduceSub, Int.reduceMul, Int.reduceNeg, Int.reduceToNat, Nat.reduceAdd, Nat.reduceMul, Nat.reduceSub, Int.toNat_natCast, e, zI_and31, bt]
  congr 2
  omega
theorem cl_app {μ : sh_Mem} {n : Nat} {x : Int32} (e : sh_i μ 0 1 = zI n) (hn : n + 4 ≤ 1600) : ∃ μ', f_X11_append x μ = some μ' ∧ sh_i μ' 0 1 = zI (n + 4 : Nat) ∧ (∀ j, j < 4 → sh_i μ' 1 (n + j) = bt x j) ∧ (∀ j, ¬ (n ≤ j ∧ j < n + 4) → sh_i μ' 1 j = sh_i μ 1 j) ∧ sh_fr (fun r k => r = 1 ∨ (r = 0 ∧ k = 1)) μ μ' := by
  obtain ⟨f, hf⟩ : ∃ f, sh_fuel = f + 5 := ⟨999995, sh_fuel_eq⟩
  unfold f_X11_append
  rw [hf, show (24 : Int32) = zI (8 * (3 - ((0 : Nat) : Int))) from rfl]
  have h0 := cl_app1 (f := f + 4) (x := x) (j := 0) (by omega) e (by omega)
  have h1 := cl_app1 (f := f + 3) (x := x) (j := 1) (by omega) (ir_set (μ := sh_setI μ 1 n (bt x 0)) (r := 0) (k := 1) (x := zI (n + 1 : Nat))) (by omega)
  have h2 := cl_app1 (f := f + 2) (x := x) (j := 2) (by omega) (ir_set (μ := sh_setI (sh_setI (sh_setI μ 1 n (bt x 0)) 0 1 (zI (n + 1 : Nat))) 1 (n + 1) (bt x 1)) (r := 0) (k := 1) (x := zI (n + 1 + 1 : Nat))) (by omega)
  have h3 := cl_app1 (f := f + 1) (x := x) (j := 3) (by omega) (ir_set (μ := sh_setI (sh_setI (sh_setI (sh_setI (sh_setI μ 1 n (bt x 0)) 0 1 (zI (n + 1 : Nat))) 1 (n + 1) (bt x 1)) 0 1 (zI (n + 1 + 1 : Nat))) 1 (n + 1 + 1) (bt x 2)) (r := 0) (k := 1) (x := zI (n + 1 + 1 + 1 : Nat))) (by omega)
  have h4 : ∀ m : sh_Mem, F_X11_append (f + 1) 1 x (zI (8 * (3 - ((3 + 1 : Nat) : Int)))) m = some m := fun m => by
    rw [F_X11_append]; simp (disch := omega) only [↓reduceIte, ↓shl_ap, shb_ap, shv_ap, zI_lit, zL_lit, nI_z, lN_z, ofN_z, zI_add, zI_sub, zI_mul, zI_neg, zL_add, zL_sub, zL_mul, zL_neg, zI_l, zI_cl, zI_le_t, zI_le_f, zI_lt_t, zI_lt_f, zI_eq_t, zI_eq_f, zI_in_t, zz_isIn_t, zz_isIn_f, not_true_eq_false, not_false_eq_true, true_or, or_true, false_or, or_false, true_and, and_true, false_and, and_false, Nat.reduceLeDiff, Int.reduceAdd, Int.reduceSub, Int.reduceMul, Int.reduceNeg, Int.reduceToNat, Nat.reduceAdd, Nat.reduceMul, Nat.reduceSub, Int.toNat_natCast]
  refine ⟨_, h0.trans (h1.trans (h2.trans (h3.trans (h4 _)))), ?_, ?_, ?_, ?_⟩
  · exact ir_set
  · intro j hj
    have hq : j = 0 ∨ j = 1 ∨ j = 2 ∨ j = 3 := by omega
    rcases hq with rfl | rfl | rfl | rfl
    · simp (disch := omega) only [↓reduceIte, ↓shl_ap, shb_ap, shv_ap, zI_lit, zL_lit, nI_z, lN_z, ofN_z, zI_add, zI_sub, zI_mul, zI_neg, zL_add, zL_sub, zL_mul, zL_neg, zI_l, zI_cl, zI_le_t, zI_le_f, zI_lt_t, zI_lt_f, zI_eq_t, zI_eq_f, zI_in_t, zz_isIn_t, zz_isIn_f, not_true_eq_false, not_false_eq_true, true_or, or_true, false_or, or_false, true_and, and_true, false_and, and_false, ir_set, ir_set_k, ir_set_r, ir_row, ir_row_r, sh_i_setL, sh_i_setR, sh_r_setI, sh_r_setL, sh_r_rowI, sh_l_setI, sh_l_rowI, lr_set, lr_set_k, lr_set_r, Nat.reduceLeDiff, Int.reduceAdd, Int.reduceSub, Int.reduceMul, Int.reduceNeg, Int.reduceToNat, Nat.reduceAdd, Nat.reduceMul, Nat.reduceSub, Int.toNat_natCast, Nat.add_zero]
    · simp (disch := omega) only [↓reduceIte, ↓shl_ap, shb_ap, shv_ap, zI_lit, zL_lit, nI_z, lN_z, ofN_z, zI_add, zI_sub, zI_mul, zI_neg, zL_add, zL_sub, zL_mul, zL_neg, zI_l, zI_cl, zI_le_t, zI_le_f, zI_lt_t, zI_lt_f, zI_eq_t, zI_eq_f, zI_in_t, zz_isIn_t, zz_isIn_f, not_true_eq_false, not_false_eq_true, true_or, or_true, false_or, or_false, true_and, and_true, false_and, and_false, ir_set, ir_set_k, ir_set_r, ir_row, ir_row_r, sh_i_setL, sh_i_setR, sh_r_setI, sh_r_setL, sh_r_rowI, sh_l_setI, sh_l_rowI, lr_set, lr_set_k, lr_set_r, Nat.reduceLeDiff, Int.reduceAdd, Int.reduceSub, Int.reduceMul, Int.reduceNeg, Int.reduceToNat, Nat.reduceAdd, Nat.reduceMul, Nat.reduceSub, Int.toNat_natCast]
    · simp (disch := omega) only [↓reduceIte, ↓shl_ap, shb_ap, shv_ap, zI_lit, zL_lit, nI_z, lN_z, ofN_z, zI_add, zI_sub, zI_mul, zI_neg, zL_add, zL_sub, zL_mul, zL_neg, zI_l, zI_cl, zI_le_t, zI_le_f, zI_lt_t, zI_lt_f, zI_eq_t, zI_eq_f, zI_in_t, zz_isIn_t, zz_isIn_f, not_true_eq_false, not_false_eq_true, true_or, or_true, false_or, or_false, true_and, and_true, false_and, and_false, ir_set, ir_set_k, ir_set_r, ir_row, ir_row_r, sh_i_setL, sh_i_setR, sh_r_setI, sh_r_setL, sh_r_rowI, sh_l_setI, sh_l_rowI, lr_set, lr_set_k, lr_set_r, Nat.reduceLeDiff, Int.reduceAdd, Int.reduceSub, Int.reduceMul, Int.reduceNeg, Int.reduceToNat, Nat.reduceAdd, Nat.reduceMul, Nat.reduceSub, Int.toNat_natCast]
    · simp (disch := omega) only [↓reduceIte, ↓shl_ap, shb_ap, shv_ap, zI_lit, zL_lit, nI_z, lN_z, ofN_z, zI_add, zI_sub, zI_mul, zI_neg, zL_add, zL_sub, zL_mul, zL_neg, zI_l, zI_cl, zI_le_t, zI_le_f, zI_lt_t, zI_lt_f, zI_eq_t, zI_eq_f, zI_in_t, zz_isIn_t, zz_isIn_f, not_true_eq_false, not_false_eq_true, true_or, or_true, false_or, or_false, true_and, and_true, false_and, and_false, ir_set, ir_set_k, ir_set_r, ir_row, ir_row_r, sh_i_setL, sh_i_setR, sh_r_setI, sh_r_setL, sh_r_rowI, sh_l_setI, sh_l_rowI, lr_set, lr_set_k, lr_set_r, Nat.reduceLeDiff, Int.reduceAdd, Int.reduceSub, Int.reduceMul, Int.reduceNeg, Int.reduceToNat, Nat.reduceAdd, Nat.reduceMul, Nat.reduceSub, Int.toNat_natCast]
  · intro j hj
    simp (disch := omega) only [↓reduceIte, ↓shl_ap, shb_ap, shv_ap, zI_lit, zL_lit, nI_z, lN_z, ofN_z, zI_add, zI_sub, zI_mul, zI_neg, zL_add, zL_sub, zL_mul, zL_neg, zI_l, zI_cl, zI_le_t, zI_le_f, zI_lt_t, zI_lt_f, zI_eq_t, zI_eq_f, zI_in_t, zz_isIn_t, zz_isIn_f, not_true_eq_false, not_false_eq_true, true_or, or_true, false_or, or_false, true_and, and_true, false_and, and_false, ir_set, ir_set_k, ir_set_r, ir_row, ir_row_r, sh_i_setL, sh_i_setR, sh_r_setI, sh_r_setL, sh_r_rowI, sh_l_setI, sh_l_rowI, lr_set, lr_set_k, lr_set_r, Nat.reduceLeDiff, Int.reduceAdd, Int.reduceSub, Int.reduceMul, Int.reduceNeg, Int.reduceToNat, Nat.reduceAdd, Nat.reduceMul, Nat.reduceSub, Int.toNat_natCast]
  · exact sh_fr_I (sh_fr_I (sh_fr_I (sh_fr_I (sh_fr_I (sh_fr_I (sh_fr_I (sh_fr_I sh_fr.rf (by omega)) (by omega)) (by omega)) (by omega)) (by omega)) (by omega)) (by omega)) (by omega)
/-- the five numbers of one call -/
def fw (b1 b2 b3 b4 b5 : Int32) (j : Nat) : Int32 := if j < 4 then b1 else if j < 8 then b2 else if j < 12 then b3 else if j < 16 then b4 else b5
theorem cl_feed {μ : sh_Mem} {n : Nat} {b1 b2 b3 b4 b5 : Int32} (e : sh_i μ 0 1 = zI n) (hn : n + 20 ≤ 1600) : ∃ μ', f_X11_feed b1 b2 b3 b4 b5 μ = some (zI (n + 20 : Nat), μ') ∧ sh_i μ' 0 1 = zI (n + 20 : Nat) ∧ (∀ j, j < 20 → sh_i μ' 1 (n + j) = bt (fw b1 b2 b3 b4 b5 j) (j % 4)) ∧ (∀ j, ¬ (n ≤ j ∧ j < n + 20) → sh_i μ' 1 j = sh_i μ 1 j) ∧ sh_fr (fun r k => r = 1 ∨ (r = 0 ∧ k = 1)) μ μ' := by
  obtain ⟨m1, a1, e1, u1, v1, f1⟩ := cl_app (x := b1) e (by omega)
  obtain ⟨m2, a2, e2, u2, v2, f2⟩ := cl_app (x := b2) e1 (by omega)
  obtain ⟨m3, a3, e3, u3, v3, f3⟩ := cl_app (x := b3) e2 (by omega)
  obtain ⟨m4, a4, e4, u4, v4, f4⟩ := cl_app (x := b4) e3 (by omega)
  obtain ⟨m5, a5, e5, u5, v5, f5⟩ := cl_app (x := b5) e4 (by omega)
  have hs : n + 4 + 4 + 4 + 4 + 4 = n + 20 := by omega
  rw [hs] at e5
  refine ⟨m5, ?_, e5, ?_, ?_, f1.trans (f2.trans (f3.trans (f4.trans f5)))⟩
  · unfold f_X11_feed
    simp (disch := omega) only [↓reduceIte, ↓shl_ap, shb_ap, shv_ap, zI_lit, zL_lit, nI_z, lN_z, ofN_z, zI_add, zI_sub, zI_mul, zI_neg, zL_add, zL_sub, zL_mul, zL_neg, zI_l, zI_cl, zI_le_t, zI_le_f, zI_lt_t, zI_lt_f, zI_eq_t, zI_eq_f, zI_in_t, zz_isIn_t, zz_isIn_f, not_true_eq_false, not_false_eq_true, true_or, or_true, false_or, or_false, true_and, and_true, false_and, and_false, Nat.reduceLeDiff, Int.reduceAdd, Int.reduceSub, Int.reduceMul, Int.reduceNeg, Int.reduceToNat, Nat.reduceAdd, Nat.reduceMul, Nat.reduceSub, Int.toNat_natCast, e, a1, a2, a3, a4, a5, e5]
  · intro j hj
    unfold fw
    by_cases q1 : j < 4
    · rw [if_pos q1, v5 _ (by omega), v4 _ (by omega), v3 _ (by omega), v2 _ (by omega), u1 j q1, show j % 4 = j by omega]
    · by_cases q2 : j < 8
      · rw [if_neg q1, if_pos q2, v5 _ (by omega), v4 _ (by omega), v3 _ (by omega), show n + j = n + 4 + (j - 4) by omega, u2 _ (by omega), show j % 4 = j - 4 by omega]
      · by_cases q3 : j < 12
        · rw [if_neg q1, if_neg q2, if_pos q3, v5 _ (by omega), v4 _ (by omega), show n + j = n + 4 + 4 + (j - 8) by omega, u3 _ (by omega), show j % 4 = j - 8 by omega]
        · by_cases q4 : j < 16
          · rw [if_neg q1, if_neg q2, if_neg q3, if_pos q4, v5 _ (by omega), show n + j = n + 4 + 4 + 4 + (j - 12) by omega, u4 _ (by omega), show j % 4 = j - 12 by omega]
          · rw [if_neg q1, if_neg q2, if_neg q3, if_neg q4, show n + j = n + 4 + 4 + 4 + 4 + (j - 16) by omega, u5 _ (by omega), show j % 4 = j - 16 by omega]
  · intro j hj
    rw [v5 _ (by omega), v4 _ (by omega), v3 _ (by omega), v2 _ (by omega), v1 _ (by omega)]
theorem rf_feed1 {μ : sh_Mem} {n i f : Nat} {b1 b2 b3 b4 b5 : Int32} (hi : i < 20) (e : sh_i μ 291 1 = zI (n + i : Nat)) (hn : n + 20 ≤ 1600) : F_X12_feed (f + 1) 1 b1 b2 b3 b4 b5 (zI i) μ = F_X12_feed f 1 b1 b2 b3 b4 b5 (zI (i + 1 : Nat)) (sh_setI (sh_setI μ 292 (n + i) (bt (fw b1 b2 b3 b4 b5 i) (i % 4))) 291 1 (zI (n + i + 1 : Nat))) := by
  rw [F_X12_feed]
  have hm : (i : Int) - (i : Int) / 4 * 4 = ((i % 4 : Nat) : Int) := by omega
  have q : i < 4 ∨ (4 ≤ i ∧ i < 8) ∨ (8 ≤ i ∧ i < 12) ∨ (12 ≤ i ∧ i < 16) ∨ 16 ≤ i := by omega
  rcases q with q | q | q | q | q
  · rw [show fw b1 b2 b3 b4 b5 i = b1 by unfold fw; rw [if_pos (by omega)]]
    simp (disch := omega) only [↓reduceIte, ↓shl_ap, shb_ap, shv_ap, zI_lit, zL_lit, nI_z, lN_z, ofN_z, zI_add, zI_sub, zI_mul, zI_neg, zL_add, zL_sub, zL_mul, zL_neg, zI_l, zI_cl, zI_le_t, zI_le_f, zI_lt_t, zI_lt_f, zI_eq_t, zI_eq_f, zI_in_t, zz_isIn_t, zz_isIn_f, not_true_eq_false, not_false_eq_true, true_or, or_true, false_or, or_false, true_and, and_true, false_and, and_false, ir_set, ir_set_k, ir_set_r, ir_row, ir_row_r, sh_i_setL, sh_i_setR, sh_r_setI, sh_r_setL, sh_r_rowI, sh_l_setI, sh_l_rowI, lr_set, lr_set_k, lr_set_r, Nat.reduceLeDiff, Int.reduceAdd, Int.reduceSub, Int.reduceMul, Int.reduceNeg, Int.reduceToNat, Nat.reduceAdd, Nat.reduceMul, Nat.reduceSub, Int.toNat_natCast, e, zI_and31, bt, zI_div, hm]
    rfl
  · rw [show fw b1 b2 b3 b4 b5 i = b2 by unfold fw; rw [if_neg (by omega), if_pos (by omega)]]
    simp (disch := omega) only [↓reduceIte, ↓shl_ap, shb_ap, shv_ap, zI_lit, zL_lit, nI_z, lN_z, ofN_z, zI_add, zI_sub, zI_mul, zI_neg, zL_add, zL_sub, zL_mul, zL_neg, zI_l, zI_cl, zI_le_t, zI_le_f, zI_lt_t, zI_lt_f, zI_eq_t, zI_eq_f, zI_in_t, zz_isIn_t, zz_isIn_f, not_true_eq_false, not_false_eq_true, true_or, or_true, false_or, or_false, true_and, and_true, false_and, and_false, ir_set, ir_set_k, ir_set_r, ir_row, ir_row_r, sh_i_setL, sh_i_setR, sh_r_setI, sh_r_setL, sh_r_rowI, sh_l_setI, sh_l_rowI, lr_set, lr_set_k, lr_set_r, Nat.reduceLeDiff, Int.reduceAdd, Int.reduceSub, Int.reduceMul, Int.reduceNeg, Int.reduceToNat, Nat.reduceAdd, Nat.reduceMul, Nat.reduceSub, Int.toNat_natCast, e, zI_and31, bt, zI_div, hm]
    rfl
  · rw [show fw b1 b2 b3 b4 b5 i = b3 by unfold fw; rw [if_neg (by omega), if_neg (by omega), if_pos (by omega)]]
    simp (disch := omega) only [↓reduceIte, ↓shl_ap, shb_ap, shv_ap, zI_lit, zL_lit, nI_z, lN_z, ofN_z, zI_add, zI_sub, zI_mul, zI_neg, zL_add, zL_sub, zL_mul, zL_neg, zI_l, zI_cl, zI_le_t, zI_le_f, zI_lt_t, zI_lt_f, zI_eq_t, zI_eq_f, zI_in_t, zz_isIn_t, zz_isIn_f, not_true_eq_false, not_false_eq_true, true_or, or_true, false_or, or_false, true_and, and_true, false_and, and_false, ir_set, ir_set_k, ir_set_r, ir_row, ir_row_r, sh_i_setL, sh_i_setR, sh_r_setI, sh_r_setL, sh_r_rowI, sh_l_setI, sh_l_rowI, lr_set, lr_set_k, lr_set_r, Nat.reduceLeDiff, Int.reduceAdd, Int.reduceSub, Int.reduceMul, Int.reduceNeg, Int.reduceToNat, Nat.reduceAdd, Nat.reduceMul, Nat.reduceSub, Int.toNat_natCast, e, zI_and31, bt, zI_div, hm]
    rfl
  · rw [show fw b1 b2 b3 b4 b5 i = b4 by unfold fw; rw [if_neg (by omega), if_neg (by omega), if_neg (by omega), if_pos (by omega)]]
    simp (disch := omega) only [↓reduceIte, ↓shl_ap, shb_ap, shv_ap, zI_lit, zL_lit, nI_z, lN_z, ofN_z, zI_add, zI_sub, zI_mul, zI_neg, zL_add, zL_sub, zL_mul, zL_neg, zI_l, zI_cl, zI_le_t, zI_le_f, zI_lt_t, zI_lt_f, zI_eq_t, zI_eq_f, zI_in_t, zz_isIn_t, zz_isIn_f, not_true_eq_false, not_false_eq_true, true_or, or_true, false_or, or_false, true_and, and_true, false_and, and_false, ir_set, ir_set_k, ir_set_r, ir_row, ir_row_r, sh_i_setL, sh_i_setR, sh_r_setI, sh_r_setL, sh_r_rowI, sh_l_setI, sh_l_rowI, lr_set, lr_set_k, lr_set_r, Nat.reduceLeDiff, Int.reduceAdd, Int.reduceSub, Int.reduceMul, Int.reduceNeg, Int.reduceToNat, Nat.reduceAdd, Nat.reduceMul, Nat.reduceSub, Int.toNat_natCast, e, zI_and31, bt, zI_div, hm]
    rfl
  · rw [show fw b1 b2 b3 b4 b5 i = b5 by unfold fw; rw [if_neg (by omega), if_neg (by omega), if_neg (by omega), if_neg (by omega)]]
    simp (disch := omega) only [↓reduceIte, ↓shl_ap, shb_ap, shv_ap, zI_lit, zL_lit, nI_z, lN_z, ofN_z, zI_add, zI_sub, zI_mul, zI_neg, zL_add, zL_sub, zL_mul, zL_neg, zI_l, zI_cl, zI_le_t, zI_le_f, zI_lt_t, zI_lt_f, zI_eq_t, zI_eq_f, zI_in_t, zz_isIn_t, zz_isIn_f, not_true_eq_false, not_false_eq_true, true_or, or_true, false_or, or_false, true_and, and_true, false_and, and_false, ir_set, ir_set_k, ir_set_r, ir_row, ir_row_r, sh_i_setL, sh_i_setR, sh_r_setI, sh_r_setL, sh_r_rowI, sh_l_setI, sh_l_rowI, lr_set, lr_set_k, lr_set_r, Nat.reduceLeDiff, Int.reduceAdd, Int.reduceSub, Int.reduceMul, Int.reduceNeg, Int.reduceToNat, Nat.reduceAdd, Nat.reduceMul, Nat.reduceSub, Int.toNat_natCast, e, zI_and31, bt, zI_div, hm]
    rfl
theorem rf_feed2 {b1 b2 b3 b4 b5 : Int32} {n : Nat} (hn : n + 20 ≤ 1600) : ∀ (g f i : Nat) (μ : sh_Mem), i + g = 20 → g < f → sh_i μ 291 1 = zI (n + i : Nat) → ∃ μ', F_X12_feed f 1 b1 b2 b3 b4 b5 (zI i) μ = some (zI (n + 20 : Nat), μ') ∧ sh_i μ' 291 1 = zI (n + 20 : Nat) ∧ (∀ j, i ≤ j → j < 20 → sh_i μ' 292 (n + j) = bt (fw b1 b2 b3 b4 b5 j) (j % 4)) ∧ (∀ j, ¬ (n + i ≤ j ∧ j < n + 20) → sh_i μ' 292 j = sh_i μ 292 j) ∧ sh_fr (fun r k => r = 292 ∨ (r = 291 ∧ k = 1)) μ μ' := by
  intro g
  induction g with
  | zero =>
    intro f i μ hi hf e
    obtain ⟨f, rfl⟩ : ∃ q, f = q + 1 := ⟨f - 1, by omega⟩
    have hi : i = 20 := by omega
    subst hi
    refine ⟨μ, ?_, e, fun j h1 h2 => by omega, fun j _ => rfl, sh_fr.rf⟩
    rw [F_X12_feed]
    simp (disch := omega) only [↓reduceIte, ↓shl_ap, shb_ap, shv_ap, zI_lit, zL_lit, nI_z, lN_z, ofN_z, zI_add, zI_sub, zI_mul, zI_neg, zL_add, zL_sub, zL_mul, zL_neg, zI_l, zI_cl, zI_le_t, zI_le_f, zI_lt_t, zI_lt_f, zI_eq_t, zI_eq_f, zI_in_t, zz_isIn_t, zz_isIn_f, not_true_eq_false, not_false_eq_true, true_or, or_true, false_or, or_false, true_and, and_true, false_and, and_false, Nat.reduceLeDiff, Int.reduceAdd, Int.reduceSub, Int.reduceMul, Int.reduceNeg, Int.reduceToNat, Nat.reduceAdd, Nat.reduceMul, Nat.reduceSub, Int.toNat_natCast, e]
  | succ g ih =>
    intro f i μ hi hf e
    obtain ⟨f, rfl⟩ : ∃ q, f = q + 1 := ⟨f - 1, by omega⟩
    obtain ⟨μ', a, b, c, d, k⟩ := ih f (i + 1) (sh_setI (sh_setI μ 292 (n + i) (bt (fw b1 b2 b3 b4 b5 i) (i % 4))) 291 1 (zI (n + i + 1 : Nat))) (by omega) (by omega) ir_set
    refine ⟨μ', (rf_feed1 (by omega) e hn).trans a, b, fun j h1 h2 => ?_, fun j hj => ?_, (sh_fr_I (sh_fr_I sh_fr.rf (by omega)) (by omega)).trans k⟩
    · by_cases q : j = i
      · subst q
        rw [d _ (by omega), ir_set_r (by omega), ir_set]
      · exact c j (by omega) h2
    · rw [d _ (by omega), ir_set_r (by omega), ir_set_k (by omega)]
theorem pr_0 : ∀ (μ : sh_Mem) (b1 b2 b3 b4 b5 : Int32), Sim μ → ∃ (v : Int32) (μ1 μ2 : sh_Mem), f_X11_feed b1 b2 b3 b4 b5 μ = some (v, μ1) ∧ f_X12_feed b1 b2 b3 b4 b5 μ1 = some (v, μ2) ∧ Sim μ2 := by
  intro μ b1 b2 b3 b4 b5 h
  obtain ⟨n, hn, e1, e2, e3⟩ := h.2.1
  rw [nI_z] at e1 e2
  by_cases c : n + 20 ≤ 1600
  · obtain ⟨μ1, a1, a2, a3, a4, a5⟩ := cl_feed (b1 := b1) (b2 := b2) (b3 := b3) (b4 := b4) (b5 := b5) e1 c
    obtain ⟨μ2, c1, c2, c3, c4, c5⟩ := rf_feed2 (b1 := b1) (b2 := b2) (b3 := b3) (b4 := b4) (b5 := b5) c 20 sh_fuel 0 μ1 (by omega) (by rw [sh_fuel_eq]; omega) (by rw [a5.i _ _ (by omega)]; exact e2)
    have c1' : f_X12_feed b1 b2 b3 b4 b5 μ1 = some (zI (n + 20 : Nat), μ2) := by
      unfold f_X12_feed
      simp (disch := omega) only [↓reduceIte, ↓shl_ap, shb_ap, shv_ap, zI_lit, zL_lit, nI_z, lN_z, ofN_z, zI_add, zI_sub, zI_mul, zI_neg, zL_add, zL_sub, zL_mul, zL_neg, zI_l, zI_cl, zI_le_t, zI_le_f, zI_lt_t, zI_lt_f, zI_eq_t, zI_eq_f, zI_in_t, zz_isIn_t, zz_isIn_f, not_true_eq_false, not_false_eq_true, true_or, or_true, false_or, or_false, true_and, and_true, false_and, and_false, Nat.reduceLeDiff, Int.reduceAdd, Int.reduceSub, Int.reduceMul, Int.reduceNeg, Int.reduceToNat, Nat.reduceAdd, Nat.reduceMul, Nat.reduceSub, Int.toNat_natCast, a5.i 291 1 (by omega), e2]
      exact c1
    refine ⟨_, _, _, a1, c1', ?_⟩
    have G2 := gp_X12_feed (gp_X11_feed h.1 a1) c1'
    have hf : sh_fr (fun r k => r = 1 ∨ (r = 0 ∧ k = 1) ∨ r = 292 ∨ (r = 291 ∧ k = 1)) μ μ2 := (a5.mono (fun r k q => by omega)).trans (c5.mono (fun r k q => by omega))
    obtain ⟨g1, g2, g3, g4, g5, g6, t, P, L, g7⟩ := h
    refine ⟨G2, ⟨n + 20, c, ?_, c2, fun j hj => ?_⟩, g3.cg (hf.i _ _ (by omega)) (hf.i _ _ (by omega)) (hf.i _ _ (by omega)) (hf.i _ _ (by omega)), g4.cg (hf.row _ (fun k => by omega)) (hf.row _ (fun k => by omega)), g5.cg (hf.2 _ _ (by omega)).2 (hf.2 _ _ (by omega)).2, g6.cg (hf.i _ _ (by omega)) (hf.i _ _ (by omega)) (hf.row _ (fun k => by omega)) (hf.row _ (fun k => by omega)), t, P, L, g7.cg hf.1 (fun r k q => hf.i _ _ (by unfold sm_S at q; omega)) (hf.lrow _ (fun k => by omega))⟩
    · rw [nI_z, c5.i _ _ (by omega)]; exact a2
    · rw [c5.row 1 (fun k => by omega)]
      by_cases q : n ≤ j ∧ j < n + 20
      · obtain ⟨i, rfl⟩ : ∃ i, j = n + i := ⟨j - n, by omega⟩
        rw [a3 i (by omega), c3 i (by omega) (by omega)]
        exact ⟨rfl, zI_and255 _⟩
      · rw [a4 j q, c4 j (by omega), a5.row 292 (fun k => by omega)]
        exact e3 j hj
  · have e : f_X11_refuseNumber 0 μ = _ := cl_refuseN (k := 0) (by omega)
    refine ⟨zI (-1), sh_setI μ 290 0 (sh_i μ 290 0 + 1), _, ?_, ?_, h.bump (k := 0) (by omega)⟩
    · unfold f_X11_feed
      rw [e]; simp (disch := omega) only [↓reduceIte, ↓shl_ap, shb_ap, shv_ap, zI_lit, zL_lit, nI_z, lN_z, ofN_z, zI_add, zI_sub, zI_mul, zI_neg, zL_add, zL_sub, zL_mul, zL_neg, zI_l, zI_cl, zI_le_t, zI_le_f, zI_lt_t, zI_lt_f, zI_eq_t, zI_eq_f, zI_in_t, zz_isIn_t, zz_isIn_f, not_true_eq_false, not_false_eq_true, true_or, or_true, false_or, or_false, true_and, and_true, false_and, and_false, Nat.reduceLeDiff, Int.reduceAdd, Int.reduceSub, Int.reduceMul, Int.reduceNeg, Int.reduceToNat, Nat.reduceAdd, Nat.reduceMul, Nat.reduceSub, Int.toNat_natCast, e1]
    · unfold f_X12_feed
      simp (disch := omega) only [↓reduceIte, ↓shl_ap, shb_ap, shv_ap, zI_lit, zL_lit, nI_z, lN_z, ofN_z, zI_add, zI_sub, zI_mul, zI_neg, zL_add, zL_sub, zL_mul, zL_neg, zI_l, zI_cl, zI_le_t, zI_le_f, zI_lt_t, zI_lt_f, zI_eq_t, zI_eq_f, zI_in_t, zz_isIn_t, zz_isIn_f, not_true_eq_false, not_false_eq_true, true_or, or_true, false_or, or_false, true_and, and_true, false_and, and_false, ir_set, ir_set_k, ir_set_r, ir_row, ir_row_r, sh_i_setL, sh_i_setR, sh_r_setI, sh_r_setL, sh_r_rowI, sh_l_setI, sh_l_rowI, lr_set, lr_set_k, lr_set_r, Nat.reduceLeDiff, Int.reduceAdd, Int.reduceSub, Int.reduceMul, Int.reduceNeg, Int.reduceToNat, Nat.reduceAdd, Nat.reduceMul, Nat.reduceSub, Int.toNat_natCast, e2]
