/-! neighbours; pond -/
def nb (P : sp_T) (k d : Nat) : Option Nat :=
  if d = 0 then (if 0 < k / sp_c P then some ((k / sp_c P - 1) * sp_c P + k % sp_c P) else none)
  else if d = 1 then (if 0 < k % sp_c P then some (k / sp_c P * sp_c P + (k % sp_c P - 1)) else none)
  else if d = 2 then (if k % sp_c P + 1 < sp_c P then some (k / sp_c P * sp_c P + (k % sp_c P + 1)) else none)
  else (if k / sp_c P + 1 < sp_r P then some ((k / sp_c P + 1) * sp_c P + k % sp_c P) else none)
def nz : Option Nat → Int
  | none => -1
  | some j => (j : Int)
theorem nz_n : nz none = -1 := rfl
theorem nz_s {j : Nat} : nz (some j) = (j : Int) := rfl
theorem bz_n {P : sp_T} : bz P none = -1 := rfl
theorem bz_s {P : sp_T} {j : Nat} : bz P (some j) = (ro P j : Int) := rfl
section Wy
variable {μ : sh_Mem} {t : Nat} {P : sp_T} {L : sl_T} {k d : Nat}
theorem ro_mk {x y : Nat} (hx : x < sp_c P) : ro P (y * sp_c P + x) = x + 7 * y := by
  have h0 : 0 < sp_c P := by omega
  unfold ro
  rw [Nat.mul_comm, Nat.mul_add_mod, Nat.mod_eq_of_lt hx, Nat.mul_add_div h0, Nat.div_eq_of_lt hx, Nat.add_zero]
theorem nb_lt (hk : sp_ok P) (h : k < sp_c P * sp_r P) {j : Nat} (e : nb P k d = some j) : j < sp_c P * sp_r P := by
  obtain ⟨d1, d2, d3⟩ := sp_div h
  unfold nb at e
  split at e
  · split at e
    · cases e; exact sp_cell hk d1 (by omega)
    · cases e
  · split at e
    · split at e
      · cases e; exact sp_cell hk (by omega) d2
      · cases e
    · split at e
      · split at e
        · cases e; exact sp_cell hk (by omega) d2
        · cases e
      · split at e
        · cases e; exact sp_cell hk d1 (by omega)
        · cases e
theorem cl_next (hP : sm_cP μ t P) (hk : sp_ok P) (h : k < sp_c P * sp_r P) (hd : d < 4) : f_X5_nextTo t (zI k) (zI d) μ = some (zI (nz (nb P k d)), μ) := by
  have hb := sp_bd hk
  have hcs := sp_cells hk
  obtain ⟨d1, d2, d3⟩ := sp_div h
  have e := hP.1
  rw [nI_z] at e
  have hcel := cl_cells hP
  have hc0 : 0 < sp_c P := by omega
  have hm : ((k : Int) - (k : Int) / (sp_c P : Int) * (sp_c P : Int)) = ((k % sp_c P : Nat) : Int) := by
    have := Int.emod_add_mul_ediv (k : Int) (sp_c P : Int)
    rw [Int.mul_comm] at this
    push_cast
    omega
  unfold f_X5_nextTo
  rw [e]
  generalize hx : k % sp_c P = x at *
  generalize hy : k / sp_c P = y at *
  have hkk : (k : Int) = (y : Int) * sp_c P + x := by
    rw [← d3]; push_cast; rfl
  have q : d = 0 ∨ d = 1 ∨ d = 2 ∨ d = 3 := by omega
  rcases q with rfl | rfl | rfl | rfl
  · unfold nb
    rw [if_pos (show (0 : Nat) = 0 from rfl), hx, hy]
    by_cases c : 0 < y
    · obtain ⟨y', rfl⟩ : ∃ y', y = y' + 1 := ⟨y - 1, by omega⟩
      rw [Nat.succ_mul] at d3
      rw [if_pos c]
      simp (disch := omega) only [↓reduceIte, ↓shl_ap, shb_ap, shv_ap, zI_lit, zL_lit, nI_z, lN_z, ofN_z, zI_add, zI_sub, zI_mul, zI_neg, zL_add, zL_sub, zL_mul, zL_neg, zI_l, zI_cl, zI_le_t, zI_le_f, zI_lt_t, zI_lt_f, zI_eq_t, zI_eq_f, zI_in_t, zz_isIn_t, zz_isIn_f, not_true_eq_false, not_false_eq_true, true_or, or_true, false_or, or_false, true_and, and_true, false_and, and_false, Nat.reduceLeDiff, Int.reduceAdd, Int.reduceSub, Int.reduceMul, Int.reduceNeg, Int.reduceToNat, Nat.reduceAdd, Nat.reduceMul, Nat.reduceSub, Int.toNat_natCast, zI_div, hm, zN_le_t, zN_le_f]
      rw [show nz (some ((y' + 1 - 1) * sp_c P + x)) = (k : Int) - sp_c P by show (((y' + 1 - 1) * sp_c P + x : Nat) : Int) = _; rw [Nat.add_sub_cancel]; omega]
    · have hy0 : y = 0 := by omega
      subst hy0
      rw [Nat.zero_mul] at d3
      rw [if_neg c]
      simp (disch := omega) only [↓reduceIte, ↓shl_ap, shb_ap, shv_ap, zI_lit, zL_lit, nI_z, lN_z, ofN_z, zI_add, zI_sub, zI_mul, zI_neg, zL_add, zL_sub, zL_mul, zL_neg, zI_l, zI_cl, zI_le_t, zI_le_f, zI_lt_t, zI_lt_f, zI_eq_t, zI_eq_f, zI_in_t, zz_isIn_t, zz_isIn_f, not_true_eq_false, not_false_eq_true, true_or, or_true, false_or, or_false, true_and, and_true, false_and, and_false, Nat.reduceLeDiff, Int.reduceAdd, Int.reduceSub, Int.reduceMul, Int.reduceNeg, Int.reduceToNat, Nat.reduceAdd, Nat.reduceMul, Nat.reduceSub, Int.toNat_natCast, zI_div, hm, zN_le_t, zN_le_f]
      rfl
  · unfold nb
    rw [if_neg (show ¬ (1 : Nat) = 0 by omega), if_pos (show (1 : Nat) = 1 from rfl), hx, hy]
    by_cases c : 0 < x
    · rw [if_pos c]
      simp (disch := omega) only [↓reduceIte, ↓shl_ap, shb_ap, shv_ap, zI_lit, zL_lit, nI_z, lN_z, ofN_z, zI_add, zI_sub, zI_mul, zI_neg, zL_add, zL_sub, zL_mul, zL_neg, zI_l, zI_cl, zI_le_t, zI_le_f, zI_lt_t, zI_lt_f, zI_eq_t, zI_eq_f, zI_in_t, zz_isIn_t, zz_isIn_f, not_true_eq_false, not_false_eq_true, true_or, or_true, false_or, or_false, true_and, and_true, false_and, and_false, Nat.reduceLeDiff, Int.reduceAdd, Int.reduceSub, Int.reduceMul, Int.reduceNeg, Int.reduceToNat, Nat.reduceAdd, Nat.reduceMul, Nat.reduceSub, Int.toNat_natCast, zI_div, hm, zN_le_t, zN_le_f]
      rw [show nz (some (y * sp_c P + (x - 1))) = (k : Int) - 1 by show ((y * sp_c P + (x - 1) : Nat) : Int) = _; omega]
    · rw [if_neg c]
      simp (disch := omega) only [↓reduceIte, ↓shl_ap, shb_ap, shv_ap, zI_lit, zL_lit, nI_z, lN_z, ofN_z, zI_add, zI_sub, zI_mul, zI_neg, zL_add, zL_sub, zL_mul, zL_neg, zI_l, zI_cl, zI_le_t, zI_le_f, zI_lt_t, zI_lt_f, zI_eq_t, zI_eq_f, zI_in_t, zz_isIn_t, zz_isIn_f, not_true_eq_false, not_false_eq_true, true_or, or_true, false_or, or_false, true_and, and_true, false_and, and_false, Nat.reduceLeDiff, Int.reduceAdd, Int.reduceSub, Int.reduceMul, Int.reduceNeg, Int.reduceToNat, Nat.reduceAdd, Nat.reduceMul, Nat.reduceSub, Int.toNat_natCast, zI_div, hm, zN_le_t, zN_le_f]
      rfl
  · unfold nb
    rw [if_neg (show ¬ (2 : Nat) = 0 by omega), if_neg (show ¬ (2 : Nat) = 1 by omega), if_pos (show (2 : Nat) = 2 from rfl), hx, hy]
    by_cases c : x + 1 < sp_c P
    · rw [if_pos c]
      simp (disch := omega) only [↓reduceIte, ↓shl_ap, shb_ap, shv_ap, zI_lit, zL_lit, nI_z, lN_z, ofN_z, zI_add, zI_sub, zI_mul, zI_neg, zL_add, zL_sub, zL_mul, zL_neg, zI_l, zI_cl, zI_le_t, zI_le_f, zI_lt_t, zI_lt_f, zI_eq_t, zI_eq_f, zI_in_t, zz_isIn_t, zz_isIn_f, not_true_eq_false, not_false_eq_true, true_or, or_true, false_or, or_false, true_and, and_true, false_and, and_false, Nat.reduceLeDiff, Int.reduceAdd, Int.reduceSub, Int.reduceMul, Int.reduceNeg, Int.reduceToNat, Nat.reduceAdd, Nat.reduceMul, Nat.reduceSub, Int.toNat_natCast, zI_div, hm, zN_le_t, zN_le_f]
      rw [show nz (some (y * sp_c P + (x + 1))) = (k : Int) + 1 by show ((y * sp_c P + (x + 1) : Nat) : Int) = _; omega]
    · rw [if_neg c]
      simp (disch := omega) only [↓reduceIte, ↓shl_ap, shb_ap, shv_ap, zI_lit, zL_lit, nI_z, lN_z, ofN_z, zI_add, zI_sub, zI_mul, zI_neg, zL_add, zL_sub, zL_mul, zL_neg, zI_l, zI_cl, zI_le_t, zI_le_f, zI_lt_t, zI_lt_f, zI_eq_t, zI_eq_f, zI_in_t, zz_isIn_t, zz_isIn_f, not_true_eq_false, not_false_eq_true, true_or, or_true, false_or, or_false, true_and, and_true, false_and, and_false, Nat.reduceLeDiff, Int.reduceAdd, Int.reduceSub, Int.reduceMul, Int.reduceNeg, Int.reduceToNat, Nat.reduceAdd, Nat.reduceMul, Nat.reduceSub, Int.toNat_natCast, zI_div, hm, zN_le_t, zN_le_f]
      rfl
  · unfold nb
    rw [if_neg (show ¬ (3 : Nat) = 0 by omega), if_neg (show ¬ (3 : Nat) = 1 by omega), if_neg (show ¬ (3 : Nat) = 2 by omega), hx, hy, hcel]
    by_cases c : y + 1 < sp_r P
    · have h2 := sp_cell (P := P) (x := x) (y := y + 1) hk d1 c
      have h3 := h2
      rw [Nat.succ_mul] at h2
      rw [if_pos c]
      simp (disch := omega) only [↓reduceIte, ↓shl_ap, shb_ap, shv_ap, zI_lit, zL_lit, nI_z, lN_z, ofN_z, zI_add, zI_sub, zI_mul, zI_neg, zL_add, zL_sub, zL_mul, zL_neg, zI_l, zI_cl, zI_le_t, zI_le_f, zI_lt_t, zI_lt_f, zI_eq_t, zI_eq_f, zI_in_t, zz_isIn_t, zz_isIn_f, not_true_eq_false, not_false_eq_true, true_or, or_true, false_or, or_false, true_and, and_true, false_and, and_false, Nat.reduceLeDiff, Int.reduceAdd, Int.reduceSub, Int.reduceMul, Int.reduceNeg, Int.reduceToNat, Nat.reduceAdd, Nat.reduceMul, Nat.reduceSub, Int.toNat_natCast, zI_div, hm, zN_le_t, zN_le_f]
      rw [show nz (some ((y + 1) * sp_c P + x)) = (k : Int) + sp_c P by show (((y + 1) * sp_c P + x : Nat) : Int) = _; rw [Nat.succ_mul]; omega]
    · have hy1 : sp_r P = y + 1 := by omega
      have h2 : sp_c P * sp_r P = y * sp_c P + sp_c P := by rw [hy1, Nat.mul_comm, Nat.succ_mul]
      rw [if_neg c]
      simp (disch := omega) only [↓reduceIte, ↓shl_ap, shb_ap, shv_ap, zI_lit, zL_lit, nI_z, lN_z, ofN_z, zI_add, zI_sub, zI_mul, zI_neg, zL_add, zL_sub, zL_mul, zL_neg, zI_l, zI_cl, zI_le_t, zI_le_f, zI_lt_t, zI_lt_f, zI_eq_t, zI_eq_f, zI_in_t, zz_isIn_t, zz_isIn_f, not_true_eq_false, not_false_eq_true, true_or, or_true, false_or, or_false, true_and, and_true, false_and, and_false, Nat.reduceLeDiff, Int.reduceAdd, Int.reduceSub, Int.reduceMul, Int.reduceNeg, Int.reduceToNat, Nat.reduceAdd, Nat.reduceMul, Nat.reduceSub, Int.toNat_natCast, zI_div, hm, zN_le_t, zN_le_f]
      rfl
theorem bsA {R x y : Nat} (hR : R < 100) (r1 : (R : Int) - (y : Int) * 7 = x) (r2 : (R : Int) / 7 = y) : zI R - zI R / 7 * 7 = zI x ∧ zI R / 7 = zI y := by
  have e : zI R / 7 = zI y := by
    rw [show (7 : Int32) = zI 7 from rfl, zI_div (by omega), r2]
  refine ⟨?_, e⟩
  rw [e, show (7 : Int32) = zI 7 from rfl, zI_mul, zI_sub, r1]
theorem bs_0 {μ : sh_Mem} {R x y : Nat} {v w : Int} (hR : R < 100) (r1 : (R : Int) - (y : Int) * 7 = x) (r2 : (R : Int) / 7 = y) (hA : f_X12_cellAt (zI ((x : Int) + 0)) (zI ((y : Int) + -1)) μ = some (zI v, μ)) (e : v = w) : f_X12_beside (zI R) (zI ((0 : Nat) : Int)) μ = some (zI w, μ) := by
  obtain ⟨a, b⟩ := bsA hR r1 r2
  have e1 : zI x + 0 = zI ((x : Int) + 0) := by rw [show (0 : Int32) = zI (0) from rfl, zI_add]
  have e2 : zI y + (-1) = zI ((y : Int) + -1) := by rw [show (-1 : Int32) = zI (-1) from rfl, zI_add]
  unfold f_X12_beside
  rw [if_neg (show ¬ zI ((0 : Nat) : Int) = 1 by decide), if_neg (show ¬ zI ((0 : Nat) : Int) = 2 by decide), shl_ap, if_pos (show zI ((0 : Nat) : Int) = 0 from rfl), shl_ap, a, b, e1, e2, hA, shb_ap, e]
theorem bs_1 {μ : sh_Mem} {R x y : Nat} {v w : Int} (hR : R < 100) (r1 : (R : Int) - (y : Int) * 7 = x) (r2 : (R : Int) / 7 = y) (hA : f_X12_cellAt (zI ((x : Int) + -1)) (zI ((y : Int) + 0)) μ = some (zI v, μ)) (e : v = w) : f_X12_beside (zI R) (zI ((1 : Nat) : Int)) μ = some (zI w, μ) := by
  obtain ⟨a, b⟩ := bsA hR r1 r2
  have e1 : zI x + (-1) = zI ((x : Int) + -1) := by rw [show (-1 : Int32) = zI (-1) from rfl, zI_add]
  have e2 : zI y + 0 = zI ((y : Int) + 0) := by rw [show (0 : Int32) = zI (0) from rfl, zI_add]
  unfold f_X12_beside
  rw [if_pos (show zI ((1 : Nat) : Int) = 1 from rfl), shl_ap, if_neg (show ¬ zI ((1 : Nat) : Int) = 0 by decide), if_neg (show ¬ zI ((1 : Nat) : Int) = 3 by decide), shl_ap, a, b, e1, e2, hA, shb_ap, e]
theorem bs_2 {μ : sh_Mem} {R x y : Nat} {v w : Int} (hR : R < 100) (r1 : (R : Int) - (y : Int) * 7 = x) (r2 : (R : Int) / 7 = y) (hA : f_X12_cellAt (zI ((x : Int) + 1)) (zI ((y : Int) + 0)) μ = some (zI v, μ)) (e : v = w) : f_X12_beside (zI R) (zI ((2 : Nat) : Int)) μ = some (zI w, μ) := by
  obtain ⟨a, b⟩ := bsA hR r1 r2
  have e1 : zI x + 1 = zI ((x : Int) + 1) := by rw [show (1 : Int32) = zI (1) from rfl, zI_add]
  have e2 : zI y + 0 = zI ((y : Int) + 0) := by rw [show (0 : Int32) = zI (0) from rfl, zI_add]
  unfold f_X12_beside
  rw [if_neg (show ¬ zI ((2 : Nat) : Int) = 1 by decide), if_pos (show zI ((2 : Nat) : Int) = 2 from rfl), shl_ap, if_neg (show ¬ zI ((2 : Nat) : Int) = 0 by decide), if_neg (show ¬ zI ((2 : Nat) : Int) = 3 by decide), shl_ap, a, b, e1, e2, hA, shb_ap, e]
theorem bs_3 {μ : sh_Mem} {R x y : Nat} {v w : Int} (hR : R < 100) (r1 : (R : Int) - (y : Int) * 7 = x) (r2 : (R : Int) / 7 = y) (hA : f_X12_cellAt (zI ((x : Int) + 0)) (zI ((y : Int) + 1)) μ = some (zI v, μ)) (e : v = w) : f_X12_beside (zI R) (zI ((3 : Nat) : Int)) μ = some (zI w, μ) := by
  obtain ⟨a, b⟩ := bsA hR r1 r2
  have e1 : zI x + 0 = zI ((x : Int) + 0) := by rw [show (0 : Int32) = zI (0) from rfl, zI_add]
  have e2 : zI y + 1 = zI ((y : Int) + 1) := by rw [show (1 : Int32) = zI (1) from rfl, zI_add]
  unfold f_X12_beside
  rw [if_neg (show ¬ zI ((3 : Nat) : Int) = 1 by decide), if_neg (show ¬ zI ((3 : Nat) : Int) = 2 by decide), shl_ap, if_neg (show ¬ zI ((3 : Nat) : Int) = 0 by decide), if_pos (show zI ((3 : Nat) : Int) = 3 from rfl), shl_ap, a, b, e1, e2, hA, shb_ap, e]
theorem rf_beside (hM : sm_mP μ P) (hk : sp_ok P) (h : k < sp_c P * sp_r P) (hd : d < 4) : f_X12_beside (zI (ro P k : Int)) (zI d) μ = some (zI (bz P (nb P k d)), μ) := by
  have hb := sp_bd hk
  have hcs := sp_cells hk
  obtain ⟨d1, d2, d3⟩ := sp_div h
  have hro := ro_lt hk h
  have r1 : (ro P k : Int) - ((k / sp_c P : Nat) : Int) * 7 = ((k % sp_c P : Nat) : Int) := by unfold ro; omega
  have r2 : (ro P k : Int) / 7 = ((k / sp_c P : Nat) : Int) := by unfold ro; omega
  have hA : ∀ a b : Int, -10 ≤ a → a < 100 → -10 ≤ b → b < 100 → f_X12_cellAt (zI a) (zI b) μ = some (zI (km P a b), μ) := fun a b q1 q2 q3 q4 => rf_cellAt hM hk (by omega) (by omega) (by omega) (by omega)
  generalize hx : k % sp_c P = x at *
  generalize hy : k / sp_c P = y at *
  have q : d = 0 ∨ d = 1 ∨ d = 2 ∨ d = 3 := by omega
  rcases q with rfl | rfl | rfl | rfl
  · unfold nb
    rw [if_pos (show (0 : Nat) = 0 from rfl), hx, hy]
    have e2 : km P ((x : Int) + 0) ((y : Int) + -1) = bz P (if 0 < y then some ((y - 1) * sp_c P + x) else none) := by
      by_cases c : 0 < y
      · rw [if_pos c, show (x : Int) + 0 = (x : Int) by omega, show (y : Int) + -1 = ((y - 1 : Nat) : Int) by omega, km_pos d1 (by omega)]
        show _ = (ro P ((y - 1) * sp_c P + x) : Int)
        rw [ro_mk d1]
      · rw [if_neg c]
        unfold km
        rw [if_neg (by omega)]
        rfl
    exact bs_0 (by omega) r1 r2 (hA _ _ (by omega) (by omega) (by omega) (by omega)) e2
  · unfold nb
    rw [if_neg (show ¬ (1 : Nat) = 0 by omega), if_pos (show (1 : Nat) = 1 from rfl), hx, hy]
    have e2 : km P ((x : Int) + -1) ((y : Int) + 0) = bz P (if 0 < x then some (y * sp_c P + (x - 1)) else none) := by
      by_cases c : 0 < x
      · rw [if_pos c, show (x : Int) + -1 = ((x - 1 : Nat) : Int) by omega, show (y : Int) + 0 = (y : Int) by omega, km_pos (by omega) d2]
        show _ = (ro P (y * sp_c P + (x - 1)) : Int)
        rw [ro_mk (by omega)]
      · rw [if_neg c]
        unfold km
        rw [if_neg (by omega)]
        rfl
    exact bs_1 (by omega) r1 r2 (hA _ _ (by omega) (by omega) (by omega) (by omega)) e2
  · unfold nb
    rw [if_neg (show ¬ (2 : Nat) = 0 by omega), if_neg (show ¬ (2 : Nat) = 1 by omega), if_pos (show (2 : Nat) = 2 from rfl), hx, hy]
    have e2 : km P ((x : Int) + 1) ((y : Int) + 0) = bz P (if x + 1 < sp_c P then some (y * sp_c P + (x + 1)) else none) := by
      by_cases c : x + 1 < sp_c P
      · rw [if_pos c, show (x : Int) + 1 = ((x + 1 : Nat) : Int) by omega, show (y : Int) + 0 = (y : Int) by omega, km_pos c d2]
        show _ = (ro P (y * sp_c P + (x + 1)) : Int)
        rw [ro_mk c]
      · rw [if_neg c]
        unfold km
        rw [if_neg (by omega)]
        rfl
    exact bs_2 (by omega) r1 r2 (hA _ _ (by omega) (by omega) (by omega) (by omega)) e2
  · unfold nb
    rw [if_neg (show ¬ (3 : Nat) = 0 by omega), if_neg (show ¬ (3 : Nat) = 1 by omega), if_neg (show ¬ (3 : Nat) = 2 by omega), hx, hy]
    have e2 : km P ((x : Int) + 0) ((y : Int) + 1) = bz P (if y + 1 < sp_r P then some ((y + 1) * sp_c P + x) else none) := by
      by_cases c : y + 1 < sp_r P
      · rw [if_pos c, show (x : Int) + 0 = (x : Int) by omega, show (y : Int) + 1 = ((y + 1 : Nat) : Int) by omega, km_pos d1 c]
        show _ = (ro P ((y + 1) * sp_c P + x) : Int)
        rw [ro_mk d1]
      · rw [if_neg c]
        unfold km
        rw [if_neg (by omega)]
        rfl
    exact bs_3 (by omega) r1 r2 (hA _ _ (by omega) (by omega) (by omega) (by omega)) e2
theorem ro_inj (hk : sp_ok P) {j k : Nat} (h1 : j < sp_c P * sp_r P) (h2 : k < sp_c P * sp_r P) (e : ro P j = ro P k) : j = k := by
  obtain ⟨a1, a2, a3⟩ := sp_div h1
  obtain ⟨b1, b2, b3⟩ := sp_div h2
  have hb := sp_bd hk
  unfold ro at e
  have e1 : j % sp_c P = k % sp_c P := by omega
  have e2 : j / sp_c P = k / sp_c P := by omega
  rw [← a3, ← b3, e1, e2]
/-- one way down -/
def lwd (P : sp_T) (h : Nat → Nat) (k b d : Nat) : Nat := match nb P k d with
  | none => b
  | some j => if h j < h b then j else b
/-- from direction d on, g of them -/
def lwg (P : sp_T) (h : Nat → Nat) (k : Nat) : Nat → Nat → Nat → Nat
  | 0, _, b => b
  | g + 1, d, b => lwg P h k g (d + 1) (lwd P h k b d)
def low (P : sp_T) (h : Nat → Nat) (k : Nat) : Nat := lwg P h k 4 0 k
theorem lwd_lt (hk : sp_ok P) {h : Nat → Nat} {b : Nat} (h1 : k < sp_c P * sp_r P) (h2 : b < sp_c P * sp_r P) : lwd P h k b d < sp_c P * sp_r P ∧ (lwd P h k b d = b ∨ h (lwd P h k b d) < h b) := by
  unfold lwd
  cases e : nb P k d with
  | none => exact ⟨h2, Or.inl rfl⟩
  | some j =>
    show (if h j < h b then j else b) < _ ∧ ((if h j < h b then j else b) = b ∨ h (if h j < h b then j else b) < h b)
    by_cases c : h j < h b
    · rw [if_pos c]; exact ⟨nb_lt hk h1 e, Or.inr c⟩
    · rw [if_neg c]; exact ⟨h2, Or.inl rfl⟩
theorem lwg_lt (hk : sp_ok P) {h : Nat → Nat} (h1 : k < sp_c P * sp_r P) : ∀ (g d b : Nat), b < sp_c P * sp_r P → lwg P h k g d b < sp_c P * sp_r P ∧ (lwg P h k g d b = b ∨ h (lwg P h k g d b) < h b)
  | 0, d, b, h2 => ⟨h2, Or.inl rfl⟩
  | g + 1, d, b, h2 => by
    obtain ⟨a1, a2⟩ := lwd_lt (d := d) (h := h) hk h1 h2
    obtain ⟨b1, b2⟩ := lwg_lt hk (h := h) h1 g (d + 1) _ a1
    refine ⟨b1, ?_⟩
    rw [lwg]
    rcases b2 with b2 | b2
    · rw [b2]; exact a2
    · rcases a2 with a2 | a2
      · rw [a2] at b2 ⊢; exact Or.inr b2
      · exact Or.inr (Nat.lt_trans b2 a2)
theorem low_lt (hk : sp_ok P) {h : Nat → Nat} (h1 : k < sp_c P * sp_r P) : low P h k < sp_c P * sp_r P ∧ (low P h k = k ∨ h (low P h k) < h k) := lwg_lt hk h1 4 0 k h1
/-- how many of the first n are lower -/
def ctl (h : Nat → Nat) (v : Nat) : Nat → Nat
  | 0 => 0
  | n + 1 => ctl h v n + (if h n < v then 1 else 0)
theorem ctl_le {h : Nat → Nat} {v v' : Nat} (hv : v' ≤ v) : ∀ n, ctl h v' n ≤ ctl h v n
  | 0 => Nat.le_refl _
  | n + 1 => by
    have := ctl_le (h := h) hv n
    rw [ctl, ctl]
    split
    · rw [if_pos (by omega)]; omega
    · omega
theorem ctl_lt {h : Nat → Nat} {v v' : Nat} (hv : v' ≤ v) : ∀ n j, j < n → h j < v → ¬ h j < v' → ctl h v' n < ctl h v n
  | 0, j, hj, _, _ => by omega
  | n + 1, j, hj, h1, h2 => by
    have h3 := ctl_le (h := h) hv n
    rw [ctl, ctl]
    by_cases c : j = n
    · subst c
      rw [if_neg h2, if_pos h1]
      omega
    · have := ctl_lt hv n j (by omega) h1 h2
      by_cases c2 : h n < v'
      · rw [if_pos c2, if_pos (by omega)]; omega
      · rw [if_neg c2]; omega
theorem ctl_n {h : Nat → Nat} {v : Nat} : ∀ n, ctl h v n ≤ n
  | 0 => Nat.le_refl _
  | n + 1 => by
    have := ctl_n (h := h) (v := v) n
    rw [ctl]
    split <;> omega
theorem ctl_n1 {h : Nat → Nat} {v : Nat} : ∀ n j, j < n → ¬ h j < v → ctl h v n < n
  | 0, j, hj, _ => by omega
  | n + 1, j, hj, h1 => by
    have h2 := ctl_n (h := h) (v := v) n
    rw [ctl]
    by_cases c : j = n
    · subst c
      rw [if_neg h1]; omega
    · have := ctl_n1 n j (by omega) h1
      split <;> omega
def pd (P : sp_T) (h : Nat → Nat) : Nat → Nat → Nat
  | 0, k => k
  | g + 1, k => if low P h k = k then k else pd P h g (low P h k)
theorem cl_low1 {i3 i5 : Int32} {h : Nat → Nat} (hP : sm_cP μ t P) (hk : sp_ok P) (h1 : k < sp_c P * sp_r P) (hh : ∀ j, j < sp_c P * sp_r P → sh_i μ 50 j = zI (h j) ∧ h j ≤ 99) : ∀ (g f d b : Nat), d + g = 4 → g < f → b < sp_c P * sp_r P → F_X9_lowestFrom f 2 t 49 i3 (zI k) i5 (zI b) (zI d) μ = F_X9_lowestFrom (f - g) 2 t 49 i3 (zI k) i5 (zI (lwg P h k g d b)) (zI 4) μ := by
  have hcs := sp_cells hk
  intro g
  induction g with
  | zero =>
    intro f d b hd hf hb
    have hd : d = 4 := by omega
    subst hd
    rfl
  | succ g ih =>
    intro f d b hd hf hb
    obtain ⟨f, rfl⟩ : ∃ q, f = q + 1 := ⟨f - 1, by omega⟩
    have hn := cl_next hP hk h1 (show d < 4 by omega)
    obtain ⟨b1, b2⟩ := lwd_lt (d := d) (h := h) hk h1 hb
    have hrec := ih f (d + 1) (lwd P h k b d) (by omega) (by omega) b1
    rw [lwg, show f + 1 - (g + 1) = f - g by omega, ← hrec, F_X9_lowestFrom, hn]
    unfold lwd
    obtain ⟨e1, e2⟩ := hh b hb
    cases e : nb P k d with
    | none =>
      show (if 4 ≤ zI d then _ else sh_bind (some (zI (-1), μ)) _) = F_X9_lowestFrom f 2 t 49 i3 (zI k) i5 (zI b) (zI (d + 1 : Nat)) μ
      simp (disch := omega) only [↓reduceIte, ↓shl_ap, shb_ap, shv_ap, zI_lit, zL_lit, nI_z, lN_z, ofN_z, zI_add, zI_sub, zI_mul, zI_neg, zL_add, zL_sub, zL_mul, zL_neg, zI_l, zI_cl, zI_le_t, zI_le_f, zI_lt_t, zI_lt_f, zI_eq_t, zI_eq_f, zI_in_t, zz_isIn_t, zz_isIn_f, not_true_eq_false, not_false_eq_true, true_or, or_true, false_or, or_false, true_and, and_true, false_and, and_false, Nat.reduceLeDiff, Int.reduceAdd, Int.reduceSub, Int.reduceMul, Int.reduceNeg, Int.reduceToNat, Nat.reduceAdd, Nat.reduceMul, Nat.reduceSub, Int.toNat_natCast, zN_le_t, zN_le_f]
      rfl
    | some j =>
      have hj := nb_lt hk h1 e
      obtain ⟨e3, e4⟩ := hh j hj
      show (if 4 ≤ zI d then _ else sh_bind (some (zI (j : Int), μ)) _) = F_X9_lowestFrom f 2 t 49 i3 (zI k) i5 (zI ((if h j < h b then j else b : Nat) : Int)) (zI (d + 1 : Nat)) μ
      by_cases c : h j < h b
      · rw [if_pos c]
        simp (disch := omega) only [↓reduceIte, ↓shl_ap, shb_ap, shv_ap, zI_lit, zL_lit, nI_z, lN_z, ofN_z, zI_add, zI_sub, zI_mul, zI_neg, zL_add, zL_sub, zL_mul, zL_neg, zI_l, zI_cl, zI_le_t, zI_le_f, zI_lt_t, zI_lt_f, zI_eq_t, zI_eq_f, zI_in_t, zz_isIn_t, zz_isIn_f, not_true_eq_false, not_false_eq_true, true_or, or_true, false_or, or_false, true_and, and_true, false_and, and_false, Nat.reduceLeDiff, Int.reduceAdd, Int.reduceSub, Int.reduceMul, Int.reduceNeg, Int.reduceToNat, Nat.reduceAdd, Nat.reduceMul, Nat.reduceSub, Int.toNat_natCast, e1, e3, zN_le_t, zN_le_f]
        rfl
      · rw [if_neg c]
        simp (disch := omega) only [↓reduceIte, ↓shl_ap, shb_ap, shv_ap, zI_lit, zL_lit, nI_z, lN_z, ofN_z, zI_add, zI_sub, zI_mul, zI_neg, zL_add, zL_sub, zL_mul, zL_neg, zI_l, zI_cl, zI_le_t, zI_le_f, zI_lt_t, zI_lt_f, zI_eq_t, zI_eq_f, zI_in_t, zz_isIn_t, zz_isIn_f, not_true_eq_false, not_false_eq_true, true_or, or_true, false_or, or_false, true_and, and_true, false_and, and_false, Nat.reduceLeDiff, Int.reduceAdd, Int.reduceSub, Int.reduceMul, Int.reduceNeg, Int.reduceToNat, Nat.reduceAdd, Nat.reduceMul, Nat.reduceSub, Int.toNat_natCast, e1, e3, zN_le_t, zN_le_f]
        rfl
theorem cl_pond1 {i3 i6 i7 : Int32} {h : Nat → Nat} (hP : sm_cP μ t P) (hk : sp_ok P) (hh : ∀ j, j < sp_c P * sp_r P → sh_i μ 50 j = zI (h j) ∧ h j ≤ 99) : ∀ (g f i k : Nat) (i6 i7 : Int32), i + g = 49 → 7 * g + 1 < f → k < sp_c P * sp_r P → F_X9_lowestFrom f 1 t 49 i3 (zI k) (zI i) i6 i7 μ = some (zI (pd P h g k), μ) := by
  have hcs := sp_cells hk
  intro g
  induction g with
  | zero =>
    intro f i k i6 i7 hi hf h1
    obtain ⟨f, rfl⟩ : ∃ q, f = q + 1 := ⟨f - 1, by omega⟩
    rw [F_X9_lowestFrom, pd]
    simp (disch := omega) only [↓reduceIte, ↓shl_ap, shb_ap, shv_ap, zI_lit, zL_lit, nI_z, lN_z, ofN_z, zI_add, zI_sub, zI_mul, zI_neg, zL_add, zL_sub, zL_mul, zL_neg, zI_l, zI_cl, zI_le_t, zI_le_f, zI_lt_t, zI_lt_f, zI_eq_t, zI_eq_f, zI_in_t, zz_isIn_t, zz_isIn_f, not_true_eq_false, not_false_eq_true, true_or, or_true, false_or, or_false, true_and, and_true, false_and, and_false, Nat.reduceLeDiff, Int.reduceAdd, Int.reduceSub, Int.reduceMul, Int.reduceNeg, Int.reduceToNat, Nat.reduceAdd, Nat.reduceMul, Nat.reduceSub, Int.toNat_natCast, zN_le_t, zN_le_f]
  | succ g ih =>
    intro f i k i6 i7 hi hf h1
    obtain ⟨f, rfl⟩ : ∃ q, f = q + 7 := ⟨f - 7, by omega⟩
    have hl := cl_low1 (i3 := i3) (i5 := zI i) hP hk h1 hh 4 (f + 6) 0 k (by omega) (by omega) h1
    obtain ⟨b1, b2⟩ := low_lt (h := h) hk h1
    rw [show f + 6 - 4 = f + 1 + 1 by omega] at hl
    rw [F_X9_lowestFrom, pd]
    have hl : F_X9_lowestFrom (f + 6) 2 t 49 i3 (zI k) (zI i) (zI k) (zI 0) μ = F_X9_lowestFrom (f + 1 + 1) 2 t 49 i3 (zI k) (zI i) (zI (low P h k)) (zI 4) μ := hl
    by_cases c : low P h k = k
    · rw [if_pos c]
      simp (disch := omega) only [↓reduceIte, ↓shl_ap, shb_ap, shv_ap, zI_lit, zL_lit, nI_z, lN_z, ofN_z, zI_add, zI_sub, zI_mul, zI_neg, zL_add, zL_sub, zL_mul, zL_neg, zI_l, zI_cl, zI_le_t, zI_le_f, zI_lt_t, zI_lt_f, zI_eq_t, zI_eq_f, zI_in_t, zz_isIn_t, zz_isIn_f, not_true_eq_false, not_false_eq_true, true_or, or_true, false_or, or_false, true_and, and_true, false_and, and_false, Nat.reduceLeDiff, Int.reduceAdd, Int.reduceSub, Int.reduceMul, Int.reduceNeg, Int.reduceToNat, Nat.reduceAdd, Nat.reduceMul, Nat.reduceSub, Int.toNat_natCast, hl, zN_le_t, zN_le_f]
      rw [F_X9_lowestFrom, c]
      simp (disch := omega) only [↓reduceIte, ↓shl_ap, shb_ap, shv_ap, zI_lit, zL_lit, nI_z, lN_z, ofN_z, zI_add, zI_sub, zI_mul, zI_neg, zL_add, zL_sub, zL_mul, zL_neg, zI_l, zI_cl, zI_le_t, zI_le_f, zI_lt_t, zI_lt_f, zI_eq_t, zI_eq_f, zI_in_t, zz_isIn_t, zz_isIn_f, not_true_eq_false, not_false_eq_true, true_or, or_true, false_or, or_false, true_and, and_true, false_and, and_false, Nat.reduceLeDiff, Int.reduceAdd, Int.reduceSub, Int.reduceMul, Int.reduceNeg, Int.reduceToNat, Nat.reduceAdd, Nat.reduceMul, Nat.reduceSub, Int.toNat_natCast, zN_le_t, zN_le_f]
    · rw [if_neg c]
      simp (disch := omega) only [↓reduceIte, ↓shl_ap, shb_ap, shv_ap, zI_lit, zL_lit, nI_z, lN_z, ofN_z, zI_add, zI_sub, zI_mul, zI_neg, zL_add, zL_sub, zL_mul, zL_neg, zI_l, zI_cl, zI_le_t, zI_le_f, zI_lt_t, zI_lt_f, zI_eq_t, zI_eq_f, zI_in_t, zz_isIn_t, zz_isIn_f, not_true_eq_false, not_false_eq_true, true_or, or_true, false_or, or_false, true_and, and_true, false_and, and_false, Nat.reduceLeDiff, Int.reduceAdd, Int.reduceSub, Int.reduceMul, Int.reduceNeg, Int.reduceToNat, Nat.reduceAdd, Nat.reduceMul, Nat.reduceSub, Int.toNat_natCast, hl, zN_le_t, zN_le_f]
      rw [F_X9_lowestFrom]
      have hne : ¬ ((low P h k : Nat) : Int) = (k : Int) := by omega
      simp (disch := omega) only [↓reduceIte, ↓shl_ap, shb_ap, shv_ap, zI_lit, zL_lit, nI_z, lN_z, ofN_z, zI_add, zI_sub, zI_mul, zI_neg, zL_add, zL_sub, zL_mul, zL_neg, zI_l, zI_cl, zI_le_t, zI_le_f, zI_lt_t, zI_lt_f, zI_eq_t, zI_eq_f, zI_in_t, zz_isIn_t, zz_isIn_f, not_true_eq_false, not_false_eq_true, true_or, or_true, false_or, or_false, true_and, and_true, false_and, and_false, Nat.reduceLeDiff, Int.reduceAdd, Int.reduceSub, Int.reduceMul, Int.reduceNeg, Int.reduceToNat, Nat.reduceAdd, Nat.reduceMul, Nat.reduceSub, Int.toNat_natCast, zN_le_t, zN_le_f]
      exact ih (f + 1) (i + 1) (low P h k) _ _ (by omega) (by omega) b1
theorem rf_low1 {h : Nat → Nat} (hM : sm_mP μ P) (hk : sp_ok P) (hm : sm_mL (sh_i μ 330) 0 P (lh L h)) (hle : ∀ j, j < sp_c P * sp_r P → h j ≤ 99) (h1 : k < sp_c P * sp_r P) : ∀ (g f d b : Nat), d + g = 4 → g < f → b < sp_c P * sp_r P → F_X12_lowerOf f 1 (zI (ro P k : Int)) (zI (ro P b : Int)) (zI d) μ = some (zI (ro P (lwg P h k g d b) : Int), μ) := by
  have hcs := sp_cells hk
  intro g
  induction g with
  | zero =>
    intro f d b hd hf hb
    obtain ⟨f, rfl⟩ : ∃ q, f = q + 1 := ⟨f - 1, by omega⟩
    have hd : d = 4 := by omega
    subst hd
    rw [F_X12_lowerOf]
    simp (disch := omega) only [↓reduceIte, ↓shl_ap, shb_ap, shv_ap, zI_lit, zL_lit, nI_z, lN_z, ofN_z, zI_add, zI_sub, zI_mul, zI_neg, zL_add, zL_sub, zL_mul, zL_neg, zI_l, zI_cl, zI_le_t, zI_le_f, zI_lt_t, zI_lt_f, zI_eq_t, zI_eq_f, zI_in_t, zz_isIn_t, zz_isIn_f, not_true_eq_false, not_false_eq_true, true_or, or_true, false_or, or_false, true_and, and_true, false_and, and_false, Nat.reduceLeDiff, Int.reduceAdd, Int.reduceSub, Int.reduceMul, Int.reduceNeg, Int.reduceToNat, Nat.reduceAdd, Nat.reduceMul, Nat.reduceSub, Int.toNat_natCast, zN_le_t, zN_le_f]
    rfl
  | succ g ih =>
    intro f d b hd hf hb
    obtain ⟨f, rfl⟩ : ∃ q, f = q + 1 := ⟨f - 1, by omega⟩
    have hn := rf_beside hM hk h1 (show d < 4 by omega)
    obtain ⟨b1, b2⟩ := lwd_lt (d := d) (h := h) hk h1 hb
    have hrec := ih f (d + 1) (lwd P h k b d) (by omega) (by omega) b1
    have hHb : f_X12_heightOf (zI (ro P b : Int)) μ = some (zI (h b), μ) := rf_heightOrd hm hk hb
    have l2 := hle b hb
    rw [lwg, ← hrec, F_X12_lowerOf, hn]
    unfold lwd
    cases e : nb P k d with
    | none =>
      show (if 4 ≤ zI d then _ else sh_bind (some (zI (-1), μ)) _) = F_X12_lowerOf f 1 (zI (ro P k : Int)) (zI (ro P b : Int)) (zI (d + 1 : Nat)) μ
      simp (disch := omega) only [↓reduceIte, ↓shl_ap, shb_ap, shv_ap, zI_lit, zL_lit, nI_z, lN_z, ofN_z, zI_add, zI_sub, zI_mul, zI_neg, zL_add, zL_sub, zL_mul, zL_neg, zI_l, zI_cl, zI_le_t, zI_le_f, zI_lt_t, zI_lt_f, zI_eq_t, zI_eq_f, zI_in_t, zz_isIn_t, zz_isIn_f, not_true_eq_false, not_false_eq_true, true_or, or_true, false_or, or_false, true_and, and_true, false_and, and_false, Nat.reduceLeDiff, Int.reduceAdd, Int.reduceSub, Int.reduceMul, Int.reduceNeg, Int.reduceToNat, Nat.reduceAdd, Nat.reduceMul, Nat.reduceSub, Int.toNat_natCast, zN_le_t, zN_le_f]
      rfl
    | some j =>
      have hj := nb_lt hk h1 e
      have hrj := ro_lt hk hj
      have hHj : f_X12_heightOf (zI (ro P j : Int)) μ = some (zI (h j), μ) := rf_heightOrd hm hk hj
      have l3 := hle j hj
      show (if 4 ≤ zI d then _ else sh_bind (some (zI (ro P j : Int), μ)) _) = F_X12_lowerOf f 1 (zI (ro P k : Int)) (zI (ro P (if h j < h b then j else b) : Int)) (zI (d + 1 : Nat)) μ
      by_cases c : h j < h b
      · rw [if_pos c]
        simp (disch := omega) only [↓reduceIte, ↓shl_ap, shb_ap, shv_ap, zI_lit, zL_lit, nI_z, lN_z, ofN_z, zI_add, zI_sub, zI_mul, zI_neg, zL_add, zL_sub, zL_mul, zL_neg, zI_l, zI_cl, zI_le_t, zI_le_f, zI_lt_t, zI_lt_f, zI_eq_t, zI_eq_f, zI_in_t, zz_isIn_t, zz_isIn_f, not_true_eq_false, not_false_eq_true, true_or, or_true, false_or, or_false, true_and, and_true, false_and, and_false, Nat.reduceLeDiff, Int.reduceAdd, Int.reduceSub, Int.reduceMul, Int.reduceNeg, Int.reduceToNat, Nat.reduceAdd, Nat.reduceMul, Nat.reduceSub, Int.toNat_natCast, hHb, hHj, zN_le_t, zN_le_f]
        rfl
      · rw [if_neg c]
        simp (disch := omega) only [↓reduceIte, ↓shl_ap, shb_ap, shv_ap, zI_lit, zL_lit, nI_z, lN_z, ofN_z, zI_add, zI_sub, zI_mul, zI_neg, zL_add, zL_sub, zL_mul, zL_neg, zI_l, zI_cl, zI_le_t, zI_le_f, zI_lt_t, zI_lt_f, zI_eq_t, zI_eq_f, zI_in_t, zz_isIn_t, zz_isIn_f, not_true_eq_false, not_false_eq_true, true_or, or_true, false_or, or_false, true_and, and_true, false_and, and_false, Nat.reduceLeDiff, Int.reduceAdd, Int.reduceSub, Int.reduceMul, Int.reduceNeg, Int.reduceToNat, Nat.reduceAdd, Nat.reduceMul, Nat.reduceSub, Int.toNat_natCast, hHb, hHj, zN_le_t, zN_le_f]
        rfl
theorem rf_low {h : Nat → Nat} (hM : sm_mP μ P) (hk : sp_ok P) (hm : sm_mL (sh_i μ 330) 0 P (lh L h)) (hle : ∀ j, j < sp_c P * sp_r P → h j ≤ 99) (h1 : k < sp_c P * sp_r P) : f_X12_lowerOf (zI (ro P k : Int)) μ = some (zI (ro P (low P h k) : Int), μ) := rf_low1 hM hk hm hle h1 4 sh_fuel 0 k (by omega) (by rw [sh_fuel_eq]; omega) h1
theorem rf_pond1 {i1 i2 : Int32} {h : Nat → Nat} (hM : sm_mP μ P) (hk : sp_ok P) (hm : sm_mL (sh_i μ 330) 0 P (lh L h)) (hle : ∀ j, j < sp_c P * sp_r P → h j ≤ 99) : ∀ (g f k : Nat), ctl h (h k) (sp_c P * sp_r P) < g → g < f → k < sp_c P * sp_r P → F_X12_pond f 1 i1 i2 (zI (ro P k : Int)) (zI (ro P (low P h k) : Int)) μ = some (zI ((8 * (pd P h g k / sp_c P) + pd P h g k % sp_c P : Nat) : Int), μ) := by
  have hcs := sp_cells hk
  have hbd := sp_bd hk
  intro g
  induction g with
  | zero => intro f k h0; omega
  | succ g ih =>
    intro f k hc hf h1
    obtain ⟨f, rfl⟩ : ∃ q, f = q + 1 := ⟨f - 1, by omega⟩
    obtain ⟨b1, b2⟩ := low_lt (h := h) hk h1
    have hr1 := ro_lt hk h1
    have hr2 := ro_lt hk b1
    rw [F_X12_pond, pd]
    by_cases c : low P h k = k
    · rw [if_pos c, c, if_pos rfl]
      unfold f_X12_numberOf
      obtain ⟨d1, d2, d3⟩ := sp_div h1
      have r1 : (ro P k : Int) - (ro P k : Int) / 7 * 7 = ((k % sp_c P : Nat) : Int) := by unfold ro; omega
      have r2 : (ro P k : Int) / 7 = ((k / sp_c P : Nat) : Int) := by unfold ro; omega
      simp (disch := omega) only [↓reduceIte, ↓shl_ap, shb_ap, shv_ap, zI_lit, zL_lit, nI_z, lN_z, ofN_z, zI_add, zI_sub, zI_mul, zI_neg, zL_add, zL_sub, zL_mul, zL_neg, zI_l, zI_cl, zI_le_t, zI_le_f, zI_lt_t, zI_lt_f, zI_eq_t, zI_eq_f, zI_in_t, zz_isIn_t, zz_isIn_f, not_true_eq_false, not_false_eq_true, true_or, or_true, false_or, or_false, true_and, and_true, false_and, and_false, Nat.reduceLeDiff, Int.reduceAdd, Int.reduceSub, Int.reduceMul, Int.reduceNeg, Int.reduceToNat, Nat.reduceAdd, Nat.reduceMul, Nat.reduceSub, Int.toNat_natCast, zI_div, r1, r2, zN_le_t, zN_le_f]
      congr 3
      omega
    · rw [if_neg c]
      have hlt : h (low P h k) < h k := by
        rcases b2 with b2 | b2
        · exact absurd b2 c
        · exact b2
      have hne : ¬ (ro P (low P h k) : Int) = (ro P k : Int) := fun z => c (ro_inj hk b1 h1 (by omega))
      have := ctl_lt (h := h) (v := h k) (v' := h (low P h k)) (by omega) _ (low P h k) b1 hlt (by omega)
      simp (disch := omega) only [↓reduceIte, ↓shl_ap, shb_ap, shv_ap, zI_lit, zL_lit, nI_z, lN_z, ofN_z, zI_add, zI_sub, zI_mul, zI_neg, zL_add, zL_sub, zL_mul, zL_neg, zI_l, zI_cl, zI_le_t, zI_le_f, zI_lt_t, zI_lt_f, zI_eq_t, zI_eq_f, zI_in_t, zz_isIn_t, zz_isIn_f, not_true_eq_false, not_false_eq_true, true_or, or_true, false_or, or_false, true_and, and_true, false_and, and_false, Nat.reduceLeDiff, Int.reduceAdd, Int.reduceSub, Int.reduceMul, Int.reduceNeg, Int.reduceToNat, Nat.reduceAdd, Nat.reduceMul, Nat.reduceSub, Int.toNat_natCast, rf_low hM hk hm hle b1, zN_le_t, zN_le_f]
      exact ih f (low P h k) (by omega) (by omega) b1
end Wy
theorem pd_lt {P : sp_T} {h : Nat → Nat} (hk : sp_ok P) : ∀ (g k : Nat), k < sp_c P * sp_r P → pd P h g k < sp_c P * sp_r P
  | 0, _, h1 => h1
  | g + 1, k, h1 => by
    rw [pd]
    split
    · exact h1
    · exact pd_lt hk g _ (low_lt hk h1).1
theorem cl_numberOf {μ : sh_Mem} {t k : Nat} {P : sp_T} (hP : sm_cP μ t P) (hk : sp_ok P) (h1 : k < sp_c P * sp_r P) : f_X5_numberOf t (zI k) μ = some (zI ((8 * (k / sp_c P) + k % sp_c P : Nat) : Int), μ) := by
  have hb := sp_bd hk
  have hcs := sp_cells hk
  obtain ⟨d1, d2, d3⟩ := sp_div h1
  have e := hP.1
  rw [nI_z] at e
  have hm : ((k : Int) - (k : Int) / (sp_c P : Int) * (sp_c P : Int)) = ((k % sp_c P : Nat) : Int) := by
    have := Int.emod_add_mul_ediv (k : Int) (sp_c P : Int)
    rw [Int.mul_comm] at this
    push_cast
    omega
  have hq : (k : Int) / (sp_c P : Int) = ((k / sp_c P : Nat) : Int) := by push_cast; rfl
  unfold f_X5_numberOf
  rw [e]
  simp (disch := omega) only [↓reduceIte, ↓shl_ap, shb_ap, shv_ap, zI_lit, zL_lit, nI_z, lN_z, ofN_z, zI_add, zI_sub, zI_mul, zI_neg, zL_add, zL_sub, zL_mul, zL_neg, zI_l, zI_cl, zI_le_t, zI_le_f, zI_lt_t, zI_lt_f, zI_eq_t, zI_eq_f, zI_in_t, zz_isIn_t, zz_isIn_f, not_true_eq_false, not_false_eq_true, true_or, or_true, false_or, or_false, true_and, and_true, false_and, and_false, Nat.reduceLeDiff, Int.reduceAdd, Int.reduceSub, Int.reduceMul, Int.reduceNeg, Int.reduceToNat, Nat.reduceAdd, Nat.reduceMul, Nat.reduceSub, Int.toNat_natCast, zI_div, hm, hq, zN_le_t, zN_le_f]
  congr 3
  omega
theorem pr_16 : ∀ (μ : sh_Mem) (b1 b2 : Int32), Sim μ → ∃ (v : Int32) (μ1 μ2 : sh_Mem), f_X11_pond b1 b2 μ = some (v, μ1) ∧ f_X12_pond b1 b2 μ1 = some (v, μ2) ∧ Sim μ2 := by
  intro μ b1 b2 h
  obtain ⟨-, -, -, -, -, -, t, P, L, hR⟩ := id h
  obtain ⟨hr, hk, hl, hP, hM, hc, hm, -⟩ := id hR
  obtain ⟨a, h1, h2, rfl⟩ := zI_of b1
  obtain ⟨b, h3, h4, rfl⟩ := zI_of b2
  have hb := sp_bd hk
  have hcs := sp_cells hk
  rcases kx_km (P := P) a b with ⟨e1, e2⟩ | ⟨x, y, rfl, rfl, hx, hy, e1, e2⟩
  · refine ⟨zI (-1), μ, μ, ?_, ?_, h⟩
    · unfold f_X11_pond
      rw [shr_ap hr.2.1]
      simp (disch := omega) only [↓reduceIte, ↓shl_ap, shb_ap, shv_ap, zI_lit, zL_lit, nI_z, lN_z, ofN_z, zI_add, zI_sub, zI_mul, zI_neg, zL_add, zL_sub, zL_mul, zL_neg, zI_l, zI_cl, zI_le_t, zI_le_f, zI_lt_t, zI_lt_f, zI_eq_t, zI_eq_f, zI_in_t, zz_isIn_t, zz_isIn_f, not_true_eq_false, not_false_eq_true, true_or, or_true, false_or, or_false, true_and, and_true, false_and, and_false, Nat.reduceLeDiff, Int.reduceAdd, Int.reduceSub, Int.reduceMul, Int.reduceNeg, Int.reduceToNat, Nat.reduceAdd, Nat.reduceMul, Nat.reduceSub, Int.toNat_natCast, hr.2.1, shr_ap hr.2.1, shp hr.1, cl_cellAt hP hk h1 h2 h3 h4, e1, zN_le_t, zN_le_f]
    · unfold f_X12_pond
      rw [rf_cellAt hM hk h1 h2 h3 h4, e2]
      rfl
  · have hcell := sp_cell hk hx hy
    have hpd := pd_lt (h := sl_h L) hk 49 _ hcell
    have hct := ctl_n1 (h := sl_h L) (v := sl_h L (y * sp_c P + x)) (sp_c P * sp_r P) (y * sp_c P + x) hcell (by omega)
    have a1 := cl_pond1 (i3 := zI ((y * sp_c P + x : Nat) : Int)) (i6 := 0) (i7 := 0) (h := sl_h L) hP hk (fun j hj => ⟨by rw [← nI_z]; exact hc.2.1 j hj, hl.2.1 j hj⟩) 49 sh_fuel 0 (y * sp_c P + x) 0 0 (by omega) (by rw [sh_fuel_eq]; omega) hcell
    have a1' : f_X9_lowestFrom t 49 (zI ((y * sp_c P + x : Nat) : Int)) μ = some (zI (pd P (sl_h L) 49 (y * sp_c P + x)), μ) := a1
    have a2 := rf_pond1 (L := L) (i1 := zI x) (i2 := zI y) (h := sl_h L) hM hk hm hl.2.1 49 sh_fuel (y * sp_c P + x) (by omega) (by rw [sh_fuel_eq]; omega) hcell
    have a3 := rf_low (L := L) (h := sl_h L) hM hk hm hl.2.1 hcell
    rw [ro_mk hx] at a2 a3
    refine ⟨zI ((8 * (pd P (sl_h L) 49 (y * sp_c P + x) / sp_c P) + pd P (sl_h L) 49 (y * sp_c P + x) % sp_c P : Nat) : Int), μ, μ, ?_, ?_, h⟩
    · unfold f_X11_pond
      rw [shr_ap hr.2.1]
      simp (disch := omega) only [↓reduceIte, ↓shl_ap, shb_ap, shv_ap, zI_lit, zL_lit, nI_z, lN_z, ofN_z, zI_add, zI_sub, zI_mul, zI_neg, zL_add, zL_sub, zL_mul, zL_neg, zI_l, zI_cl, zI_le_t, zI_le_f, zI_lt_t, zI_lt_f, zI_eq_t, zI_eq_f, zI_in_t, zz_isIn_t, zz_isIn_f, not_true_eq_false, not_false_eq_true, true_or, or_true, false_or, or_false, true_and, and_true, false_and, and_false, Nat.reduceLeDiff, Int.reduceAdd, Int.reduceSub, Int.reduceMul, Int.reduceNeg, Int.reduceToNat, Nat.reduceAdd, Nat.reduceMul, Nat.reduceSub, Int.toNat_natCast, hr.2.1, shr_ap hr.2.1, shp hr.1, cl_cellAt hP hk h1 h2 h3 h4, e1, a1', cl_numberOf hP hk hpd, zN_le_t, zN_le_f]
    · unfold f_X12_pond
      rw [rf_cellAt hM hk h1 h2 h3 h4, e2]
      simp (disch := omega) only [↓reduceIte, ↓shl_ap, shb_ap, shv_ap, zI_lit, zL_lit, nI_z, lN_z, ofN_z, zI_add, zI_sub, zI_mul, zI_neg, zL_add, zL_sub, zL_mul, zL_neg, zI_l, zI_cl, zI_le_t, zI_le_f, zI_lt_t, zI_lt_f, zI_eq_t, zI_eq_f, zI_in_t, zz_isIn_t, zz_isIn_f, not_true_eq_false, not_false_eq_true, true_or, or_true, false_or, or_false, true_and, and_true, false_and, and_false, Nat.reduceLeDiff, Int.reduceAdd, Int.reduceSub, Int.reduceMul, Int.reduceNeg, Int.reduceToNat, Nat.reduceAdd, Nat.reduceMul, Nat.reduceSub, Int.toNat_natCast, a3, zN_le_t, zN_le_f]
      exact a2
