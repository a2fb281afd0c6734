/-! ACCESS: small methods of both, where plain and land stand -/
theorem sp_bd {P : sp_T} (h : sp_ok P) : sp_c P ≤ 7 ∧ sp_r P ≤ 7 ∧ sp_nt P ≤ 5 ∧ sp_np P ≤ 7 ∧ (sp_li P).length ≤ 12 ∧ sp_cr P ≤ 100 := by
  obtain ⟨h1, h2, h3, h4, -, h5, -⟩ := h
  omega
theorem sp_cell {P : sp_T} {x y : Nat} (h : sp_ok P) (hx : x < sp_c P) (hy : y < sp_r P) : y * sp_c P + x < sp_c P * sp_r P := by
  have h1 : y + 1 ≤ sp_r P := hy
  have h2 := Nat.mul_le_mul_right (sp_c P) h1
  rw [Nat.succ_mul] at h2
  rw [Nat.mul_comm (sp_c P)]
  omega
theorem sp_cells {P : sp_T} (h : sp_ok P) : sp_c P * sp_r P ≤ 49 := by
  have := sp_bd h
  exact Nat.le_trans (Nat.mul_le_mul this.1 this.2.1) (by decide)
/-- the cell's number to the class, to the reference -/
def kx (P : sp_T) (a b : Int) : Int := if 0 ≤ a ∧ a < sp_c P ∧ 0 ≤ b ∧ b < sp_r P then b * sp_c P + a else -1
def km (P : sp_T) (a b : Int) : Int := if 0 ≤ a ∧ a < sp_c P ∧ 0 ≤ b ∧ b < sp_r P then a + 7 * b else -1
theorem shp {t : Nat} (ht : sh_isP t) : (t = 8 ∨ t = 29) = True := eq_true ht
section Acc
variable {μ : sh_Mem} {t : Nat} {P : sp_T} {L : sl_T} {a b : Int}
theorem cl_isTopic (hr : sh_r μ 0 7 = some t) (ht : sh_isP t) (hP : sm_cP μ t P) (hk : sp_ok P) (h1 : -2147483648 ≤ a) (h2 : a < 2147483648) : f_X11_isTopic (zI a) μ = some (if 0 ≤ a ∧ a < sp_nt P then 1 else 0, μ) := by
  have hb := sp_bd hk
  unfold f_X11_isTopic
  have e := hP.2.2.1
  rw [shr_ap hr]
  by_cases c1 : a < 0
  · rw [if_neg (show ¬ (0 ≤ a ∧ a < sp_nt P) by omega)]; simp (disch := omega) only [↓reduceIte, ↓shl_ap, shb_ap, shv_ap, zI_lit, zL_lit, nI_z, lN_z, ofN_z, zI_add, zI_sub, zI_mul, zI_neg, zL_add, zL_sub, zL_mul, zL_neg, zI_l, zI_cl, zI_le_t, zI_le_f, zI_lt_t, zI_lt_f, zI_eq_t, zI_eq_f, zI_in_t, zz_isIn_t, zz_isIn_f, not_true_eq_false, not_false_eq_true, true_or, or_true, false_or, or_false, true_and, and_true, false_and, and_false]
  · by_cases c2 : a < sp_nt P
    · rw [if_pos (show (0 ≤ a ∧ a < sp_nt P) by omega)]; simp (disch := omega) only [↓reduceIte, ↓shl_ap, shb_ap, shv_ap, zI_lit, zL_lit, nI_z, lN_z, ofN_z, zI_add, zI_sub, zI_mul, zI_neg, zL_add, zL_sub, zL_mul, zL_neg, zI_l, zI_cl, zI_le_t, zI_le_f, zI_lt_t, zI_lt_f, zI_eq_t, zI_eq_f, zI_in_t, zz_isIn_t, zz_isIn_f, not_true_eq_false, not_false_eq_true, true_or, or_true, false_or, or_false, true_and, and_true, false_and, and_false, e, hr, shp ht]
    · rw [if_neg (show ¬ (0 ≤ a ∧ a < sp_nt P) by omega)]; simp (disch := omega) only [↓reduceIte, ↓shl_ap, shb_ap, shv_ap, zI_lit, zL_lit, nI_z, lN_z, ofN_z, zI_add, zI_sub, zI_mul, zI_neg, zL_add, zL_sub, zL_mul, zL_neg, zI_l, zI_cl, zI_le_t, zI_le_f, zI_lt_t, zI_lt_f, zI_eq_t, zI_eq_f, zI_in_t, zz_isIn_t, zz_isIn_f, not_true_eq_false, not_false_eq_true, true_or, or_true, false_or, or_false, true_and, and_true, false_and, and_false, e, hr, shp ht]
theorem cl_isPerson (hr : sh_r μ 0 7 = some t) (ht : sh_isP t) (hP : sm_cP μ t P) (hk : sp_ok P) (h1 : -2147483648 ≤ a) (h2 : a < 2147483648) : f_X11_isPerson (zI a) μ = some (if 0 ≤ a ∧ a < sp_np P then 1 else 0, μ) := by
  have hb := sp_bd hk
  unfold f_X11_isPerson
  have e := hP.2.2.2.1
  rw [shr_ap hr]
  by_cases c1 : a < 0
  · rw [if_neg (show ¬ (0 ≤ a ∧ a < sp_np P) by omega)]; simp (disch := omega) only [↓reduceIte, ↓shl_ap, shb_ap, shv_ap, zI_lit, zL_lit, nI_z, lN_z, ofN_z, zI_add, zI_sub, zI_mul, zI_neg, zL_add, zL_sub, zL_mul, zL_neg, zI_l, zI_cl, zI_le_t, zI_le_f, zI_lt_t, zI_lt_f, zI_eq_t, zI_eq_f, zI_in_t, zz_isIn_t, zz_isIn_f, not_true_eq_false, not_false_eq_true, true_or, or_true, false_or, or_false, true_and, and_true, false_and, and_false]
  · by_cases c2 : a < sp_np P
    · rw [if_pos (show (0 ≤ a ∧ a < sp_np P) by omega)]; simp (disch := omega) only [↓reduceIte, ↓shl_ap, shb_ap, shv_ap, zI_lit, zL_lit, nI_z, lN_z, ofN_z, zI_add, zI_sub, zI_mul, zI_neg, zL_add, zL_sub, zL_mul, zL_neg, zI_l, zI_cl, zI_le_t, zI_le_f, zI_lt_t, zI_lt_f, zI_eq_t, zI_eq_f, zI_in_t, zz_isIn_t, zz_isIn_f, not_true_eq_false, not_false_eq_true, true_or, or_true, false_or, or_false, true_and, and_true, false_and, and_false, e, hr, shp ht]
    · rw [if_neg (show ¬ (0 ≤ a ∧ a < sp_np P) by omega)]; simp (disch := omega) only [↓reduceIte, ↓shl_ap, shb_ap, shv_ap, zI_lit, zL_lit, nI_z, lN_z, ofN_z, zI_add, zI_sub, zI_mul, zI_neg, zL_add, zL_sub, zL_mul, zL_neg, zI_l, zI_cl, zI_le_t, zI_le_f, zI_lt_t, zI_lt_f, zI_eq_t, zI_eq_f, zI_in_t, zz_isIn_t, zz_isIn_f, not_true_eq_false, not_false_eq_true, true_or, or_true, false_or, or_false, true_and, and_true, false_and, and_false, e, hr, shp ht]
theorem cl_cellAt (hP : sm_cP μ t P) (hk : sp_ok P) (h1 : -2147483648 ≤ a) (h2 : a < 2147483648) (h3 : -2147483648 ≤ b) (h4 : b < 2147483648) : f_X5_cellAt μ t (zI a) (zI b) = zI (kx P a b) := by
  have hb := sp_bd hk
  unfold f_X5_cellAt kx
  have e := hP.1
  have e' := hP.2.1
  by_cases c1 : a < 0
  · rw [if_neg (show ¬ (0 ≤ a ∧ a < sp_c P ∧ 0 ≤ b ∧ b < sp_r P) by omega)]; simp (disch := omega) only [↓reduceIte, ↓shl_ap, shb_ap, shv_ap, zI_lit, zL_lit, nI_z, lN_z, ofN_z, zI_add, zI_sub, zI_mul, zI_neg, zL_add, zL_sub, zL_mul, zL_neg, zI_l, zI_cl, zI_le_t, zI_le_f, zI_lt_t, zI_lt_f, zI_eq_t, zI_eq_f, zI_in_t, zz_isIn_t, zz_isIn_f, not_true_eq_false, not_false_eq_true, true_or, or_true, false_or, or_false, true_and, and_true, false_and, and_false]
  · by_cases c2 : a < sp_c P
    · by_cases c3 : b < 0
      · rw [if_neg (show ¬ (0 ≤ a ∧ a < sp_c P ∧ 0 ≤ b ∧ b < sp_r P) by omega)]; simp (disch := omega) only [↓reduceIte, ↓shl_ap, shb_ap, shv_ap, zI_lit, zL_lit, nI_z, lN_z, ofN_z, zI_add, zI_sub, zI_mul, zI_neg, zL_add, zL_sub, zL_mul, zL_neg, zI_l, zI_cl, zI_le_t, zI_le_f, zI_lt_t, zI_lt_f, zI_eq_t, zI_eq_f, zI_in_t, zz_isIn_t, zz_isIn_f, not_true_eq_false, not_false_eq_true, true_or, or_true, false_or, or_false, true_and, and_true, false_and, and_false, e, e']
      · by_cases c4 : b < sp_r P
        · rw [if_pos (show (0 ≤ a ∧ a < sp_c P ∧ 0 ≤ b ∧ b < sp_r P) by omega)]; simp (disch := omega) only [↓reduceIte, ↓shl_ap, shb_ap, shv_ap, zI_lit, zL_lit, nI_z, lN_z, ofN_z, zI_add, zI_sub, zI_mul, zI_neg, zL_add, zL_sub, zL_mul, zL_neg, zI_l, zI_cl, zI_le_t, zI_le_f, zI_lt_t, zI_lt_f, zI_eq_t, zI_eq_f, zI_in_t, zz_isIn_t, zz_isIn_f, not_true_eq_false, not_false_eq_true, true_or, or_true, false_or, or_false, true_and, and_true, false_and, and_false, e, e']
        · rw [if_neg (show ¬ (0 ≤ a ∧ a < sp_c P ∧ 0 ≤ b ∧ b < sp_r P) by omega)]; simp (disch := omega) only [↓reduceIte, ↓shl_ap, shb_ap, shv_ap, zI_lit, zL_lit, nI_z, lN_z, ofN_z, zI_add, zI_sub, zI_mul, zI_neg, zL_add, zL_sub, zL_mul, zL_neg, zI_l, zI_cl, zI_le_t, zI_le_f, zI_lt_t, zI_lt_f, zI_eq_t, zI_eq_f, zI_in_t, zz_isIn_t, zz_isIn_f, not_true_eq_false, not_false_eq_true, true_or, or_true, false_or, or_false, true_and, and_true, false_and, and_false, e, e']
    · rw [if_neg (show ¬ (0 ≤ a ∧ a < sp_c P ∧ 0 ≤ b ∧ b < sp_r P) by omega)]; simp (disch := omega) only [↓reduceIte, ↓shl_ap, shb_ap, shv_ap, zI_lit, zL_lit, nI_z, lN_z, ofN_z, zI_add, zI_sub, zI_mul, zI_neg, zL_add, zL_sub, zL_mul, zL_neg, zI_l, zI_cl, zI_le_t, zI_le_f, zI_lt_t, zI_lt_f, zI_eq_t, zI_eq_f, zI_in_t, zz_isIn_t, zz_isIn_f, not_true_eq_false, not_false_eq_true, true_or, or_true, false_or, or_false, true_and, and_true, false_and, and_false, e, e']
theorem rf_topicMany (hP : sm_mP μ P) : f_X12_topicMany μ = some (zI (sp_nt P), μ) := by
  unfold f_X12_topicMany
  rw [show (Int32.toNatClampNeg 3) = 3 from rfl, hP.2.2.2.1, nI_z]
theorem rf_personMany (hP : sm_mP μ P) : f_X12_personMany μ = some (zI (sp_np P), μ) := by
  unfold f_X12_personMany
  rw [show (Int32.toNatClampNeg 4) = 4 from rfl, hP.2.2.2.2.1, nI_z]
theorem rf_listMany (hP : sm_mP μ P) : f_X12_listMany μ = some (zI (sp_li P).length, μ) := by
  unfold f_X12_listMany
  rw [show (Int32.toNatClampNeg 5) = 5 from rfl, hP.2.2.2.2.2.1, nI_z]
theorem rf_isTopic (hP : sm_mP μ P) (hk : sp_ok P) (h1 : -9223372036854775808 ≤ a) (h2 : a < 9223372036854775808) : f_X12_isTopic (zL a) μ = some (if 0 ≤ a ∧ a < sp_nt P then 1 else 0, μ) := by
  have hb := sp_bd hk
  unfold f_X12_isTopic
  rw [rf_topicMany hP]
  by_cases c1 : 0 ≤ a ∧ a < sp_nt P
  · rw [if_pos c1]; simp (disch := omega) only [↓reduceIte, ↓shl_ap, shb_ap, shv_ap, zI_lit, zL_lit, nI_z, lN_z, ofN_z, zI_add, zI_sub, zI_mul, zI_neg, zL_add, zL_sub, zL_mul, zL_neg, zI_l, zI_cl, zI_le_t, zI_le_f, zI_lt_t, zI_lt_f, zI_eq_t, zI_eq_f, zI_in_t, zz_isIn_t, zz_isIn_f, not_true_eq_false, not_false_eq_true, true_or, or_true, false_or, or_false, true_and, and_true, false_and, and_false]
  · rw [if_neg c1]; simp (disch := omega) only [↓reduceIte, ↓shl_ap, shb_ap, shv_ap, zI_lit, zL_lit, nI_z, lN_z, ofN_z, zI_add, zI_sub, zI_mul, zI_neg, zL_add, zL_sub, zL_mul, zL_neg, zI_l, zI_cl, zI_le_t, zI_le_f, zI_lt_t, zI_lt_f, zI_eq_t, zI_eq_f, zI_in_t, zz_isIn_t, zz_isIn_f, not_true_eq_false, not_false_eq_true, true_or, or_true, false_or, or_false, true_and, and_true, false_and, and_false]
theorem rf_isPerson (hP : sm_mP μ P) (hk : sp_ok P) (h1 : -2147483648 ≤ a) (h2 : a < 2147483648) : f_X12_isPerson (zI a) μ = some (if 0 ≤ a ∧ a < sp_np P then 1 else 0, μ) := by
  have hb := sp_bd hk
  unfold f_X12_isPerson
  rw [rf_personMany hP]
  by_cases c1 : 0 ≤ a ∧ a < sp_np P
  · rw [if_pos c1]; simp (disch := omega) only [↓reduceIte, ↓shl_ap, shb_ap, shv_ap, zI_lit, zL_lit, nI_z, lN_z, ofN_z, zI_add, zI_sub, zI_mul, zI_neg, zL_add, zL_sub, zL_mul, zL_neg, zI_l, zI_cl, zI_le_t, zI_le_f, zI_lt_t, zI_lt_f, zI_eq_t, zI_eq_f, zI_in_t, zz_isIn_t, zz_isIn_f, not_true_eq_false, not_false_eq_true, true_or, or_true, false_or, or_false, true_and, and_true, false_and, and_false]
  · rw [if_neg c1]; simp (disch := omega) only [↓reduceIte, ↓shl_ap, shb_ap, shv_ap, zI_lit, zL_lit, nI_z, lN_z, ofN_z, zI_add, zI_sub, zI_mul, zI_neg, zL_add, zL_sub, zL_mul, zL_neg, zI_l, zI_cl, zI_le_t, zI_le_f, zI_lt_t, zI_lt_f, zI_eq_t, zI_eq_f, zI_in_t, zz_isIn_t, zz_isIn_f, not_true_eq_false, not_false_eq_true, true_or, or_true, false_or, or_false, true_and, and_true, false_and, and_false]
theorem rf_plain (hP : sm_mP μ P) (hk : sp_ok P) : sh_i μ 291 50 = if 0 < sp_c P then zI 1 else zI 0 := hP.2.2.2.2.2.2.1
theorem rf_cellAt (hP : sm_mP μ P) (hk : sp_ok P) (h1 : -2147483648 ≤ a) (h2 : a < 2147483648) (h3 : -2147483648 ≤ b) (h4 : b < 2147483648) : f_X12_cellAt (zI a) (zI b) μ = some (zI (km P a b), μ) := by
  have hb := sp_bd hk
  unfold f_X12_cellAt km
  have e := hP.1
  have e' := hP.2.1
  rw [show (Int32.toNatClampNeg 3) = 3 from rfl, show (Int32.toNatClampNeg 4) = 4 from rfl, rf_plain hP hk, e, e']
  by_cases c0 : 0 < sp_c P
  · rw [if_pos c0]
    by_cases c1 : 0 ≤ a ∧ a < sp_c P
    · by_cases c2 : 0 ≤ b ∧ b < sp_r P
      · rw [if_pos (show (0 ≤ a ∧ a < sp_c P ∧ 0 ≤ b ∧ b < sp_r P) by omega)]; simp (disch := omega) only [↓reduceIte, ↓shl_ap, shb_ap, shv_ap, zI_lit, zL_lit, nI_z, lN_z, ofN_z, zI_add, zI_sub, zI_mul, zI_neg, zL_add, zL_sub, zL_mul, zL_neg, zI_l, zI_cl, zI_le_t, zI_le_f, zI_lt_t, zI_lt_f, zI_eq_t, zI_eq_f, zI_in_t, zz_isIn_t, zz_isIn_f, not_true_eq_false, not_false_eq_true, true_or, or_true, false_or, or_false, true_and, and_true, false_and, and_false]
      · rw [if_neg (show ¬ (0 ≤ a ∧ a < sp_c P ∧ 0 ≤ b ∧ b < sp_r P) by omega)]; simp (disch := omega) only [↓reduceIte, ↓shl_ap, shb_ap, shv_ap, zI_lit, zL_lit, nI_z, lN_z, ofN_z, zI_add, zI_sub, zI_mul, zI_neg, zL_add, zL_sub, zL_mul, zL_neg, zI_l, zI_cl, zI_le_t, zI_le_f, zI_lt_t, zI_lt_f, zI_eq_t, zI_eq_f, zI_in_t, zz_isIn_t, zz_isIn_f, not_true_eq_false, not_false_eq_true, true_or, or_true, false_or, or_false, true_and, and_true, false_and, and_false]
    · rw [if_neg (show ¬ (0 ≤ a ∧ a < sp_c P ∧ 0 ≤ b ∧ b < sp_r P) by omega)]; simp (disch := omega) only [↓reduceIte, ↓shl_ap, shb_ap, shv_ap, zI_lit, zL_lit, nI_z, lN_z, ofN_z, zI_add, zI_sub, zI_mul, zI_neg, zL_add, zL_sub, zL_mul, zL_neg, zI_l, zI_cl, zI_le_t, zI_le_f, zI_lt_t, zI_lt_f, zI_eq_t, zI_eq_f, zI_in_t, zz_isIn_t, zz_isIn_f, not_true_eq_false, not_false_eq_true, true_or, or_true, false_or, or_false, true_and, and_true, false_and, and_false]
  · rw [if_neg c0, if_neg (show ¬ (0 ≤ a ∧ a < sp_c P ∧ 0 ≤ b ∧ b < sp_r P) by omega)]; simp (disch := omega) only [↓reduceIte, ↓shl_ap, shb_ap, shv_ap, zI_lit, zL_lit, nI_z, lN_z, ofN_z, zI_add, zI_sub, zI_mul, zI_neg, zL_add, zL_sub, zL_mul, zL_neg, zI_l, zI_cl, zI_le_t, zI_le_f, zI_lt_t, zI_lt_f, zI_eq_t, zI_eq_f, zI_in_t, zz_isIn_t, zz_isIn_f, not_true_eq_false, not_false_eq_true, true_or, or_true, false_or, or_false, true_and, and_true, false_and, and_false]
theorem kx_pos {x y : Nat} (hx : x < sp_c P) (hy : y < sp_r P) : kx P x y = ((y * sp_c P + x : Nat) : Int) := by
  unfold kx
  rw [if_pos (by omega), Int.natCast_add, Int.natCast_mul]
theorem km_pos {x y : Nat} (hx : x < sp_c P) (hy : y < sp_r P) : km P x y = ((x + 7 * y : Nat) : Int) := by
  unfold km
  rw [if_pos (by omega)]
  omega
theorem kx_km (a b : Int) : (kx P a b = -1 ∧ km P a b = -1) ∨ ∃ x y : Nat, a = x ∧ b = y ∧ x < sp_c P ∧ y < sp_r P ∧ kx P a b = ((y * sp_c P + x : Nat) : Int) ∧ km P a b = ((x + 7 * y : Nat) : Int) := by
  by_cases c : 0 ≤ a ∧ a < sp_c P ∧ 0 ≤ b ∧ b < sp_r P
  · obtain ⟨x, rfl⟩ := Int.eq_ofNat_of_zero_le c.1
    obtain ⟨y, rfl⟩ := Int.eq_ofNat_of_zero_le c.2.2.1
    exact Or.inr ⟨x, y, rfl, rfl, by omega, by omega, kx_pos (by omega) (by omega), km_pos (by omega) (by omega)⟩
  · left
    unfold kx km
    rw [if_neg c, if_neg c]
    exact ⟨rfl, rfl⟩
theorem rf_heightOf (hL : sm_mL (sh_i μ 330) 0 P L) (hk : sp_ok P) {x y : Nat} (hx : x < sp_c P) (hy : y < sp_r P) : f_X12_heightOf (zI ((x + 7 * y : Nat) : Int)) μ = some (zI (sl_h L (y * sp_c P + x)), μ) := by
  have hb := sp_bd hk
  unfold f_X12_heightOf
  simp (disch := omega) only [↓reduceIte, ↓shl_ap, shb_ap, shv_ap, zI_lit, zL_lit, nI_z, lN_z, ofN_z, zI_add, zI_sub, zI_mul, zI_neg, zL_add, zL_sub, zL_mul, zL_neg, zI_l, zI_cl, zI_le_t, zI_le_f, zI_lt_t, zI_lt_f, zI_eq_t, zI_eq_f, zI_in_t, zz_isIn_t, zz_isIn_f, not_true_eq_false, not_false_eq_true, true_or, or_true, false_or, or_false, true_and, and_true, false_and, and_false]
  rw [show (1 + ((x + 7 * y : Nat) : Int)).toNat = 0 + 1 + x + 7 * y by omega, hL.2.1 x y hx hy, nI_z]
theorem rf_cellOf (hL : sm_mL (sh_i μ 330) 0 P L) (hk : sp_ok P) {p : Nat} (hp : p < sp_np P) : f_X12_cellOf (zI p) μ = some (zI ((sl_x L p + 7 * sl_y L p : Nat) : Int), μ) := by
  have hb := sp_bd hk
  unfold f_X12_cellOf
  simp (disch := omega) only [↓reduceIte, ↓shl_ap, shb_ap, shv_ap, zI_lit, zL_lit, nI_z, lN_z, ofN_z, zI_add, zI_sub, zI_mul, zI_neg, zL_add, zL_sub, zL_mul, zL_neg, zI_l, zI_cl, zI_le_t, zI_le_f, zI_lt_t, zI_lt_f, zI_eq_t, zI_eq_f, zI_in_t, zz_isIn_t, zz_isIn_f, not_true_eq_false, not_false_eq_true, true_or, or_true, false_or, or_false, true_and, and_true, false_and, and_false]
  rw [show (50 + 3 * (p : Int)).toNat = 0 + 50 + 3 * p by omega, (hL.2.2 p hp).1, nI_z]
theorem rf_tiredOf (hL : sm_mL (sh_i μ 330) 0 P L) (hk : sp_ok P) {p : Nat} (hp : p < sp_np P) : f_X12_tiredOf (zI p) μ = some (zI (sl_t L p), μ) := by
  have hb := sp_bd hk
  unfold f_X12_tiredOf
  simp (disch := omega) only [↓reduceIte, ↓shl_ap, shb_ap, shv_ap, zI_lit, zL_lit, nI_z, lN_z, ofN_z, zI_add, zI_sub, zI_mul, zI_neg, zL_add, zL_sub, zL_mul, zL_neg, zI_l, zI_cl, zI_le_t, zI_le_f, zI_lt_t, zI_lt_f, zI_eq_t, zI_eq_f, zI_in_t, zz_isIn_t, zz_isIn_f, not_true_eq_false, not_false_eq_true, true_or, or_true, false_or, or_false, true_and, and_true, false_and, and_false]
  rw [show (51 + 3 * (p : Int)).toNat = 0 + 51 + 3 * p by omega, (hL.2.2 p hp).2.1, nI_z]
theorem rf_knowsOf (hL : sm_mL (sh_i μ 330) 0 P L) (hk : sp_ok P) {p : Nat} (hp : p < sp_np P) : f_X12_knowsOf (zI p) μ = some (zI (sl_k L p), μ) := by
  have hb := sp_bd hk
  unfold f_X12_knowsOf
  simp (disch := omega) only [↓reduceIte, ↓shl_ap, shb_ap, shv_ap, zI_lit, zL_lit, nI_z, lN_z, ofN_z, zI_add, zI_sub, zI_mul, zI_neg, zL_add, zL_sub, zL_mul, zL_neg, zI_l, zI_cl, zI_le_t, zI_le_f, zI_lt_t, zI_lt_f, zI_eq_t, zI_eq_f, zI_in_t, zz_isIn_t, zz_isIn_f, not_true_eq_false, not_false_eq_true, true_or, or_true, false_or, or_false, true_and, and_true, false_and, and_false]
  rw [show (52 + 3 * (p : Int)).toNat = 0 + 52 + 3 * p by omega, (hL.2.2 p hp).2.2, nI_z]
theorem rf_cellMany (hP : sm_mP μ P) : f_X12_cellMany μ = some (zI ((sp_c P * sp_r P : Nat) : Int), μ) := by
  unfold f_X12_cellMany
  rw [show (Int32.toNatClampNeg 3) = 3 from rfl, show (Int32.toNatClampNeg 4) = 4 from rfl, hP.1, hP.2.1, nI_z, nI_z, zI_mul, Int.natCast_mul]
theorem cl_cells (hP : sm_cP μ t P) : f_X5_cells μ t = zI ((sp_c P * sp_r P : Nat) : Int) := by
  unfold f_X5_cells
  rw [hP.1, hP.2.1, nI_z, nI_z, zI_mul, Int.natCast_mul]
theorem rf_cellOrder (hP : sm_mP μ P) (hk : sp_ok P) {k : Nat} (hk2 : k < sp_c P * sp_r P) : f_X12_cellOrder (zI k) μ = some (zI ((k % sp_c P + 7 * (k / sp_c P) : Nat) : Int), μ) := by
  have hb := sp_bd hk
  have hc := sp_cells hk
  have h0 : 0 < sp_c P := Nat.pos_of_ne_zero (fun q => by rw [q] at hk2; omega)
  unfold f_X12_cellOrder
  rw [show (Int32.toNatClampNeg 3) = 3 from rfl, hP.1]
  simp (disch := omega) only [↓reduceIte, ↓shl_ap, shb_ap, shv_ap, zI_lit, zL_lit, nI_z, lN_z, ofN_z, zI_add, zI_sub, zI_mul, zI_neg, zL_add, zL_sub, zL_mul, zL_neg, zI_l, zI_cl, zI_le_t, zI_le_f, zI_lt_t, zI_lt_f, zI_eq_t, zI_eq_f, zI_in_t, zz_isIn_t, zz_isIn_f, not_true_eq_false, not_false_eq_true, true_or, or_true, false_or, or_false, true_and, and_true, false_and, and_false, zI_div, zI_mod]
  push_cast
  rfl
theorem sp_div {k : Nat} (hk : k < sp_c P * sp_r P) : k % sp_c P < sp_c P ∧ k / sp_c P < sp_r P ∧ k / sp_c P * sp_c P + k % sp_c P = k := by
  have h0 : 0 < sp_c P := Nat.pos_of_ne_zero (fun q => by rw [q] at hk; omega)
  exact ⟨Nat.mod_lt _ h0, Nat.div_lt_of_lt_mul hk, by rw [Nat.mul_comm]; exact Nat.div_add_mod k (sp_c P)⟩
theorem rf_heightOrd (hL : sm_mL (sh_i μ 330) 0 P L) (hk : sp_ok P) {k : Nat} (hk2 : k < sp_c P * sp_r P) : f_X12_heightOf (zI ((k % sp_c P + 7 * (k / sp_c P) : Nat) : Int)) μ = some (zI (sl_h L k), μ) := by
  have h := sp_div hk2
  rw [rf_heightOf hL hk h.1 h.2.1, h.2.2]
end Acc
