/-! images -/
def chk (b : Nat → Nat) : Nat → Nat
  | 0 => 227
  | n + 1 => (3 * chk b n + b n) % 251
theorem chk_lt {b : Nat → Nat} : ∀ n, chk b n < 251
  | 0 => by show (227 : Nat) < 251; omega
  | n + 1 => by rw [chk]; omega
theorem cl_chk {μ : sh_Mem} {r m n : Nat} {b : Nat → Nat} (hm : n ≤ m) (hm2 : m ≤ 1600) (hb : ∀ j, j < n → b j < 256 ∧ sh_i μ r j = zI (b j)) : ∀ (g f i : Nat), i + g = n → g < f → F_X11_checkOf f 1 m r (zI n) (zI (chk b i)) (zI i) μ = some (zI (chk b n), μ) := by
  intro g
  induction g with
  | zero =>
    intro f i hi hf
    obtain ⟨f, rfl⟩ : ∃ q, f = q + 1 := ⟨f - 1, by omega⟩
    have : i = n := by omega
    subst this
    rw [F_X11_checkOf]
    simp (disch := omega) only [↓reduceIte, ↓shl_ap, shb_ap, shv_ap, zI_lit, zL_lit, nI_z, lN_z, ofN_z, zI_add, zI_sub, zI_mul, zI_neg, zL_add, zL_sub, zL_mul, zL_neg, zI_l, zI_cl, zI_le_t, zI_le_f, zI_lt_t, zI_lt_f, zI_eq_t, zI_eq_f, zI_in_t, zz_isIn_t, zz_isIn_f, not_true_eq_false, not_false_eq_true, true_or, or_true, false_or, or_false, true_and, and_true, false_and, and_false, Nat.reduceLeDiff, Int.reduceAdd, Int.reduceSub, Int.reduceMul, Int.reduceNeg, Int.reduceToNat, Nat.reduceAdd, Nat.reduceMul, Nat.reduceSub, Int.toNat_natCast, zN_le_t, zN_le_f]
  | succ g ih =>
    intro f i hi hf
    obtain ⟨f, rfl⟩ : ∃ q, f = q + 1 := ⟨f - 1, by omega⟩
    obtain ⟨b1, b2⟩ := hb i (by omega)
    have hc := chk_lt (b := b) i
    have := ih f (i + 1) (by omega) (by omega)
    have ev : (((3 * chk b i + b i) % 251 : Nat) : Int) = (3 * (chk b i : Int) + (b i : Int)) % 251 := by omega
    rw [chk, ev] at this
    rw [F_X11_checkOf]
    simp (disch := omega) only [↓reduceIte, ↓shl_ap, shb_ap, shv_ap, zI_lit, zL_lit, nI_z, lN_z, ofN_z, zI_add, zI_sub, zI_mul, zI_neg, zL_add, zL_sub, zL_mul, zL_neg, zI_l, zI_cl, zI_le_t, zI_le_f, zI_lt_t, zI_lt_f, zI_eq_t, zI_eq_f, zI_in_t, zz_isIn_t, zz_isIn_f, not_true_eq_false, not_false_eq_true, true_or, or_true, false_or, or_false, true_and, and_true, false_and, and_false, Nat.reduceLeDiff, Int.reduceAdd, Int.reduceSub, Int.reduceMul, Int.reduceNeg, Int.reduceToNat, Nat.reduceAdd, Nat.reduceMul, Nat.reduceSub, Int.toNat_natCast, zI_div, zI_mod, b2, zN_le_t, zN_le_f]
    exact this
theorem cl_check {μ : sh_Mem} {r m n : Nat} {b : Nat → Nat} (hm : n ≤ m) (hm2 : m ≤ 1600) (hb : ∀ j, j < n → b j < 256 ∧ sh_i μ r j = zI (b j)) : f_X11_checkOf r m (zI n) μ = some (zI (chk b n), μ) :=
  cl_chk hm hm2 hb n sh_fuel 0 (by omega) (by rw [sh_fuel_eq]; omega)
theorem rf_chk {μ : sh_Mem} {r m n : Nat} {b : Nat → Nat} (hm : n ≤ m) (hm2 : m ≤ 1600) (hb : ∀ j, j < n → b j < 256 ∧ sh_i μ r j = zI (b j)) : ∀ (g f i : Nat), i + g = n → g < f → F_X12_checked f 1 m r (zI n) (zI (chk b i)) (zI i) μ = some (zI (chk b n), μ) := by
  intro g
  induction g with
  | zero =>
    intro f i hi hf
    obtain ⟨f, rfl⟩ : ∃ q, f = q + 1 := ⟨f - 1, by omega⟩
    have : i = n := by omega
    subst this
    rw [F_X12_checked]
    simp (disch := omega) only [↓reduceIte, ↓shl_ap, shb_ap, shv_ap, zI_lit, zL_lit, nI_z, lN_z, ofN_z, zI_add, zI_sub, zI_mul, zI_neg, zL_add, zL_sub, zL_mul, zL_neg, zI_l, zI_cl, zI_le_t, zI_le_f, zI_lt_t, zI_lt_f, zI_eq_t, zI_eq_f, zI_in_t, zz_isIn_t, zz_isIn_f, not_true_eq_false, not_false_eq_true, true_or, or_true, false_or, or_false, true_and, and_true, false_and, and_false, Nat.reduceLeDiff, Int.reduceAdd, Int.reduceSub, Int.reduceMul, Int.reduceNeg, Int.reduceToNat, Nat.reduceAdd, Nat.reduceMul, Nat.reduceSub, Int.toNat_natCast, zN_le_t, zN_le_f]
  | succ g ih =>
    intro f i hi hf
    obtain ⟨f, rfl⟩ : ∃ q, f = q + 1 := ⟨f - 1, by omega⟩
    obtain ⟨b1, b2⟩ := hb i (by omega)
    have hc := chk_lt (b := b) i
    have := ih f (i + 1) (by omega) (by omega)
    have ev : (((3 * chk b i + b i) % 251 : Nat) : Int) = (3 * (chk b i : Int) + (b i : Int)) % 251 := by omega
    rw [chk, ev] at this
    rw [F_X12_checked]
    simp (disch := omega) only [↓reduceIte, ↓shl_ap, shb_ap, shv_ap, zI_lit, zL_lit, nI_z, lN_z, ofN_z, zI_add, zI_sub, zI_mul, zI_neg, zL_add, zL_sub, zL_mul, zL_neg, zI_l, zI_cl, zI_le_t, zI_le_f, zI_lt_t, zI_lt_f, zI_eq_t, zI_eq_f, zI_in_t, zz_isIn_t, zz_isIn_f, not_true_eq_false, not_false_eq_true, true_or, or_true, false_or, or_false, true_and, and_true, false_and, and_false, Nat.reduceLeDiff, Int.reduceAdd, Int.reduceSub, Int.reduceMul, Int.reduceNeg, Int.reduceToNat, Nat.reduceAdd, Nat.reduceMul, Nat.reduceSub, Int.toNat_natCast, zI_div, zI_mod, b2, zN_le_t, zN_le_f]
    exact this
theorem rf_check {μ : sh_Mem} {r m n : Nat} {b : Nat → Nat} (hm : n ≤ m) (hm2 : m ≤ 1600) (hb : ∀ j, j < n → b j < 256 ∧ sh_i μ r j = zI (b j)) : f_X12_checked r m (zI n) μ = some (zI (chk b n), μ) :=
  rf_chk hm hm2 hb n sh_fuel 0 (by omega) (by rw [sh_fuel_eq]; omega)
def pimq (L : sl_T) (q : Nat) : Nat := if q % 4 = 0 then sl_x L (q / 4) else if q % 4 = 1 then sl_y L (q / 4) else if q % 4 = 2 then sl_t L (q / 4) else sl_k L (q / 4)
/-- an image's bytes, but the last -/
def pim (P : sp_T) (L : sl_T) (j : Nat) : Nat := if j = 0 then sl_d L / 256 else if j = 1 then sl_d L % 256 else if j < 2 + sp_c P * sp_r P then sl_h L (j - 2) else pimq L (j - (2 + sp_c P * sp_r P))
def ipn (P : sp_T) : Nat := 2 + sp_c P * sp_r P + 4 * sp_np P
section Im
variable {t : Nat} {P : sp_T} {L : sl_T}
theorem pim_h {k : Nat} (h : k < sp_c P * sp_r P) : pim P L (2 + k) = sl_h L k := by
  unfold pim
  rw [if_neg (by omega), if_neg (by omega), if_pos (by omega), show 2 + k - 2 = k by omega]
theorem pim_q {q : Nat} : pim P L (2 + sp_c P * sp_r P + q) = pimq L q := by
  unfold pim
  rw [if_neg (by omega), if_neg (by omega), if_neg (by omega), show 2 + sp_c P * sp_r P + q - (2 + sp_c P * sp_r P) = q by omega]
theorem pimq_x {p : Nat} : pimq L (4 * p) = sl_x L p := by
  unfold pimq
  rw [if_pos (by omega), show 4 * p / 4 = p by omega]
theorem pimq_y {p : Nat} : pimq L (4 * p + 1) = sl_y L p := by
  unfold pimq
  rw [if_neg (by omega), if_pos (by omega), show (4 * p + 1) / 4 = p by omega]
theorem pimq_t {p : Nat} : pimq L (4 * p + 2) = sl_t L p := by
  unfold pimq
  rw [if_neg (by omega), if_neg (by omega), if_pos (by omega), show (4 * p + 2) / 4 = p by omega]
theorem pimq_k {p : Nat} : pimq L (4 * p + 3) = sl_k L p := by
  unfold pimq
  rw [if_neg (by omega), if_neg (by omega), if_neg (by omega), show (4 * p + 3) / 4 = p by omega]
theorem k32 (hk : sp_ok P) {v : Nat} (h : v < 2 ^ sp_nt P) : v < 32 := by
  have hb := sp_bd hk
  exact Nat.lt_of_lt_of_le h (Nat.le_trans (Nat.pow_le_pow_right (by omega) (show sp_nt P ≤ 5 by omega)) (by decide))
theorem pim_lt (hk : sp_ok P) (hl : sl_ok P L) {j : Nat} (hj : j < ipn P) : pim P L j < 256 := by
  have hb := sp_bd hk
  have hd := hl.1
  unfold ipn at hj
  by_cases c0 : j = 0
  · unfold pim; rw [if_pos c0]; omega
  by_cases c1 : j = 1
  · unfold pim; rw [if_neg c0, if_pos c1]; omega
  by_cases c2 : j < 2 + sp_c P * sp_r P
  · unfold pim; rw [if_neg c0, if_neg c1, if_pos c2]
    have := hl.2.1 (j - 2) (by omega)
    omega
  · unfold pim; rw [if_neg c0, if_neg c1, if_neg c2]
    obtain ⟨a1, a2, a3, a4⟩ := hl.2.2 ((j - (2 + sp_c P * sp_r P)) / 4) (by omega)
    have := k32 hk a4
    unfold pimq
    split
    · omega
    split
    · omega
    split
    · omega
    · omega
theorem ipn_le (hk : sp_ok P) : ipn P ≤ 79 := by
  have hb := sp_bd hk
  have := sp_cells hk
  unfold ipn
  omega
def nI1 (r k : Nat) : Prop := r = 289 ∨ (r = 0 ∧ k = 18)
def nI2 (r k : Nat) : Prop := r = 367 ∨ (r = 291 ∧ k = 113)
theorem nI1_cL {μ μ' : sh_Mem} (hf : sh_fr nI1 μ μ') (h : sm_cL μ 49 P L) : sm_cL μ' 49 P L := h.cg (fun j hj => hf.row _ (fun k => by unfold nI1; omega))
theorem nI1_cP {μ μ' : sh_Mem} (ht : sh_isP t) (hf : sh_fr nI1 μ μ') (h : sm_cP μ t P) : sm_cP μ' t P := h.cg (fun j hj _ _ => hf.row _ (fun k => by rcases ht with rfl | rfl <;> (unfold nI1; omega)))
theorem cl_img (hk : sp_ok P) (ht : sh_isP t) (hl : sl_ok P L) {i1 : Int32} : ∀ (g f p : Nat) (μ : sh_Mem), p + g = sp_np P → g < f → sh_r μ 0 7 = some t → sm_cP μ t P → sm_cL μ 49 P L → (∀ j, j < 2 + sp_c P * sp_r P + 4 * p → sh_i μ 289 j = zI (pim P L j)) → ∃ μ', F_X11_image f 1 i1 (zI ((2 + sp_c P * sp_r P + 4 * p : Nat) : Int)) (zI p) μ = some (zI ((ipn P + 1 : Nat) : Int), μ') ∧ sh_fr nI1 μ μ' ∧ sh_i μ' 0 18 = zI ((ipn P + 1 : Nat) : Int) ∧ (∀ j, j < ipn P → sh_i μ' 289 j = zI (pim P L j)) ∧ sh_i μ' 289 (ipn P) = zI (chk (pim P L) (ipn P)) := by
  have hb := sp_bd hk
  have hi := ipn_le hk
  have hc49 := sp_cells hk
  intro g
  induction g with
  | zero =>
    intro f p μ hp hf hr hP hc hj
    obtain ⟨f, rfl⟩ : ∃ q, f = q + 1 := ⟨f - 1, by omega⟩
    have hp : p = sp_np P := by omega
    subst hp
    have hN : 2 + sp_c P * sp_r P + 4 * sp_np P = ipn P := rfl
    rw [hN] at hj ⊢
    have hck := cl_check (μ := μ) (r := 289) (m := 80) (n := ipn P) (b := pim P L) (by omega) (by omega) (fun j q => ⟨pim_lt hk hl q, hj j q⟩)
    refine ⟨sh_setI (sh_setI μ 289 (ipn P) (zI (chk (pim P L) (ipn P)))) 0 18 (zI ((ipn P + 1 : Nat) : Int)), ?_, sh_fr_I (sh_fr_I sh_fr.rf (Or.inl rfl)) (Or.inr ⟨rfl, rfl⟩), ir_set, fun j q => ?_, ?_⟩
    · rw [F_X11_image, shr_ap hr]
      simp (disch := omega) only [↓reduceIte, ↓shl_ap, shb_ap, shv_ap, zI_lit, zL_lit, nI_z, lN_z, ofN_z, zI_add, zI_sub, zI_mul, zI_neg, zL_add, zL_sub, zL_mul, zL_neg, zI_l, zI_cl, zI_le_t, zI_le_f, zI_lt_t, zI_lt_f, zI_eq_t, zI_eq_f, zI_in_t, zz_isIn_t, zz_isIn_f, not_true_eq_false, not_false_eq_true, true_or, or_true, false_or, or_false, true_and, and_true, false_and, and_false, ir_set, ir_set_k, ir_set_r, ir_row, ir_row_r, sh_i_setL, sh_i_setR, sh_r_setI, sh_r_setL, sh_r_rowI, sh_l_setI, sh_l_rowI, lr_set, lr_set_k, lr_set_r, Nat.reduceLeDiff, Int.reduceAdd, Int.reduceSub, Int.reduceMul, Int.reduceNeg, Int.reduceToNat, Nat.reduceAdd, Nat.reduceMul, Nat.reduceSub, Int.toNat_natCast, hr, shr_ap hr, shp ht, hP.2.2.2.1, hck, zN_le_t, zN_le_f]
      rfl
    · rw [ir_set_r (by omega), ir_set_k (by omega)]; exact hj j q
    · rw [ir_set_r (by omega), ir_set]
  | succ g ih =>
    intro f p μ hp hf hr hP hc hj
    obtain ⟨f, rfl⟩ : ∃ q, f = q + 1 := ⟨f - 1, by omega⟩
    obtain ⟨w1, w2, w3, w4⟩ := hc.2.2 p (by omega)
    rw [nI_z] at w1 w2 w3 w4
    obtain ⟨A, hA⟩ : ∃ A, A = 2 + sp_c P * sp_r P + 4 * p := ⟨_, rfl⟩
    have hA80 : A + 4 ≤ 79 := by unfold ipn at hi; omega
    rw [← hA] at hj ⊢
    have fr1 : sh_fr nI1 μ (sh_setI (sh_setI (sh_setI (sh_setI μ 289 A (zI (sl_x L p))) 289 (A + 1) (zI (sl_y L p))) 289 (A + 2) (zI (sl_t L p))) 289 (A + 3) (zI (sl_k L p))) := sh_fr_I (sh_fr_I (sh_fr_I (sh_fr_I sh_fr.rf (Or.inl rfl)) (Or.inl rfl)) (Or.inl rfl)) (Or.inl rfl)
    have hj1 : ∀ j, j < 2 + sp_c P * sp_r P + 4 * (p + 1) → sh_i (sh_setI (sh_setI (sh_setI (sh_setI μ 289 A (zI (sl_x L p))) 289 (A + 1) (zI (sl_y L p))) 289 (A + 2) (zI (sl_t L p))) 289 (A + 3) (zI (sl_k L p))) 289 j = zI (pim P L j) := by
      intro j q
      by_cases c0 : j < A
      · rw [ir_set_k (by omega), ir_set_k (by omega), ir_set_k (by omega), ir_set_k (by omega)]; exact hj j c0
      · have hc4 : j = A ∨ j = A + 1 ∨ j = A + 2 ∨ j = A + 3 := by omega
        rcases hc4 with rfl | rfl | rfl | rfl
        · rw [ir_set_k (by omega), ir_set_k (by omega), ir_set_k (by omega), ir_set, hA, pim_q, pimq_x]
        · rw [ir_set_k (by omega), ir_set_k (by omega), ir_set, hA, Nat.add_assoc, pim_q, pimq_y]
        · rw [ir_set_k (by omega), ir_set, hA, Nat.add_assoc, pim_q, pimq_t]
        · rw [ir_set, hA, Nat.add_assoc, pim_q, pimq_k]
    obtain ⟨μ', k1, k2, k3, k4, k5⟩ := ih f (p + 1) _ (by omega) (by omega) (by rw [fr1.1]; exact hr) (nI1_cP ht fr1 hP) (nI1_cL fr1 hc) hj1
    refine ⟨μ', ?_, fr1.trans k2, k3, k4, k5⟩
    rw [← k1, F_X11_image, shr_ap hr]
    simp (disch := omega) only [↓reduceIte, ↓shl_ap, shb_ap, shv_ap, zI_lit, zL_lit, nI_z, lN_z, ofN_z, zI_add, zI_sub, zI_mul, zI_neg, zL_add, zL_sub, zL_mul, zL_neg, zI_l, zI_cl, zI_le_t, zI_le_f, zI_lt_t, zI_lt_f, zI_eq_t, zI_eq_f, zI_in_t, zz_isIn_t, zz_isIn_f, not_true_eq_false, not_false_eq_true, true_or, or_true, false_or, or_false, true_and, and_true, false_and, and_false, ir_set, ir_set_k, ir_set_r, ir_row, ir_row_r, sh_i_setL, sh_i_setR, sh_r_setI, sh_r_setL, sh_r_rowI, sh_l_setI, sh_l_rowI, lr_set, lr_set_k, lr_set_r, Nat.reduceLeDiff, Int.reduceAdd, Int.reduceSub, Int.reduceMul, Int.reduceNeg, Int.reduceToNat, Nat.reduceAdd, Nat.reduceMul, Nat.reduceSub, Int.toNat_natCast, hr, shr_ap hr, shp ht, hP.2.2.2.1, w1, w2, w3, w4, show ((A : Int) + 1).toNat = A + 1 by omega, show ((A : Int) + 2).toNat = A + 2 by omega, show ((A : Int) + 3).toNat = A + 3 by omega, zN_le_t, zN_le_f]
    rw [show ((A : Int) + 4) = ((2 + sp_c P * sp_r P + 4 * (p + 1) : Nat) : Int) by omega]
    rfl
theorem cl_image {μ : sh_Mem} (hk : sp_ok P) (ht : sh_isP t) (hl : sl_ok P L) (hr : sh_r μ 0 7 = some t) (hP : sm_cP μ t P) (hc : sm_cL μ 49 P L) : ∃ μ', f_X11_image μ = some (zI ((ipn P + 1 : Nat) : Int), μ') ∧ sh_fr nI1 μ μ' ∧ sh_i μ' 0 18 = zI ((ipn P + 1 : Nat) : Int) ∧ (∀ j, j < ipn P → sh_i μ' 289 j = zI (pim P L j)) ∧ sh_i μ' 289 (ipn P) = zI (chk (pim P L) (ipn P)) := by
  have hb := sp_bd hk
  have hi := ipn_le hk
  have hc49 := sp_cells hk
  have hd := hl.1
  have hday : sh_i μ 49 0 = zI (sl_d L) := by rw [hc.1, nI_z]
  obtain ⟨m, hm⟩ : ∃ m, m = sh_rowI (sh_setI (sh_setI μ 289 0 (zI ((sl_d L / 256 : Nat) : Int))) 289 1 (zI ((sl_d L % 256 : Nat) : Int))) 289 (va_cpy (sh_i (sh_setI (sh_setI μ 289 0 (zI ((sl_d L / 256 : Nat) : Int))) 289 1 (zI ((sl_d L % 256 : Nat) : Int))) 50) (sh_i (sh_setI (sh_setI μ 289 0 (zI ((sl_d L / 256 : Nat) : Int))) 289 1 (zI ((sl_d L % 256 : Nat) : Int))) 289) 0 2 (sp_c P * sp_r P)) := ⟨_, rfl⟩
  have fr1 : sh_fr nI1 μ m := by rw [hm]; exact sh_fr_row (sh_fr_I (sh_fr_I sh_fr.rf (Or.inl rfl)) (Or.inl rfl)) (fun _ => Or.inl rfl)
  have hj : ∀ j, j < 2 + sp_c P * sp_r P + 4 * 0 → sh_i m 289 j = zI (pim P L j) := by
    intro j q
    rw [hm, ir_row]
    unfold va_cpy
    by_cases c : 2 ≤ j
    · rw [if_pos (by omega), ir_set_r (by omega), ir_set_r (by omega)]
      obtain ⟨k, rfl⟩ : ∃ k, j = 2 + k := ⟨j - 2, by omega⟩
      rw [pim_h (by omega), show 0 + (2 + k - 2) = k by omega, hc.2.1 k (by omega), nI_z]
    · rw [if_neg (by omega)]
      have hj2 : j = 0 ∨ j = 1 := by omega
      rcases hj2 with rfl | rfl
      · rw [ir_set_k (by omega), ir_set]; rfl
      · rw [ir_set]; rfl
  obtain ⟨μ', k1, k2, k3, k4, k5⟩ := cl_img (i1 := zI ((sp_c P * sp_r P : Nat) : Int)) hk ht hl (sp_np P) sh_fuel 0 m (by omega) (by rw [sh_fuel_eq]; omega) (by rw [fr1.1]; exact hr) (nI1_cP ht fr1 hP) (nI1_cL fr1 hc) hj
  refine ⟨μ', ?_, fr1.trans k2, k3, k4, k5⟩
  rw [← k1]
  unfold f_X11_image
  rw [shr_ap hr]
  simp (disch := omega) only [↓reduceIte, ↓shl_ap, shb_ap, shv_ap, zI_lit, zL_lit, nI_z, lN_z, ofN_z, zI_add, zI_sub, zI_mul, zI_neg, zL_add, zL_sub, zL_mul, zL_neg, zI_l, zI_cl, zI_le_t, zI_le_f, zI_lt_t, zI_lt_f, zI_eq_t, zI_eq_f, zI_in_t, zz_isIn_t, zz_isIn_f, not_true_eq_false, not_false_eq_true, true_or, or_true, false_or, or_false, true_and, and_true, false_and, and_false, ir_set, ir_set_k, ir_set_r, ir_row, ir_row_r, sh_i_setL, sh_i_setR, sh_r_setI, sh_r_setL, sh_r_rowI, sh_l_setI, sh_l_rowI, lr_set, lr_set_k, lr_set_r, Nat.reduceLeDiff, Int.reduceAdd, Int.reduceSub, Int.reduceMul, Int.reduceNeg, Int.reduceToNat, Nat.reduceAdd, Nat.reduceMul, Nat.reduceSub, Int.toNat_natCast, hr, shr_ap hr, shp ht, cl_cells hP, hday, zI_div, zI_mod, zN_le_t, zN_le_f]
  rw [hm]
  rfl
theorem rf_writes {μ : sh_Mem} {n : Nat} {v : Int32} (e : sh_i μ 291 113 = zI n) (hn : n < 80) : ∃ m, f_X12_writes v μ = some m ∧ sh_fr nI2 μ m ∧ sh_i m 291 113 = zI ((n + 1 : Nat) : Int) ∧ sh_i m 367 n = v ∧ ∀ j, j < n → sh_i m 367 j = sh_i μ 367 j := by
  refine ⟨sh_setI (sh_setI μ 367 n v) 291 113 (zI ((n + 1 : Nat) : Int)), ?_, sh_fr_I (sh_fr_I sh_fr.rf (Or.inl rfl)) (Or.inr ⟨rfl, rfl⟩), ir_set, by rw [ir_set_r (by omega), ir_set], fun j hj => by rw [ir_set_r (by omega), ir_set_k (by omega)]⟩
  unfold f_X12_writes
  simp (disch := omega) only [↓reduceIte, ↓shl_ap, shb_ap, shv_ap, zI_lit, zL_lit, nI_z, lN_z, ofN_z, zI_add, zI_sub, zI_mul, zI_neg, zL_add, zL_sub, zL_mul, zL_neg, zI_l, zI_cl, zI_le_t, zI_le_f, zI_lt_t, zI_lt_f, zI_eq_t, zI_eq_f, zI_in_t, zz_isIn_t, zz_isIn_f, not_true_eq_false, not_false_eq_true, true_or, or_true, false_or, or_false, true_and, and_true, false_and, and_false, ir_set, ir_set_k, ir_set_r, ir_row, ir_row_r, sh_i_setL, sh_i_setR, sh_r_setI, sh_r_setL, sh_r_rowI, sh_l_setI, sh_l_rowI, lr_set, lr_set_k, lr_set_r, Nat.reduceLeDiff, Int.reduceAdd, Int.reduceSub, Int.reduceMul, Int.reduceNeg, Int.reduceToNat, Nat.reduceAdd, Nat.reduceMul, Nat.reduceSub, Int.toNat_natCast, e, zN_le_t, zN_le_f]
  rfl
theorem nI2_mP {μ μ' : sh_Mem} (hf : sh_fr nI2 μ μ') (hM : sm_mP μ P) : sm_mP μ' P := hM.f3 (fun r k z => hf.i r k (fun w => by unfold nI2 at w; omega)) (hf.lrow _ (fun k w => by unfold nI2 at w; omega))
theorem nI2_mL {μ μ' : sh_Mem} (hf : sh_fr nI2 μ μ') (hm : sm_mL (sh_i μ 330) 0 P L) : sm_mL (sh_i μ' 330) 0 P L := by rw [hf.row 330 (fun k w => by unfold nI2 at w; omega)]; exact hm
theorem rf_img1 (hk : sp_ok P) (hl : sl_ok P L) : ∀ (g f k : Nat) (μ : sh_Mem), k + g = sp_c P * sp_r P → g < f → sm_mP μ P → sm_mL (sh_i μ 330) 0 P L → sh_i μ 291 113 = zI ((2 + k : Nat) : Int) → (∀ j, j < 2 + k → sh_i μ 367 j = zI (pim P L j)) → ∃ μ', F_X12_image f 1 (zI k) μ = F_X12_image (f - g - 1) 2 (zI 0) μ' ∧ sh_fr nI2 μ μ' ∧ sh_i μ' 291 113 = zI ((2 + sp_c P * sp_r P : Nat) : Int) ∧ ∀ j, j < 2 + sp_c P * sp_r P → sh_i μ' 367 j = zI (pim P L j) := by
  have hb := sp_bd hk
  have hc49 := sp_cells hk
  intro g
  induction g with
  | zero =>
    intro f k μ hg hf hM hm e hj
    obtain ⟨f, rfl⟩ : ∃ q, f = q + 1 := ⟨f - 1, by omega⟩
    have hk2 : k = sp_c P * sp_r P := by omega
    subst hk2
    refine ⟨μ, ?_, sh_fr.rf, e, hj⟩
    rw [show f + 1 - 0 - 1 = f by omega, F_X12_image, rf_cellMany hM]
    simp (disch := omega) only [↓reduceIte, ↓shl_ap, shb_ap, shv_ap, zI_lit, zL_lit, nI_z, lN_z, ofN_z, zI_add, zI_sub, zI_mul, zI_neg, zL_add, zL_sub, zL_mul, zL_neg, zI_l, zI_cl, zI_le_t, zI_le_f, zI_lt_t, zI_lt_f, zI_eq_t, zI_eq_f, zI_in_t, zz_isIn_t, zz_isIn_f, not_true_eq_false, not_false_eq_true, true_or, or_true, false_or, or_false, true_and, and_true, false_and, and_false, Nat.reduceLeDiff, Int.reduceAdd, Int.reduceSub, Int.reduceMul, Int.reduceNeg, Int.reduceToNat, Nat.reduceAdd, Nat.reduceMul, Nat.reduceSub, Int.toNat_natCast, zN_le_t, zN_le_f]
  | succ g ih =>
    intro f k μ hg hf hM hm e hj
    obtain ⟨f, rfl⟩ : ∃ q, f = q + 1 := ⟨f - 1, by omega⟩
    obtain ⟨m, a1, a2, a3, a4, a5⟩ := rf_writes (v := zI (sl_h L k)) e (by omega)
    obtain ⟨μ', k1, k2, k3, k4⟩ := ih f (k + 1) m (by omega) (by omega) (nI2_mP a2 hM) (nI2_mL a2 hm) a3 (fun j q => by
      by_cases c : j < 2 + k
      · rw [a5 j c]; exact hj j c
      · have : j = 2 + k := by omega
        subst this
        rw [a4, pim_h (by omega)])
    refine ⟨μ', ?_, a2.trans k2, k3, k4⟩
    rw [show f + 1 - (g + 1) - 1 = f - g - 1 by omega, ← k1, F_X12_image, rf_cellMany hM]
    simp (disch := omega) only [↓reduceIte, ↓shl_ap, shb_ap, shv_ap, zI_lit, zL_lit, nI_z, lN_z, ofN_z, zI_add, zI_sub, zI_mul, zI_neg, zL_add, zL_sub, zL_mul, zL_neg, zI_l, zI_cl, zI_le_t, zI_le_f, zI_lt_t, zI_lt_f, zI_eq_t, zI_eq_f, zI_in_t, zz_isIn_t, zz_isIn_f, not_true_eq_false, not_false_eq_true, true_or, or_true, false_or, or_false, true_and, and_true, false_and, and_false, Nat.reduceLeDiff, Int.reduceAdd, Int.reduceSub, Int.reduceMul, Int.reduceNeg, Int.reduceToNat, Nat.reduceAdd, Nat.reduceMul, Nat.reduceSub, Int.toNat_natCast, rf_cellOrder hM hk (show k < sp_c P * sp_r P by omega), rf_heightOrd hm hk (show k < sp_c P * sp_r P by omega), a1, zN_le_t, zN_le_f]
    rfl
theorem rf_img2 (hk : sp_ok P) (hl : sl_ok P L) : ∀ (g f p : Nat) (μ : sh_Mem), p + g = sp_np P → g < f → sm_mP μ P → sm_mL (sh_i μ 330) 0 P L → sh_i μ 291 113 = zI ((2 + sp_c P * sp_r P + 4 * p : Nat) : Int) → (∀ j, j < 2 + sp_c P * sp_r P + 4 * p → sh_i μ 367 j = zI (pim P L j)) → ∃ μ', F_X12_image f 2 (zI p) μ = some (zI ((ipn P + 1 : Nat) : Int), μ') ∧ sh_fr nI2 μ μ' ∧ sh_i μ' 291 113 = zI ((ipn P + 1 : Nat) : Int) ∧ (∀ j, j < ipn P → sh_i μ' 367 j = zI (pim P L j)) ∧ sh_i μ' 367 (ipn P) = zI (chk (pim P L) (ipn P)) := by
  have hb := sp_bd hk
  have hi := ipn_le hk
  have hc49 := sp_cells hk
  intro g
  induction g with
  | zero =>
    intro f p μ hg hf hM hm e hj
    obtain ⟨f, rfl⟩ : ∃ q, f = q + 1 := ⟨f - 1, by omega⟩
    have hp : p = sp_np P := by omega
    subst hp
    have hN : 2 + sp_c P * sp_r P + 4 * sp_np P = ipn P := rfl
    rw [hN] at hj e
    have hck := rf_check (μ := μ) (r := 367) (m := 80) (n := ipn P) (b := pim P L) (by omega) (by omega) (fun j q => ⟨pim_lt hk hl q, hj j q⟩)
    obtain ⟨m, a1, a2, a3, a4, a5⟩ := rf_writes (v := zI (chk (pim P L) (ipn P))) e (by omega)
    refine ⟨m, ?_, a2, a3, fun j q => (a5 j q).trans (hj j q), a4⟩
    rw [F_X12_image, rf_personMany hM]
    simp (disch := omega) only [↓reduceIte, ↓shl_ap, shb_ap, shv_ap, zI_lit, zL_lit, nI_z, lN_z, ofN_z, zI_add, zI_sub, zI_mul, zI_neg, zL_add, zL_sub, zL_mul, zL_neg, zI_l, zI_cl, zI_le_t, zI_le_f, zI_lt_t, zI_lt_f, zI_eq_t, zI_eq_f, zI_in_t, zz_isIn_t, zz_isIn_f, not_true_eq_false, not_false_eq_true, true_or, or_true, false_or, or_false, true_and, and_true, false_and, and_false, Nat.reduceLeDiff, Int.reduceAdd, Int.reduceSub, Int.reduceMul, Int.reduceNeg, Int.reduceToNat, Nat.reduceAdd, Nat.reduceMul, Nat.reduceSub, Int.toNat_natCast, e, hck, a1, a3, zN_le_t, zN_le_f]
  | succ g ih =>
    intro f p μ hg hf hM hm e hj
    obtain ⟨f, rfl⟩ : ∃ q, f = q + 1 := ⟨f - 1, by omega⟩
    have hp : p < sp_np P := by omega
    obtain ⟨l1, l2, l3, l4⟩ := hl.2.2 p hp
    obtain ⟨A, hA⟩ : ∃ A, A = 2 + sp_c P * sp_r P + 4 * p := ⟨_, rfl⟩
    have hA80 : A + 4 ≤ 79 := by unfold ipn at hi; omega
    rw [← hA] at hj e
    obtain ⟨m1, a1, a2, a3, a4, a5⟩ := rf_writes (v := zI (sl_x L p)) e (by omega)
    obtain ⟨m2, b1, b2, b3, b4, b5⟩ := rf_writes (v := zI (sl_y L p)) a3 (by omega)
    obtain ⟨m3, c1, c2, c3, c4, c5⟩ := rf_writes (v := zI (sl_t L p)) b3 (by omega)
    obtain ⟨m4, d1, d2, d3, d4, d5⟩ := rf_writes (v := zI (sl_k L p)) c3 (by omega)
    have hm1 := nI2_mL a2 hm
    have hm2 := nI2_mL b2 hm1
    have hm3 := nI2_mL c2 hm2
    have hm4 := nI2_mL d2 hm3
    obtain ⟨μ', k1, k2, k3, k4, k5⟩ := ih f (p + 1) m4 (by omega) (by omega) (nI2_mP d2 (nI2_mP c2 (nI2_mP b2 (nI2_mP a2 hM)))) hm4 (by rw [d3]; congr 1; omega) (fun j q => by
      by_cases c : j < A
      · rw [d5 j (by omega), c5 j (by omega), b5 j (by omega), a5 j c]; exact hj j c
      · have hc4 : j = A ∨ j = A + 1 ∨ j = A + 1 + 1 ∨ j = A + 1 + 1 + 1 := by omega
        rcases hc4 with rfl | rfl | rfl | rfl
        · rw [d5 _ (by omega), c5 _ (by omega), b5 _ (by omega), a4, hA, pim_q, pimq_x]
        · rw [d5 _ (by omega), c5 _ (by omega), b4, hA, Nat.add_assoc, pim_q, pimq_y]
        · rw [d5 _ (by omega), c4, hA, Nat.add_assoc, Nat.add_assoc, pim_q, pimq_t]
        · rw [d4, hA, Nat.add_assoc, Nat.add_assoc, Nat.add_assoc, pim_q, pimq_k])
    refine ⟨μ', ?_, a2.trans (b2.trans (c2.trans (d2.trans k2))), k3, k4, k5⟩
    rw [← k1, F_X12_image, rf_personMany hM]
    simp (disch := omega) only [↓reduceIte, ↓shl_ap, shb_ap, shv_ap, zI_lit, zL_lit, nI_z, lN_z, ofN_z, zI_add, zI_sub, zI_mul, zI_neg, zL_add, zL_sub, zL_mul, zL_neg, zI_l, zI_cl, zI_le_t, zI_le_f, zI_lt_t, zI_lt_f, zI_eq_t, zI_eq_f, zI_in_t, zz_isIn_t, zz_isIn_f, not_true_eq_false, not_false_eq_true, true_or, or_true, false_or, or_false, true_and, and_true, false_and, and_false, Nat.reduceLeDiff, Int.reduceAdd, Int.reduceSub, Int.reduceMul, Int.reduceNeg, Int.reduceToNat, Nat.reduceAdd, Nat.reduceMul, Nat.reduceSub, Int.toNat_natCast, rf_cellOf hm hk hp, zI_div, zI_mod, show ((sl_x L p + 7 * sl_y L p : Nat) : Int) % 7 = sl_x L p by omega, show ((sl_x L p + 7 * sl_y L p : Nat) : Int) / 7 = sl_y L p by omega, show ((sl_x L p + 7 * sl_y L p : Nat) : Int) - (sl_y L p : Int) * 7 = sl_x L p by omega, a1, rf_cellOf hm1 hk hp, b1, rf_tiredOf hm2 hk hp, c1, rf_knowsOf hm3 hk hp, d1, zN_le_t, zN_le_f]
    rfl
theorem rf_image {μ : sh_Mem} (hk : sp_ok P) (hl : sl_ok P L) (hM : sm_mP μ P) (hm : sm_mL (sh_i μ 330) 0 P L) : ∃ μ', f_X12_image μ = some (zI ((ipn P + 1 : Nat) : Int), μ') ∧ sh_fr nI2 μ μ' ∧ sh_i μ' 291 113 = zI ((ipn P + 1 : Nat) : Int) ∧ (∀ j, j < ipn P → sh_i μ' 367 j = zI (pim P L j)) ∧ sh_i μ' 367 (ipn P) = zI (chk (pim P L) (ipn P)) := by
  have hd := hl.1
  have hc49 := sp_cells hk
  have hb := sp_bd hk
  have f0 : sh_fr nI2 μ (sh_setI μ 291 113 0) := sh_fr_I sh_fr.rf (Or.inr ⟨rfl, rfl⟩)
  obtain ⟨m1, a1, a2, a3, a4, a5⟩ := rf_writes (μ := sh_setI μ 291 113 0) (n := 0) (v := zI ((sl_d L / 256 : Nat) : Int)) ir_set (by omega)
  obtain ⟨m2, b1, b2, b3, b4, b5⟩ := rf_writes (v := zI ((sl_d L % 256 : Nat) : Int)) a3 (by omega)
  have hm0 := nI2_mL f0 hm
  have hm1 := nI2_mL a2 hm0
  have hm2 := nI2_mL b2 hm1
  have hM2 := nI2_mP b2 (nI2_mP a2 (nI2_mP f0 hM))
  have e0 : sh_i (sh_setI μ 291 113 0) 330 (Int32.toNatClampNeg 0) = zI (sl_d L) := by rw [show (Int32.toNatClampNeg 0) = 0 from rfl, hm0.1, nI_z]
  have e1 : sh_i m1 330 (Int32.toNatClampNeg 0) = zI (sl_d L) := by rw [show (Int32.toNatClampNeg 0) = 0 from rfl, hm1.1, nI_z]
  obtain ⟨m3, c1, c2, c3, c4⟩ := rf_img1 hk hl (sp_c P * sp_r P) sh_fuel 0 m2 (by omega) (by rw [sh_fuel_eq]; omega) hM2 hm2 b3 (fun j q => by
    have hj2 : j = 0 ∨ j = 1 := by omega
    rcases hj2 with rfl | rfl
    · rw [b5 0 (by omega), a4]; rfl
    · rw [b4]; rfl)
  obtain ⟨μ', d1, d2, d3, d4, d5⟩ := rf_img2 hk hl (sp_np P) (sh_fuel - sp_c P * sp_r P - 1) 0 m3 (by omega) (by rw [sh_fuel_eq]; omega) (nI2_mP c2 hM2) (nI2_mL c2 hm2) c3 c4
  refine ⟨μ', ?_, f0.trans (a2.trans (b2.trans (c2.trans d2))), d3, d4, d5⟩
  rw [← d1]
  refine Eq.trans ?_ c1
  unfold f_X12_image
  rw [shl_ap, e0, show (zI (sl_d L) : Int32) / 256 = zI ((sl_d L / 256 : Nat) : Int) by rw [show (256 : Int32) = zI 256 from rfl, zI_div (by omega)]; rfl, a1, shv_ap, e1, show (zI (sl_d L) : Int32) / 256 = zI ((sl_d L / 256 : Nat) : Int) by rw [show (256 : Int32) = zI 256 from rfl, zI_div (by omega)]; rfl, show zI (sl_d L) - zI ((sl_d L / 256 : Nat) : Int) * 256 = zI ((sl_d L % 256 : Nat) : Int) by rw [show (256 : Int32) = zI 256 from rfl, zI_mul, zI_sub]; congr 1; omega, b1, shv_ap]
  rfl
end Im
theorem Sim.pc {μ μ2 : sh_Mem} (h : Sim μ) (hG : sh_G μ2) (hf : sh_fr (fun r k => nI1 r k ∨ nI2 r k) μ μ2) (hp : sm_pic μ2) : Sim μ2 := by
  have hi : ∀ r k, ¬ r = 289 → ¬ r = 367 → ¬ (r = 0 ∧ k = 18) → ¬ (r = 291 ∧ k = 113) → sh_i μ2 r k = sh_i μ r k := fun r k q1 q2 q3 q4 => hf.i r k (by unfold nI1 nI2; omega)
  have hrow : ∀ r, ¬ r = 289 → ¬ r = 367 → ¬ r = 0 → ¬ r = 291 → sh_i μ2 r = sh_i μ r := fun r q1 q2 q3 q4 => funext fun k => hi r k q1 q2 (by omega) (by omega)
  obtain ⟨a1, a2, a3, a4, a5, a6, t, P, L, a7⟩ := h
  exact ⟨hG, a2.cg (hi _ _ (by omega) (by omega) (by omega) (by omega)) (hi _ _ (by omega) (by omega) (by omega) (by omega)) (hrow _ (by omega) (by omega) (by omega) (by omega)) (hrow _ (by omega) (by omega) (by omega) (by omega)), a3.cg (hi _ _ (by omega) (by omega) (by omega) (by omega)) (hi _ _ (by omega) (by omega) (by omega) (by omega)) (hi _ _ (by omega) (by omega) (by omega) (by omega)) (hi _ _ (by omega) (by omega) (by omega) (by omega)), a4.cg (hrow _ (by omega) (by omega) (by omega) (by omega)) (hrow _ (by omega) (by omega) (by omega) (by omega)), a5.cg (hf.2 0 16 (by unfold nI1 nI2; omega)).2 (hf.2 291 78 (by unfold nI1 nI2; omega)).2, hp, t, P, L, a7.cg hf.1 (fun r k q => hi _ _ (by unfold sm_S at q; omega) (by unfold sm_S at q; omega) (by unfold sm_S at q; omega) (by unfold sm_S at q; omega)) (funext fun k => (hf.2 323 k (by unfold nI1 nI2; omega)).2)⟩
theorem pr_31 : ∀ (μ : sh_Mem), Sim μ → ∃ (v : Int32) (μ1 μ2 : sh_Mem), f_X11_image μ = some (v, μ1) ∧ f_X12_image μ1 = some (v, μ2) ∧ Sim μ2 := by
  intro μ h
  obtain ⟨-, -, -, -, -, -, t, P, L, hR⟩ := id h
  obtain ⟨hr, hk, hl, hP, hM, hc, hm, hkp, hu, -⟩ := id hR
  obtain ⟨μ1, a1, a2, a3, a4, a5⟩ := cl_image hk hr.1 hl hr.2.1 hP hc
  have hof : sh_offM μ μ1 := fp_X11_image h.1 a1
  obtain ⟨μ2, b1, b2, b3, b4, b5⟩ := rf_image (L := L) hk hl (hM.off hof) (by rw [(hof 330 (by omega)).1]; exact hm)
  have hi := ipn_le hk
  have e289 : sh_i μ2 289 = sh_i μ1 289 := b2.row _ (fun k => by unfold nI2; omega)
  refine ⟨_, μ1, μ2, a1, b1, h.pc (gp_X12_image (gp_X11_image h.1 a1) b1) ((a2.mono (fun r k q => Or.inl q)).trans (b2.mono (fun r k q => Or.inr q))) ⟨ipn P + 1, by omega, ?_, by rw [b3, nI_z], fun j hj => ?_⟩⟩
  · rw [b2.i _ _ (by unfold nI2; omega), a3, nI_z]
  · rw [e289]
    by_cases c : j < ipn P
    · rw [a4 j c, b4 j c]
    · have : j = ipn P := by omega
      subst this
      rw [a5, b5]
