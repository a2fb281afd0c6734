/-! tells: the reference; tells as a call -/
section Tn
variable {q s : Nat} {P : sp_T} {L : sl_T} {m : sh_Mem}
theorem rf_numberOf {μ : sh_Mem} {k : Nat} (hk : sp_ok P) (h1 : k < sp_c P * sp_r P) : f_X12_numberOf (zI (ro P k : Int)) μ = some (zI ((8 * (k / sp_c P) + k % sp_c P : Nat) : Int), μ) := by
  have hro := ro_lt hk h1
  have hb := sp_bd hk
  obtain ⟨d1, d2, d3⟩ := sp_div h1
  have e1 : (ro P k : Int) / 7 = ((k / sp_c P : Nat) : Int) := by unfold ro; omega
  have e2 : (ro P k : Int) - ((k / sp_c P : Nat) : Int) * 7 = ((k % sp_c P : Nat) : Int) := by unfold ro; omega
  unfold f_X12_numberOf
  simp (disch := omega) only [↓reduceIte, ↓shl_ap, shb_ap, shv_ap, zI_lit, zL_lit, nI_z, lN_z, ofN_z, zI_add, zI_sub, zI_mul, zI_neg, zL_add, zL_sub, zL_mul, zL_neg, zI_l, zI_cl, zI_le_t, zI_le_f, zI_lt_t, zI_lt_f, zI_eq_t, zI_eq_f, zI_in_t, zz_isIn_t, zz_isIn_f, not_true_eq_false, not_false_eq_true, true_or, or_true, false_or, or_false, true_and, and_true, false_and, and_false, Nat.reduceLeDiff, Int.reduceAdd, Int.reduceSub, Int.reduceMul, Int.reduceNeg, Int.reduceToNat, Nat.reduceAdd, Nat.reduceMul, Nat.reduceSub, Int.toNat_natCast, zI_div, e1, e2, zN_le_t, zN_le_f]
  rfl
theorem rf_ma {d k : Nat} (hk : sp_ok P) (hl : sl_in P L) (hM : sm_mP m P) (e74 : sh_i m 291 74 = zI s) (hs : s < 128) (hE : ∀ p, p < sp_np P → ∀ d, d ≤ 30 → wE P L q m p d) (hd : d ≤ 30) (h1 : k < sp_c P * sp_r P) : f_X12_mostAlike (zI ((49 * d + ro P k : Nat) : Int)) m = some (zI (tM P L q s d k), m) := by
  have hro := ro_lt hk h1
  have hb := sp_bd hk
  exact rf_ma1 (s := s) (np := sp_np P) (H := fun p => sl_h (wL P L q p d) k) (D := 49 * d + ro P k) rfl (by omega) hM e74 hs (by omega) (fun p hp => ⟨(wL_in (q := q) (p := p) (d := d) hl).1 k h1, by rw [← Nat.add_assoc]; exact hE p hp d hd k h1⟩) (sp_np P) sh_fuel 0 (by omega) (by rw [sh_fuel_eq]; omega)
theorem rf_tl2 {i1 i2 : Int32} {d : Nat} (hk : sp_ok P) (hl : sl_in P L) (hM : sm_mP m P) (e74 : sh_i m 291 74 = zI s) (hs : s < 128) (hE : ∀ p, p < sp_np P → ∀ d, d ≤ 30 → wE P L q m p d) (hd : d ≤ 30) : ∀ (g f k : Nat) (st : tS), k + g = sp_c P * sp_r P → g < f → tok (sp_c P * sp_r P) st → F_X12_tells f 2 i1 i2 (zI st.1) (zI (ro P st.2.1 : Int)) (zI st.2.2) (zI d) (zI k) m = F_X12_tells (f - g - 1) 1 i1 i2 (zI (rowf (tM P L q s) d g k st).1) (zI (ro P (rowf (tM P L q s) d g k st).2.1 : Int)) (zI (rowf (tM P L q s) d g k st).2.2) (zI ((d + 1 : Nat) : Int)) (zI 0) m := by
  have hcs := sp_cells hk
  intro g
  induction g with
  | zero =>
    intro f k st hg hf hok
    obtain ⟨f, rfl⟩ : ∃ q, f = q + 1 := ⟨f - 1, by omega⟩
    have hk2 : k = sp_c P * sp_r P := by omega
    subst hk2
    rw [show f + 1 - 0 - 1 = f by omega, rowf, F_X12_tells, rf_cellMany hM]
    simp (disch := omega) only [↓reduceIte, ↓shl_ap, shb_ap, shv_ap, zI_lit, zL_lit, nI_z, lN_z, ofN_z, zI_add, zI_sub, zI_mul, zI_neg, zL_add, zL_sub, zL_mul, zL_neg, zI_l, zI_cl, zI_le_t, zI_le_f, zI_lt_t, zI_lt_f, zI_eq_t, zI_eq_f, zI_in_t, zz_isIn_t, zz_isIn_f, not_true_eq_false, not_false_eq_true, true_or, or_true, false_or, or_false, true_and, and_true, false_and, and_false, Nat.reduceLeDiff, Int.reduceAdd, Int.reduceSub, Int.reduceMul, Int.reduceNeg, Int.reduceToNat, Nat.reduceAdd, Nat.reduceMul, Nat.reduceSub, Int.toNat_natCast, zN_le_t, zN_le_f]
    rfl
  | succ g ih =>
    intro f k st hg hf hok
    obtain ⟨f, rfl⟩ : ∃ q, f = q + 1 := ⟨f - 1, by omega⟩
    have h1 : k < sp_c P * sp_r P := by omega
    have hro := ro_lt hk h1
    have hco : f_X12_cellOrder (zI k) m = some (zI (ro P k : Int), m) := rf_cellOrder hM hk h1
    have hma := rf_ma (q := q) (d := d) hk hl hM e74 hs hE hd h1
    have hma' : f_X12_mostAlike (zI (49 * (d : Int) + (ro P k : Int))) m = some (zI (tM P L q s d k), m) := hma
    have hM7 := tM_7 (L := L) (q := q) (s := s) hk d k
    obtain ⟨o1, o2, o3⟩ := id hok
    rw [rowf]
    by_cases c : tM P L q s d k < st.2.2
    · have est : stp (tM P L q s) d k st = (d, k, tM P L q s d k) := if_pos c
      have hrec := ih f (k + 1) (d, k, tM P L q s d k) (by omega) (by omega) ⟨hd, h1, by show tM P L q s d k ≤ 8; omega⟩
      rw [est, show f + 1 - (g + 1) - 1 = f - g - 1 by omega, ← hrec, F_X12_tells, rf_cellMany hM]
      simp (disch := omega) only [↓reduceIte, ↓shl_ap, shb_ap, shv_ap, zI_lit, zL_lit, nI_z, lN_z, ofN_z, zI_add, zI_sub, zI_mul, zI_neg, zL_add, zL_sub, zL_mul, zL_neg, zI_l, zI_cl, zI_le_t, zI_le_f, zI_lt_t, zI_lt_f, zI_eq_t, zI_eq_f, zI_in_t, zz_isIn_t, zz_isIn_f, not_true_eq_false, not_false_eq_true, true_or, or_true, false_or, or_false, true_and, and_true, false_and, and_false, Nat.reduceLeDiff, Int.reduceAdd, Int.reduceSub, Int.reduceMul, Int.reduceNeg, Int.reduceToNat, Nat.reduceAdd, Nat.reduceMul, Nat.reduceSub, Int.toNat_natCast, hco, hma', zN_le_t, zN_le_f]
      rfl
    · have est : stp (tM P L q s) d k st = st := if_neg c
      have hrec := ih f (k + 1) st (by omega) (by omega) hok
      rw [est, show f + 1 - (g + 1) - 1 = f - g - 1 by omega, ← hrec, F_X12_tells, rf_cellMany hM]
      simp (disch := omega) only [↓reduceIte, ↓shl_ap, shb_ap, shv_ap, zI_lit, zL_lit, nI_z, lN_z, ofN_z, zI_add, zI_sub, zI_mul, zI_neg, zL_add, zL_sub, zL_mul, zL_neg, zI_l, zI_cl, zI_le_t, zI_le_f, zI_lt_t, zI_lt_f, zI_eq_t, zI_eq_f, zI_in_t, zz_isIn_t, zz_isIn_f, not_true_eq_false, not_false_eq_true, true_or, or_true, false_or, or_false, true_and, and_true, false_and, and_false, Nat.reduceLeDiff, Int.reduceAdd, Int.reduceSub, Int.reduceMul, Int.reduceNeg, Int.reduceToNat, Nat.reduceAdd, Nat.reduceMul, Nat.reduceSub, Int.toNat_natCast, hco, hma', zN_le_t, zN_le_f]
      rfl
/-- what is told -/
def tV (P : sp_T) (w : Int) (st : tS) : Int := if w = 0 then (st.1 : Int) else if w = 1 then ((8 * (st.2.1 / sp_c P) + st.2.1 % sp_c P : Nat) : Int) else (st.2.2 : Int)
theorem rf_tl1 {i1 : Int32} {w : Int} {nd : Nat} (hk : sp_ok P) (hl : sl_in P L) (hM : sm_mP m P) (hm : sm_mL (sh_i m 330) 0 P L) (hd0 : sl_d L ≤ 999) (hc0 : 0 < sp_c P) (e74 : sh_i m 291 74 = zI s) (hs : s < 128) (hs0 : 0 < s) (hE : ∀ p, p < sp_np P → ∀ d, d ≤ 30 → wE P L q m p d) (hw : 0 ≤ w ∧ w ≤ 2) (hnd : nd = if sl_d L ≤ 969 then 31 else 1000 - sl_d L) : ∀ (g f d : Nat) (st : tS), d + g = nd → 60 * g + 2 < f → tok (sp_c P * sp_r P) st → F_X12_tells f 1 i1 (zI w) (zI st.1) (zI (ro P st.2.1 : Int)) (zI st.2.2) (zI d) (zI 0) m = some (zI (tV P w (allf (tM P L q s) (sp_c P * sp_r P) g d st)), m) := by
  have hcs := sp_cells hk
  intro g
  induction g with
  | zero =>
    intro f d st hg hf hok
    obtain ⟨f, rfl⟩ : ∃ q, f = q + 1 := ⟨f - 1, by omega⟩
    obtain ⟨o1, o2, o3⟩ := id hok
    have hd31 : d ≤ 31 := by
      by_cases c : sl_d L ≤ 969
      · rw [if_pos c] at hnd; omega
      · rw [if_neg c] at hnd; omega
    rw [allf]
    rcases rf_isAhead (a := (d : Int)) (lo := 0) (hi := 30) hM hk hm hd0 (by omega) (by omega) (by omega) with ⟨r1, r2⟩ | ⟨r1, r2⟩
    · exfalso
      obtain ⟨-, -, z1, z2⟩ := r1
      by_cases c : sl_d L ≤ 969
      · rw [if_pos c] at hnd; omega
      · rw [if_neg c] at hnd; omega
    · rw [F_X12_tells]
      unfold tV
      have hq : w = 0 ∨ w = 1 ∨ w = 2 := by omega
      rcases hq with rfl | rfl | rfl
      · rw [if_pos rfl]
        simp (disch := omega) only [↓reduceIte, ↓shl_ap, shb_ap, shv_ap, zI_lit, zL_lit, nI_z, lN_z, ofN_z, zI_add, zI_sub, zI_mul, zI_neg, zL_add, zL_sub, zL_mul, zL_neg, zI_l, zI_cl, zI_le_t, zI_le_f, zI_lt_t, zI_lt_f, zI_eq_t, zI_eq_f, zI_in_t, zz_isIn_t, zz_isIn_f, not_true_eq_false, not_false_eq_true, true_or, or_true, false_or, or_false, true_and, and_true, false_and, and_false, Nat.reduceLeDiff, Int.reduceAdd, Int.reduceSub, Int.reduceMul, Int.reduceNeg, Int.reduceToNat, Nat.reduceAdd, Nat.reduceMul, Nat.reduceSub, Int.toNat_natCast, e74, r2, zN_le_t, zN_le_f]
      · rw [if_neg (show ¬ (1 : Int) = 0 by omega), if_pos rfl]
        simp (disch := omega) only [↓reduceIte, ↓shl_ap, shb_ap, shv_ap, zI_lit, zL_lit, nI_z, lN_z, ofN_z, zI_add, zI_sub, zI_mul, zI_neg, zL_add, zL_sub, zL_mul, zL_neg, zI_l, zI_cl, zI_le_t, zI_le_f, zI_lt_t, zI_lt_f, zI_eq_t, zI_eq_f, zI_in_t, zz_isIn_t, zz_isIn_f, not_true_eq_false, not_false_eq_true, true_or, or_true, false_or, or_false, true_and, and_true, false_and, and_false, Nat.reduceLeDiff, Int.reduceAdd, Int.reduceSub, Int.reduceMul, Int.reduceNeg, Int.reduceToNat, Nat.reduceAdd, Nat.reduceMul, Nat.reduceSub, Int.toNat_natCast, e74, r2, rf_numberOf (μ := m) hk o2, zN_le_t, zN_le_f]
      · rw [if_neg (show ¬ (2 : Int) = 0 by omega), if_neg (show ¬ (2 : Int) = 1 by omega)]
        simp (disch := omega) only [↓reduceIte, ↓shl_ap, shb_ap, shv_ap, zI_lit, zL_lit, nI_z, lN_z, ofN_z, zI_add, zI_sub, zI_mul, zI_neg, zL_add, zL_sub, zL_mul, zL_neg, zI_l, zI_cl, zI_le_t, zI_le_f, zI_lt_t, zI_lt_f, zI_eq_t, zI_eq_f, zI_in_t, zz_isIn_t, zz_isIn_f, not_true_eq_false, not_false_eq_true, true_or, or_true, false_or, or_false, true_and, and_true, false_and, and_false, Nat.reduceLeDiff, Int.reduceAdd, Int.reduceSub, Int.reduceMul, Int.reduceNeg, Int.reduceToNat, Nat.reduceAdd, Nat.reduceMul, Nat.reduceSub, Int.toNat_natCast, e74, r2, zN_le_t, zN_le_f]
  | succ g ih =>
    intro f d st hg hf hok
    obtain ⟨f, rfl⟩ : ∃ q, f = q + 1 := ⟨f - 1, by omega⟩
    have hd30 : d ≤ 30 ∧ sl_d L + d ≤ 999 := by
      by_cases c : sl_d L ≤ 969
      · rw [if_pos c] at hnd; omega
      · rw [if_neg c] at hnd; omega
    rcases rf_isAhead (a := (d : Int)) (lo := 0) (hi := 30) hM hk hm hd0 (by omega) (by omega) (by omega) with ⟨r1, r2⟩ | ⟨r1, r2⟩
    · have h2 := rf_tl2 (q := q) (i1 := i1) (i2 := zI w) (d := d) hk hl hM e74 hs hE hd30.1 (sp_c P * sp_r P) f 0 st (by omega) (by omega) hok
      have h2 : F_X12_tells f 2 i1 (zI w) (zI st.1) (zI (ro P st.2.1 : Int)) (zI st.2.2) (zI d) (zI 0) m = _ := h2
      have h3 := ih (f - sp_c P * sp_r P - 1) (d + 1) (rowf (tM P L q s) d (sp_c P * sp_r P) 0 st) (by omega) (by omega) (rowf_ok (fun d k => tM_7 hk d k) hd30.1 (sp_c P * sp_r P) 0 st (by omega) hok)
      rw [allf, ← h3, ← h2, F_X12_tells]
      simp (disch := omega) only [↓reduceIte, ↓shl_ap, shb_ap, shv_ap, zI_lit, zL_lit, nI_z, lN_z, ofN_z, zI_add, zI_sub, zI_mul, zI_neg, zL_add, zL_sub, zL_mul, zL_neg, zI_l, zI_cl, zI_le_t, zI_le_f, zI_lt_t, zI_lt_f, zI_eq_t, zI_eq_f, zI_in_t, zz_isIn_t, zz_isIn_f, not_true_eq_false, not_false_eq_true, true_or, or_true, false_or, or_false, true_and, and_true, false_and, and_false, Nat.reduceLeDiff, Int.reduceAdd, Int.reduceSub, Int.reduceMul, Int.reduceNeg, Int.reduceToNat, Nat.reduceAdd, Nat.reduceMul, Nat.reduceSub, Int.toNat_natCast, e74, r2, zN_le_t, zN_le_f]
    · exact absurd ⟨hc0, by omega, by omega, by omega⟩ r1
theorem rf_tells {i1 : Int32} {w : Int} {p0 : Nat} (hk : sp_ok P) (hl : sl_in P L) (hM : sm_mP m P) (hm : sm_mL (sh_i m 330) 0 P L) (hd0 : sl_d L ≤ 999) (hp0 : p0 < sp_np P) (e74 : sh_i m 291 74 = zI s) (hs : s < 128) (hs0 : 0 < s) (hE : ∀ p, p < sp_np P → ∀ d, d ≤ 30 → wE P L q m p d) (hw : 0 ≤ w ∧ w ≤ 2) : F_X12_tells sh_fuel 1 i1 (zI w) (-1) (-1) 0 0 0 m = some (zI (tV P w (allf (tM P L q s) (sp_c P * sp_r P) (if sl_d L ≤ 969 then 31 else 1000 - sl_d L) 0 (0, 0, 8))), m) := by
  have hcs := sp_cells hk
  have hpos := sp_pos hk hp0
  have hnn : 0 < sp_c P * sp_r P := Nat.mul_pos (by omega) (by omega)
  obtain ⟨nd, hnd⟩ : ∃ nd, nd = if sl_d L ≤ 969 then 31 else 1000 - sl_d L := ⟨_, rfl⟩
  have hnd1 : 1 ≤ nd ∧ nd ≤ 31 := by
    by_cases c : sl_d L ≤ 969
    · rw [if_pos c] at hnd; omega
    · rw [if_neg c] at hnd; omega
  rw [← hnd]
  obtain ⟨fu, hfu, hfu2⟩ : ∃ q, sh_fuel = q + 1 + 1 ∧ 3000 ≤ q := ⟨sh_fuel - 2, by have := sh_fuel_eq; omega, by have := sh_fuel_eq; omega⟩
  have hco : f_X12_cellOrder (zI 0) m = some (zI (ro P 0 : Int), m) := rf_cellOrder (k := 0) hM hk hnn
  have hro := ro_lt hk hnn
  have hma := rf_ma (q := q) (d := 0) (k := 0) hk hl hM e74 hs hE (by omega) hnn
  have hma' : f_X12_mostAlike (zI (0 + (ro P 0 : Int))) m = some (zI (tM P L q s 0 0), m) := by
    rw [Int.zero_add]
    have e : 49 * 0 + ro P 0 = ro P 0 := by omega
    rw [e] at hma
    exact hma
  have hM7 := tM_7 (L := L) (q := q) (s := s) hk 0 0
  rcases rf_isAhead (a := 0) (lo := 0) (hi := 30) hM hk hm hd0 (by omega) (by omega) (by omega) with ⟨r1, r2⟩ | ⟨r1, r2⟩
  · have h1 : F_X12_tells sh_fuel 1 i1 (zI w) (-1) (-1) 0 0 0 m = F_X12_tells (fu + 1) 2 i1 (zI w) (zI (-1)) (zI (-1)) (zI 0) (zI 0) (zI 0) m := by
      rw [hfu, F_X12_tells]
      simp (disch := omega) only [↓reduceIte, ↓shl_ap, shb_ap, shv_ap, zI_lit, zL_lit, nI_z, lN_z, ofN_z, zI_add, zI_sub, zI_mul, zI_neg, zL_add, zL_sub, zL_mul, zL_neg, zI_l, zI_cl, zI_le_t, zI_le_f, zI_lt_t, zI_lt_f, zI_eq_t, zI_eq_f, zI_in_t, zz_isIn_t, zz_isIn_f, not_true_eq_false, not_false_eq_true, true_or, or_true, false_or, or_false, true_and, and_true, false_and, and_false, Nat.reduceLeDiff, Int.reduceAdd, Int.reduceSub, Int.reduceMul, Int.reduceNeg, Int.reduceToNat, Nat.reduceAdd, Nat.reduceMul, Nat.reduceSub, Int.toNat_natCast, e74, r2, zN_le_t, zN_le_f]
    have h2 : F_X12_tells (fu + 1) 2 i1 (zI w) (zI (-1)) (zI (-1)) (zI 0) (zI 0) (zI 0) m = F_X12_tells fu 2 i1 (zI w) (zI ((0 : Nat) : Int)) (zI (ro P 0 : Int)) (zI (tM P L q s 0 0)) (zI ((0 : Nat) : Int)) (zI ((1 : Nat) : Int)) m := by
      rw [F_X12_tells, rf_cellMany hM]
      simp (disch := omega) only [↓reduceIte, ↓shl_ap, shb_ap, shv_ap, zI_lit, zL_lit, nI_z, lN_z, ofN_z, zI_add, zI_sub, zI_mul, zI_neg, zL_add, zL_sub, zL_mul, zL_neg, zI_l, zI_cl, zI_le_t, zI_le_f, zI_lt_t, zI_lt_f, zI_eq_t, zI_eq_f, zI_in_t, zz_isIn_t, zz_isIn_f, not_true_eq_false, not_false_eq_true, true_or, or_true, false_or, or_false, true_and, and_true, false_and, and_false, Nat.reduceLeDiff, Int.reduceAdd, Int.reduceSub, Int.reduceMul, Int.reduceNeg, Int.reduceToNat, Nat.reduceAdd, Nat.reduceMul, Nat.reduceSub, Int.toNat_natCast, hco, hma', zN_le_t, zN_le_f]
      rfl
    have est : stp (tM P L q s) 0 0 (0, 0, 8) = (0, 0, tM P L q s 0 0) := if_pos (show tM P L q s 0 0 < 8 by omega)
    have hok : tok (sp_c P * sp_r P) (0, 0, tM P L q s 0 0) := ⟨by omega, hnn, by show tM P L q s 0 0 ≤ 8; omega⟩
    have h3 := rf_tl2 (q := q) (i1 := i1) (i2 := zI w) (d := 0) hk hl hM e74 hs hE (by omega) (sp_c P * sp_r P - 1) fu 1 (0, 0, tM P L q s 0 0) (by omega) (by omega) hok
    have hrow : rowf (tM P L q s) 0 (sp_c P * sp_r P) 0 (0, 0, 8) = rowf (tM P L q s) 0 (sp_c P * sp_r P - 1) 1 (0, 0, tM P L q s 0 0) := by
      obtain ⟨n, hn⟩ : ∃ n, sp_c P * sp_r P = n + 1 := ⟨sp_c P * sp_r P - 1, by omega⟩
      rw [hn, rowf, est]
      rfl
    have h4 := rf_tl1 (q := q) (i1 := i1) (nd := nd) hk hl hM hm hd0 (by omega) e74 hs hs0 hE hw hnd (nd - 1) (fu - (sp_c P * sp_r P - 1) - 1) 1 (rowf (tM P L q s) 0 (sp_c P * sp_r P - 1) 1 (0, 0, tM P L q s 0 0)) (by omega) (by omega) (rowf_ok (fun d k => tM_7 hk d k) (by omega) _ 1 _ (by omega) hok)
    have hall : allf (tM P L q s) (sp_c P * sp_r P) nd 0 (0, 0, 8) = allf (tM P L q s) (sp_c P * sp_r P) (nd - 1) 1 (rowf (tM P L q s) 0 (sp_c P * sp_r P - 1) 1 (0, 0, tM P L q s 0 0)) := by
      obtain ⟨n, hn⟩ : ∃ n, nd = n + 1 := ⟨nd - 1, by omega⟩
      rw [hn, allf, hrow]
      rfl
    rw [h1, h2, hall, ← h4]
    exact h3
  · exact absurd ⟨by omega, by omega, by omega, by omega⟩ r1
end Tn
theorem pr_21 : ∀ (μ : sh_Mem) (b1 b2 : Int32), Sim μ → ∃ (v : Int32) (μ1 μ2 : sh_Mem), f_X11_tells b1 b2 μ = some (v, μ1) ∧ f_X12_tells b1 b2 μ1 = some (v, μ2) ∧ Sim μ2 := by
  intro μ b1 b2 h
  obtain ⟨-, -, -, -, -, -, t, P, L, hR⟩ := id h
  obtain ⟨hr, hk, hl, hP, hM, hc, hm, hkp, hu, hsn, z1, z2, -⟩ := id hR
  obtain ⟨a, h1, h2, rfl⟩ := zI_of b1
  obtain ⟨w, h3, h4, rfl⟩ := zI_of b2
  have hd := hl.1
  have hb := sp_bd hk
  have hcs := sp_cells hk
  have eT := cl_isTopic hr.2.1 hr.1 hP hk h1 h2
  by_cases c : 0 ≤ a ∧ a < sp_nt P
  · rw [if_pos c] at eT
    by_cases cw2 : 0 ≤ w ∧ w ≤ 2
    · obtain ⟨q, rfl⟩ := Int.eq_ofNat_of_zero_le c.1
      have hq : q < sp_nt P := by omega
      obtain ⟨S, S1, S2, S3⟩ := hsn.T hk
      obtain ⟨K, K1, K2⟩ := hkp.K
      have hw0 : cw μ t P := ⟨hr.2.2.1, hr.1, hP, hk⟩
      obtain ⟨s, m1, a1, a2, a3⟩ := cl_whoFits (t := t) (P := P) (S := S) (L := L) (q := q) hw0 S1 S2 hc hl.2 hd hq
      have hs128 : s < 128 := Nat.lt_of_lt_of_le a3.1 (pw128 (by omega))
      have n0 : ¬ zI w < 0 := fun z => by
        have := (zI_lt (b := 0) (by omega) (by omega) (by omega) (by omega)).mp z
        omega
      have n2 : zI w ≤ 2 := (zI_le (b := 2) (by omega) (by omega) (by omega) (by omega)).mpr (by omega)
      have eI : f_X12_isIn m1 (zI w).toInt64 0 2 = 1 := by
        rw [zI_l h3 h4]
        exact zz_isIn_t (b := 0) (c := 2) (by omega)
      -- the reference, behind any memory of the class's
      have ref : ∀ μ1 : sh_Mem, sh_offM μ μ1 → ∃ μ2, f_X12_laysWho (zI q) μ1 = some μ2 ∧ sh_i μ2 330 = sh_i μ1 330 ∧ sh_i μ2 291 57 = 0 ∧ sh_i μ2 291 60 = 0 ∧ sh_fr (fun r k => rN6 r k ∨ nQ r k) μ1 μ2 ∧ sh_i μ2 291 74 = zI s ∧ (∀ p, p < sp_np P → ∀ d, d ≤ 30 → wE P L q μ2 p d) ∧ sm_mP μ2 P ∧ sm_mL (sh_i μ2 330) 0 P L ∧ f_X12_tells (zI q) (zI w) μ1 = F_X12_tells sh_fuel 1 (zI q) (zI w) (-1) (-1) 0 0 0 μ2 := by
        intro μ1 hof
        have nh : ∀ r, 291 ≤ r → sh_i μ1 r = sh_i μ r := fun r z => (hof r z).1
        have hM1 := hM.off hof
        have hm1 : sm_mL (sh_i μ1 330) 0 P L := by rw [nh _ (by omega)]; exact hm
        obtain ⟨s', μ2, d1, d2, d3, d4, d5, d6, d7, d8⟩ := rf_who (q := q) (S := S) hk hq S1 hl.2 hd hM1 hm1 (S3.cg (by rw [nh _ (by omega)]) (nh _ (by omega))) (K2.cg (nh _ (by omega))) (by rw [nh _ (by omega)]; exact z2)
        have hs := whoB_u hk a3 d7
        subst hs
        have eM := rf_isTopic (a := (q : Int)) hM1 hk (by omega) (by omega)
        rw [if_pos c] at eM
        have eI1 : f_X12_isIn μ1 (zI w).toInt64 0 2 = 1 := by
          rw [zI_l h3 h4]
          exact zz_isIn_t (b := 0) (c := 2) (by omega)
        refine ⟨μ2, d1, d2, d3, d4, d5, d6, d8, hM1.f3 (fun r k z => d5.i r k (by unfold rN6 rN5 nQ; omega)) (d5.lrow 323 (fun k => by unfold rN6 rN5 nQ; omega)), by rw [d2]; exact hm1, ?_⟩
        unfold f_X12_tells
        rw [zI_l h1 h2, eM, shb_ap, if_neg (by decide), eI1, if_neg (by decide), d1, shv_ap]
      have simf : ∀ (μ1 μ2 : sh_Mem), sh_fr (nT t) μ μ1 → sh_G μ2 → sh_i μ2 330 = sh_i μ1 330 → sh_i μ2 291 57 = 0 → sh_i μ2 291 60 = 0 → sh_fr (fun r k => rN6 r k ∨ nQ r k) μ1 μ2 → Sim μ2 := by
        intro μ1 μ2 x1 x2 x3 x4 x5 x6
        refine h.q x2 (x1.mono (fun r k z => nT_qA hr.1 z)) (x6.mono (fun r k z => ?_)) x3 x4 x5
        rcases z with z | z
        · exact rN6_qB z
        · unfold nQ at z
          exact Or.inr (Or.inr ⟨by omega, by unfold sm_A sm_S; omega⟩)
      have f1 : sh_fr (nT t) μ m1 := a2.mono (fun r k z => Or.inl z)
      by_cases cs : s = 0
      · have c1 : f_X11_tells (zI q) (zI w) μ = some (-1, m1) := by
          unfold f_X11_tells
          rw [eT, shb_ap, if_neg (by decide), if_neg n0, if_pos n2, a1, shb_ap, cs, if_pos (by rfl)]
        obtain ⟨μ2, r1, r2, r3, r4, r5, r6, -, -, -, r10⟩ := ref m1 (fp_X11_tells h.1 c1)
        have c2 : f_X12_tells (zI q) (zI w) m1 = some (-1, μ2) := by
          obtain ⟨f, hf⟩ : ∃ f, sh_fuel = f + 1 := ⟨sh_fuel - 1, by rw [sh_fuel_eq]⟩
          rw [r10, hf, F_X12_tells, if_pos (by rw [r6, cs]; rfl), if_pos rfl]
        exact ⟨-1, m1, μ2, c1, c2, simf m1 μ2 f1 (gp_X12_tells (gp_X11_tells h.1 c1) c2) r2 r3 r4 r5⟩
      · -- someone fits
        obtain ⟨p0, hp0, hb0⟩ : ∃ p, p < sp_np P ∧ s / 2 ^ p % 2 = 1 := by
          apply Classical.byContradiction
          intro z
          apply cs
          refine bits_u (n := sp_np P) (by omega) a3.1 (by have := Nat.two_pow_pos (sp_np P); omega) (fun p hp => ⟨fun y => absurd ⟨p, hp, y⟩ z, fun y => by rw [Nat.zero_div] at y; omega⟩)
        obtain ⟨m2, b1, b2, b3, b4, b5⟩ := cl_find (μ := m1) (t := t) (q := q) (s := s) (nW_cw a2 hw0) (nW_49 hr.1 a2 hc) hl.2 hd hq hs128 hp0 hb0
        have ns : ¬ zI s = 0 := fun z => by
          have := (zI_eq (b := 0) (by omega) (by omega) (by omega) (by omega)).mp z
          omega
        have hpos := sp_pos hk hp0
        have hnn : 0 < sp_c P * sp_r P := Nat.mul_pos (by omega) (by omega)
        have hok := allf_ok (M := tM P L q s) (n := sp_c P * sp_r P) (fun d k => tM_7 hk d k) (if sl_d L ≤ 969 then 31 else 1000 - sl_d L) 0 (0, 0, 8) (by split <;> omega) ⟨by omega, hnn, by show (8 : Nat) ≤ 8; omega⟩
        have f2 : sh_fr (nT t) μ m2 := f1.trans b2
        have hw2 := nT_cw f2 hw0
        have c1 : f_X11_tells (zI q) (zI w) μ = some (zI (tV P w (allf (tM P L q s) (sp_c P * sp_r P) (if sl_d L ≤ 969 then 31 else 1000 - sl_d L) 0 (0, 0, 8))), m2) := by
          unfold f_X11_tells tV
          rw [eT, shb_ap, if_neg (by decide), if_neg n0, if_pos n2, a1, shb_ap, if_neg ns, b1, shv_ap]
          generalize allf (tM P L q s) (sp_c P * sp_r P) (if sl_d L ≤ 969 then 31 else 1000 - sl_d L) 0 (0, 0, 8) = st at *
          have hr2 : sh_r m2 0 7 = some t := by rw [f2.1]; exact hr.2.1
          have hq3 : w = 0 ∨ w = 1 ∨ w = 2 := by omega
          rcases hq3 with rfl | rfl | rfl
          · rw [if_pos (show zI 0 = 0 from rfl), if_pos rfl, b3]
          · rw [if_neg (show ¬ zI 1 = 0 by decide), if_pos (show zI 1 = 1 from rfl), if_neg (show ¬ (1 : Int) = 0 by omega), if_pos rfl, shr_ap hr2, if_pos ⟨hr2, hr.1⟩, shl_ap, b4, cl_numberOf hw2.2.2.1 hk hok.2.1, shb_ap]
          · rw [if_neg (show ¬ zI 2 = 0 by decide), if_neg (show ¬ zI 2 = 1 by decide), if_neg (show ¬ (2 : Int) = 0 by omega), if_neg (show ¬ (2 : Int) = 1 by omega), b5]
        obtain ⟨μ2, r1, r2, r3, r4, r5, r6, r7, r8, r9, r10⟩ := ref m2 (fp_X11_tells h.1 c1)
        have c2 := rf_tells (q := q) (s := s) (i1 := zI q) (w := w) hk hl.2 r8 r9 hd hp0 r6 hs128 (by omega) r7 cw2
        rw [← r10] at c2
        exact ⟨_, m2, μ2, c1, c2, simf m2 μ2 f2 (gp_X12_tells (gp_X11_tells h.1 c1) c2) r2 r3 r4 r5⟩
    · refine ⟨-1, μ, μ, ?_, ?_, h⟩
      · unfold f_X11_tells
        rw [eT, shb_ap, if_neg (by decide)]
        by_cases z : w < 0
        · rw [if_pos (show zI w < 0 from (zI_lt (b := 0) (by omega) (by omega) (by omega) (by omega)).mpr z)]
        · rw [if_neg (fun y => by have := (zI_lt (b := 0) (by omega) (by omega) (by omega) (by omega)).mp y; omega), if_neg (fun y => by have := (zI_le (b := 2) (by omega) (by omega) (by omega) (by omega)).mp y; omega)]
      · have eM := rf_isTopic (a := a) hM hk (by omega) (by omega)
        rw [if_pos c] at eM
        have eI1 : f_X12_isIn μ (zI w).toInt64 0 2 = 0 := by
          rw [zI_l h3 h4]
          exact zz_isIn_f (b := 0) (c := 2) (by omega)
        unfold f_X12_tells
        rw [zI_l h1 h2, eM, shb_ap, if_neg (by decide), eI1, if_pos rfl]
  · rw [if_neg c] at eT
    refine ⟨-1, μ, μ, ?_, ?_, h⟩
    · unfold f_X11_tells
      rw [eT, shb_ap, if_pos rfl]
    · have eM := rf_isTopic (a := a) hM hk (by omega) (by omega)
      rw [if_neg c] at eM
      unfold f_X12_tells
      rw [zI_l h1 h2, eM, shb_ap, if_pos rfl]
