/-! bits of numbers; letter -/
theorem zI_bv (v : Nat) : (zI v).toBitVec = BitVec.ofNat 32 v := by
  show BitVec.ofInt 32 (v : Int) = _
  exact BitVec.ofInt_natCast ..
theorem zI_shr {v s : Nat} (hv : v < 2147483648) (hs : s < 32) : zI v >>> zI s = zI ((v / 2 ^ s : Nat) : Int) := by
  have e1 : ∀ s : Nat, s < 32 → ((zI s).toBitVec.smod 32).toNat = s := by decide +kernel
  have hle : v / 2 ^ s ≤ v := Nat.div_le_self _ _
  have hge : (0 : Int) ≤ ((v / 2 ^ s : Nat) : Int) := Int.natCast_nonneg _
  apply Int32.toInt_inj.mp
  show (zI v >>> zI s).toBitVec.toInt = _
  rw [Int32.toBitVec_shiftRight]
  show (BitVec.sshiftRight (zI v).toBitVec ((zI s).toBitVec.smod 32).toNat).toInt = _
  rw [e1 s hs, BitVec.toInt_sshiftRight]
  show (zI v).toInt >>> s = _
  rw [zI_toInt (by omega) (by omega), zI_toInt (by omega) (by omega), Int.shiftRight_eq_div_pow]
  push_cast
  rfl
theorem zI_andN {v m : Nat} (hv : v < 4294967296) (hm : m < 4294967296) : zI v &&& zI m = zI ((v &&& m : Nat) : Int) := by
  apply Int32.toBitVec_inj.mp
  rw [Int32.toBitVec_and, zI_bv, zI_bv, zI_bv]
  apply BitVec.eq_of_toNat_eq
  rw [BitVec.toNat_and, BitVec.toNat_ofNat, BitVec.toNat_ofNat, BitVec.toNat_ofNat, Nat.mod_eq_of_lt hv, Nat.mod_eq_of_lt hm, Nat.mod_eq_of_lt (Nat.lt_of_le_of_lt Nat.and_le_left hv)]
theorem zI_a31 {v : Nat} (hv : v < 4294967296) : zI v &&& zI 31 = zI ((v % 32 : Nat) : Int) := by
  have h := zI_andN hv (show 31 < 4294967296 by omega)
  rw [show v &&& 31 = v % 32 from Nat.and_two_pow_sub_one_eq_mod v 5] at h
  exact h
theorem zL_div27 {a : Nat} (h : a < 1099511627776) : zL a / zL 27 = zL ((a / 27 : Nat) : Int) := by
  rw [zL_div (by omega), Int.tdiv_eq_ediv_of_nonneg (by omega)]
  rfl
theorem sn_c_lt : ∀ l : List Nat, (∀ w ∈ l, 1 ≤ w ∧ w ≤ 26) → sn_c l < 32 ^ l.length
  | [], _ => by decide
  | w :: l, h => by
    have h1 := sn_c_lt l (fun x hx => h x (List.mem_cons_of_mem _ hx))
    have h2 := h w (List.mem_cons_self ..)
    show w + 32 * sn_c l < 32 ^ (l.length + 1)
    rw [Nat.pow_succ]
    omega
theorem sn_c_30 {l : List Nat} (h : sn_ok l) : sn_c l < 1073741824 := Nat.lt_of_lt_of_le (sn_c_lt l h.2.2) (Nat.le_trans (Nat.pow_le_pow_right (by omega) h.2.1) (by decide))
theorem sn_c_at : ∀ (l : List Nat) (k : Nat), (∀ w ∈ l, 1 ≤ w ∧ w ≤ 26) → sn_c l / 32 ^ k % 32 = l.getD k 0
  | [], k, _ => by
    show 0 / 32 ^ k % 32 = 0
    rw [Nat.zero_div]
  | w :: l, 0, h => by
    have h2 := h w (List.mem_cons_self ..)
    show (w + 32 * sn_c l) / 32 ^ 0 % 32 = w
    rw [Nat.pow_zero, Nat.div_one]
    omega
  | w :: l, k + 1, h => by
    have h2 := h w (List.mem_cons_self ..)
    have h1 := sn_c_at l k (fun x hx => h x (List.mem_cons_of_mem _ hx))
    show (w + 32 * sn_c l) / 32 ^ (k + 1) % 32 = l.getD k 0
    rw [Nat.pow_succ, Nat.mul_comm (32 ^ k) 32, ← Nat.div_div_eq_div_mul, show (w + 32 * sn_c l) / 32 = sn_c l by omega, h1]
theorem sn_m_app (l : List Nat) (w : Nat) : sn_m (l ++ [w]) = 27 * sn_m l + w := by
  unfold sn_m
  rw [List.foldl_append]
  rfl
theorem sn_m_take {l : List Nat} {m : Nat} (h : m < l.length) : sn_m (l.take (m + 1)) = 27 * sn_m (l.take m) + l.getD m 0 := by
  rw [List.take_succ, List.getElem?_eq_getElem h]
  show sn_m (l.take m ++ [l[m]]) = _
  rw [sn_m_app, List.getD_eq_getElem?_getD, List.getElem?_eq_getElem h]
  rfl
theorem sn_at {l : List Nat} (hl : ∀ w ∈ l, 1 ≤ w ∧ w ≤ 26) {m : Nat} (h : m < l.length) : 1 ≤ l.getD m 0 ∧ l.getD m 0 ≤ 26 := by
  rw [List.getD_eq_getElem?_getD, List.getElem?_eq_getElem h]
  exact hl _ (List.getElem_mem h)
theorem sn_m_lt {l : List Nat} (hl : ∀ w ∈ l, 1 ≤ w ∧ w ≤ 26) : ∀ m, m ≤ l.length → sn_m (l.take m) < 27 ^ m
  | 0, _ => by rw [List.take_zero]; decide
  | m + 1, h => by
    have h1 := sn_m_lt hl m (by omega)
    have h2 := sn_at hl (m := m) (by omega)
    rw [sn_m_take (by omega), Nat.pow_succ]
    omega
theorem sn_m_40 {l : List Nat} (hl : sn_ok l) {m : Nat} (h : m ≤ l.length) : sn_m (l.take m) < 387420489 := Nat.lt_of_lt_of_le (sn_m_lt hl.2.2 m h) (Nat.le_trans (Nat.pow_le_pow_right (by omega) (Nat.le_trans h hl.2.1)) (by decide))
theorem rf_let1 {μ : sh_Mem} {l : List Nat} {v0 : Int64} (hl : sn_ok l) {i1 i2 : Int32} {k : Nat} (hk : k < 6) : ∀ (m f : Nat), m ≤ l.length → m < f → F_X12_letter f 1 i1 i2 (zI k) v0 (zI (l.length - m : Nat)) 0 (zL (sn_m (l.take m))) μ = F_X12_letter (f - m) 1 i1 i2 (zI k) v0 (zI l.length) 0 (zL 0) μ := by
  intro m
  induction m with
  | zero =>
    intro f h1 h2
    rw [List.take_zero]
    rfl
  | succ m ih =>
    intro f h1 h2
    obtain ⟨f, rfl⟩ : ∃ q, f = q + 1 := ⟨f - 1, by omega⟩
    have h3 := sn_at hl.2.2 (m := m) (by omega)
    have h4 := sn_m_40 hl (m := m + 1) h1
    have h5 := sn_m_take (l := l) (m := m) (by omega)
    have h6 := hl.2.1
    have h7 := ih f (by omega) (by omega)
    rw [show f + 1 - (m + 1) = f - m by omega, ← h7, F_X12_letter]
    simp (disch := omega) only [↓reduceIte, ↓shl_ap, shb_ap, shv_ap, zI_lit, zL_lit, nI_z, lN_z, ofN_z, zI_add, zI_sub, zI_mul, zI_neg, zL_add, zL_sub, zL_mul, zL_neg, zI_l, zI_cl, zI_le_t, zI_le_f, zI_lt_t, zI_lt_f, zI_eq_t, zI_eq_f, zI_in_t, zz_isIn_t, zz_isIn_f, not_true_eq_false, not_false_eq_true, true_or, or_true, false_or, or_false, true_and, and_true, false_and, and_false, Nat.reduceLeDiff, Int.reduceAdd, Int.reduceSub, Int.reduceMul, Int.reduceNeg, Int.reduceToNat, Nat.reduceAdd, Nat.reduceMul, Nat.reduceSub, Int.toNat_natCast, lg_le0, eq_false (show ¬ ((sn_m (l.take (m + 1)) : Nat) : Int) ≤ 0 by omega), zL_div27, zN_le_t, zN_le_f]
    rw [show sn_m (l.take (m + 1)) / 27 = sn_m (l.take m) by omega, show ((l.length - (m + 1) : Nat) : Int) + 1 = ((l.length - m : Nat) : Int) by omega]
theorem rf_let2 {μ : sh_Mem} {l : List Nat} (hl : sn_ok l) {i1 i2 i6 : Int32} {k : Nat} (hk : k < 6) : ∀ (g f : Nat), k + g + 1 ≤ l.length → g < f → F_X12_letter f 2 i1 i2 (zI k) (zL (sn_m (l.take (k + g + 1)))) i6 (zI (k + g : Nat)) 0 μ = some (zI (l.getD k 0), μ) := by
  intro g
  induction g with
  | zero =>
    intro f h1 h2
    obtain ⟨f, rfl⟩ : ∃ q, f = q + 1 := ⟨f - 1, by omega⟩
    have h3 := sn_at hl.2.2 (m := k) (by omega)
    have h4 := sn_m_40 hl (m := k + 1) h1
    have h5 := sn_m_take (l := l) (m := k) (by omega)
    rw [F_X12_letter]
    rw [show k + 0 + 1 = k + 1 from rfl, show k + 0 = k from rfl]
    simp (disch := omega) only [↓reduceIte, ↓shl_ap, shb_ap, shv_ap, zI_lit, zL_lit, nI_z, lN_z, ofN_z, zI_add, zI_sub, zI_mul, zI_neg, zL_add, zL_sub, zL_mul, zL_neg, zI_l, zI_cl, zI_le_t, zI_le_f, zI_lt_t, zI_lt_f, zI_eq_t, zI_eq_f, zI_in_t, zz_isIn_t, zz_isIn_f, not_true_eq_false, not_false_eq_true, true_or, or_true, false_or, or_false, true_and, and_true, false_and, and_false, Nat.reduceLeDiff, Int.reduceAdd, Int.reduceSub, Int.reduceMul, Int.reduceNeg, Int.reduceToNat, Nat.reduceAdd, Nat.reduceMul, Nat.reduceSub, Int.toNat_natCast, zL_div27, zN_le_t, zN_le_f]
    rw [show (((sn_m (l.take (k + 1)) : Nat) : Int) - ((sn_m (l.take (k + 1)) / 27 : Nat) : Int) * 27) = ((l.getD k 0 : Nat) : Int) by omega]
    exact congrArg (fun z => some (z, μ)) Int64.toInt32_ofInt
  | succ g ih =>
    intro f h1 h2
    obtain ⟨f, rfl⟩ : ∃ q, f = q + 1 := ⟨f - 1, by omega⟩
    have h3 := sn_at hl.2.2 (m := k + g + 1) (by omega)
    have h4 := sn_m_40 hl (m := k + (g + 1) + 1) h1
    have h5 := sn_m_take (l := l) (m := k + g + 1) (by omega)
    have h6 := hl.2.1
    have h7 := ih f (by omega) (by omega)
    rw [← h7, F_X12_letter]
    rw [show k + (g + 1) + 1 = k + g + 1 + 1 by omega] at h4 ⊢
    simp (disch := omega) only [↓reduceIte, ↓shl_ap, shb_ap, shv_ap, zI_lit, zL_lit, nI_z, lN_z, ofN_z, zI_add, zI_sub, zI_mul, zI_neg, zL_add, zL_sub, zL_mul, zL_neg, zI_l, zI_cl, zI_le_t, zI_le_f, zI_lt_t, zI_lt_f, zI_eq_t, zI_eq_f, zI_in_t, zz_isIn_t, zz_isIn_f, not_true_eq_false, not_false_eq_true, true_or, or_true, false_or, or_false, true_and, and_true, false_and, and_false, Nat.reduceLeDiff, Int.reduceAdd, Int.reduceSub, Int.reduceMul, Int.reduceNeg, Int.reduceToNat, Nat.reduceAdd, Nat.reduceMul, Nat.reduceSub, Int.toNat_natCast, zL_div27, zN_le_t, zN_le_f]
    rw [show sn_m (l.take (k + g + 1 + 1)) / 27 = sn_m (l.take (k + g + 1)) by omega, show ((k + (g + 1) : Nat) : Int) + -1 = ((k + g : Nat) : Int) by omega]
theorem rf_let {μ : sh_Mem} {l : List Nat} (hl : sn_ok l) {i1 i2 : Int32} {k : Nat} (hk : k < 6) : F_X12_letter sh_fuel 1 i1 i2 (zI k) (zL (sn_m l)) 0 0 (zL (sn_m l)) μ = some (zI (l.getD k 0), μ) := by
  have h6 := hl.2.1
  have h1 := rf_let1 (μ := μ) (v0 := zL (sn_m l)) hl (i1 := i1) (i2 := i2) hk l.length sh_fuel (by omega) (by rw [sh_fuel_eq]; omega)
  rw [List.take_length, Nat.sub_self] at h1
  have h1 : F_X12_letter sh_fuel 1 i1 i2 (zI k) (zL (sn_m l)) 0 0 (zL (sn_m l)) μ = _ := h1
  obtain ⟨f, hf⟩ : ∃ f, sh_fuel - l.length = f + 10 := ⟨sh_fuel - l.length - 10, by rw [sh_fuel_eq]; omega⟩
  rw [h1, hf, F_X12_letter]
  by_cases c : k < l.length
  · have h2 := rf_let2 (μ := μ) hl (i1 := i1) (i2 := i2) (i6 := zI l.length) hk (l.length - 1 - k) (f + 9) (by omega) (by omega)
    rw [show k + (l.length - 1 - k) + 1 = l.length by omega, List.take_length, show k + (l.length - 1 - k) = l.length - 1 by omega] at h2
    simp (disch := omega) only [↓reduceIte, ↓shl_ap, shb_ap, shv_ap, zI_lit, zL_lit, nI_z, lN_z, ofN_z, zI_add, zI_sub, zI_mul, zI_neg, zL_add, zL_sub, zL_mul, zL_neg, zI_l, zI_cl, zI_le_t, zI_le_f, zI_lt_t, zI_lt_f, zI_eq_t, zI_eq_f, zI_in_t, zz_isIn_t, zz_isIn_f, not_true_eq_false, not_false_eq_true, true_or, or_true, false_or, or_false, true_and, and_true, false_and, and_false, Nat.reduceLeDiff, Int.reduceAdd, Int.reduceSub, Int.reduceMul, Int.reduceNeg, Int.reduceToNat, Nat.reduceAdd, Nat.reduceMul, Nat.reduceSub, Int.toNat_natCast, lg_le0, Int.le_refl, zN_le_t, zN_le_f]
    rw [show ((l.length : Nat) : Int) - 1 = ((l.length - 1 : Nat) : Int) by omega]
    exact h2
  · simp (disch := omega) only [↓reduceIte, ↓shl_ap, shb_ap, shv_ap, zI_lit, zL_lit, nI_z, lN_z, ofN_z, zI_add, zI_sub, zI_mul, zI_neg, zL_add, zL_sub, zL_mul, zL_neg, zI_l, zI_cl, zI_le_t, zI_le_f, zI_lt_t, zI_lt_f, zI_eq_t, zI_eq_f, zI_in_t, zz_isIn_t, zz_isIn_f, not_true_eq_false, not_false_eq_true, true_or, or_true, false_or, or_false, true_and, and_true, false_and, and_false, Nat.reduceLeDiff, Int.reduceAdd, Int.reduceSub, Int.reduceMul, Int.reduceNeg, Int.reduceToNat, Nat.reduceAdd, Nat.reduceMul, Nat.reduceSub, Int.toNat_natCast, lg_le0, Int.le_refl, zN_le_t, zN_le_f]
    rw [List.getD_eq_getElem?_getD, List.getElem?_eq_none (by omega)]
    rfl
theorem cl_letterOf {μ : sh_Mem} {l : List Nat} (hl : sn_ok l) {k : Nat} (hk : k < 6) : f_X11_letterOf μ (zI (sn_c l)) (zI k) = zI (l.getD k 0) := by
  have h1 := sn_c_30 hl
  have h2 := sn_c_at l k hl.2.2
  have h3 : sn_c l / 2 ^ (5 * k) ≤ sn_c l := Nat.div_le_self _ _
  unfold f_X11_letterOf
  rw [show (5 : Int32) = zI 5 from rfl, zI_mul, show (5 * (k : Int)) = ((5 * k : Nat) : Int) by omega, show (31 : Int32) = zI 31 from rfl, zI_and31 (by omega), zI_shr (by omega) (by omega), zI_a31 (by omega), Nat.pow_mul]
  rw [show (2 ^ 5 : Nat) = 32 from rfl, h2]
theorem pr_5 : ∀ (μ : sh_Mem) (b1 b2 b3 : Int32), Sim μ → ∃ (v : Int32) (μ1 μ2 : sh_Mem), f_X11_letter b1 b2 b3 μ = some (v, μ1) ∧ f_X12_letter b1 b2 b3 μ1 = some (v, μ2) ∧ Sim μ2 := by
  intro μ b1 b2 b3 h
  obtain ⟨-, -, -, -, -, -, t, P, L, hR⟩ := id h
  obtain ⟨hr, hk, hl, hP, hM, -⟩ := id hR
  obtain ⟨a, h1, h2, rfl⟩ := zI_of b1
  obtain ⟨b, h3, h4, rfl⟩ := zI_of b2
  obtain ⟨d, h5, h6, rfl⟩ := zI_of b3
  have hb := sp_bd hk
  obtain ⟨-, -, -, -, -, -, wt, wp, -⟩ := id hk
  obtain ⟨-, -, -, -, -, -, p7, p8, -⟩ := id hP
  obtain ⟨-, -, -, m4, m5, -, -, m8, m9, -⟩ := id hM
  have r1 := hr.2.1
  have r2 := shp hr.1
  by_cases cd : 0 ≤ d ∧ d < 6
  · obtain ⟨k, rfl⟩ := Int.eq_ofNat_of_zero_le cd.1
    have hk6 : k < 6 := by omega
    by_cases ca : a = 0
    · subst ca
      by_cases cb : 0 ≤ b ∧ b < sp_nt P
      · obtain ⟨j, rfl⟩ := Int.eq_ofNat_of_zero_le cb.1
        have hj : j < sp_nt P := by omega
        have hn : sn_ok ((sp_tn P).getD j []) := by
          rw [List.getD_eq_getElem?_getD, List.getElem?_eq_getElem hj]
          exact wt _ (List.getElem_mem hj)
        have e1 := p7 j hj
        rw [nI_z] at e1
        have e2 := m8 j hj
        rw [lN_z] at e2
        refine ⟨zI (((sp_tn P).getD j []).getD k 0), μ, μ, ?_, ?_, h⟩
        · unfold f_X11_letter
          rw [cl_isTopic r1 hr.1 hP hk h3 h4, if_pos cb]
          simp (disch := omega) only [↓reduceIte, ↓shl_ap, shb_ap, shv_ap, zI_lit, zL_lit, nI_z, lN_z, ofN_z, zI_add, zI_sub, zI_mul, zI_neg, zL_add, zL_sub, zL_mul, zL_neg, zI_l, zI_cl, zI_le_t, zI_le_f, zI_lt_t, zI_lt_f, zI_eq_t, zI_eq_f, zI_in_t, zz_isIn_t, zz_isIn_f, not_true_eq_false, not_false_eq_true, true_or, or_true, false_or, or_false, true_and, and_true, false_and, and_false, Nat.reduceLeDiff, Int.reduceAdd, Int.reduceSub, Int.reduceMul, Int.reduceNeg, Int.reduceToNat, Nat.reduceAdd, Nat.reduceMul, Nat.reduceSub, Int.toNat_natCast, r1, shr_ap r1, r2, e1, cl_letterOf hn hk6, zN_le_t, zN_le_f]
        · unfold f_X12_letter
          simp (disch := omega) only [↓reduceIte, ↓shl_ap, shb_ap, shv_ap, zI_lit, zL_lit, nI_z, lN_z, ofN_z, zI_add, zI_sub, zI_mul, zI_neg, zL_add, zL_sub, zL_mul, zL_neg, zI_l, zI_cl, zI_le_t, zI_le_f, zI_lt_t, zI_lt_f, zI_eq_t, zI_eq_f, zI_in_t, zz_isIn_t, zz_isIn_f, not_true_eq_false, not_false_eq_true, true_or, or_true, false_or, or_false, true_and, and_true, false_and, and_false, Nat.reduceLeDiff, Int.reduceAdd, Int.reduceSub, Int.reduceMul, Int.reduceNeg, Int.reduceToNat, Nat.reduceAdd, Nat.reduceMul, Nat.reduceSub, Int.toNat_natCast, m4, show (3 + 0 : Int).toNat = 3 from rfl, zN_le_t, zN_le_f]
          rw [show (16 + (j : Int)).toNat = 16 + j by omega, e2]
          exact rf_let hn hk6
      · refine ⟨zI (-1), μ, μ, ?_, ?_, h⟩
        · unfold f_X11_letter
          rw [cl_isTopic r1 hr.1 hP hk h3 h4, if_neg cb]
          simp (disch := omega) only [↓reduceIte, ↓shl_ap, shb_ap, shv_ap, zI_lit, zL_lit, nI_z, lN_z, ofN_z, zI_add, zI_sub, zI_mul, zI_neg, zL_add, zL_sub, zL_mul, zL_neg, zI_l, zI_cl, zI_le_t, zI_le_f, zI_lt_t, zI_lt_f, zI_eq_t, zI_eq_f, zI_in_t, zz_isIn_t, zz_isIn_f, not_true_eq_false, not_false_eq_true, true_or, or_true, false_or, or_false, true_and, and_true, false_and, and_false, Nat.reduceLeDiff, Int.reduceAdd, Int.reduceSub, Int.reduceMul, Int.reduceNeg, Int.reduceToNat, Nat.reduceAdd, Nat.reduceMul, Nat.reduceSub, Int.toNat_natCast, zN_le_t, zN_le_f]
        · unfold f_X12_letter
          simp (disch := omega) only [↓reduceIte, ↓shl_ap, shb_ap, shv_ap, zI_lit, zL_lit, nI_z, lN_z, ofN_z, zI_add, zI_sub, zI_mul, zI_neg, zL_add, zL_sub, zL_mul, zL_neg, zI_l, zI_cl, zI_le_t, zI_le_f, zI_lt_t, zI_lt_f, zI_eq_t, zI_eq_f, zI_in_t, zz_isIn_t, zz_isIn_f, not_true_eq_false, not_false_eq_true, true_or, or_true, false_or, or_false, true_and, and_true, false_and, and_false, Nat.reduceLeDiff, Int.reduceAdd, Int.reduceSub, Int.reduceMul, Int.reduceNeg, Int.reduceToNat, Nat.reduceAdd, Nat.reduceMul, Nat.reduceSub, Int.toNat_natCast, m4, show (3 + 0 : Int).toNat = 3 from rfl, zN_le_t, zN_le_f]
    · by_cases ca1 : a = 1
      · subst ca1
        by_cases cb : 0 ≤ b ∧ b < sp_np P
        · obtain ⟨j, rfl⟩ := Int.eq_ofNat_of_zero_le cb.1
          have hj : j < sp_np P := by omega
          have hn : sn_ok ((sp_pn P).getD j []) := by
            rw [List.getD_eq_getElem?_getD, List.getElem?_eq_getElem hj]
            exact wp _ (List.getElem_mem hj)
          have e1 := p8 j hj
          rw [nI_z] at e1
          have e2 := m9 j hj
          rw [lN_z] at e2
          refine ⟨zI (((sp_pn P).getD j []).getD k 0), μ, μ, ?_, ?_, h⟩
          · unfold f_X11_letter
            rw [cl_isPerson r1 hr.1 hP hk h3 h4, if_pos cb]
            simp (disch := omega) only [↓reduceIte, ↓shl_ap, shb_ap, shv_ap, zI_lit, zL_lit, nI_z, lN_z, ofN_z, zI_add, zI_sub, zI_mul, zI_neg, zL_add, zL_sub, zL_mul, zL_neg, zI_l, zI_cl, zI_le_t, zI_le_f, zI_lt_t, zI_lt_f, zI_eq_t, zI_eq_f, zI_in_t, zz_isIn_t, zz_isIn_f, not_true_eq_false, not_false_eq_true, true_or, or_true, false_or, or_false, true_and, and_true, false_and, and_false, Nat.reduceLeDiff, Int.reduceAdd, Int.reduceSub, Int.reduceMul, Int.reduceNeg, Int.reduceToNat, Nat.reduceAdd, Nat.reduceMul, Nat.reduceSub, Int.toNat_natCast, r1, shr_ap r1, r2, e1, cl_letterOf hn hk6, zN_le_t, zN_le_f]
          · unfold f_X12_letter
            simp (disch := omega) only [↓reduceIte, ↓shl_ap, shb_ap, shv_ap, zI_lit, zL_lit, nI_z, lN_z, ofN_z, zI_add, zI_sub, zI_mul, zI_neg, zL_add, zL_sub, zL_mul, zL_neg, zI_l, zI_cl, zI_le_t, zI_le_f, zI_lt_t, zI_lt_f, zI_eq_t, zI_eq_f, zI_in_t, zz_isIn_t, zz_isIn_f, not_true_eq_false, not_false_eq_true, true_or, or_true, false_or, or_false, true_and, and_true, false_and, and_false, Nat.reduceLeDiff, Int.reduceAdd, Int.reduceSub, Int.reduceMul, Int.reduceNeg, Int.reduceToNat, Nat.reduceAdd, Nat.reduceMul, Nat.reduceSub, Int.toNat_natCast, m5, show (3 + 1 : Int).toNat = 4 from rfl, zN_le_t, zN_le_f]
            rw [show (24 + (j : Int)).toNat = 24 + j by omega, e2]
            exact rf_let hn hk6
        · refine ⟨zI (-1), μ, μ, ?_, ?_, h⟩
          · unfold f_X11_letter
            rw [cl_isPerson r1 hr.1 hP hk h3 h4, if_neg cb]
            simp (disch := omega) only [↓reduceIte, ↓shl_ap, shb_ap, shv_ap, zI_lit, zL_lit, nI_z, lN_z, ofN_z, zI_add, zI_sub, zI_mul, zI_neg, zL_add, zL_sub, zL_mul, zL_neg, zI_l, zI_cl, zI_le_t, zI_le_f, zI_lt_t, zI_lt_f, zI_eq_t, zI_eq_f, zI_in_t, zz_isIn_t, zz_isIn_f, not_true_eq_false, not_false_eq_true, true_or, or_true, false_or, or_false, true_and, and_true, false_and, and_false, Nat.reduceLeDiff, Int.reduceAdd, Int.reduceSub, Int.reduceMul, Int.reduceNeg, Int.reduceToNat, Nat.reduceAdd, Nat.reduceMul, Nat.reduceSub, Int.toNat_natCast, zN_le_t, zN_le_f]
          · unfold f_X12_letter
            simp (disch := omega) only [↓reduceIte, ↓shl_ap, shb_ap, shv_ap, zI_lit, zL_lit, nI_z, lN_z, ofN_z, zI_add, zI_sub, zI_mul, zI_neg, zL_add, zL_sub, zL_mul, zL_neg, zI_l, zI_cl, zI_le_t, zI_le_f, zI_lt_t, zI_lt_f, zI_eq_t, zI_eq_f, zI_in_t, zz_isIn_t, zz_isIn_f, not_true_eq_false, not_false_eq_true, true_or, or_true, false_or, or_false, true_and, and_true, false_and, and_false, Nat.reduceLeDiff, Int.reduceAdd, Int.reduceSub, Int.reduceMul, Int.reduceNeg, Int.reduceToNat, Nat.reduceAdd, Nat.reduceMul, Nat.reduceSub, Int.toNat_natCast, m5, show (3 + 1 : Int).toNat = 4 from rfl, zN_le_t, zN_le_f]
      · refine ⟨zI (-1), μ, μ, ?_, ?_, h⟩
        · unfold f_X11_letter
          simp (disch := omega) only [↓reduceIte, ↓shl_ap, shb_ap, shv_ap, zI_lit, zL_lit, nI_z, lN_z, ofN_z, zI_add, zI_sub, zI_mul, zI_neg, zL_add, zL_sub, zL_mul, zL_neg, zI_l, zI_cl, zI_le_t, zI_le_f, zI_lt_t, zI_lt_f, zI_eq_t, zI_eq_f, zI_in_t, zz_isIn_t, zz_isIn_f, not_true_eq_false, not_false_eq_true, true_or, or_true, false_or, or_false, true_and, and_true, false_and, and_false, Nat.reduceLeDiff, Int.reduceAdd, Int.reduceSub, Int.reduceMul, Int.reduceNeg, Int.reduceToNat, Nat.reduceAdd, Nat.reduceMul, Nat.reduceSub, Int.toNat_natCast, zN_le_t, zN_le_f]
        · unfold f_X12_letter
          simp (disch := omega) only [↓reduceIte, ↓shl_ap, shb_ap, shv_ap, zI_lit, zL_lit, nI_z, lN_z, ofN_z, zI_add, zI_sub, zI_mul, zI_neg, zL_add, zL_sub, zL_mul, zL_neg, zI_l, zI_cl, zI_le_t, zI_le_f, zI_lt_t, zI_lt_f, zI_eq_t, zI_eq_f, zI_in_t, zz_isIn_t, zz_isIn_f, not_true_eq_false, not_false_eq_true, true_or, or_true, false_or, or_false, true_and, and_true, false_and, and_false, Nat.reduceLeDiff, Int.reduceAdd, Int.reduceSub, Int.reduceMul, Int.reduceNeg, Int.reduceToNat, Nat.reduceAdd, Nat.reduceMul, Nat.reduceSub, Int.toNat_natCast, zN_le_t, zN_le_f]
  · have e1 : f_X11_letter (zI a) (zI b) (zI d) μ = some (zI (-1), μ) := by
      unfold f_X11_letter
      by_cases c1 : d < 0
      · simp (disch := omega) only [↓reduceIte, ↓shl_ap, shb_ap, shv_ap, zI_lit, zL_lit, nI_z, lN_z, ofN_z, zI_add, zI_sub, zI_mul, zI_neg, zL_add, zL_sub, zL_mul, zL_neg, zI_l, zI_cl, zI_le_t, zI_le_f, zI_lt_t, zI_lt_f, zI_eq_t, zI_eq_f, zI_in_t, zz_isIn_t, zz_isIn_f, not_true_eq_false, not_false_eq_true, true_or, or_true, false_or, or_false, true_and, and_true, false_and, and_false, Nat.reduceLeDiff, Int.reduceAdd, Int.reduceSub, Int.reduceMul, Int.reduceNeg, Int.reduceToNat, Nat.reduceAdd, Nat.reduceMul, Nat.reduceSub, Int.toNat_natCast, zN_le_t, zN_le_f]
      · simp (disch := omega) only [↓reduceIte, ↓shl_ap, shb_ap, shv_ap, zI_lit, zL_lit, nI_z, lN_z, ofN_z, zI_add, zI_sub, zI_mul, zI_neg, zL_add, zL_sub, zL_mul, zL_neg, zI_l, zI_cl, zI_le_t, zI_le_f, zI_lt_t, zI_lt_f, zI_eq_t, zI_eq_f, zI_in_t, zz_isIn_t, zz_isIn_f, not_true_eq_false, not_false_eq_true, true_or, or_true, false_or, or_false, true_and, and_true, false_and, and_false, Nat.reduceLeDiff, Int.reduceAdd, Int.reduceSub, Int.reduceMul, Int.reduceNeg, Int.reduceToNat, Nat.reduceAdd, Nat.reduceMul, Nat.reduceSub, Int.toNat_natCast, zN_le_t, zN_le_f]
    refine ⟨zI (-1), μ, μ, e1, ?_, h⟩
    unfold f_X12_letter
    by_cases ca : a = 0
    · subst ca
      by_cases cb : 0 ≤ b ∧ b < sp_nt P
      · simp (disch := omega) only [↓reduceIte, ↓shl_ap, shb_ap, shv_ap, zI_lit, zL_lit, nI_z, lN_z, ofN_z, zI_add, zI_sub, zI_mul, zI_neg, zL_add, zL_sub, zL_mul, zL_neg, zI_l, zI_cl, zI_le_t, zI_le_f, zI_lt_t, zI_lt_f, zI_eq_t, zI_eq_f, zI_in_t, zz_isIn_t, zz_isIn_f, not_true_eq_false, not_false_eq_true, true_or, or_true, false_or, or_false, true_and, and_true, false_and, and_false, Nat.reduceLeDiff, Int.reduceAdd, Int.reduceSub, Int.reduceMul, Int.reduceNeg, Int.reduceToNat, Nat.reduceAdd, Nat.reduceMul, Nat.reduceSub, Int.toNat_natCast, m4, show (3 + 0 : Int).toNat = 3 from rfl, zN_le_t, zN_le_f]
      · simp (disch := omega) only [↓reduceIte, ↓shl_ap, shb_ap, shv_ap, zI_lit, zL_lit, nI_z, lN_z, ofN_z, zI_add, zI_sub, zI_mul, zI_neg, zL_add, zL_sub, zL_mul, zL_neg, zI_l, zI_cl, zI_le_t, zI_le_f, zI_lt_t, zI_lt_f, zI_eq_t, zI_eq_f, zI_in_t, zz_isIn_t, zz_isIn_f, not_true_eq_false, not_false_eq_true, true_or, or_true, false_or, or_false, true_and, and_true, false_and, and_false, Nat.reduceLeDiff, Int.reduceAdd, Int.reduceSub, Int.reduceMul, Int.reduceNeg, Int.reduceToNat, Nat.reduceAdd, Nat.reduceMul, Nat.reduceSub, Int.toNat_natCast, m4, show (3 + 0 : Int).toNat = 3 from rfl, zN_le_t, zN_le_f]
    · by_cases ca1 : a = 1
      · subst ca1
        by_cases cb : 0 ≤ b ∧ b < sp_np P
        · simp (disch := omega) only [↓reduceIte, ↓shl_ap, shb_ap, shv_ap, zI_lit, zL_lit, nI_z, lN_z, ofN_z, zI_add, zI_sub, zI_mul, zI_neg, zL_add, zL_sub, zL_mul, zL_neg, zI_l, zI_cl, zI_le_t, zI_le_f, zI_lt_t, zI_lt_f, zI_eq_t, zI_eq_f, zI_in_t, zz_isIn_t, zz_isIn_f, not_true_eq_false, not_false_eq_true, true_or, or_true, false_or, or_false, true_and, and_true, false_and, and_false, Nat.reduceLeDiff, Int.reduceAdd, Int.reduceSub, Int.reduceMul, Int.reduceNeg, Int.reduceToNat, Nat.reduceAdd, Nat.reduceMul, Nat.reduceSub, Int.toNat_natCast, m5, show (3 + 1 : Int).toNat = 4 from rfl, zN_le_t, zN_le_f]
        · simp (disch := omega) only [↓reduceIte, ↓shl_ap, shb_ap, shv_ap, zI_lit, zL_lit, nI_z, lN_z, ofN_z, zI_add, zI_sub, zI_mul, zI_neg, zL_add, zL_sub, zL_mul, zL_neg, zI_l, zI_cl, zI_le_t, zI_le_f, zI_lt_t, zI_lt_f, zI_eq_t, zI_eq_f, zI_in_t, zz_isIn_t, zz_isIn_f, not_true_eq_false, not_false_eq_true, true_or, or_true, false_or, or_false, true_and, and_true, false_and, and_false, Nat.reduceLeDiff, Int.reduceAdd, Int.reduceSub, Int.reduceMul, Int.reduceNeg, Int.reduceToNat, Nat.reduceAdd, Nat.reduceMul, Nat.reduceSub, Int.toNat_natCast, m5, show (3 + 1 : Int).toNat = 4 from rfl, zN_le_t, zN_le_f]
      · simp (disch := omega) only [↓reduceIte, ↓shl_ap, shb_ap, shv_ap, zI_lit, zL_lit, nI_z, lN_z, ofN_z, zI_add, zI_sub, zI_mul, zI_neg, zL_add, zL_sub, zL_mul, zL_neg, zI_l, zI_cl, zI_le_t, zI_le_f, zI_lt_t, zI_lt_f, zI_eq_t, zI_eq_f, zI_in_t, zz_isIn_t, zz_isIn_f, not_true_eq_false, not_false_eq_true, true_or, or_true, false_or, or_false, true_and, and_true, false_and, and_false, Nat.reduceLeDiff, Int.reduceAdd, Int.reduceSub, Int.reduceMul, Int.reduceNeg, Int.reduceToNat, Nat.reduceAdd, Nat.reduceMul, Nat.reduceSub, Int.toNat_natCast, zN_le_t, zN_le_f]
