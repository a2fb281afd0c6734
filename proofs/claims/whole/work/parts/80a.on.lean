/-! images taken in -/
theorem zI_pw {n : Nat} (h : n ≤ 7) : ((1 : Int32) <<< (zI n &&& 31)) = zI ((2 ^ n : Nat) : Int) := by
  have : ∀ n : Nat, n ≤ 7 → ((1 : Int32) <<< (zI n &&& 31)) = zI ((2 ^ n : Nat) : Int) := by decide +kernel
  exact this n h
theorem zI_pw2 {n : Nat} (h : n ≤ 7) : (zI 1 <<< (zI n &&& zI 31)) = zI ((2 ^ n : Nat) : Int) := zI_pw h
theorem cl_pt1 {μ : sh_Mem} {T : Nat → Nat} {i1 : Int32} {B : Nat} (hB : B + 4 ≤ 1600) (hT : ∀ j, j < 1600 → T j < 256 ∧ sh_i μ 1 j = zI (T j)) : ∀ (g f A : Nat), A + 4 * g = B → g < f → ((∀ k, k < g → ¬ (T (A + 4 * k) = T B ∧ T (A + 4 * k + 1) = T (B + 1))) ∧ F_X11_isPersonTold f 1 i1 (zI B) (zI A) μ = some (1, μ)) ∨ (¬ (∀ k, k < g → ¬ (T (A + 4 * k) = T B ∧ T (A + 4 * k + 1) = T (B + 1))) ∧ F_X11_isPersonTold f 1 i1 (zI B) (zI A) μ = some (0, μ)) := by
  intro g
  induction g with
  | zero =>
    intro f A hA hf
    obtain ⟨f, rfl⟩ : ∃ q, f = q + 1 := ⟨f - 1, by omega⟩
    have : A = B := by omega
    subst this
    refine Or.inl ⟨fun k hk => by omega, ?_⟩
    rw [F_X11_isPersonTold]
    simp (disch := omega) only [↓reduceIte, ↓shl_ap, shb_ap, shv_ap, zI_lit, zL_lit, nI_z, lN_z, ofN_z, zI_add, zI_sub, zI_mul, zI_neg, zL_add, zL_sub, zL_mul, zL_neg, zI_l, zI_cl, zI_le_t, zI_le_f, zI_lt_t, zI_lt_f, zI_eq_t, zI_eq_f, zI_in_t, zz_isIn_t, zz_isIn_f, not_true_eq_false, not_false_eq_true, true_or, or_true, false_or, or_false, true_and, and_true, false_and, and_false, Nat.reduceLeDiff, Int.reduceAdd, Int.reduceSub, Int.reduceMul, Int.reduceNeg, Int.reduceToNat, Nat.reduceAdd, Nat.reduceMul, Nat.reduceSub, Int.toNat_natCast, zN_le_t, zN_le_f]
  | succ g ih =>
    intro f A hA hf
    obtain ⟨f, rfl⟩ : ∃ q, f = q + 1 := ⟨f - 1, by omega⟩
    obtain ⟨a1, a2⟩ := hT A (by omega)
    obtain ⟨a3, a4⟩ := hT (A + 1) (by omega)
    obtain ⟨b1, b2⟩ := hT B (by omega)
    obtain ⟨b3, b4⟩ := hT (B + 1) (by omega)
    have hs : ¬ (T A = T B ∧ T (A + 1) = T (B + 1)) → F_X11_isPersonTold (f + 1) 1 i1 (zI B) (zI A) μ = F_X11_isPersonTold f 1 i1 (zI B) (zI ((A + 4 : Nat) : Int)) μ := by
      intro hn
      rw [F_X11_isPersonTold]
      by_cases c1 : T A = T B
      · have c2 : ¬ T (A + 1) = T (B + 1) := fun z => hn ⟨c1, z⟩
        simp (disch := omega) only [↓reduceIte, ↓shl_ap, shb_ap, shv_ap, zI_lit, zL_lit, nI_z, lN_z, ofN_z, zI_add, zI_sub, zI_mul, zI_neg, zL_add, zL_sub, zL_mul, zL_neg, zI_l, zI_cl, zI_le_t, zI_le_f, zI_lt_t, zI_lt_f, zI_eq_t, zI_eq_f, zI_in_t, zz_isIn_t, zz_isIn_f, not_true_eq_false, not_false_eq_true, true_or, or_true, false_or, or_false, true_and, and_true, false_and, and_false, Nat.reduceLeDiff, Int.reduceAdd, Int.reduceSub, Int.reduceMul, Int.reduceNeg, Int.reduceToNat, Nat.reduceAdd, Nat.reduceMul, Nat.reduceSub, Int.toNat_natCast, a2, b2, show ((A : Int) + 1).toNat = A + 1 by omega, show ((B : Int) + 1).toNat = B + 1 by omega, a4, b4, zN_le_t, zN_le_f]
        rfl
      · simp (disch := omega) only [↓reduceIte, ↓shl_ap, shb_ap, shv_ap, zI_lit, zL_lit, nI_z, lN_z, ofN_z, zI_add, zI_sub, zI_mul, zI_neg, zL_add, zL_sub, zL_mul, zL_neg, zI_l, zI_cl, zI_le_t, zI_le_f, zI_lt_t, zI_lt_f, zI_eq_t, zI_eq_f, zI_in_t, zz_isIn_t, zz_isIn_f, not_true_eq_false, not_false_eq_true, true_or, or_true, false_or, or_false, true_and, and_true, false_and, and_false, Nat.reduceLeDiff, Int.reduceAdd, Int.reduceSub, Int.reduceMul, Int.reduceNeg, Int.reduceToNat, Nat.reduceAdd, Nat.reduceMul, Nat.reduceSub, Int.toNat_natCast, a2, b2, zN_le_t, zN_le_f]
        rfl
    by_cases c : T A = T B ∧ T (A + 1) = T (B + 1)
    · refine Or.inr ⟨fun z => z 0 (by omega) c, ?_⟩
      obtain ⟨c1, c2⟩ := c
      rw [F_X11_isPersonTold]
      simp (disch := omega) only [↓reduceIte, ↓shl_ap, shb_ap, shv_ap, zI_lit, zL_lit, nI_z, lN_z, ofN_z, zI_add, zI_sub, zI_mul, zI_neg, zL_add, zL_sub, zL_mul, zL_neg, zI_l, zI_cl, zI_le_t, zI_le_f, zI_lt_t, zI_lt_f, zI_eq_t, zI_eq_f, zI_in_t, zz_isIn_t, zz_isIn_f, not_true_eq_false, not_false_eq_true, true_or, or_true, false_or, or_false, true_and, and_true, false_and, and_false, Nat.reduceLeDiff, Int.reduceAdd, Int.reduceSub, Int.reduceMul, Int.reduceNeg, Int.reduceToNat, Nat.reduceAdd, Nat.reduceMul, Nat.reduceSub, Int.toNat_natCast, a2, b2, show ((A : Int) + 1).toNat = A + 1 by omega, show ((B : Int) + 1).toNat = B + 1 by omega, a4, b4, zN_le_t, zN_le_f]
    · rw [hs c]
      rcases ih f (A + 4) (by omega) (by omega) with ⟨q1, q2⟩ | ⟨q1, q2⟩
      · refine Or.inl ⟨fun k hk => ?_, q2⟩
        by_cases k0 : k = 0
        · subst k0; exact c
        · have := q1 (k - 1) (by omega)
          rw [show A + 4 + 4 * (k - 1) = A + 4 * k by omega] at this
          exact this
      · refine Or.inr ⟨fun z => q1 (fun k hk => ?_), q2⟩
        have := z (k + 1) (by omega)
        rw [show A + 4 * (k + 1) = A + 4 + 4 * k by omega] at this
        exact this
theorem rf_pt1 {μ : sh_Mem} {T : Nat → Nat} {i1 : Int32} {B : Nat} (hB : B + 4 ≤ 1600) (hT : ∀ j, j < 1600 → T j < 256 ∧ sh_i μ 292 j = zI (T j)) : ∀ (g f A : Nat), A + 4 * g = B → g < f → ((∀ k, k < g → ¬ (T (A + 4 * k) = T B ∧ T (A + 4 * k + 1) = T (B + 1))) ∧ F_X12_isPersonTold f 1 i1 (zI B) (zI A) μ = some (1, μ)) ∨ (¬ (∀ k, k < g → ¬ (T (A + 4 * k) = T B ∧ T (A + 4 * k + 1) = T (B + 1))) ∧ F_X12_isPersonTold f 1 i1 (zI B) (zI A) μ = some (0, μ)) := by
  intro g
  induction g with
  | zero =>
    intro f A hA hf
    obtain ⟨f, rfl⟩ : ∃ q, f = q + 1 := ⟨f - 1, by omega⟩
    have : A = B := by omega
    subst this
    refine Or.inl ⟨fun k hk => by omega, ?_⟩
    rw [F_X12_isPersonTold]
    simp (disch := omega) only [↓reduceIte, ↓shl_ap, shb_ap, shv_ap, zI_lit, zL_lit, nI_z, lN_z, ofN_z, zI_add, zI_sub, zI_mul, zI_neg, zL_add, zL_sub, zL_mul, zL_neg, zI_l, zI_cl, zI_le_t, zI_le_f, zI_lt_t, zI_lt_f, zI_eq_t, zI_eq_f, zI_in_t, zz_isIn_t, zz_isIn_f, not_true_eq_false, not_false_eq_true, true_or, or_true, false_or, or_false, true_and, and_true, false_and, and_false, Nat.reduceLeDiff, Int.reduceAdd, Int.reduceSub, Int.reduceMul, Int.reduceNeg, Int.reduceToNat, Nat.reduceAdd, Nat.reduceMul, Nat.reduceSub, Int.toNat_natCast, zN_le_t, zN_le_f]
  | succ g ih =>
    intro f A hA hf
    obtain ⟨f, rfl⟩ : ∃ q, f = q + 1 := ⟨f - 1, by omega⟩
    obtain ⟨a1, a2⟩ := hT A (by omega)
    obtain ⟨a3, a4⟩ := hT (A + 1) (by omega)
    obtain ⟨b1, b2⟩ := hT B (by omega)
    obtain ⟨b3, b4⟩ := hT (B + 1) (by omega)
    have hs : ¬ (T A = T B ∧ T (A + 1) = T (B + 1)) → F_X12_isPersonTold (f + 1) 1 i1 (zI B) (zI A) μ = F_X12_isPersonTold f 1 i1 (zI B) (zI ((A + 4 : Nat) : Int)) μ := by
      intro hn
      rw [F_X12_isPersonTold]
      by_cases c1 : T A = T B
      · have c2 : ¬ T (A + 1) = T (B + 1) := fun z => hn ⟨c1, z⟩
        simp (disch := omega) only [↓reduceIte, ↓shl_ap, shb_ap, shv_ap, zI_lit, zL_lit, nI_z, lN_z, ofN_z, zI_add, zI_sub, zI_mul, zI_neg, zL_add, zL_sub, zL_mul, zL_neg, zI_l, zI_cl, zI_le_t, zI_le_f, zI_lt_t, zI_lt_f, zI_eq_t, zI_eq_f, zI_in_t, zz_isIn_t, zz_isIn_f, not_true_eq_false, not_false_eq_true, true_or, or_true, false_or, or_false, true_and, and_true, false_and, and_false, Nat.reduceLeDiff, Int.reduceAdd, Int.reduceSub, Int.reduceMul, Int.reduceNeg, Int.reduceToNat, Nat.reduceAdd, Nat.reduceMul, Nat.reduceSub, Int.toNat_natCast, a2, b2, show ((A : Int) + 1).toNat = A + 1 by omega, show ((B : Int) + 1).toNat = B + 1 by omega, a4, b4, zN_le_t, zN_le_f]
        rfl
      · simp (disch := omega) only [↓reduceIte, ↓shl_ap, shb_ap, shv_ap, zI_lit, zL_lit, nI_z, lN_z, ofN_z, zI_add, zI_sub, zI_mul, zI_neg, zL_add, zL_sub, zL_mul, zL_neg, zI_l, zI_cl, zI_le_t, zI_le_f, zI_lt_t, zI_lt_f, zI_eq_t, zI_eq_f, zI_in_t, zz_isIn_t, zz_isIn_f, not_true_eq_false, not_false_eq_true, true_or, or_true, false_or, or_false, true_and, and_true, false_and, and_false, Nat.reduceLeDiff, Int.reduceAdd, Int.reduceSub, Int.reduceMul, Int.reduceNeg, Int.reduceToNat, Nat.reduceAdd, Nat.reduceMul, Nat.reduceSub, Int.toNat_natCast, a2, b2, zN_le_t, zN_le_f]
        rfl
    by_cases c : T A = T B ∧ T (A + 1) = T (B + 1)
    · refine Or.inr ⟨fun z => z 0 (by omega) c, ?_⟩
      obtain ⟨c1, c2⟩ := c
      rw [F_X12_isPersonTold]
      simp (disch := omega) only [↓reduceIte, ↓shl_ap, shb_ap, shv_ap, zI_lit, zL_lit, nI_z, lN_z, ofN_z, zI_add, zI_sub, zI_mul, zI_neg, zL_add, zL_sub, zL_mul, zL_neg, zI_l, zI_cl, zI_le_t, zI_le_f, zI_lt_t, zI_lt_f, zI_eq_t, zI_eq_f, zI_in_t, zz_isIn_t, zz_isIn_f, not_true_eq_false, not_false_eq_true, true_or, or_true, false_or, or_false, true_and, and_true, false_and, and_false, Nat.reduceLeDiff, Int.reduceAdd, Int.reduceSub, Int.reduceMul, Int.reduceNeg, Int.reduceToNat, Nat.reduceAdd, Nat.reduceMul, Nat.reduceSub, Int.toNat_natCast, a2, b2, show ((A : Int) + 1).toNat = A + 1 by omega, show ((B : Int) + 1).toNat = B + 1 by omega, a4, b4, zN_le_t, zN_le_f]
    · rw [hs c]
      rcases ih f (A + 4) (by omega) (by omega) with ⟨q1, q2⟩ | ⟨q1, q2⟩
      · refine Or.inl ⟨fun k hk => ?_, q2⟩
        by_cases k0 : k = 0
        · subst k0; exact c
        · have := q1 (k - 1) (by omega)
          rw [show A + 4 + 4 * (k - 1) = A + 4 * k by omega] at this
          exact this
      · refine Or.inr ⟨fun z => q1 (fun k hk => ?_), q2⟩
        have := z (k + 1) (by omega)
        rw [show A + 4 * (k + 1) = A + 4 + 4 * k by omega] at this
        exact this
/-- where a person's bytes stand; whether they may -/
def pa (P : sp_T) (p : Nat) : Nat := 2 + sp_c P * sp_r P + 4 * p
def pgd (P : sp_T) (T : Nat → Nat) (p : Nat) : Prop := T (pa P p) < sp_c P ∧ T (pa P p + 1) < sp_r P ∧ T (pa P p + 2) ≤ 9 ∧ T (pa P p + 3) < 2 ^ sp_nt P ∧ ∀ k, k < p → ¬ (T (pa P 0 + 4 * k) = T (pa P p) ∧ T (pa P 0 + 4 * k + 1) = T (pa P p + 1))
section Onn
variable {t : Nat} {P : sp_T} {L : sl_T} {T : Nat → Nat}
theorem pw_le (hk : sp_ok P) : 2 ^ sp_nt P ≤ 32 := by
  have hb := sp_bd hk
  exact Nat.le_trans (Nat.pow_le_pow_right (by omega) (show sp_nt P ≤ 5 by omega)) (by decide)
theorem cl_pt {μ : sh_Mem} (hr : sh_r μ 0 7 = some t) (ht : sh_isP t) (hP : sm_cP μ t P) (hk : sp_ok P) (hT : ∀ j, j < 1600 → T j < 256 ∧ sh_i μ 1 j = zI (T j)) {p : Nat} (hp : p < sp_np P) : (pgd P T p ∧ f_X11_isPersonTold (zI (pa P 0)) (zI (pa P p)) μ = some (1, μ)) ∨ (¬ pgd P T p ∧ f_X11_isPersonTold (zI (pa P 0)) (zI (pa P p)) μ = some (0, μ)) := by
  have hb := sp_bd hk
  have hc49 := sp_cells hk
  have hpw := pw_le hk
  have hA : pa P p + 4 ≤ 1600 := by unfold pa; omega
  have h0 : pa P 0 + 4 * p = pa P p := by unfold pa; omega
  have hin := cl_pt1 (i1 := zI (pa P 0)) hA hT p sh_fuel (pa P 0) h0 (by rw [sh_fuel_eq]; omega)
  unfold pgd
  unfold f_X11_isPersonTold
  rw [shr_ap hr]
  generalize pa P p = A at *
  obtain ⟨a1, a2⟩ := hT A (by omega)
  obtain ⟨a3, a4⟩ := hT (A + 1) (by omega)
  obtain ⟨a5, a6⟩ := hT (A + 2) (by omega)
  obtain ⟨a7, a8⟩ := hT (A + 3) (by omega)
  have x1 : ((A : Int) + 1).toNat = A + 1 := by omega
  have x2 : ((A : Int) + 2).toNat = A + 2 := by omega
  have x3 : ((A : Int) + 3).toNat = A + 3 := by omega
  have hca := cl_cellAt (μ := μ) (t := t) (P := P) (a := (T A : Int)) (b := (T (A + 1) : Int)) hP hk (by omega) (by omega) (by omega) (by omega)
  have hnt : sh_i μ t 2 = zI (sp_nt P) := by rw [hP.2.2.1, nI_z]
  rcases kx_in hk (x := T A) (y := T (A + 1)) with ⟨q1, q2, q3⟩ | ⟨q1, q1', q2, q3⟩
  · refine Or.inr ⟨fun z => q1 ⟨z.1, z.2.1⟩, ?_⟩
    simp (disch := omega) only [↓reduceIte, ↓shl_ap, shb_ap, shv_ap, zI_lit, zL_lit, nI_z, lN_z, ofN_z, zI_add, zI_sub, zI_mul, zI_neg, zL_add, zL_sub, zL_mul, zL_neg, zI_l, zI_cl, zI_le_t, zI_le_f, zI_lt_t, zI_lt_f, zI_eq_t, zI_eq_f, zI_in_t, zz_isIn_t, zz_isIn_f, not_true_eq_false, not_false_eq_true, true_or, or_true, false_or, or_false, true_and, and_true, false_and, and_false, Nat.reduceLeDiff, Int.reduceAdd, Int.reduceSub, Int.reduceMul, Int.reduceNeg, Int.reduceToNat, Nat.reduceAdd, Nat.reduceMul, Nat.reduceSub, Int.toNat_natCast, hr, shr_ap hr, shp ht, a2, x1, a4, hca, q2, zN_le_t, zN_le_f]
  · have hcell := sp_cell hk q1 q1'
    have hpw0 := Nat.two_pow_pos (sp_nt P)
    by_cases c1 : T (A + 2) ≤ 9
    · by_cases c2 : T (A + 3) < 2 ^ sp_nt P
      · rcases hin with ⟨w1, w2⟩ | ⟨w1, w2⟩
        · refine Or.inl ⟨⟨q1, q1', c1, c2, w1⟩, ?_⟩
          simp (disch := omega) only [↓reduceIte, ↓shl_ap, shb_ap, shv_ap, zI_lit, zL_lit, nI_z, lN_z, ofN_z, zI_add, zI_sub, zI_mul, zI_neg, zL_add, zL_sub, zL_mul, zL_neg, zI_l, zI_cl, zI_le_t, zI_le_f, zI_lt_t, zI_lt_f, zI_eq_t, zI_eq_f, zI_in_t, zz_isIn_t, zz_isIn_f, not_true_eq_false, not_false_eq_true, true_or, or_true, false_or, or_false, true_and, and_true, false_and, and_false, Nat.reduceLeDiff, Int.reduceAdd, Int.reduceSub, Int.reduceMul, Int.reduceNeg, Int.reduceToNat, Nat.reduceAdd, Nat.reduceMul, Nat.reduceSub, Int.toNat_natCast, hr, shr_ap hr, shp ht, a2, x1, a4, hca, q2, x2, a6, x3, a8, hnt, zI_pw2, zN_le_t, zN_le_f]
          exact w2
        · refine Or.inr ⟨fun z => w1 z.2.2.2.2, ?_⟩
          simp (disch := omega) only [↓reduceIte, ↓shl_ap, shb_ap, shv_ap, zI_lit, zL_lit, nI_z, lN_z, ofN_z, zI_add, zI_sub, zI_mul, zI_neg, zL_add, zL_sub, zL_mul, zL_neg, zI_l, zI_cl, zI_le_t, zI_le_f, zI_lt_t, zI_lt_f, zI_eq_t, zI_eq_f, zI_in_t, zz_isIn_t, zz_isIn_f, not_true_eq_false, not_false_eq_true, true_or, or_true, false_or, or_false, true_and, and_true, false_and, and_false, Nat.reduceLeDiff, Int.reduceAdd, Int.reduceSub, Int.reduceMul, Int.reduceNeg, Int.reduceToNat, Nat.reduceAdd, Nat.reduceMul, Nat.reduceSub, Int.toNat_natCast, hr, shr_ap hr, shp ht, a2, x1, a4, hca, q2, x2, a6, x3, a8, hnt, zI_pw2, zN_le_t, zN_le_f]
          exact w2
      · refine Or.inr ⟨fun z => c2 z.2.2.2.1, ?_⟩
        simp (disch := omega) only [↓reduceIte, ↓shl_ap, shb_ap, shv_ap, zI_lit, zL_lit, nI_z, lN_z, ofN_z, zI_add, zI_sub, zI_mul, zI_neg, zL_add, zL_sub, zL_mul, zL_neg, zI_l, zI_cl, zI_le_t, zI_le_f, zI_lt_t, zI_lt_f, zI_eq_t, zI_eq_f, zI_in_t, zz_isIn_t, zz_isIn_f, not_true_eq_false, not_false_eq_true, true_or, or_true, false_or, or_false, true_and, and_true, false_and, and_false, Nat.reduceLeDiff, Int.reduceAdd, Int.reduceSub, Int.reduceMul, Int.reduceNeg, Int.reduceToNat, Nat.reduceAdd, Nat.reduceMul, Nat.reduceSub, Int.toNat_natCast, hr, shr_ap hr, shp ht, a2, x1, a4, hca, q2, x2, a6, x3, a8, hnt, zI_pw2, zN_le_t, zN_le_f]
    · refine Or.inr ⟨fun z => c1 z.2.2.1, ?_⟩
      simp (disch := omega) only [↓reduceIte, ↓shl_ap, shb_ap, shv_ap, zI_lit, zL_lit, nI_z, lN_z, ofN_z, zI_add, zI_sub, zI_mul, zI_neg, zL_add, zL_sub, zL_mul, zL_neg, zI_l, zI_cl, zI_le_t, zI_le_f, zI_lt_t, zI_lt_f, zI_eq_t, zI_eq_f, zI_in_t, zz_isIn_t, zz_isIn_f, not_true_eq_false, not_false_eq_true, true_or, or_true, false_or, or_false, true_and, and_true, false_and, and_false, Nat.reduceLeDiff, Int.reduceAdd, Int.reduceSub, Int.reduceMul, Int.reduceNeg, Int.reduceToNat, Nat.reduceAdd, Nat.reduceMul, Nat.reduceSub, Int.toNat_natCast, hr, shr_ap hr, shp ht, a2, x1, a4, hca, q2, x2, a6, zN_le_t, zN_le_f]
theorem rf_pt {μ : sh_Mem} (hM : sm_mP μ P) (hk : sp_ok P) (hT : ∀ j, j < 1600 → T j < 256 ∧ sh_i μ 292 j = zI (T j)) {p : Nat} (hp : p < sp_np P) : (pgd P T p ∧ f_X12_isPersonTold (zI (pa P 0)) (zI (pa P p)) μ = some (1, μ)) ∨ (¬ pgd P T p ∧ f_X12_isPersonTold (zI (pa P 0)) (zI (pa P p)) μ = some (0, μ)) := by
  have hb := sp_bd hk
  have hc49 := sp_cells hk
  have hpw := pw_le hk
  have hA : pa P p + 4 ≤ 1600 := by unfold pa; omega
  have h0 : pa P 0 + 4 * p = pa P p := by unfold pa; omega
  have hin := rf_pt1 (i1 := zI (pa P 0)) hA hT p sh_fuel (pa P 0) h0 (by rw [sh_fuel_eq]; omega)
  unfold pgd
  unfold f_X12_isPersonTold
  generalize pa P p = A at *
  obtain ⟨a1, a2⟩ := hT A (by omega)
  obtain ⟨a3, a4⟩ := hT (A + 1) (by omega)
  obtain ⟨a5, a6⟩ := hT (A + 2) (by omega)
  obtain ⟨a7, a8⟩ := hT (A + 3) (by omega)
  have x1 : ((A : Int) + 1).toNat = A + 1 := by omega
  have x2 : ((A : Int) + 2).toNat = A + 2 := by omega
  have x3 : ((A : Int) + 3).toNat = A + 3 := by omega
  have hca := rf_cellAt (μ := μ) (P := P) (a := (T A : Int)) (b := (T (A + 1) : Int)) hM hk (by omega) (by omega) (by omega) (by omega)
  rcases kx_in hk (x := T A) (y := T (A + 1)) with ⟨q1, q2, q3⟩ | ⟨q1, q1', q2, q3⟩
  · refine Or.inr ⟨fun z => q1 ⟨z.1, z.2.1⟩, ?_⟩
    simp (disch := omega) only [↓reduceIte, ↓shl_ap, shb_ap, shv_ap, zI_lit, zL_lit, nI_z, lN_z, ofN_z, zI_add, zI_sub, zI_mul, zI_neg, zL_add, zL_sub, zL_mul, zL_neg, zI_l, zI_cl, zI_le_t, zI_le_f, zI_lt_t, zI_lt_f, zI_eq_t, zI_eq_f, zI_in_t, zz_isIn_t, zz_isIn_f, not_true_eq_false, not_false_eq_true, true_or, or_true, false_or, or_false, true_and, and_true, false_and, and_false, Nat.reduceLeDiff, Int.reduceAdd, Int.reduceSub, Int.reduceMul, Int.reduceNeg, Int.reduceToNat, Nat.reduceAdd, Nat.reduceMul, Nat.reduceSub, Int.toNat_natCast, a2, x1, a4, hca, q3, zN_le_t, zN_le_f]
  · have hcell := sp_cell hk q1 q1'
    have hpw0 := Nat.two_pow_pos (sp_nt P)
    by_cases c1 : T (A + 2) ≤ 9
    · by_cases c2 : T (A + 3) < 2 ^ sp_nt P
      · rcases hin with ⟨w1, w2⟩ | ⟨w1, w2⟩
        · refine Or.inl ⟨⟨q1, q1', c1, c2, w1⟩, ?_⟩
          simp (disch := omega) only [↓reduceIte, ↓shl_ap, shb_ap, shv_ap, zI_lit, zL_lit, nI_z, lN_z, ofN_z, zI_add, zI_sub, zI_mul, zI_neg, zL_add, zL_sub, zL_mul, zL_neg, zI_l, zI_cl, zI_le_t, zI_le_f, zI_lt_t, zI_lt_f, zI_eq_t, zI_eq_f, zI_in_t, zz_isIn_t, zz_isIn_f, not_true_eq_false, not_false_eq_true, true_or, or_true, false_or, or_false, true_and, and_true, false_and, and_false, Nat.reduceLeDiff, Int.reduceAdd, Int.reduceSub, Int.reduceMul, Int.reduceNeg, Int.reduceToNat, Nat.reduceAdd, Nat.reduceMul, Nat.reduceSub, Int.toNat_natCast, a2, x1, a4, hca, q3, x2, a6, x3, a8, rf_topicMany hM, zI_pw2, zN_le_t, zN_le_f]
          exact w2
        · refine Or.inr ⟨fun z => w1 z.2.2.2.2, ?_⟩
          simp (disch := omega) only [↓reduceIte, ↓shl_ap, shb_ap, shv_ap, zI_lit, zL_lit, nI_z, lN_z, ofN_z, zI_add, zI_sub, zI_mul, zI_neg, zL_add, zL_sub, zL_mul, zL_neg, zI_l, zI_cl, zI_le_t, zI_le_f, zI_lt_t, zI_lt_f, zI_eq_t, zI_eq_f, zI_in_t, zz_isIn_t, zz_isIn_f, not_true_eq_false, not_false_eq_true, true_or, or_true, false_or, or_false, true_and, and_true, false_and, and_false, Nat.reduceLeDiff, Int.reduceAdd, Int.reduceSub, Int.reduceMul, Int.reduceNeg, Int.reduceToNat, Nat.reduceAdd, Nat.reduceMul, Nat.reduceSub, Int.toNat_natCast, a2, x1, a4, hca, q3, x2, a6, x3, a8, rf_topicMany hM, zI_pw2, zN_le_t, zN_le_f]
          exact w2
      · refine Or.inr ⟨fun z => c2 z.2.2.2.1, ?_⟩
        simp (disch := omega) only [↓reduceIte, ↓shl_ap, shb_ap, shv_ap, zI_lit, zL_lit, nI_z, lN_z, ofN_z, zI_add, zI_sub, zI_mul, zI_neg, zL_add, zL_sub, zL_mul, zL_neg, zI_l, zI_cl, zI_le_t, zI_le_f, zI_lt_t, zI_lt_f, zI_eq_t, zI_eq_f, zI_in_t, zz_isIn_t, zz_isIn_f, not_true_eq_false, not_false_eq_true, true_or, or_true, false_or, or_false, true_and, and_true, false_and, and_false, Nat.reduceLeDiff, Int.reduceAdd, Int.reduceSub, Int.reduceMul, Int.reduceNeg, Int.reduceToNat, Nat.reduceAdd, Nat.reduceMul, Nat.reduceSub, Int.toNat_natCast, a2, x1, a4, hca, q3, x2, a6, x3, a8, rf_topicMany hM, zI_pw2, zN_le_t, zN_le_f]
    · refine Or.inr ⟨fun z => c1 z.2.2.1, ?_⟩
      simp (disch := omega) only [↓reduceIte, ↓shl_ap, shb_ap, shv_ap, zI_lit, zL_lit, nI_z, lN_z, ofN_z, zI_add, zI_sub, zI_mul, zI_neg, zL_add, zL_sub, zL_mul, zL_neg, zI_l, zI_cl, zI_le_t, zI_le_f, zI_lt_t, zI_lt_f, zI_eq_t, zI_eq_f, zI_in_t, zz_isIn_t, zz_isIn_f, not_true_eq_false, not_false_eq_true, true_or, or_true, false_or, or_false, true_and, and_true, false_and, and_false, Nat.reduceLeDiff, Int.reduceAdd, Int.reduceSub, Int.reduceMul, Int.reduceNeg, Int.reduceToNat, Nat.reduceAdd, Nat.reduceMul, Nat.reduceSub, Int.toNat_natCast, a2, x1, a4, hca, q3, x2, a6, zN_le_t, zN_le_f]
theorem cl_im2 {μ : sh_Mem} {i1 : Int32} (hr : sh_r μ 0 7 = some t) (ht : sh_isP t) (hP : sm_cP μ t P) (hk : sp_ok P) (hT : ∀ j, j < 1600 → T j < 256 ∧ sh_i μ 1 j = zI (T j)) : ∀ (g f p : Nat), p + g = sp_np P → g < f → ((∀ q, p ≤ q → q < sp_np P → pgd P T q) ∧ F_X11_isImage f 2 i1 (zI (pa P 0)) (zI (pa P (sp_np P))) (zI (pa P p)) μ = some (1, μ)) ∨ (¬ (∀ q, p ≤ q → q < sp_np P → pgd P T q) ∧ F_X11_isImage f 2 i1 (zI (pa P 0)) (zI (pa P (sp_np P))) (zI (pa P p)) μ = some (0, μ)) := by
  have hb := sp_bd hk
  have hc49 := sp_cells hk
  have hN : pa P (sp_np P) ≤ 79 := by unfold pa; omega
  intro g
  induction g with
  | zero =>
    intro f p hp hf
    obtain ⟨f, rfl⟩ : ∃ q, f = q + 1 := ⟨f - 1, by omega⟩
    have : p = sp_np P := by omega
    subst this
    refine Or.inl ⟨fun q h1 h2 => by omega, ?_⟩
    rw [F_X11_isImage]
    simp (disch := omega) only [↓reduceIte, ↓shl_ap, shb_ap, shv_ap, zI_lit, zL_lit, nI_z, lN_z, ofN_z, zI_add, zI_sub, zI_mul, zI_neg, zL_add, zL_sub, zL_mul, zL_neg, zI_l, zI_cl, zI_le_t, zI_le_f, zI_lt_t, zI_lt_f, zI_eq_t, zI_eq_f, zI_in_t, zz_isIn_t, zz_isIn_f, not_true_eq_false, not_false_eq_true, true_or, or_true, false_or, or_false, true_and, and_true, false_and, and_false, Nat.reduceLeDiff, Int.reduceAdd, Int.reduceSub, Int.reduceMul, Int.reduceNeg, Int.reduceToNat, Nat.reduceAdd, Nat.reduceMul, Nat.reduceSub, Int.toNat_natCast, zN_le_t, zN_le_f]
  | succ g ih =>
    intro f p hp hf
    obtain ⟨f, rfl⟩ : ∃ q, f = q + 1 := ⟨f - 1, by omega⟩
    have hlt : pa P p < pa P (sp_np P) := by unfold pa; omega
    have h4 : ((pa P p : Nat) : Int) + 4 = ((pa P (p + 1) : Nat) : Int) := by unfold pa; omega
    rcases cl_pt hr ht hP hk hT (T := T) (p := p) (by omega) with ⟨q1, q2⟩ | ⟨q1, q2⟩
    · have hs : F_X11_isImage (f + 1) 2 i1 (zI (pa P 0)) (zI (pa P (sp_np P))) (zI (pa P p)) μ = F_X11_isImage f 2 i1 (zI (pa P 0)) (zI (pa P (sp_np P))) (zI (pa P (p + 1))) μ := by
        rw [F_X11_isImage]
        simp (disch := omega) only [↓reduceIte, ↓shl_ap, shb_ap, shv_ap, zI_lit, zL_lit, nI_z, lN_z, ofN_z, zI_add, zI_sub, zI_mul, zI_neg, zL_add, zL_sub, zL_mul, zL_neg, zI_l, zI_cl, zI_le_t, zI_le_f, zI_lt_t, zI_lt_f, zI_eq_t, zI_eq_f, zI_in_t, zz_isIn_t, zz_isIn_f, not_true_eq_false, not_false_eq_true, true_or, or_true, false_or, or_false, true_and, and_true, false_and, and_false, Nat.reduceLeDiff, Int.reduceAdd, Int.reduceSub, Int.reduceMul, Int.reduceNeg, Int.reduceToNat, Nat.reduceAdd, Nat.reduceMul, Nat.reduceSub, Int.toNat_natCast, q2, zN_le_t, zN_le_f]
        rw [h4]
      rw [hs]
      rcases ih f (p + 1) (by omega) (by omega) with ⟨w1, w2⟩ | ⟨w1, w2⟩
      · refine Or.inl ⟨fun q h1 h2 => ?_, w2⟩
        by_cases c : q = p
        · subst c; exact q1
        · exact w1 q (by omega) h2
      · exact Or.inr ⟨fun z => w1 (fun q h1 h2 => z q (by omega) h2), w2⟩
    · refine Or.inr ⟨fun z => q1 (z p (by omega) (by omega)), ?_⟩
      rw [F_X11_isImage]
      simp (disch := omega) only [↓reduceIte, ↓shl_ap, shb_ap, shv_ap, zI_lit, zL_lit, nI_z, lN_z, ofN_z, zI_add, zI_sub, zI_mul, zI_neg, zL_add, zL_sub, zL_mul, zL_neg, zI_l, zI_cl, zI_le_t, zI_le_f, zI_lt_t, zI_lt_f, zI_eq_t, zI_eq_f, zI_in_t, zz_isIn_t, zz_isIn_f, not_true_eq_false, not_false_eq_true, true_or, or_true, false_or, or_false, true_and, and_true, false_and, and_false, Nat.reduceLeDiff, Int.reduceAdd, Int.reduceSub, Int.reduceMul, Int.reduceNeg, Int.reduceToNat, Nat.reduceAdd, Nat.reduceMul, Nat.reduceSub, Int.toNat_natCast, q2, zN_le_t, zN_le_f]
theorem cl_im1 {μ : sh_Mem} {i1 : Int32} (hr : sh_r μ 0 7 = some t) (ht : sh_isP t) (hP : sm_cP μ t P) (hk : sp_ok P) (hT : ∀ j, j < 1600 → T j < 256 ∧ sh_i μ 1 j = zI (T j)) : ∀ (g f k : Nat), k + g = sp_c P * sp_r P → g + sp_np P + 2 < f → (((∀ j, k ≤ j → j < sp_c P * sp_r P → T (2 + j) ≤ 99) ∧ ∀ q, q < sp_np P → pgd P T q) ∧ F_X11_isImage f 1 i1 (zI (pa P 0)) (zI (pa P (sp_np P))) (zI ((2 + k : Nat) : Int)) μ = some (1, μ)) ∨ (¬ ((∀ j, k ≤ j → j < sp_c P * sp_r P → T (2 + j) ≤ 99) ∧ ∀ q, q < sp_np P → pgd P T q) ∧ F_X11_isImage f 1 i1 (zI (pa P 0)) (zI (pa P (sp_np P))) (zI ((2 + k : Nat) : Int)) μ = some (0, μ)) := by
  have hb := sp_bd hk
  have hc49 := sp_cells hk
  have hp0 : pa P 0 = 2 + sp_c P * sp_r P := by unfold pa; omega
  intro g
  induction g with
  | zero =>
    intro f k hg hf
    obtain ⟨f, rfl⟩ : ∃ q, f = q + 1 := ⟨f - 1, by omega⟩
    have : k = sp_c P * sp_r P := by omega
    subst this
    have hs : F_X11_isImage (f + 1) 1 i1 (zI (pa P 0)) (zI (pa P (sp_np P))) (zI ((2 + sp_c P * sp_r P : Nat) : Int)) μ = F_X11_isImage f 2 i1 (zI (pa P 0)) (zI (pa P (sp_np P))) (zI (pa P 0)) μ := by
      rw [F_X11_isImage, ← hp0]
      simp (disch := omega) only [↓reduceIte, ↓shl_ap, shb_ap, shv_ap, zI_lit, zL_lit, nI_z, lN_z, ofN_z, zI_add, zI_sub, zI_mul, zI_neg, zL_add, zL_sub, zL_mul, zL_neg, zI_l, zI_cl, zI_le_t, zI_le_f, zI_lt_t, zI_lt_f, zI_eq_t, zI_eq_f, zI_in_t, zz_isIn_t, zz_isIn_f, not_true_eq_false, not_false_eq_true, true_or, or_true, false_or, or_false, true_and, and_true, false_and, and_false, Nat.reduceLeDiff, Int.reduceAdd, Int.reduceSub, Int.reduceMul, Int.reduceNeg, Int.reduceToNat, Nat.reduceAdd, Nat.reduceMul, Nat.reduceSub, Int.toNat_natCast, zN_le_t, zN_le_f]
    rw [hs]
    rcases cl_im2 hr ht hP hk hT (sp_np P) f 0 (by omega) (by omega) with ⟨w1, w2⟩ | ⟨w1, w2⟩
    · exact Or.inl ⟨⟨fun j h1 h2 => by omega, fun q hq => w1 q (by omega) hq⟩, w2⟩
    · exact Or.inr ⟨fun z => w1 (fun q _ hq => z.2 q hq), w2⟩
  | succ g ih =>
    intro f k hg hf
    obtain ⟨f, rfl⟩ : ∃ q, f = q + 1 := ⟨f - 1, by omega⟩
    obtain ⟨a1, a2⟩ := hT (2 + k) (by omega)
    by_cases c : T (2 + k) ≤ 99
    · have hs : F_X11_isImage (f + 1) 1 i1 (zI (pa P 0)) (zI (pa P (sp_np P))) (zI ((2 + k : Nat) : Int)) μ = F_X11_isImage f 1 i1 (zI (pa P 0)) (zI (pa P (sp_np P))) (zI ((2 + (k + 1) : Nat) : Int)) μ := by
        rw [F_X11_isImage]
        have hlt : 2 + k < pa P 0 := by omega
        simp (disch := omega) only [↓reduceIte, ↓shl_ap, shb_ap, shv_ap, zI_lit, zL_lit, nI_z, lN_z, ofN_z, zI_add, zI_sub, zI_mul, zI_neg, zL_add, zL_sub, zL_mul, zL_neg, zI_l, zI_cl, zI_le_t, zI_le_f, zI_lt_t, zI_lt_f, zI_eq_t, zI_eq_f, zI_in_t, zz_isIn_t, zz_isIn_f, not_true_eq_false, not_false_eq_true, true_or, or_true, false_or, or_false, true_and, and_true, false_and, and_false, Nat.reduceLeDiff, Int.reduceAdd, Int.reduceSub, Int.reduceMul, Int.reduceNeg, Int.reduceToNat, Nat.reduceAdd, Nat.reduceMul, Nat.reduceSub, Int.toNat_natCast, a2, zN_le_t, zN_le_f]
        rfl
      rw [hs]
      rcases ih f (k + 1) (by omega) (by omega) with ⟨w1, w2⟩ | ⟨w1, w2⟩
      · refine Or.inl ⟨⟨fun j h1 h2 => ?_, w1.2⟩, w2⟩
        by_cases z : j = k
        · subst z; exact c
        · exact w1.1 j (by omega) h2
      · exact Or.inr ⟨fun z => w1 ⟨fun j h1 h2 => z.1 j (by omega) h2, z.2⟩, w2⟩
    · refine Or.inr ⟨fun z => c (z.1 k (by omega) (by omega)), ?_⟩
      rw [F_X11_isImage]
      have hlt : 2 + k < pa P 0 := by omega
      simp (disch := omega) only [↓reduceIte, ↓shl_ap, shb_ap, shv_ap, zI_lit, zL_lit, nI_z, lN_z, ofN_z, zI_add, zI_sub, zI_mul, zI_neg, zL_add, zL_sub, zL_mul, zL_neg, zI_l, zI_cl, zI_le_t, zI_le_f, zI_lt_t, zI_lt_f, zI_eq_t, zI_eq_f, zI_in_t, zz_isIn_t, zz_isIn_f, not_true_eq_false, not_false_eq_true, true_or, or_true, false_or, or_false, true_and, and_true, false_and, and_false, Nat.reduceLeDiff, Int.reduceAdd, Int.reduceSub, Int.reduceMul, Int.reduceNeg, Int.reduceToNat, Nat.reduceAdd, Nat.reduceMul, Nat.reduceSub, Int.toNat_natCast, a2, zN_le_t, zN_le_f]
theorem rf_im2 {μ : sh_Mem} (hM : sm_mP μ P) (hk : sp_ok P) (hT : ∀ j, j < 1600 → T j < 256 ∧ sh_i μ 292 j = zI (T j)) : ∀ (g f p : Nat), p + g = sp_np P → g < f → ((∀ q, p ≤ q → q < sp_np P → pgd P T q) ∧ F_X12_isImage f 2 (zI ((pa P (sp_np P) : Int) + 1)) (zI (pa P 0)) (zI (pa P p)) μ = some (1, μ)) ∨ (¬ (∀ q, p ≤ q → q < sp_np P → pgd P T q) ∧ F_X12_isImage f 2 (zI ((pa P (sp_np P) : Int) + 1)) (zI (pa P 0)) (zI (pa P p)) μ = some (0, μ)) := by
  have hb := sp_bd hk
  have hc49 := sp_cells hk
  have hN : pa P (sp_np P) ≤ 79 := by unfold pa; omega
  intro g
  induction g with
  | zero =>
    intro f p hp hf
    obtain ⟨f, rfl⟩ : ∃ q, f = q + 1 := ⟨f - 1, by omega⟩
    have : p = sp_np P := by omega
    subst this
    refine Or.inl ⟨fun q h1 h2 => by omega, ?_⟩
    rw [F_X12_isImage]
    simp (disch := omega) only [↓reduceIte, ↓shl_ap, shb_ap, shv_ap, zI_lit, zL_lit, nI_z, lN_z, ofN_z, zI_add, zI_sub, zI_mul, zI_neg, zL_add, zL_sub, zL_mul, zL_neg, zI_l, zI_cl, zI_le_t, zI_le_f, zI_lt_t, zI_lt_f, zI_eq_t, zI_eq_f, zI_in_t, zz_isIn_t, zz_isIn_f, not_true_eq_false, not_false_eq_true, true_or, or_true, false_or, or_false, true_and, and_true, false_and, and_false, Nat.reduceLeDiff, Int.reduceAdd, Int.reduceSub, Int.reduceMul, Int.reduceNeg, Int.reduceToNat, Nat.reduceAdd, Nat.reduceMul, Nat.reduceSub, Int.toNat_natCast, show ((pa P (sp_np P) : Int) + 1 - 1) = pa P (sp_np P) by omega, zN_le_t, zN_le_f]
  | succ g ih =>
    intro f p hp hf
    obtain ⟨f, rfl⟩ : ∃ q, f = q + 1 := ⟨f - 1, by omega⟩
    have hlt : pa P p < pa P (sp_np P) := by unfold pa; omega
    have h4 : ((pa P p : Nat) : Int) + 4 = ((pa P (p + 1) : Nat) : Int) := by unfold pa; omega
    rcases rf_pt hM hk hT (T := T) (p := p) (by omega) with ⟨q1, q2⟩ | ⟨q1, q2⟩
    · have hs : F_X12_isImage (f + 1) 2 (zI ((pa P (sp_np P) : Int) + 1)) (zI (pa P 0)) (zI (pa P p)) μ = F_X12_isImage f 2 (zI ((pa P (sp_np P) : Int) + 1)) (zI (pa P 0)) (zI (pa P (p + 1))) μ := by
        rw [F_X12_isImage]
        simp (disch := omega) only [↓reduceIte, ↓shl_ap, shb_ap, shv_ap, zI_lit, zL_lit, nI_z, lN_z, ofN_z, zI_add, zI_sub, zI_mul, zI_neg, zL_add, zL_sub, zL_mul, zL_neg, zI_l, zI_cl, zI_le_t, zI_le_f, zI_lt_t, zI_lt_f, zI_eq_t, zI_eq_f, zI_in_t, zz_isIn_t, zz_isIn_f, not_true_eq_false, not_false_eq_true, true_or, or_true, false_or, or_false, true_and, and_true, false_and, and_false, Nat.reduceLeDiff, Int.reduceAdd, Int.reduceSub, Int.reduceMul, Int.reduceNeg, Int.reduceToNat, Nat.reduceAdd, Nat.reduceMul, Nat.reduceSub, Int.toNat_natCast, show ((pa P (sp_np P) : Int) + 1 - 1) = pa P (sp_np P) by omega, q2, zN_le_t, zN_le_f]
        rw [h4]
      rw [hs]
      rcases ih f (p + 1) (by omega) (by omega) with ⟨w1, w2⟩ | ⟨w1, w2⟩
      · refine Or.inl ⟨fun q h1 h2 => ?_, w2⟩
        by_cases c : q = p
        · subst c; exact q1
        · exact w1 q (by omega) h2
      · exact Or.inr ⟨fun z => w1 (fun q h1 h2 => z q (by omega) h2), w2⟩
    · refine Or.inr ⟨fun z => q1 (z p (by omega) (by omega)), ?_⟩
      rw [F_X12_isImage]
      simp (disch := omega) only [↓reduceIte, ↓shl_ap, shb_ap, shv_ap, zI_lit, zL_lit, nI_z, lN_z, ofN_z, zI_add, zI_sub, zI_mul, zI_neg, zL_add, zL_sub, zL_mul, zL_neg, zI_l, zI_cl, zI_le_t, zI_le_f, zI_lt_t, zI_lt_f, zI_eq_t, zI_eq_f, zI_in_t, zz_isIn_t, zz_isIn_f, not_true_eq_false, not_false_eq_true, true_or, or_true, false_or, or_false, true_and, and_true, false_and, and_false, Nat.reduceLeDiff, Int.reduceAdd, Int.reduceSub, Int.reduceMul, Int.reduceNeg, Int.reduceToNat, Nat.reduceAdd, Nat.reduceMul, Nat.reduceSub, Int.toNat_natCast, show ((pa P (sp_np P) : Int) + 1 - 1) = pa P (sp_np P) by omega, q2, zN_le_t, zN_le_f]
theorem rf_im1 {μ : sh_Mem} (hM : sm_mP μ P) (hk : sp_ok P) (hT : ∀ j, j < 1600 → T j < 256 ∧ sh_i μ 292 j = zI (T j)) : ∀ (g f k : Nat), k + g = sp_c P * sp_r P → g + sp_np P + 2 < f → (((∀ j, k ≤ j → j < sp_c P * sp_r P → T (2 + j) ≤ 99) ∧ ∀ q, q < sp_np P → pgd P T q) ∧ F_X12_isImage f 1 (zI ((pa P (sp_np P) : Int) + 1)) (zI (pa P 0)) (zI ((2 + k : Nat) : Int)) μ = some (1, μ)) ∨ (¬ ((∀ j, k ≤ j → j < sp_c P * sp_r P → T (2 + j) ≤ 99) ∧ ∀ q, q < sp_np P → pgd P T q) ∧ F_X12_isImage f 1 (zI ((pa P (sp_np P) : Int) + 1)) (zI (pa P 0)) (zI ((2 + k : Nat) : Int)) μ = some (0, μ)) := by
  have hb := sp_bd hk
  have hc49 := sp_cells hk
  have hp0 : pa P 0 = 2 + sp_c P * sp_r P := by unfold pa; omega
  intro g
  induction g with
  | zero =>
    intro f k hg hf
    obtain ⟨f, rfl⟩ : ∃ q, f = q + 1 := ⟨f - 1, by omega⟩
    have : k = sp_c P * sp_r P := by omega
    subst this
    have hs : F_X12_isImage (f + 1) 1 (zI ((pa P (sp_np P) : Int) + 1)) (zI (pa P 0)) (zI ((2 + sp_c P * sp_r P : Nat) : Int)) μ = F_X12_isImage f 2 (zI ((pa P (sp_np P) : Int) + 1)) (zI (pa P 0)) (zI (pa P 0)) μ := by
      rw [F_X12_isImage, ← hp0]
      simp (disch := omega) only [↓reduceIte, ↓shl_ap, shb_ap, shv_ap, zI_lit, zL_lit, nI_z, lN_z, ofN_z, zI_add, zI_sub, zI_mul, zI_neg, zL_add, zL_sub, zL_mul, zL_neg, zI_l, zI_cl, zI_le_t, zI_le_f, zI_lt_t, zI_lt_f, zI_eq_t, zI_eq_f, zI_in_t, zz_isIn_t, zz_isIn_f, not_true_eq_false, not_false_eq_true, true_or, or_true, false_or, or_false, true_and, and_true, false_and, and_false, Nat.reduceLeDiff, Int.reduceAdd, Int.reduceSub, Int.reduceMul, Int.reduceNeg, Int.reduceToNat, Nat.reduceAdd, Nat.reduceMul, Nat.reduceSub, Int.toNat_natCast, zN_le_t, zN_le_f]
    rw [hs]
    rcases rf_im2 hM hk hT (sp_np P) f 0 (by omega) (by omega) with ⟨w1, w2⟩ | ⟨w1, w2⟩
    · exact Or.inl ⟨⟨fun j h1 h2 => by omega, fun q hq => w1 q (by omega) hq⟩, w2⟩
    · exact Or.inr ⟨fun z => w1 (fun q _ hq => z.2 q hq), w2⟩
  | succ g ih =>
    intro f k hg hf
    obtain ⟨f, rfl⟩ : ∃ q, f = q + 1 := ⟨f - 1, by omega⟩
    obtain ⟨a1, a2⟩ := hT (2 + k) (by omega)
    by_cases c : T (2 + k) ≤ 99
    · have hs : F_X12_isImage (f + 1) 1 (zI ((pa P (sp_np P) : Int) + 1)) (zI (pa P 0)) (zI ((2 + k : Nat) : Int)) μ = F_X12_isImage f 1 (zI ((pa P (sp_np P) : Int) + 1)) (zI (pa P 0)) (zI ((2 + (k + 1) : Nat) : Int)) μ := by
        rw [F_X12_isImage]
        have hlt : 2 + k < pa P 0 := by omega
        simp (disch := omega) only [↓reduceIte, ↓shl_ap, shb_ap, shv_ap, zI_lit, zL_lit, nI_z, lN_z, ofN_z, zI_add, zI_sub, zI_mul, zI_neg, zL_add, zL_sub, zL_mul, zL_neg, zI_l, zI_cl, zI_le_t, zI_le_f, zI_lt_t, zI_lt_f, zI_eq_t, zI_eq_f, zI_in_t, zz_isIn_t, zz_isIn_f, not_true_eq_false, not_false_eq_true, true_or, or_true, false_or, or_false, true_and, and_true, false_and, and_false, Nat.reduceLeDiff, Int.reduceAdd, Int.reduceSub, Int.reduceMul, Int.reduceNeg, Int.reduceToNat, Nat.reduceAdd, Nat.reduceMul, Nat.reduceSub, Int.toNat_natCast, a2, zN_le_t, zN_le_f]
        rfl
      rw [hs]
      rcases ih f (k + 1) (by omega) (by omega) with ⟨w1, w2⟩ | ⟨w1, w2⟩
      · refine Or.inl ⟨⟨fun j h1 h2 => ?_, w1.2⟩, w2⟩
        by_cases z : j = k
        · subst z; exact c
        · exact w1.1 j (by omega) h2
      · exact Or.inr ⟨fun z => w1 ⟨fun j h1 h2 => z.1 j (by omega) h2, z.2⟩, w2⟩
    · refine Or.inr ⟨fun z => c (z.1 k (by omega) (by omega)), ?_⟩
      rw [F_X12_isImage]
      have hlt : 2 + k < pa P 0 := by omega
      simp (disch := omega) only [↓reduceIte, ↓shl_ap, shb_ap, shv_ap, zI_lit, zL_lit, nI_z, lN_z, ofN_z, zI_add, zI_sub, zI_mul, zI_neg, zL_add, zL_sub, zL_mul, zL_neg, zI_l, zI_cl, zI_le_t, zI_le_f, zI_lt_t, zI_lt_f, zI_eq_t, zI_eq_f, zI_in_t, zz_isIn_t, zz_isIn_f, not_true_eq_false, not_false_eq_true, true_or, or_true, false_or, or_false, true_and, and_true, false_and, and_false, Nat.reduceLeDiff, Int.reduceAdd, Int.reduceSub, Int.reduceMul, Int.reduceNeg, Int.reduceToNat, Nat.reduceAdd, Nat.reduceMul, Nat.reduceSub, Int.toNat_natCast, a2, zN_le_t, zN_le_f]
/-- what an image must be -/
def igd (P : sp_T) (T : Nat → Nat) (n : Nat) : Prop := 0 < sp_c P ∧ n = ipn P + 1 ∧ T (ipn P) = chk T (ipn P) ∧ T 0 * 256 + T 1 ≤ 999 ∧ (∀ j, 0 ≤ j → j < sp_c P * sp_r P → T (2 + j) ≤ 99) ∧ ∀ q, q < sp_np P → pgd P T q
theorem pa_n : pa P (sp_np P) = ipn P := rfl
theorem cl_isImage {μ : sh_Mem} {n : Nat} (hn : n ≤ 1600) (hr : sh_r μ 0 7 = some t) (ht : sh_isP t) (hP : sm_cP μ t P) (hk : sp_ok P) (hT : ∀ j, j < 1600 → T j < 256 ∧ sh_i μ 1 j = zI (T j)) : (igd P T n ∧ f_X11_isImage (zI n) μ = some (1, μ)) ∨ (¬ igd P T n ∧ f_X11_isImage (zI n) μ = some (0, μ)) := by
  have hb := sp_bd hk
  have hc49 := sp_cells hk
  have hi := ipn_le hk
  have hin := cl_im1 (i1 := zI n) hr ht hP hk hT (sp_c P * sp_r P) sh_fuel 0 (by omega) (by rw [sh_fuel_eq]; omega)
  have hp0 : (2 : Int) + ((sp_c P * sp_r P : Nat) : Int) = ((pa P 0 : Nat) : Int) := by unfold pa; omega
  have hpn : ((pa P 0 : Nat) : Int) + (sp_np P : Int) * 4 = ((ipn P : Nat) : Int) := by unfold pa ipn; omega
  have hp01 : pa P 0 ≤ 79 := by unfold pa; omega
  rw [pa_n] at hin
  have hck := cl_check (μ := μ) (r := 1) (m := 1600) (n := ipn P) (b := T) (by omega) (by omega) (fun j q => hT j (by omega))
  obtain ⟨a1, a2⟩ := hT (ipn P) (by omega)
  obtain ⟨b1, b2⟩ := hT 0 (by omega)
  obtain ⟨d1, d2⟩ := hT 1 (by omega)
  have hcl := chk_lt (b := T) (ipn P)
  have hnp : sh_i μ t 3 = zI (sp_np P) := by rw [hP.2.2.2.1, nI_z]
  unfold igd f_X11_isImage
  rw [shr_ap hr]
  by_cases c0 : 0 < sp_c P
  · have hpl : f_X11_isPlain μ = some (1, μ) := by rw [cl_isPlain hr ht hP hk, if_pos c0]
    by_cases c1 : n = ipn P + 1
    · by_cases c2 : T (ipn P) = chk T (ipn P)
      · by_cases c3 : T 0 * 256 + T 1 ≤ 999
        · rcases hin with ⟨w1, w2⟩ | ⟨w1, w2⟩
          · refine Or.inl ⟨⟨c0, c1, c2, c3, w1.1, w1.2⟩, ?_⟩
            simp (disch := omega) only [↓reduceIte, ↓shl_ap, shb_ap, shv_ap, zI_lit, zL_lit, nI_z, lN_z, ofN_z, zI_add, zI_sub, zI_mul, zI_neg, zL_add, zL_sub, zL_mul, zL_neg, zI_l, zI_cl, zI_le_t, zI_le_f, zI_lt_t, zI_lt_f, zI_eq_t, zI_eq_f, zI_in_t, zz_isIn_t, zz_isIn_f, not_true_eq_false, not_false_eq_true, true_or, or_true, false_or, or_false, true_and, and_true, false_and, and_false, Nat.reduceLeDiff, Int.reduceAdd, Int.reduceSub, Int.reduceMul, Int.reduceNeg, Int.reduceToNat, Nat.reduceAdd, Nat.reduceMul, Nat.reduceSub, Int.toNat_natCast, hr, shr_ap hr, shp ht, cl_cells hP, hp0, hnp, hpn, hpl, hck, a2, b2, d2, zN_le_t, zN_le_f]
            exact w2
          · refine Or.inr ⟨fun z => w1 ⟨z.2.2.2.2.1, z.2.2.2.2.2⟩, ?_⟩
            simp (disch := omega) only [↓reduceIte, ↓shl_ap, shb_ap, shv_ap, zI_lit, zL_lit, nI_z, lN_z, ofN_z, zI_add, zI_sub, zI_mul, zI_neg, zL_add, zL_sub, zL_mul, zL_neg, zI_l, zI_cl, zI_le_t, zI_le_f, zI_lt_t, zI_lt_f, zI_eq_t, zI_eq_f, zI_in_t, zz_isIn_t, zz_isIn_f, not_true_eq_false, not_false_eq_true, true_or, or_true, false_or, or_false, true_and, and_true, false_and, and_false, Nat.reduceLeDiff, Int.reduceAdd, Int.reduceSub, Int.reduceMul, Int.reduceNeg, Int.reduceToNat, Nat.reduceAdd, Nat.reduceMul, Nat.reduceSub, Int.toNat_natCast, hr, shr_ap hr, shp ht, cl_cells hP, hp0, hnp, hpn, hpl, hck, a2, b2, d2, zN_le_t, zN_le_f]
            exact w2
        · refine Or.inr ⟨fun z => c3 z.2.2.2.1, ?_⟩
          simp (disch := omega) only [↓reduceIte, ↓shl_ap, shb_ap, shv_ap, zI_lit, zL_lit, nI_z, lN_z, ofN_z, zI_add, zI_sub, zI_mul, zI_neg, zL_add, zL_sub, zL_mul, zL_neg, zI_l, zI_cl, zI_le_t, zI_le_f, zI_lt_t, zI_lt_f, zI_eq_t, zI_eq_f, zI_in_t, zz_isIn_t, zz_isIn_f, not_true_eq_false, not_false_eq_true, true_or, or_true, false_or, or_false, true_and, and_true, false_and, and_false, Nat.reduceLeDiff, Int.reduceAdd, Int.reduceSub, Int.reduceMul, Int.reduceNeg, Int.reduceToNat, Nat.reduceAdd, Nat.reduceMul, Nat.reduceSub, Int.toNat_natCast, hr, shr_ap hr, shp ht, cl_cells hP, hp0, hnp, hpn, hpl, hck, a2, b2, d2, zN_le_t, zN_le_f]
      · refine Or.inr ⟨fun z => c2 z.2.2.1, ?_⟩
        simp (disch := omega) only [↓reduceIte, ↓shl_ap, shb_ap, shv_ap, zI_lit, zL_lit, nI_z, lN_z, ofN_z, zI_add, zI_sub, zI_mul, zI_neg, zL_add, zL_sub, zL_mul, zL_neg, zI_l, zI_cl, zI_le_t, zI_le_f, zI_lt_t, zI_lt_f, zI_eq_t, zI_eq_f, zI_in_t, zz_isIn_t, zz_isIn_f, not_true_eq_false, not_false_eq_true, true_or, or_true, false_or, or_false, true_and, and_true, false_and, and_false, Nat.reduceLeDiff, Int.reduceAdd, Int.reduceSub, Int.reduceMul, Int.reduceNeg, Int.reduceToNat, Nat.reduceAdd, Nat.reduceMul, Nat.reduceSub, Int.toNat_natCast, hr, shr_ap hr, shp ht, cl_cells hP, hp0, hnp, hpn, hpl, hck, a2, zN_le_t, zN_le_f]
    · refine Or.inr ⟨fun z => c1 z.2.1, ?_⟩
      simp (disch := omega) only [↓reduceIte, ↓shl_ap, shb_ap, shv_ap, zI_lit, zL_lit, nI_z, lN_z, ofN_z, zI_add, zI_sub, zI_mul, zI_neg, zL_add, zL_sub, zL_mul, zL_neg, zI_l, zI_cl, zI_le_t, zI_le_f, zI_lt_t, zI_lt_f, zI_eq_t, zI_eq_f, zI_in_t, zz_isIn_t, zz_isIn_f, not_true_eq_false, not_false_eq_true, true_or, or_true, false_or, or_false, true_and, and_true, false_and, and_false, Nat.reduceLeDiff, Int.reduceAdd, Int.reduceSub, Int.reduceMul, Int.reduceNeg, Int.reduceToNat, Nat.reduceAdd, Nat.reduceMul, Nat.reduceSub, Int.toNat_natCast, hr, shr_ap hr, shp ht, cl_cells hP, hp0, hnp, hpn, hpl, zN_le_t, zN_le_f]
  · have hpl : f_X11_isPlain μ = some (0, μ) := by rw [cl_isPlain hr ht hP hk, if_neg c0]
    refine Or.inr ⟨fun z => c0 z.1, ?_⟩
    simp (disch := omega) only [↓reduceIte, ↓shl_ap, shb_ap, shv_ap, zI_lit, zL_lit, nI_z, lN_z, ofN_z, zI_add, zI_sub, zI_mul, zI_neg, zL_add, zL_sub, zL_mul, zL_neg, zI_l, zI_cl, zI_le_t, zI_le_f, zI_lt_t, zI_lt_f, zI_eq_t, zI_eq_f, zI_in_t, zz_isIn_t, zz_isIn_f, not_true_eq_false, not_false_eq_true, true_or, or_true, false_or, or_false, true_and, and_true, false_and, and_false, Nat.reduceLeDiff, Int.reduceAdd, Int.reduceSub, Int.reduceMul, Int.reduceNeg, Int.reduceToNat, Nat.reduceAdd, Nat.reduceMul, Nat.reduceSub, Int.toNat_natCast, hr, shr_ap hr, shp ht, cl_cells hP, hp0, hnp, hpn, hpl, zN_le_t, zN_le_f]
theorem rf_isImage {μ : sh_Mem} {n : Nat} (hn : n ≤ 1600) (hM : sm_mP μ P) (hk : sp_ok P) (hT : ∀ j, j < 1600 → T j < 256 ∧ sh_i μ 292 j = zI (T j)) : (igd P T n ∧ f_X12_isImage (zI n) μ = some (1, μ)) ∨ (¬ igd P T n ∧ f_X12_isImage (zI n) μ = some (0, μ)) := by
  have hb := sp_bd hk
  have hc49 := sp_cells hk
  have hi := ipn_le hk
  have hin := rf_im1 hM hk hT (sp_c P * sp_r P) sh_fuel 0 (by omega) (by rw [sh_fuel_eq]; omega)
  have hp0 : (2 : Int) + ((sp_c P * sp_r P : Nat) : Int) = ((pa P 0 : Nat) : Int) := by unfold pa; omega
  have hpn : ((pa P 0 : Nat) : Int) + 4 * (sp_np P : Int) = ((ipn P : Nat) : Int) := by unfold pa ipn; omega
  have hp01 : pa P 0 ≤ 79 := by unfold pa; omega
  rw [pa_n] at hin
  have hck := rf_check (μ := μ) (r := 292) (m := 1600) (n := ipn P) (b := T) (by omega) (by omega) (fun j q => hT j (by omega))
  obtain ⟨a1, a2⟩ := hT (ipn P) (by omega)
  obtain ⟨b1, b2⟩ := hT 0 (by omega)
  obtain ⟨d1, d2⟩ := hT 1 (by omega)
  have hcl := chk_lt (b := T) (ipn P)
  unfold igd f_X12_isImage
  by_cases c0 : 0 < sp_c P
  · have hpl : sh_i μ 291 50 = zI 1 := by rw [rf_plain hM hk, if_pos c0]
    by_cases c1 : n = ipn P + 1
    · have x1 : ((n : Int) - 1) = ((ipn P : Nat) : Int) := by omega
      have x2 : (n : Int) = ((ipn P : Nat) : Int) + 1 := by omega
      by_cases c2 : T (ipn P) = chk T (ipn P)
      · by_cases c3 : T 0 * 256 + T 1 ≤ 999
        · rcases hin with ⟨w1, w2⟩ | ⟨w1, w2⟩
          · refine Or.inl ⟨⟨c0, c1, c2, c3, w1.1, w1.2⟩, ?_⟩
            simp (disch := omega) only [↓reduceIte, ↓shl_ap, shb_ap, shv_ap, zI_lit, zL_lit, nI_z, lN_z, ofN_z, zI_add, zI_sub, zI_mul, zI_neg, zL_add, zL_sub, zL_mul, zL_neg, zI_l, zI_cl, zI_le_t, zI_le_f, zI_lt_t, zI_lt_f, zI_eq_t, zI_eq_f, zI_in_t, zz_isIn_t, zz_isIn_f, not_true_eq_false, not_false_eq_true, true_or, or_true, false_or, or_false, true_and, and_true, false_and, and_false, Nat.reduceLeDiff, Int.reduceAdd, Int.reduceSub, Int.reduceMul, Int.reduceNeg, Int.reduceToNat, Nat.reduceAdd, Nat.reduceMul, Nat.reduceSub, Int.toNat_natCast, rf_cellMany hM, hp0, hpl, rf_personMany hM, hpn, x1, hck, a2, b2, d2, zN_le_t, zN_le_f]
            rw [x2]
            exact w2
          · refine Or.inr ⟨fun z => w1 ⟨z.2.2.2.2.1, z.2.2.2.2.2⟩, ?_⟩
            simp (disch := omega) only [↓reduceIte, ↓shl_ap, shb_ap, shv_ap, zI_lit, zL_lit, nI_z, lN_z, ofN_z, zI_add, zI_sub, zI_mul, zI_neg, zL_add, zL_sub, zL_mul, zL_neg, zI_l, zI_cl, zI_le_t, zI_le_f, zI_lt_t, zI_lt_f, zI_eq_t, zI_eq_f, zI_in_t, zz_isIn_t, zz_isIn_f, not_true_eq_false, not_false_eq_true, true_or, or_true, false_or, or_false, true_and, and_true, false_and, and_false, Nat.reduceLeDiff, Int.reduceAdd, Int.reduceSub, Int.reduceMul, Int.reduceNeg, Int.reduceToNat, Nat.reduceAdd, Nat.reduceMul, Nat.reduceSub, Int.toNat_natCast, rf_cellMany hM, hp0, hpl, rf_personMany hM, hpn, x1, hck, a2, b2, d2, zN_le_t, zN_le_f]
            rw [x2]
            exact w2
        · refine Or.inr ⟨fun z => c3 z.2.2.2.1, ?_⟩
          simp (disch := omega) only [↓reduceIte, ↓shl_ap, shb_ap, shv_ap, zI_lit, zL_lit, nI_z, lN_z, ofN_z, zI_add, zI_sub, zI_mul, zI_neg, zL_add, zL_sub, zL_mul, zL_neg, zI_l, zI_cl, zI_le_t, zI_le_f, zI_lt_t, zI_lt_f, zI_eq_t, zI_eq_f, zI_in_t, zz_isIn_t, zz_isIn_f, not_true_eq_false, not_false_eq_true, true_or, or_true, false_or, or_false, true_and, and_true, false_and, and_false, Nat.reduceLeDiff, Int.reduceAdd, Int.reduceSub, Int.reduceMul, Int.reduceNeg, Int.reduceToNat, Nat.reduceAdd, Nat.reduceMul, Nat.reduceSub, Int.toNat_natCast, rf_cellMany hM, hp0, hpl, rf_personMany hM, hpn, x1, hck, a2, b2, d2, zN_le_t, zN_le_f]
      · refine Or.inr ⟨fun z => c2 z.2.2.1, ?_⟩
        simp (disch := omega) only [↓reduceIte, ↓shl_ap, shb_ap, shv_ap, zI_lit, zL_lit, nI_z, lN_z, ofN_z, zI_add, zI_sub, zI_mul, zI_neg, zL_add, zL_sub, zL_mul, zL_neg, zI_l, zI_cl, zI_le_t, zI_le_f, zI_lt_t, zI_lt_f, zI_eq_t, zI_eq_f, zI_in_t, zz_isIn_t, zz_isIn_f, not_true_eq_false, not_false_eq_true, true_or, or_true, false_or, or_false, true_and, and_true, false_and, and_false, Nat.reduceLeDiff, Int.reduceAdd, Int.reduceSub, Int.reduceMul, Int.reduceNeg, Int.reduceToNat, Nat.reduceAdd, Nat.reduceMul, Nat.reduceSub, Int.toNat_natCast, rf_cellMany hM, hp0, hpl, rf_personMany hM, hpn, x1, hck, a2, zN_le_t, zN_le_f]
    · refine Or.inr ⟨fun z => c1 z.2.1, ?_⟩
      simp (disch := omega) only [↓reduceIte, ↓shl_ap, shb_ap, shv_ap, zI_lit, zL_lit, nI_z, lN_z, ofN_z, zI_add, zI_sub, zI_mul, zI_neg, zL_add, zL_sub, zL_mul, zL_neg, zI_l, zI_cl, zI_le_t, zI_le_f, zI_lt_t, zI_lt_f, zI_eq_t, zI_eq_f, zI_in_t, zz_isIn_t, zz_isIn_f, not_true_eq_false, not_false_eq_true, true_or, or_true, false_or, or_false, true_and, and_true, false_and, and_false, Nat.reduceLeDiff, Int.reduceAdd, Int.reduceSub, Int.reduceMul, Int.reduceNeg, Int.reduceToNat, Nat.reduceAdd, Nat.reduceMul, Nat.reduceSub, Int.toNat_natCast, rf_cellMany hM, hp0, hpl, rf_personMany hM, hpn, zN_le_t, zN_le_f]
  · have hpl : sh_i μ 291 50 = zI 0 := by rw [rf_plain hM hk, if_neg c0]
    refine Or.inr ⟨fun z => c0 z.1, ?_⟩
    simp (disch := omega) only [↓reduceIte, ↓shl_ap, shb_ap, shv_ap, zI_lit, zL_lit, nI_z, lN_z, ofN_z, zI_add, zI_sub, zI_mul, zI_neg, zL_add, zL_sub, zL_mul, zL_neg, zI_l, zI_cl, zI_le_t, zI_le_f, zI_lt_t, zI_lt_f, zI_eq_t, zI_eq_f, zI_in_t, zz_isIn_t, zz_isIn_f, not_true_eq_false, not_false_eq_true, true_or, or_true, false_or, or_false, true_and, and_true, false_and, and_false, Nat.reduceLeDiff, Int.reduceAdd, Int.reduceSub, Int.reduceMul, Int.reduceNeg, Int.reduceToNat, Nat.reduceAdd, Nat.reduceMul, Nat.reduceSub, Int.toNat_natCast, rf_cellMany hM, hp0, hpl, zN_le_t, zN_le_f]
/-- the land that an image tells -/
def oL (P : sp_T) (T : Nat → Nat) : sl_T := (T 0 * 256 + T 1, fun j => T (2 + j), fun p => T (pa P p), fun p => T (pa P p + 1), fun p => T (pa P p + 2), fun p => T (pa P p + 3))
def nO1 (r k : Nat) : Prop := (49 ≤ r ∧ r ≤ 54) ∨ (r = 63 ∧ (k = 1 ∨ k = 2))
def nO2 (r k : Nat) : Prop := r = 330 ∨ (r = 291 ∧ k = 76)
theorem cl_on1 {i1 : Int32} (ht : sh_isP t) (hk : sp_ok P) : ∀ (g f p : Nat) (μ : sh_Mem), p + g = sp_np P → g < f → sh_r μ 0 7 = some t → sm_cP μ t P → (∀ j, j < 1600 → T j < 256 ∧ sh_i μ 1 j = zI (T j)) → (∀ q, q < p → sh_i μ 51 q = zI (T (pa P q)) ∧ sh_i μ 52 q = zI (T (pa P q + 1)) ∧ sh_i μ 53 q = zI (T (pa P q + 2)) ∧ sh_i μ 54 q = zI (T (pa P q + 3))) → ∃ μ', F_X11_on f 1 i1 (zI ((sp_c P * sp_r P : Nat) : Int)) (zI p) μ = some (1, μ') ∧ sh_fr (fun r k => (51 ≤ r ∧ r ≤ 54) ∨ (r = 63 ∧ (k = 1 ∨ k = 2))) μ μ' ∧ sh_i μ' 63 1 = zI 0 ∧ sh_i μ' 63 2 = zI 0 ∧ ∀ q, q < sp_np P → sh_i μ' 51 q = zI (T (pa P q)) ∧ sh_i μ' 52 q = zI (T (pa P q + 1)) ∧ sh_i μ' 53 q = zI (T (pa P q + 2)) ∧ sh_i μ' 54 q = zI (T (pa P q + 3)) := by
  have hb := sp_bd hk
  have hc49 := sp_cells hk
  intro g
  induction g with
  | zero =>
    intro f p μ hp hf hr hP hT hq
    obtain ⟨f, rfl⟩ : ∃ q, f = q + 1 := ⟨f - 1, by omega⟩
    have : p = sp_np P := by omega
    subst this
    refine ⟨sh_setI (sh_setI μ 63 1 (zI 0)) 63 2 (zI 0), ?_, sh_fr_I (sh_fr_I sh_fr.rf (by omega)) (by omega), by rw [ir_set_k (by omega), ir_set], ir_set, fun q h => ?_⟩
    · rw [F_X11_on, shr_ap hr]
      simp (disch := omega) only [↓reduceIte, ↓shl_ap, shb_ap, shv_ap, zI_lit, zL_lit, nI_z, lN_z, ofN_z, zI_add, zI_sub, zI_mul, zI_neg, zL_add, zL_sub, zL_mul, zL_neg, zI_l, zI_cl, zI_le_t, zI_le_f, zI_lt_t, zI_lt_f, zI_eq_t, zI_eq_f, zI_in_t, zz_isIn_t, zz_isIn_f, not_true_eq_false, not_false_eq_true, true_or, or_true, false_or, or_false, true_and, and_true, false_and, and_false, Nat.reduceLeDiff, Int.reduceAdd, Int.reduceSub, Int.reduceMul, Int.reduceNeg, Int.reduceToNat, Nat.reduceAdd, Nat.reduceMul, Nat.reduceSub, Int.toNat_natCast, hr, shr_ap hr, shp ht, hP.2.2.2.1, f_X4_forget, zN_le_t, zN_le_f]
    · rw [ir_set_r (by omega), ir_set_r (by omega), ir_set_r (by omega), ir_set_r (by omega), ir_set_r (by omega), ir_set_r (by omega), ir_set_r (by omega), ir_set_r (by omega)]
      exact hq q h
  | succ g ih =>
    intro f p μ hp hf hr hP hT hq
    obtain ⟨f, rfl⟩ : ∃ q, f = q + 1 := ⟨f - 1, by omega⟩
    have hA : (2 : Int) + ((sp_c P * sp_r P : Nat) : Int) + (p : Int) * 4 = ((pa P p : Nat) : Int) := by unfold pa; omega
    have hAl : pa P p + 4 ≤ 100 := by unfold pa; omega
    obtain ⟨A, eA⟩ : ∃ A, A = pa P p := ⟨_, rfl⟩
    rw [← eA] at hA hAl
    obtain ⟨a1, a2⟩ := hT A (by omega)
    obtain ⟨a3, a4⟩ := hT (A + 1) (by omega)
    obtain ⟨a5, a6⟩ := hT (A + 2) (by omega)
    obtain ⟨a7, a8⟩ := hT (A + 3) (by omega)
    have fr1 : sh_fr (fun r k => (51 ≤ r ∧ r ≤ 54) ∨ (r = 63 ∧ (k = 1 ∨ k = 2))) μ (sh_setI (sh_setI (sh_setI (sh_setI μ 51 p (zI (T A))) 52 p (zI (T (A + 1)))) 53 p (zI (T (A + 2)))) 54 p (zI (T (A + 3)))) := sh_fr_I (sh_fr_I (sh_fr_I (sh_fr_I sh_fr.rf (by omega)) (by omega)) (by omega)) (by omega)
    obtain ⟨μ', k1, k2, k3, k4, k5⟩ := ih f (p + 1) _ (by omega) (by omega) (by rw [fr1.1]; exact hr) (hP.cg (fun j hj _ _ => fr1.row _ (fun k => by rcases ht with rfl | rfl <;> omega))) (fun j hj => by rw [fr1.i 1 j (by omega)]; exact hT j hj) (fun q h => by
      by_cases c : q = p
      · subst c
        rw [← eA]
        simp (disch := omega) only [↓reduceIte, ↓shl_ap, shb_ap, shv_ap, zI_lit, zL_lit, nI_z, lN_z, ofN_z, zI_add, zI_sub, zI_mul, zI_neg, zL_add, zL_sub, zL_mul, zL_neg, zI_l, zI_cl, zI_le_t, zI_le_f, zI_lt_t, zI_lt_f, zI_eq_t, zI_eq_f, zI_in_t, zz_isIn_t, zz_isIn_f, not_true_eq_false, not_false_eq_true, true_or, or_true, false_or, or_false, true_and, and_true, false_and, and_false, ir_set, ir_set_k, ir_set_r, ir_row, ir_row_r, sh_i_setL, sh_i_setR, sh_r_setI, sh_r_setL, sh_r_rowI, sh_l_setI, sh_l_rowI, lr_set, lr_set_k, lr_set_r, Nat.reduceLeDiff, Int.reduceAdd, Int.reduceSub, Int.reduceMul, Int.reduceNeg, Int.reduceToNat, Nat.reduceAdd, Nat.reduceMul, Nat.reduceSub, Int.toNat_natCast, zN_le_t, zN_le_f]
      · obtain ⟨z1, z2, z3, z4⟩ := hq q (by omega)
        simp (disch := omega) only [↓reduceIte, ↓shl_ap, shb_ap, shv_ap, zI_lit, zL_lit, nI_z, lN_z, ofN_z, zI_add, zI_sub, zI_mul, zI_neg, zL_add, zL_sub, zL_mul, zL_neg, zI_l, zI_cl, zI_le_t, zI_le_f, zI_lt_t, zI_lt_f, zI_eq_t, zI_eq_f, zI_in_t, zz_isIn_t, zz_isIn_f, not_true_eq_false, not_false_eq_true, true_or, or_true, false_or, or_false, true_and, and_true, false_and, and_false, ir_set, ir_set_k, ir_set_r, ir_row, ir_row_r, sh_i_setL, sh_i_setR, sh_r_setI, sh_r_setL, sh_r_rowI, sh_l_setI, sh_l_rowI, lr_set, lr_set_k, lr_set_r, Nat.reduceLeDiff, Int.reduceAdd, Int.reduceSub, Int.reduceMul, Int.reduceNeg, Int.reduceToNat, Nat.reduceAdd, Nat.reduceMul, Nat.reduceSub, Int.toNat_natCast, z1, z2, z3, z4, zN_le_t, zN_le_f])
    refine ⟨μ', ?_, fr1.trans k2, k3, k4, k5⟩
    rw [← k1, F_X11_on, shr_ap hr]
    simp (disch := omega) only [↓reduceIte, ↓shl_ap, shb_ap, shv_ap, zI_lit, zL_lit, nI_z, lN_z, ofN_z, zI_add, zI_sub, zI_mul, zI_neg, zL_add, zL_sub, zL_mul, zL_neg, zI_l, zI_cl, zI_le_t, zI_le_f, zI_lt_t, zI_lt_f, zI_eq_t, zI_eq_f, zI_in_t, zz_isIn_t, zz_isIn_f, not_true_eq_false, not_false_eq_true, true_or, or_true, false_or, or_false, true_and, and_true, false_and, and_false, ir_set, ir_set_k, ir_set_r, ir_row, ir_row_r, sh_i_setL, sh_i_setR, sh_r_setI, sh_r_setL, sh_r_rowI, sh_l_setI, sh_l_rowI, lr_set, lr_set_k, lr_set_r, Nat.reduceLeDiff, Int.reduceAdd, Int.reduceSub, Int.reduceMul, Int.reduceNeg, Int.reduceToNat, Nat.reduceAdd, Nat.reduceMul, Nat.reduceSub, Int.toNat_natCast, hr, shr_ap hr, shp ht, hP.2.2.2.1, hA, a2, show ((A : Int) + 1).toNat = A + 1 by omega, show ((A : Int) + 2).toNat = A + 2 by omega, show ((A : Int) + 3).toNat = A + 3 by omega, a4, a6, a8, zN_le_t, zN_le_f]
    rfl
theorem cl_on {μ : sh_Mem} {n : Nat} (ht : sh_isP t) (hk : sp_ok P) (hr : sh_r μ 0 7 = some t) (hP : sm_cP μ t P) (hT : ∀ j, j < 1600 → T j < 256 ∧ sh_i μ 1 j = zI (T j)) (e1 : sh_i μ 0 1 = zI n) (hi : f_X11_isImage (zI n) (sh_setI μ 0 1 (zI 0)) = some (1, sh_setI μ 0 1 (zI 0))) : ∃ μ', f_X11_on μ = some (1, μ') ∧ sh_fr (fun r k => nO1 r k ∨ (r = 0 ∧ k = 1)) μ μ' ∧ sh_i μ' 0 1 = zI 0 ∧ sh_i μ' 63 1 = zI 0 ∧ sh_i μ' 63 2 = zI 0 ∧ sm_cL μ' 49 P (oL P T) := by
  have hb := sp_bd hk
  have hc49 := sp_cells hk
  obtain ⟨a1, a2⟩ := hT 0 (by omega)
  obtain ⟨b1, b2⟩ := hT 1 (by omega)
  obtain ⟨m, hm⟩ : ∃ m, m = sh_rowI (sh_setI (sh_setI μ 0 1 (zI 0)) 49 0 (zI ((T 0 * 256 + T 1 : Nat) : Int))) 50 (va_cpy (sh_i (sh_setI (sh_setI μ 0 1 (zI 0)) 49 0 (zI ((T 0 * 256 + T 1 : Nat) : Int))) 1) (sh_i (sh_setI (sh_setI μ 0 1 (zI 0)) 49 0 (zI ((T 0 * 256 + T 1 : Nat) : Int))) 50) 2 0 (sp_c P * sp_r P)) := ⟨_, rfl⟩
  have fr1 : sh_fr (fun r k => r = 49 ∨ r = 50 ∨ (r = 0 ∧ k = 1)) μ m := by rw [hm]; exact sh_fr_row (sh_fr_I (sh_fr_I sh_fr.rf (by omega)) (by omega)) (fun _ => by omega)
  obtain ⟨μ', k1, k2, k3, k4, k5⟩ := cl_on1 (i1 := zI n) ht hk (sp_np P) sh_fuel 0 m (by omega) (by rw [sh_fuel_eq]; omega) (by rw [fr1.1]; exact hr) (hP.cg (fun j hj _ _ => fr1.row _ (fun k => by rcases ht with rfl | rfl <;> omega))) (fun j hj => by rw [fr1.i 1 j (by omega)]; exact hT j hj) (fun q h => by omega)
  refine ⟨μ', ?_, (fr1.mono (fun r k q => by unfold nO1; omega)).trans (k2.mono (fun r k q => by unfold nO1; omega)), ?_, k3, k4, ?_, fun j hj => ?_, fun p hp => ?_⟩
  · rw [← k1]
    have e1' : sh_r (sh_setI μ 0 1 (zI 0)) 0 7 = some t := hr
    have htk : f_X11_takeTape μ = some (zI n, sh_setI μ 0 1 (zI 0)) := by unfold f_X11_takeTape; rw [e1]; rfl
    unfold f_X11_on
    rw [htk, shb_ap, hi, shb_ap, if_neg (by decide), shr_ap e1']
    simp (disch := omega) only [↓reduceIte, ↓shl_ap, shb_ap, shv_ap, zI_lit, zL_lit, nI_z, lN_z, ofN_z, zI_add, zI_sub, zI_mul, zI_neg, zL_add, zL_sub, zL_mul, zL_neg, zI_l, zI_cl, zI_le_t, zI_le_f, zI_lt_t, zI_lt_f, zI_eq_t, zI_eq_f, zI_in_t, zz_isIn_t, zz_isIn_f, not_true_eq_false, not_false_eq_true, true_or, or_true, false_or, or_false, true_and, and_true, false_and, and_false, ir_set, ir_set_k, ir_set_r, ir_row, ir_row_r, sh_i_setL, sh_i_setR, sh_r_setI, sh_r_setL, sh_r_rowI, sh_l_setI, sh_l_rowI, lr_set, lr_set_k, lr_set_r, Nat.reduceLeDiff, Int.reduceAdd, Int.reduceSub, Int.reduceMul, Int.reduceNeg, Int.reduceToNat, Nat.reduceAdd, Nat.reduceMul, Nat.reduceSub, Int.toNat_natCast, e1', shr_ap e1', shp ht, cl_cells (show sm_cP (sh_setI μ 0 1 (zI 0)) t P from hP.cg (fun j hj _ _ => by rcases ht with rfl | rfl <;> exact ir_set_r (by omega))), a2, b2, zN_le_t, zN_le_f]
    rw [hm]
    rfl
  · rw [k2.i _ _ (by omega), hm]
    simp (disch := omega) only [↓reduceIte, ↓shl_ap, shb_ap, shv_ap, zI_lit, zL_lit, nI_z, lN_z, ofN_z, zI_add, zI_sub, zI_mul, zI_neg, zL_add, zL_sub, zL_mul, zL_neg, zI_l, zI_cl, zI_le_t, zI_le_f, zI_lt_t, zI_lt_f, zI_eq_t, zI_eq_f, zI_in_t, zz_isIn_t, zz_isIn_f, not_true_eq_false, not_false_eq_true, true_or, or_true, false_or, or_false, true_and, and_true, false_and, and_false, ir_set, ir_set_k, ir_set_r, ir_row, ir_row_r, sh_i_setL, sh_i_setR, sh_r_setI, sh_r_setL, sh_r_rowI, sh_l_setI, sh_l_rowI, lr_set, lr_set_k, lr_set_r, Nat.reduceLeDiff, Int.reduceAdd, Int.reduceSub, Int.reduceMul, Int.reduceNeg, Int.reduceToNat, Nat.reduceAdd, Nat.reduceMul, Nat.reduceSub, Int.toNat_natCast, zN_le_t, zN_le_f]
  · rw [k2.i _ _ (by omega), hm]
    simp (disch := omega) only [↓reduceIte, ↓shl_ap, shb_ap, shv_ap, zI_lit, zL_lit, nI_z, lN_z, ofN_z, zI_add, zI_sub, zI_mul, zI_neg, zL_add, zL_sub, zL_mul, zL_neg, zI_l, zI_cl, zI_le_t, zI_le_f, zI_lt_t, zI_lt_f, zI_eq_t, zI_eq_f, zI_in_t, zz_isIn_t, zz_isIn_f, not_true_eq_false, not_false_eq_true, true_or, or_true, false_or, or_false, true_and, and_true, false_and, and_false, ir_set, ir_set_k, ir_set_r, ir_row, ir_row_r, sh_i_setL, sh_i_setR, sh_r_setI, sh_r_setL, sh_r_rowI, sh_l_setI, sh_l_rowI, lr_set, lr_set_k, lr_set_r, Nat.reduceLeDiff, Int.reduceAdd, Int.reduceSub, Int.reduceMul, Int.reduceNeg, Int.reduceToNat, Nat.reduceAdd, Nat.reduceMul, Nat.reduceSub, Int.toNat_natCast, zN_le_t, zN_le_f]
    rfl
  · rw [k2.i _ _ (by omega), hm, ir_row, nI_z]
    unfold va_cpy
    rw [if_pos (by omega), ir_set_r (by omega), ir_set_r (by omega), show 2 + (j - 0) = 2 + j by omega]
    exact (hT (2 + j) (by omega)).2
  · rw [nI_z, nI_z, nI_z, nI_z]
    exact k5 p hp
theorem rf_on2 {i1 : Int32} (hk : sp_ok P) (hg : ∀ q, q < sp_np P → pgd P T q) : ∀ (g f p : Nat) (μ : sh_Mem), p + g = sp_np P → g < f → sm_mP μ P → (∀ j, j < 1600 → T j < 256 ∧ sh_i μ 292 j = zI (T j)) → (∀ q, q < p → sh_i μ 330 (50 + 3 * q) = zI ((T (pa P q) + 7 * T (pa P q + 1) : Nat) : Int) ∧ sh_i μ 330 (51 + 3 * q) = zI (T (pa P q + 2)) ∧ sh_i μ 330 (52 + 3 * q) = zI (T (pa P q + 3))) → ∃ μ', F_X12_on f 2 i1 (zI (pa P 0)) (zI p) μ = some (1, μ') ∧ sh_fr (fun r k => (r = 330 ∧ 50 ≤ k ∧ k ≤ 71) ∨ (r = 291 ∧ k = 76)) μ μ' ∧ sh_i μ' 330 71 = zI 0 ∧ sh_i μ' 291 76 = zI 0 ∧ ∀ q, q < sp_np P → sh_i μ' 330 (50 + 3 * q) = zI ((T (pa P q) + 7 * T (pa P q + 1) : Nat) : Int) ∧ sh_i μ' 330 (51 + 3 * q) = zI (T (pa P q + 2)) ∧ sh_i μ' 330 (52 + 3 * q) = zI (T (pa P q + 3)) := by
  have hb := sp_bd hk
  have hc49 := sp_cells hk
  intro g
  induction g with
  | zero =>
    intro f p μ hp hf hM hT hq
    obtain ⟨f, rfl⟩ : ∃ q, f = q + 1 := ⟨f - 1, by omega⟩
    have : p = sp_np P := by omega
    subst this
    refine ⟨sh_setI (sh_setI μ 330 71 (zI 0)) 291 76 (zI 0), ?_, sh_fr_I (sh_fr_I sh_fr.rf (by omega)) (by omega), by rw [ir_set_r (by omega), ir_set], ir_set, fun q h => ?_⟩
    · rw [F_X12_on, rf_personMany hM]
      simp (disch := omega) only [↓reduceIte, ↓shl_ap, shb_ap, shv_ap, zI_lit, zL_lit, nI_z, lN_z, ofN_z, zI_add, zI_sub, zI_mul, zI_neg, zL_add, zL_sub, zL_mul, zL_neg, zI_l, zI_cl, zI_le_t, zI_le_f, zI_lt_t, zI_lt_f, zI_eq_t, zI_eq_f, zI_in_t, zz_isIn_t, zz_isIn_f, not_true_eq_false, not_false_eq_true, true_or, or_true, false_or, or_false, true_and, and_true, false_and, and_false, Nat.reduceLeDiff, Int.reduceAdd, Int.reduceSub, Int.reduceMul, Int.reduceNeg, Int.reduceToNat, Nat.reduceAdd, Nat.reduceMul, Nat.reduceSub, Int.toNat_natCast, zN_le_t, zN_le_f]
    · rw [ir_set_r (by omega), ir_set_k (by omega), ir_set_k (by omega), ir_set_k (by omega)]
      exact hq q h
  | succ g ih =>
    intro f p μ hp hf hM hT hq
    obtain ⟨f, rfl⟩ : ∃ q, f = q + 1 := ⟨f - 1, by omega⟩
    have hA : ((pa P 0 : Nat) : Int) + 4 * (p : Int) = ((pa P p : Nat) : Int) := by unfold pa; omega
    have hAl : pa P p + 4 ≤ 100 := by unfold pa; omega
    obtain ⟨g1, g2, g3, g4, -⟩ := hg p (by omega)
    obtain ⟨A, eA⟩ : ∃ A, A = pa P p := ⟨_, rfl⟩
    rw [← eA] at hA hAl g1 g2 g3 g4
    have hp0 : pa P 0 ≤ 100 := by unfold pa; omega
    obtain ⟨a1, a2⟩ := hT A (by omega)
    obtain ⟨a3, a4⟩ := hT (A + 1) (by omega)
    obtain ⟨a5, a6⟩ := hT (A + 2) (by omega)
    obtain ⟨a7, a8⟩ := hT (A + 3) (by omega)
    have hca := rf_cellAt (μ := μ) (P := P) (a := (T A : Int)) (b := (T (A + 1) : Int)) hM hk (by omega) (by omega) (by omega) (by omega)
    rw [km_pos g1 g2] at hca
    have fr1 : sh_fr (fun r k => (r = 330 ∧ 50 ≤ k ∧ k ≤ 71) ∨ (r = 291 ∧ k = 76)) μ (sh_setI (sh_setI (sh_setI μ 330 (50 + 3 * p) (zI ((T A + 7 * T (A + 1) : Nat) : Int))) 330 (51 + 3 * p) (zI (T (A + 2)))) 330 (52 + 3 * p) (zI (T (A + 3)))) := sh_fr_I (sh_fr_I (sh_fr_I sh_fr.rf (by omega)) (by omega)) (by omega)
    obtain ⟨μ', k1, k2, k3, k4, k5⟩ := ih f (p + 1) _ (by omega) (by omega) (hM.f3 (fun r k z => fr1.i r k (by omega)) (fr1.lrow _ (fun k => by omega))) (fun j hj => by rw [fr1.i 292 j (by omega)]; exact hT j hj) (fun q h => by
      by_cases c : q = p
      · subst c
        rw [← eA]
        simp (disch := omega) only [↓reduceIte, ↓shl_ap, shb_ap, shv_ap, zI_lit, zL_lit, nI_z, lN_z, ofN_z, zI_add, zI_sub, zI_mul, zI_neg, zL_add, zL_sub, zL_mul, zL_neg, zI_l, zI_cl, zI_le_t, zI_le_f, zI_lt_t, zI_lt_f, zI_eq_t, zI_eq_f, zI_in_t, zz_isIn_t, zz_isIn_f, not_true_eq_false, not_false_eq_true, true_or, or_true, false_or, or_false, true_and, and_true, false_and, and_false, ir_set, ir_set_k, ir_set_r, ir_row, ir_row_r, sh_i_setL, sh_i_setR, sh_r_setI, sh_r_setL, sh_r_rowI, sh_l_setI, sh_l_rowI, lr_set, lr_set_k, lr_set_r, Nat.reduceLeDiff, Int.reduceAdd, Int.reduceSub, Int.reduceMul, Int.reduceNeg, Int.reduceToNat, Nat.reduceAdd, Nat.reduceMul, Nat.reduceSub, Int.toNat_natCast, zN_le_t, zN_le_f]
      · obtain ⟨z1, z2, z3⟩ := hq q (by omega)
        simp (disch := omega) only [↓reduceIte, ↓shl_ap, shb_ap, shv_ap, zI_lit, zL_lit, nI_z, lN_z, ofN_z, zI_add, zI_sub, zI_mul, zI_neg, zL_add, zL_sub, zL_mul, zL_neg, zI_l, zI_cl, zI_le_t, zI_le_f, zI_lt_t, zI_lt_f, zI_eq_t, zI_eq_f, zI_in_t, zz_isIn_t, zz_isIn_f, not_true_eq_false, not_false_eq_true, true_or, or_true, false_or, or_false, true_and, and_true, false_and, and_false, ir_set, ir_set_k, ir_set_r, ir_row, ir_row_r, sh_i_setL, sh_i_setR, sh_r_setI, sh_r_setL, sh_r_rowI, sh_l_setI, sh_l_rowI, lr_set, lr_set_k, lr_set_r, Nat.reduceLeDiff, Int.reduceAdd, Int.reduceSub, Int.reduceMul, Int.reduceNeg, Int.reduceToNat, Nat.reduceAdd, Nat.reduceMul, Nat.reduceSub, Int.toNat_natCast, z1, z2, z3, zN_le_t, zN_le_f])
    refine ⟨μ', ?_, fr1.trans k2, k3, k4, k5⟩
    rw [← k1, F_X12_on, rf_personMany hM]
    simp (disch := omega) only [↓reduceIte, ↓shl_ap, shb_ap, shv_ap, zI_lit, zL_lit, nI_z, lN_z, ofN_z, zI_add, zI_sub, zI_mul, zI_neg, zL_add, zL_sub, zL_mul, zL_neg, zI_l, zI_cl, zI_le_t, zI_le_f, zI_lt_t, zI_lt_f, zI_eq_t, zI_eq_f, zI_in_t, zz_isIn_t, zz_isIn_f, not_true_eq_false, not_false_eq_true, true_or, or_true, false_or, or_false, true_and, and_true, false_and, and_false, ir_set, ir_set_k, ir_set_r, ir_row, ir_row_r, sh_i_setL, sh_i_setR, sh_r_setI, sh_r_setL, sh_r_rowI, sh_l_setI, sh_l_rowI, lr_set, lr_set_k, lr_set_r, Nat.reduceLeDiff, Int.reduceAdd, Int.reduceSub, Int.reduceMul, Int.reduceNeg, Int.reduceToNat, Nat.reduceAdd, Nat.reduceMul, Nat.reduceSub, Int.toNat_natCast, hA, a2, show ((A : Int) + 1).toNat = A + 1 by omega, show ((A : Int) + 2).toNat = A + 2 by omega, show ((A : Int) + 3).toNat = A + 3 by omega, a4, a6, a8, hca, show (50 + 3 * (p : Int)).toNat = 50 + 3 * p by omega, show (51 + 3 * (p : Int)).toNat = 51 + 3 * p by omega, show (52 + 3 * (p : Int)).toNat = 52 + 3 * p by omega, zN_le_t, zN_le_f]
    rfl
theorem rf_on1 {i1 i2 : Int32} (hk : sp_ok P) : ∀ (g f k : Nat) (μ : sh_Mem), k + g = sp_c P * sp_r P → g < f → sm_mP μ P → (∀ j, j < 1600 → T j < 256 ∧ sh_i μ 292 j = zI (T j)) → (∀ j, j < k → sh_i μ 330 (1 + ro P j) = zI (T (2 + j))) → ∃ μ', F_X12_on f 1 i1 i2 (zI k) μ = F_X12_on (f - g - 1) 2 i1 i2 (zI 0) μ' ∧ sh_fr (fun r k => r = 330 ∧ 1 ≤ k ∧ k < 50) μ μ' ∧ ∀ j, j < sp_c P * sp_r P → sh_i μ' 330 (1 + ro P j) = zI (T (2 + j)) := by
  have hb := sp_bd hk
  have hc49 := sp_cells hk
  intro g
  induction g with
  | zero =>
    intro f k μ hg hf hM hT hj
    obtain ⟨f, rfl⟩ : ∃ q, f = q + 1 := ⟨f - 1, by omega⟩
    have : k = sp_c P * sp_r P := by omega
    subst this
    refine ⟨μ, ?_, sh_fr.rf, hj⟩
    rw [show f + 1 - 0 - 1 = f by omega, F_X12_on, rf_cellMany hM]
    simp (disch := omega) only [↓reduceIte, ↓shl_ap, shb_ap, shv_ap, zI_lit, zL_lit, nI_z, lN_z, ofN_z, zI_add, zI_sub, zI_mul, zI_neg, zL_add, zL_sub, zL_mul, zL_neg, zI_l, zI_cl, zI_le_t, zI_le_f, zI_lt_t, zI_lt_f, zI_eq_t, zI_eq_f, zI_in_t, zz_isIn_t, zz_isIn_f, not_true_eq_false, not_false_eq_true, true_or, or_true, false_or, or_false, true_and, and_true, false_and, and_false, Nat.reduceLeDiff, Int.reduceAdd, Int.reduceSub, Int.reduceMul, Int.reduceNeg, Int.reduceToNat, Nat.reduceAdd, Nat.reduceMul, Nat.reduceSub, Int.toNat_natCast, zN_le_t, zN_le_f]
  | succ g ih =>
    intro f k μ hg hf hM hT hj
    obtain ⟨f, rfl⟩ : ∃ q, f = q + 1 := ⟨f - 1, by omega⟩
    have hk2 : k < sp_c P * sp_r P := by omega
    have hro := ro_lt hk hk2
    obtain ⟨a1, a2⟩ := hT (2 + k) (by omega)
    have hco : f_X12_cellOrder (zI k) μ = some (zI (ro P k : Int), μ) := rf_cellOrder hM hk hk2
    have fr1 : sh_fr (fun r k => r = 330 ∧ 1 ≤ k ∧ k < 50) μ (sh_setI μ 330 (1 + ro P k) (zI (T (2 + k)))) := sh_fr_I sh_fr.rf (by omega)
    obtain ⟨μ', k1, k2, k3⟩ := ih f (k + 1) _ (by omega) (by omega) (hM.f3 (fun r k z => fr1.i r k (by omega)) (fr1.lrow _ (fun k => by omega))) (fun j hj => by rw [fr1.i 292 j (by omega)]; exact hT j hj) (fun j q => by
      by_cases c : j = k
      · subst c; rw [ir_set]
      · rw [ir_set_k (fun z => c (ro_inj hk (by omega) hk2 (by omega)))]; exact hj j (by omega))
    refine ⟨μ', ?_, fr1.trans k2, k3⟩
    rw [show f + 1 - (g + 1) - 1 = f - g - 1 by omega, ← k1, F_X12_on, rf_cellMany hM]
    simp (disch := omega) only [↓reduceIte, ↓shl_ap, shb_ap, shv_ap, zI_lit, zL_lit, nI_z, lN_z, ofN_z, zI_add, zI_sub, zI_mul, zI_neg, zL_add, zL_sub, zL_mul, zL_neg, zI_l, zI_cl, zI_le_t, zI_le_f, zI_lt_t, zI_lt_f, zI_eq_t, zI_eq_f, zI_in_t, zz_isIn_t, zz_isIn_f, not_true_eq_false, not_false_eq_true, true_or, or_true, false_or, or_false, true_and, and_true, false_and, and_false, Nat.reduceLeDiff, Int.reduceAdd, Int.reduceSub, Int.reduceMul, Int.reduceNeg, Int.reduceToNat, Nat.reduceAdd, Nat.reduceMul, Nat.reduceSub, Int.toNat_natCast, hco, show (2 + (k : Int)).toNat = 2 + k by omega, show (1 + (ro P k : Int)).toNat = 1 + ro P k by omega, a2, zN_le_t, zN_le_f]
    rfl
theorem rf_on {μ : sh_Mem} {n : Nat} (hk : sp_ok P) (hM : sm_mP μ P) (hT : ∀ j, j < 1600 → T j < 256 ∧ sh_i μ 292 j = zI (T j)) (hg : ∀ q, q < sp_np P → pgd P T q) (e1 : sh_i μ 291 1 = zI n) (hi : f_X12_isImage (zI n) (sh_setI μ 291 1 (zI 0)) = some (1, sh_setI μ 291 1 (zI 0))) : ∃ μ', f_X12_on μ = some (1, μ') ∧ sh_fr (fun r k => nO2 r k ∨ (r = 291 ∧ k = 1)) μ μ' ∧ sh_i μ' 291 1 = zI 0 ∧ sh_i μ' 330 71 = zI 0 ∧ sh_i μ' 291 76 = zI 0 ∧ sm_mL (sh_i μ' 330) 0 P (oL P T) := by
  have hb := sp_bd hk
  have hc49 := sp_cells hk
  obtain ⟨a1, a2⟩ := hT 0 (by omega)
  obtain ⟨b1, b2⟩ := hT 1 (by omega)
  have fr0 : sh_fr (fun r k => (r = 330 ∧ k = 0) ∨ (r = 291 ∧ k = 1)) μ (sh_setI (sh_setI μ 291 1 (zI 0)) 330 0 (zI ((256 * T 0 + T 1 : Nat) : Int))) := sh_fr_I (sh_fr_I sh_fr.rf (by omega)) (by omega)
  have hM1 : sm_mP (sh_setI μ 291 1 (zI 0)) P := hM.f3 (fun r k z => by rw [sh_i_set, if_neg (by omega)]) rfl
  have hM2 : sm_mP (sh_setI (sh_setI μ 291 1 (zI 0)) 330 0 (zI ((256 * T 0 + T 1 : Nat) : Int))) P := hM.f3 (fun r k z => fr0.i r k (by omega)) (fr0.lrow _ (fun k => by omega))
  obtain ⟨m, k1, k2, k3⟩ := rf_on1 (i1 := zI n) (i2 := zI (pa P 0)) hk (sp_c P * sp_r P) sh_fuel 0 _ (by omega) (by rw [sh_fuel_eq]; omega) hM2 (fun j hj => by rw [fr0.i 292 j (by omega)]; exact hT j hj) (fun j q => by omega)
  obtain ⟨μ', c1, c2, c3, c4, c5⟩ := rf_on2 (i1 := zI n) hk hg (sp_np P) (sh_fuel - sp_c P * sp_r P - 1) 0 m (by omega) (by rw [sh_fuel_eq]; omega) (hM2.f3 (fun r k z => k2.i r k (by omega)) (k2.lrow _ (fun k => by omega))) (fun j hj => by rw [k2.i 292 j (by omega), fr0.i 292 j (by omega)]; exact hT j hj) (fun q h => by omega)
  refine ⟨μ', ?_, (fr0.mono (fun r k q => by unfold nO2; omega)).trans ((k2.mono (fun r k q => by unfold nO2; omega)).trans (c2.mono (fun r k q => by unfold nO2; omega))), ?_, c3, c4, ?_, fun x y hx hy => ?_, fun p hp => ?_⟩
  · refine Eq.trans ?_ (k1.trans c1)
    have hi' : f_X12_isImage (zI n) (sh_setI μ 291 1 0) = some (1, sh_setI μ 291 1 (zI 0)) := hi
    unfold f_X12_on
    rw [e1, shl_ap, shl_ap, hi', shb_ap, if_neg (by decide), rf_cellMany hM1]
    simp (disch := omega) only [↓reduceIte, ↓shl_ap, shb_ap, shv_ap, zI_lit, zL_lit, nI_z, lN_z, ofN_z, zI_add, zI_sub, zI_mul, zI_neg, zL_add, zL_sub, zL_mul, zL_neg, zI_l, zI_cl, zI_le_t, zI_le_f, zI_lt_t, zI_lt_f, zI_eq_t, zI_eq_f, zI_in_t, zz_isIn_t, zz_isIn_f, not_true_eq_false, not_false_eq_true, true_or, or_true, false_or, or_false, true_and, and_true, false_and, and_false, ir_set, ir_set_k, ir_set_r, ir_row, ir_row_r, sh_i_setL, sh_i_setR, sh_r_setI, sh_r_setL, sh_r_rowI, sh_l_setI, sh_l_rowI, lr_set, lr_set_k, lr_set_r, Nat.reduceLeDiff, Int.reduceAdd, Int.reduceSub, Int.reduceMul, Int.reduceNeg, Int.reduceToNat, Nat.reduceAdd, Nat.reduceMul, Nat.reduceSub, Int.toNat_natCast, a2, b2, show (2 : Int) + ((sp_c P * sp_r P : Nat) : Int) = ((pa P 0 : Nat) : Int) by unfold pa; omega, zN_le_t, zN_le_f]
    rfl
  · rw [c2.i _ _ (by omega), k2.i _ _ (by omega)]
    simp (disch := omega) only [↓reduceIte, ↓shl_ap, shb_ap, shv_ap, zI_lit, zL_lit, nI_z, lN_z, ofN_z, zI_add, zI_sub, zI_mul, zI_neg, zL_add, zL_sub, zL_mul, zL_neg, zI_l, zI_cl, zI_le_t, zI_le_f, zI_lt_t, zI_lt_f, zI_eq_t, zI_eq_f, zI_in_t, zz_isIn_t, zz_isIn_f, not_true_eq_false, not_false_eq_true, true_or, or_true, false_or, or_false, true_and, and_true, false_and, and_false, ir_set, ir_set_k, ir_set_r, ir_row, ir_row_r, sh_i_setL, sh_i_setR, sh_r_setI, sh_r_setL, sh_r_rowI, sh_l_setI, sh_l_rowI, lr_set, lr_set_k, lr_set_r, Nat.reduceLeDiff, Int.reduceAdd, Int.reduceSub, Int.reduceMul, Int.reduceNeg, Int.reduceToNat, Nat.reduceAdd, Nat.reduceMul, Nat.reduceSub, Int.toNat_natCast, zN_le_t, zN_le_f]
  · rw [c2.i _ _ (by omega), k2.i _ _ (by omega), ir_set, nI_z, Nat.mul_comm]
    rfl
  · have hcell := sp_cell hk hx hy
    have := k3 _ hcell
    rw [ro_mk hx] at this
    rw [c2.i _ _ (by omega), show 0 + 1 + x + 7 * y = 1 + (x + 7 * y) by omega, this, nI_z]
    rfl
  · obtain ⟨z1, z2, z3⟩ := c5 p hp
    rw [nI_z, nI_z, nI_z, Nat.zero_add, Nat.zero_add, Nat.zero_add]
    exact ⟨z1, z2, z3⟩
end Onn
theorem oL_ok {P : sp_T} {T : Nat → Nat} {n : Nat} (h : igd P T n) : sl_ok P (oL P T) := by
  obtain ⟨h1, h2, h3, h4, h5, h6⟩ := h
  refine ⟨h4, fun j hj => h5 j (by omega) hj, fun p hp => ?_⟩
  obtain ⟨a, b, c, d, -⟩ := h6 p hp
  exact ⟨a, b, c, d⟩
theorem pr_33 : ∀ (μ : sh_Mem), Sim μ → ∃ (v : Int32) (μ1 μ2 : sh_Mem), f_X11_on μ = some (v, μ1) ∧ f_X12_on μ1 = some (v, μ2) ∧ Sim μ2 := by
  intro μ h
  obtain ⟨-, s2, s3, s4, s5, s6, t, P, L, hR⟩ := id h
  obtain ⟨hr, hk, hl, hP, hM, hc, hm, hkp, hu, hsn, z57, z60, z22, z43, hW⟩ := id hR
  obtain ⟨n, T, hn, e1, e2, hT⟩ := s2.T
  have hT1 : ∀ j, j < 1600 → T j < 256 ∧ sh_i (sh_setI μ 0 1 (zI 0)) 1 j = zI (T j) := fun j hj => ⟨(hT j hj).1, by rw [ir_set_r (by omega)]; exact (hT j hj).2.1⟩
  have hP1 : sm_cP (sh_setI μ 0 1 (zI 0)) t P := hP.cg (fun j hj _ _ => by rcases hr.1 with rfl | rfl <;> exact ir_set_r (by omega))
  rcases cl_isImage (μ := sh_setI μ 0 1 (zI 0)) (T := T) hn hr.2.1 hr.1 hP1 hk hT1 with ⟨g, hi⟩ | ⟨g, hi⟩
  · obtain ⟨μ1, a1, a2, a3, a4, a5, a6⟩ := cl_on (T := T) hr.1 hk hr.2.1 hP (fun j hj => ⟨(hT j hj).1, (hT j hj).2.1⟩) e1 hi
    have hof : sh_offM μ μ1 := fp_X11_on h.1 a1
    have hT2 : ∀ j, j < 1600 → T j < 256 ∧ sh_i μ1 292 j = zI (T j) := fun j hj => ⟨(hT j hj).1, by rw [(hof 292 (by omega)).1]; exact (hT j hj).2.2⟩
    have hM1 := hM.off hof
    have hi2 : f_X12_isImage (zI n) (sh_setI μ1 291 1 (zI 0)) = some (1, sh_setI μ1 291 1 (zI 0)) := by
      rcases rf_isImage (μ := sh_setI μ1 291 1 (zI 0)) (T := T) hn (hM1.f3 (fun r k z => by rw [sh_i_set, if_neg (by omega)]) rfl) hk (fun j hj => by rw [ir_set_r (by omega)]; exact hT2 j hj) with ⟨_, q⟩ | ⟨q, _⟩
      · exact q
      · exact absurd g q
    obtain ⟨μ2, b1, b2, b3, b4, b5, b6⟩ := rf_on (T := T) hk hM1 hT2 g.2.2.2.2.2 (by rw [(hof 291 (by omega)).1]; exact e2) hi2
    have hG2 := gp_X12_on (gp_X11_on h.1 a1) b1
    refine ⟨1, μ1, μ2, a1, b1, ?_⟩
    have hi : ∀ r k, ¬ nO1 r k → ¬ (r = 0 ∧ k = 1) → ¬ nO2 r k → ¬ (r = 291 ∧ k = 1) → sh_i μ2 r k = sh_i μ r k ∧ sh_l μ2 r k = sh_l μ r k := fun r k q1 q2 q3 q4 => by
      have z1 := a2.2 r k (by rintro (z | z); exact q1 z; exact q2 z)
      have z2 := b2.2 r k (by rintro (z | z); exact q3 z; exact q4 z)
      exact ⟨z2.1.trans z1.1, z2.2.trans z1.2⟩
    have hrow : ∀ r, ¬ (49 ≤ r ∧ r ≤ 54) → ¬ r = 63 → ¬ r = 0 → ¬ r = 330 → ¬ r = 291 → sh_i μ2 r = sh_i μ r := fun r q1 q2 q3 q4 q5 => funext fun k => (hi r k (by unfold nO1; omega) (by omega) (by unfold nO2; omega) (by omega)).1
    have hone : ∀ r k, ¬ (49 ≤ r ∧ r ≤ 54) → ¬ (r = 63 ∧ (k = 1 ∨ k = 2)) → ¬ (r = 0 ∧ k = 1) → ¬ r = 330 → ¬ (r = 291 ∧ (k = 1 ∨ k = 76)) → sh_i μ2 r k = sh_i μ r k := fun r k q1 q2 q3 q4 q5 => (hi r k (by unfold nO1; omega) q3 (by unfold nO2; omega) (by omega)).1
    have ht : sh_isP t := hr.1
    refine ⟨hG2, ⟨0, by omega, ?_, by rw [b3]; rfl, ?_⟩, s3.cg (hone _ _ (by omega) (by omega) (by omega) (by omega) (by omega)) (hone _ _ (by omega) (by omega) (by omega) (by omega) (by omega)) (hone _ _ (by omega) (by omega) (by omega) (by omega) (by omega)) (hone _ _ (by omega) (by omega) (by omega) (by omega) (by omega)), s4.cg (hrow _ (by omega) (by omega) (by omega) (by omega) (by omega)) (hrow _ (by omega) (by omega) (by omega) (by omega) (by omega)), s5.cg (hi 0 16 (by unfold nO1; omega) (by omega) (by unfold nO2; omega) (by omega)).2 (hi 291 78 (by unfold nO1; omega) (by omega) (by unfold nO2; omega) (by omega)).2, s6.cg (hone _ _ (by omega) (by omega) (by omega) (by omega) (by omega)) (hone _ _ (by omega) (by omega) (by omega) (by omega) (by omega)) (hrow _ (by omega) (by omega) (by omega) (by omega) (by omega)) (hrow _ (by omega) (by omega) (by omega) (by omega) (by omega)), t, P, oL P T, hr.cg (b2.1.trans a2.1), hk, oL_ok g, hP.cg (fun j hj _ _ => hrow _ (by rcases ht with rfl | rfl <;> omega) (by rcases ht with rfl | rfl <;> omega) (by rcases ht with rfl | rfl <;> omega) (by rcases ht with rfl | rfl <;> omega) (by rcases ht with rfl | rfl <;> omega)), hM.f3 (fun r k z => hone _ _ (by omega) (by omega) (by omega) (by omega) (by omega)) (funext fun k => (hi 323 k (by unfold nO1; omega) (by omega) (by unfold nO2; omega) (by omega)).2), a6.cg (fun j hj => b2.row _ (fun k => by unfold nO2; omega)), b6, ⟨0, by omega, ?_, b4, fun j hj => by omega⟩, ?_, hsn.cg (hone _ _ (by omega) (by omega) (by omega) (by omega) (by omega)) (hone _ _ (by omega) (by omega) (by omega) (by omega) (by omega)) (hrow _ (by omega) (by omega) (by omega) (by omega) (by omega)) (hrow _ (by omega) (by omega) (by omega) (by omega) (by omega)), ?_, ?_, ?_, ?_, fun q hq j hj => ?_⟩
    · rw [b2.i _ _ (by unfold nO2; omega), a3]; rfl
    · intro j hj
      rw [hrow 1 (by omega) (by omega) (by omega) (by omega) (by omega), hrow 292 (by omega) (by omega) (by omega) (by omega) (by omega)]
      obtain ⟨_, _, _, _, q⟩ := s2
      exact q j hj
    · rw [b2.i _ _ (by unfold nO2; omega), a4]; rfl
    · obtain ⟨a, o, w, u1, u2, u3, u4, u5, u6, u7, u8⟩ := hu
      exact ⟨0, o, w, by omega, u2, u3, by rw [b2.i _ _ (by unfold nO2; omega), a5]; rfl, by rw [hone _ _ (by omega) (by omega) (by omega) (by omega) (by omega)]; exact u5, by rw [b5]; rfl, by rw [hone _ _ (by omega) (by omega) (by omega) (by omega) (by omega)]; exact u7, fun i hi => by omega⟩
    · rw [hone _ _ (by omega) (by omega) (by omega) (by omega) (by omega)]; exact z57
    · rw [hone _ _ (by omega) (by omega) (by omega) (by omega) (by omega)]; exact z60
    · rw [hone _ _ (by omega) (by omega) (by omega) (by omega) (by omega)]; exact z22
    · rw [hone _ _ (by omega) (by omega) (by omega) (by omega) (by omega)]; exact z43
    · have := sw_rng q hq
      rw [hone _ _ (by omega) (by omega) (by omega) (by omega) (by omega)]; exact hW q hq j hj
  · have c1 : f_X11_on μ = some (0, sh_setI (sh_setI μ 0 1 (zI 0)) 290 5 (sh_i (sh_setI μ 0 1 (zI 0)) 290 5 + 1)) := by
      have e : f_X11_refuse (zI 5) (sh_setI μ 0 1 (zI 0)) = _ := cl_refuse (k := 5) (by omega)
      have htk : f_X11_takeTape μ = some (zI n, sh_setI μ 0 1 (zI 0)) := by unfold f_X11_takeTape; rw [e1]; rfl
      have e5 : f_X11_refuse 5 (sh_setI μ 0 1 (zI 0)) = _ := e
      unfold f_X11_on
      rw [htk, shb_ap, hi, shb_ap, if_pos rfl, e5, shb_ap, if_pos (Or.inl rfl)]
    obtain ⟨μ1, hm1⟩ : ∃ m, m = sh_setI (sh_setI μ 0 1 (zI 0)) 290 5 (sh_i (sh_setI μ 0 1 (zI 0)) 290 5 + 1) := ⟨_, rfl⟩
    rw [← hm1] at c1
    have hof : sh_offM μ μ1 := fp_X11_on h.1 c1
    have hT2 : ∀ j, j < 1600 → T j < 256 ∧ sh_i (sh_setI μ1 291 1 (zI 0)) 292 j = zI (T j) := fun j hj => ⟨(hT j hj).1, by rw [ir_set_r (by omega), (hof 292 (by omega)).1]; exact (hT j hj).2.2⟩
    have hM1 := hM.off hof
    have hi2 : f_X12_isImage (zI n) (sh_setI μ1 291 1 (zI 0)) = some (0, sh_setI μ1 291 1 (zI 0)) := by
      rcases rf_isImage (μ := sh_setI μ1 291 1 (zI 0)) (T := T) hn (hM1.f3 (fun r k z => by rw [sh_i_set, if_neg (by omega)]) rfl) hk hT2 with ⟨q, _⟩ | ⟨_, q⟩
      · exact absurd q g
      · exact q
    have c2 : f_X12_on μ1 = some (0, sh_setI (sh_setI μ1 291 1 (zI 0)) 293 5 (sh_i (sh_setI μ1 291 1 (zI 0)) 293 5 + 1)) := by
      unfold f_X12_on
      have hi2' : f_X12_isImage (zI n) (sh_setI μ1 291 1 0) = some (0, sh_setI μ1 291 1 (zI 0)) := hi2
      rw [show sh_i μ1 291 1 = zI n by rw [(hof 291 (by omega)).1]; exact e2, shl_ap, shl_ap, hi2', shb_ap, if_pos rfl]
      rfl
    refine ⟨0, μ1, _, c1, c2, h.tk (gp_X12_on (gp_X11_on h.1 c1) c2) (fun r k q => ?_) (fun t' q => ?_) ?_ ?_ ?_ ?_⟩
    · have q290 : ¬ r = 290 := fun z => q (Or.inr (Or.inr (Or.inl z)))
      have q293 : ¬ r = 293 := fun z => q (Or.inr (Or.inr (Or.inr (Or.inl z))))
      have q0 : ¬ (r = 0 ∧ k = 1) := fun z => q (Or.inl ⟨z.1, Or.inl z.2⟩)
      have q1 : ¬ (r = 291 ∧ k = 1) := fun z => q (Or.inr (Or.inl ⟨z.1, Or.inl z.2⟩))
      rw [hm1]
      refine ⟨?_, rfl⟩
      rw [ir_set_r q293, sh_i_set, if_neg q1, ir_set_r q290, sh_i_set, if_neg q0]
    · rw [hm1]; exact q
    · rw [hm1]; simp (disch := omega) only [↓reduceIte, ↓shl_ap, shb_ap, shv_ap, zI_lit, zL_lit, nI_z, lN_z, ofN_z, zI_add, zI_sub, zI_mul, zI_neg, zL_add, zL_sub, zL_mul, zL_neg, zI_l, zI_cl, zI_le_t, zI_le_f, zI_lt_t, zI_lt_f, zI_eq_t, zI_eq_f, zI_in_t, zz_isIn_t, zz_isIn_f, not_true_eq_false, not_false_eq_true, true_or, or_true, false_or, or_false, true_and, and_true, false_and, and_false, ir_set, ir_set_k, ir_set_r, ir_row, ir_row_r, sh_i_setL, sh_i_setR, sh_r_setI, sh_r_setL, sh_r_rowI, sh_l_setI, sh_l_rowI, lr_set, lr_set_k, lr_set_r, Nat.reduceLeDiff, Int.reduceAdd, Int.reduceSub, Int.reduceMul, Int.reduceNeg, Int.reduceToNat, Nat.reduceAdd, Nat.reduceMul, Nat.reduceSub, Int.toNat_natCast, zN_le_t, zN_le_f]
    · simp (disch := omega) only [↓reduceIte, ↓shl_ap, shb_ap, shv_ap, zI_lit, zL_lit, nI_z, lN_z, ofN_z, zI_add, zI_sub, zI_mul, zI_neg, zL_add, zL_sub, zL_mul, zL_neg, zI_l, zI_cl, zI_le_t, zI_le_f, zI_lt_t, zI_lt_f, zI_eq_t, zI_eq_f, zI_in_t, zz_isIn_t, zz_isIn_f, not_true_eq_false, not_false_eq_true, true_or, or_true, false_or, or_false, true_and, and_true, false_and, and_false, ir_set, ir_set_k, ir_set_r, ir_row, ir_row_r, sh_i_setL, sh_i_setR, sh_r_setI, sh_r_setL, sh_r_rowI, sh_l_setI, sh_l_rowI, lr_set, lr_set_k, lr_set_r, Nat.reduceLeDiff, Int.reduceAdd, Int.reduceSub, Int.reduceMul, Int.reduceNeg, Int.reduceToNat, Nat.reduceAdd, Nat.reduceMul, Nat.reduceSub, Int.toNat_natCast, zN_le_t, zN_le_f]
    · refine s4.bp (k := 5) (fun j hj => ?_) (fun j hj => ?_) ?_ ?_
      · rw [hm1]; simp (disch := omega) only [↓reduceIte, ↓shl_ap, shb_ap, shv_ap, zI_lit, zL_lit, nI_z, lN_z, ofN_z, zI_add, zI_sub, zI_mul, zI_neg, zL_add, zL_sub, zL_mul, zL_neg, zI_l, zI_cl, zI_le_t, zI_le_f, zI_lt_t, zI_lt_f, zI_eq_t, zI_eq_f, zI_in_t, zz_isIn_t, zz_isIn_f, not_true_eq_false, not_false_eq_true, true_or, or_true, false_or, or_false, true_and, and_true, false_and, and_false, ir_set, ir_set_k, ir_set_r, ir_row, ir_row_r, sh_i_setL, sh_i_setR, sh_r_setI, sh_r_setL, sh_r_rowI, sh_l_setI, sh_l_rowI, lr_set, lr_set_k, lr_set_r, Nat.reduceLeDiff, Int.reduceAdd, Int.reduceSub, Int.reduceMul, Int.reduceNeg, Int.reduceToNat, Nat.reduceAdd, Nat.reduceMul, Nat.reduceSub, Int.toNat_natCast, zN_le_t, zN_le_f]
      · rw [hm1]; simp (disch := omega) only [↓reduceIte, ↓shl_ap, shb_ap, shv_ap, zI_lit, zL_lit, nI_z, lN_z, ofN_z, zI_add, zI_sub, zI_mul, zI_neg, zL_add, zL_sub, zL_mul, zL_neg, zI_l, zI_cl, zI_le_t, zI_le_f, zI_lt_t, zI_lt_f, zI_eq_t, zI_eq_f, zI_in_t, zz_isIn_t, zz_isIn_f, not_true_eq_false, not_false_eq_true, true_or, or_true, false_or, or_false, true_and, and_true, false_and, and_false, ir_set, ir_set_k, ir_set_r, ir_row, ir_row_r, sh_i_setL, sh_i_setR, sh_r_setI, sh_r_setL, sh_r_rowI, sh_l_setI, sh_l_rowI, lr_set, lr_set_k, lr_set_r, Nat.reduceLeDiff, Int.reduceAdd, Int.reduceSub, Int.reduceMul, Int.reduceNeg, Int.reduceToNat, Nat.reduceAdd, Nat.reduceMul, Nat.reduceSub, Int.toNat_natCast, zN_le_t, zN_le_f]
      · rw [hm1]; simp (disch := omega) only [↓reduceIte, ↓shl_ap, shb_ap, shv_ap, zI_lit, zL_lit, nI_z, lN_z, ofN_z, zI_add, zI_sub, zI_mul, zI_neg, zL_add, zL_sub, zL_mul, zL_neg, zI_l, zI_cl, zI_le_t, zI_le_f, zI_lt_t, zI_lt_f, zI_eq_t, zI_eq_f, zI_in_t, zz_isIn_t, zz_isIn_f, not_true_eq_false, not_false_eq_true, true_or, or_true, false_or, or_false, true_and, and_true, false_and, and_false, ir_set, ir_set_k, ir_set_r, ir_row, ir_row_r, sh_i_setL, sh_i_setR, sh_r_setI, sh_r_setL, sh_r_rowI, sh_l_setI, sh_l_rowI, lr_set, lr_set_k, lr_set_r, Nat.reduceLeDiff, Int.reduceAdd, Int.reduceSub, Int.reduceMul, Int.reduceNeg, Int.reduceToNat, Nat.reduceAdd, Nat.reduceMul, Nat.reduceSub, Int.toNat_natCast, zN_le_t, zN_le_f]
      · rw [hm1]; simp (disch := omega) only [↓reduceIte, ↓shl_ap, shb_ap, shv_ap, zI_lit, zL_lit, nI_z, lN_z, ofN_z, zI_add, zI_sub, zI_mul, zI_neg, zL_add, zL_sub, zL_mul, zL_neg, zI_l, zI_cl, zI_le_t, zI_le_f, zI_lt_t, zI_lt_f, zI_eq_t, zI_eq_f, zI_in_t, zz_isIn_t, zz_isIn_f, not_true_eq_false, not_false_eq_true, true_or, or_true, false_or, or_false, true_and, and_true, false_and, and_false, ir_set, ir_set_k, ir_set_r, ir_row, ir_row_r, sh_i_setL, sh_i_setR, sh_r_setI, sh_r_setL, sh_r_rowI, sh_l_setI, sh_l_rowI, lr_set, lr_set_k, lr_set_r, Nat.reduceLeDiff, Int.reduceAdd, Int.reduceSub, Int.reduceMul, Int.reduceNeg, Int.reduceToNat, Nat.reduceAdd, Nat.reduceMul, Nat.reduceSub, Int.toNat_natCast, zN_le_t, zN_le_f]
    · rw [hm1]
      exact s3.cg (by simp (disch := omega) only [↓reduceIte, ↓shl_ap, shb_ap, shv_ap, zI_lit, zL_lit, nI_z, lN_z, ofN_z, zI_add, zI_sub, zI_mul, zI_neg, zL_add, zL_sub, zL_mul, zL_neg, zI_l, zI_cl, zI_le_t, zI_le_f, zI_lt_t, zI_lt_f, zI_eq_t, zI_eq_f, zI_in_t, zz_isIn_t, zz_isIn_f, not_true_eq_false, not_false_eq_true, true_or, or_true, false_or, or_false, true_and, and_true, false_and, and_false, ir_set, ir_set_k, ir_set_r, ir_row, ir_row_r, sh_i_setL, sh_i_setR, sh_r_setI, sh_r_setL, sh_r_rowI, sh_l_setI, sh_l_rowI, lr_set, lr_set_k, lr_set_r, Nat.reduceLeDiff, Int.reduceAdd, Int.reduceSub, Int.reduceMul, Int.reduceNeg, Int.reduceToNat, Nat.reduceAdd, Nat.reduceMul, Nat.reduceSub, Int.toNat_natCast, zN_le_t, zN_le_f]) (by simp (disch := omega) only [↓reduceIte, ↓shl_ap, shb_ap, shv_ap, zI_lit, zL_lit, nI_z, lN_z, ofN_z, zI_add, zI_sub, zI_mul, zI_neg, zL_add, zL_sub, zL_mul, zL_neg, zI_l, zI_cl, zI_le_t, zI_le_f, zI_lt_t, zI_lt_f, zI_eq_t, zI_eq_f, zI_in_t, zz_isIn_t, zz_isIn_f, not_true_eq_false, not_false_eq_true, true_or, or_true, false_or, or_false, true_and, and_true, false_and, and_false, ir_set, ir_set_k, ir_set_r, ir_row, ir_row_r, sh_i_setL, sh_i_setR, sh_r_setI, sh_r_setL, sh_r_rowI, sh_l_setI, sh_l_rowI, lr_set, lr_set_k, lr_set_r, Nat.reduceLeDiff, Int.reduceAdd, Int.reduceSub, Int.reduceMul, Int.reduceNeg, Int.reduceToNat, Nat.reduceAdd, Nat.reduceMul, Nat.reduceSub, Int.toNat_natCast, zN_le_t, zN_le_f]) (by simp (disch := omega) only [↓reduceIte, ↓shl_ap, shb_ap, shv_ap, zI_lit, zL_lit, nI_z, lN_z, ofN_z, zI_add, zI_sub, zI_mul, zI_neg, zL_add, zL_sub, zL_mul, zL_neg, zI_l, zI_cl, zI_le_t, zI_le_f, zI_lt_t, zI_lt_f, zI_eq_t, zI_eq_f, zI_in_t, zz_isIn_t, zz_isIn_f, not_true_eq_false, not_false_eq_true, true_or, or_true, false_or, or_false, true_and, and_true, false_and, and_false, ir_set, ir_set_k, ir_set_r, ir_row, ir_row_r, sh_i_setL, sh_i_setR, sh_r_setI, sh_r_setL, sh_r_rowI, sh_l_setI, sh_l_rowI, lr_set, lr_set_k, lr_set_r, Nat.reduceLeDiff, Int.reduceAdd, Int.reduceSub, Int.reduceMul, Int.reduceNeg, Int.reduceToNat, Nat.reduceAdd, Nat.reduceMul, Nat.reduceSub, Int.toNat_natCast, zN_le_t, zN_le_f]) (by simp (disch := omega) only [↓reduceIte, ↓shl_ap, shb_ap, shv_ap, zI_lit, zL_lit, nI_z, lN_z, ofN_z, zI_add, zI_sub, zI_mul, zI_neg, zL_add, zL_sub, zL_mul, zL_neg, zI_l, zI_cl, zI_le_t, zI_le_f, zI_lt_t, zI_lt_f, zI_eq_t, zI_eq_f, zI_in_t, zz_isIn_t, zz_isIn_f, not_true_eq_false, not_false_eq_true, true_or, or_true, false_or, or_false, true_and, and_true, false_and, and_false, ir_set, ir_set_k, ir_set_r, ir_row, ir_row_r, sh_i_setL, sh_i_setR, sh_r_setI, sh_r_setL, sh_r_rowI, sh_l_setI, sh_l_rowI, lr_set, lr_set_k, lr_set_r, Nat.reduceLeDiff, Int.reduceAdd, Int.reduceSub, Int.reduceMul, Int.reduceNeg, Int.reduceToNat, Nat.reduceAdd, Nat.reduceMul, Nat.reduceSub, Int.toNat_natCast, zN_le_t, zN_le_f])
