/-! the class's lifts -/
def lkd (μ : sh_Mem) (P : sp_T) (x y : Nat) : Prop := sh_i μ 55 4 = zI ((y * sp_c P + x : Nat) : Int) ∧ sh_i μ 55 5 = zI (if 0 < x then ((y * sp_c P + x : Nat) : Int) - 1 else -1) ∧ sh_i μ 55 6 = zI (if x + 1 < sp_c P then ((y * sp_c P + x : Nat) : Int) + 1 else -1)
theorem cl_else {μ : sh_Mem} {P : sp_T} {x y j : Nat} (h : lkd μ P x y) (h1 : y * sp_c P + x < 1000) (hj : j < 1000) : f_X10_isElsewhere μ (zI j) = if exn P x y j then zI 0 else zI 1 := by
  obtain ⟨a, b, c⟩ := h
  have key := exn_iff (P := P) (x := x) (y := y) (j := j)
  unfold f_X10_isElsewhere
  obtain ⟨w, hw⟩ : ∃ w, w = y * sp_c P + x := ⟨_, rfl⟩
  rw [← hw] at a b c key h1
  rw [a, b, c]
  by_cases c1 : j = w
  · rw [if_pos (show zI (j : Int) = zI (w : Int) by rw [c1]), if_pos (key.mpr (Or.inl c1))]
    rfl
  · rw [if_neg (fun z => c1 (by have := (zI_eq (by omega) (by omega) (by omega) (by omega)).mp z; omega))]
    by_cases c2 : 0 < x ∧ j + 1 = w
    · rw [if_pos c2.1, if_pos (show zI (j : Int) = zI ((w : Int) - 1) by congr 1; omega), if_pos (key.mpr (Or.inr (Or.inl c2)))]
      rfl
    · rw [if_neg (show ¬ zI (j : Int) = zI (if 0 < x then (w : Int) - 1 else -1) from fun z => by
        have := (zI_eq (by omega) (by omega) (by split <;> omega) (by split <;> omega)).mp z
        split at this <;> omega)]
      by_cases c3 : x + 1 < sp_c P ∧ j = w + 1
      · rw [if_pos c3.1, if_pos (show zI (j : Int) = zI ((w : Int) + 1) by congr 1; omega), if_pos (key.mpr (Or.inr (Or.inr c3)))]
        rfl
      · rw [if_neg (show ¬ zI (j : Int) = zI (if x + 1 < sp_c P then (w : Int) + 1 else -1) from fun z => by
          have := (zI_eq (by omega) (by omega) (by split <;> omega) (by split <;> omega)).mp z
          split at this <;> omega), if_neg (fun z => by
            rcases key.mp z with z | z | z
            · exact c1 z
            · exact c2 z
            · exact c3 z)]
        rfl
theorem cells_cg {μ μ' : sh_Mem} {t : Nat} (h : sh_i μ' t = sh_i μ t) : f_X5_cells μ' t = f_X5_cells μ t := by
  unfold f_X5_cells
  rw [h]
/-- what the search for the highest reads -/
def hx (μ : sh_Mem) (t r n : Nat) (P : sp_T) (x y : Nat) (h : Nat → Nat) : Prop := sh_r μ 55 0 = some t ∧ f_X5_cells μ t = zI n ∧ lkd μ P x y ∧ ∀ j, j < n → sh_i μ (r + 1) j = zI (h j)
theorem hx.set {μ : sh_Mem} {t r n k : Nat} {P : sp_T} {x y : Nat} {h : Nat → Nat} {v : Int32} (q : hx μ t r n P x y h) (ht : sh_isP t) (hr : ldr r) (hk : ¬ (k = 4 ∨ k = 5 ∨ k = 6)) : hx (sh_setI μ 55 k v) t r n P x y h := by
  unfold ldr at hr
  have ht := sh_isP_r ht
  obtain ⟨a, b, ⟨c1, c2, c3⟩, d⟩ := q
  refine ⟨a, by rw [cells_cg (ir_set_r (by omega))]; exact b, ⟨?_, ?_, ?_⟩, fun j hj => by rw [ir_set_r (by omega)]; exact d j hj⟩
  · rw [ir_set_k (by omega)]; exact c1
  · rw [ir_set_k (by omega)]; exact c2
  · rw [ir_set_k (by omega)]; exact c3
def Iv (h : Nat → Nat) (ex : Nat → Bool) (n lv hi : Nat) : Prop := hi ≤ n ∧ lv ≤ 99 ∧ (∀ j, j < n → ¬ ex j → h j ≤ lv) ∧ ∀ j, j < hi → ¬ ex j → h j < lv
def nH (r k : Nat) : Prop := r = 55 ∧ (k = 7 ∨ k = 8)
section Fh
variable {t r n : Nat} {P : sp_T} {x y : Nat} {h : Nat → Nat}
theorem cl_fh2 (ht : sh_isP t) (hr : ldr r) (hn : n ≤ 49) (hw : y * sp_c P + x < 1000) {lv : Nat} (hlv : lv ≤ 99) (hle : ∀ j, j < n → h j ≤ 99) (hmx : ∀ j, j < n → ¬ exn P x y j → h j ≤ lv) : ∀ (g fu hi : Nat) (μ : sh_Mem), hi + g = n → g < fu → hx μ t r n P x y h → sh_i μ 55 7 = zI lv → sh_i μ 55 8 = zI hi → (∀ j, j < hi → ¬ exn P x y j → h j < lv) →
    (∃ (μ' : sh_Mem) (b : Nat), F_X10_findHighest fu 2 r μ = some (1, μ') ∧ sh_fr nH μ μ' ∧ hx μ' t r n P x y h ∧ bsp h (exn P x y) n b ∧ h b = lv ∧ sh_i μ' 55 7 = zI lv ∧ sh_i μ' 55 8 = zI b) ∨
    (∃ (μ' : sh_Mem), F_X10_findHighest fu 2 r μ = F_X10_findHighest (fu - g - 1) 1 r μ' ∧ sh_fr nH μ μ' ∧ hx μ' t r n P x y h ∧ sh_i μ' 55 7 = zI ((lv : Int) - 1) ∧ sh_i μ' 55 8 = zI 0 ∧ ∀ j, j < n → ¬ exn P x y j → h j < lv) := by
  intro g
  induction g with
  | zero =>
    intro fu hi μ hg hf hX e7 e8 hlt
    obtain ⟨fu, rfl⟩ : ∃ q, fu = q + 1 := ⟨fu - 1, by omega⟩
    have hi : hi = n := by omega
    subst hi
    right
    refine ⟨sh_setI (sh_setI μ 55 8 (zI 0)) 55 7 (zI ((lv : Int) - 1)), ?_, sh_fr_I (sh_fr_I sh_fr.rf (by unfold nH; omega)) (by unfold nH; omega), (hX.set ht hr (by omega)).set ht hr (by omega), ir_set, by rw [ir_set_k (by omega), ir_set], hlt⟩
    rw [F_X10_findHighest, shr_ap hX.1]
    simp (disch := omega) only [↓reduceIte, ↓shl_ap, shb_ap, shv_ap, zI_lit, zL_lit, nI_z, lN_z, ofN_z, zI_add, zI_sub, zI_mul, zI_neg, zL_add, zL_sub, zL_mul, zL_neg, zI_l, zI_cl, zI_le_t, zI_le_f, zI_lt_t, zI_lt_f, zI_eq_t, zI_eq_f, zI_in_t, zz_isIn_t, zz_isIn_f, not_true_eq_false, not_false_eq_true, true_or, or_true, false_or, or_false, true_and, and_true, false_and, and_false, ir_set, ir_set_k, ir_set_r, ir_row, ir_row_r, sh_i_setL, sh_i_setR, sh_r_setI, sh_r_setL, sh_r_rowI, sh_l_setI, sh_l_rowI, lr_set, lr_set_k, lr_set_r, Nat.reduceLeDiff, Int.reduceAdd, Int.reduceSub, Int.reduceMul, Int.reduceNeg, Int.reduceToNat, Nat.reduceAdd, Nat.reduceMul, Nat.reduceSub, Int.toNat_natCast, hX.1, shr_ap hX.1, shp ht, hX.2.1, e7, e8, zN_le_t, zN_le_f]
    rfl
  | succ g ih =>
    intro fu hi μ hg hf hX e7 e8 hlt
    obtain ⟨fu, rfl⟩ : ∃ q, fu = q + 1 := ⟨fu - 1, by omega⟩
    have hh := hX.2.2.2 hi (by omega)
    have hhl := hle hi (by omega)
    have hel := cl_else (j := hi) hX.2.2.1 hw (by omega)
    by_cases c1 : h hi = lv ∧ ¬ exn P x y hi
    · left
      rw [if_neg c1.2] at hel
      refine ⟨μ, hi, ?_, sh_fr.rf, hX, ⟨by omega, c1.2, fun j hj hx => by rw [c1.1]; exact hmx j hj hx, fun j hj hx => by rw [c1.1]; exact hlt j hj hx⟩, c1.1, e7, e8⟩
      rw [F_X10_findHighest, shr_ap hX.1]
      simp (disch := omega) only [↓reduceIte, ↓shl_ap, shb_ap, shv_ap, zI_lit, zL_lit, nI_z, lN_z, ofN_z, zI_add, zI_sub, zI_mul, zI_neg, zL_add, zL_sub, zL_mul, zL_neg, zI_l, zI_cl, zI_le_t, zI_le_f, zI_lt_t, zI_lt_f, zI_eq_t, zI_eq_f, zI_in_t, zz_isIn_t, zz_isIn_f, not_true_eq_false, not_false_eq_true, true_or, or_true, false_or, or_false, true_and, and_true, false_and, and_false, Nat.reduceLeDiff, Int.reduceAdd, Int.reduceSub, Int.reduceMul, Int.reduceNeg, Int.reduceToNat, Nat.reduceAdd, Nat.reduceMul, Nat.reduceSub, Int.toNat_natCast, hX.1, shr_ap hX.1, shp ht, hX.2.1, e7, e8, hh, c1.1, hel, zN_le_t, zN_le_f]
    · have hlt2 : ∀ j, j < hi + 1 → ¬ exn P x y j → h j < lv := fun j hj hx => by
        by_cases z : j = hi
        · subst z
          have := hmx j (by omega) hx
          have : ¬ h j = lv := fun w => c1 ⟨w, hx⟩
          omega
        · exact hlt j (by omega) hx
      have hs : F_X10_findHighest (fu + 1) 2 r μ = F_X10_findHighest fu 2 r (sh_setI μ 55 8 (zI (hi + 1 : Nat))) := by
        rw [F_X10_findHighest, shr_ap hX.1]
        by_cases c2 : h hi = lv
        · have c3 : exn P x y hi = true := Decidable.byContradiction (fun w => c1 ⟨c2, w⟩)
          rw [if_pos c3] at hel
          simp (disch := omega) only [↓reduceIte, ↓shl_ap, shb_ap, shv_ap, zI_lit, zL_lit, nI_z, lN_z, ofN_z, zI_add, zI_sub, zI_mul, zI_neg, zL_add, zL_sub, zL_mul, zL_neg, zI_l, zI_cl, zI_le_t, zI_le_f, zI_lt_t, zI_lt_f, zI_eq_t, zI_eq_f, zI_in_t, zz_isIn_t, zz_isIn_f, not_true_eq_false, not_false_eq_true, true_or, or_true, false_or, or_false, true_and, and_true, false_and, and_false, Nat.reduceLeDiff, Int.reduceAdd, Int.reduceSub, Int.reduceMul, Int.reduceNeg, Int.reduceToNat, Nat.reduceAdd, Nat.reduceMul, Nat.reduceSub, Int.toNat_natCast, hX.1, shr_ap hX.1, shp ht, hX.2.1, e7, e8, hh, c2, hel, zN_le_t, zN_le_f]
          rfl
        · simp (disch := omega) only [↓reduceIte, ↓shl_ap, shb_ap, shv_ap, zI_lit, zL_lit, nI_z, lN_z, ofN_z, zI_add, zI_sub, zI_mul, zI_neg, zL_add, zL_sub, zL_mul, zL_neg, zI_l, zI_cl, zI_le_t, zI_le_f, zI_lt_t, zI_lt_f, zI_eq_t, zI_eq_f, zI_in_t, zz_isIn_t, zz_isIn_f, not_true_eq_false, not_false_eq_true, true_or, or_true, false_or, or_false, true_and, and_true, false_and, and_false, Nat.reduceLeDiff, Int.reduceAdd, Int.reduceSub, Int.reduceMul, Int.reduceNeg, Int.reduceToNat, Nat.reduceAdd, Nat.reduceMul, Nat.reduceSub, Int.toNat_natCast, hX.1, shr_ap hX.1, shp ht, hX.2.1, e7, e8, hh, zN_le_t, zN_le_f]
          rfl
      rw [hs, show fu + 1 - (g + 1) - 1 = fu - g - 1 by omega]
      have f0 : sh_fr nH μ (sh_setI μ 55 8 (zI (hi + 1 : Nat))) := sh_fr_I sh_fr.rf (by unfold nH; omega)
      rcases ih fu (hi + 1) (sh_setI μ 55 8 (zI (hi + 1 : Nat))) (by omega) (by omega) (hX.set ht hr (by omega)) (by rw [ir_set_k (by omega)]; exact e7) ir_set hlt2 with ⟨μ', b, q1, q2, q3⟩ | ⟨μ', q1, q2, q3⟩
      · exact Or.inl ⟨μ', b, q1, f0.trans q2, q3⟩
      · exact Or.inr ⟨μ', q1, f0.trans q2, q3⟩
theorem cl_fh1 (ht : sh_isP t) (hr : ldr r) (hn : n ≤ 49) (hw : y * sp_c P + x < 1000) (hle : ∀ j, j < n → h j ≤ 99) : ∀ (lv fu hi : Nat) (μ : sh_Mem), lv * 60 + 1 ≤ fu → hx μ t r n P x y h → sh_i μ 55 7 = zI lv → sh_i μ 55 8 = zI hi → Iv h (exn P x y) n lv hi →
    (∃ (μ' : sh_Mem) (b : Nat), F_X10_findHighest fu 1 r μ = some (1, μ') ∧ sh_fr nH μ μ' ∧ hx μ' t r n P x y h ∧ bsp h (exn P x y) n b ∧ 0 < h b ∧ sh_i μ' 55 7 = zI (h b) ∧ sh_i μ' 55 8 = zI b) ∨
    (∃ (μ' : sh_Mem) (hi' : Nat), F_X10_findHighest fu 1 r μ = some (0, μ') ∧ sh_fr nH μ μ' ∧ hx μ' t r n P x y h ∧ Iv h (exn P x y) n 0 hi' ∧ sh_i μ' 55 7 = zI 0 ∧ sh_i μ' 55 8 = zI hi') := by
  intro lv
  induction lv with
  | zero =>
    intro fu hi μ hf hX e7 e8 hI
    obtain ⟨fu, rfl⟩ : ∃ q, fu = q + 1 := ⟨fu - 1, by omega⟩
    right
    refine ⟨μ, hi, ?_, sh_fr.rf, hX, hI, e7, e8⟩
    rw [F_X10_findHighest]
    simp (disch := omega) only [↓reduceIte, ↓shl_ap, shb_ap, shv_ap, zI_lit, zL_lit, nI_z, lN_z, ofN_z, zI_add, zI_sub, zI_mul, zI_neg, zL_add, zL_sub, zL_mul, zL_neg, zI_l, zI_cl, zI_le_t, zI_le_f, zI_lt_t, zI_lt_f, zI_eq_t, zI_eq_f, zI_in_t, zz_isIn_t, zz_isIn_f, not_true_eq_false, not_false_eq_true, true_or, or_true, false_or, or_false, true_and, and_true, false_and, and_false, Nat.reduceLeDiff, Int.reduceAdd, Int.reduceSub, Int.reduceMul, Int.reduceNeg, Int.reduceToNat, Nat.reduceAdd, Nat.reduceMul, Nat.reduceSub, Int.toNat_natCast, e7, zN_le_t, zN_le_f]
  | succ lv ih =>
    intro fu hi μ hf hX e7 e8 hI
    obtain ⟨fu, rfl⟩ : ∃ q, fu = q + 1 := ⟨fu - 1, by omega⟩
    have hlv9 := hI.2.1
    have hs : F_X10_findHighest (fu + 1) 1 r μ = F_X10_findHighest fu 2 r μ := by
      rw [F_X10_findHighest]
      simp (disch := omega) only [↓reduceIte, ↓shl_ap, shb_ap, shv_ap, zI_lit, zL_lit, nI_z, lN_z, ofN_z, zI_add, zI_sub, zI_mul, zI_neg, zL_add, zL_sub, zL_mul, zL_neg, zI_l, zI_cl, zI_le_t, zI_le_f, zI_lt_t, zI_lt_f, zI_eq_t, zI_eq_f, zI_in_t, zz_isIn_t, zz_isIn_f, not_true_eq_false, not_false_eq_true, true_or, or_true, false_or, or_false, true_and, and_true, false_and, and_false, Nat.reduceLeDiff, Int.reduceAdd, Int.reduceSub, Int.reduceMul, Int.reduceNeg, Int.reduceToNat, Nat.reduceAdd, Nat.reduceMul, Nat.reduceSub, Int.toNat_natCast, e7, zN_le_t, zN_le_f]
    rw [hs]
    obtain ⟨i1, i2, i3, i4⟩ := hI
    rcases cl_fh2 ht hr hn hw i2 hle i3 (n - hi) fu hi μ (by omega) (by omega) hX e7 e8 i4 with ⟨μ', b, q1, q2, q3, q4, q5, q6, q7⟩ | ⟨μ', q1, q2, q3, q4, q5, q6⟩
    · exact Or.inl ⟨μ', b, q1, q2, q3, q4, by omega, by rw [q5]; exact q6, q7⟩
    · rw [q1]
      rcases ih (fu - (n - hi) - 1) 0 μ' (by omega) q3 (by rw [q4]; congr 1; omega) q5 ⟨by omega, by omega, fun j hj hx => by have := q6 j hj hx; omega, fun j hj => by omega⟩ with ⟨μ2, b, p1, p2, p3⟩ | ⟨μ2, hi', p1, p2, p3⟩
      · exact Or.inl ⟨μ2, b, p1, q2.trans p2, p3⟩
      · exact Or.inr ⟨μ2, hi', p1, q2.trans p2, p3⟩
def nL (r a k : Nat) : Prop := a = r + 1 ∨ (a = 55 ∧ (k = 1 ∨ k = 7 ∨ k = 8))
theorem cl_lift1 {c T : Nat} (ht : sh_isP t) (hr : ldr r) (hn : n ≤ 49) (hw : y * sp_c P + x < 1000) (hc : c < n) (hcx : exn P x y c = true) (hT : T ≤ 9) : ∀ (k i fu lv hi m : Nat) (h : Nat → Nat) (μ : sh_Mem), i + k = T → k < fu → m + k ≤ 100 → (∀ j, j < n → h j ≤ 99) → hx μ t r n P x y h → sh_i μ 55 1 = zI m → sh_i μ 55 7 = zI lv → sh_i μ 55 8 = zI hi → Iv h (exn P x y) n lv hi →
    ∃ (μ' : sh_Mem) (lv' hi' : Nat), F_X10_lift fu 1 r (zI c) (zI T) (zI i) μ = some μ' ∧ sh_fr (nL r) μ μ' ∧ hx μ' t r n P x y (lfn n (exn P x y) c k h m).1 ∧ sh_i μ' 55 1 = zI (lfn n (exn P x y) c k h m).2 ∧ sh_i μ' 55 7 = zI lv' ∧ sh_i μ' 55 8 = zI hi' ∧ Iv (lfn n (exn P x y) c k h m).1 (exn P x y) n lv' hi' := by
  have hr' := hr
  unfold ldr at hr'
  have ht' := sh_isP_r ht
  intro k
  induction k with
  | zero =>
    intro i fu lv hi m h μ hi2 hf hm hle hX e1 e7 e8 hI
    obtain ⟨fu, rfl⟩ : ∃ q, fu = q + 1 := ⟨fu - 1, by omega⟩
    refine ⟨μ, lv, hi, ?_, sh_fr.rf, hX, e1, e7, e8, hI⟩
    rw [F_X10_lift]
    simp (disch := omega) only [↓reduceIte, ↓shl_ap, shb_ap, shv_ap, zI_lit, zL_lit, nI_z, lN_z, ofN_z, zI_add, zI_sub, zI_mul, zI_neg, zL_add, zL_sub, zL_mul, zL_neg, zI_l, zI_cl, zI_le_t, zI_le_f, zI_lt_t, zI_lt_f, zI_eq_t, zI_eq_f, zI_in_t, zz_isIn_t, zz_isIn_f, not_true_eq_false, not_false_eq_true, true_or, or_true, false_or, or_false, true_and, and_true, false_and, and_false, Nat.reduceLeDiff, Int.reduceAdd, Int.reduceSub, Int.reduceMul, Int.reduceNeg, Int.reduceToNat, Nat.reduceAdd, Nat.reduceMul, Nat.reduceSub, Int.toNat_natCast, zN_le_t, zN_le_f]
  | succ k ih =>
    intro i fu lv hi m h μ hi2 hf hm hle hX e1 e7 e8 hI
    obtain ⟨fu, rfl⟩ : ∃ q, fu = q + 1 := ⟨fu - 1, by omega⟩
    have hhc := hX.2.2.2 c hc
    have hcl := hle c hc
    unfold lfn
    by_cases c1 : 99 ≤ h c
    · rw [show lf1 n (exn P x y) c h = none by unfold lf1; rw [if_pos c1]]
      refine ⟨μ, lv, hi, ?_, sh_fr.rf, hX, e1, e7, e8, hI⟩
      rw [F_X10_lift]
      simp (disch := omega) only [↓reduceIte, ↓shl_ap, shb_ap, shv_ap, zI_lit, zL_lit, nI_z, lN_z, ofN_z, zI_add, zI_sub, zI_mul, zI_neg, zL_add, zL_sub, zL_mul, zL_neg, zI_l, zI_cl, zI_le_t, zI_le_f, zI_lt_t, zI_lt_f, zI_eq_t, zI_eq_f, zI_in_t, zz_isIn_t, zz_isIn_f, not_true_eq_false, not_false_eq_true, true_or, or_true, false_or, or_false, true_and, and_true, false_and, and_false, Nat.reduceLeDiff, Int.reduceAdd, Int.reduceSub, Int.reduceMul, Int.reduceNeg, Int.reduceToNat, Nat.reduceAdd, Nat.reduceMul, Nat.reduceSub, Int.toNat_natCast, hhc, zN_le_t, zN_le_f]
    · rcases cl_fh1 ht hr hn hw hle lv sh_fuel hi μ (by have := hI.2.1; rw [sh_fuel_eq]; omega) hX e7 e8 hI with ⟨μ1, b, q1, q2, q3, q4, q5, q6, q7⟩ | ⟨μ1, hi', q1, q2, q3, q4, q5, q6⟩
      · have hlf : lf1 n (exn P x y) c h = some (hu (hu h b (h b - 1)) c (h c + 1)) := by
          unfold lf1
          rw [if_neg c1, bst_of q4]
          show (if h b = 0 then none else _) = _
          rw [if_neg (by omega)]
        rw [hlf]
        have hbc : ¬ b = c := fun z => by subst z; exact q4.2.1 hcx
        have hb := q4.1
        have hbl := hle b hb
        have hhb := q3.2.2.2 b hb
        have hhc2 := q3.2.2.2 c hc
        have e1' : sh_i μ1 55 1 = zI m := by rw [q2.i _ _ (by unfold nH; omega)]; exact e1
        have hstep : F_X10_lift (fu + 1) 1 r (zI c) (zI T) (zI i) μ = F_X10_lift fu 1 r (zI c) (zI T) (zI (i + 1 : Nat)) (sh_setI (sh_setI (sh_setI μ1 (r + 1) b (zI ((h b : Int) - 1))) (r + 1) c (zI ((h c : Int) + 1))) 55 1 (zI (m + 1 : Nat))) := by
          rw [F_X10_lift]
          unfold f_X10_findHighest
          simp (disch := omega) only [↓reduceIte, ↓shl_ap, shb_ap, shv_ap, zI_lit, zL_lit, nI_z, lN_z, ofN_z, zI_add, zI_sub, zI_mul, zI_neg, zL_add, zL_sub, zL_mul, zL_neg, zI_l, zI_cl, zI_le_t, zI_le_f, zI_lt_t, zI_lt_f, zI_eq_t, zI_eq_f, zI_in_t, zz_isIn_t, zz_isIn_f, not_true_eq_false, not_false_eq_true, true_or, or_true, false_or, or_false, true_and, and_true, false_and, and_false, ir_set, ir_set_k, ir_set_r, ir_row, ir_row_r, sh_i_setL, sh_i_setR, sh_r_setI, sh_r_setL, sh_r_rowI, sh_l_setI, sh_l_rowI, lr_set, lr_set_k, lr_set_r, Nat.reduceLeDiff, Int.reduceAdd, Int.reduceSub, Int.reduceMul, Int.reduceNeg, Int.reduceToNat, Nat.reduceAdd, Nat.reduceMul, Nat.reduceSub, Int.toNat_natCast, hhc, q1, q7, hhb, hhc2, e1', zN_le_t, zN_le_f]
          rfl
        have hX' : hx (sh_setI (sh_setI (sh_setI μ1 (r + 1) b (zI ((h b : Int) - 1))) (r + 1) c (zI ((h c : Int) + 1))) 55 1 (zI (m + 1 : Nat))) t r n P x y (hu (hu h b (h b - 1)) c (h c + 1)) := by
          obtain ⟨a1, a2, ⟨a3, a4, a5⟩, a6⟩ := q3
          refine ⟨a1, ?_, ⟨?_, ?_, ?_⟩, fun j hj => ?_⟩
          · rw [cells_cg (μ := μ1) (by rw [ir_set_r (by omega), ir_set_r (by omega), ir_set_r (by omega)])]; exact a2
          · rw [ir_set_k (by omega), ir_set_r (by omega), ir_set_r (by omega)]; exact a3
          · rw [ir_set_k (by omega), ir_set_r (by omega), ir_set_r (by omega)]; exact a4
          · rw [ir_set_k (by omega), ir_set_r (by omega), ir_set_r (by omega)]; exact a5
          · rw [ir_set_r (by omega)]
            by_cases z1 : j = c
            · subst z1
              rw [ir_set, hu_s]
              rfl
            · rw [ir_set_k z1, hu_n z1]
              by_cases z2 : j = b
              · subst z2
                rw [ir_set, hu_s]
                congr 1
                omega
              · rw [ir_set_k z2, hu_n z2]
                exact a6 j hj
        have hI' : Iv (hu (hu h b (h b - 1)) c (h c + 1)) (exn P x y) n (h b) b := by
          refine ⟨by omega, by omega, fun j hj hx => ?_, fun j hj hx => ?_⟩
          · have z1 : ¬ j = c := fun z => by subst z; exact hx hcx
            have := q4.2.2.1 j hj hx
            rw [hu_n z1]
            unfold hu
            split <;> omega
          · have z1 : ¬ j = c := fun z => by subst z; exact hx hcx
            rw [hu_n z1, hu_n (by omega)]
            exact q4.2.2.2 j hj hx
        have hle' : ∀ j, j < n → hu (hu h b (h b - 1)) c (h c + 1) j ≤ 99 := lf1_le hlf hle
        obtain ⟨μ', lv', hi', d1, d2, d3⟩ := ih (i + 1) fu (h b) b (m + 1) (hu (hu h b (h b - 1)) c (h c + 1)) (sh_setI (sh_setI (sh_setI μ1 (r + 1) b (zI ((h b : Int) - 1))) (r + 1) c (zI ((h c : Int) + 1))) 55 1 (zI (m + 1 : Nat))) (by omega) (by omega) (by omega) hle' hX' ir_set (by rw [ir_set_k (by omega), ir_set_r (by omega), ir_set_r (by omega)]; exact q6) (by rw [ir_set_k (by omega), ir_set_r (by omega), ir_set_r (by omega)]; exact q7) hI'
        refine ⟨μ', lv', hi', hstep.trans d1, ?_, d3⟩
        refine sh_fr.trans (q2.mono (fun a k z => by unfold nH at z; unfold nL; omega)) (sh_fr.trans ?_ d2)
        exact sh_fr_I (sh_fr_I (sh_fr_I sh_fr.rf (Or.inl rfl)) (Or.inl rfl)) (by unfold nL; omega)
      · have hz : lf1 n (exn P x y) c h = none := by
          unfold lf1
          rw [if_neg c1]
          rcases bst_sp (h := h) (ex := exn P x y) n with ⟨w1, w2⟩ | ⟨b, w1, w2⟩
          · rw [w1]
          · rw [w1]
            show (if h b = 0 then none else _) = none
            rw [if_pos]
            have := q4.2.2.1 b w2.1 w2.2.1
            omega
        rw [hz]
        refine ⟨μ1, 0, hi', ?_, q2.mono (fun a k z => by unfold nH at z; unfold nL; omega), q3, by rw [q2.i _ _ (by unfold nH; omega)]; exact e1, q5, q6, q4⟩
        rw [F_X10_lift]
        unfold f_X10_findHighest
        simp (disch := omega) only [↓reduceIte, ↓shl_ap, shb_ap, shv_ap, zI_lit, zL_lit, nI_z, lN_z, ofN_z, zI_add, zI_sub, zI_mul, zI_neg, zL_add, zL_sub, zL_mul, zL_neg, zI_l, zI_cl, zI_le_t, zI_le_f, zI_lt_t, zI_lt_f, zI_eq_t, zI_eq_f, zI_in_t, zz_isIn_t, zz_isIn_f, not_true_eq_false, not_false_eq_true, true_or, or_true, false_or, or_false, true_and, and_true, false_and, and_false, Nat.reduceLeDiff, Int.reduceAdd, Int.reduceSub, Int.reduceMul, Int.reduceNeg, Int.reduceToNat, Nat.reduceAdd, Nat.reduceMul, Nat.reduceSub, Int.toNat_natCast, hhc, q1, zN_le_t, zN_le_f]
end Fh
theorem cl_within {μ : sh_Mem} {v : Int} (h : ein v) : f_X10_within μ (zL v) (zI 9) = zI (cut9 v) := by
  unfold ein at h
  unfold f_X10_within cut9
  by_cases c1 : v < 0
  · simp (disch := omega) only [↓reduceIte, ↓shl_ap, shb_ap, shv_ap, zI_lit, zL_lit, nI_z, lN_z, ofN_z, zI_add, zI_sub, zI_mul, zI_neg, zL_add, zL_sub, zL_mul, zL_neg, zI_l, zI_cl, zI_le_t, zI_le_f, zI_lt_t, zI_lt_f, zI_eq_t, zI_eq_f, zI_in_t, zz_isIn_t, zz_isIn_f, not_true_eq_false, not_false_eq_true, true_or, or_true, false_or, or_false, true_and, and_true, false_and, and_false, Nat.reduceLeDiff, Int.reduceAdd, Int.reduceSub, Int.reduceMul, Int.reduceNeg, Int.reduceToNat, Nat.reduceAdd, Nat.reduceMul, Nat.reduceSub, Int.toNat_natCast, lg_ge0, eq_false (show ¬ 0 ≤ v by omega), zN_le_t, zN_le_f]
    rw [if_pos c1]
    rfl
  · by_cases c2 : 9 < v
    · simp (disch := omega) only [↓reduceIte, ↓shl_ap, shb_ap, shv_ap, zI_lit, zL_lit, nI_z, lN_z, ofN_z, zI_add, zI_sub, zI_mul, zI_neg, zL_add, zL_sub, zL_mul, zL_neg, zI_l, zI_cl, zI_le_t, zI_le_f, zI_lt_t, zI_lt_f, zI_eq_t, zI_eq_f, zI_in_t, zz_isIn_t, zz_isIn_f, not_true_eq_false, not_false_eq_true, true_or, or_true, false_or, or_false, true_and, and_true, false_and, and_false, Nat.reduceLeDiff, Int.reduceAdd, Int.reduceSub, Int.reduceMul, Int.reduceNeg, Int.reduceToNat, Nat.reduceAdd, Nat.reduceMul, Nat.reduceSub, Int.toNat_natCast, lg_ge0, lg_le0, eq_true (show 0 ≤ v by omega), eq_false (show ¬ v ≤ 9 by omega), zN_le_t, zN_le_f]
      rw [if_neg c1, if_pos c2]
      rfl
    · simp (disch := omega) only [↓reduceIte, ↓shl_ap, shb_ap, shv_ap, zI_lit, zL_lit, nI_z, lN_z, ofN_z, zI_add, zI_sub, zI_mul, zI_neg, zL_add, zL_sub, zL_mul, zL_neg, zI_l, zI_cl, zI_le_t, zI_le_f, zI_lt_t, zI_lt_f, zI_eq_t, zI_eq_f, zI_in_t, zz_isIn_t, zz_isIn_f, not_true_eq_false, not_false_eq_true, true_or, or_true, false_or, or_false, true_and, and_true, false_and, and_false, Nat.reduceLeDiff, Int.reduceAdd, Int.reduceSub, Int.reduceMul, Int.reduceNeg, Int.reduceToNat, Nat.reduceAdd, Nat.reduceMul, Nat.reduceSub, Int.toNat_natCast, lg_ge0, lg_le0, eq_true (show 0 ≤ v by omega), eq_true (show v ≤ 9 by omega), zN_le_t, zN_le_f]
      rw [if_neg c1, if_neg c2, show (zL v).toInt32 = zI v from Int64.toInt32_ofInt]
      congr 1
      omega
theorem rf_cut {μ : sh_Mem} {v : Int} (h : ein v) : f_X12_cut μ (zL v) = zI (cut9 v) := by
  unfold ein at h
  unfold f_X12_cut cut9
  by_cases c1 : v < 0
  · simp (disch := omega) only [↓reduceIte, ↓shl_ap, shb_ap, shv_ap, zI_lit, zL_lit, nI_z, lN_z, ofN_z, zI_add, zI_sub, zI_mul, zI_neg, zL_add, zL_sub, zL_mul, zL_neg, zI_l, zI_cl, zI_le_t, zI_le_f, zI_lt_t, zI_lt_f, zI_eq_t, zI_eq_f, zI_in_t, zz_isIn_t, zz_isIn_f, not_true_eq_false, not_false_eq_true, true_or, or_true, false_or, or_false, true_and, and_true, false_and, and_false, Nat.reduceLeDiff, Int.reduceAdd, Int.reduceSub, Int.reduceMul, Int.reduceNeg, Int.reduceToNat, Nat.reduceAdd, Nat.reduceMul, Nat.reduceSub, Int.toNat_natCast, lg_ge0, eq_false (show ¬ 0 ≤ v by omega), zN_le_t, zN_le_f]
    rw [if_pos c1]
    rfl
  · by_cases c2 : 9 < v
    · simp (disch := omega) only [↓reduceIte, ↓shl_ap, shb_ap, shv_ap, zI_lit, zL_lit, nI_z, lN_z, ofN_z, zI_add, zI_sub, zI_mul, zI_neg, zL_add, zL_sub, zL_mul, zL_neg, zI_l, zI_cl, zI_le_t, zI_le_f, zI_lt_t, zI_lt_f, zI_eq_t, zI_eq_f, zI_in_t, zz_isIn_t, zz_isIn_f, not_true_eq_false, not_false_eq_true, true_or, or_true, false_or, or_false, true_and, and_true, false_and, and_false, Nat.reduceLeDiff, Int.reduceAdd, Int.reduceSub, Int.reduceMul, Int.reduceNeg, Int.reduceToNat, Nat.reduceAdd, Nat.reduceMul, Nat.reduceSub, Int.toNat_natCast, lg_ge0, lg_le0, eq_true (show 0 ≤ v by omega), eq_false (show ¬ v ≤ 9 by omega), zN_le_t, zN_le_f]
      rw [if_neg c1, if_pos c2]
      rfl
    · simp (disch := omega) only [↓reduceIte, ↓shl_ap, shb_ap, shv_ap, zI_lit, zL_lit, nI_z, lN_z, ofN_z, zI_add, zI_sub, zI_mul, zI_neg, zL_add, zL_sub, zL_mul, zL_neg, zI_l, zI_cl, zI_le_t, zI_le_f, zI_lt_t, zI_lt_f, zI_eq_t, zI_eq_f, zI_in_t, zz_isIn_t, zz_isIn_f, not_true_eq_false, not_false_eq_true, true_or, or_true, false_or, or_false, true_and, and_true, false_and, and_false, Nat.reduceLeDiff, Int.reduceAdd, Int.reduceSub, Int.reduceMul, Int.reduceNeg, Int.reduceToNat, Nat.reduceAdd, Nat.reduceMul, Nat.reduceSub, Int.toNat_natCast, lg_ge0, lg_le0, eq_true (show 0 ≤ v by omega), eq_true (show v ≤ 9 by omega), zN_le_t, zN_le_f]
      rw [if_neg c1, if_neg c2, show (zL v).toInt32 = zI v from Int64.toInt32_ofInt]
      congr 1
      omega
/-- a cell's lift: facts, formula, loop -/
def nF (r t a k : Nat) : Prop := a = r + 1 ∨ (a = 55 ∧ (k = 1 ∨ k = 7 ∨ k = 8)) ∨ (a = 56 ∧ k = 17) ∨ a = t + 7
theorem hx.cg {μ μ' : sh_Mem} {t r n : Nat} {P : sp_T} {x y : Nat} {h : Nat → Nat} (q : hx μ t r n P x y h) (h1 : sh_r μ' = sh_r μ) (h2 : sh_i μ' t = sh_i μ t) (h3 : ∀ k, 4 ≤ k → k ≤ 6 → sh_i μ' 55 k = sh_i μ 55 k) (h4 : sh_i μ' (r + 1) = sh_i μ (r + 1)) : hx μ' t r n P x y h := by
  obtain ⟨a, b, ⟨c1, c2, c3⟩, d⟩ := q
  exact ⟨by rw [h1]; exact a, by rw [cells_cg h2]; exact b, ⟨by rw [h3 4 (by omega) (by omega)]; exact c1, by rw [h3 5 (by omega) (by omega)]; exact c2, by rw [h3 6 (by omega) (by omega)]; exact c3⟩, fun j hj => by rw [h4]; exact d j hj⟩
theorem cl_lift {μ : sh_Mem} {t r p q c lv hi m : Nat} {P : sp_T} {L : sl_T} {h : Nat → Nat} (hw : cw μ t P) (hr : ldr r) (hl : sl_in P L) (hd : sl_d L ≤ 100000) (hp : p < sp_np P) (hq : q < sp_nt P) (hf : fcs μ 56 P L p q) (hc : c < sp_c P * sp_r P) (hcx : exn P (sl_x L p) (sl_y L p) c = true) (hle : ∀ j, j < sp_c P * sp_r P → h j ≤ 99) (hX : hx μ t r (sp_c P * sp_r P) P (sl_x L p) (sl_y L p) h) (hm : m ≤ 20) (e1 : sh_i μ 55 1 = zI m) (e7 : sh_i μ 55 7 = zI lv) (e8 : sh_i μ 55 8 = zI hi) (hI : Iv h (exn P (sl_x L p) (sl_y L p)) (sp_c P * sp_r P) lv hi) :
    ∃ (μ' : sh_Mem) (lv' hi' : Nat), f_X10_lift r (zI c) μ = some μ' ∧ sh_fr (nF r t) μ μ' ∧ (∀ a, ¬ a = r + 1 → ¬ a = 55 → ¬ a = 56 → sh_i μ' a = sh_i μ a) ∧ fcs μ' 56 P L p q ∧ hx μ' t r (sp_c P * sp_r P) P (sl_x L p) (sl_y L p) (lfn (sp_c P * sp_r P) (exn P (sl_x L p) (sl_y L p)) c (cut9 (vl P L p q (h c))) h m).1 ∧ sh_i μ' 55 1 = zI (lfn (sp_c P * sp_r P) (exn P (sl_x L p) (sl_y L p)) c (cut9 (vl P L p q (h c))) h m).2 ∧ sh_i μ' 55 7 = zI lv' ∧ sh_i μ' 55 8 = zI hi' ∧ Iv (lfn (sp_c P * sp_r P) (exn P (sl_x L p) (sl_y L p)) c (cut9 (vl P L p q (h c))) h m).1 (exn P (sl_x L p) (sl_y L p)) (sp_c P * sp_r P) lv' hi' := by
  obtain ⟨h1, h2, h3, hk⟩ := hw
  have hb := sp_bd hk
  have hn := sp_cells hk
  have hpos := sp_pos hk hp
  have ht := sh_isP_r h2
  have hr' := hr
  unfold ldr at hr'
  obtain ⟨b1, b2, -, -⟩ := hl.2 p hp
  have b6 := sp_cell hk b1 b2
  have hhc := hX.2.2.2 c hc
  have hcl := hle c hc
  obtain ⟨m0, hm0⟩ : ∃ m0, m0 = sh_setI μ 56 17 (zI (h c)) := ⟨_, rfl⟩
  have n0 : ∀ a, ¬ a = 56 → sh_i m0 a = sh_i μ a := fun a ha => by rw [hm0, ir_set_r ha]
  have hf0 : fcs m0 56 P L p q := hf.cg (fun k hk => by rw [hm0, ir_set_k hk])
  obtain ⟨⟨g1, g2⟩, -⟩ := sp_forms hk (by omega)
  have hform : sm_form m0 (t + 5) (sp_fl P) := h3.2.2.2.2.2.2.2.2.2.1.cg (n0 _ (by omega)) (n0 _ (by omega))
  obtain ⟨v, m1, v1, v2, v3, v4⟩ := cl_value (F := fa P L p q (h c)) (K := k0) (W := k0) (g := 56) (fa_in hk hl hd hp (by omega) hcl) k0_in k0_in g2 g1 hform (hf0.h0 (by rw [hm0, ir_set])) (fun z => by cases z)
  have hv : vl P L p q (h c) = v := by unfold vl; rw [v2]; rfl
  have c9 := cut9_le v
  have hX1 : hx m1 t r (sp_c P * sp_r P) P (sl_x L p) (sl_y L p) h := hX.cg (by rw [v4.2.1, hm0]; rfl) (by rw [v4.1]; exact n0 _ (by omega)) (fun k _ _ => by rw [v4.1, n0 _ (by omega)]) (by rw [v4.1]; exact n0 _ (by omega))
  have n1 : ∀ k, sh_i m1 55 k = sh_i μ 55 k := fun k => by rw [v4.1, n0 _ (by omega)]
  obtain ⟨μ', lv', hi', d1, d2, d3, d4, d5, d6, d7⟩ := cl_lift1 (c := c) (T := cut9 v) h2 hr hn (by omega) hc hcx c9 (cut9 v) 0 sh_fuel lv hi m h m1 (by omega) (by rw [sh_fuel_eq]; omega) (by omega) hle hX1 (by rw [n1]; exact e1) (by rw [n1]; exact e7) (by rw [n1]; exact e8) hI
  have f0 : sh_fr (nF r t) μ m0 := by rw [hm0]; exact sh_fr_I sh_fr.rf (by unfold nF; omega)
  have f1 : sh_fr (nF r t) m0 m1 := v4.fr.mono (fun a k z => by unfold nF; omega)
  have f2 : sh_fr (nF r t) m1 μ' := d2.mono (fun a k z => by unfold nL at z; unfold nF; omega)
  rw [hv]
  refine ⟨μ', lv', hi', ?_, f0.trans (f1.trans f2), fun a z1 z2 z3 => ?_, ?_, d3, d4, d5, d6, d7⟩
  · have hr0 : sh_r m0 55 0 = some t := by rw [hm0]; exact h1
    unfold f_X10_lift
    simp (disch := omega) only [↓reduceIte, ↓shl_ap, shb_ap, shv_ap, zI_lit, zL_lit, nI_z, lN_z, ofN_z, zI_add, zI_sub, zI_mul, zI_neg, zL_add, zL_sub, zL_mul, zL_neg, zI_l, zI_cl, zI_le_t, zI_le_f, zI_lt_t, zI_lt_f, zI_eq_t, zI_eq_f, zI_in_t, zz_isIn_t, zz_isIn_f, not_true_eq_false, not_false_eq_true, true_or, or_true, false_or, or_false, true_and, and_true, false_and, and_false, Nat.reduceLeDiff, Int.reduceAdd, Int.reduceSub, Int.reduceMul, Int.reduceNeg, Int.reduceToNat, Nat.reduceAdd, Nat.reduceMul, Nat.reduceSub, Int.toNat_natCast, hhc, zN_le_t, zN_le_f]
    rw [← hm0, shr_ap hr0]
    simp (disch := omega) only [↓reduceIte, ↓shl_ap, shb_ap, shv_ap, zI_lit, zL_lit, nI_z, lN_z, ofN_z, zI_add, zI_sub, zI_mul, zI_neg, zL_add, zL_sub, zL_mul, zL_neg, zI_l, zI_cl, zI_le_t, zI_le_f, zI_lt_t, zI_lt_f, zI_eq_t, zI_eq_f, zI_in_t, zz_isIn_t, zz_isIn_f, not_true_eq_false, not_false_eq_true, true_or, or_true, false_or, or_false, true_and, and_true, false_and, and_false, Nat.reduceLeDiff, Int.reduceAdd, Int.reduceSub, Int.reduceMul, Int.reduceNeg, Int.reduceToNat, Nat.reduceAdd, Nat.reduceMul, Nat.reduceSub, Int.toNat_natCast, hr0, shr_ap hr0, shp h2, v1, cl_within v3.1, zN_le_t, zN_le_f]
    exact d1
  · rw [show sh_i μ' a = sh_i m1 a from funext fun k => d2.i a k (by unfold nL; omega), v4.1, n0 a z3]
  · refine hf0.cg (fun k hk => ?_)
    rw [d2.i _ _ (by unfold nL; omega), v4.1]
