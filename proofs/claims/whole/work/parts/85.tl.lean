/-! tells -/
def cnt (s : Nat) (H : Nat → Nat) (v : Nat) : Nat → Nat
  | 0 => 0
  | b + 1 => cnt s H v b + (if s / 2 ^ b % 2 = 1 ∧ H b = v then 1 else 0)
theorem cnt_le {s : Nat} {H : Nat → Nat} {v : Nat} : ∀ b, cnt s H v b ≤ b
  | 0 => Nat.le_refl _
  | b + 1 => by
    have := cnt_le (s := s) (H := H) (v := v) b
    rw [cnt]
    split <;> omega
theorem cnt_pos {s : Nat} {H : Nat → Nat} {v a : Nat} (ha : s / 2 ^ a % 2 = 1) (hv : H a = v) : ∀ b, a < b → 1 ≤ cnt s H v b
  | 0, h => by omega
  | b + 1, h => by
    rw [cnt]
    by_cases c : a = b
    · subst c; rw [if_pos ⟨ha, hv⟩]; omega
    · have := cnt_pos (s := s) (H := H) (v := v) ha hv b (by omega)
      omega
def mxl (s np : Nat) (H : Nat → Nat) : Nat → Nat
  | 0 => 0
  | a + 1 => if s / 2 ^ a % 2 = 1 then (if mxl s np H a < cnt s H (H a) np then cnt s H (H a) np else mxl s np H a) else mxl s np H a
theorem mxl_le {s np : Nat} {H : Nat → Nat} : ∀ a, mxl s np H a ≤ np
  | 0 => Nat.zero_le _
  | a + 1 => by
    have h1 := mxl_le (s := s) (np := np) (H := H) a
    have h2 := cnt_le (s := s) (H := H) (v := H a) np
    rw [mxl]
    split
    · split <;> omega
    · omega
theorem mxl_pos {s np : Nat} {H : Nat → Nat} {p : Nat} (hp : p < np) (hb : s / 2 ^ p % 2 = 1) : ∀ a, p < a → 1 ≤ mxl s np H a
  | 0, h => by omega
  | a + 1, h => by
    rw [mxl]
    by_cases c : p = a
    · subst c
      have := cnt_pos (H := H) hb rfl np hp
      rw [if_pos hb]
      split <;> omega
    · have := mxl_pos (H := H) hp hb a (by omega)
      split
      · split <;> omega
      · exact this
theorem mxl_cg {s np : Nat} {H H' : Nat → Nat} (h : ∀ p, p < np → H p = H' p) : ∀ a, a ≤ np → mxl s np H a = mxl s np H' a := by
  have hc : ∀ v b, b ≤ np → cnt s H v b = cnt s H' v b := by
    intro v b
    induction b with
    | zero => intro _; rfl
    | succ b ih => intro hb; rw [cnt, cnt, ih (by omega), h b (by omega)]
  intro a
  induction a with
  | zero => intro _; rfl
  | succ a ih => intro ha; rw [mxl, mxl, ih (by omega), h a (by omega), hc _ np (Nat.le_refl _)]
section Tl
variable {t s np k : Nat} {H : Nat → Nat} {P : sp_T}
theorem cl_ml2 {μ : sh_Mem} {a mx : Nat} (hn : np ≤ 7) (hr : sh_r μ 55 0 = some t) (ht : sh_isP t) (e3 : sh_i μ t 3 = zI np) (hs : s < 128) (hk : k < 49) (hH : ∀ p, p < np → H p ≤ 99 ∧ sh_i μ (218 + 6 * p + 1) k = zI (H p)) (ha : a < np) (hba : s / 2 ^ a % 2 = 1) (hmx : mx ≤ 7) : ∀ (g f b : Nat), b + g = np → g < f → F_X0_mostLeft f 2 (zI s) (zI k) (zI mx) (zI a) (zI (cnt s H (H a) b)) (zI b) μ = F_X0_mostLeft (f - g) 2 (zI s) (zI k) (zI mx) (zI a) (zI (cnt s H (H a) np)) (zI np) μ := by
  have bA := zI_bit (k := s) (t := a) hs (by omega)
  rw [hba] at bA
  have bA' : (zI s >>> zI a) &&& zI 1 = zI 1 := bA
  intro g
  induction g with
  | zero =>
    intro f b hb hf
    have : b = np := by omega
    subst this
    rfl
  | succ g ih =>
    intro f b hb hf
    obtain ⟨f, rfl⟩ : ∃ q, f = q + 1 := ⟨f - 1, by omega⟩
    have hrec := ih f (b + 1) (by omega) (by omega)
    have bB := zI_bit (k := s) (t := b) hs (by omega)
    obtain ⟨x1, x2⟩ := hH a ha
    obtain ⟨y1, y2⟩ := hH b (by omega)
    have hcl := cnt_le (s := s) (H := H) (v := H a) b
    rw [show f + 1 - (g + 1) = f - g by omega, ← hrec, F_X0_mostLeft, cnt]
    by_cases c1 : s / 2 ^ b % 2 = 1
    · rw [c1] at bB
      have bB' : (zI s >>> zI b) &&& zI 1 = zI 1 := bB
      by_cases c2 : H b = H a
      · rw [if_pos (show s / 2 ^ b % 2 = 1 ∧ H b = H a from ⟨c1, c2⟩)]
        simp (disch := omega) only [↓reduceIte, ↓shl_ap, shb_ap, shv_ap, zI_lit, zL_lit, nI_z, lN_z, ofN_z, zI_add, zI_sub, zI_mul, zI_neg, zL_add, zL_sub, zL_mul, zL_neg, zI_l, zI_cl, zI_le_t, zI_le_f, zI_lt_t, zI_lt_f, zI_eq_t, zI_eq_f, zI_in_t, zz_isIn_t, zz_isIn_f, not_true_eq_false, not_false_eq_true, true_or, or_true, false_or, or_false, true_and, and_true, false_and, and_false, Nat.reduceLeDiff, Int.reduceAdd, Int.reduceSub, Int.reduceMul, Int.reduceNeg, Int.reduceToNat, Nat.reduceAdd, Nat.reduceMul, Nat.reduceSub, Int.toNat_natCast, hr, shr_ap hr, shp ht, e3, zI_and31, bA', bB', x2, y2, zN_le_t, zN_le_f]
        rfl
      · rw [if_neg (show ¬ (s / 2 ^ b % 2 = 1 ∧ H b = H a) from fun z => c2 z.2)]
        simp (disch := omega) only [↓reduceIte, ↓shl_ap, shb_ap, shv_ap, zI_lit, zL_lit, nI_z, lN_z, ofN_z, zI_add, zI_sub, zI_mul, zI_neg, zL_add, zL_sub, zL_mul, zL_neg, zI_l, zI_cl, zI_le_t, zI_le_f, zI_lt_t, zI_lt_f, zI_eq_t, zI_eq_f, zI_in_t, zz_isIn_t, zz_isIn_f, not_true_eq_false, not_false_eq_true, true_or, or_true, false_or, or_false, true_and, and_true, false_and, and_false, Nat.reduceLeDiff, Int.reduceAdd, Int.reduceSub, Int.reduceMul, Int.reduceNeg, Int.reduceToNat, Nat.reduceAdd, Nat.reduceMul, Nat.reduceSub, Int.toNat_natCast, hr, shr_ap hr, shp ht, e3, zI_and31, bA', bB', x2, y2, zN_le_t, zN_le_f]
        rfl
    · rw [if_neg (show ¬ (s / 2 ^ b % 2 = 1 ∧ H b = H a) from fun z => c1 z.1)]
      have c0 : s / 2 ^ b % 2 = 0 := by omega
      rw [c0] at bB
      have bB' : (zI s >>> zI b) &&& zI 1 = zI 0 := bB
      simp (disch := omega) only [↓reduceIte, ↓shl_ap, shb_ap, shv_ap, zI_lit, zL_lit, nI_z, lN_z, ofN_z, zI_add, zI_sub, zI_mul, zI_neg, zL_add, zL_sub, zL_mul, zL_neg, zI_l, zI_cl, zI_le_t, zI_le_f, zI_lt_t, zI_lt_f, zI_eq_t, zI_eq_f, zI_in_t, zz_isIn_t, zz_isIn_f, not_true_eq_false, not_false_eq_true, true_or, or_true, false_or, or_false, true_and, and_true, false_and, and_false, Nat.reduceLeDiff, Int.reduceAdd, Int.reduceSub, Int.reduceMul, Int.reduceNeg, Int.reduceToNat, Nat.reduceAdd, Nat.reduceMul, Nat.reduceSub, Int.toNat_natCast, hr, shr_ap hr, shp ht, e3, zI_and31, bA', bB', zN_le_t, zN_le_f]
      rfl
theorem cl_ml1 {μ : sh_Mem} (hn : np ≤ 7) (hr : sh_r μ 55 0 = some t) (ht : sh_isP t) (e3 : sh_i μ t 3 = zI np) (hs : s < 128) (hk : k < 49) (hH : ∀ p, p < np → H p ≤ 99 ∧ sh_i μ (218 + 6 * p + 1) k = zI (H p)) : ∀ (g f a : Nat), a + g = np → 10 * g + 1 < f → F_X0_mostLeft f 1 (zI s) (zI k) (zI (mxl s np H a)) (zI a) (zI 0) (zI 0) μ = some (zI (mxl s np H np), μ) := by
  intro g
  induction g with
  | zero =>
    intro f a ha hf
    obtain ⟨f, rfl⟩ : ∃ q, f = q + 1 := ⟨f - 1, by omega⟩
    have : a = np := by omega
    subst this
    rw [F_X0_mostLeft, shr_ap hr]
    simp (disch := omega) only [↓reduceIte, ↓shl_ap, shb_ap, shv_ap, zI_lit, zL_lit, nI_z, lN_z, ofN_z, zI_add, zI_sub, zI_mul, zI_neg, zL_add, zL_sub, zL_mul, zL_neg, zI_l, zI_cl, zI_le_t, zI_le_f, zI_lt_t, zI_lt_f, zI_eq_t, zI_eq_f, zI_in_t, zz_isIn_t, zz_isIn_f, not_true_eq_false, not_false_eq_true, true_or, or_true, false_or, or_false, true_and, and_true, false_and, and_false, Nat.reduceLeDiff, Int.reduceAdd, Int.reduceSub, Int.reduceMul, Int.reduceNeg, Int.reduceToNat, Nat.reduceAdd, Nat.reduceMul, Nat.reduceSub, Int.toNat_natCast, hr, shr_ap hr, shp ht, e3, zN_le_t, zN_le_f]
  | succ g ih =>
    intro f a ha hf
    obtain ⟨f, rfl⟩ : ∃ q, f = q + 2 := ⟨f - 2, by omega⟩
    have hml := mxl_le (s := s) (np := np) (H := H) a
    have h1 : F_X0_mostLeft (f + 2) 1 (zI s) (zI k) (zI (mxl s np H a)) (zI a) (zI 0) (zI 0) μ = F_X0_mostLeft (f + 1) 2 (zI s) (zI k) (zI (mxl s np H a)) (zI a) (zI 0) (zI 0) μ := by
      rw [F_X0_mostLeft, shr_ap hr]
      simp (disch := omega) only [↓reduceIte, ↓shl_ap, shb_ap, shv_ap, zI_lit, zL_lit, nI_z, lN_z, ofN_z, zI_add, zI_sub, zI_mul, zI_neg, zL_add, zL_sub, zL_mul, zL_neg, zI_l, zI_cl, zI_le_t, zI_le_f, zI_lt_t, zI_lt_f, zI_eq_t, zI_eq_f, zI_in_t, zz_isIn_t, zz_isIn_f, not_true_eq_false, not_false_eq_true, true_or, or_true, false_or, or_false, true_and, and_true, false_and, and_false, Nat.reduceLeDiff, Int.reduceAdd, Int.reduceSub, Int.reduceMul, Int.reduceNeg, Int.reduceToNat, Nat.reduceAdd, Nat.reduceMul, Nat.reduceSub, Int.toNat_natCast, hr, shr_ap hr, shp ht, e3, zN_le_t, zN_le_f]
    rw [h1]
    by_cases c : s / 2 ^ a % 2 = 1
    · have h2 := cl_ml2 (a := a) (mx := mxl s np H a) hn hr ht e3 hs hk hH (by omega) c (by omega) np (f + 1) 0 (by omega) (by omega)
      have h2 : F_X0_mostLeft (f + 1) 2 (zI s) (zI k) (zI (mxl s np H a)) (zI a) (zI 0) (zI 0) μ = _ := h2
      obtain ⟨f', hf'⟩ : ∃ q, f + 1 - np = q + 1 := ⟨f - np, by omega⟩
      have hcl := cnt_le (s := s) (H := H) (v := H a) np
      rw [h2, hf', F_X0_mostLeft, shr_ap hr]
      have hrec := ih f' (a + 1) (by omega) (by omega)
      rw [mxl, if_pos c] at hrec
      by_cases c2 : mxl s np H a < cnt s H (H a) np
      · rw [if_pos c2] at hrec
        simp (disch := omega) only [↓reduceIte, ↓shl_ap, shb_ap, shv_ap, zI_lit, zL_lit, nI_z, lN_z, ofN_z, zI_add, zI_sub, zI_mul, zI_neg, zL_add, zL_sub, zL_mul, zL_neg, zI_l, zI_cl, zI_le_t, zI_le_f, zI_lt_t, zI_lt_f, zI_eq_t, zI_eq_f, zI_in_t, zz_isIn_t, zz_isIn_f, not_true_eq_false, not_false_eq_true, true_or, or_true, false_or, or_false, true_and, and_true, false_and, and_false, Nat.reduceLeDiff, Int.reduceAdd, Int.reduceSub, Int.reduceMul, Int.reduceNeg, Int.reduceToNat, Nat.reduceAdd, Nat.reduceMul, Nat.reduceSub, Int.toNat_natCast, hr, shr_ap hr, shp ht, e3, zN_le_t, zN_le_f]
        exact hrec
      · rw [if_neg c2] at hrec
        simp (disch := omega) only [↓reduceIte, ↓shl_ap, shb_ap, shv_ap, zI_lit, zL_lit, nI_z, lN_z, ofN_z, zI_add, zI_sub, zI_mul, zI_neg, zL_add, zL_sub, zL_mul, zL_neg, zI_l, zI_cl, zI_le_t, zI_le_f, zI_lt_t, zI_lt_f, zI_eq_t, zI_eq_f, zI_in_t, zz_isIn_t, zz_isIn_f, not_true_eq_false, not_false_eq_true, true_or, or_true, false_or, or_false, true_and, and_true, false_and, and_false, Nat.reduceLeDiff, Int.reduceAdd, Int.reduceSub, Int.reduceMul, Int.reduceNeg, Int.reduceToNat, Nat.reduceAdd, Nat.reduceMul, Nat.reduceSub, Int.toNat_natCast, hr, shr_ap hr, shp ht, e3, zN_le_t, zN_le_f]
        exact hrec
    · have c0 : s / 2 ^ a % 2 = 0 := by omega
      have bA := zI_bit (k := s) (t := a) hs (by omega)
      rw [c0] at bA
      have bA' : (zI s >>> zI a) &&& zI 1 = zI 0 := bA
      have hrec := ih f (a + 1) (by omega) (by omega)
      rw [mxl, if_neg c] at hrec
      rw [F_X0_mostLeft, shr_ap hr]
      simp (disch := omega) only [↓reduceIte, ↓shl_ap, shb_ap, shv_ap, zI_lit, zL_lit, nI_z, lN_z, ofN_z, zI_add, zI_sub, zI_mul, zI_neg, zL_add, zL_sub, zL_mul, zL_neg, zI_l, zI_cl, zI_le_t, zI_le_f, zI_lt_t, zI_lt_f, zI_eq_t, zI_eq_f, zI_in_t, zz_isIn_t, zz_isIn_f, not_true_eq_false, not_false_eq_true, true_or, or_true, false_or, or_false, true_and, and_true, false_and, and_false, Nat.reduceLeDiff, Int.reduceAdd, Int.reduceSub, Int.reduceMul, Int.reduceNeg, Int.reduceToNat, Nat.reduceAdd, Nat.reduceMul, Nat.reduceSub, Int.toNat_natCast, hr, shr_ap hr, shp ht, e3, zI_and31, bA', zN_le_t, zN_le_f]
      exact hrec
theorem rf_ma2 {m : sh_Mem} {a mx D : Nat} (hn : np = sp_np P) (hn7 : np ≤ 7) (hM : sm_mP m P) (e74 : sh_i m 291 74 = zI s) (hs : s < 128) (hD : D < 1519) (hH : ∀ p, p < np → H p ≤ 99 ∧ sh_i m 339 (1519 * p + D) = zI (H p)) (ha : a < np) (hmx : mx ≤ 7) : ∀ (g f b : Nat), b + g = np → g < f → F_X12_mostAlike f 2 (zI D) (zI mx) (zI a) (zI (cnt s H (H a) b)) (zI b) m = F_X12_mostAlike (f - g) 2 (zI D) (zI mx) (zI a) (zI (cnt s H (H a) np)) (zI np) m := by
  have hpm := rf_personMany hM
  rw [← hn] at hpm
  intro g
  induction g with
  | zero =>
    intro f b hb hf
    have : b = np := by omega
    subst this
    rfl
  | succ g ih =>
    intro f b hb hf
    obtain ⟨f, rfl⟩ : ∃ q, f = q + 1 := ⟨f - 1, by omega⟩
    have hrec := ih f (b + 1) (by omega) (by omega)
    have bB := zI_bit (k := s) (t := b) hs (by omega)
    obtain ⟨x1, x2⟩ := hH a ha
    obtain ⟨y1, y2⟩ := hH b (by omega)
    have hcl := cnt_le (s := s) (H := H) (v := H a) b
    rw [show f + 1 - (g + 1) = f - g by omega, ← hrec, F_X12_mostAlike, cnt, hpm]
    by_cases c1 : s / 2 ^ b % 2 = 1
    · rw [c1] at bB
      have bB' : (zI s >>> zI b) &&& zI 1 = zI 1 := bB
      by_cases c2 : H b = H a
      · rw [if_pos ⟨c1, c2⟩]
        simp (disch := omega) only [↓reduceIte, ↓shl_ap, shb_ap, shv_ap, zI_lit, zL_lit, nI_z, lN_z, ofN_z, zI_add, zI_sub, zI_mul, zI_neg, zL_add, zL_sub, zL_mul, zL_neg, zI_l, zI_cl, zI_le_t, zI_le_f, zI_lt_t, zI_lt_f, zI_eq_t, zI_eq_f, zI_in_t, zz_isIn_t, zz_isIn_f, not_true_eq_false, not_false_eq_true, true_or, or_true, false_or, or_false, true_and, and_true, false_and, and_false, Nat.reduceLeDiff, Int.reduceAdd, Int.reduceSub, Int.reduceMul, Int.reduceNeg, Int.reduceToNat, Nat.reduceAdd, Nat.reduceMul, Nat.reduceSub, Int.toNat_natCast, e74, zI_and31, bB', show (1519 * (a : Int) + D).toNat = 1519 * a + D by omega, show (1519 * (b : Int) + D).toNat = 1519 * b + D by omega, x2, y2, zN_le_t, zN_le_f]
        rfl
      · rw [if_neg (fun z => c2 z.2)]
        simp (disch := omega) only [↓reduceIte, ↓shl_ap, shb_ap, shv_ap, zI_lit, zL_lit, nI_z, lN_z, ofN_z, zI_add, zI_sub, zI_mul, zI_neg, zL_add, zL_sub, zL_mul, zL_neg, zI_l, zI_cl, zI_le_t, zI_le_f, zI_lt_t, zI_lt_f, zI_eq_t, zI_eq_f, zI_in_t, zz_isIn_t, zz_isIn_f, not_true_eq_false, not_false_eq_true, true_or, or_true, false_or, or_false, true_and, and_true, false_and, and_false, Nat.reduceLeDiff, Int.reduceAdd, Int.reduceSub, Int.reduceMul, Int.reduceNeg, Int.reduceToNat, Nat.reduceAdd, Nat.reduceMul, Nat.reduceSub, Int.toNat_natCast, e74, zI_and31, bB', show (1519 * (a : Int) + D).toNat = 1519 * a + D by omega, show (1519 * (b : Int) + D).toNat = 1519 * b + D by omega, x2, y2, zN_le_t, zN_le_f]
        rfl
    · rw [if_neg (fun z => c1 z.1)]
      have c0 : s / 2 ^ b % 2 = 0 := by omega
      rw [c0] at bB
      have bB' : (zI s >>> zI b) &&& zI 1 = zI 0 := bB
      simp (disch := omega) only [↓reduceIte, ↓shl_ap, shb_ap, shv_ap, zI_lit, zL_lit, nI_z, lN_z, ofN_z, zI_add, zI_sub, zI_mul, zI_neg, zL_add, zL_sub, zL_mul, zL_neg, zI_l, zI_cl, zI_le_t, zI_le_f, zI_lt_t, zI_lt_f, zI_eq_t, zI_eq_f, zI_in_t, zz_isIn_t, zz_isIn_f, not_true_eq_false, not_false_eq_true, true_or, or_true, false_or, or_false, true_and, and_true, false_and, and_false, Nat.reduceLeDiff, Int.reduceAdd, Int.reduceSub, Int.reduceMul, Int.reduceNeg, Int.reduceToNat, Nat.reduceAdd, Nat.reduceMul, Nat.reduceSub, Int.toNat_natCast, e74, zI_and31, bB', zN_le_t, zN_le_f]
      rfl
theorem rf_ma1 {m : sh_Mem} {D : Nat} (hn : np = sp_np P) (hn7 : np ≤ 7) (hM : sm_mP m P) (e74 : sh_i m 291 74 = zI s) (hs : s < 128) (hD : D < 1519) (hH : ∀ p, p < np → H p ≤ 99 ∧ sh_i m 339 (1519 * p + D) = zI (H p)) : ∀ (g f a : Nat), a + g = np → 10 * g + 1 < f → F_X12_mostAlike f 1 (zI D) (zI (mxl s np H a)) (zI a) (zI 0) (zI 0) m = some (zI (mxl s np H np), m) := by
  have hpm := rf_personMany hM
  rw [← hn] at hpm
  intro g
  induction g with
  | zero =>
    intro f a ha hf
    obtain ⟨f, rfl⟩ : ∃ q, f = q + 1 := ⟨f - 1, by omega⟩
    have : a = np := by omega
    subst this
    rw [F_X12_mostAlike, hpm]
    simp (disch := omega) only [↓reduceIte, ↓shl_ap, shb_ap, shv_ap, zI_lit, zL_lit, nI_z, lN_z, ofN_z, zI_add, zI_sub, zI_mul, zI_neg, zL_add, zL_sub, zL_mul, zL_neg, zI_l, zI_cl, zI_le_t, zI_le_f, zI_lt_t, zI_lt_f, zI_eq_t, zI_eq_f, zI_in_t, zz_isIn_t, zz_isIn_f, not_true_eq_false, not_false_eq_true, true_or, or_true, false_or, or_false, true_and, and_true, false_and, and_false, Nat.reduceLeDiff, Int.reduceAdd, Int.reduceSub, Int.reduceMul, Int.reduceNeg, Int.reduceToNat, Nat.reduceAdd, Nat.reduceMul, Nat.reduceSub, Int.toNat_natCast, zN_le_t, zN_le_f]
  | succ g ih =>
    intro f a ha hf
    obtain ⟨f, rfl⟩ : ∃ q, f = q + 1 := ⟨f - 1, by omega⟩
    have hml := mxl_le (s := s) (np := np) (H := H) a
    have bA := zI_bit (k := s) (t := a) hs (by omega)
    by_cases c : s / 2 ^ a % 2 = 1
    · rw [c] at bA
      have bA' : (zI s >>> zI a) &&& zI 1 = zI 1 := bA
      have h1 : F_X12_mostAlike (f + 1) 1 (zI D) (zI (mxl s np H a)) (zI a) (zI 0) (zI 0) m = F_X12_mostAlike f 2 (zI D) (zI (mxl s np H a)) (zI a) (zI 0) (zI 0) m := by
        rw [F_X12_mostAlike, hpm]
        simp (disch := omega) only [↓reduceIte, ↓shl_ap, shb_ap, shv_ap, zI_lit, zL_lit, nI_z, lN_z, ofN_z, zI_add, zI_sub, zI_mul, zI_neg, zL_add, zL_sub, zL_mul, zL_neg, zI_l, zI_cl, zI_le_t, zI_le_f, zI_lt_t, zI_lt_f, zI_eq_t, zI_eq_f, zI_in_t, zz_isIn_t, zz_isIn_f, not_true_eq_false, not_false_eq_true, true_or, or_true, false_or, or_false, true_and, and_true, false_and, and_false, Nat.reduceLeDiff, Int.reduceAdd, Int.reduceSub, Int.reduceMul, Int.reduceNeg, Int.reduceToNat, Nat.reduceAdd, Nat.reduceMul, Nat.reduceSub, Int.toNat_natCast, e74, zI_and31, bA', zN_le_t, zN_le_f]
      have h2 := rf_ma2 (a := a) (mx := mxl s np H a) hn hn7 hM e74 hs hD hH (by omega) (by omega) np f 0 (by omega) (by omega)
      have h2 : F_X12_mostAlike f 2 (zI D) (zI (mxl s np H a)) (zI a) (zI 0) (zI 0) m = _ := h2
      obtain ⟨f', hf'⟩ : ∃ q, f - np = q + 1 := ⟨f - np - 1, by omega⟩
      have hcl := cnt_le (s := s) (H := H) (v := H a) np
      rw [h1, h2, hf', F_X12_mostAlike, hpm]
      have hrec := ih f' (a + 1) (by omega) (by omega)
      rw [mxl, if_pos c] at hrec
      by_cases c2 : mxl s np H a < cnt s H (H a) np
      · rw [if_pos c2] at hrec
        simp (disch := omega) only [↓reduceIte, ↓shl_ap, shb_ap, shv_ap, zI_lit, zL_lit, nI_z, lN_z, ofN_z, zI_add, zI_sub, zI_mul, zI_neg, zL_add, zL_sub, zL_mul, zL_neg, zI_l, zI_cl, zI_le_t, zI_le_f, zI_lt_t, zI_lt_f, zI_eq_t, zI_eq_f, zI_in_t, zz_isIn_t, zz_isIn_f, not_true_eq_false, not_false_eq_true, true_or, or_true, false_or, or_false, true_and, and_true, false_and, and_false, Nat.reduceLeDiff, Int.reduceAdd, Int.reduceSub, Int.reduceMul, Int.reduceNeg, Int.reduceToNat, Nat.reduceAdd, Nat.reduceMul, Nat.reduceSub, Int.toNat_natCast, zN_le_t, zN_le_f]
        exact hrec
      · rw [if_neg c2] at hrec
        simp (disch := omega) only [↓reduceIte, ↓shl_ap, shb_ap, shv_ap, zI_lit, zL_lit, nI_z, lN_z, ofN_z, zI_add, zI_sub, zI_mul, zI_neg, zL_add, zL_sub, zL_mul, zL_neg, zI_l, zI_cl, zI_le_t, zI_le_f, zI_lt_t, zI_lt_f, zI_eq_t, zI_eq_f, zI_in_t, zz_isIn_t, zz_isIn_f, not_true_eq_false, not_false_eq_true, true_or, or_true, false_or, or_false, true_and, and_true, false_and, and_false, Nat.reduceLeDiff, Int.reduceAdd, Int.reduceSub, Int.reduceMul, Int.reduceNeg, Int.reduceToNat, Nat.reduceAdd, Nat.reduceMul, Nat.reduceSub, Int.toNat_natCast, zN_le_t, zN_le_f]
        exact hrec
    · have c0 : s / 2 ^ a % 2 = 0 := by omega
      rw [c0] at bA
      have bA' : (zI s >>> zI a) &&& zI 1 = zI 0 := bA
      have hrec := ih f (a + 1) (by omega) (by omega)
      rw [mxl, if_neg c] at hrec
      rw [F_X12_mostAlike, hpm]
      simp (disch := omega) only [↓reduceIte, ↓shl_ap, shb_ap, shv_ap, zI_lit, zL_lit, nI_z, lN_z, ofN_z, zI_add, zI_sub, zI_mul, zI_neg, zL_add, zL_sub, zL_mul, zL_neg, zI_l, zI_cl, zI_le_t, zI_le_f, zI_lt_t, zI_lt_f, zI_eq_t, zI_eq_f, zI_in_t, zz_isIn_t, zz_isIn_f, not_true_eq_false, not_false_eq_true, true_or, or_true, false_or, or_false, true_and, and_true, false_and, and_false, Nat.reduceLeDiff, Int.reduceAdd, Int.reduceSub, Int.reduceMul, Int.reduceNeg, Int.reduceToNat, Nat.reduceAdd, Nat.reduceMul, Nat.reduceSub, Int.toNat_natCast, e74, zI_and31, bA', zN_le_t, zN_le_f]
      exact hrec
end Tl
abbrev tS : Type := Nat × Nat × Nat
def stp (M : Nat → Nat → Nat) (d k : Nat) (s : tS) : tS := if M d k < s.2.2 then (d, k, M d k) else s
def rowf (M : Nat → Nat → Nat) (d : Nat) : Nat → Nat → tS → tS
  | 0, _, s => s
  | g + 1, k, s => rowf M d g (k + 1) (stp M d k s)
def allf (M : Nat → Nat → Nat) (n : Nat) : Nat → Nat → tS → tS
  | 0, _, s => s
  | g + 1, d, s => allf M n g (d + 1) (rowf M d n 0 s)
theorem rowf_id {M : Nat → Nat → Nat} {d : Nat} (hM : ∀ d k, 1 ≤ M d k) : ∀ (g k : Nat) (s : tS), s.2.2 ≤ 1 → rowf M d g k s = s
  | 0, _, _, _ => rfl
  | g + 1, k, s, h => by
    have := hM d k
    have e : stp M d k s = s := if_neg (by omega)
    rw [rowf, e]
    exact rowf_id hM g (k + 1) s h
theorem allf_id {M : Nat → Nat → Nat} {n : Nat} (hM : ∀ d k, 1 ≤ M d k) : ∀ (g d : Nat) (s : tS), s.2.2 ≤ 1 → allf M n g d s = s
  | 0, _, _, _ => rfl
  | g + 1, d, s, h => by
    rw [allf, rowf_id hM n 0 s h]
    exact allf_id hM g (d + 1) s h
/-- states that can be: a day, a cell, how few -/
def tok (n : Nat) (s : tS) : Prop := s.1 ≤ 30 ∧ s.2.1 < n ∧ s.2.2 ≤ 8
theorem stp_ok {M : Nat → Nat → Nat} {n d k : Nat} {s : tS} (hM : ∀ d k, M d k ≤ 7) (hd : d ≤ 30) (hk : k < n) (h : tok n s) : tok n (stp M d k s) := by
  unfold stp
  split
  · exact ⟨hd, hk, by have := hM d k; show M d k ≤ 8; omega⟩
  · exact h
theorem rowf_ok {M : Nat → Nat → Nat} {n d : Nat} (hM : ∀ d k, M d k ≤ 7) (hd : d ≤ 30) : ∀ (g k : Nat) (s : tS), k + g ≤ n → tok n s → tok n (rowf M d g k s)
  | 0, _, _, _, h => h
  | g + 1, k, s, hk, h => rowf_ok hM hd g (k + 1) _ (by omega) (stp_ok hM hd (by omega) h)
theorem allf_ok {M : Nat → Nat → Nat} {n : Nat} (hM : ∀ d k, M d k ≤ 7) : ∀ (g d : Nat) (s : tS), d + g ≤ 31 → tok n s → tok n (allf M n g d s)
  | 0, _, _, _, h => h
  | g + 1, d, s, hd, h => allf_ok hM g (d + 1) _ (by omega) (rowf_ok hM (by omega) n 0 s (by omega) h)
section Tm
variable {t q s : Nat} {P : sp_T} {L : sl_T}
/-- how many are left at the most, day by day and cell by cell -/
def tM (P : sp_T) (L : sl_T) (q s : Nat) (d k : Nat) : Nat := mxl s (sp_np P) (fun p => sl_h (wL P L q p d) k) (sp_np P)
theorem tM_7 (hk : sp_ok P) (d k : Nat) : tM P L q s d k ≤ 7 := Nat.le_trans (mxl_le _) (sp_bd hk).2.2.2.1
theorem tM_1 {p : Nat} (hp : p < sp_np P) (hb : s / 2 ^ p % 2 = 1) (d k : Nat) : 1 ≤ tM P L q s d k := mxl_pos hp hb _ hp
def nT (t a k : Nat) : Prop := nW t a k ∨ (a = 208 ∧ 6 ≤ k ∧ k ≤ 8)
theorem nT_qA {r k : Nat} (ht : sh_isP t) (h : nT t r k) : qA r k := by
  rcases h with h | h
  · exact nW_qA ht h
  · refine ⟨by omega, ?_⟩; unfold sm_A sm_S; omega
theorem nT_cw {μ μ' : sh_Mem} (hf : sh_fr (nT t) μ μ') (hw : cw μ t P) : cw μ' t P := by
  have ht := hw.2.1
  exact hw.cg hf.1 (fun j hj h7 h10 => hf.row _ (fun k => by rcases ht with rfl | rfl <;> (unfold nT nW; omega)))
def tmem (μ : sh_Mem) (st : tS) : Prop := sh_i μ 208 6 = zI st.1 ∧ sh_i μ 208 7 = zI st.2.1 ∧ sh_i μ 208 8 = zI st.2.2
theorem cl_tl2 {i2 : Int32} {d : Nat} (hd : d ≤ 30) (hl : sl_in P L) (hs : s < 128) : ∀ (g f k : Nat) (st : tS) (μ : sh_Mem), k + g = sp_c P * sp_r P → g < f → cw μ t P → (∀ p, p < sp_np P → sm_cL μ (218 + 6 * p) P (wL P L q p d)) → tmem μ st → tok (sp_c P * sp_r P) st → ∃ μ', F_X0_findTelling f 2 49 i2 (zI s) (zI d) (zI k) μ = F_X0_findTelling (f - g - 1) 3 49 i2 (zI s) (zI d) (zI 0) μ' ∧ sh_fr (fun a k => a = 208 ∧ 6 ≤ k ∧ k ≤ 8) μ μ' ∧ tmem μ' (rowf (tM P L q s) d g k st) := by
  intro g
  induction g with
  | zero =>
    intro f k st μ hg hf hw hO hm hok
    obtain ⟨f, rfl⟩ : ∃ q, f = q + 1 := ⟨f - 1, by omega⟩
    obtain ⟨w1, w2, w3, w4⟩ := id hw
    have hcs := sp_cells w4
    have hk : k = sp_c P * sp_r P := by omega
    subst hk
    refine ⟨μ, ?_, sh_fr.rf, hm⟩
    rw [show f + 1 - 0 - 1 = f by omega, F_X0_findTelling, shr_ap w1]
    simp (disch := omega) only [↓reduceIte, ↓shl_ap, shb_ap, shv_ap, zI_lit, zL_lit, nI_z, lN_z, ofN_z, zI_add, zI_sub, zI_mul, zI_neg, zL_add, zL_sub, zL_mul, zL_neg, zI_l, zI_cl, zI_le_t, zI_le_f, zI_lt_t, zI_lt_f, zI_eq_t, zI_eq_f, zI_in_t, zz_isIn_t, zz_isIn_f, not_true_eq_false, not_false_eq_true, true_or, or_true, false_or, or_false, true_and, and_true, false_and, and_false, Nat.reduceLeDiff, Int.reduceAdd, Int.reduceSub, Int.reduceMul, Int.reduceNeg, Int.reduceToNat, Nat.reduceAdd, Nat.reduceMul, Nat.reduceSub, Int.toNat_natCast, w1, shr_ap w1, shp w2, cl_cells w3, zN_le_t, zN_le_f]
  | succ g ih =>
    intro f k st μ hg hf hw hO hm hok
    obtain ⟨f, rfl⟩ : ∃ q, f = q + 1 := ⟨f - 1, by omega⟩
    obtain ⟨w1, w2, w3, w4⟩ := id hw
    have hb := sp_bd w4
    have hcs := sp_cells w4
    have hk : k < sp_c P * sp_r P := by omega
    have e3 : sh_i μ t 3 = zI (sp_np P) := by rw [w3.2.2.2.1, nI_z]
    have hml := cl_ml1 (s := s) (k := k) (H := fun p => sl_h (wL P L q p d) k) (show sp_np P ≤ 7 by omega) w1 w2 e3 hs (by omega) (fun p hp => ⟨(wL_in (q := q) (p := p) (d := d) hl).1 k hk, by have := (hO p hp).2.1 k hk; rw [nI_z] at this; exact this⟩) (sp_np P) sh_fuel 0 (by omega) (by rw [sh_fuel_eq]; omega)
    have hml : f_X0_mostLeft (zI s) (zI k) μ = some (zI (tM P L q s d k), μ) := hml
    have hM7 := tM_7 (L := L) (q := q) (s := s) w4 d k
    obtain ⟨m1, m2, m3⟩ := hm
    obtain ⟨o1, o2, o3⟩ := hok
    rw [rowf]
    by_cases c : tM P L q s d k < st.2.2
    · have est : stp (tM P L q s) d k st = (d, k, tM P L q s d k) := if_pos c
      have fr1 : sh_fr (fun a k => a = 208 ∧ 6 ≤ k ∧ k ≤ 8) μ (sh_setI (sh_setI (sh_setI μ 208 6 (zI d)) 208 7 (zI k)) 208 8 (zI (tM P L q s d k))) := sh_fr_I (sh_fr_I (sh_fr_I sh_fr.rf (by omega)) (by omega)) (by omega)
      rw [est]
      obtain ⟨μ', k1, k2, k3⟩ := ih f (k + 1) (d, k, tM P L q s d k) _ (by omega) (by omega) (hw.cg fr1.1 (fun j hj _ _ => fr1.row _ (fun k => by rcases w2 with rfl | rfl <;> omega))) (fun p hp => (hO p hp).cg (fun j hj => fr1.row _ (fun k => by omega))) ⟨by simp (disch := omega) only [↓reduceIte, ↓shl_ap, shb_ap, shv_ap, zI_lit, zL_lit, nI_z, lN_z, ofN_z, zI_add, zI_sub, zI_mul, zI_neg, zL_add, zL_sub, zL_mul, zL_neg, zI_l, zI_cl, zI_le_t, zI_le_f, zI_lt_t, zI_lt_f, zI_eq_t, zI_eq_f, zI_in_t, zz_isIn_t, zz_isIn_f, not_true_eq_false, not_false_eq_true, true_or, or_true, false_or, or_false, true_and, and_true, false_and, and_false, ir_set, ir_set_k, ir_set_r, ir_row, ir_row_r, sh_i_setL, sh_i_setR, sh_r_setI, sh_r_setL, sh_r_rowI, sh_l_setI, sh_l_rowI, lr_set, lr_set_k, lr_set_r, Nat.reduceLeDiff, Int.reduceAdd, Int.reduceSub, Int.reduceMul, Int.reduceNeg, Int.reduceToNat, Nat.reduceAdd, Nat.reduceMul, Nat.reduceSub, Int.toNat_natCast, zN_le_t, zN_le_f], by simp (disch := omega) only [↓reduceIte, ↓shl_ap, shb_ap, shv_ap, zI_lit, zL_lit, nI_z, lN_z, ofN_z, zI_add, zI_sub, zI_mul, zI_neg, zL_add, zL_sub, zL_mul, zL_neg, zI_l, zI_cl, zI_le_t, zI_le_f, zI_lt_t, zI_lt_f, zI_eq_t, zI_eq_f, zI_in_t, zz_isIn_t, zz_isIn_f, not_true_eq_false, not_false_eq_true, true_or, or_true, false_or, or_false, true_and, and_true, false_and, and_false, ir_set, ir_set_k, ir_set_r, ir_row, ir_row_r, sh_i_setL, sh_i_setR, sh_r_setI, sh_r_setL, sh_r_rowI, sh_l_setI, sh_l_rowI, lr_set, lr_set_k, lr_set_r, Nat.reduceLeDiff, Int.reduceAdd, Int.reduceSub, Int.reduceMul, Int.reduceNeg, Int.reduceToNat, Nat.reduceAdd, Nat.reduceMul, Nat.reduceSub, Int.toNat_natCast, zN_le_t, zN_le_f], by simp (disch := omega) only [↓reduceIte, ↓shl_ap, shb_ap, shv_ap, zI_lit, zL_lit, nI_z, lN_z, ofN_z, zI_add, zI_sub, zI_mul, zI_neg, zL_add, zL_sub, zL_mul, zL_neg, zI_l, zI_cl, zI_le_t, zI_le_f, zI_lt_t, zI_lt_f, zI_eq_t, zI_eq_f, zI_in_t, zz_isIn_t, zz_isIn_f, not_true_eq_false, not_false_eq_true, true_or, or_true, false_or, or_false, true_and, and_true, false_and, and_false, ir_set, ir_set_k, ir_set_r, ir_row, ir_row_r, sh_i_setL, sh_i_setR, sh_r_setI, sh_r_setL, sh_r_rowI, sh_l_setI, sh_l_rowI, lr_set, lr_set_k, lr_set_r, Nat.reduceLeDiff, Int.reduceAdd, Int.reduceSub, Int.reduceMul, Int.reduceNeg, Int.reduceToNat, Nat.reduceAdd, Nat.reduceMul, Nat.reduceSub, Int.toNat_natCast, zN_le_t, zN_le_f]⟩ ⟨hd, hk, by show tM P L q s d k ≤ 8; omega⟩
      refine ⟨μ', ?_, fr1.trans k2, k3⟩
      rw [show f + 1 - (g + 1) - 1 = f - g - 1 by omega, ← k1, F_X0_findTelling, shr_ap w1]
      simp (disch := omega) only [↓reduceIte, ↓shl_ap, shb_ap, shv_ap, zI_lit, zL_lit, nI_z, lN_z, ofN_z, zI_add, zI_sub, zI_mul, zI_neg, zL_add, zL_sub, zL_mul, zL_neg, zI_l, zI_cl, zI_le_t, zI_le_f, zI_lt_t, zI_lt_f, zI_eq_t, zI_eq_f, zI_in_t, zz_isIn_t, zz_isIn_f, not_true_eq_false, not_false_eq_true, true_or, or_true, false_or, or_false, true_and, and_true, false_and, and_false, Nat.reduceLeDiff, Int.reduceAdd, Int.reduceSub, Int.reduceMul, Int.reduceNeg, Int.reduceToNat, Nat.reduceAdd, Nat.reduceMul, Nat.reduceSub, Int.toNat_natCast, w1, shr_ap w1, shp w2, cl_cells w3, hml, m3, zN_le_t, zN_le_f]
      rfl
    · have est : stp (tM P L q s) d k st = st := if_neg c
      rw [est]
      obtain ⟨μ', k1, k2, k3⟩ := ih f (k + 1) st μ (by omega) (by omega) hw hO ⟨m1, m2, m3⟩ ⟨o1, o2, o3⟩
      refine ⟨μ', ?_, k2, k3⟩
      rw [show f + 1 - (g + 1) - 1 = f - g - 1 by omega, ← k1, F_X0_findTelling, shr_ap w1]
      simp (disch := omega) only [↓reduceIte, ↓shl_ap, shb_ap, shv_ap, zI_lit, zL_lit, nI_z, lN_z, ofN_z, zI_add, zI_sub, zI_mul, zI_neg, zL_add, zL_sub, zL_mul, zL_neg, zI_l, zI_cl, zI_le_t, zI_le_f, zI_lt_t, zI_lt_f, zI_eq_t, zI_eq_f, zI_in_t, zz_isIn_t, zz_isIn_f, not_true_eq_false, not_false_eq_true, true_or, or_true, false_or, or_false, true_and, and_true, false_and, and_false, Nat.reduceLeDiff, Int.reduceAdd, Int.reduceSub, Int.reduceMul, Int.reduceNeg, Int.reduceToNat, Nat.reduceAdd, Nat.reduceMul, Nat.reduceSub, Int.toNat_natCast, w1, shr_ap w1, shp w2, cl_cells w3, hml, m3, zN_le_t, zN_le_f]
      rfl
theorem cl_tl3 {i2 : Int32} {d : Nat} (hd : d ≤ 30) (hl : sl_in P L) (hd0 : sl_d L ≤ 999) : ∀ (g f p : Nat) (μ : sh_Mem), p + g = sp_np P → g < f → cw μ t P → (∀ p', p' < sp_np P → sm_cL μ (218 + 6 * p') P (wL P L q p' (if p' < p then d + 1 else d))) → ∃ μ', F_X0_findTelling f 3 49 i2 (zI s) (zI d) (zI p) μ = F_X0_findTelling (f - g - 1) 1 49 i2 (zI s) (zI ((d + 1 : Nat) : Int)) (zI 0) μ' ∧ sh_fr (nW t) μ μ' ∧ ∀ p', p' < sp_np P → sm_cL μ' (218 + 6 * p') P (wL P L q p' (d + 1)) := by
  intro g
  induction g with
  | zero =>
    intro f p μ hp hf hw hO
    obtain ⟨f, rfl⟩ : ∃ q, f = q + 1 := ⟨f - 1, by omega⟩
    obtain ⟨w1, w2, w3, w4⟩ := id hw
    have hb := sp_bd w4
    have hp : p = sp_np P := by omega
    subst hp
    refine ⟨μ, ?_, sh_fr.rf, fun p' h1 => ?_⟩
    · rw [show f + 1 - 0 - 1 = f by omega, F_X0_findTelling, shr_ap w1]
      simp (disch := omega) only [↓reduceIte, ↓shl_ap, shb_ap, shv_ap, zI_lit, zL_lit, nI_z, lN_z, ofN_z, zI_add, zI_sub, zI_mul, zI_neg, zL_add, zL_sub, zL_mul, zL_neg, zI_l, zI_cl, zI_le_t, zI_le_f, zI_lt_t, zI_lt_f, zI_eq_t, zI_eq_f, zI_in_t, zz_isIn_t, zz_isIn_f, not_true_eq_false, not_false_eq_true, true_or, or_true, false_or, or_false, true_and, and_true, false_and, and_false, Nat.reduceLeDiff, Int.reduceAdd, Int.reduceSub, Int.reduceMul, Int.reduceNeg, Int.reduceToNat, Nat.reduceAdd, Nat.reduceMul, Nat.reduceSub, Int.toNat_natCast, w1, shr_ap w1, shp w2, w3.2.2.2.1, zN_le_t, zN_le_f]
      rfl
    · have := hO p' h1
      rw [if_pos h1] at this
      exact this
  | succ g ih =>
    intro f p μ hp hf hw hO
    obtain ⟨f, rfl⟩ : ∃ q, f = q + 1 := ⟨f - 1, by omega⟩
    obtain ⟨w1, w2, w3, w4⟩ := id hw
    have hb := sp_bd w4
    have ht := sh_isP_r w2
    have hpp : p < sp_np P := by omega
    have hOp := hO p hpp
    rw [if_neg (by omega)] at hOp
    have hin := wL_in (q := q) (p := p) (d := d) hl
    have hday := wL_d (P := P) (L := L) (q := q) (p := p) (d := d)
    obtain ⟨m, b1, b2, b3, b4⟩ := cl_day (s := 0) (r := 218 + 6 * p) hw hOp hin (by omega) (by omega) (by unfold ldr; omega)
    have b1' : f_X10_passDay (218 + 6 * p) (zI 0) μ = some m := b1
    rw [← wL_s] at b2
    have f1 : sh_fr (nW t) μ m := b3.mono (fun r k z => by unfold nA at z; unfold nW; omega)
    have hO1 : ∀ p', p' < sp_np P → sm_cL m (218 + 6 * p') P (wL P L q p' (if p' < p + 1 then d + 1 else d)) := by
      intro p' h1
      by_cases z : p' = p
      · subst z; rw [if_pos (by omega)]; exact b2
      · have := hO p' h1
        have e : (if p' < p + 1 then d + 1 else d) = if p' < p then d + 1 else d := by
          by_cases y : p' < p
          · rw [if_pos y, if_pos (by omega)]
          · rw [if_neg y, if_neg (by omega)]
        rw [e]
        exact this.cg (fun j hj => b4 _ (by omega) (by omega) (by omega) (by omega) (by omega))
    obtain ⟨μ', k1, k2, k3⟩ := ih f (p + 1) m (by omega) (by omega) (nW_cw f1 hw) hO1
    refine ⟨μ', ?_, f1.trans k2, k3⟩
    rw [show f + 1 - (g + 1) - 1 = f - g - 1 by omega, ← k1, F_X0_findTelling, shr_ap w1]
    simp (disch := omega) only [↓reduceIte, ↓shl_ap, shb_ap, shv_ap, zI_lit, zL_lit, nI_z, lN_z, ofN_z, zI_add, zI_sub, zI_mul, zI_neg, zL_add, zL_sub, zL_mul, zL_neg, zI_l, zI_cl, zI_le_t, zI_le_f, zI_lt_t, zI_lt_f, zI_eq_t, zI_eq_f, zI_in_t, zz_isIn_t, zz_isIn_f, not_true_eq_false, not_false_eq_true, true_or, or_true, false_or, or_false, true_and, and_true, false_and, and_false, Nat.reduceLeDiff, Int.reduceAdd, Int.reduceSub, Int.reduceMul, Int.reduceNeg, Int.reduceToNat, Nat.reduceAdd, Nat.reduceMul, Nat.reduceSub, Int.toNat_natCast, w1, shr_ap w1, shp w2, w3.2.2.2.1, b1', zN_le_t, zN_le_f]
    rfl
theorem cl_tl1 {i2 : Int32} {nd p0 : Nat} (hl : sl_in P L) (hd0 : sl_d L ≤ 999) (hs : s < 128) (hp0 : p0 < sp_np P) (hb0 : s / 2 ^ p0 % 2 = 1) (hnd : nd = if sl_d L ≤ 969 then 31 else 1000 - sl_d L) : ∀ (g f d : Nat) (st : tS) (μ : sh_Mem), d + g = nd → 70 * g + 2 < f → cw μ t P → sm_cL μ 49 P L → (∀ p, p < sp_np P → sm_cL μ (218 + 6 * p) P (wL P L q p d)) → tmem μ st → tok (sp_c P * sp_r P) st → ∃ μ', F_X0_findTelling f 1 49 i2 (zI s) (zI d) (zI 0) μ = some μ' ∧ sh_fr (nT t) μ μ' ∧ tmem μ' (allf (tM P L q s) (sp_c P * sp_r P) g d st) := by
  intro g
  induction g with
  | zero =>
    intro f d st μ hg hf hw hc hO hm hok
    obtain ⟨f, rfl⟩ : ∃ q, f = q + 1 := ⟨f - 1, by omega⟩
    have h0 : sh_i μ 49 0 = zI (sl_d L) := by rw [hc.1, nI_z]
    refine ⟨μ, ?_, sh_fr.rf, hm⟩
    rw [F_X0_findTelling]
    by_cases c : sl_d L ≤ 969
    · rw [if_pos c] at hnd
      simp (disch := omega) only [↓reduceIte, ↓shl_ap, shb_ap, shv_ap, zI_lit, zL_lit, nI_z, lN_z, ofN_z, zI_add, zI_sub, zI_mul, zI_neg, zL_add, zL_sub, zL_mul, zL_neg, zI_l, zI_cl, zI_le_t, zI_le_f, zI_lt_t, zI_lt_f, zI_eq_t, zI_eq_f, zI_in_t, zz_isIn_t, zz_isIn_f, not_true_eq_false, not_false_eq_true, true_or, or_true, false_or, or_false, true_and, and_true, false_and, and_false, Nat.reduceLeDiff, Int.reduceAdd, Int.reduceSub, Int.reduceMul, Int.reduceNeg, Int.reduceToNat, Nat.reduceAdd, Nat.reduceMul, Nat.reduceSub, Int.toNat_natCast, zN_le_t, zN_le_f]
    · rw [if_neg c] at hnd
      by_cases c2 : 30 < d
      · simp (disch := omega) only [↓reduceIte, ↓shl_ap, shb_ap, shv_ap, zI_lit, zL_lit, nI_z, lN_z, ofN_z, zI_add, zI_sub, zI_mul, zI_neg, zL_add, zL_sub, zL_mul, zL_neg, zI_l, zI_cl, zI_le_t, zI_le_f, zI_lt_t, zI_lt_f, zI_eq_t, zI_eq_f, zI_in_t, zz_isIn_t, zz_isIn_f, not_true_eq_false, not_false_eq_true, true_or, or_true, false_or, or_false, true_and, and_true, false_and, and_false, Nat.reduceLeDiff, Int.reduceAdd, Int.reduceSub, Int.reduceMul, Int.reduceNeg, Int.reduceToNat, Nat.reduceAdd, Nat.reduceMul, Nat.reduceSub, Int.toNat_natCast, zN_le_t, zN_le_f]
      · simp (disch := omega) only [↓reduceIte, ↓shl_ap, shb_ap, shv_ap, zI_lit, zL_lit, nI_z, lN_z, ofN_z, zI_add, zI_sub, zI_mul, zI_neg, zL_add, zL_sub, zL_mul, zL_neg, zI_l, zI_cl, zI_le_t, zI_le_f, zI_lt_t, zI_lt_f, zI_eq_t, zI_eq_f, zI_in_t, zz_isIn_t, zz_isIn_f, not_true_eq_false, not_false_eq_true, true_or, or_true, false_or, or_false, true_and, and_true, false_and, and_false, Nat.reduceLeDiff, Int.reduceAdd, Int.reduceSub, Int.reduceMul, Int.reduceNeg, Int.reduceToNat, Nat.reduceAdd, Nat.reduceMul, Nat.reduceSub, Int.toNat_natCast, h0, zN_le_t, zN_le_f]
  | succ g ih =>
    intro f d st μ hg hf hw hc hO hm hok
    obtain ⟨f, rfl⟩ : ∃ q, f = q + 1 := ⟨f - 1, by omega⟩
    obtain ⟨w1, w2, w3, w4⟩ := id hw
    have hb := sp_bd w4
    have hcs := sp_cells w4
    have h0 : sh_i μ 49 0 = zI (sl_d L) := by rw [hc.1, nI_z]
    have hd30 : d ≤ 30 ∧ sl_d L + d ≤ 999 := by
      by_cases c : sl_d L ≤ 969
      · rw [if_pos c] at hnd; omega
      · rw [if_neg c] at hnd; omega
    obtain ⟨m1, m2, m3⟩ := id hm
    obtain ⟨o1, o2, o3⟩ := id hok
    by_cases c1 : st.2.2 ≤ 1
    · refine ⟨μ, ?_, sh_fr.rf, ?_⟩
      · rw [F_X0_findTelling]
        simp (disch := omega) only [↓reduceIte, ↓shl_ap, shb_ap, shv_ap, zI_lit, zL_lit, nI_z, lN_z, ofN_z, zI_add, zI_sub, zI_mul, zI_neg, zL_add, zL_sub, zL_mul, zL_neg, zI_l, zI_cl, zI_le_t, zI_le_f, zI_lt_t, zI_lt_f, zI_eq_t, zI_eq_f, zI_in_t, zz_isIn_t, zz_isIn_f, not_true_eq_false, not_false_eq_true, true_or, or_true, false_or, or_false, true_and, and_true, false_and, and_false, Nat.reduceLeDiff, Int.reduceAdd, Int.reduceSub, Int.reduceMul, Int.reduceNeg, Int.reduceToNat, Nat.reduceAdd, Nat.reduceMul, Nat.reduceSub, Int.toNat_natCast, h0, m3, zN_le_t, zN_le_f]
      · rw [allf_id (fun d k => tM_1 hp0 hb0 d k) (g + 1) d st c1]
        exact hm
    · obtain ⟨x1, a1, a2, a3⟩ := cl_tl2 (q := q) (s := s) (i2 := i2) (d := d) hd30.1 hl hs (sp_c P * sp_r P) f 0 st μ (by omega) (by omega) hw hO hm hok
      have f1 : sh_fr (nT t) μ x1 := a2.mono (fun r k z => Or.inr z)
      have hw1 := nT_cw f1 hw
      obtain ⟨x2, b1, b2, b3⟩ := cl_tl3 (q := q) (s := s) (i2 := i2) (d := d) hd30.1 hl hd0 (sp_np P) (f - sp_c P * sp_r P - 1) 0 x1 (by omega) (by omega) hw1 (fun p' h1 => by rw [if_neg (by omega)]; exact (hO p' h1).cg (fun j hj => a2.row _ (fun k => by omega)))
      have f2 : sh_fr (nT t) x1 x2 := b2.mono (fun r k z => Or.inl z)
      have ht := sh_isP_r w2
      obtain ⟨μ', k1, k2, k3⟩ := ih (f - sp_c P * sp_r P - 1 - sp_np P - 1) (d + 1) (rowf (tM P L q s) d (sp_c P * sp_r P) 0 st) x2 (by omega) (by omega) (nW_cw b2 hw1) (nW_49 w2 b2 (hc.cg (fun j hj => a2.row _ (fun k => by omega)))) b3 ⟨(b2.i _ _ (by unfold nW; omega)).trans a3.1, (b2.i _ _ (by unfold nW; omega)).trans a3.2.1, (b2.i _ _ (by unfold nW; omega)).trans a3.2.2⟩ (rowf_ok (fun d k => tM_7 w4 d k) hd30.1 (sp_c P * sp_r P) 0 st (by omega) hok)
      refine ⟨μ', ?_, f1.trans (f2.trans k2), by rw [allf]; exact k3⟩
      have a1' : F_X0_findTelling f 2 49 i2 (zI s) (zI d) (zI 0) μ = _ := a1
      have b1' : F_X0_findTelling (f - sp_c P * sp_r P - 1) 3 49 i2 (zI s) (zI d) (zI 0) x1 = _ := b1
      rw [← k1, ← b1', ← a1', F_X0_findTelling]
      simp (disch := omega) only [↓reduceIte, ↓shl_ap, shb_ap, shv_ap, zI_lit, zL_lit, nI_z, lN_z, ofN_z, zI_add, zI_sub, zI_mul, zI_neg, zL_add, zL_sub, zL_mul, zL_neg, zI_l, zI_cl, zI_le_t, zI_le_f, zI_lt_t, zI_lt_f, zI_eq_t, zI_eq_f, zI_in_t, zz_isIn_t, zz_isIn_f, not_true_eq_false, not_false_eq_true, true_or, or_true, false_or, or_false, true_and, and_true, false_and, and_false, Nat.reduceLeDiff, Int.reduceAdd, Int.reduceSub, Int.reduceMul, Int.reduceNeg, Int.reduceToNat, Nat.reduceAdd, Nat.reduceMul, Nat.reduceSub, Int.toNat_natCast, h0, m3, zN_le_t, zN_le_f]
theorem cl_find {μ : sh_Mem} {p0 : Nat} (hw : cw μ t P) (hc : sm_cL μ 49 P L) (hl : sl_in P L) (hd0 : sl_d L ≤ 999) (hq : q < sp_nt P) (hs : s < 128) (hp0 : p0 < sp_np P) (hb0 : s / 2 ^ p0 % 2 = 1) : ∃ μ', f_X0_findTelling 49 (zI q) (zI s) μ = some μ' ∧ sh_fr (nT t) μ μ' ∧ tmem μ' (allf (tM P L q s) (sp_c P * sp_r P) (if sl_d L ≤ 969 then 31 else 1000 - sl_d L) 0 (0, 0, 8)) := by
  obtain ⟨w1, w2, w3, w4⟩ := id hw
  have hb := sp_bd w4
  have hcs := sp_cells w4
  have hpos := sp_pos w4 hp0
  have hnn : 0 < sp_c P * sp_r P := Nat.mul_pos (by omega) (by omega)
  have fr0 : sh_fr (nT t) μ (sh_setI (sh_setI (sh_setI μ 208 6 (zI 0)) 208 7 (zI 0)) 208 8 (zI 8)) := sh_fr_I (sh_fr_I (sh_fr_I sh_fr.rf (by unfold nT; omega)) (by unfold nT; omega)) (by unfold nT; omega)
  have hw0 := nT_cw fr0 hw
  have hc0 : sm_cL (sh_setI (sh_setI (sh_setI μ 208 6 (zI 0)) 208 7 (zI 0)) 208 8 (zI 8)) 49 P L := hc.cg (fun j hj => by rw [ir_set_r (by omega), ir_set_r (by omega), ir_set_r (by omega)])
  obtain ⟨m, a1, a2, a3⟩ := cl_each (q := q) hl hd0 hq (sp_np P) sh_fuel 0 _ (by omega) (by rw [sh_fuel_eq]; omega) hw0 hc0 (fun p' h1 => by omega)
  have ht := sh_isP_r w2
  obtain ⟨μ', k1, k2, k3⟩ := cl_tl1 (t := t) (q := q) (s := s) (i2 := zI q) (nd := if sl_d L ≤ 969 then 31 else 1000 - sl_d L) hl hd0 hs hp0 hb0 rfl (if sl_d L ≤ 969 then 31 else 1000 - sl_d L) sh_fuel 0 (0, 0, 8) m (by omega) (by rw [sh_fuel_eq]; split <;> omega) (nW_cw a2 hw0) (nW_49 w2 a2 hc0) a3 ⟨by rw [a2.i _ _ (by unfold nW; omega)]; simp (disch := omega) only [↓reduceIte, ↓shl_ap, shb_ap, shv_ap, zI_lit, zL_lit, nI_z, lN_z, ofN_z, zI_add, zI_sub, zI_mul, zI_neg, zL_add, zL_sub, zL_mul, zL_neg, zI_l, zI_cl, zI_le_t, zI_le_f, zI_lt_t, zI_lt_f, zI_eq_t, zI_eq_f, zI_in_t, zz_isIn_t, zz_isIn_f, not_true_eq_false, not_false_eq_true, true_or, or_true, false_or, or_false, true_and, and_true, false_and, and_false, ir_set, ir_set_k, ir_set_r, ir_row, ir_row_r, sh_i_setL, sh_i_setR, sh_r_setI, sh_r_setL, sh_r_rowI, sh_l_setI, sh_l_rowI, lr_set, lr_set_k, lr_set_r, Nat.reduceLeDiff, Int.reduceAdd, Int.reduceSub, Int.reduceMul, Int.reduceNeg, Int.reduceToNat, Nat.reduceAdd, Nat.reduceMul, Nat.reduceSub, Int.toNat_natCast, zN_le_t, zN_le_f], by rw [a2.i _ _ (by unfold nW; omega)]; simp (disch := omega) only [↓reduceIte, ↓shl_ap, shb_ap, shv_ap, zI_lit, zL_lit, nI_z, lN_z, ofN_z, zI_add, zI_sub, zI_mul, zI_neg, zL_add, zL_sub, zL_mul, zL_neg, zI_l, zI_cl, zI_le_t, zI_le_f, zI_lt_t, zI_lt_f, zI_eq_t, zI_eq_f, zI_in_t, zz_isIn_t, zz_isIn_f, not_true_eq_false, not_false_eq_true, true_or, or_true, false_or, or_false, true_and, and_true, false_and, and_false, ir_set, ir_set_k, ir_set_r, ir_row, ir_row_r, sh_i_setL, sh_i_setR, sh_r_setI, sh_r_setL, sh_r_rowI, sh_l_setI, sh_l_rowI, lr_set, lr_set_k, lr_set_r, Nat.reduceLeDiff, Int.reduceAdd, Int.reduceSub, Int.reduceMul, Int.reduceNeg, Int.reduceToNat, Nat.reduceAdd, Nat.reduceMul, Nat.reduceSub, Int.toNat_natCast, zN_le_t, zN_le_f], by rw [a2.i _ _ (by unfold nW; omega)]; simp (disch := omega) only [↓reduceIte, ↓shl_ap, shb_ap, shv_ap, zI_lit, zL_lit, nI_z, lN_z, ofN_z, zI_add, zI_sub, zI_mul, zI_neg, zL_add, zL_sub, zL_mul, zL_neg, zI_l, zI_cl, zI_le_t, zI_le_f, zI_lt_t, zI_lt_f, zI_eq_t, zI_eq_f, zI_in_t, zz_isIn_t, zz_isIn_f, not_true_eq_false, not_false_eq_true, true_or, or_true, false_or, or_false, true_and, and_true, false_and, and_false, ir_set, ir_set_k, ir_set_r, ir_row, ir_row_r, sh_i_setL, sh_i_setR, sh_r_setI, sh_r_setL, sh_r_rowI, sh_l_setI, sh_l_rowI, lr_set, lr_set_k, lr_set_r, Nat.reduceLeDiff, Int.reduceAdd, Int.reduceSub, Int.reduceMul, Int.reduceNeg, Int.reduceToNat, Nat.reduceAdd, Nat.reduceMul, Nat.reduceSub, Int.toNat_natCast, zN_le_t, zN_le_f]⟩ ⟨by omega, hnn, by show (8 : Nat) ≤ 8; omega⟩
  refine ⟨μ', ?_, fr0.trans ((a2.mono (fun r k z => Or.inl z)).trans k2), k3⟩
  have a1' : f_X0_askEach 49 (zI q) (sh_setI (sh_setI (sh_setI μ 208 6 0) 208 7 0) 208 8 8) = some m := a1
  unfold f_X0_findTelling
  rw [shl_ap, shl_ap, shl_ap, a1', shv_ap]
  exact k1
end Tm
