/-! the fewest: rest -/
def isB (Q : Nat → Prop) (N : Nat) (v : Int) : Prop := (v = -1 ∧ ∀ s, s < N → ¬ Q s) ∨ ∃ s : Nat, s < N ∧ v = s ∧ Q s ∧ ∀ s', s' < N → Q s' → pc s < pc s' ∨ (pc s = pc s' ∧ s ≤ s')
theorem isB_u {Q : Nat → Prop} {N : Nat} {v v' : Int} (h : isB Q N v) (h' : isB Q N v') : v = v' := by
  rcases h with ⟨a, b⟩ | ⟨s, a1, a2, a3, a4⟩
  · rcases h' with ⟨c, d⟩ | ⟨s', c1, c2, c3, c4⟩
    · rw [a, c]
    · exact absurd c3 (b s' c1)
  · rcases h' with ⟨c, d⟩ | ⟨s', c1, c2, c3, c4⟩
    · exact absurd a3 (d s a1)
    · have q1 := a4 s' c1 c3
      have q2 := c4 s a1 a3
      omega
theorem pc_np {n s : Nat} (hn : n ≤ 7) (hs : s < 2 ^ n) : pc s ≤ n := by
  have h : ∀ n : Nat, n < 8 → ∀ s : Nat, s < 128 → s < 2 ^ n → pc s ≤ n := by decide +kernel
  exact h n (by omega) s (Nat.lt_of_lt_of_le hs (Nat.le_trans (Nat.pow_le_pow_right (by omega) hn) (by decide))) hs
theorem pw128 {n : Nat} (hn : n ≤ 7) : 2 ^ n ≤ 128 := Nat.le_trans (Nat.pow_le_pow_right (by omega) hn) (by decide)
theorem flip_lt {n s p : Nat} (hs : s < 2 ^ n) (hp : p < n) : s ^^^ 2 ^ p < 2 ^ n := Nat.xor_lt_two_pow hs (Nat.pow_lt_pow_right (by omega) hp)
/-- the sets of those below s: what the reference keeps -/
theorem isB_0 {Q : Nat → Prop} : isB Q 0 (-1) := Or.inl ⟨rfl, fun s h => by omega⟩
theorem isB_no {Q : Nat → Prop} {N : Nat} {b : Int} (h : isB Q N b) (hn : ¬ Q N) : isB Q (N + 1) b := by
  rcases h with ⟨a, c⟩ | ⟨s, a1, a2, a3, a4⟩
  · refine Or.inl ⟨a, fun s hs => ?_⟩
    by_cases z : s = N
    · subst z; exact hn
    · exact c s (by omega)
  · refine Or.inr ⟨s, by omega, a2, a3, fun s' h1 h2 => ?_⟩
    by_cases z : s' = N
    · subst z; exact absurd h2 hn
    · exact a4 s' (by omega) h2
theorem isB_ge {Q : Nat → Prop} {N s : Nat} (h : isB Q N (s : Int)) (hp : pc s ≤ pc N) : isB Q (N + 1) (s : Int) := by
  rcases h with ⟨a, c⟩ | ⟨s0, a1, a2, a3, a4⟩
  · omega
  · have e : s = s0 := by omega
    subst e
    refine Or.inr ⟨s, by omega, rfl, a3, fun s' h1 h2 => ?_⟩
    by_cases z : s' = N
    · subst z; omega
    · exact a4 s' (by omega) h2
theorem isB_new {Q : Nat → Prop} {N : Nat} {b : Int} (h : isB Q N b) (hq : Q N) (hp : ∀ s : Nat, b = (s : Int) → pc N < pc s) : isB Q (N + 1) (N : Int) := by
  refine Or.inr ⟨N, by omega, rfl, hq, fun s' h1 h2 => ?_⟩
  by_cases z : s' = N
  · subst z; omega
  · rcases h with ⟨a, c⟩ | ⟨s0, a1, a2, a3, a4⟩
    · exact absurd h2 (c s' (by omega))
    · have q1 := hp s0 a2
      have q2 := a4 s' (by omega) h2
      omega
def qR (O : Nat → Nat → Nat) (np s : Nat) : Prop := ∀ p, 0 ≤ p → p < np → O (s ^^^ 2 ^ p) p ≤ O s p
section Rs
variable {t np : Nat} {O : Nat → Nat → Nat}
theorem cl_ar {μ : sh_Mem} (hn : np ≤ 7) (hr : sh_r μ 55 0 = some t) (ht : sh_isP t) (e3 : sh_i μ t 3 = zI np) (hO : ∀ s, s < 2 ^ np → ∀ p, p < np → O s p ≤ 99 ∧ sh_i μ 217 (s * 7 + p) = zI (O s p)) {s : Nat} (hs : s < 2 ^ np) : ∀ (g f p : Nat), p + g = np → g < f → ((∀ q, p ≤ q → q < np → O (s ^^^ 2 ^ q) q ≤ O s q) ∧ F_X0_isAtRest f 1 (zI s) (zI p) μ = some (1, μ)) ∨ (¬ (∀ q, p ≤ q → q < np → O (s ^^^ 2 ^ q) q ≤ O s q) ∧ F_X0_isAtRest f 1 (zI s) (zI p) μ = some (0, μ)) := by
  have h128 := pw128 hn
  intro g
  induction g with
  | zero =>
    intro f p hp hf
    obtain ⟨f, rfl⟩ : ∃ q, f = q + 1 := ⟨f - 1, by omega⟩
    have : p = np := by omega
    subst this
    refine Or.inl ⟨fun q h1 h2 => by omega, ?_⟩
    rw [F_X0_isAtRest, shr_ap hr]
    simp (disch := omega) only [↓reduceIte, ↓shl_ap, shb_ap, shv_ap, zI_lit, zL_lit, nI_z, lN_z, ofN_z, zI_add, zI_sub, zI_mul, zI_neg, zL_add, zL_sub, zL_mul, zL_neg, zI_l, zI_cl, zI_le_t, zI_le_f, zI_lt_t, zI_lt_f, zI_eq_t, zI_eq_f, zI_in_t, zz_isIn_t, zz_isIn_f, not_true_eq_false, not_false_eq_true, true_or, or_true, false_or, or_false, true_and, and_true, false_and, and_false, Nat.reduceLeDiff, Int.reduceAdd, Int.reduceSub, Int.reduceMul, Int.reduceNeg, Int.reduceToNat, Nat.reduceAdd, Nat.reduceMul, Nat.reduceSub, Int.toNat_natCast, hr, shr_ap hr, shp ht, e3, zN_le_t, zN_le_f]
  | succ g ih =>
    intro f p hp hf
    obtain ⟨f, rfl⟩ : ∃ q, f = q + 1 := ⟨f - 1, by omega⟩
    have hw := flip_lt hs (show p < np by omega)
    obtain ⟨a1, a2⟩ := hO s hs p (by omega)
    obtain ⟨b1, b2⟩ := hO _ hw p (by omega)
    have hfl := zI_flip (k := s) (t := p) (by omega) (by omega)
    generalize hx : s ^^^ 2 ^ p = w at *
    by_cases c : O w p ≤ O s p
    · have hs1 : F_X0_isAtRest (f + 1) 1 (zI s) (zI p) μ = F_X0_isAtRest f 1 (zI s) (zI ((p + 1 : Nat) : Int)) μ := by
        rw [F_X0_isAtRest, shr_ap hr]
        simp (disch := omega) only [↓reduceIte, ↓shl_ap, shb_ap, shv_ap, zI_lit, zL_lit, nI_z, lN_z, ofN_z, zI_add, zI_sub, zI_mul, zI_neg, zL_add, zL_sub, zL_mul, zL_neg, zI_l, zI_cl, zI_le_t, zI_le_f, zI_lt_t, zI_lt_f, zI_eq_t, zI_eq_f, zI_in_t, zz_isIn_t, zz_isIn_f, not_true_eq_false, not_false_eq_true, true_or, or_true, false_or, or_false, true_and, and_true, false_and, and_false, Nat.reduceLeDiff, Int.reduceAdd, Int.reduceSub, Int.reduceMul, Int.reduceNeg, Int.reduceToNat, Nat.reduceAdd, Nat.reduceMul, Nat.reduceSub, Int.toNat_natCast, hr, shr_ap hr, shp ht, e3, zI_and31, hfl, show ((w : Int) * 7 + p).toNat = w * 7 + p by omega, show ((s : Int) * 7 + p).toNat = s * 7 + p by omega, a2, b2, zN_le_t, zN_le_f]
        rfl
      rw [hs1]
      rcases ih f (p + 1) (by omega) (by omega) with ⟨q1, q2⟩ | ⟨q1, q2⟩
      · refine Or.inl ⟨fun q h1 h2 => ?_, q2⟩
        by_cases z : q = p
        · subst z; rw [hx]; exact c
        · exact q1 q (by omega) h2
      · exact Or.inr ⟨fun z => q1 (fun q h1 h2 => z q (by omega) h2), q2⟩
    · refine Or.inr ⟨fun z => c (by have := z p (by omega) (by omega); rw [hx] at this; exact this), ?_⟩
      rw [F_X0_isAtRest, shr_ap hr]
      simp (disch := omega) only [↓reduceIte, ↓shl_ap, shb_ap, shv_ap, zI_lit, zL_lit, nI_z, lN_z, ofN_z, zI_add, zI_sub, zI_mul, zI_neg, zL_add, zL_sub, zL_mul, zL_neg, zI_l, zI_cl, zI_le_t, zI_le_f, zI_lt_t, zI_lt_f, zI_eq_t, zI_eq_f, zI_in_t, zz_isIn_t, zz_isIn_f, not_true_eq_false, not_false_eq_true, true_or, or_true, false_or, or_false, true_and, and_true, false_and, and_false, Nat.reduceLeDiff, Int.reduceAdd, Int.reduceSub, Int.reduceMul, Int.reduceNeg, Int.reduceToNat, Nat.reduceAdd, Nat.reduceMul, Nat.reduceSub, Int.toNat_natCast, hr, shr_ap hr, shp ht, e3, zI_and31, hfl, show ((w : Int) * 7 + p).toNat = w * 7 + p by omega, show ((s : Int) * 7 + p).toNat = s * 7 + p by omega, a2, b2, zN_le_t, zN_le_f]
theorem cl_atRest {μ : sh_Mem} (hn : np ≤ 7) (hr : sh_r μ 55 0 = some t) (ht : sh_isP t) (e3 : sh_i μ t 3 = zI np) (hO : ∀ s, s < 2 ^ np → ∀ p, p < np → O s p ≤ 99 ∧ sh_i μ 217 (s * 7 + p) = zI (O s p)) {s : Nat} (hs : s < 2 ^ np) : (qR O np s ∧ f_X0_isAtRest (zI s) μ = some (1, μ)) ∨ (¬ qR O np s ∧ f_X0_isAtRest (zI s) μ = some (0, μ)) := cl_ar hn hr ht e3 hO hs np sh_fuel 0 (by omega) (by rw [sh_fuel_eq]; omega)
theorem rf_ar {μ : sh_Mem} {P : sp_T} (hM : sm_mP μ P) (hn : np = sp_np P) (hn7 : np ≤ 7) (hO : ∀ s, s < 2 ^ np → ∀ p, p < np → O s p ≤ 99 ∧ sh_i μ 337 (7 * s + p) = zI (O s p)) {s : Nat} (hs : s < 2 ^ np) : ∀ (g f p : Nat), p + g = np → g < f → ((∀ q, p ≤ q → q < np → O (s ^^^ 2 ^ q) q ≤ O s q) ∧ F_X12_isRest f 1 (zI s) (zI p) μ = some (1, μ)) ∨ (¬ (∀ q, p ≤ q → q < np → O (s ^^^ 2 ^ q) q ≤ O s q) ∧ F_X12_isRest f 1 (zI s) (zI p) μ = some (0, μ)) := by
  have h128 := pw128 hn7
  have hpm := rf_personMany hM
  rw [← hn] at hpm
  intro g
  induction g with
  | zero =>
    intro f p hp hf
    obtain ⟨f, rfl⟩ : ∃ q, f = q + 1 := ⟨f - 1, by omega⟩
    have : p = np := by omega
    subst this
    refine Or.inl ⟨fun q h1 h2 => by omega, ?_⟩
    rw [F_X12_isRest, hpm]
    simp (disch := omega) only [↓reduceIte, ↓shl_ap, shb_ap, shv_ap, zI_lit, zL_lit, nI_z, lN_z, ofN_z, zI_add, zI_sub, zI_mul, zI_neg, zL_add, zL_sub, zL_mul, zL_neg, zI_l, zI_cl, zI_le_t, zI_le_f, zI_lt_t, zI_lt_f, zI_eq_t, zI_eq_f, zI_in_t, zz_isIn_t, zz_isIn_f, not_true_eq_false, not_false_eq_true, true_or, or_true, false_or, or_false, true_and, and_true, false_and, and_false, Nat.reduceLeDiff, Int.reduceAdd, Int.reduceSub, Int.reduceMul, Int.reduceNeg, Int.reduceToNat, Nat.reduceAdd, Nat.reduceMul, Nat.reduceSub, Int.toNat_natCast, zN_le_t, zN_le_f]
  | succ g ih =>
    intro f p hp hf
    obtain ⟨f, rfl⟩ : ∃ q, f = q + 1 := ⟨f - 1, by omega⟩
    have hw := flip_lt hs (show p < np by omega)
    obtain ⟨a1, a2⟩ := hO s hs p (by omega)
    obtain ⟨b1, b2⟩ := hO _ hw p (by omega)
    have hfl := zI_flip (k := s) (t := p) (by omega) (by omega)
    generalize hx : s ^^^ 2 ^ p = w at *
    by_cases c : O w p ≤ O s p
    · have hs1 : F_X12_isRest (f + 1) 1 (zI s) (zI p) μ = F_X12_isRest f 1 (zI s) (zI ((p + 1 : Nat) : Int)) μ := by
        rw [F_X12_isRest, hpm]
        simp (disch := omega) only [↓reduceIte, ↓shl_ap, shb_ap, shv_ap, zI_lit, zL_lit, nI_z, lN_z, ofN_z, zI_add, zI_sub, zI_mul, zI_neg, zL_add, zL_sub, zL_mul, zL_neg, zI_l, zI_cl, zI_le_t, zI_le_f, zI_lt_t, zI_lt_f, zI_eq_t, zI_eq_f, zI_in_t, zz_isIn_t, zz_isIn_f, not_true_eq_false, not_false_eq_true, true_or, or_true, false_or, or_false, true_and, and_true, false_and, and_false, Nat.reduceLeDiff, Int.reduceAdd, Int.reduceSub, Int.reduceMul, Int.reduceNeg, Int.reduceToNat, Nat.reduceAdd, Nat.reduceMul, Nat.reduceSub, Int.toNat_natCast, zI_and31, hfl, show (7 * (w : Int) + p).toNat = 7 * w + p by omega, show (7 * (s : Int) + p).toNat = 7 * s + p by omega, a2, b2, zN_le_t, zN_le_f]
        rfl
      rw [hs1]
      rcases ih f (p + 1) (by omega) (by omega) with ⟨q1, q2⟩ | ⟨q1, q2⟩
      · refine Or.inl ⟨fun q h1 h2 => ?_, q2⟩
        by_cases z : q = p
        · subst z; rw [hx]; exact c
        · exact q1 q (by omega) h2
      · exact Or.inr ⟨fun z => q1 (fun q h1 h2 => z q (by omega) h2), q2⟩
    · refine Or.inr ⟨fun z => c (by have := z p (by omega) (by omega); rw [hx] at this; exact this), ?_⟩
      rw [F_X12_isRest, hpm]
      simp (disch := omega) only [↓reduceIte, ↓shl_ap, shb_ap, shv_ap, zI_lit, zL_lit, nI_z, lN_z, ofN_z, zI_add, zI_sub, zI_mul, zI_neg, zL_add, zL_sub, zL_mul, zL_neg, zI_l, zI_cl, zI_le_t, zI_le_f, zI_lt_t, zI_lt_f, zI_eq_t, zI_eq_f, zI_in_t, zz_isIn_t, zz_isIn_f, not_true_eq_false, not_false_eq_true, true_or, or_true, false_or, or_false, true_and, and_true, false_and, and_false, Nat.reduceLeDiff, Int.reduceAdd, Int.reduceSub, Int.reduceMul, Int.reduceNeg, Int.reduceToNat, Nat.reduceAdd, Nat.reduceMul, Nat.reduceSub, Int.toNat_natCast, zI_and31, hfl, show (7 * (w : Int) + p).toNat = 7 * w + p by omega, show (7 * (s : Int) + p).toNat = 7 * s + p by omega, a2, b2, zN_le_t, zN_le_f]
theorem cl_rest3 {μ : sh_Mem} {i1 : Int32} {Q : Nat → Prop} (hn : np ≤ 7) (hr : sh_r μ 0 7 = some t) (ht : sh_isP t) (e3 : sh_i μ t 3 = zI np) (hQ : ∀ s, s < 2 ^ np → (Q s ∧ f_X0_isAtRest (zI s) μ = some (1, μ)) ∨ (¬ Q s ∧ f_X0_isAtRest (zI s) μ = some (0, μ))) {z : Nat} (hz : z ≤ 7) : ∀ (g f s : Nat), s + g = 2 ^ np → g < f → (∃ s', s ≤ s' ∧ s' < 2 ^ np ∧ pc s' = z ∧ Q s' ∧ (∀ q, s ≤ q → q < s' → ¬ (pc q = z ∧ Q q)) ∧ F_X11_rest f 3 i1 (zI z) (zI s) μ = some (zI s', μ)) ∨ ((∀ q, s ≤ q → q < 2 ^ np → ¬ (pc q = z ∧ Q q)) ∧ F_X11_rest f 3 i1 (zI z) (zI s) μ = F_X11_rest (f - g - 1) 2 i1 (zI ((z + 1 : Nat) : Int)) (zI 0) μ) := by
  have h128 := pw128 hn
  intro g
  induction g with
  | zero =>
    intro f s hs hf
    obtain ⟨f, rfl⟩ : ∃ q, f = q + 1 := ⟨f - 1, by omega⟩
    have : s = 2 ^ np := by omega
    refine Or.inr ⟨fun q h1 h2 => by omega, ?_⟩
    rw [show f + 1 - 0 - 1 = f by omega, F_X11_rest, shr_ap hr, this]
    simp (disch := omega) only [↓reduceIte, ↓shl_ap, shb_ap, shv_ap, zI_lit, zL_lit, nI_z, lN_z, ofN_z, zI_add, zI_sub, zI_mul, zI_neg, zL_add, zL_sub, zL_mul, zL_neg, zI_l, zI_cl, zI_le_t, zI_le_f, zI_lt_t, zI_lt_f, zI_eq_t, zI_eq_f, zI_in_t, zz_isIn_t, zz_isIn_f, not_true_eq_false, not_false_eq_true, true_or, or_true, false_or, or_false, true_and, and_true, false_and, and_false, Nat.reduceLeDiff, Int.reduceAdd, Int.reduceSub, Int.reduceMul, Int.reduceNeg, Int.reduceToNat, Nat.reduceAdd, Nat.reduceMul, Nat.reduceSub, Int.toNat_natCast, hr, shr_ap hr, shp ht, e3, zI_pw2, zN_le_t, zN_le_f]
    rfl
  | succ g ih =>
    intro f s hs hf
    obtain ⟨f, rfl⟩ : ∃ q, f = q + 1 := ⟨f - 1, by omega⟩
    have hpc := pc_le (n := s)
    have hsn : s < 2 ^ np := by omega
    have hstep : ¬ (pc s = z ∧ Q s) → F_X11_rest (f + 1) 3 i1 (zI z) (zI s) μ = F_X11_rest f 3 i1 (zI z) (zI ((s + 1 : Nat) : Int)) μ := by
      intro hno
      rw [F_X11_rest, shr_ap hr]
      by_cases c : pc s = z
      · rcases hQ s hsn with ⟨q, e⟩ | ⟨q, e⟩
        · exact absurd ⟨c, q⟩ hno
        · simp (disch := omega) only [↓reduceIte, ↓shl_ap, shb_ap, shv_ap, zI_lit, zL_lit, nI_z, lN_z, ofN_z, zI_add, zI_sub, zI_mul, zI_neg, zL_add, zL_sub, zL_mul, zL_neg, zI_l, zI_cl, zI_le_t, zI_le_f, zI_lt_t, zI_lt_f, zI_eq_t, zI_eq_f, zI_in_t, zz_isIn_t, zz_isIn_f, not_true_eq_false, not_false_eq_true, true_or, or_true, false_or, or_false, true_and, and_true, false_and, and_false, Nat.reduceLeDiff, Int.reduceAdd, Int.reduceSub, Int.reduceMul, Int.reduceNeg, Int.reduceToNat, Nat.reduceAdd, Nat.reduceMul, Nat.reduceSub, Int.toNat_natCast, hr, shr_ap hr, shp ht, e3, zI_pw2, cl_bits (μ := μ) (show s < 128 by omega), e, zN_le_t, zN_le_f]
          rfl
      · simp (disch := omega) only [↓reduceIte, ↓shl_ap, shb_ap, shv_ap, zI_lit, zL_lit, nI_z, lN_z, ofN_z, zI_add, zI_sub, zI_mul, zI_neg, zL_add, zL_sub, zL_mul, zL_neg, zI_l, zI_cl, zI_le_t, zI_le_f, zI_lt_t, zI_lt_f, zI_eq_t, zI_eq_f, zI_in_t, zz_isIn_t, zz_isIn_f, not_true_eq_false, not_false_eq_true, true_or, or_true, false_or, or_false, true_and, and_true, false_and, and_false, Nat.reduceLeDiff, Int.reduceAdd, Int.reduceSub, Int.reduceMul, Int.reduceNeg, Int.reduceToNat, Nat.reduceAdd, Nat.reduceMul, Nat.reduceSub, Int.toNat_natCast, hr, shr_ap hr, shp ht, e3, zI_pw2, cl_bits (μ := μ) (show s < 128 by omega), zN_le_t, zN_le_f]
        rfl
    by_cases c : pc s = z ∧ Q s
    · refine Or.inl ⟨s, Nat.le_refl _, hsn, c.1, c.2, fun q h1 h2 => by omega, ?_⟩
      rcases hQ s hsn with ⟨q, e⟩ | ⟨q, e⟩
      · obtain ⟨c1, -⟩ := c
        rw [F_X11_rest, shr_ap hr]
        simp (disch := omega) only [↓reduceIte, ↓shl_ap, shb_ap, shv_ap, zI_lit, zL_lit, nI_z, lN_z, ofN_z, zI_add, zI_sub, zI_mul, zI_neg, zL_add, zL_sub, zL_mul, zL_neg, zI_l, zI_cl, zI_le_t, zI_le_f, zI_lt_t, zI_lt_f, zI_eq_t, zI_eq_f, zI_in_t, zz_isIn_t, zz_isIn_f, not_true_eq_false, not_false_eq_true, true_or, or_true, false_or, or_false, true_and, and_true, false_and, and_false, Nat.reduceLeDiff, Int.reduceAdd, Int.reduceSub, Int.reduceMul, Int.reduceNeg, Int.reduceToNat, Nat.reduceAdd, Nat.reduceMul, Nat.reduceSub, Int.toNat_natCast, hr, shr_ap hr, shp ht, e3, zI_pw2, cl_bits (μ := μ) (show s < 128 by omega), e, zN_le_t, zN_le_f]
      · exact absurd c.2 q
    · rw [hstep c]
      rcases ih f (s + 1) (by omega) (by omega) with ⟨s', a1, a2, a3, a4, a5, a6⟩ | ⟨a1, a2⟩
      · refine Or.inl ⟨s', by omega, a2, a3, a4, fun q h1 h2 => ?_, a6⟩
        by_cases w : q = s
        · subst w; exact c
        · exact a5 q (by omega) h2
      · refine Or.inr ⟨fun q h1 h2 => ?_, by rw [show f + 1 - (g + 1) - 1 = f - g - 1 by omega]; exact a2⟩
        by_cases w : q = s
        · subst w; exact c
        · exact a1 q (by omega) h2
theorem cl_rest2 {μ : sh_Mem} {i1 : Int32} {Q : Nat → Prop} (hn : np ≤ 7) (hr : sh_r μ 0 7 = some t) (ht : sh_isP t) (e3 : sh_i μ t 3 = zI np) (hQ : ∀ s, s < 2 ^ np → (Q s ∧ f_X0_isAtRest (zI s) μ = some (1, μ)) ∨ (¬ Q s ∧ f_X0_isAtRest (zI s) μ = some (0, μ))) : ∀ (g f z : Nat), z + g = np + 1 → 140 * g + 1 < f → (∀ q, q < 2 ^ np → Q q → z ≤ pc q) → ∃ v, F_X11_rest f 2 i1 (zI z) (zI 0) μ = some (zI v, μ) ∧ isB Q (2 ^ np) v := by
  have h128 := pw128 hn
  intro g
  induction g with
  | zero =>
    intro f z hz hf hq
    obtain ⟨f, rfl⟩ : ∃ q, f = q + 1 := ⟨f - 1, by omega⟩
    have : z = np + 1 := by omega
    subst this
    refine ⟨-1, ?_, Or.inl ⟨rfl, fun s hs q => ?_⟩⟩
    · rw [F_X11_rest, shr_ap hr]
      simp (disch := omega) only [↓reduceIte, ↓shl_ap, shb_ap, shv_ap, zI_lit, zL_lit, nI_z, lN_z, ofN_z, zI_add, zI_sub, zI_mul, zI_neg, zL_add, zL_sub, zL_mul, zL_neg, zI_l, zI_cl, zI_le_t, zI_le_f, zI_lt_t, zI_lt_f, zI_eq_t, zI_eq_f, zI_in_t, zz_isIn_t, zz_isIn_f, not_true_eq_false, not_false_eq_true, true_or, or_true, false_or, or_false, true_and, and_true, false_and, and_false, Nat.reduceLeDiff, Int.reduceAdd, Int.reduceSub, Int.reduceMul, Int.reduceNeg, Int.reduceToNat, Nat.reduceAdd, Nat.reduceMul, Nat.reduceSub, Int.toNat_natCast, hr, shr_ap hr, shp ht, e3, zN_le_t, zN_le_f]
    · have := hq s hs q
      have := pc_np hn hs
      omega
  | succ g ih =>
    intro f z hz hf hq
    obtain ⟨f, rfl⟩ : ∃ q, f = q + 1 := ⟨f - 1, by omega⟩
    have hs1 : F_X11_rest (f + 1) 2 i1 (zI z) (zI 0) μ = F_X11_rest f 3 i1 (zI z) (zI ((0 : Nat) : Int)) μ := by
      rw [F_X11_rest, shr_ap hr]
      simp (disch := omega) only [↓reduceIte, ↓shl_ap, shb_ap, shv_ap, zI_lit, zL_lit, nI_z, lN_z, ofN_z, zI_add, zI_sub, zI_mul, zI_neg, zL_add, zL_sub, zL_mul, zL_neg, zI_l, zI_cl, zI_le_t, zI_le_f, zI_lt_t, zI_lt_f, zI_eq_t, zI_eq_f, zI_in_t, zz_isIn_t, zz_isIn_f, not_true_eq_false, not_false_eq_true, true_or, or_true, false_or, or_false, true_and, and_true, false_and, and_false, Nat.reduceLeDiff, Int.reduceAdd, Int.reduceSub, Int.reduceMul, Int.reduceNeg, Int.reduceToNat, Nat.reduceAdd, Nat.reduceMul, Nat.reduceSub, Int.toNat_natCast, hr, shr_ap hr, shp ht, e3, zN_le_t, zN_le_f]
      rfl
    rw [hs1]
    rcases cl_rest3 (i1 := i1) hn hr ht e3 hQ (z := z) (by omega) (2 ^ np) f 0 (by omega) (by omega) with ⟨s', a1, a2, a3, a4, a5, a6⟩ | ⟨a1, a2⟩
    · refine ⟨s', a6, Or.inr ⟨s', a2, rfl, a4, fun q h1 h2 => ?_⟩⟩
      have w1 := hq q h1 h2
      by_cases w : pc q = z
      · by_cases w2 : q < s'
        · exact absurd ⟨w, h2⟩ (a5 q (by omega) w2)
        · omega
      · omega
    · rw [a2]
      refine ih (f - 2 ^ np - 1) (z + 1) (by omega) (by omega) (fun q h1 h2 => ?_)
      have w1 := hq q h1 h2
      have w2 : ¬ pc q = z := fun w => a1 q (by omega) h1 ⟨w, h2⟩
      omega
theorem rf_rest1 {μ : sh_Mem} {P : sp_T} {i1 : Int32} {Q : Nat → Prop} (hM : sm_mP μ P) (hn : np = sp_np P) (hn7 : np ≤ 7) (hQ : ∀ s, s < 2 ^ np → (Q s ∧ f_X12_isRest (zI s) μ = some (1, μ)) ∨ (¬ Q s ∧ f_X12_isRest (zI s) μ = some (0, μ))) : ∀ (g f s : Nat) (b : Int), s + g = 2 ^ np → g < f → isB Q s b → ∃ v, F_X12_rest f 1 i1 (zI b) (zI s) μ = some (zI v, μ) ∧ isB Q (2 ^ np) v := by
  have h128 := pw128 hn7
  have hpm := rf_personMany hM
  rw [← hn] at hpm
  intro g
  induction g with
  | zero =>
    intro f s b hs hf hB
    obtain ⟨f, rfl⟩ : ∃ q, f = q + 1 := ⟨f - 1, by omega⟩
    have hs : s = 2 ^ np := by omega
    rw [hs] at hB
    refine ⟨b, ?_, hB⟩
    rw [F_X12_rest, hpm, hs]
    simp (disch := omega) only [↓reduceIte, ↓shl_ap, shb_ap, shv_ap, zI_lit, zL_lit, nI_z, lN_z, ofN_z, zI_add, zI_sub, zI_mul, zI_neg, zL_add, zL_sub, zL_mul, zL_neg, zI_l, zI_cl, zI_le_t, zI_le_f, zI_lt_t, zI_lt_f, zI_eq_t, zI_eq_f, zI_in_t, zz_isIn_t, zz_isIn_f, not_true_eq_false, not_false_eq_true, true_or, or_true, false_or, or_false, true_and, and_true, false_and, and_false, Nat.reduceLeDiff, Int.reduceAdd, Int.reduceSub, Int.reduceMul, Int.reduceNeg, Int.reduceToNat, Nat.reduceAdd, Nat.reduceMul, Nat.reduceSub, Int.toNat_natCast, zI_pw2, zN_le_t, zN_le_f]
  | succ g ih =>
    intro f s b hs hf hB
    obtain ⟨f, rfl⟩ : ∃ q, f = q + 1 := ⟨f - 1, by omega⟩
    have hsn : s < 2 ^ np := by omega
    have hpc := pc_le (n := s)
    rcases id hB with ⟨hb, -⟩ | ⟨s0, hs0, hb, -, -⟩
    · subst hb
      rcases hQ s hsn with ⟨q, e⟩ | ⟨q, e⟩
      · obtain ⟨v, k1, k2⟩ := ih f (s + 1) (s : Int) (by omega) (by omega) (isB_new hB q (fun s' w => by omega))
        refine ⟨v, ?_, k2⟩
        rw [← k1, F_X12_rest, hpm]
        simp (disch := omega) only [↓reduceIte, ↓shl_ap, shb_ap, shv_ap, zI_lit, zL_lit, nI_z, lN_z, ofN_z, zI_add, zI_sub, zI_mul, zI_neg, zL_add, zL_sub, zL_mul, zL_neg, zI_l, zI_cl, zI_le_t, zI_le_f, zI_lt_t, zI_lt_f, zI_eq_t, zI_eq_f, zI_in_t, zz_isIn_t, zz_isIn_f, not_true_eq_false, not_false_eq_true, true_or, or_true, false_or, or_false, true_and, and_true, false_and, and_false, Nat.reduceLeDiff, Int.reduceAdd, Int.reduceSub, Int.reduceMul, Int.reduceNeg, Int.reduceToNat, Nat.reduceAdd, Nat.reduceMul, Nat.reduceSub, Int.toNat_natCast, zI_pw2, e, zN_le_t, zN_le_f]
        rfl
      · obtain ⟨v, k1, k2⟩ := ih f (s + 1) (-1) (by omega) (by omega) (isB_no hB q)
        refine ⟨v, ?_, k2⟩
        rw [← k1, F_X12_rest, hpm]
        simp (disch := omega) only [↓reduceIte, ↓shl_ap, shb_ap, shv_ap, zI_lit, zL_lit, nI_z, lN_z, ofN_z, zI_add, zI_sub, zI_mul, zI_neg, zL_add, zL_sub, zL_mul, zL_neg, zI_l, zI_cl, zI_le_t, zI_le_f, zI_lt_t, zI_lt_f, zI_eq_t, zI_eq_f, zI_in_t, zz_isIn_t, zz_isIn_f, not_true_eq_false, not_false_eq_true, true_or, or_true, false_or, or_false, true_and, and_true, false_and, and_false, Nat.reduceLeDiff, Int.reduceAdd, Int.reduceSub, Int.reduceMul, Int.reduceNeg, Int.reduceToNat, Nat.reduceAdd, Nat.reduceMul, Nat.reduceSub, Int.toNat_natCast, zI_pw2, e, zN_le_t, zN_le_f]
        rfl
    · subst hb
      have hpc0 := pc_le (n := s0)
      have hb1 := rf_bits (μ := μ) (show s < 128 by omega)
      have hb2 := rf_bits (μ := μ) (show s0 < 128 by omega)
      by_cases c : pc s < pc s0
      · rcases hQ s hsn with ⟨q, e⟩ | ⟨q, e⟩
        · have hnew : ∀ s' : Nat, (s0 : Int) = (s' : Int) → pc s < pc s' := fun s' w => by
            have : s' = s0 := by omega
            subst this
            exact c
          obtain ⟨v, k1, k2⟩ := ih f (s + 1) (s : Int) (by omega) (by omega) (isB_new hB q hnew)
          refine ⟨v, ?_, k2⟩
          rw [← k1, F_X12_rest, hpm]
          simp (disch := omega) only [↓reduceIte, ↓shl_ap, shb_ap, shv_ap, zI_lit, zL_lit, nI_z, lN_z, ofN_z, zI_add, zI_sub, zI_mul, zI_neg, zL_add, zL_sub, zL_mul, zL_neg, zI_l, zI_cl, zI_le_t, zI_le_f, zI_lt_t, zI_lt_f, zI_eq_t, zI_eq_f, zI_in_t, zz_isIn_t, zz_isIn_f, not_true_eq_false, not_false_eq_true, true_or, or_true, false_or, or_false, true_and, and_true, false_and, and_false, Nat.reduceLeDiff, Int.reduceAdd, Int.reduceSub, Int.reduceMul, Int.reduceNeg, Int.reduceToNat, Nat.reduceAdd, Nat.reduceMul, Nat.reduceSub, Int.toNat_natCast, zI_pw2, hb1, hb2, e, zN_le_t, zN_le_f]
          rfl
        · obtain ⟨v, k1, k2⟩ := ih f (s + 1) (s0 : Int) (by omega) (by omega) (isB_no hB q)
          refine ⟨v, ?_, k2⟩
          rw [← k1, F_X12_rest, hpm]
          simp (disch := omega) only [↓reduceIte, ↓shl_ap, shb_ap, shv_ap, zI_lit, zL_lit, nI_z, lN_z, ofN_z, zI_add, zI_sub, zI_mul, zI_neg, zL_add, zL_sub, zL_mul, zL_neg, zI_l, zI_cl, zI_le_t, zI_le_f, zI_lt_t, zI_lt_f, zI_eq_t, zI_eq_f, zI_in_t, zz_isIn_t, zz_isIn_f, not_true_eq_false, not_false_eq_true, true_or, or_true, false_or, or_false, true_and, and_true, false_and, and_false, Nat.reduceLeDiff, Int.reduceAdd, Int.reduceSub, Int.reduceMul, Int.reduceNeg, Int.reduceToNat, Nat.reduceAdd, Nat.reduceMul, Nat.reduceSub, Int.toNat_natCast, zI_pw2, hb1, hb2, e, zN_le_t, zN_le_f]
          rfl
      · obtain ⟨v, k1, k2⟩ := ih f (s + 1) (s0 : Int) (by omega) (by omega) (isB_ge hB (by omega))
        refine ⟨v, ?_, k2⟩
        rw [← k1, F_X12_rest, hpm]
        simp (disch := omega) only [↓reduceIte, ↓shl_ap, shb_ap, shv_ap, zI_lit, zL_lit, nI_z, lN_z, ofN_z, zI_add, zI_sub, zI_mul, zI_neg, zL_add, zL_sub, zL_mul, zL_neg, zI_l, zI_cl, zI_le_t, zI_le_f, zI_lt_t, zI_lt_f, zI_eq_t, zI_eq_f, zI_in_t, zz_isIn_t, zz_isIn_f, not_true_eq_false, not_false_eq_true, true_or, or_true, false_or, or_false, true_and, and_true, false_and, and_false, Nat.reduceLeDiff, Int.reduceAdd, Int.reduceSub, Int.reduceMul, Int.reduceNeg, Int.reduceToNat, Nat.reduceAdd, Nat.reduceMul, Nat.reduceSub, Int.toNat_natCast, zI_pw2, hb1, hb2, zN_le_t, zN_le_f]
        rfl
end Rs
section Rt
variable {t : Nat} {P : sp_T} {L D : sl_T}
def oh (P : sp_T) (D : sl_T) (p : Nat) : Nat := sl_h D (sl_y D p * sp_c P + sl_x D p)
theorem oh_le (hk : sp_ok P) (hl : sl_in P D) {p : Nat} (hp : p < sp_np P) : oh P D p ≤ 99 := hl.1 _ (sp_cell hk (hl.2 p hp).1 (hl.2 p hp).2.1)
theorem cl_learn {s : Nat} (hs : s < 128) : ∀ (g f p : Nat) (μ : sh_Mem), p + g = sp_np P → g < f → cw μ t P → sm_cL μ 209 P D → sl_in P D → ∃ μ', F_X0_learnOwnHeights f 1 209 (zI s) (zI p) μ = some μ' ∧ sh_fr (fun a k => a = 217 ∧ s * 7 + p ≤ k) μ μ' ∧ ∀ q, p ≤ q → q < sp_np P → sh_i μ' 217 (s * 7 + q) = zI (oh P D q) := by
  intro g
  induction g with
  | zero =>
    intro f p μ hp hf hw hc hl
    obtain ⟨f, rfl⟩ : ∃ q, f = q + 1 := ⟨f - 1, by omega⟩
    have : p = sp_np P := by omega
    subst this
    obtain ⟨w1, w2, w3, w4⟩ := hw
    have hb := sp_bd w4
    refine ⟨μ, ?_, sh_fr.rf, fun q h1 h2 => by omega⟩
    rw [F_X0_learnOwnHeights, shr_ap w1]
    simp (disch := omega) only [↓reduceIte, ↓shl_ap, shb_ap, shv_ap, zI_lit, zL_lit, nI_z, lN_z, ofN_z, zI_add, zI_sub, zI_mul, zI_neg, zL_add, zL_sub, zL_mul, zL_neg, zI_l, zI_cl, zI_le_t, zI_le_f, zI_lt_t, zI_lt_f, zI_eq_t, zI_eq_f, zI_in_t, zz_isIn_t, zz_isIn_f, not_true_eq_false, not_false_eq_true, true_or, or_true, false_or, or_false, true_and, and_true, false_and, and_false, Nat.reduceLeDiff, Int.reduceAdd, Int.reduceSub, Int.reduceMul, Int.reduceNeg, Int.reduceToNat, Nat.reduceAdd, Nat.reduceMul, Nat.reduceSub, Int.toNat_natCast, w1, shr_ap w1, shp w2, w3.2.2.2.1, zN_le_t, zN_le_f]
  | succ g ih =>
    intro f p μ hp hf hw hc hl
    obtain ⟨f, rfl⟩ : ∃ q, f = q + 1 := ⟨f - 1, by omega⟩
    obtain ⟨w1, w2, w3, w4⟩ := id hw
    have hb := sp_bd w4
    have hcs := sp_cells w4
    have hpp : p < sp_np P := by omega
    obtain ⟨l1, l2, l3, l4⟩ := hl.2 p hpp
    obtain ⟨c1, c2, c3, c4⟩ := hc.2.2 p hpp
    have hcell := sp_cell w4 l1 l2
    have x1 : sh_i μ 211 p = zI (sl_x D p) := by rw [← nI_z]; exact c1
    have x2 : sh_i μ 212 p = zI (sl_y D p) := by rw [← nI_z]; exact c2
    have x3 : sh_i μ 210 (sl_y D p * sp_c P + sl_x D p) = zI (oh P D p) := by rw [← nI_z]; exact hc.2.1 _ hcell
    have hca : f_X5_cellAt μ t (zI (sl_x D p)) (zI (sl_y D p)) = zI ((sl_y D p * sp_c P + sl_x D p : Nat) : Int) := by rw [cl_cellAt w3 w4 (by omega) (by omega) (by omega) (by omega), kx_pos l1 l2]
    have fr1 : sh_fr (fun a k => a = 217 ∧ s * 7 + p ≤ k) μ (sh_setI μ 217 (s * 7 + p) (zI (oh P D p))) := sh_fr_I sh_fr.rf (by omega)
    obtain ⟨μ', k1, k2, k3⟩ := ih f (p + 1) (sh_setI μ 217 (s * 7 + p) (zI (oh P D p))) (by omega) (by omega) (hw.cg fr1.1 (fun j hj _ _ => fr1.row _ (fun k => by rcases w2 with rfl | rfl <;> omega))) (hc.cg (fun j hj => fr1.row _ (fun k => by omega))) hl
    refine ⟨μ', ?_, fr1.trans (k2.mono (fun r k q => by omega)), fun q h1 h2 => ?_⟩
    · rw [← k1, F_X0_learnOwnHeights, shr_ap w1]
      simp (disch := omega) only [↓reduceIte, ↓shl_ap, shb_ap, shv_ap, zI_lit, zL_lit, nI_z, lN_z, ofN_z, zI_add, zI_sub, zI_mul, zI_neg, zL_add, zL_sub, zL_mul, zL_neg, zI_l, zI_cl, zI_le_t, zI_le_f, zI_lt_t, zI_lt_f, zI_eq_t, zI_eq_f, zI_in_t, zz_isIn_t, zz_isIn_f, not_true_eq_false, not_false_eq_true, true_or, or_true, false_or, or_false, true_and, and_true, false_and, and_false, Nat.reduceLeDiff, Int.reduceAdd, Int.reduceSub, Int.reduceMul, Int.reduceNeg, Int.reduceToNat, Nat.reduceAdd, Nat.reduceMul, Nat.reduceSub, Int.toNat_natCast, w1, shr_ap w1, shp w2, w3.2.2.2.1, x1, x2, hca, x3, show ((s : Int) * 7 + p).toNat = s * 7 + p by omega, zN_le_t, zN_le_f]
      rfl
    · by_cases z : q = p
      · subst z; rw [k2.i _ _ (by omega), ir_set]
      · exact k3 q (by omega) h2
def nR (t a k : Nat) : Prop := nD t a k ∨ a = 217
theorem nR_qA {r k : Nat} (ht : sh_isP t) (h : nR t r k) : qA r k := by
  rcases h with h | h
  · exact nD_qA ht h
  · subst h; refine ⟨by omega, ?_⟩; unfold sm_A sm_S; omega
theorem nR_49 {μ μ' : sh_Mem} (ht : sh_isP t) (hf : sh_fr (nR t) μ μ') (hc : sm_cL μ 49 P L) : sm_cL μ' 49 P L := hc.cg (fun j hj => hf.row _ (fun k => by rcases ht with rfl | rfl <;> (unfold nR nD; omega)))
theorem nR_cw {μ μ' : sh_Mem} (hf : sh_fr (nR t) μ μ') (hw : cw μ t P) : cw μ' t P := by
  have ht := hw.2.1
  exact hw.cg hf.1 (fun j hj h7 h10 => hf.row _ (fun k => by rcases ht with rfl | rfl <;> (unfold nR nD; omega)))
theorem cl_rest1 {n : Nat} (hn : n ≤ 20) (hl : sl_in P L) (hd : sl_d L ≤ 999) : ∀ (g f s : Nat) (μ : sh_Mem), s + g = 2 ^ sp_np P → g < f → sh_r μ 0 7 = some t → cw μ t P → sm_cL μ 49 P L → (∀ s', s' < s → ∀ p, p < sp_np P → sh_i μ 217 (s' * 7 + p) = zI (oh P (dN P s' n L) p)) → ∃ μ', F_X11_rest f 1 (zI n) (zI s) (zI 0) μ = F_X11_rest (f - g - 1) 2 (zI n) (zI 0) (zI 0) μ' ∧ sh_fr (nR t) μ μ' ∧ ∀ s', s' < 2 ^ sp_np P → ∀ p, p < sp_np P → sh_i μ' 217 (s' * 7 + p) = zI (oh P (dN P s' n L) p) := by
  intro g
  induction g with
  | zero =>
    intro f s μ hs hf hr hw hc hO
    obtain ⟨f, rfl⟩ : ∃ q, f = q + 1 := ⟨f - 1, by omega⟩
    obtain ⟨w1, w2, w3, w4⟩ := id hw
    have hb := sp_bd w4
    have h128 := pw128 (show sp_np P ≤ 7 by omega)
    have hs : s = 2 ^ sp_np P := by omega
    rw [hs] at hO ⊢
    refine ⟨μ, ?_, sh_fr.rf, hO⟩
    rw [show f + 1 - 0 - 1 = f by omega, F_X11_rest, shr_ap hr]
    simp (disch := omega) only [↓reduceIte, ↓shl_ap, shb_ap, shv_ap, zI_lit, zL_lit, nI_z, lN_z, ofN_z, zI_add, zI_sub, zI_mul, zI_neg, zL_add, zL_sub, zL_mul, zL_neg, zI_l, zI_cl, zI_le_t, zI_le_f, zI_lt_t, zI_lt_f, zI_eq_t, zI_eq_f, zI_in_t, zz_isIn_t, zz_isIn_f, not_true_eq_false, not_false_eq_true, true_or, or_true, false_or, or_false, true_and, and_true, false_and, and_false, Nat.reduceLeDiff, Int.reduceAdd, Int.reduceSub, Int.reduceMul, Int.reduceNeg, Int.reduceToNat, Nat.reduceAdd, Nat.reduceMul, Nat.reduceSub, Int.toNat_natCast, hr, shr_ap hr, shp w2, w3.2.2.2.1, zI_pw2, zN_le_t, zN_le_f]
  | succ g ih =>
    intro f s μ hs hf hr hw hc hO
    obtain ⟨f, rfl⟩ : ∃ q, f = q + 1 := ⟨f - 1, by omega⟩
    obtain ⟨w1, w2, w3, w4⟩ := id hw
    have hb := sp_bd w4
    have h128 := pw128 (show sp_np P ≤ 7 by omega)
    obtain ⟨m1, a1, a2, a3⟩ := cl_behind (μ := μ) (t := t) (s := s) (n := n) (by omega) (by omega) hw hc hl hd
    have f1 : sh_fr (nR t) μ m1 := a3.mono (fun r k q => Or.inl q)
    have hw1 := nR_cw f1 hw
    obtain ⟨m2, b1, b2, b3⟩ := cl_learn (D := dN P s n L) (s := s) (by omega) (sp_np P) sh_fuel 0 m1 (by omega) (by rw [sh_fuel_eq]; omega) hw1 a2 (dN_in n L hl)
    have f2 : sh_fr (nR t) m1 m2 := b2.mono (fun r k q => Or.inr q.1)
    have hO2 : ∀ s', s' < s + 1 → ∀ p, p < sp_np P → sh_i m2 217 (s' * 7 + p) = zI (oh P (dN P s' n L) p) := by
      intro s' h1 p hp
      by_cases z : s' = s
      · subst z; exact b3 p (by omega) hp
      · rw [b2.i _ _ (by omega), a3.i _ _ (by rcases w2 with rfl | rfl <;> (unfold nD; omega))]
        exact hO s' (by omega) p hp
    obtain ⟨μ', k1, k2, k3⟩ := ih f (s + 1) m2 (by omega) (by omega) (by rw [f2.1, f1.1]; exact hr) (nR_cw f2 hw1) (nR_49 w2 f2 (nR_49 w2 f1 hc)) hO2
    refine ⟨μ', ?_, f1.trans (f2.trans k2), k3⟩
    have b1' : f_X0_learnOwnHeights 209 (zI s) m1 = some m2 := b1
    rw [show f + 1 - (g + 1) - 1 = f - g - 1 by omega, ← k1, F_X11_rest, shr_ap hr]
    simp (disch := omega) only [↓reduceIte, ↓shl_ap, shb_ap, shv_ap, zI_lit, zL_lit, nI_z, lN_z, ofN_z, zI_add, zI_sub, zI_mul, zI_neg, zL_add, zL_sub, zL_mul, zL_neg, zI_l, zI_cl, zI_le_t, zI_le_f, zI_lt_t, zI_lt_f, zI_eq_t, zI_eq_f, zI_in_t, zz_isIn_t, zz_isIn_f, not_true_eq_false, not_false_eq_true, true_or, or_true, false_or, or_false, true_and, and_true, false_and, and_false, Nat.reduceLeDiff, Int.reduceAdd, Int.reduceSub, Int.reduceMul, Int.reduceNeg, Int.reduceToNat, Nat.reduceAdd, Nat.reduceMul, Nat.reduceSub, Int.toNat_natCast, hr, shr_ap hr, shp w2, w3.2.2.2.1, zI_pw2, a1, b1', zN_le_t, zN_le_f]
    rfl
/-! the reference, thought with a row beside -/
theorem thk.off {μ0 m m' : sh_Mem} {x : Nat} (h : thk μ0 m) (hf : sh_fr (fun r _ => r = x) m m') (hx : ¬ (x = 330 ∨ x = 331 ∨ x = 366 ∨ x = 291)) : ∃ μ0', thk μ0' m' ∧ sh_fr (fun r _ => r = x) μ0 μ0' ∧ sh_i μ0' 330 = sh_i μ0 330 := by
  obtain ⟨h1, h2, h3, h4⟩ := h
  have e330 : (sh_row μ0.2.1 x (sh_i m' x)) 330 = sh_i μ0 330 := sh_row_n (by omega)
  refine ⟨(μ0.1, sh_row μ0.2.1 x (sh_i m' x), sh_row μ0.2.2.1 x (sh_l m' x), μ0.2.2.2), ⟨⟨hf.1.trans h1.1, fun r k q => ?_⟩, fun k z => ?_, fun k z => ?_, ?_⟩, ⟨rfl, fun r k q => ⟨?_, ?_⟩⟩, e330⟩
  · by_cases z : r = x
    · subst z
      exact ⟨by show sh_i m' r k = sh_row μ0.2.1 r (sh_i m' r) r k; rw [sh_row_s], by show sh_l m' r k = sh_row μ0.2.2.1 r (sh_l m' r) r k; rw [sh_row_s]⟩
    · refine ⟨?_, ?_⟩
      · show sh_i m' r k = sh_row μ0.2.1 x (sh_i m' x) r k
        rw [sh_row_n z, (hf.2 r k z).1, (h1.2 r k q).1]
      · show sh_l m' r k = sh_row μ0.2.2.1 x (sh_l m' x) r k
        rw [sh_row_n z, (hf.2 r k z).2, (h1.2 r k q).2]
  · show sh_i m' 330 k = (sh_row μ0.2.1 x (sh_i m' x)) 330 k
    rw [e330, hf.i 330 k (by omega)]
    exact h2 k z
  · show sh_i m' 331 k = (sh_row μ0.2.1 x (sh_i m' x)) 330 k
    rw [e330, hf.i 331 k (by omega)]
    exact h3 k z
  · rw [hf.i 291 57 (by omega)]; exact h4
  · show sh_row μ0.2.1 x (sh_i m' x) r k = _
    rw [sh_row_n q]
  · show sh_row μ0.2.2.1 x (sh_l m' x) r k = _
    rw [sh_row_n q]
theorem thk.s60 {μ0 m : sh_Mem} {v : Int32} (h : thk μ0 m) : thk μ0 (sh_setI m 291 60 v) := by
  obtain ⟨h1, h2, h3, h4⟩ := h
  exact ⟨sh_fr_I h1 (by unfold rN6; omega), fun k z => by rw [ir_set_r (by omega)]; exact h2 k z, fun k z => by rw [ir_set_r (by omega)]; exact h3 k z, by rw [ir_set_k (by omega)]; exact h4⟩
theorem rf_own2 {i1 : Int32} {s : Nat} (hs : s < 128) (hk : sp_ok P) : ∀ (g f p : Nat) (m : sh_Mem), p + g = sp_np P → g < f → sm_mP m P → sm_mL (sh_i m 330) 0 P D → sl_in P D → ∃ m', F_X12_laysOwn f 2 i1 (zI s) (zI p) m = F_X12_laysOwn (f - g) 2 i1 (zI s) (zI (sp_np P)) m' ∧ sh_fr (fun r k => r = 337 ∧ 7 * s + p ≤ k) m m' ∧ ∀ q, p ≤ q → q < sp_np P → sh_i m' 337 (7 * s + q) = zI (oh P D q) := by
  have hb := sp_bd hk
  have hcs := sp_cells hk
  intro g
  induction g with
  | zero =>
    intro f p m hp hf hM hm hl
    have : p = sp_np P := by omega
    subst this
    exact ⟨m, rfl, sh_fr.rf, fun q h1 h2 => by omega⟩
  | succ g ih =>
    intro f p m hp hf hM hm hl
    obtain ⟨f, rfl⟩ : ∃ q, f = q + 1 := ⟨f - 1, by omega⟩
    have hpp : p < sp_np P := by omega
    obtain ⟨l1, l2, l3, l4⟩ := hl.2 p hpp
    have fr1 : sh_fr (fun r k => r = 337 ∧ 7 * s + p ≤ k) m (sh_setI m 337 (7 * s + p) (zI (oh P D p))) := sh_fr_I sh_fr.rf (by omega)
    obtain ⟨m', k1, k2, k3⟩ := ih f (p + 1) (sh_setI m 337 (7 * s + p) (zI (oh P D p))) (by omega) (by omega) (hM.f3 (fun r k z => fr1.i r k (by omega)) (fr1.lrow _ (fun k => by omega))) (by rw [fr1.row 330 (fun k => by omega)]; exact hm) hl
    refine ⟨m', ?_, fr1.trans (k2.mono (fun r k q => by omega)), fun q h1 h2 => ?_⟩
    · have hH : f_X12_heightOf (zI ((sl_x D p + 7 * sl_y D p : Nat) : Int)) m = some (zI (oh P D p), m) := rf_heightOf hm hk l1 l2
      rw [show f + 1 - (g + 1) = f - g by omega, ← k1, F_X12_laysOwn, rf_personMany hM]
      simp (disch := omega) only [↓reduceIte, ↓shl_ap, shb_ap, shv_ap, zI_lit, zL_lit, nI_z, lN_z, ofN_z, zI_add, zI_sub, zI_mul, zI_neg, zL_add, zL_sub, zL_mul, zL_neg, zI_l, zI_cl, zI_le_t, zI_le_f, zI_lt_t, zI_lt_f, zI_eq_t, zI_eq_f, zI_in_t, zz_isIn_t, zz_isIn_f, not_true_eq_false, not_false_eq_true, true_or, or_true, false_or, or_false, true_and, and_true, false_and, and_false, Nat.reduceLeDiff, Int.reduceAdd, Int.reduceSub, Int.reduceMul, Int.reduceNeg, Int.reduceToNat, Nat.reduceAdd, Nat.reduceMul, Nat.reduceSub, Int.toNat_natCast, rf_cellOf hm hk hpp, hH, show (7 * (s : Int) + p).toNat = 7 * s + p by omega, zN_le_t, zN_le_f]
      rfl
    · by_cases z : q = p
      · subst z; rw [k2.i _ _ (by omega), ir_set]
      · exact k3 q (by omega) h2
theorem rf_own1 {n : Nat} {μ1 : sh_Mem} {K : kS} (hn : n ≤ 20) (hk : sp_ok P) (hl : sl_in P L) (hd : sl_d L ≤ 999) (hM1 : sm_mP μ1 P) (hm1 : sm_mL (sh_i μ1 330) 0 P L) (hK : mkp μ1 K) : ∀ (g f s : Nat) (m μ0 : sh_Mem), s + g = 2 ^ sp_np P → 20 * g + 1 < f → thk μ0 m → sh_fr (fun r _ => r = 337) μ1 μ0 → sh_i m 330 = sh_i μ1 330 → (∀ s', s' < s → ∀ p, p < sp_np P → sh_i m 337 (7 * s' + p) = zI (oh P (dN P s' n L) p)) → ∃ m', F_X12_laysOwn f 1 (zI n) (zI s) (zI 0) m = some m' ∧ sh_i m' 330 = sh_i μ1 330 ∧ sh_i m' 291 57 = 0 ∧ sh_i m' 291 60 = 0 ∧ sh_fr (fun r k => rN6 r k ∨ r = 337) μ1 m' ∧ ∀ s', s' < 2 ^ sp_np P → ∀ p, p < sp_np P → sh_i m' 337 (7 * s' + p) = zI (oh P (dN P s' n L) p) := by
  have hb := sp_bd hk
  have h128 := pw128 (show sp_np P ≤ 7 by omega)
  have hMm : ∀ m μ0, thk μ0 m → sh_fr (fun r _ => r = 337) μ1 μ0 → sm_mP m P := fun m μ0 hT hF => hM1.f3 (fun r k z => (hT.1.i r k (by unfold rN6 rN5; omega)).trans (hF.i r k (by omega))) ((hT.1.lrow 323 (fun k => by unfold rN6 rN5; omega)).trans (hF.lrow 323 (fun k => by omega)))
  intro g
  induction g with
  | zero =>
    intro f s m μ0 hs hf hT hF h330 hO
    obtain ⟨f, rfl⟩ : ∃ q, f = q + 1 := ⟨f - 1, by omega⟩
    have hs : s = 2 ^ sp_np P := by omega
    rw [hs] at hO ⊢
    obtain ⟨m', v1, v2, v3, v4, v5, v6⟩ := rf_back hT
    refine ⟨m', ?_, ?_, v3, v4, (hF.mono (fun r k q => Or.inr q)).trans (v5.mono (fun r k q => Or.inl q)), fun s' h1 p hp => ?_⟩
    · rw [F_X12_laysOwn, rf_personMany (hMm m μ0 hT hF)]
      simp (disch := omega) only [↓reduceIte, ↓shl_ap, shb_ap, shv_ap, zI_lit, zL_lit, nI_z, lN_z, ofN_z, zI_add, zI_sub, zI_mul, zI_neg, zL_add, zL_sub, zL_mul, zL_neg, zI_l, zI_cl, zI_le_t, zI_le_f, zI_lt_t, zI_lt_f, zI_eq_t, zI_eq_f, zI_in_t, zz_isIn_t, zz_isIn_f, not_true_eq_false, not_false_eq_true, true_or, or_true, false_or, or_false, true_and, and_true, false_and, and_false, Nat.reduceLeDiff, Int.reduceAdd, Int.reduceSub, Int.reduceMul, Int.reduceNeg, Int.reduceToNat, Nat.reduceAdd, Nat.reduceMul, Nat.reduceSub, Int.toNat_natCast, zI_pw2, v1, zN_le_t, zN_le_f]
    · rw [v2, hF.row 330 (fun k => by omega)]
    · rw [v6.i _ _ (by omega)]; exact hO s' h1 p hp
  | succ g ih =>
    intro f s m μ0 hs hf hT hF h330 hO
    obtain ⟨f, rfl⟩ : ∃ q, f = q + 1 := ⟨f - 1, by omega⟩
    have hT1 : thk μ0 (sh_setI m 291 60 (zI s)) := hT.s60
    have e330 : sh_i (sh_setI m 291 60 (zI s)) 330 = sh_i μ1 330 := by rw [ir_set_r (by omega)]; exact h330
    obtain ⟨m2, w1, w2, w3, w4, w5, w6, w7⟩ := rf_daysT (K := K) (μ0 := μ0) (s := s) (n := n) hk (by omega) (by omega) n sh_fuel 0 L (sh_setI m 291 60 (zI s)) (by omega) (by rw [sh_fuel_eq]; omega) hT1 (hMm _ μ0 hT1 hF) (by rw [e330]; exact hm1) hl (by omega) ir_set (hK.cg e330)
    have hin := dN_in (P := P) (s := s) n L hl
    obtain ⟨m3, c1, c2, c3⟩ := rf_own2 (i1 := zI n) (D := dN P s n L) (s := s) (by omega) hk (sp_np P) f 0 m2 (by omega) (by omega) w5 w2 hin
    obtain ⟨μ0', d1, d2, d3⟩ := w3.off (x := 337) (c2.mono (fun r k q => q.1)) (by omega)
    obtain ⟨m4, p1, p2, p3, p4⟩ := rf_anew d1
    have hF' := hF.trans d2
    have hO4 : ∀ s', s' < s + 1 → ∀ p, p < sp_np P → sh_i m4 337 (7 * s' + p) = zI (oh P (dN P s' n L) p) := by
      intro s' h1 p hp
      rw [p4.i _ _ (by omega)]
      by_cases z : s' = s
      · subst z; exact c3 p (by omega) hp
      · rw [c2.i _ _ (by omega), w7.i _ _ (by unfold rN5; omega), ir_set_r (by omega)]
        exact hO s' (by omega) p hp
    obtain ⟨m', k1, k2, k3, k4, k5, k6⟩ := ih (f - sp_np P - 1) (s + 1) m4 μ0' (by omega) (by omega) p2 hF' (by rw [p3, d3, hF.row 330 (fun k => by omega)]) hO4
    refine ⟨m', ?_, k2, k3, k4, k5, k6⟩
    have w1' : f_X12_daysGo (zI n) (sh_setI m 291 60 (zI s)) = some m2 := w1
    have hst : F_X12_laysOwn (f + 1) 1 (zI n) (zI s) (zI 0) m = F_X12_laysOwn f 2 (zI n) (zI s) (zI 0) m2 := by
      rw [F_X12_laysOwn, rf_personMany (hMm m μ0 hT hF)]
      simp (disch := omega) only [↓reduceIte, ↓shl_ap, shb_ap, shv_ap, zI_lit, zL_lit, nI_z, lN_z, ofN_z, zI_add, zI_sub, zI_mul, zI_neg, zL_add, zL_sub, zL_mul, zL_neg, zI_l, zI_cl, zI_le_t, zI_le_f, zI_lt_t, zI_lt_f, zI_eq_t, zI_eq_f, zI_in_t, zz_isIn_t, zz_isIn_f, not_true_eq_false, not_false_eq_true, true_or, or_true, false_or, or_false, true_and, and_true, false_and, and_false, Nat.reduceLeDiff, Int.reduceAdd, Int.reduceSub, Int.reduceMul, Int.reduceNeg, Int.reduceToNat, Nat.reduceAdd, Nat.reduceMul, Nat.reduceSub, Int.toNat_natCast, zI_pw2, w1', zN_le_t, zN_le_f]
    have c1' : F_X12_laysOwn f 2 (zI n) (zI s) (zI 0) m2 = _ := c1
    obtain ⟨f', hf'⟩ : ∃ q, f - sp_np P = q + 1 := ⟨f - sp_np P - 1, by omega⟩
    rw [hst, c1', hf', ← k1, show f - sp_np P - 1 = f' by omega, F_X12_laysOwn, rf_personMany (hMm m3 μ0' d1 hF')]
    simp (disch := omega) only [↓reduceIte, ↓shl_ap, shb_ap, shv_ap, zI_lit, zL_lit, nI_z, lN_z, ofN_z, zI_add, zI_sub, zI_mul, zI_neg, zL_add, zL_sub, zL_mul, zL_neg, zI_l, zI_cl, zI_le_t, zI_le_f, zI_lt_t, zI_lt_f, zI_eq_t, zI_eq_f, zI_in_t, zz_isIn_t, zz_isIn_f, not_true_eq_false, not_false_eq_true, true_or, or_true, false_or, or_false, true_and, and_true, false_and, and_false, Nat.reduceLeDiff, Int.reduceAdd, Int.reduceSub, Int.reduceMul, Int.reduceNeg, Int.reduceToNat, Nat.reduceAdd, Nat.reduceMul, Nat.reduceSub, Int.toNat_natCast, p1, zN_le_t, zN_le_f]
    rfl
end Rt
theorem pr_18 : ∀ (μ : sh_Mem) (b1 : Int32), Sim μ → ∃ (v : Int32) (μ1 μ2 : sh_Mem), f_X11_rest b1 μ = some (v, μ1) ∧ f_X12_rest b1 μ1 = some (v, μ2) ∧ Sim μ2 := by
  intro μ b1 h
  obtain ⟨-, -, -, -, -, -, t, P, L, hR⟩ := id h
  obtain ⟨hr, hk, hl, hP, hM, hc, hm, hkp, hu, hs, z1, z2, -⟩ := id hR
  obtain ⟨d, h5, h6, rfl⟩ := zI_of b1
  have hb := sp_bd hk
  have hd := hl.1
  have h128 := pw128 (show sp_np P ≤ 7 by omega)
  rcases cl_isAhead (lo := 1) (hi := 20) hr.2.1 hr.1 hP hk hc hd h5 h6 (by omega) with ⟨q1, q2⟩ | ⟨q1, q2⟩
  · obtain ⟨n, rfl⟩ := Int.eq_ofNat_of_zero_le (show 0 ≤ d by have := q1.2.1; omega)
    obtain ⟨-, n1, n2, n3⟩ := id q1
    obtain ⟨K, K1, K2⟩ := hkp.K
    obtain ⟨μ1, a1, a2, a3⟩ := cl_rest1 (t := t) (P := P) (L := L) (n := n) (by omega) hl.2 hd (2 ^ sp_np P) sh_fuel 0 μ (by omega) (by rw [sh_fuel_eq]; omega) hr.2.1 ⟨hr.2.2.1, hr.1, hP, hk⟩ hc (fun s' hs' => by omega)
    have hw1 := nR_cw a2 ⟨hr.2.2.1, hr.1, hP, hk⟩
    have hO : ∀ s, s < 2 ^ sp_np P → ∀ p, p < sp_np P → oh P (dN P s n L) p ≤ 99 ∧ sh_i μ1 217 (s * 7 + p) = zI (oh P (dN P s n L) p) := fun s hs p hp => ⟨oh_le hk (dN_in n L hl.2) hp, a3 s hs p hp⟩
    have e3 : sh_i μ1 t 3 = zI (sp_np P) := by rw [hw1.2.2.1.2.2.2.1, nI_z]
    obtain ⟨v, b1, b2⟩ := cl_rest2 (i1 := zI n) (Q := qR (fun s p => oh P (dN P s n L) p) (sp_np P)) (show sp_np P ≤ 7 by omega) (show sh_r μ1 0 7 = some t by rw [a2.1]; exact hr.2.1) hr.1 e3 (fun s hs => cl_atRest (O := fun s p => oh P (dN P s n L) p) (by omega) hw1.1 hr.1 e3 hO hs) (sp_np P + 1) (sh_fuel - 2 ^ sp_np P - 1) 0 (by omega) (by rw [sh_fuel_eq]; omega) (fun q h1 h2 => by omega)
    have c1 : f_X11_rest (zI n) μ = some (zI v, μ1) := by
      unfold f_X11_rest
      rw [show (1 : Int32) = zI 1 from rfl, show (20 : Int32) = zI 20 from rfl, q2, shb_ap, if_neg (by decide)]
      exact a1.trans b1
    have hof : sh_offM μ μ1 := fp_X11_rest h.1 c1
    have nh : ∀ r, 291 ≤ r → sh_i μ1 r = sh_i μ r := fun r z => (hof r z).1
    have hM1 := hM.off hof
    have hm1 : sm_mL (sh_i μ1 330) 0 P L := by rw [nh _ (by omega)]; exact hm
    obtain ⟨m1, p1, p2, p3, p4, p5⟩ := rf_aside (μ := μ1)
    obtain ⟨m2, o1, o2, o3, o4, o5, o6⟩ := rf_own1 (n := n) (μ1 := μ1) (K := K) (by omega) hk hl.2 hd hM1 hm1 (K2.cg (nh _ (by omega))) (2 ^ sp_np P) sh_fuel 0 m1 μ1 (by omega) (by rw [sh_fuel_eq]; omega) p2 sh_fr.rf p3 (fun s' hs' => by omega)
    have hM2 : sm_mP m2 P := hM1.f3 (fun r k z => o5.i r k (by unfold rN6 rN5; omega)) (o5.lrow 323 (fun k => by unfold rN6 rN5; omega))
    have hO2 : ∀ s, s < 2 ^ sp_np P → ∀ p, p < sp_np P → oh P (dN P s n L) p ≤ 99 ∧ sh_i m2 337 (7 * s + p) = zI (oh P (dN P s n L) p) := fun s hs p hp => ⟨oh_le hk (dN_in n L hl.2) hp, o6 s hs p hp⟩
    obtain ⟨v', d1, d2⟩ := rf_rest1 (i1 := zI n) (Q := qR (fun s p => oh P (dN P s n L) p) (sp_np P)) hM2 rfl (by omega) (fun s hs => rf_ar (O := fun s p => oh P (dN P s n L) p) hM2 rfl (by omega) hO2 hs (sp_np P) sh_fuel 0 (by omega) (by rw [sh_fuel_eq]; omega)) (2 ^ sp_np P) sh_fuel 0 (-1) (by omega) (by rw [sh_fuel_eq]; omega) isB_0
    have hv := isB_u b2 d2
    subst hv
    rcases rf_isAhead (lo := 1) (hi := 20) hM1 hk hm1 hd h5 h6 (by omega) with ⟨r1, r2⟩ | ⟨r1, r2⟩
    · have o1' : f_X12_laysOwn (zI n) μ1 = some m2 := by
        unfold f_X12_laysOwn
        rw [p1]
        exact o1
      have c2 : f_X12_rest (zI n) μ1 = some (zI v, m2) := by
        unfold f_X12_rest
        rw [show (1 : Int32) = zI 1 from rfl, show (20 : Int32) = zI 20 from rfl, r2, shb_ap, if_neg (by decide), o1']
        exact d1
      refine ⟨_, μ1, m2, c1, c2, h.q (gp_X12_rest (gp_X11_rest h.1 c1) c2) (a2.mono (fun r k z => nR_qA hr.1 z)) (o5.mono (fun r k z => ?_)) o2 o3 o4⟩
      rcases z with z | z
      · exact rN6_qB z
      · subst z; exact Or.inr (Or.inr ⟨by omega, by unfold sm_A sm_S; omega⟩)
    · exact absurd q1 r1
  · refine ⟨zI (-1), μ, μ, ?_, ?_, h⟩
    · unfold f_X11_rest
      rw [show (1 : Int32) = zI 1 from rfl, show (20 : Int32) = zI 20 from rfl, q2, shb_ap, if_pos rfl]
      rfl
    · rcases rf_isAhead (lo := 1) (hi := 20) hM hk hm hd h5 h6 (by omega) with ⟨r1, r2⟩ | ⟨r1, r2⟩
      · exact absurd r1 q1
      · unfold f_X12_rest
        rw [show (1 : Int32) = zI 1 from rfl, show (20 : Int32) = zI 20 from rfl, r2, shb_ap, if_pos rfl]
        rfl
