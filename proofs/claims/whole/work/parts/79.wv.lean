/-! way -/
def bI (b : Bool) : Int := if b then 1 else 0
theorem bI_t : bI true = 1 := rfl
theorem bI_f : bI false = 0 := rfl
def cst (μ : sh_Mem) (n : Nat) (C : Nat → Nat) : Prop := ∀ j, j < n → sh_i μ 288 j = zI (C j)
def mc (v : Nat) : Int := if v = 1000000 then -1 else (v : Int)
def mst (μ : sh_Mem) (P : sp_T) (C : Nat → Nat) : Prop := ∀ j, j < sp_c P * sp_r P → sh_i μ 336 (ro P j) = zI (mc (C j))
theorem wgt_W {h : Nat → Nat} {k j : Nat} (h1 : h k ≤ 99) (h2 : h j ≤ 99) : ∃ W : Nat, wgt h k j = 1 + W ∧ W ≤ 99 ∧ (∀ μ, f_J9_abs_0f7a4 μ (zI ((h k : Int) - (h j : Int))) = zI W) ∧ ((0 ≤ (h k : Int) - (h j : Int) ∧ (h k : Int) - (h j : Int) = W) ∨ ((h k : Int) - (h j : Int) < 0 ∧ -((h k : Int) - (h j : Int)) = W)) := by
  unfold wgt
  by_cases c : h j ≤ h k
  · refine ⟨h k - h j, by rw [if_pos c], by omega, fun μ => ?_, by omega⟩
    unfold f_J9_abs_0f7a4
    rw [show (0 : Int32) = zI 0 from rfl, if_pos ((zI_le (by omega) (by omega) (by omega) (by omega)).mpr (by omega))]
    congr 1
    omega
  · refine ⟨h j - h k, by rw [if_neg c], by omega, fun μ => ?_, by omega⟩
    unfold f_J9_abs_0f7a4
    rw [show (0 : Int32) = zI 0 from rfl, if_neg (fun z => by have := (zI_le (by omega) (by omega) (by omega) (by omega)).mp z; omega), zI_neg]
    congr 1
    omega
section Wv
variable {t r k n : Nat} {P : sp_T} {L : sl_T} {h : Nat → Nat}
theorem cl_imp1 (hk : sp_ok P) (h1 : k < sp_c P * sp_r P) (hr : r = 49 ∨ r = 209) (ht : sh_isP t) (hle : ∀ j, j < sp_c P * sp_r P → h j ≤ 99) : ∀ (g f d : Nat) (s : (Nat → Nat) × Bool) (μ : sh_Mem), d + g = 4 → g < f → sm_cP μ t P → (∀ j, j < sp_c P * sp_r P → sh_i μ (r + 1) j = zI (h j)) → cst μ (sp_c P * sp_r P) s.1 → (∀ j, j < sp_c P * sp_r P → s.1 j ≤ 1000000) → ∃ μ', F_X9_improves f 1 t r (zI k) (zI (bI s.2)) (zI d) μ = some (zI (bI (rlg P h k g d s).2), μ') ∧ cst μ' (sp_c P * sp_r P) (rlg P h k g d s).1 ∧ sh_fr (fun a _ => a = 288) μ μ' := by
  have hcs := sp_cells hk
  intro g
  induction g with
  | zero =>
    intro f d s μ hd hf hP hh hC hb
    obtain ⟨f, rfl⟩ : ∃ q, f = q + 1 := ⟨f - 1, by omega⟩
    have hd : d = 4 := by omega
    subst hd
    refine ⟨μ, ?_, hC, sh_fr.rf⟩
    rw [F_X9_improves, rlg]
    cases s.2 with
    | true => rw [bI_t]; simp (disch := omega) only [↓reduceIte, ↓shl_ap, shb_ap, shv_ap, zI_lit, zL_lit, nI_z, lN_z, ofN_z, zI_add, zI_sub, zI_mul, zI_neg, zL_add, zL_sub, zL_mul, zL_neg, zI_l, zI_cl, zI_le_t, zI_le_f, zI_lt_t, zI_lt_f, zI_eq_t, zI_eq_f, zI_in_t, zz_isIn_t, zz_isIn_f, not_true_eq_false, not_false_eq_true, true_or, or_true, false_or, or_false, true_and, and_true, false_and, and_false, Nat.reduceLeDiff, Int.reduceAdd, Int.reduceSub, Int.reduceMul, Int.reduceNeg, Int.reduceToNat, Nat.reduceAdd, Nat.reduceMul, Nat.reduceSub, Int.toNat_natCast, zN_le_t, zN_le_f]
    | false => rw [bI_f]; simp (disch := omega) only [↓reduceIte, ↓shl_ap, shb_ap, shv_ap, zI_lit, zL_lit, nI_z, lN_z, ofN_z, zI_add, zI_sub, zI_mul, zI_neg, zL_add, zL_sub, zL_mul, zL_neg, zI_l, zI_cl, zI_le_t, zI_le_f, zI_lt_t, zI_lt_f, zI_eq_t, zI_eq_f, zI_in_t, zz_isIn_t, zz_isIn_f, not_true_eq_false, not_false_eq_true, true_or, or_true, false_or, or_false, true_and, and_true, false_and, and_false, Nat.reduceLeDiff, Int.reduceAdd, Int.reduceSub, Int.reduceMul, Int.reduceNeg, Int.reduceToNat, Nat.reduceAdd, Nat.reduceMul, Nat.reduceSub, Int.toNat_natCast, zN_le_t, zN_le_f]
  | succ g ih =>
    intro f d s μ hd hf hP hh hC hb
    obtain ⟨f, rfl⟩ : ∃ q, f = q + 1 := ⟨f - 1, by omega⟩
    have hn := cl_next hP hk h1 (show d < 4 by omega)
    rw [rlg]
    have hCk := hC k h1
    have hbk := hb k h1
    have hhk := hh k h1
    have hlk := hle k h1
    cases e : nb P k d with
    | none =>
      have er : rl P h k d s = s := by unfold rl; rw [e]
      obtain ⟨μ', k1, k2, k3⟩ := ih f (d + 1) s μ (by omega) (by omega) hP hh hC hb
      rw [er]
      refine ⟨μ', ?_, k2, k3⟩
      rw [← k1, F_X9_improves, hn, e]
      simp (disch := omega) only [↓reduceIte, ↓shl_ap, shb_ap, shv_ap, zI_lit, zL_lit, nI_z, lN_z, ofN_z, zI_add, zI_sub, zI_mul, zI_neg, zL_add, zL_sub, zL_mul, zL_neg, zI_l, zI_cl, zI_le_t, zI_le_f, zI_lt_t, zI_lt_f, zI_eq_t, zI_eq_f, zI_in_t, zz_isIn_t, zz_isIn_f, not_true_eq_false, not_false_eq_true, true_or, or_true, false_or, or_false, true_and, and_true, false_and, and_false, Nat.reduceLeDiff, Int.reduceAdd, Int.reduceSub, Int.reduceMul, Int.reduceNeg, Int.reduceToNat, Nat.reduceAdd, Nat.reduceMul, Nat.reduceSub, Int.toNat_natCast, nz_n, zN_le_t, zN_le_f]
      rfl
    | some j =>
      have hj := nb_lt hk h1 e
      have hCj := hC j hj
      have hbj := hb j hj
      have hhj := hh j hj
      have hlj := hle j hj
      obtain ⟨W, w1, w2, w3, -⟩ := wgt_W (h := h) (k := k) (j := j) hlk hlj
      by_cases c : s.1 j + wgt h k j < s.1 k
      · have er : rl P h k d s = (hu s.1 k (s.1 j + wgt h k j), true) := by unfold rl; rw [e]; exact if_pos c
        have fr1 : sh_fr (fun a _ => a = 288) μ (sh_setI μ 288 k (zI ((s.1 j : Int) + 1 + W))) := sh_fr_I sh_fr.rf rfl
        obtain ⟨μ', k1, k2, k3⟩ := ih f (d + 1) (rl P h k d s) (sh_setI μ 288 k (zI ((s.1 j : Int) + 1 + W))) (by omega) (by omega) (hP.cg (fun i hi _ _ => fr1.row _ (fun _ => by rcases ht with rfl | rfl <;> omega))) (fun i hi => by rw [ir_set_r (by omega)]; exact hh i hi) (fun i hi => by
          rw [er]
          show _ = zI (hu s.1 k (s.1 j + wgt h k j) i)
          by_cases z : i = k
          · subst z; rw [ir_set, hu_s, w1]; congr 1; omega
          · rw [ir_set_k z, hu_n z]; exact hC i hi) (fun i hi => Nat.le_trans (rl_le i) (hb i hi))
        refine ⟨μ', ?_, k2, fr1.trans k3⟩
        rw [← k1, F_X9_improves, hn, e, er]
        simp (disch := omega) only [↓reduceIte, ↓shl_ap, shb_ap, shv_ap, zI_lit, zL_lit, nI_z, lN_z, ofN_z, zI_add, zI_sub, zI_mul, zI_neg, zL_add, zL_sub, zL_mul, zL_neg, zI_l, zI_cl, zI_le_t, zI_le_f, zI_lt_t, zI_lt_f, zI_eq_t, zI_eq_f, zI_in_t, zz_isIn_t, zz_isIn_f, not_true_eq_false, not_false_eq_true, true_or, or_true, false_or, or_false, true_and, and_true, false_and, and_false, Nat.reduceLeDiff, Int.reduceAdd, Int.reduceSub, Int.reduceMul, Int.reduceNeg, Int.reduceToNat, Nat.reduceAdd, Nat.reduceMul, Nat.reduceSub, Int.toNat_natCast, nz_s, hCj, hhk, hhj, w3, hCk, zN_le_t, zN_le_f]
        rfl
      · have er : rl P h k d s = s := by unfold rl; rw [e]; exact if_neg c
        obtain ⟨μ', k1, k2, k3⟩ := ih f (d + 1) s μ (by omega) (by omega) hP hh hC hb
        rw [er]
        refine ⟨μ', ?_, k2, k3⟩
        rw [← k1, F_X9_improves, hn, e]
        simp (disch := omega) only [↓reduceIte, ↓shl_ap, shb_ap, shv_ap, zI_lit, zL_lit, nI_z, lN_z, ofN_z, zI_add, zI_sub, zI_mul, zI_neg, zL_add, zL_sub, zL_mul, zL_neg, zI_l, zI_cl, zI_le_t, zI_le_f, zI_lt_t, zI_lt_f, zI_eq_t, zI_eq_f, zI_in_t, zz_isIn_t, zz_isIn_f, not_true_eq_false, not_false_eq_true, true_or, or_true, false_or, or_false, true_and, and_true, false_and, and_false, Nat.reduceLeDiff, Int.reduceAdd, Int.reduceSub, Int.reduceMul, Int.reduceNeg, Int.reduceToNat, Nat.reduceAdd, Nat.reduceMul, Nat.reduceSub, Int.toNat_natCast, nz_s, hCj, hhk, hhj, w3, hCk, zN_le_t, zN_le_f]
        rfl
theorem cl_swp (hk : sp_ok P) (hr : r = 49 ∨ r = 209) (ht : sh_isP t) (hle : ∀ j, j < sp_c P * sp_r P → h j ≤ 99) {i3 i4 : Int32} {i : Nat} (hi : i ≤ 48) : ∀ (g f k : Nat) (s : (Nat → Nat) × Bool) (μ : sh_Mem), k + g = sp_c P * sp_r P → g < f → sm_cP μ t P → (∀ j, j < sp_c P * sp_r P → sh_i μ (r + 1) j = zI (h j)) → cst μ (sp_c P * sp_r P) s.1 → (∀ j, j < sp_c P * sp_r P → s.1 j ≤ 1000000) → ∃ μ', F_X9_cost f 2 t r i3 i4 (zI (bI s.2)) (zI i) (zI k) μ = F_X9_cost (f - g - 1) 1 t r i3 i4 (zI (bI (swp P h g k s).2)) (zI ((i + 1 : Nat) : Int)) (zI 0) μ' ∧ cst μ' (sp_c P * sp_r P) (swp P h g k s).1 ∧ sh_fr (fun a _ => a = 288) μ μ' := by
  have hcs := sp_cells hk
  intro g
  induction g with
  | zero =>
    intro f k s μ hg hf hP hh hC hb
    obtain ⟨f, rfl⟩ : ∃ q, f = q + 1 := ⟨f - 1, by omega⟩
    have hk2 : k = sp_c P * sp_r P := by omega
    subst hk2
    refine ⟨μ, ?_, hC, sh_fr.rf⟩
    rw [show f + 1 - 0 - 1 = f by omega, F_X9_cost, swp]
    simp (disch := omega) only [↓reduceIte, ↓shl_ap, shb_ap, shv_ap, zI_lit, zL_lit, nI_z, lN_z, ofN_z, zI_add, zI_sub, zI_mul, zI_neg, zL_add, zL_sub, zL_mul, zL_neg, zI_l, zI_cl, zI_le_t, zI_le_f, zI_lt_t, zI_lt_f, zI_eq_t, zI_eq_f, zI_in_t, zz_isIn_t, zz_isIn_f, not_true_eq_false, not_false_eq_true, true_or, or_true, false_or, or_false, true_and, and_true, false_and, and_false, Nat.reduceLeDiff, Int.reduceAdd, Int.reduceSub, Int.reduceMul, Int.reduceNeg, Int.reduceToNat, Nat.reduceAdd, Nat.reduceMul, Nat.reduceSub, Int.toNat_natCast, cl_cells hP, zN_le_t, zN_le_f]
    rfl
  | succ g ih =>
    intro f k s μ hg hf hP hh hC hb
    obtain ⟨f, rfl⟩ : ∃ q, f = q + 1 := ⟨f - 1, by omega⟩
    have h1 : k < sp_c P * sp_r P := by omega
    obtain ⟨m, a1, a2, a3⟩ := cl_imp1 (h := h) hk h1 hr ht hle 4 sh_fuel 0 (s.1, false) μ (by omega) (by rw [sh_fuel_eq]; omega) hP hh hC hb
    have hb2 : ∀ i, (rlg P h k 4 0 (s.1, false)).1 i = (rlg P h k 4 0 s).1 i := fun i => by
      have := rlg_b (P := P) (h := h) (k := k) 4 0 s.1 false s.2
      rw [this.1]
    have hb3 : (rlg P h k 4 0 s).2 = (s.2 || (rlg P h k 4 0 (s.1, false)).2) := (rlg_b (P := P) (h := h) (k := k) 4 0 s.1 false s.2).2
    obtain ⟨μ', k1, k2, k3⟩ := ih f (k + 1) (rlg P h k 4 0 s) m (by omega) (by omega) (hP.cg (fun i hi _ _ => a3.row _ (fun _ => by rcases ht with rfl | rfl <;> omega))) (fun i hi => by rw [a3.i _ _ (by omega)]; exact hh i hi) (fun i hi => by rw [← hb2]; exact a2 i hi) (fun i hi => Nat.le_trans (rlg_le i 4 0 s) (hb i hi))
    refine ⟨μ', ?_, k2, a3.trans k3⟩
    rw [show f + 1 - (g + 1) - 1 = f - g - 1 by omega, swp, ← k1, F_X9_cost]
    have a1' : f_X9_improves t r (zI k) μ = some (zI (bI (rlg P h k 4 0 (s.1, false)).2), m) := a1
    rw [hb3]
    cases e : (rlg P h k 4 0 (s.1, false)).2 with
    | true =>
      rw [e, bI_t] at a1'
      rw [Bool.or_true, bI_t]
      simp (disch := omega) only [↓reduceIte, ↓shl_ap, shb_ap, shv_ap, zI_lit, zL_lit, nI_z, lN_z, ofN_z, zI_add, zI_sub, zI_mul, zI_neg, zL_add, zL_sub, zL_mul, zL_neg, zI_l, zI_cl, zI_le_t, zI_le_f, zI_lt_t, zI_lt_f, zI_eq_t, zI_eq_f, zI_in_t, zz_isIn_t, zz_isIn_f, not_true_eq_false, not_false_eq_true, true_or, or_true, false_or, or_false, true_and, and_true, false_and, and_false, Nat.reduceLeDiff, Int.reduceAdd, Int.reduceSub, Int.reduceMul, Int.reduceNeg, Int.reduceToNat, Nat.reduceAdd, Nat.reduceMul, Nat.reduceSub, Int.toNat_natCast, cl_cells hP, a1', zN_le_t, zN_le_f]
      rfl
    | false =>
      rw [e, bI_f] at a1'
      rw [Bool.or_false]
      simp (disch := omega) only [↓reduceIte, ↓shl_ap, shb_ap, shv_ap, zI_lit, zL_lit, nI_z, lN_z, ofN_z, zI_add, zI_sub, zI_mul, zI_neg, zL_add, zL_sub, zL_mul, zL_neg, zI_l, zI_cl, zI_le_t, zI_le_f, zI_lt_t, zI_lt_f, zI_eq_t, zI_eq_f, zI_in_t, zz_isIn_t, zz_isIn_f, not_true_eq_false, not_false_eq_true, true_or, or_true, false_or, or_false, true_and, and_true, false_and, and_false, Nat.reduceLeDiff, Int.reduceAdd, Int.reduceSub, Int.reduceMul, Int.reduceNeg, Int.reduceToNat, Nat.reduceAdd, Nat.reduceMul, Nat.reduceSub, Int.toNat_natCast, cl_cells hP, a1', zN_le_t, zN_le_f]
      rfl
theorem cl_rds (hk : sp_ok P) (hr : r = 49 ∨ r = 209) (ht : sh_isP t) (hle : ∀ j, j < sp_c P * sp_r P → h j ≤ 99) {i3 : Int32} {to : Nat} (hto : to < sp_c P * sp_r P) : ∀ (g f i : Nat) (C : Nat → Nat) (i7 : Int32) (μ : sh_Mem), i + g = 49 → 60 * g + 2 < f → sm_cP μ t P → (∀ j, j < sp_c P * sp_r P → sh_i μ (r + 1) j = zI (h j)) → cst μ (sp_c P * sp_r P) C → (∀ j, j < sp_c P * sp_r P → C j ≤ 1000000) → ∃ μ', F_X9_cost f 1 t r i3 (zI to) (zI 1) (zI i) i7 μ = some (zI (rds P h g C to), μ') ∧ sh_fr (fun a _ => a = 288) μ μ' := by
  have hcs := sp_cells hk
  intro g
  induction g with
  | zero =>
    intro f i C i7 μ hg hf hP hh hC hb
    obtain ⟨f, rfl⟩ : ∃ q, f = q + 1 := ⟨f - 1, by omega⟩
    have hi : i = 49 := by omega
    subst hi
    refine ⟨μ, ?_, sh_fr.rf⟩
    rw [F_X9_cost, rds]
    simp (disch := omega) only [↓reduceIte, ↓shl_ap, shb_ap, shv_ap, zI_lit, zL_lit, nI_z, lN_z, ofN_z, zI_add, zI_sub, zI_mul, zI_neg, zL_add, zL_sub, zL_mul, zL_neg, zI_l, zI_cl, zI_le_t, zI_le_f, zI_lt_t, zI_lt_f, zI_eq_t, zI_eq_f, zI_in_t, zz_isIn_t, zz_isIn_f, not_true_eq_false, not_false_eq_true, true_or, or_true, false_or, or_false, true_and, and_true, false_and, and_false, Nat.reduceLeDiff, Int.reduceAdd, Int.reduceSub, Int.reduceMul, Int.reduceNeg, Int.reduceToNat, Nat.reduceAdd, Nat.reduceMul, Nat.reduceSub, Int.toNat_natCast, hC to hto, zN_le_t, zN_le_f]
  | succ g ih =>
    intro f i C i7 μ hg hf hP hh hC hb
    obtain ⟨f, rfl⟩ : ∃ q, f = q + 1 := ⟨f - 1, by omega⟩
    obtain ⟨m, a1, a2, a3⟩ := cl_swp (h := h) (i3 := i3) (i4 := zI to) (i := i) hk hr ht hle (by omega) (sp_c P * sp_r P) f 0 (C, false) μ (by omega) (by omega) hP hh hC hb
    have hhm : ∀ j, j < sp_c P * sp_r P → sh_i m (r + 1) j = zI (h j) := fun j hj => by rw [a3.i _ _ (by omega)]; exact hh j hj
    have hPm : sm_cP m t P := hP.cg (fun i hi _ _ => a3.row _ (fun _ => by rcases ht with rfl | rfl <;> omega))
    rw [rds]
    have hst : F_X9_cost (f + 1) 1 t r i3 (zI to) (zI 1) (zI i) i7 μ = F_X9_cost f 2 t r i3 (zI to) (zI 0) (zI i) (zI 0) μ := by
      rw [F_X9_cost]
      simp (disch := omega) only [↓reduceIte, ↓shl_ap, shb_ap, shv_ap, zI_lit, zL_lit, nI_z, lN_z, ofN_z, zI_add, zI_sub, zI_mul, zI_neg, zL_add, zL_sub, zL_mul, zL_neg, zI_l, zI_cl, zI_le_t, zI_le_f, zI_lt_t, zI_lt_f, zI_eq_t, zI_eq_f, zI_in_t, zz_isIn_t, zz_isIn_f, not_true_eq_false, not_false_eq_true, true_or, or_true, false_or, or_false, true_and, and_true, false_and, and_false, Nat.reduceLeDiff, Int.reduceAdd, Int.reduceSub, Int.reduceMul, Int.reduceNeg, Int.reduceToNat, Nat.reduceAdd, Nat.reduceMul, Nat.reduceSub, Int.toNat_natCast, zN_le_t, zN_le_f]
    rw [hst]
    have a1' : F_X9_cost f 2 t r i3 (zI to) (zI 0) (zI i) (zI 0) μ = _ := a1
    rw [a1']
    cases e : (swp P h (sp_c P * sp_r P) 0 (C, false)).2 with
    | true =>
      rw [if_pos rfl, bI_t]
      obtain ⟨μ', k1, k2⟩ := ih (f - sp_c P * sp_r P - 1) (i + 1) (swp P h (sp_c P * sp_r P) 0 (C, false)).1 (zI 0) m (by omega) (by omega) hPm hhm a2 (fun j hj => Nat.le_trans (swp_le j _ 0 _) (hb j hj))
      exact ⟨μ', k1, a3.trans k2⟩
    | false =>
      rw [if_neg (by decide), bI_f]
      have hsame := (swp_f (sp_c P * sp_r P) 0 (C, false) e).1
      rw [hsame] at a2
      have a2to : sh_i m 288 to = zI (C to) := a2 to hto
      obtain ⟨f', hf'⟩ : ∃ q, f - sp_c P * sp_r P - 1 = q + 1 := ⟨f - sp_c P * sp_r P - 2, by omega⟩
      refine ⟨m, ?_, a3⟩
      rw [hf', F_X9_cost]
      by_cases c : i + 1 = 49
      · rw [c]
        simp (disch := omega) only [↓reduceIte, ↓shl_ap, shb_ap, shv_ap, zI_lit, zL_lit, nI_z, lN_z, ofN_z, zI_add, zI_sub, zI_mul, zI_neg, zL_add, zL_sub, zL_mul, zL_neg, zI_l, zI_cl, zI_le_t, zI_le_f, zI_lt_t, zI_lt_f, zI_eq_t, zI_eq_f, zI_in_t, zz_isIn_t, zz_isIn_f, not_true_eq_false, not_false_eq_true, true_or, or_true, false_or, or_false, true_and, and_true, false_and, and_false, Nat.reduceLeDiff, Int.reduceAdd, Int.reduceSub, Int.reduceMul, Int.reduceNeg, Int.reduceToNat, Nat.reduceAdd, Nat.reduceMul, Nat.reduceSub, Int.toNat_natCast, a2to, zN_le_t, zN_le_f]
      · have : i + 1 < 49 := by omega
        simp (disch := omega) only [↓reduceIte, ↓shl_ap, shb_ap, shv_ap, zI_lit, zL_lit, nI_z, lN_z, ofN_z, zI_add, zI_sub, zI_mul, zI_neg, zL_add, zL_sub, zL_mul, zL_neg, zI_l, zI_cl, zI_le_t, zI_le_f, zI_lt_t, zI_lt_f, zI_eq_t, zI_eq_f, zI_in_t, zz_isIn_t, zz_isIn_f, not_true_eq_false, not_false_eq_true, true_or, or_true, false_or, or_false, true_and, and_true, false_and, and_false, Nat.reduceLeDiff, Int.reduceAdd, Int.reduceSub, Int.reduceMul, Int.reduceNeg, Int.reduceToNat, Nat.reduceAdd, Nat.reduceMul, Nat.reduceSub, Int.toNat_natCast, a2to, zN_le_t, zN_le_f]
def cz (fr j : Nat) : Nat := if j = fr then 0 else 1000000
theorem cl_fill {x m : Nat} {v : Int32} (hm : m ≤ 2000) : ∀ (g f i : Nat) (μ : sh_Mem), i + g = m → g < f → ∃ μ', F_J7_fill_53178 f 1 m x v (zI i) (zI m) μ = some μ' ∧ sh_fr (fun a _ => a = x) μ μ' ∧ (∀ j, i ≤ j → j < m → sh_i μ' x j = v) ∧ ∀ j, j < i → sh_i μ' x j = sh_i μ x j := by
  intro g
  induction g with
  | zero =>
    intro f i μ hg hf
    obtain ⟨f, rfl⟩ : ∃ q, f = q + 1 := ⟨f - 1, by omega⟩
    have hi : i = m := by omega
    subst hi
    refine ⟨μ, ?_, sh_fr.rf, fun j h1 h2 => by omega, fun j hj => rfl⟩
    rw [F_J7_fill_53178]
    simp (disch := omega) only [↓reduceIte, ↓shl_ap, shb_ap, shv_ap, zI_lit, zL_lit, nI_z, lN_z, ofN_z, zI_add, zI_sub, zI_mul, zI_neg, zL_add, zL_sub, zL_mul, zL_neg, zI_l, zI_cl, zI_le_t, zI_le_f, zI_lt_t, zI_lt_f, zI_eq_t, zI_eq_f, zI_in_t, zz_isIn_t, zz_isIn_f, not_true_eq_false, not_false_eq_true, true_or, or_true, false_or, or_false, true_and, and_true, false_and, and_false, Nat.reduceLeDiff, Int.reduceAdd, Int.reduceSub, Int.reduceMul, Int.reduceNeg, Int.reduceToNat, Nat.reduceAdd, Nat.reduceMul, Nat.reduceSub, Int.toNat_natCast, zN_le_t, zN_le_f]
  | succ g ih =>
    intro f i μ hg hf
    obtain ⟨f, rfl⟩ : ∃ q, f = q + 1 := ⟨f - 1, by omega⟩
    obtain ⟨μ', k1, k2, k3, k4⟩ := ih f (i + 1) (sh_setI μ x i v) (by omega) (by omega)
    refine ⟨μ', ?_, (sh_fr_I (N := fun a _ => a = x) sh_fr.rf rfl).trans k2, fun j h1 h2 => ?_, fun j hj => ?_⟩
    · rw [← k1, F_J7_fill_53178]
      simp (disch := omega) only [↓reduceIte, ↓shl_ap, shb_ap, shv_ap, zI_lit, zL_lit, nI_z, lN_z, ofN_z, zI_add, zI_sub, zI_mul, zI_neg, zL_add, zL_sub, zL_mul, zL_neg, zI_l, zI_cl, zI_le_t, zI_le_f, zI_lt_t, zI_lt_f, zI_eq_t, zI_eq_f, zI_in_t, zz_isIn_t, zz_isIn_f, not_true_eq_false, not_false_eq_true, true_or, or_true, false_or, or_false, true_and, and_true, false_and, and_false, Nat.reduceLeDiff, Int.reduceAdd, Int.reduceSub, Int.reduceMul, Int.reduceNeg, Int.reduceToNat, Nat.reduceAdd, Nat.reduceMul, Nat.reduceSub, Int.toNat_natCast, zN_le_t, zN_le_f]
      rfl
    · by_cases c : j = i
      · subst c; rw [k4 j (by omega), ir_set]
      · exact k3 j (by omega) h2
    · rw [k4 j (by omega), ir_set_k (by omega)]
theorem cl_cost {μ : sh_Mem} (hk : sp_ok P) (hr : r = 49 ∨ r = 209) (ht : sh_isP t) (hP : sm_cP μ t P) (hc : sm_cL μ r P L) (hl : sl_in P L) {fr to : Nat} (hfr : fr < sp_c P * sp_r P) (hto : to < sp_c P * sp_r P) : ∃ μ', f_X9_cost t r (zI fr) (zI to) μ = some (zI (rds P (sl_h L) 49 (cz fr) to), μ') ∧ sh_fr (fun a _ => a = 288) μ μ' := by
  have hcs := sp_cells hk
  obtain ⟨m, a1, a2, a3, -⟩ := cl_fill (x := 288) (m := 49) (v := zI 1000000) (by omega) 49 sh_fuel 0 μ (by omega) (by rw [sh_fuel_eq]; omega)
  have fr1 : sh_fr (fun a _ => a = 288) m (sh_setI m 288 fr (zI 0)) := sh_fr_I sh_fr.rf rfl
  have fr2 := a2.trans fr1
  have hP1 : sm_cP (sh_setI m 288 fr (zI 0)) t P := hP.cg (fun i hi _ _ => fr2.row _ (fun _ => by rcases ht with rfl | rfl <;> omega))
  obtain ⟨μ', k1, k2⟩ := cl_rds (h := sl_h L) (i3 := zI fr) hk hr ht hl.1 hto 49 sh_fuel 0 (cz fr) (zI 0) (sh_setI m 288 fr (zI 0)) (by omega) (by rw [sh_fuel_eq]; omega) hP1 (fun j hj => by rw [fr2.i _ _ (by omega), hc.2.1 j hj, nI_z]) (fun j hj => by
    unfold cz
    by_cases c : j = fr
    · subst c; rw [ir_set, if_pos rfl]; rfl
    · rw [ir_set_k c, if_neg c]; exact a3 j (by omega) (by omega)) (fun j hj => by unfold cz; split <;> omega)
  refine ⟨μ', ?_, fr2.trans k2⟩
  rw [← k1]
  have a1' : f_J7_fill_53178 288 49 (zI 1000000) μ = some m := a1
  unfold f_X9_cost
  simp (disch := omega) only [↓reduceIte, ↓shl_ap, shb_ap, shv_ap, zI_lit, zL_lit, nI_z, lN_z, ofN_z, zI_add, zI_sub, zI_mul, zI_neg, zL_add, zL_sub, zL_mul, zL_neg, zI_l, zI_cl, zI_le_t, zI_le_f, zI_lt_t, zI_lt_f, zI_eq_t, zI_eq_f, zI_in_t, zz_isIn_t, zz_isIn_f, not_true_eq_false, not_false_eq_true, true_or, or_true, false_or, or_false, true_and, and_true, false_and, and_false, Nat.reduceLeDiff, Int.reduceAdd, Int.reduceSub, Int.reduceMul, Int.reduceNeg, Int.reduceToNat, Nat.reduceAdd, Nat.reduceMul, Nat.reduceSub, Int.toNat_natCast, a1', zN_le_t, zN_le_f]
  rfl
end Wv
