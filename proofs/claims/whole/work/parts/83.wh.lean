/-! who -/
theorem sm_seen.S {μ : sh_Mem} {P : sp_T} (hk : sp_ok P) (h : sm_seen μ P) : ∃ (n : Nat) (sD sX sY sH : Nat → Nat), n ≤ 16 ∧ sh_i μ 208 4 = zI n ∧ sh_i μ 291 71 = zI n ∧ ∀ j, j < n → sD j ≤ 30 ∧ sX j < sp_c P ∧ sY j < sp_r P ∧ sH j ≤ 99 ∧ sh_i μ 216 (4 * j) = zI (sD j) ∧ sh_i μ 216 (4 * j + 1) = zI (sX j) ∧ sh_i μ 216 (4 * j + 2) = zI (sY j) ∧ sh_i μ 216 (4 * j + 3) = zI (sH j) ∧ sh_i μ 338 (3 * j) = zI (sD j) ∧ sh_i μ 338 (3 * j + 1) = zI ((sX j + 7 * sY j : Nat) : Int) ∧ sh_i μ 338 (3 * j + 2) = zI (sH j) := by
  have hb := sp_bd hk
  obtain ⟨n, h1, h2, h3, h4⟩ := h
  have q : ∀ j, ∃ s : Nat × Nat × Nat × Nat, j < n → s.1 ≤ 30 ∧ s.2.1 < sp_c P ∧ s.2.2.1 < sp_r P ∧ s.2.2.2 ≤ 99 ∧ sh_i μ 216 (4 * j) = zI (s.1) ∧ sh_i μ 216 (4 * j + 1) = zI (s.2.1) ∧ sh_i μ 216 (4 * j + 2) = zI (s.2.2.1) ∧ sh_i μ 216 (4 * j + 3) = zI (s.2.2.2) ∧ sh_i μ 338 (3 * j) = zI (s.1) ∧ sh_i μ 338 (3 * j + 1) = zI ((s.2.1 + 7 * s.2.2.1 : Nat) : Int) ∧ sh_i μ 338 (3 * j + 2) = zI (s.2.2.2) := by
    intro j
    by_cases c : j < n
    · obtain ⟨d, x, y, v, a1, a2, a3, a4, b1, b2, b3, b4, c1, c2, c3⟩ := h4 j c
      rw [nI_z] at b1 b2 b3 b4 c1 c2 c3
      exact ⟨(d, x, y, v), fun _ => ⟨a1, a2, a3, a4, b1, b2, b3, b4, c1, c2, c3⟩⟩
    · exact ⟨(0, 0, 0, 0), fun z => absurd z c⟩
  obtain ⟨S, hS⟩ := Classical.axiomOfChoice q
  exact ⟨n, fun j => (S j).1, fun j => (S j).2.1, fun j => (S j).2.2.1, fun j => (S j).2.2.2, h1, by rw [h2, nI_z], by rw [h3, nI_z], fun j hj => hS j hj⟩
/-- what is seen: how many, days, columns, rows, heights -/
abbrev se_T : Type := Nat × (Nat → Nat) × (Nat → Nat) × (Nat → Nat) × (Nat → Nat)
def se_ok (P : sp_T) (S : se_T) : Prop := S.1 ≤ 16 ∧ ∀ j, j < S.1 → S.2.1 j ≤ 30 ∧ S.2.2.1 j < sp_c P ∧ S.2.2.2.1 j < sp_r P ∧ S.2.2.2.2 j ≤ 99
def se_c (μ : sh_Mem) (S : se_T) : Prop := sh_i μ 208 4 = zI S.1 ∧ ∀ j, j < S.1 → sh_i μ 216 (4 * j) = zI (S.2.1 j) ∧ sh_i μ 216 (4 * j + 1) = zI (S.2.2.1 j) ∧ sh_i μ 216 (4 * j + 2) = zI (S.2.2.2.1 j) ∧ sh_i μ 216 (4 * j + 3) = zI (S.2.2.2.2 j)
def se_m (μ : sh_Mem) (S : se_T) : Prop := sh_i μ 291 71 = zI S.1 ∧ ∀ j, j < S.1 → sh_i μ 338 (3 * j) = zI (S.2.1 j) ∧ sh_i μ 338 (3 * j + 1) = zI ((S.2.2.1 j + 7 * S.2.2.2.1 j : Nat) : Int) ∧ sh_i μ 338 (3 * j + 2) = zI (S.2.2.2.2 j)
theorem sm_seen.T {μ : sh_Mem} {P : sp_T} (hk : sp_ok P) (h : sm_seen μ P) : ∃ S, se_ok P S ∧ se_c μ S ∧ se_m μ S := by
  obtain ⟨n, sD, sX, sY, sH, h1, h2, h3, h4⟩ := h.S hk
  refine ⟨(n, sD, sX, sY, sH), ⟨h1, fun j hj => ?_⟩, ⟨h2, fun j hj => ?_⟩, ⟨h3, fun j hj => ?_⟩⟩
  · obtain ⟨a1, a2, a3, a4, -⟩ := h4 j hj
    exact ⟨a1, a2, a3, a4⟩
  · obtain ⟨-, -, -, -, b1, b2, b3, b4, -⟩ := h4 j hj
    exact ⟨b1, b2, b3, b4⟩
  · obtain ⟨-, -, -, -, -, -, -, -, c1, c2, c3⟩ := h4 j hj
    exact ⟨c1, c2, c3⟩
theorem se_c.cg {μ μ' : sh_Mem} {S : se_T} (h : se_c μ S) (h1 : sh_i μ' 208 4 = sh_i μ 208 4) (h2 : sh_i μ' 216 = sh_i μ 216) : se_c μ' S := by unfold se_c at h ⊢; rw [h1, h2]; exact h
theorem se_m.cg {μ μ' : sh_Mem} {S : se_T} (h : se_m μ S) (h1 : sh_i μ' 291 71 = sh_i μ 291 71) (h2 : sh_i μ' 338 = sh_i μ 338) : se_m μ' S := by unfold se_m at h ⊢; rw [h1, h2]; exact h
/-- a land is as it was seen on day d, by the rows from j0 on -/
def asS (P : sp_T) (S : se_T) (D : sl_T) (d j0 : Nat) : Prop := ∀ j, j0 ≤ j → j < S.1 → S.2.1 j = d → sl_d D ≤ 999 ∧ sl_h D (S.2.2.2.1 j * sp_c P + S.2.2.1 j) = S.2.2.2.2 j
section Wh
variable {t q : Nat} {P : sp_T} {L D : sl_T} {S : se_T}
theorem cl_as {μ : sh_Mem} {r d : Nat} (hw : cw μ t P) (hS : se_ok P S) (hc : se_c μ S) (hD : sm_cL μ r P D) (hl : sl_in P D) (hd : sl_d D ≤ 100000) (hr : ldr r) (hd30 : d ≤ 30) : ∀ (g f j : Nat), j + g = S.1 → g < f → (asS P S D d j ∧ F_X0_isAsSeen f 1 r (zI d) (zI ((4 * j : Nat) : Int)) μ = some (1, μ)) ∨ (¬ asS P S D d j ∧ F_X0_isAsSeen f 1 r (zI d) (zI ((4 * j : Nat) : Int)) μ = some (0, μ)) := by
  obtain ⟨w1, w2, w3, w4⟩ := id hw
  have hb := sp_bd w4
  have hcs := sp_cells w4
  obtain ⟨s1, s2⟩ := hS
  obtain ⟨c1, c2⟩ := hc
  intro g
  induction g with
  | zero =>
    intro f j hj hf
    obtain ⟨f, rfl⟩ : ∃ q, f = q + 1 := ⟨f - 1, by omega⟩
    refine Or.inl ⟨fun i h1 h2 => by omega, ?_⟩
    rw [F_X0_isAsSeen]
    simp (disch := omega) only [↓reduceIte, ↓shl_ap, shb_ap, shv_ap, zI_lit, zL_lit, nI_z, lN_z, ofN_z, zI_add, zI_sub, zI_mul, zI_neg, zL_add, zL_sub, zL_mul, zL_neg, zI_l, zI_cl, zI_le_t, zI_le_f, zI_lt_t, zI_lt_f, zI_eq_t, zI_eq_f, zI_in_t, zz_isIn_t, zz_isIn_f, not_true_eq_false, not_false_eq_true, true_or, or_true, false_or, or_false, true_and, and_true, false_and, and_false, Nat.reduceLeDiff, Int.reduceAdd, Int.reduceSub, Int.reduceMul, Int.reduceNeg, Int.reduceToNat, Nat.reduceAdd, Nat.reduceMul, Nat.reduceSub, Int.toNat_natCast, c1, zN_le_t, zN_le_f]
  | succ g ih =>
    intro f j hj hf
    obtain ⟨f, rfl⟩ : ∃ q, f = q + 1 := ⟨f - 1, by omega⟩
    obtain ⟨a1, a2, a3, a4⟩ := s2 j (by omega)
    obtain ⟨b1, b2, b3, b4⟩ := c2 j (by omega)
    have hcell := sp_cell w4 a2 a3
    have hh : sh_i μ (r + 1) (S.2.2.2.1 j * sp_c P + S.2.2.1 j) = zI (sl_h D (S.2.2.2.1 j * sp_c P + S.2.2.1 j)) := by rw [← nI_z]; exact hD.2.1 _ hcell
    have hh9 := hl.1 _ hcell
    have h0 : sh_i μ r 0 = zI (sl_d D) := by rw [← nI_z]; exact hD.1
    have hca : f_X5_cellAt μ t (zI (S.2.2.1 j)) (zI (S.2.2.2.1 j)) = zI ((S.2.2.2.1 j * sp_c P + S.2.2.1 j : Nat) : Int) := by rw [cl_cellAt w3 w4 (by omega) (by omega) (by omega) (by omega), kx_pos a2 a3]
    have hgo : (S.2.1 j = d → sl_d D ≤ 999 ∧ sl_h D (S.2.2.2.1 j * sp_c P + S.2.2.1 j) = S.2.2.2.2 j) → F_X0_isAsSeen (f + 1) 1 r (zI d) (zI ((4 * j : Nat) : Int)) μ = F_X0_isAsSeen f 1 r (zI d) (zI ((4 * (j + 1) : Nat) : Int)) μ → (asS P S D d j ∧ F_X0_isAsSeen (f + 1) 1 r (zI d) (zI ((4 * j : Nat) : Int)) μ = some (1, μ)) ∨ (¬ asS P S D d j ∧ F_X0_isAsSeen (f + 1) 1 r (zI d) (zI ((4 * j : Nat) : Int)) μ = some (0, μ)) := by
      intro hok hst
      rw [hst]
      rcases ih f (j + 1) (by omega) (by omega) with ⟨q1, q2⟩ | ⟨q1, q2⟩
      · refine Or.inl ⟨fun i h1 h2 h3 => ?_, q2⟩
        by_cases z : i = j
        · subst z; exact hok h3
        · exact q1 i (by omega) h2 h3
      · exact Or.inr ⟨fun z => q1 (fun i h1 h2 h3 => z i (by omega) h2 h3), q2⟩
    generalize hA : S.2.2.2.1 j * sp_c P + S.2.2.1 j = A at *
    have x1 : (((4 * j : Nat) : Int) + 1).toNat = 4 * j + 1 := by omega
    have x2 : (((4 * j : Nat) : Int) + 2).toNat = 4 * j + 2 := by omega
    have x3 : (((4 * j : Nat) : Int) + 3).toNat = 4 * j + 3 := by omega
    have x4 : (((4 * j : Nat) : Int) + 4) = ((4 * (j + 1) : Nat) : Int) := by omega
    by_cases c : S.2.1 j = d
    · by_cases cd : sl_d D ≤ 999
      · by_cases ch : sl_h D A = S.2.2.2.2 j
        · refine hgo (fun _ => ⟨cd, ch⟩) ?_
          rw [F_X0_isAsSeen, shr_ap w1]
          simp (disch := omega) only [↓reduceIte, ↓shl_ap, shb_ap, shv_ap, zI_lit, zL_lit, nI_z, lN_z, ofN_z, zI_add, zI_sub, zI_mul, zI_neg, zL_add, zL_sub, zL_mul, zL_neg, zI_l, zI_cl, zI_le_t, zI_le_f, zI_lt_t, zI_lt_f, zI_eq_t, zI_eq_f, zI_in_t, zz_isIn_t, zz_isIn_f, not_true_eq_false, not_false_eq_true, true_or, or_true, false_or, or_false, true_and, and_true, false_and, and_false, Nat.reduceLeDiff, Int.reduceAdd, Int.reduceSub, Int.reduceMul, Int.reduceNeg, Int.reduceToNat, Nat.reduceAdd, Nat.reduceMul, Nat.reduceSub, Int.toNat_natCast, c1, b1, w1, shr_ap w1, shp w2, x1, x2, x3, b2, b3, b4, hca, h0, hh, x4, zN_le_t, zN_le_f]
        · refine Or.inr ⟨fun z => ch (by have := (z j (by omega) (by omega) c).2; rw [hA] at this; exact this), ?_⟩
          rw [F_X0_isAsSeen, shr_ap w1]
          simp (disch := omega) only [↓reduceIte, ↓shl_ap, shb_ap, shv_ap, zI_lit, zL_lit, nI_z, lN_z, ofN_z, zI_add, zI_sub, zI_mul, zI_neg, zL_add, zL_sub, zL_mul, zL_neg, zI_l, zI_cl, zI_le_t, zI_le_f, zI_lt_t, zI_lt_f, zI_eq_t, zI_eq_f, zI_in_t, zz_isIn_t, zz_isIn_f, not_true_eq_false, not_false_eq_true, true_or, or_true, false_or, or_false, true_and, and_true, false_and, and_false, Nat.reduceLeDiff, Int.reduceAdd, Int.reduceSub, Int.reduceMul, Int.reduceNeg, Int.reduceToNat, Nat.reduceAdd, Nat.reduceMul, Nat.reduceSub, Int.toNat_natCast, c1, b1, w1, shr_ap w1, shp w2, x1, x2, x3, b2, b3, b4, hca, h0, hh, zN_le_t, zN_le_f]
      · refine Or.inr ⟨fun z => cd (z j (by omega) (by omega) c).1, ?_⟩
        rw [F_X0_isAsSeen, shr_ap w1]
        simp (disch := omega) only [↓reduceIte, ↓shl_ap, shb_ap, shv_ap, zI_lit, zL_lit, nI_z, lN_z, ofN_z, zI_add, zI_sub, zI_mul, zI_neg, zL_add, zL_sub, zL_mul, zL_neg, zI_l, zI_cl, zI_le_t, zI_le_f, zI_lt_t, zI_lt_f, zI_eq_t, zI_eq_f, zI_in_t, zz_isIn_t, zz_isIn_f, not_true_eq_false, not_false_eq_true, true_or, or_true, false_or, or_false, true_and, and_true, false_and, and_false, Nat.reduceLeDiff, Int.reduceAdd, Int.reduceSub, Int.reduceMul, Int.reduceNeg, Int.reduceToNat, Nat.reduceAdd, Nat.reduceMul, Nat.reduceSub, Int.toNat_natCast, c1, b1, w1, shr_ap w1, shp w2, x1, x2, b2, b3, hca, h0, zN_le_t, zN_le_f]
    · refine hgo (fun z => absurd z c) ?_
      rw [F_X0_isAsSeen]
      simp (disch := omega) only [↓reduceIte, ↓shl_ap, shb_ap, shv_ap, zI_lit, zL_lit, nI_z, lN_z, ofN_z, zI_add, zI_sub, zI_mul, zI_neg, zL_add, zL_sub, zL_mul, zL_neg, zI_l, zI_cl, zI_le_t, zI_le_f, zI_lt_t, zI_lt_f, zI_eq_t, zI_eq_f, zI_in_t, zz_isIn_t, zz_isIn_f, not_true_eq_false, not_false_eq_true, true_or, or_true, false_or, or_false, true_and, and_true, false_and, and_false, Nat.reduceLeDiff, Int.reduceAdd, Int.reduceSub, Int.reduceMul, Int.reduceNeg, Int.reduceToNat, Nat.reduceAdd, Nat.reduceMul, Nat.reduceSub, Int.toNat_natCast, c1, b1, x4, zN_le_t, zN_le_f]
theorem rf_as {μ : sh_Mem} {d : Nat} (hk : sp_ok P) (hS : se_ok P S) (hc : se_m μ S) (hD : sm_mL (sh_i μ 330) 0 P D) (hl : sl_in P D) (hd : sl_d D ≤ 100000) (hd30 : d ≤ 30) : ∀ (g f j : Nat), j + g = S.1 → g < f → (asS P S D d j ∧ F_X12_isAsSeen f 1 (zI d) (zI j) μ = some (1, μ)) ∨ (¬ asS P S D d j ∧ F_X12_isAsSeen f 1 (zI d) (zI j) μ = some (0, μ)) := by
  have hb := sp_bd hk
  obtain ⟨s1, s2⟩ := hS
  obtain ⟨c1, c2⟩ := hc
  intro g
  induction g with
  | zero =>
    intro f j hj hf
    obtain ⟨f, rfl⟩ : ∃ q, f = q + 1 := ⟨f - 1, by omega⟩
    refine Or.inl ⟨fun i h1 h2 => by omega, ?_⟩
    rw [F_X12_isAsSeen]
    simp (disch := omega) only [↓reduceIte, ↓shl_ap, shb_ap, shv_ap, zI_lit, zL_lit, nI_z, lN_z, ofN_z, zI_add, zI_sub, zI_mul, zI_neg, zL_add, zL_sub, zL_mul, zL_neg, zI_l, zI_cl, zI_le_t, zI_le_f, zI_lt_t, zI_lt_f, zI_eq_t, zI_eq_f, zI_in_t, zz_isIn_t, zz_isIn_f, not_true_eq_false, not_false_eq_true, true_or, or_true, false_or, or_false, true_and, and_true, false_and, and_false, Nat.reduceLeDiff, Int.reduceAdd, Int.reduceSub, Int.reduceMul, Int.reduceNeg, Int.reduceToNat, Nat.reduceAdd, Nat.reduceMul, Nat.reduceSub, Int.toNat_natCast, c1, zN_le_t, zN_le_f]
  | succ g ih =>
    intro f j hj hf
    obtain ⟨f, rfl⟩ : ∃ q, f = q + 1 := ⟨f - 1, by omega⟩
    obtain ⟨a1, a2, a3, a4⟩ := s2 j (by omega)
    obtain ⟨b1, b2, b3⟩ := c2 j (by omega)
    have hcell := sp_cell hk a2 a3
    have hh9 := hl.1 _ hcell
    have h0 : sh_i μ 330 (Int.toNat 0) = zI (sl_d D) := by rw [← nI_z]; exact hD.1
    have h0' : sh_i μ 330 0 = zI (sl_d D) := h0
    have hH := rf_heightOf hD hk a2 a3
    have hgo : (S.2.1 j = d → sl_d D ≤ 999 ∧ sl_h D (S.2.2.2.1 j * sp_c P + S.2.2.1 j) = S.2.2.2.2 j) → F_X12_isAsSeen (f + 1) 1 (zI d) (zI j) μ = F_X12_isAsSeen f 1 (zI d) (zI ((j + 1 : Nat) : Int)) μ → (asS P S D d j ∧ F_X12_isAsSeen (f + 1) 1 (zI d) (zI j) μ = some (1, μ)) ∨ (¬ asS P S D d j ∧ F_X12_isAsSeen (f + 1) 1 (zI d) (zI j) μ = some (0, μ)) := by
      intro hok hst
      rw [hst]
      rcases ih f (j + 1) (by omega) (by omega) with ⟨q1, q2⟩ | ⟨q1, q2⟩
      · refine Or.inl ⟨fun i h1 h2 h3 => ?_, q2⟩
        by_cases z : i = j
        · subst z; exact hok h3
        · exact q1 i (by omega) h2 h3
      · exact Or.inr ⟨fun z => q1 (fun i h1 h2 h3 => z i (by omega) h2 h3), q2⟩
    generalize hA : S.2.2.2.1 j * sp_c P + S.2.2.1 j = A at *
    have x0 : (3 * (j : Int)).toNat = 3 * j := by omega
    have x1 : (3 * (j : Int) + 1).toNat = 3 * j + 1 := by omega
    have x2 : (3 * (j : Int) + 2).toNat = 3 * j + 2 := by omega
    by_cases c : S.2.1 j = d
    · by_cases cd : sl_d D ≤ 999
      · by_cases ch : sl_h D A = S.2.2.2.2 j
        · refine hgo (fun _ => ⟨cd, ch⟩) ?_
          rw [F_X12_isAsSeen]
          simp (disch := omega) only [↓reduceIte, ↓shl_ap, shb_ap, shv_ap, zI_lit, zL_lit, nI_z, lN_z, ofN_z, zI_add, zI_sub, zI_mul, zI_neg, zL_add, zL_sub, zL_mul, zL_neg, zI_l, zI_cl, zI_le_t, zI_le_f, zI_lt_t, zI_lt_f, zI_eq_t, zI_eq_f, zI_in_t, zz_isIn_t, zz_isIn_f, not_true_eq_false, not_false_eq_true, true_or, or_true, false_or, or_false, true_and, and_true, false_and, and_false, Nat.reduceLeDiff, Int.reduceAdd, Int.reduceSub, Int.reduceMul, Int.reduceNeg, Int.reduceToNat, Nat.reduceAdd, Nat.reduceMul, Nat.reduceSub, Int.toNat_natCast, c1, x0, b1, h0, h0', x1, b2, hH, x2, b3, zN_le_t, zN_le_f]
          rfl
        · refine Or.inr ⟨fun z => ch (by have := (z j (by omega) (by omega) c).2; rw [hA] at this; exact this), ?_⟩
          rw [F_X12_isAsSeen]
          simp (disch := omega) only [↓reduceIte, ↓shl_ap, shb_ap, shv_ap, zI_lit, zL_lit, nI_z, lN_z, ofN_z, zI_add, zI_sub, zI_mul, zI_neg, zL_add, zL_sub, zL_mul, zL_neg, zI_l, zI_cl, zI_le_t, zI_le_f, zI_lt_t, zI_lt_f, zI_eq_t, zI_eq_f, zI_in_t, zz_isIn_t, zz_isIn_f, not_true_eq_false, not_false_eq_true, true_or, or_true, false_or, or_false, true_and, and_true, false_and, and_false, Nat.reduceLeDiff, Int.reduceAdd, Int.reduceSub, Int.reduceMul, Int.reduceNeg, Int.reduceToNat, Nat.reduceAdd, Nat.reduceMul, Nat.reduceSub, Int.toNat_natCast, c1, x0, b1, h0, h0', x1, b2, hH, x2, b3, zN_le_t, zN_le_f]
      · refine Or.inr ⟨fun z => cd (z j (by omega) (by omega) c).1, ?_⟩
        rw [F_X12_isAsSeen]
        simp (disch := omega) only [↓reduceIte, ↓shl_ap, shb_ap, shv_ap, zI_lit, zL_lit, nI_z, lN_z, ofN_z, zI_add, zI_sub, zI_mul, zI_neg, zL_add, zL_sub, zL_mul, zL_neg, zI_l, zI_cl, zI_le_t, zI_le_f, zI_lt_t, zI_lt_f, zI_eq_t, zI_eq_f, zI_in_t, zz_isIn_t, zz_isIn_f, not_true_eq_false, not_false_eq_true, true_or, or_true, false_or, or_false, true_and, and_true, false_and, and_false, Nat.reduceLeDiff, Int.reduceAdd, Int.reduceSub, Int.reduceMul, Int.reduceNeg, Int.reduceToNat, Nat.reduceAdd, Nat.reduceMul, Nat.reduceSub, Int.toNat_natCast, c1, x0, b1, h0, h0', zN_le_t, zN_le_f]
    · refine hgo (fun z => absurd z c) ?_
      rw [F_X12_isAsSeen]
      simp (disch := omega) only [↓reduceIte, ↓shl_ap, shb_ap, shv_ap, zI_lit, zL_lit, nI_z, lN_z, ofN_z, zI_add, zI_sub, zI_mul, zI_neg, zL_add, zL_sub, zL_mul, zL_neg, zI_l, zI_cl, zI_le_t, zI_le_f, zI_lt_t, zI_lt_f, zI_eq_t, zI_eq_f, zI_in_t, zz_isIn_t, zz_isIn_f, not_true_eq_false, not_false_eq_true, true_or, or_true, false_or, or_false, true_and, and_true, false_and, and_false, Nat.reduceLeDiff, Int.reduceAdd, Int.reduceSub, Int.reduceMul, Int.reduceNeg, Int.reduceToNat, Nat.reduceAdd, Nat.reduceMul, Nat.reduceSub, Int.toNat_natCast, c1, x0, b1, zN_le_t, zN_le_f]
      rfl
def nW (t a k : Nat) : Prop := (218 ≤ a ∧ a ≤ 259) ∨ (a = 55 ∧ 1 ≤ k) ∨ a = 56 ∨ a = t + 7 ∨ a = t + 10 ∨ a = t + 13
theorem nW_qA {r k : Nat} (ht : sh_isP t) (h : nW t r k) : qA r k := by
  rcases ht with rfl | rfl <;> (unfold nW at h; refine ⟨by omega, ?_⟩; unfold sm_A sm_S; omega)
theorem nW_cw {μ μ' : sh_Mem} (hf : sh_fr (nW t) μ μ') (hw : cw μ t P) : cw μ' t P := by
  have ht := hw.2.1
  exact hw.cg hf.1 (fun j hj h7 h10 => hf.row _ (fun k => by rcases ht with rfl | rfl <;> (unfold nW; omega)))
theorem nW_49 {μ μ' : sh_Mem} (ht : sh_isP t) (hf : sh_fr (nW t) μ μ') (hc : sm_cL μ 49 P L) : sm_cL μ' 49 P L := hc.cg (fun j hj => hf.row _ (fun k => by rcases ht with rfl | rfl <;> (unfold nW; omega)))
theorem nW_se {μ μ' : sh_Mem} (ht : sh_isP t) (hf : sh_fr (nW t) μ μ') (hc : se_c μ S) : se_c μ' S := hc.cg (hf.i _ _ (by rcases ht with rfl | rfl <;> (unfold nW; omega))) (hf.row _ (fun k => by rcases ht with rfl | rfl <;> (unfold nW; omega)))
/-- each is asked, on a land of his own -/
theorem cl_each (hl : sl_in P L) (hd : sl_d L ≤ 999) (hq : q < sp_nt P) : ∀ (g f p : Nat) (μ : sh_Mem), p + g = sp_np P → g < f → cw μ t P → sm_cL μ 49 P L → (∀ p', p' < p → sm_cL μ (218 + 6 * p') P (aL P L p' q)) → ∃ μ', F_X0_askEach f 1 49 (zI q) (zI p) μ = some μ' ∧ sh_fr (nW t) μ μ' ∧ ∀ p', p' < sp_np P → sm_cL μ' (218 + 6 * p') P (aL P L p' q) := by
  intro g
  induction g with
  | zero =>
    intro f p μ hp hf hw hc hO
    obtain ⟨f, rfl⟩ : ∃ q, f = q + 1 := ⟨f - 1, by omega⟩
    obtain ⟨w1, w2, w3, w4⟩ := id hw
    have hb := sp_bd w4
    have hp : p = sp_np P := by omega
    subst hp
    refine ⟨μ, ?_, sh_fr.rf, hO⟩
    rw [F_X0_askEach, shr_ap w1]
    simp (disch := omega) only [↓reduceIte, ↓shl_ap, shb_ap, shv_ap, zI_lit, zL_lit, nI_z, lN_z, ofN_z, zI_add, zI_sub, zI_mul, zI_neg, zL_add, zL_sub, zL_mul, zL_neg, zI_l, zI_cl, zI_le_t, zI_le_f, zI_lt_t, zI_lt_f, zI_eq_t, zI_eq_f, zI_in_t, zz_isIn_t, zz_isIn_f, not_true_eq_false, not_false_eq_true, true_or, or_true, false_or, or_false, true_and, and_true, false_and, and_false, Nat.reduceLeDiff, Int.reduceAdd, Int.reduceSub, Int.reduceMul, Int.reduceNeg, Int.reduceToNat, Nat.reduceAdd, Nat.reduceMul, Nat.reduceSub, Int.toNat_natCast, w1, shr_ap w1, shp w2, w3.2.2.2.1, zN_le_t, zN_le_f]
  | succ g ih =>
    intro f p μ hp hf hw hc hO
    obtain ⟨f, rfl⟩ : ∃ q, f = q + 1 := ⟨f - 1, by omega⟩
    obtain ⟨w1, w2, w3, w4⟩ := id hw
    have hb := sp_bd w4
    obtain ⟨m1, a1, a2, a3, a4, a5⟩ := cl_copy (μ := μ) (r := 218 + 6 * p) (q := 49) (by omega)
    have f1 : sh_fr (nW t) μ m1 := a2.mono (fun r k z => by unfold nW; omega)
    have hc1 : sm_cL m1 (218 + 6 * p) P L := hc.of w4 a3 a4 a5
    have hw1 := nW_cw f1 hw
    obtain ⟨m2, b1, b2, b3, b4, b5⟩ := cl_asked (r := 218 + 6 * p) (p := p) hw1 hc1 hl (by omega) (by omega) hq (by unfold ldr; omega)
    have f2 : sh_fr (nW t) m1 m2 := b4.mono (fun r k z => by unfold nA at z; unfold nW; omega)
    have ht := sh_isP_r w2
    obtain ⟨μ', k1, k2, k3⟩ := ih f (p + 1) m2 (by omega) (by omega) (nW_cw f2 hw1) (nW_49 w2 f2 (nW_49 w2 f1 hc)) (fun p' h1 => by
      by_cases z : p' = p
      · subst z; exact b2
      · exact (hO p' (by omega)).cg (fun j hj => (b5 _ (by omega) (by omega) (by omega) (by omega)).trans (a2.row _ (fun k => by omega))))
    refine ⟨μ', ?_, f1.trans (f2.trans k2), k3⟩
    rw [← k1, F_X0_askEach, shr_ap w1]
    simp (disch := omega) only [↓reduceIte, ↓shl_ap, shb_ap, shv_ap, zI_lit, zL_lit, nI_z, lN_z, ofN_z, zI_add, zI_sub, zI_mul, zI_neg, zL_add, zL_sub, zL_mul, zL_neg, zI_l, zI_cl, zI_le_t, zI_le_f, zI_lt_t, zI_lt_f, zI_eq_t, zI_eq_f, zI_in_t, zz_isIn_t, zz_isIn_f, not_true_eq_false, not_false_eq_true, true_or, or_true, false_or, or_false, true_and, and_true, false_and, and_false, Nat.reduceLeDiff, Int.reduceAdd, Int.reduceSub, Int.reduceMul, Int.reduceNeg, Int.reduceToNat, Nat.reduceAdd, Nat.reduceMul, Nat.reduceSub, Int.toNat_natCast, w1, shr_ap w1, shp w2, w3.2.2.2.1, a1, b1, zN_le_t, zN_le_f]
    rfl
def clr (s p : Nat) : Nat := if s / 2 ^ p % 2 = 1 then s - 2 ^ p else s
theorem zI_clr {s p : Nat} (hs : s < 128) (hp : p < 7) : zI s &&& ((zI 1 <<< zI p) ^^^ zI (-1)) = zI (clr s p) := by
  have : ∀ s : Nat, s < 128 → ∀ p : Nat, p < 7 → zI s &&& ((zI 1 <<< zI p) ^^^ zI (-1)) = zI (clr s p) := by decide +kernel
  exact this s hs p hp
theorem clr_bit {s p q : Nat} (hs : s < 128) (hp : p < 7) (hq : q < 7) : clr s p / 2 ^ q % 2 = if q = p then 0 else s / 2 ^ q % 2 := by
  have : ∀ s : Nat, s < 128 → ∀ p : Nat, p < 7 → ∀ q : Nat, q < 7 → clr s p / 2 ^ q % 2 = if q = p then 0 else s / 2 ^ q % 2 := by decide +kernel
  exact this s hs p hp q hq
theorem clr_le {s p : Nat} : clr s p ≤ s := by
  unfold clr
  split
  · exact Nat.sub_le _ _
  · exact Nat.le_refl _
theorem zI_or {s p : Nat} (hs : s < 128) (hp : p < 7) : zI s ||| (zI 1 <<< zI p) = zI ((s ||| 2 ^ p : Nat) : Int) := by
  have : ∀ s : Nat, s < 128 → ∀ p : Nat, p < 7 → zI s ||| (zI 1 <<< zI p) = zI ((s ||| 2 ^ p : Nat) : Int) := by decide +kernel
  exact this s hs p hp
theorem or_bit {s p q : Nat} (hs : s < 128) (hp : p < 7) (hq : q < 7) : (s ||| 2 ^ p) / 2 ^ q % 2 = if q = p then 1 else s / 2 ^ q % 2 := by
  have : ∀ s : Nat, s < 128 → ∀ p : Nat, p < 7 → ∀ q : Nat, q < 7 → (s ||| 2 ^ p) / 2 ^ q % 2 = if q = p then 1 else s / 2 ^ q % 2 := by decide +kernel
  exact this s hs p hp q hq
theorem or_lt {s p n : Nat} (hs : s < 2 ^ n) (hp : p < n) : s ||| 2 ^ p < 2 ^ n := Nat.or_lt_two_pow hs (Nat.pow_lt_pow_right (by omega) hp)
theorem all_bit {n p : Nat} (hn : n ≤ 7) (hp : p < n) : (2 ^ n - 1) / 2 ^ p % 2 = 1 := by
  have : ∀ n : Nat, n < 8 → ∀ p : Nat, p < n → (2 ^ n - 1) / 2 ^ p % 2 = 1 := by decide +kernel
  exact this n (by omega) p hp
theorem bit_hi {n s p : Nat} (hn : n ≤ 7) (hs : s < 2 ^ n) (hp : n ≤ p) : s / 2 ^ p % 2 = 0 := by
  rw [Nat.div_eq_of_lt (Nat.lt_of_lt_of_le hs (Nat.pow_le_pow_right (by omega) hp))]
theorem bits_u {n s s' : Nat} (hn : n ≤ 7) (hs : s < 2 ^ n) (hs' : s' < 2 ^ n) (h : ∀ p, p < n → (s / 2 ^ p % 2 = 1 ↔ s' / 2 ^ p % 2 = 1)) : s = s' := by
  have h128 := pw128 hn
  have hb : ∀ p, s / 2 ^ p % 2 = s' / 2 ^ p % 2 := by
    intro p
    by_cases c : p < n
    · have := h p c
      omega
    · rw [bit_hi hn hs (by omega), bit_hi hn hs' (by omega)]
  have b0 := hb 0
  have b1 := hb 1
  have b2 := hb 2
  have b3 := hb 3
  have b4 := hb 4
  have b5 := hb 5
  have b6 := hb 6
  simp only [Nat.reducePow] at b0 b1 b2 b3 b4 b5 b6
  omega
/-- the land behind d days, if p was asked -/
def wL (P : sp_T) (L : sl_T) (q p d : Nat) : sl_T := dN P 0 d (aL P L p q)
theorem wL_s {p d : Nat} : wL P L q p (d + 1) = dP P 0 (wL P L q p d) := dN_s d _
theorem wL_in {p d : Nat} (hl : sl_in P L) : sl_in P (wL P L q p d) := dN_in d _ (aL_in hl)
theorem wL_d {p d : Nat} : sl_d (wL P L q p d) = sl_d L + d := by unfold wL; rw [dN_d, aL_d]
def fitP (P : sp_T) (S : se_T) (L : sl_T) (q p d0 : Nat) : Prop := ∀ d, d0 ≤ d → d ≤ 30 → asS P S (wL P L q p d) d 0
theorem cl_who2 {i2 : Int32} {d : Nat} (hd30 : d ≤ 30) (hS : se_ok P S) (hl : sl_in P L) (hd : sl_d L ≤ 999) : ∀ (g f p s : Nat) (μ : sh_Mem), p + g = sp_np P → g < f → cw μ t P → se_c μ S → s < 2 ^ sp_np P → (∀ p', p' < sp_np P → sm_cL μ (218 + 6 * p') P (wL P L q p' (if p' < p then d + 1 else d))) → ∃ (s' : Nat) (μ' : sh_Mem), F_X0_whoFits f 2 49 i2 (zI s) (zI d) (zI p) μ = F_X0_whoFits (f - g - 1) 1 49 i2 (zI s') (zI ((d + 1 : Nat) : Int)) (zI 0) μ' ∧ sh_fr (nW t) μ μ' ∧ s' < 2 ^ sp_np P ∧ (∀ p', p' < sp_np P → sm_cL μ' (218 + 6 * p') P (wL P L q p' (d + 1))) ∧ ∀ p', p' < sp_np P → (s' / 2 ^ p' % 2 = 1 ↔ s / 2 ^ p' % 2 = 1 ∧ (p ≤ p' → asS P S (wL P L q p' d) d 0)) := by
  intro g
  induction g with
  | zero =>
    intro f p s μ hp hf hw hc hs hO
    obtain ⟨f, rfl⟩ : ∃ q, f = q + 1 := ⟨f - 1, by omega⟩
    obtain ⟨w1, w2, w3, w4⟩ := id hw
    have hb := sp_bd w4
    have hp : p = sp_np P := by omega
    subst hp
    refine ⟨s, μ, ?_, sh_fr.rf, hs, fun p' h1 => ?_, fun p' h1 => ⟨fun z => ⟨z, fun w => by omega⟩, fun z => z.1⟩⟩
    · rw [show f + 1 - 0 - 1 = f by omega, F_X0_whoFits, shr_ap w1]
      simp (disch := omega) only [↓reduceIte, ↓shl_ap, shb_ap, shv_ap, zI_lit, zL_lit, nI_z, lN_z, ofN_z, zI_add, zI_sub, zI_mul, zI_neg, zL_add, zL_sub, zL_mul, zL_neg, zI_l, zI_cl, zI_le_t, zI_le_f, zI_lt_t, zI_lt_f, zI_eq_t, zI_eq_f, zI_in_t, zz_isIn_t, zz_isIn_f, not_true_eq_false, not_false_eq_true, true_or, or_true, false_or, or_false, true_and, and_true, false_and, and_false, Nat.reduceLeDiff, Int.reduceAdd, Int.reduceSub, Int.reduceMul, Int.reduceNeg, Int.reduceToNat, Nat.reduceAdd, Nat.reduceMul, Nat.reduceSub, Int.toNat_natCast, w1, shr_ap w1, shp w2, w3.2.2.2.1, zN_le_t, zN_le_f]
      rfl
    · have := hO p' h1
      rw [if_pos h1] at this
      exact this
  | succ g ih =>
    intro f p s μ hp hf hw hc hs hO
    obtain ⟨f, rfl⟩ : ∃ q, f = q + 1 := ⟨f - 1, by omega⟩
    obtain ⟨w1, w2, w3, w4⟩ := id hw
    have hb := sp_bd w4
    have ht := sh_isP_r w2
    have h128 := pw128 (show sp_np P ≤ 7 by omega)
    have hpp : p < sp_np P := by omega
    have hOp := hO p hpp
    rw [if_neg (by omega)] at hOp
    have hin := wL_in (q := q) (p := p) (d := d) hl
    have hday := wL_d (P := P) (L := L) (q := q) (p := p) (d := d)
    have has := cl_as (r := 218 + 6 * p) (d := d) hw hS hc hOp hin (by omega) (by unfold ldr; omega) hd30 S.1 sh_fuel 0 (by omega) (by have := hS.1; rw [sh_fuel_eq]; omega)
    obtain ⟨m, b1, b2, b3, b4⟩ := cl_day (s := 0) (r := 218 + 6 * p) hw hOp hin (by omega) (by omega) (by unfold ldr; omega)
    have b1' : f_X10_passDay (218 + 6 * p) (zI 0) μ = some m := b1
    rw [← wL_s] at b2
    have f1 : sh_fr (nW t) μ m := b3.mono (fun r k z => by unfold nA at z; unfold nW; omega)
    have hO1 : ∀ p', p' < sp_np P → sm_cL m (218 + 6 * p') P (wL P L q p' (if p' < p + 1 then d + 1 else d)) := by
      intro p' h1
      by_cases z : p' = p
      · subst z; rw [if_pos (by omega)]; exact b2
      · have := hO p' h1
        have e : (if p' < p + 1 then d + 1 else d) = if p' < p then d + 1 else d := by
          by_cases y : p' < p
          · rw [if_pos y, if_pos (by omega)]
          · rw [if_neg y, if_neg (by omega)]
        rw [e]
        exact this.cg (fun j hj => b4 _ (by omega) (by omega) (by omega) (by omega) (by omega))
    rcases has with ⟨q1, q2⟩ | ⟨q1, q2⟩
    · obtain ⟨s', μ', k1, k2, k3, k4, k5⟩ := ih f (p + 1) s m (by omega) (by omega) (nW_cw f1 hw) (nW_se w2 f1 hc) hs hO1
      refine ⟨s', μ', ?_, f1.trans k2, k3, k4, fun p' h1 => ?_⟩
      · have q2' : f_X0_isAsSeen (218 + 6 * p) (zI d) μ = some (1, μ) := q2
        rw [show f + 1 - (g + 1) - 1 = f - g - 1 by omega, ← k1, F_X0_whoFits, shr_ap w1]
        simp (disch := omega) only [↓reduceIte, ↓shl_ap, shb_ap, shv_ap, zI_lit, zL_lit, nI_z, lN_z, ofN_z, zI_add, zI_sub, zI_mul, zI_neg, zL_add, zL_sub, zL_mul, zL_neg, zI_l, zI_cl, zI_le_t, zI_le_f, zI_lt_t, zI_lt_f, zI_eq_t, zI_eq_f, zI_in_t, zz_isIn_t, zz_isIn_f, not_true_eq_false, not_false_eq_true, true_or, or_true, false_or, or_false, true_and, and_true, false_and, and_false, Nat.reduceLeDiff, Int.reduceAdd, Int.reduceSub, Int.reduceMul, Int.reduceNeg, Int.reduceToNat, Nat.reduceAdd, Nat.reduceMul, Nat.reduceSub, Int.toNat_natCast, w1, shr_ap w1, shp w2, w3.2.2.2.1, q2', b1', zN_le_t, zN_le_f]
        rfl
      · rw [k5 p' h1]
        constructor
        · rintro ⟨z1, z2⟩
          refine ⟨z1, fun w => ?_⟩
          by_cases y : p' = p
          · subst y; exact q1
          · exact z2 (by omega)
        · rintro ⟨z1, z2⟩
          exact ⟨z1, fun w => z2 (by omega)⟩
    · obtain ⟨s', μ', k1, k2, k3, k4, k5⟩ := ih f (p + 1) (clr s p) m (by omega) (by omega) (nW_cw f1 hw) (nW_se w2 f1 hc) (Nat.lt_of_le_of_lt clr_le hs) hO1
      refine ⟨s', μ', ?_, f1.trans k2, k3, k4, fun p' h1 => ?_⟩
      · have q2' : f_X0_isAsSeen (218 + 6 * p) (zI d) μ = some (0, μ) := q2
        have hz := zI_clr (s := s) (p := p) (by omega) (by omega)
        rw [show f + 1 - (g + 1) - 1 = f - g - 1 by omega, ← k1, F_X0_whoFits, shr_ap w1]
        simp (disch := omega) only [↓reduceIte, ↓shl_ap, shb_ap, shv_ap, zI_lit, zL_lit, nI_z, lN_z, ofN_z, zI_add, zI_sub, zI_mul, zI_neg, zL_add, zL_sub, zL_mul, zL_neg, zI_l, zI_cl, zI_le_t, zI_le_f, zI_lt_t, zI_lt_f, zI_eq_t, zI_eq_f, zI_in_t, zz_isIn_t, zz_isIn_f, not_true_eq_false, not_false_eq_true, true_or, or_true, false_or, or_false, true_and, and_true, false_and, and_false, Nat.reduceLeDiff, Int.reduceAdd, Int.reduceSub, Int.reduceMul, Int.reduceNeg, Int.reduceToNat, Nat.reduceAdd, Nat.reduceMul, Nat.reduceSub, Int.toNat_natCast, w1, shr_ap w1, shp w2, w3.2.2.2.1, q2', zI_and31, hz, b1', zN_le_t, zN_le_f]
        rfl
      · rw [k5 p' h1, clr_bit (by omega) (by omega) (by omega)]
        by_cases y : p' = p
        · subst y
          rw [if_pos rfl]
          constructor
          · rintro ⟨z1, z2⟩; omega
          · rintro ⟨z1, z2⟩; exact absurd (z2 (by omega)) q1
        · rw [if_neg y]
          constructor
          · rintro ⟨z1, z2⟩; exact ⟨z1, fun w => z2 (by omega)⟩
          · rintro ⟨z1, z2⟩; exact ⟨z1, fun w => z2 (by omega)⟩
theorem cl_who1 {i2 : Int32} (hS : se_ok P S) (hl : sl_in P L) (hd : sl_d L ≤ 999) : ∀ (g f d s : Nat) (μ : sh_Mem), d + g = 31 → 10 * g + 1 < f → cw μ t P → se_c μ S → s < 2 ^ sp_np P → (∀ p', p' < sp_np P → sm_cL μ (218 + 6 * p') P (wL P L q p' d)) → ∃ (s' : Nat) (μ' : sh_Mem), F_X0_whoFits f 1 49 i2 (zI s) (zI d) (zI 0) μ = some (zI s', μ') ∧ sh_fr (nW t) μ μ' ∧ s' < 2 ^ sp_np P ∧ ∀ p', p' < sp_np P → (s' / 2 ^ p' % 2 = 1 ↔ s / 2 ^ p' % 2 = 1 ∧ fitP P S L q p' d) := by
  intro g
  induction g with
  | zero =>
    intro f d s μ hg hf hw hc hs hO
    obtain ⟨f, rfl⟩ : ∃ q, f = q + 1 := ⟨f - 1, by omega⟩
    refine ⟨s, μ, ?_, sh_fr.rf, hs, fun p' h1 => ⟨fun z => ⟨z, fun d' w1 w2 => by omega⟩, fun z => z.1⟩⟩
    rw [F_X0_whoFits]
    simp (disch := omega) only [↓reduceIte, ↓shl_ap, shb_ap, shv_ap, zI_lit, zL_lit, nI_z, lN_z, ofN_z, zI_add, zI_sub, zI_mul, zI_neg, zL_add, zL_sub, zL_mul, zL_neg, zI_l, zI_cl, zI_le_t, zI_le_f, zI_lt_t, zI_lt_f, zI_eq_t, zI_eq_f, zI_in_t, zz_isIn_t, zz_isIn_f, not_true_eq_false, not_false_eq_true, true_or, or_true, false_or, or_false, true_and, and_true, false_and, and_false, Nat.reduceLeDiff, Int.reduceAdd, Int.reduceSub, Int.reduceMul, Int.reduceNeg, Int.reduceToNat, Nat.reduceAdd, Nat.reduceMul, Nat.reduceSub, Int.toNat_natCast, zN_le_t, zN_le_f]
  | succ g ih =>
    intro f d s μ hg hf hw hc hs hO
    obtain ⟨f, rfl⟩ : ∃ q, f = q + 1 := ⟨f - 1, by omega⟩
    obtain ⟨w1, w2, w3, w4⟩ := id hw
    have hb := sp_bd w4
    obtain ⟨s1, m, a1, a2, a3, a4, a5⟩ := cl_who2 (q := q) (i2 := i2) (d := d) (by omega) hS hl hd (sp_np P) f 0 s μ (by omega) (by omega) hw hc hs (fun p' h1 => by rw [if_neg (by omega)]; exact hO p' h1)
    obtain ⟨s', μ', k1, k2, k3, k4⟩ := ih (f - sp_np P - 1) (d + 1) s1 m (by omega) (by omega) (nW_cw a2 hw) (nW_se w2 a2 hc) a3 a4
    refine ⟨s', μ', ?_, a2.trans k2, k3, fun p' h1 => ?_⟩
    · have a1' : F_X0_whoFits f 2 49 i2 (zI s) (zI d) (zI 0) μ = _ := a1
      rw [← k1, ← a1', F_X0_whoFits]
      simp (disch := omega) only [↓reduceIte, ↓shl_ap, shb_ap, shv_ap, zI_lit, zL_lit, nI_z, lN_z, ofN_z, zI_add, zI_sub, zI_mul, zI_neg, zL_add, zL_sub, zL_mul, zL_neg, zI_l, zI_cl, zI_le_t, zI_le_f, zI_lt_t, zI_lt_f, zI_eq_t, zI_eq_f, zI_in_t, zz_isIn_t, zz_isIn_f, not_true_eq_false, not_false_eq_true, true_or, or_true, false_or, or_false, true_and, and_true, false_and, and_false, Nat.reduceLeDiff, Int.reduceAdd, Int.reduceSub, Int.reduceMul, Int.reduceNeg, Int.reduceToNat, Nat.reduceAdd, Nat.reduceMul, Nat.reduceSub, Int.toNat_natCast, zN_le_t, zN_le_f]
    · rw [k4 p' h1, a5 p' h1]
      constructor
      · rintro ⟨⟨z1, z2⟩, z3⟩
        refine ⟨z1, fun d' y1 y2 => ?_⟩
        by_cases y : d' = d
        · subst y; exact z2 (by omega)
        · exact z3 d' (by omega) y2
      · rintro ⟨z1, z2⟩
        exact ⟨⟨z1, fun _ => z2 d (by omega) (by omega)⟩, fun d' y1 y2 => z2 d' (by omega) y2⟩
/-- the set of those who may have been asked -/
def whoB (P : sp_T) (S : se_T) (L : sl_T) (q s : Nat) : Prop := s < 2 ^ sp_np P ∧ ∀ p, p < sp_np P → (s / 2 ^ p % 2 = 1 ↔ fitP P S L q p 0)
theorem whoB_u {s s' : Nat} (hk : sp_ok P) (h : whoB P S L q s) (h' : whoB P S L q s') : s = s' := bits_u (show sp_np P ≤ 7 from (sp_bd hk).2.2.2.1) h.1 h'.1 (fun p hp => (h.2 p hp).trans (h'.2 p hp).symm)
theorem cl_whoFits {μ : sh_Mem} (hw : cw μ t P) (hS : se_ok P S) (hse : se_c μ S) (hc : sm_cL μ 49 P L) (hl : sl_in P L) (hd : sl_d L ≤ 999) (hq : q < sp_nt P) : ∃ (s : Nat) (μ' : sh_Mem), f_X0_whoFits 49 (zI q) μ = some (zI s, μ') ∧ sh_fr (nW t) μ μ' ∧ whoB P S L q s := by
  obtain ⟨w1, w2, w3, w4⟩ := id hw
  have hb := sp_bd w4
  have h128 := pw128 (show sp_np P ≤ 7 by omega)
  have hpos : 0 < 2 ^ sp_np P := Nat.pos_of_ne_zero (by have := Nat.two_pow_pos (sp_np P); omega)
  have hx : ((2 ^ sp_np P : Nat) : Int) - 1 = ((2 ^ sp_np P - 1 : Nat) : Int) := by omega
  by_cases c : S.1 = 0
  · refine ⟨2 ^ sp_np P - 1, μ, ?_, sh_fr.rf, by omega, fun p hp => ⟨fun _ d y1 y2 j z1 z2 => by omega, fun _ => all_bit (by omega) hp⟩⟩
    have e4 := hse.1
    rw [c] at e4
    unfold f_X0_whoFits
    rw [shr_ap w1]
    simp (disch := omega) only [↓reduceIte, ↓shl_ap, shb_ap, shv_ap, zI_lit, zL_lit, nI_z, lN_z, ofN_z, zI_add, zI_sub, zI_mul, zI_neg, zL_add, zL_sub, zL_mul, zL_neg, zI_l, zI_cl, zI_le_t, zI_le_f, zI_lt_t, zI_lt_f, zI_eq_t, zI_eq_f, zI_in_t, zz_isIn_t, zz_isIn_f, not_true_eq_false, not_false_eq_true, true_or, or_true, false_or, or_false, true_and, and_true, false_and, and_false, Nat.reduceLeDiff, Int.reduceAdd, Int.reduceSub, Int.reduceMul, Int.reduceNeg, Int.reduceToNat, Nat.reduceAdd, Nat.reduceMul, Nat.reduceSub, Int.toNat_natCast, w1, shr_ap w1, shp w2, w3.2.2.2.1, zI_pw2, hx, e4, zN_le_t, zN_le_f]
  · obtain ⟨m, a1, a2, a3⟩ := cl_each (q := q) hl hd hq (sp_np P) sh_fuel 0 μ (by omega) (by rw [sh_fuel_eq]; omega) hw hc (fun p' h1 => by omega)
    obtain ⟨s', μ', k1, k2, k3, k4⟩ := cl_who1 (q := q) (i2 := zI q) hS hl hd 31 sh_fuel 0 (2 ^ sp_np P - 1) m (by omega) (by rw [sh_fuel_eq]; omega) (nW_cw a2 hw) (nW_se w2 a2 hse) (by omega) a3
    refine ⟨s', μ', ?_, a2.trans k2, k3, fun p hp => ?_⟩
    · have e4 := hse.1
      have a1' : f_X0_askEach 49 (zI q) μ = some m := a1
      have := hS.1
      rw [← k1]
      unfold f_X0_whoFits
      rw [shr_ap w1]
      simp (disch := omega) only [↓reduceIte, ↓shl_ap, shb_ap, shv_ap, zI_lit, zL_lit, nI_z, lN_z, ofN_z, zI_add, zI_sub, zI_mul, zI_neg, zL_add, zL_sub, zL_mul, zL_neg, zI_l, zI_cl, zI_le_t, zI_le_f, zI_lt_t, zI_lt_f, zI_eq_t, zI_eq_f, zI_in_t, zz_isIn_t, zz_isIn_f, not_true_eq_false, not_false_eq_true, true_or, or_true, false_or, or_false, true_and, and_true, false_and, and_false, Nat.reduceLeDiff, Int.reduceAdd, Int.reduceSub, Int.reduceMul, Int.reduceNeg, Int.reduceToNat, Nat.reduceAdd, Nat.reduceMul, Nat.reduceSub, Int.toNat_natCast, w1, shr_ap w1, shp w2, w3.2.2.2.1, zI_pw2, hx, e4, a1', zN_le_t, zN_le_f]
      rfl
    · rw [k4 p hp]
      exact ⟨fun z => z.2, fun z => ⟨all_bit (by omega) hp, z⟩⟩
end Wh
