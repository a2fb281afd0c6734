/-! the tape is taken; see -/
theorem sm_ref.bp {μ μ2 : sh_Mem} (h : sm_ref μ) {k : Nat} (h1 : ∀ j, ¬ j = k → sh_i μ2 290 j = sh_i μ 290 j) (h2 : ∀ j, ¬ j = k → sh_i μ2 293 j = sh_i μ 293 j) (h3 : sh_i μ2 290 k = sh_i μ 290 k + 1) (h4 : sh_i μ2 293 k = sh_i μ 293 k + 1) : sm_ref μ2 := by
  intro j hj
  by_cases e : j = k
  · subst e
    rw [h3, h4, h j hj]
  · rw [h1 j e, h2 j e]
    exact h j hj
def tkN (r k : Nat) : Prop := (r = 0 ∧ (k = 1 ∨ k = 14 ∨ k = 15)) ∨ (r = 291 ∧ (k = 1 ∨ k = 7 ∨ k = 8)) ∨ r = 290 ∨ r = 293 ∨ ¬ sm_A r k
theorem tkN_n {r k : Nat} (h : sm_A r k) (h1 : ¬ (r = 0 ∧ (k = 1 ∨ k = 14 ∨ k = 15))) (h2 : ¬ (r = 291 ∧ (k = 1 ∨ k = 7 ∨ k = 8))) (h3 : ¬ r = 290) (h4 : ¬ r = 293) : ¬ tkN r k := by
  rintro (z | z | z | z | z)
  · exact h1 z
  · exact h2 z
  · exact h3 z
  · exact h4 z
  · exact z h
theorem Sim.tk {μ μ2 : sh_Mem} (h : Sim μ) (hG : sh_G μ2) (hf : ∀ r k, ¬ tkN r k → sh_i μ2 r k = sh_i μ r k ∧ sh_l μ2 r k = sh_l μ r k) (hR : ∀ t, sm_refs μ t → sm_refs μ2 t) (e1 : sh_i μ2 0 1 = nI 0) (e2 : sh_i μ2 291 1 = nI 0) (e3 : sm_ref μ2) (e4 : sm_fault μ2) : Sim μ2 := by
  obtain ⟨a1, a2, a3, a4, a5, a6, t, P, L, a7⟩ := h
  have z10 : ∀ r, r = 1 ∨ r = 289 ∨ r = 292 ∨ r = 367 → sh_i μ2 r = sh_i μ r := fun r q => funext fun k => (hf r k (tkN_n (A10 (by omega)) (by omega) (by omega) (by omega) (by omega))).1
  refine ⟨hG, ?_, e4, e3, a5.cg (hf 0 16 (tkN_n (A9 (by omega)) (by omega) (by omega) (by omega) (by omega))).2 (hf 291 78 (tkN_n (A11 (by omega)) (by omega) (by omega) (by omega) (by omega))).2, a6.cg (hf 0 18 (tkN_n (A9 (by omega)) (by omega) (by omega) (by omega) (by omega))).1 (hf 291 113 (tkN_n (A11 (by omega)) (by omega) (by omega) (by omega) (by omega))).1 (z10 _ (by omega)) (z10 _ (by omega)), t, P, L, ?_⟩
  · obtain ⟨n, -, -, -, b⟩ := a2
    refine ⟨0, by omega, e1, e2, ?_⟩
    rw [z10 1 (by omega), z10 292 (by omega)]
    exact b
  · have h2 : ∀ r k, sm_S r k → sh_i μ2 r k = sh_i μ r k := fun r k q => (hf r k (tkN_n (Or.inl q) (by unfold sm_S at q; omega) (by unfold sm_S at q; omega) (by unfold sm_S at q; omega) (by unfold sm_S at q; omega))).1
    have h3 : sh_l μ2 323 = sh_l μ 323 := funext fun k => (hf 323 k (tkN_n (A4 (by omega) (by omega)) (by omega) (by omega) (by omega) (by omega))).2
    have hrow : ∀ r, (∀ k, sm_S r k) → sh_i μ2 r = sh_i μ r := fun r q => funext fun k => h2 r k (q k)
    obtain ⟨a1, a2, a3, a4, a5, a6, a7, a8, a9, a10, a11, a12, a13, a14, a15⟩ := a7
    have ht : sh_isP t := a1.1
    have q330 := hrow 330 (fun k => by unfold sm_S; omega)
    refine ⟨hR t a1, a2, a3, a4.cg (fun j hj hj7 hj10 => hrow _ (fun k => ?_)), a5.cg (h2 _ _ (by unfold sm_S; omega)) (fun j hj hj2 => hrow _ (fun k => by unfold sm_S; omega)) h3, a6.cg (fun j hj => hrow _ (fun k => by unfold sm_S; omega)), by rw [q330]; exact a7, ?_, a9.cg (hrow _ (fun k => by unfold sm_S; omega)) (h2 _ _ (by unfold sm_S; omega)) (h2 _ _ (by unfold sm_S; omega)) (fun j hj hj2 => hrow _ (fun k => by unfold sm_S; omega)) (hrow _ (fun k => by unfold sm_S; omega)), a10.cg (h2 _ _ (by unfold sm_S; omega)) (h2 _ _ (by unfold sm_S; omega)) (hrow _ (fun k => by unfold sm_S; omega)) (hrow _ (fun k => by unfold sm_S; omega)), ?_, ?_, ?_, ?_, fun q hq j hj => (h2 _ _ ?_).trans (a15 q hq j hj)⟩
    · rcases ht with rfl | rfl <;> (unfold sm_S; omega)
    · rw [q330, hrow 64 (fun k => by unfold sm_S; omega), hrow 63 (fun k => by unfold sm_S; omega)]; exact a8
    · rw [h2 _ _ (by unfold sm_S; omega)]; exact a11
    · rw [h2 _ _ (by unfold sm_S; omega)]; exact a12
    · rw [h2 _ _ (by unfold sm_S; omega)]; exact a13
    · rw [h2 _ _ (by unfold sm_S; omega)]; exact a14
    · have := sw_rng q hq
      unfold sm_S; omega
/-- the tape as numbers -/
theorem sm_tape.T {μ : sh_Mem} (h : sm_tape μ) : ∃ (n : Nat) (T : Nat → Nat), n ≤ 1600 ∧ sh_i μ 0 1 = zI n ∧ sh_i μ 291 1 = zI n ∧ ∀ j, j < 1600 → T j < 256 ∧ sh_i μ 1 j = zI (T j) ∧ sh_i μ 292 j = zI (T j) := by
  obtain ⟨n, h1, h2, h3, h4⟩ := h
  refine ⟨n, fun j => (sh_i μ 1 j).toInt.toNat, h1, by rw [h2, nI_z], by rw [h3, nI_z], fun j hj => ?_⟩
  obtain ⟨q1, b, q2, q3⟩ := h4 j hj
  rw [nI_z] at q3
  have q4 : (sh_i μ 1 j).toInt.toNat = b := by rw [q3, zI_toInt (by omega) (by omega)]; omega
  show (sh_i μ 1 j).toInt.toNat < 256 ∧ sh_i μ 1 j = zI ((sh_i μ 1 j).toInt.toNat : Nat) ∧ sh_i μ 292 j = zI ((sh_i μ 1 j).toInt.toNat : Nat)
  rw [q4, ← q1, q3]
  exact ⟨q2, rfl, rfl⟩
def seG (P : sp_T) (T : Nat → Nat) (j : Nat) : Prop := T (4 * j) ≤ 30 ∧ T (4 * j + 1) < sp_c P ∧ T (4 * j + 2) < sp_r P ∧ T (4 * j + 3) ≤ 99
section See
variable {P : sp_T} {T : Nat → Nat} {m t : Nat}
theorem kx_in (hk : sp_ok P) {x y : Nat} : (¬ (x < sp_c P ∧ y < sp_r P) ∧ kx P x y = -1 ∧ km P x y = -1) ∨ (x < sp_c P ∧ y < sp_r P ∧ kx P x y = ((y * sp_c P + x : Nat) : Int) ∧ km P x y = ((x + 7 * y : Nat) : Int)) := by
  by_cases c : x < sp_c P ∧ y < sp_r P
  · exact Or.inr ⟨c.1, c.2, kx_pos c.1 c.2, km_pos c.1 c.2⟩
  · refine Or.inl ⟨c, ?_, ?_⟩
    · unfold kx; rw [if_neg (by omega)]
    · unfold km; rw [if_neg (by omega)]
theorem cl_seen {μ : sh_Mem} (hr : sh_r μ 0 7 = some t) (ht : sh_isP t) (hP : sm_cP μ t P) (hk : sp_ok P) (hm : m ≤ 16) (hT : ∀ j, j < 1600 → T j < 256 ∧ sh_i μ 1 j = zI (T j)) : ∀ (g f i : Nat), i + g = m → g < f → ((∀ j, i ≤ j → j < m → seG P T j) ∧ F_X11_isSeen f 1 (zI (4 * m : Nat)) (zI (4 * i : Nat)) μ = some (1, μ)) ∨ (¬ (∀ j, i ≤ j → j < m → seG P T j) ∧ F_X11_isSeen f 1 (zI (4 * m : Nat)) (zI (4 * i : Nat)) μ = some (0, μ)) := by
  intro g
  induction g with
  | zero =>
    intro f i hi hf
    obtain ⟨f, rfl⟩ : ∃ q, f = q + 1 := ⟨f - 1, by omega⟩
    refine Or.inl ⟨fun j q1 q2 => by omega, ?_⟩
    rw [F_X11_isSeen]
    simp (disch := omega) only [↓reduceIte, ↓shl_ap, shb_ap, shv_ap, zI_lit, zL_lit, nI_z, lN_z, ofN_z, zI_add, zI_sub, zI_mul, zI_neg, zL_add, zL_sub, zL_mul, zL_neg, zI_l, zI_cl, zI_le_t, zI_le_f, zI_lt_t, zI_lt_f, zI_eq_t, zI_eq_f, zI_in_t, zz_isIn_t, zz_isIn_f, not_true_eq_false, not_false_eq_true, true_or, or_true, false_or, or_false, true_and, and_true, false_and, and_false, Nat.reduceLeDiff, Int.reduceAdd, Int.reduceSub, Int.reduceMul, Int.reduceNeg, Int.reduceToNat, Nat.reduceAdd, Nat.reduceMul, Nat.reduceSub, Int.toNat_natCast, zN_le_t, zN_le_f]
  | succ g ih =>
    intro f i hi hf
    obtain ⟨f, rfl⟩ : ∃ q, f = q + 1 := ⟨f - 1, by omega⟩
    obtain ⟨b0, e0⟩ := hT (4 * i) (by omega)
    obtain ⟨b1, e1⟩ := hT (4 * i + 1) (by omega)
    obtain ⟨b2, e2⟩ := hT (4 * i + 2) (by omega)
    obtain ⟨b3, e3⟩ := hT (4 * i + 3) (by omega)
    have x1 : (((4 * i : Nat) : Int) + 1).toNat = 4 * i + 1 := by omega
    have x2 : (((4 * i : Nat) : Int) + 2).toNat = 4 * i + 2 := by omega
    have x3 : (((4 * i : Nat) : Int) + 3).toNat = 4 * i + 3 := by omega
    have hrec := ih f (i + 1) (by omega) (by omega)
    rw [show ((4 * (i + 1) : Nat) : Int) = ((4 * i : Nat) : Int) + 4 by omega] at hrec
    have hb := sp_bd hk
    have hcs := sp_cells hk
    rw [F_X11_isSeen, shr_ap hr]
    by_cases c0 : T (4 * i) ≤ 30
    · rcases kx_in hk (x := T (4 * i + 1)) (y := T (4 * i + 2)) with ⟨c1, k1, -⟩ | ⟨c1, c2, k1, -⟩
      · refine Or.inr ⟨fun q => c1 ⟨(q i (by omega) (by omega)).2.1, (q i (by omega) (by omega)).2.2.1⟩, ?_⟩
        simp (disch := omega) only [↓reduceIte, ↓shl_ap, shb_ap, shv_ap, zI_lit, zL_lit, nI_z, lN_z, ofN_z, zI_add, zI_sub, zI_mul, zI_neg, zL_add, zL_sub, zL_mul, zL_neg, zI_l, zI_cl, zI_le_t, zI_le_f, zI_lt_t, zI_lt_f, zI_eq_t, zI_eq_f, zI_in_t, zz_isIn_t, zz_isIn_f, not_true_eq_false, not_false_eq_true, true_or, or_true, false_or, or_false, true_and, and_true, false_and, and_false, Nat.reduceLeDiff, Int.reduceAdd, Int.reduceSub, Int.reduceMul, Int.reduceNeg, Int.reduceToNat, Nat.reduceAdd, Nat.reduceMul, Nat.reduceSub, Int.toNat_natCast, e0, x1, x2, x3, e1, e2, e3, hr, shr_ap hr, shp ht, cl_cellAt hP hk, k1, zN_le_t, zN_le_f]
      · have hcell := sp_cell hk c1 c2
        by_cases c3 : T (4 * i + 3) ≤ 99
        · rcases hrec with ⟨r1, r2⟩ | ⟨r1, r2⟩
          · refine Or.inl ⟨fun j q1 q2 => ?_, ?_⟩
            · by_cases z : j = i
              · subst z; exact ⟨c0, c1, c2, c3⟩
              · exact r1 j (by omega) q2
            · simp (disch := omega) only [↓reduceIte, ↓shl_ap, shb_ap, shv_ap, zI_lit, zL_lit, nI_z, lN_z, ofN_z, zI_add, zI_sub, zI_mul, zI_neg, zL_add, zL_sub, zL_mul, zL_neg, zI_l, zI_cl, zI_le_t, zI_le_f, zI_lt_t, zI_lt_f, zI_eq_t, zI_eq_f, zI_in_t, zz_isIn_t, zz_isIn_f, not_true_eq_false, not_false_eq_true, true_or, or_true, false_or, or_false, true_and, and_true, false_and, and_false, Nat.reduceLeDiff, Int.reduceAdd, Int.reduceSub, Int.reduceMul, Int.reduceNeg, Int.reduceToNat, Nat.reduceAdd, Nat.reduceMul, Nat.reduceSub, Int.toNat_natCast, e0, x1, x2, x3, e1, e2, e3, hr, shr_ap hr, shp ht, cl_cellAt hP hk, k1, r2, zN_le_t, zN_le_f]
          · refine Or.inr ⟨fun q => r1 (fun j q1 q2 => q j (by omega) q2), ?_⟩
            simp (disch := omega) only [↓reduceIte, ↓shl_ap, shb_ap, shv_ap, zI_lit, zL_lit, nI_z, lN_z, ofN_z, zI_add, zI_sub, zI_mul, zI_neg, zL_add, zL_sub, zL_mul, zL_neg, zI_l, zI_cl, zI_le_t, zI_le_f, zI_lt_t, zI_lt_f, zI_eq_t, zI_eq_f, zI_in_t, zz_isIn_t, zz_isIn_f, not_true_eq_false, not_false_eq_true, true_or, or_true, false_or, or_false, true_and, and_true, false_and, and_false, Nat.reduceLeDiff, Int.reduceAdd, Int.reduceSub, Int.reduceMul, Int.reduceNeg, Int.reduceToNat, Nat.reduceAdd, Nat.reduceMul, Nat.reduceSub, Int.toNat_natCast, e0, x1, x2, x3, e1, e2, e3, hr, shr_ap hr, shp ht, cl_cellAt hP hk, k1, r2, zN_le_t, zN_le_f]
        · refine Or.inr ⟨fun q => c3 (q i (by omega) (by omega)).2.2.2, ?_⟩
          simp (disch := omega) only [↓reduceIte, ↓shl_ap, shb_ap, shv_ap, zI_lit, zL_lit, nI_z, lN_z, ofN_z, zI_add, zI_sub, zI_mul, zI_neg, zL_add, zL_sub, zL_mul, zL_neg, zI_l, zI_cl, zI_le_t, zI_le_f, zI_lt_t, zI_lt_f, zI_eq_t, zI_eq_f, zI_in_t, zz_isIn_t, zz_isIn_f, not_true_eq_false, not_false_eq_true, true_or, or_true, false_or, or_false, true_and, and_true, false_and, and_false, Nat.reduceLeDiff, Int.reduceAdd, Int.reduceSub, Int.reduceMul, Int.reduceNeg, Int.reduceToNat, Nat.reduceAdd, Nat.reduceMul, Nat.reduceSub, Int.toNat_natCast, e0, x1, x2, x3, e1, e2, e3, hr, shr_ap hr, shp ht, cl_cellAt hP hk, k1, zN_le_t, zN_le_f]
    · refine Or.inr ⟨fun q => c0 (q i (by omega) (by omega)).1, ?_⟩
      simp (disch := omega) only [↓reduceIte, ↓shl_ap, shb_ap, shv_ap, zI_lit, zL_lit, nI_z, lN_z, ofN_z, zI_add, zI_sub, zI_mul, zI_neg, zL_add, zL_sub, zL_mul, zL_neg, zI_l, zI_cl, zI_le_t, zI_le_f, zI_lt_t, zI_lt_f, zI_eq_t, zI_eq_f, zI_in_t, zz_isIn_t, zz_isIn_f, not_true_eq_false, not_false_eq_true, true_or, or_true, false_or, or_false, true_and, and_true, false_and, and_false, Nat.reduceLeDiff, Int.reduceAdd, Int.reduceSub, Int.reduceMul, Int.reduceNeg, Int.reduceToNat, Nat.reduceAdd, Nat.reduceMul, Nat.reduceSub, Int.toNat_natCast, e0, zN_le_t, zN_le_f]
theorem rf_see0 {μ : sh_Mem} {f : Nat} {i1 i3 : Int32} : F_X12_see (f + 1) 1 i1 0 i3 μ = some (zI (-1), sh_setI μ 293 1 (sh_i μ 293 1 + 1)) := by
  have e : f_X12_refuses 1 μ = some (zI (-1), sh_setI μ 293 1 (sh_i μ 293 1 + 1)) := rf_refuses (k := 1) (by omega)
  rw [F_X12_see, e]
  show (if i1 ≤ i3 then (if (0 : Int32) = 0 then sh_bind _ _ else _) else (if (0 : Int32) = 0 then (if (0 : Int32) = 0 then sh_bind _ _ else _) else _)) = _
  rw [if_pos rfl, if_pos rfl, shb_ap, ite_self]
theorem rf_see1 {μ : sh_Mem} (hM : sm_mP μ P) (hk : sp_ok P) (hm : m ≤ 16) (hT : ∀ j, j < 1600 → T j < 256 ∧ sh_i μ 292 j = zI (T j)) : ∀ (g f i : Nat), i + g = m → g + 1 < f → ((∀ j, i ≤ j → j < m → seG P T j) ∧ F_X12_see f 1 (zI (4 * m : Nat)) 1 (zI (4 * i : Nat)) μ = F_X12_see (f - g) 1 (zI (4 * m : Nat)) 1 (zI (4 * m : Nat)) μ) ∨ (¬ (∀ j, i ≤ j → j < m → seG P T j) ∧ F_X12_see f 1 (zI (4 * m : Nat)) 1 (zI (4 * i : Nat)) μ = some (zI (-1), sh_setI μ 293 1 (sh_i μ 293 1 + 1))) := by
  intro g
  induction g with
  | zero =>
    intro f i hi hf
    have hi : i = m := by omega
    subst hi
    exact Or.inl ⟨fun j q1 q2 => by omega, rfl⟩
  | succ g ih =>
    intro f i hi hf
    obtain ⟨f, rfl⟩ : ∃ q, f = q + 1 + 1 := ⟨f - 2, by omega⟩
    obtain ⟨b0, e0⟩ := hT (4 * i) (by omega)
    obtain ⟨b1, e1⟩ := hT (4 * i + 1) (by omega)
    obtain ⟨b2, e2⟩ := hT (4 * i + 2) (by omega)
    obtain ⟨b3, e3⟩ := hT (4 * i + 3) (by omega)
    have x1 : (((4 * i : Nat) : Int) + 1).toNat = 4 * i + 1 := by omega
    have x2 : (((4 * i : Nat) : Int) + 2).toNat = 4 * i + 2 := by omega
    have x3 : (((4 * i : Nat) : Int) + 3).toNat = 4 * i + 3 := by omega
    have hrec := ih (f + 1) (i + 1) (by omega) (by omega)
    rw [show ((4 * (i + 1) : Nat) : Int) = ((4 * i : Nat) : Int) + 4 by omega] at hrec
    have hb := sp_bd hk
    have h0 : ∀ i3, F_X12_see (f + 1) 1 (zI (4 * m : Nat)) (zI 0) i3 μ = some (zI (-1), sh_setI μ 293 1 (sh_i μ 293 1 + zI 1)) := fun i3 => rf_see0
    have hrec : ((∀ j, i + 1 ≤ j → j < m → seG P T j) ∧ F_X12_see (f + 1) 1 (zI (4 * m : Nat)) (zI 1) (zI (((4 * i : Nat) : Int) + 4)) μ = F_X12_see (f + 1 - g) 1 (zI (4 * m : Nat)) (zI 1) (zI (4 * m : Nat)) μ) ∨ (¬ (∀ j, i + 1 ≤ j → j < m → seG P T j) ∧ F_X12_see (f + 1) 1 (zI (4 * m : Nat)) (zI 1) (zI (((4 * i : Nat) : Int) + 4)) μ = some (zI (-1), sh_setI μ 293 1 (sh_i μ 293 1 + zI 1))) := hrec
    rw [F_X12_see, show f + 1 + 1 - (g + 1) = f + 1 - g by omega]
    by_cases c0 : T (4 * i) ≤ 30
    · rcases kx_in hk (x := T (4 * i + 1)) (y := T (4 * i + 2)) with ⟨c1, -, k1⟩ | ⟨c1, c2, -, k1⟩
      · refine Or.inr ⟨fun q => c1 ⟨(q i (by omega) (by omega)).2.1, (q i (by omega) (by omega)).2.2.1⟩, ?_⟩
        simp (disch := omega) only [↓reduceIte, ↓shl_ap, shb_ap, shv_ap, zI_lit, zL_lit, nI_z, lN_z, ofN_z, zI_add, zI_sub, zI_mul, zI_neg, zL_add, zL_sub, zL_mul, zL_neg, zI_l, zI_cl, zI_le_t, zI_le_f, zI_lt_t, zI_lt_f, zI_eq_t, zI_eq_f, zI_in_t, zz_isIn_t, zz_isIn_f, not_true_eq_false, not_false_eq_true, true_or, or_true, false_or, or_false, true_and, and_true, false_and, and_false, Nat.reduceLeDiff, Int.reduceAdd, Int.reduceSub, Int.reduceMul, Int.reduceNeg, Int.reduceToNat, Nat.reduceAdd, Nat.reduceMul, Nat.reduceSub, Int.toNat_natCast, e0, x1, x2, x3, e1, e2, e3, rf_cellAt hM hk, k1, h0, zN_le_t, zN_le_f]
      · by_cases c3 : T (4 * i + 3) ≤ 99
        · rcases hrec with ⟨r1, r2⟩ | ⟨r1, r2⟩
          · refine Or.inl ⟨fun j q1 q2 => ?_, ?_⟩
            · by_cases z : j = i
              · subst z; exact ⟨c0, c1, c2, c3⟩
              · exact r1 j (by omega) q2
            · simp (disch := omega) only [↓reduceIte, ↓shl_ap, shb_ap, shv_ap, zI_lit, zL_lit, nI_z, lN_z, ofN_z, zI_add, zI_sub, zI_mul, zI_neg, zL_add, zL_sub, zL_mul, zL_neg, zI_l, zI_cl, zI_le_t, zI_le_f, zI_lt_t, zI_lt_f, zI_eq_t, zI_eq_f, zI_in_t, zz_isIn_t, zz_isIn_f, not_true_eq_false, not_false_eq_true, true_or, or_true, false_or, or_false, true_and, and_true, false_and, and_false, Nat.reduceLeDiff, Int.reduceAdd, Int.reduceSub, Int.reduceMul, Int.reduceNeg, Int.reduceToNat, Nat.reduceAdd, Nat.reduceMul, Nat.reduceSub, Int.toNat_natCast, e0, x1, x2, x3, e1, e2, e3, rf_cellAt hM hk, k1, r2, zN_le_t, zN_le_f]
          · refine Or.inr ⟨fun q => r1 (fun j q1 q2 => q j (by omega) q2), ?_⟩
            simp (disch := omega) only [↓reduceIte, ↓shl_ap, shb_ap, shv_ap, zI_lit, zL_lit, nI_z, lN_z, ofN_z, zI_add, zI_sub, zI_mul, zI_neg, zL_add, zL_sub, zL_mul, zL_neg, zI_l, zI_cl, zI_le_t, zI_le_f, zI_lt_t, zI_lt_f, zI_eq_t, zI_eq_f, zI_in_t, zz_isIn_t, zz_isIn_f, not_true_eq_false, not_false_eq_true, true_or, or_true, false_or, or_false, true_and, and_true, false_and, and_false, Nat.reduceLeDiff, Int.reduceAdd, Int.reduceSub, Int.reduceMul, Int.reduceNeg, Int.reduceToNat, Nat.reduceAdd, Nat.reduceMul, Nat.reduceSub, Int.toNat_natCast, e0, x1, x2, x3, e1, e2, e3, rf_cellAt hM hk, k1, r2, zN_le_t, zN_le_f]
        · refine Or.inr ⟨fun q => c3 (q i (by omega) (by omega)).2.2.2, ?_⟩
          simp (disch := omega) only [↓reduceIte, ↓shl_ap, shb_ap, shv_ap, zI_lit, zL_lit, nI_z, lN_z, ofN_z, zI_add, zI_sub, zI_mul, zI_neg, zL_add, zL_sub, zL_mul, zL_neg, zI_l, zI_cl, zI_le_t, zI_le_f, zI_lt_t, zI_lt_f, zI_eq_t, zI_eq_f, zI_in_t, zz_isIn_t, zz_isIn_f, not_true_eq_false, not_false_eq_true, true_or, or_true, false_or, or_false, true_and, and_true, false_and, and_false, Nat.reduceLeDiff, Int.reduceAdd, Int.reduceSub, Int.reduceMul, Int.reduceNeg, Int.reduceToNat, Nat.reduceAdd, Nat.reduceMul, Nat.reduceSub, Int.toNat_natCast, e0, x1, x2, x3, e1, e2, e3, rf_cellAt hM hk, k1, h0, zN_le_t, zN_le_f]
    · refine Or.inr ⟨fun q => c0 (q i (by omega) (by omega)).1, ?_⟩
      simp (disch := omega) only [↓reduceIte, ↓shl_ap, shb_ap, shv_ap, zI_lit, zL_lit, nI_z, lN_z, ofN_z, zI_add, zI_sub, zI_mul, zI_neg, zL_add, zL_sub, zL_mul, zL_neg, zI_l, zI_cl, zI_le_t, zI_le_f, zI_lt_t, zI_lt_f, zI_eq_t, zI_eq_f, zI_in_t, zz_isIn_t, zz_isIn_f, not_true_eq_false, not_false_eq_true, true_or, or_true, false_or, or_false, true_and, and_true, false_and, and_false, Nat.reduceLeDiff, Int.reduceAdd, Int.reduceSub, Int.reduceMul, Int.reduceNeg, Int.reduceToNat, Nat.reduceAdd, Nat.reduceMul, Nat.reduceSub, Int.toNat_natCast, e0, h0, zN_le_t, zN_le_f]
theorem rf_see2 {i1 i2 : Int32} (hk : sp_ok P) (hm : m ≤ 16) (hg : ∀ j, j < m → seG P T j) : ∀ (g f i : Nat) (μ : sh_Mem), sm_mP μ P → (∀ j, j < 1600 → T j < 256 ∧ sh_i μ 292 j = zI (T j)) → sh_i μ 291 71 = zI m → i + g = m → g < f → ∃ μ', F_X12_see f 2 i1 i2 (zI i) μ = some (zI m, μ') ∧ sh_fr (fun r k => r = 338 ∧ 3 * i ≤ k) μ μ' ∧ ∀ j, i ≤ j → j < m → sh_i μ' 338 (3 * j) = zI (T (4 * j)) ∧ sh_i μ' 338 (3 * j + 1) = zI ((T (4 * j + 1) + 7 * T (4 * j + 2) : Nat) : Int) ∧ sh_i μ' 338 (3 * j + 2) = zI (T (4 * j + 3)) := by
  intro g
  induction g with
  | zero =>
    intro f i μ hM hT e hi hf
    obtain ⟨f, rfl⟩ : ∃ q, f = q + 1 := ⟨f - 1, by omega⟩
    refine ⟨μ, ?_, sh_fr.rf, fun j q1 q2 => by omega⟩
    rw [F_X12_see]
    simp (disch := omega) only [↓reduceIte, ↓shl_ap, shb_ap, shv_ap, zI_lit, zL_lit, nI_z, lN_z, ofN_z, zI_add, zI_sub, zI_mul, zI_neg, zL_add, zL_sub, zL_mul, zL_neg, zI_l, zI_cl, zI_le_t, zI_le_f, zI_lt_t, zI_lt_f, zI_eq_t, zI_eq_f, zI_in_t, zz_isIn_t, zz_isIn_f, not_true_eq_false, not_false_eq_true, true_or, or_true, false_or, or_false, true_and, and_true, false_and, and_false, Nat.reduceLeDiff, Int.reduceAdd, Int.reduceSub, Int.reduceMul, Int.reduceNeg, Int.reduceToNat, Nat.reduceAdd, Nat.reduceMul, Nat.reduceSub, Int.toNat_natCast, e, zN_le_t, zN_le_f]
  | succ g ih =>
    intro f i μ hM hT e hi hf
    obtain ⟨f, rfl⟩ : ∃ q, f = q + 1 := ⟨f - 1, by omega⟩
    obtain ⟨b0, e0⟩ := hT (4 * i) (by omega)
    obtain ⟨b1, e1⟩ := hT (4 * i + 1) (by omega)
    obtain ⟨b2, e2⟩ := hT (4 * i + 2) (by omega)
    obtain ⟨b3, e3⟩ := hT (4 * i + 3) (by omega)
    have x0 : (4 * (i : Int)).toNat = 4 * i := by omega
    have x1 : (4 * (i : Int) + 1).toNat = 4 * i + 1 := by omega
    have x2 : (4 * (i : Int) + 2).toNat = 4 * i + 2 := by omega
    have x3 : (4 * (i : Int) + 3).toNat = 4 * i + 3 := by omega
    have w0 : (3 * (i : Int)).toNat = 3 * i := by omega
    have w1 : (3 * (i : Int) + 1).toNat = 3 * i + 1 := by omega
    have w2 : (3 * (i : Int) + 2).toNat = 3 * i + 2 := by omega
    obtain ⟨g0, g1, g2, g3⟩ := hg i (by omega)
    have hb := sp_bd hk
    have k1 := km_pos g1 g2
    obtain ⟨ma, hma⟩ : ∃ ma, ma = sh_setI μ 338 (3 * i) (zI (T (4 * i))) := ⟨_, rfl⟩
    have na : ∀ r, ¬ r = 338 → sh_i ma r = sh_i μ r := fun r q => by rw [hma, ir_set_r q]
    have hMa : sm_mP ma P := hM.cg (by rw [na _ (by omega)]) (fun j h1 h2 => na j (by omega)) (by rw [hma]; rfl)
    obtain ⟨mb, hmb⟩ : ∃ mb, mb = sh_setI (sh_setI ma 338 (3 * i + 1) (zI ((T (4 * i + 1) + 7 * T (4 * i + 2) : Nat) : Int))) 338 (3 * i + 2) (zI (T (4 * i + 3))) := ⟨_, rfl⟩
    have nb : ∀ r, ¬ r = 338 → sh_i mb r = sh_i μ r := fun r q => by rw [hmb, ir_set_r q, ir_set_r q, na r q]
    have hMb : sm_mP mb P := hM.cg (by rw [nb _ (by omega)]) (fun j h1 h2 => nb j (by omega)) (by rw [hmb, hma]; rfl)
    have ha1 := na 292 (by omega)
    obtain ⟨μ', d1, d2, d3⟩ := ih f (i + 1) mb hMb (fun j hj => by rw [nb _ (by omega)]; exact hT j hj) (by rw [nb _ (by omega)]; exact e) (by omega) (by omega)
    have hfr : sh_fr (fun r k => r = 338 ∧ 3 * i ≤ k) μ mb := by rw [hmb, hma]; exact sh_fr_I (sh_fr_I (sh_fr_I sh_fr.rf (by omega)) (by omega)) (by omega)
    refine ⟨μ', ?_, hfr.trans (d2.mono (fun r k q => by omega)), fun j q1 q2 => ?_⟩
    · rw [← d1, F_X12_see]
      simp (disch := omega) only [↓reduceIte, ↓shl_ap, shb_ap, shv_ap, zI_lit, zL_lit, nI_z, lN_z, ofN_z, zI_add, zI_sub, zI_mul, zI_neg, zL_add, zL_sub, zL_mul, zL_neg, zI_l, zI_cl, zI_le_t, zI_le_f, zI_lt_t, zI_lt_f, zI_eq_t, zI_eq_f, zI_in_t, zz_isIn_t, zz_isIn_f, not_true_eq_false, not_false_eq_true, true_or, or_true, false_or, or_false, true_and, and_true, false_and, and_false, Nat.reduceLeDiff, Int.reduceAdd, Int.reduceSub, Int.reduceMul, Int.reduceNeg, Int.reduceToNat, Nat.reduceAdd, Nat.reduceMul, Nat.reduceSub, Int.toNat_natCast, e, x0, w0, e0, zN_le_t, zN_le_f]
      rw [← hma]
      simp (disch := omega) only [↓reduceIte, ↓shl_ap, shb_ap, shv_ap, zI_lit, zL_lit, nI_z, lN_z, ofN_z, zI_add, zI_sub, zI_mul, zI_neg, zL_add, zL_sub, zL_mul, zL_neg, zI_l, zI_cl, zI_le_t, zI_le_f, zI_lt_t, zI_lt_f, zI_eq_t, zI_eq_f, zI_in_t, zz_isIn_t, zz_isIn_f, not_true_eq_false, not_false_eq_true, true_or, or_true, false_or, or_false, true_and, and_true, false_and, and_false, Nat.reduceLeDiff, Int.reduceAdd, Int.reduceSub, Int.reduceMul, Int.reduceNeg, Int.reduceToNat, Nat.reduceAdd, Nat.reduceMul, Nat.reduceSub, Int.toNat_natCast, x1, x2, x3, w1, w2, ha1, e1, e2, e3, rf_cellAt hMa hk, k1, ir_set_r, zN_le_t, zN_le_f]
      rw [← hmb]
      rfl
    · by_cases z : j = i
      · subst z
        rw [d2.i _ _ (by omega), d2.i _ _ (by omega), d2.i _ _ (by omega), hmb]
        refine ⟨?_, ?_, ir_set⟩
        · rw [ir_set_k (by omega), ir_set_k (by omega), hma, ir_set]
        · rw [ir_set_k (by omega), ir_set]
      · exact d3 j (by omega) q2
end See
theorem pr_19 : ∀ (μ : sh_Mem), Sim μ → ∃ (v : Int32) (μ1 μ2 : sh_Mem), f_X11_see μ = some (v, μ1) ∧ f_X12_see μ1 = some (v, μ2) ∧ Sim μ2 := by
  intro μ h
  obtain ⟨g1, g2, g3, g4, g5, g6, t, P, L, hR⟩ := id h
  obtain ⟨hr, hk, hl, hP, hM, hc, hm, hkp, hu, hs, z1, z2, z3, z4, z5⟩ := id hR
  obtain ⟨n, T, hn, e1, e2, hT⟩ := g2.T
  obtain ⟨ma, hma⟩ : ∃ m, m = sh_setI μ 0 1 (zI 0) := ⟨_, rfl⟩
  have na : ∀ r, ¬ r = 0 → sh_i ma r = sh_i μ r := fun r q => by rw [hma, ir_set_r q]
  have ra : sh_r ma = sh_r μ := by rw [hma]; rfl
  have ht := sh_isP_r hr.1
  have hPa : sm_cP ma t P := hP.cg (fun j _ _ _ => na _ (by omega))
  have hTa : ∀ j, j < 1600 → T j < 256 ∧ sh_i ma 1 j = zI (T j) := fun j hj => ⟨(hT j hj).1, by rw [na 1 (by omega)]; exact (hT j hj).2.1⟩
  have hra : sh_r ma 0 7 = some t := by rw [ra]; exact hr.2.1
  have ht1 : f_X11_takeTape μ = some (zI n, ma) := by
    unfold f_X11_takeTape
    rw [e1, hma]
    rfl
  have eR : f_X11_refuseNumber (zI 1) ma = some (zI (-1), sh_setI ma 290 1 (sh_i ma 290 1 + 1)) := cl_refuseN (k := 1) (by omega)
  have bad : f_X11_isSeen (zI n) ma = some (0, ma) → (∃ v, v = sh_setI (sh_setI (sh_setI ma 290 1 (sh_i ma 290 1 + 1)) 291 1 (zI 0)) 293 1 (sh_i μ 293 1 + 1) ∧ f_X12_see (sh_setI ma 290 1 (sh_i ma 290 1 + 1)) = some (zI (-1), v)) → ∃ (v : Int32) (μ1 μ2 : sh_Mem), f_X11_see μ = some (v, μ1) ∧ f_X12_see μ1 = some (v, μ2) ∧ Sim μ2 := by
    rintro q1 ⟨v, rfl, q2⟩
    have c1 : f_X11_see μ = some (zI (-1), sh_setI ma 290 1 (sh_i ma 290 1 + 1)) := by
      unfold f_X11_see
      rw [ht1, shb_ap, q1, shb_ap]
      simp (disch := omega) only [↓reduceIte, ↓shl_ap, shb_ap, shv_ap, zI_lit, zL_lit, nI_z, lN_z, ofN_z, zI_add, zI_sub, zI_mul, zI_neg, zL_add, zL_sub, zL_mul, zL_neg, zI_l, zI_cl, zI_le_t, zI_le_f, zI_lt_t, zI_lt_f, zI_eq_t, zI_eq_f, zI_in_t, zz_isIn_t, zz_isIn_f, not_true_eq_false, not_false_eq_true, true_or, or_true, false_or, or_false, true_and, and_true, false_and, and_false, Nat.reduceLeDiff, Int.reduceAdd, Int.reduceSub, Int.reduceMul, Int.reduceNeg, Int.reduceToNat, Nat.reduceAdd, Nat.reduceMul, Nat.reduceSub, Int.toNat_natCast, eR, zN_le_t, zN_le_f]
    refine ⟨_, _, _, c1, q2, ?_⟩
    have n5 : ∀ r k, ¬ ((r = 0 ∨ r = 291 ∨ r = 290 ∨ r = 293) ∧ k = 1) → sh_i (sh_setI (sh_setI (sh_setI ma 290 1 (sh_i ma 290 1 + 1)) 291 1 (zI 0)) 293 1 (sh_i μ 293 1 + 1)) r k = sh_i μ r k := fun r k q => by
      rw [sh_i_set, if_neg (by omega), sh_i_set, if_neg (by omega), sh_i_set, if_neg (by omega), hma, sh_i_set, if_neg (by omega)]
    refine h.tk (gp_X12_see (gp_X11_see h.1 c1) q2) (fun r k q => ⟨n5 r k (fun z => q ?_), ?_⟩) (fun t q => ?_) ?_ ?_ ?_ ?_
    · unfold tkN; omega
    · rw [hma]; rfl
    · exact q.cg (by rw [← ra]; rfl)
    · rw [ir_set_r (by omega), ir_set_r (by omega), ir_set_r (by omega), hma, ir_set]; rfl
    · rw [ir_set_r (by omega), ir_set]; rfl
    · refine g4.bp (k := 1) (fun j q => n5 _ _ (by omega)) (fun j q => n5 _ _ (by omega)) ?_ ?_
      · rw [ir_set_r (by omega), ir_set_r (by omega), ir_set, na _ (by omega)]
      · rw [ir_set]
    · exact g3.cg (n5 _ _ (by omega)) (n5 _ _ (by omega)) (n5 _ _ (by omega)) (n5 _ _ (by omega))
  obtain ⟨mx, hmx⟩ : ∃ m, m = sh_setI (sh_setI ma 290 1 (sh_i ma 290 1 + 1)) 291 1 (zI 0) := ⟨_, rfl⟩
  have ex : sh_i (sh_setI ma 290 1 (sh_i ma 290 1 + 1)) 291 1 = zI n := by rw [ir_set_r (by omega), na _ (by omega), e2]
  have ex2 : sh_i mx 293 1 = sh_i μ 293 1 := by rw [hmx, ir_set_r (by omega), ir_set_r (by omega), na _ (by omega)]
  obtain ⟨f, hf⟩ : ∃ f, sh_fuel = f + 1 := ⟨999999, sh_fuel_eq⟩
  have hun : f_X12_see (sh_setI ma 290 1 (sh_i ma 290 1 + 1)) = (if zI n ≤ 0 then F_X12_see sh_fuel 1 (zI n) 0 0 mx else (if (zI n - zI n / 4 * 4) = 0 then (if 16 < (zI n / 4) then F_X12_see sh_fuel 1 (zI n) 0 0 mx else F_X12_see sh_fuel 1 (zI n) 1 0 mx) else F_X12_see sh_fuel 1 (zI n) 0 0 mx)) := by
    unfold f_X12_see
    rw [ex, shl_ap, shl_ap, hmx]
    rfl
  have r0 : F_X12_see sh_fuel 1 (zI n) (zI 0) (zI 0) mx = some (zI (-1), sh_setI mx 293 1 (sh_i μ 293 1 + 1)) := by rw [hf, ← ex2]; exact rf_see0
  by_cases c : 4 ≤ n ∧ n ≤ 64 ∧ n % 4 = 0
  · obtain ⟨m, rfl⟩ : ∃ m, n = 4 * m := ⟨n / 4, by omega⟩
    have hm16 : m ≤ 16 := by omega
    have hi : f_X11_isSeen (zI (4 * m : Nat)) ma = F_X11_isSeen sh_fuel 1 (zI (4 * m : Nat)) (zI (4 * 0 : Nat)) ma := by
      unfold f_X11_isSeen
      simp (disch := omega) only [↓reduceIte, ↓shl_ap, shb_ap, shv_ap, zI_lit, zL_lit, nI_z, lN_z, ofN_z, zI_add, zI_sub, zI_mul, zI_neg, zL_add, zL_sub, zL_mul, zL_neg, zI_l, zI_cl, zI_le_t, zI_le_f, zI_lt_t, zI_lt_f, zI_eq_t, zI_eq_f, zI_in_t, zz_isIn_t, zz_isIn_f, not_true_eq_false, not_false_eq_true, true_or, or_true, false_or, or_false, true_and, and_true, false_and, and_false, Nat.reduceLeDiff, Int.reduceAdd, Int.reduceSub, Int.reduceMul, Int.reduceNeg, Int.reduceToNat, Nat.reduceAdd, Nat.reduceMul, Nat.reduceSub, Int.toNat_natCast, zI_div, zN_le_t, zN_le_f]
      rfl
    have hMx : sm_mP mx P := hM.cg (by rw [hmx, ir_set_k (by omega), ir_set_r (by omega), na _ (by omega)]) (fun j h1 h2 => by rw [hmx, ir_set_r (by omega), ir_set_r (by omega), na _ (by omega)]) (by rw [hmx, hma]; rfl)
    have hTx : ∀ j, j < 1600 → T j < 256 ∧ sh_i mx 292 j = zI (T j) := fun j hj => ⟨(hT j hj).1, by rw [hmx, ir_set_r (by omega), ir_set_r (by omega), na _ (by omega)]; exact (hT j hj).2.2⟩
    have hs1 : ∀ mm : sh_Mem, (if zI (4 * m : Nat) ≤ (0 : Int32) then F_X12_see sh_fuel 1 (zI (4 * m : Nat)) 0 0 mm else (if (zI (4 * m : Nat) - zI (4 * m : Nat) / 4 * 4) = 0 then (if 16 < (zI (4 * m : Nat) / 4) then F_X12_see sh_fuel 1 (zI (4 * m : Nat)) 0 0 mm else F_X12_see sh_fuel 1 (zI (4 * m : Nat)) 1 0 mm) else F_X12_see sh_fuel 1 (zI (4 * m : Nat)) 0 0 mm)) = F_X12_see sh_fuel 1 (zI (4 * m : Nat)) 1 (zI (4 * 0 : Nat)) mm := fun mm => by
      simp (disch := omega) only [↓reduceIte, ↓shl_ap, shb_ap, shv_ap, zI_lit, zL_lit, nI_z, lN_z, ofN_z, zI_add, zI_sub, zI_mul, zI_neg, zL_add, zL_sub, zL_mul, zL_neg, zI_l, zI_cl, zI_le_t, zI_le_f, zI_lt_t, zI_lt_f, zI_eq_t, zI_eq_f, zI_in_t, zz_isIn_t, zz_isIn_f, not_true_eq_false, not_false_eq_true, true_or, or_true, false_or, or_false, true_and, and_true, false_and, and_false, Nat.reduceLeDiff, Int.reduceAdd, Int.reduceSub, Int.reduceMul, Int.reduceNeg, Int.reduceToNat, Nat.reduceAdd, Nat.reduceMul, Nat.reduceSub, Int.toNat_natCast, zI_div, zN_le_t, zN_le_f]
      rfl
    rcases cl_seen hra hr.1 hPa hk hm16 hTa m sh_fuel 0 (by omega) (by rw [sh_fuel_eq]; omega) with ⟨q1, q2⟩ | ⟨q1, q2⟩
    · obtain ⟨mb, hmb⟩ : ∃ m', m' = sh_setI (sh_rowI ma 216 (va_cpy (sh_i ma 1) (sh_i ma 216) 0 0 (4 * m))) 208 4 (zI m) := ⟨_, rfl⟩
      have c1 : f_X11_see μ = some (zI m, mb) := by
        unfold f_X11_see
        rw [ht1, shb_ap, hi, q2, shb_ap, hmb]
        simp (disch := omega) only [↓reduceIte, ↓shl_ap, shb_ap, shv_ap, zI_lit, zL_lit, nI_z, lN_z, ofN_z, zI_add, zI_sub, zI_mul, zI_neg, zL_add, zL_sub, zL_mul, zL_neg, zI_l, zI_cl, zI_le_t, zI_le_f, zI_lt_t, zI_lt_f, zI_eq_t, zI_eq_f, zI_in_t, zz_isIn_t, zz_isIn_f, not_true_eq_false, not_false_eq_true, true_or, or_true, false_or, or_false, true_and, and_true, false_and, and_false, Nat.reduceLeDiff, Int.reduceAdd, Int.reduceSub, Int.reduceMul, Int.reduceNeg, Int.reduceToNat, Nat.reduceAdd, Nat.reduceMul, Nat.reduceSub, Int.toNat_natCast, zI_div, ir_set, zN_le_t, zN_le_f]
        rw [show ((4 * m : Nat) : Int) / 4 = (m : Int) by omega]
      have nb : ∀ r, ¬ r = 0 → ¬ r = 208 → ¬ r = 216 → sh_i mb r = sh_i μ r := fun r q1 q2 q3 => by rw [hmb, ir_set_r q2, ir_row_r q3, na r q1]
      obtain ⟨mc, hmc⟩ : ∃ m', m' = sh_setI (sh_setI mb 291 1 (zI 0)) 291 71 (zI m) := ⟨_, rfl⟩
      have nc : ∀ r, ¬ r = 0 → ¬ r = 208 → ¬ r = 216 → ¬ r = 291 → sh_i mc r = sh_i μ r := fun r q1 q2 q3 q4 => by rw [hmc, ir_set_r q4, ir_set_r q4, nb r q1 q2 q3]
      have nc1 : ∀ k, ¬ k = 1 → ¬ k = 71 → sh_i mc 291 k = sh_i μ 291 k := fun k q1 q2 => by rw [hmc, ir_set_k q2, ir_set_k q1, nb _ (by omega) (by omega) (by omega)]
      have hMb : sm_mP (sh_setI mb 291 1 (zI 0)) P := hM.cg (by rw [ir_set_k (by omega), nb _ (by omega) (by omega) (by omega)]) (fun j h1 h2 => by rw [ir_set_r (by omega), nb _ (by omega) (by omega) (by omega)]) (by rw [hmb, hma]; rfl)
      have hMc : sm_mP mc P := hM.cg (nc1 _ (by omega) (by omega)) (fun j h1 h2 => nc _ (by omega) (by omega) (by omega) (by omega)) (by rw [hmc, hmb, hma]; rfl)
      have hTb : ∀ j, j < 1600 → T j < 256 ∧ sh_i (sh_setI mb 291 1 (zI 0)) 292 j = zI (T j) := fun j hj => ⟨(hT j hj).1, by rw [ir_set_r (by omega), nb _ (by omega) (by omega) (by omega)]; exact (hT j hj).2.2⟩
      rcases rf_see1 (μ := sh_setI mb 291 1 (zI 0)) hMb hk hm16 hTb m sh_fuel 0 (by omega) (by rw [sh_fuel_eq]; omega) with ⟨w1, w2⟩ | ⟨w1, w2⟩
      · obtain ⟨f2, hf2⟩ : ∃ f2, sh_fuel - m = f2 + 100 := ⟨sh_fuel - m - 100, by rw [sh_fuel_eq]; omega⟩
        obtain ⟨μ2, d1, d2, d3⟩ := rf_see2 (i1 := zI (4 * m : Nat)) (i2 := zI 1) hk hm16 (fun j hj => w1 j (by omega) hj) m (f2 + 99) 0 mc hMc (fun j hj => ⟨(hT j hj).1, by rw [nc _ (by omega) (by omega) (by omega) (by omega)]; exact (hT j hj).2.2⟩) (by rw [hmc, ir_set]) (by omega) (by omega)
        have c2 : f_X12_see mb = some (zI m, μ2) := by
          unfold f_X12_see
          rw [nb 291 (by omega) (by omega) (by omega), e2, shl_ap, shl_ap, show (0 : Int32) = zI 0 from rfl]
          have := hs1 (sh_setI mb 291 1 (zI 0))
          rw [show (0 : Int32) = zI 0 from rfl] at this
          rw [this, w2, hf2, F_X12_see]
          simp (disch := omega) only [↓reduceIte, ↓shl_ap, shb_ap, shv_ap, zI_lit, zL_lit, nI_z, lN_z, ofN_z, zI_add, zI_sub, zI_mul, zI_neg, zL_add, zL_sub, zL_mul, zL_neg, zI_l, zI_cl, zI_le_t, zI_le_f, zI_lt_t, zI_lt_f, zI_eq_t, zI_eq_f, zI_in_t, zz_isIn_t, zz_isIn_f, not_true_eq_false, not_false_eq_true, true_or, or_true, false_or, or_false, true_and, and_true, false_and, and_false, Nat.reduceLeDiff, Int.reduceAdd, Int.reduceSub, Int.reduceMul, Int.reduceNeg, Int.reduceToNat, Nat.reduceAdd, Nat.reduceMul, Nat.reduceSub, Int.toNat_natCast, zI_div, zN_le_t, zN_le_f]
          rw [show ((4 * m : Nat) : Int) / 4 = (m : Int) by omega, ← hmc]
          exact d1
        refine ⟨_, _, _, c1, c2, ?_⟩
        have n2 : ∀ r, ¬ r = 0 → ¬ r = 208 → ¬ r = 216 → ¬ r = 291 → ¬ r = 338 → sh_i μ2 r = sh_i μ r := fun r q1 q2 q3 q4 q5 => by rw [d2.row r (fun k => by omega), nc r q1 q2 q3 q4]
        have n21 : ∀ k, ¬ k = 1 → ¬ k = 71 → sh_i μ2 291 k = sh_i μ 291 k := fun k q1 q2 => by rw [d2.i _ _ (by omega), nc1 k q1 q2]
        have n20 : ∀ k, ¬ k = 1 → sh_i μ2 0 k = sh_i μ 0 k := fun k q1 => by rw [d2.i _ _ (by omega), hmc, ir_set_r (by omega), ir_set_r (by omega), hmb, ir_set_r (by omega), ir_row_r (by omega), hma, ir_set_k q1]
        have lr : ∀ r k, ¬ r = 338 → sh_l μ2 r k = sh_l μ r k := fun r k q => by
          rw [(d2.2 r k (by omega)).2, hmc, hmb, hma]
          rfl
        have rr : sh_r μ2 = sh_r μ := by rw [d2.1, hmc, hmb, hma]; rfl
        refine ⟨gp_X12_see (gp_X11_see h.1 c1) c2, ⟨0, by omega, ?_, ?_, ?_⟩, g3.cg (n20 _ (by omega)) (n20 _ (by omega)) (n21 _ (by omega) (by omega)) (n21 _ (by omega) (by omega)), g4.cg (n2 _ (by omega) (by omega) (by omega) (by omega) (by omega)) (n2 _ (by omega) (by omega) (by omega) (by omega) (by omega)), g5.cg (lr _ _ (by omega)) (lr _ _ (by omega)), g6.cg (n20 _ (by omega)) (n21 _ (by omega) (by omega)) (n2 _ (by omega) (by omega) (by omega) (by omega) (by omega)) (n2 _ (by omega) (by omega) (by omega) (by omega) (by omega)), t, P, L, hr.cg rr, hk, hl, hP.cg (fun j _ _ _ => n2 _ (by omega) (by omega) (by omega) (by omega) (by omega)), hM.cg (n21 _ (by omega) (by omega)) (fun j h1 h2 => n2 _ (by omega) (by omega) (by omega) (by omega) (by omega)) (funext fun k => lr _ _ (by omega)), hc.cg (fun j hj => n2 _ (by omega) (by omega) (by omega) (by omega) (by omega)), by rw [n2 330 (by omega) (by omega) (by omega) (by omega) (by omega)]; exact hm, by rw [n2 330 (by omega) (by omega) (by omega) (by omega) (by omega), n2 64 (by omega) (by omega) (by omega) (by omega) (by omega), n2 63 (by omega) (by omega) (by omega) (by omega) (by omega)]; exact hkp, hu.cg (n2 _ (by omega) (by omega) (by omega) (by omega) (by omega)) (n21 _ (by omega) (by omega)) (n21 _ (by omega) (by omega)) (fun j h1 h2 => n2 _ (by omega) (by omega) (by omega) (by omega) (by omega)) (n2 _ (by omega) (by omega) (by omega) (by omega) (by omega)), ?_, by rw [n21 _ (by omega) (by omega)]; exact z1, by rw [n21 _ (by omega) (by omega)]; exact z2, by rw [n2 22 (by omega) (by omega) (by omega) (by omega) (by omega)]; exact z3, by rw [n2 43 (by omega) (by omega) (by omega) (by omega) (by omega)]; exact z4, fun q hq j hj => by rw [n2 q.1 (by have := sw_rng q hq; omega) (by have := sw_rng q hq; omega) (by have := sw_rng q hq; omega) (by have := sw_rng q hq; omega) (by have := sw_rng q hq; omega)]; exact z5 q hq j hj⟩
        · rw [d2.i _ _ (by omega), hmc, ir_set_r (by omega), ir_set_r (by omega), hmb, ir_set_r (by omega), ir_row_r (by omega), hma, ir_set]; rfl
        · rw [d2.i _ _ (by omega), hmc, ir_set_k (by omega), ir_set]; rfl
        · rw [n2 1 (by omega) (by omega) (by omega) (by omega) (by omega), n2 292 (by omega) (by omega) (by omega) (by omega) (by omega)]
          obtain ⟨-, -, -, -, b⟩ := g2
          exact b
        · refine ⟨m, hm16, ?_, ?_, fun j hj => ?_⟩
          · rw [d2.i _ _ (by omega), hmc, ir_set_r (by omega), ir_set_r (by omega), hmb, ir_set, nI_z]
          · rw [d2.i _ _ (by omega), hmc, ir_set, nI_z]
          · obtain ⟨y0, y1, y2, y3⟩ := w1 j (by omega) hj
            obtain ⟨v0, v1, v2⟩ := d3 j (by omega) hj
            have e216 : ∀ k, k < 4 * m → sh_i μ2 216 k = nI (T k) := fun k hk => by rw [d2.i _ _ (by omega), hmc, ir_set_r (by omega), ir_set_r (by omega), hmb, ir_set_r (by omega), ir_row, cpy_all hk, (hTa k (by omega)).2, nI_z]
            refine ⟨T (4 * j), T (4 * j + 1), T (4 * j + 2), T (4 * j + 3), y0, y1, y2, y3, e216 _ (by omega), e216 _ (by omega), e216 _ (by omega), e216 _ (by omega), ?_, ?_, ?_⟩
            · rw [v0, nI_z]
            · rw [v1, nI_z]
            · rw [v2, nI_z]
      · exact absurd (fun j _ q => q1 j (by omega) q) w1
    · refine bad (by rw [hi]; exact q2) ⟨_, rfl, ?_⟩
      rw [hun, hs1]
      rcases rf_see1 (μ := mx) hMx hk hm16 hTx m sh_fuel 0 (by omega) (by rw [sh_fuel_eq]; omega) with ⟨w1, w2⟩ | ⟨w1, w2⟩
      · exact absurd w1 q1
      · rw [w2, ex2, hmx]
  · refine bad ?_ ⟨_, rfl, ?_⟩
    · unfold f_X11_isSeen
      by_cases c1 : n < 4
      · simp (disch := omega) only [↓reduceIte, ↓shl_ap, shb_ap, shv_ap, zI_lit, zL_lit, nI_z, lN_z, ofN_z, zI_add, zI_sub, zI_mul, zI_neg, zL_add, zL_sub, zL_mul, zL_neg, zI_l, zI_cl, zI_le_t, zI_le_f, zI_lt_t, zI_lt_f, zI_eq_t, zI_eq_f, zI_in_t, zz_isIn_t, zz_isIn_f, not_true_eq_false, not_false_eq_true, true_or, or_true, false_or, or_false, true_and, and_true, false_and, and_false, Nat.reduceLeDiff, Int.reduceAdd, Int.reduceSub, Int.reduceMul, Int.reduceNeg, Int.reduceToNat, Nat.reduceAdd, Nat.reduceMul, Nat.reduceSub, Int.toNat_natCast, zN_le_t, zN_le_f]
      · by_cases c2 : 64 < n
        · simp (disch := omega) only [↓reduceIte, ↓shl_ap, shb_ap, shv_ap, zI_lit, zL_lit, nI_z, lN_z, ofN_z, zI_add, zI_sub, zI_mul, zI_neg, zL_add, zL_sub, zL_mul, zL_neg, zI_l, zI_cl, zI_le_t, zI_le_f, zI_lt_t, zI_lt_f, zI_eq_t, zI_eq_f, zI_in_t, zz_isIn_t, zz_isIn_f, not_true_eq_false, not_false_eq_true, true_or, or_true, false_or, or_false, true_and, and_true, false_and, and_false, Nat.reduceLeDiff, Int.reduceAdd, Int.reduceSub, Int.reduceMul, Int.reduceNeg, Int.reduceToNat, Nat.reduceAdd, Nat.reduceMul, Nat.reduceSub, Int.toNat_natCast, zN_le_t, zN_le_f]
        · have c3 : ¬ (n : Int) % 4 = 0 := by omega
          simp (disch := omega) only [↓reduceIte, ↓shl_ap, shb_ap, shv_ap, zI_lit, zL_lit, nI_z, lN_z, ofN_z, zI_add, zI_sub, zI_mul, zI_neg, zL_add, zL_sub, zL_mul, zL_neg, zI_l, zI_cl, zI_le_t, zI_le_f, zI_lt_t, zI_lt_f, zI_eq_t, zI_eq_f, zI_in_t, zz_isIn_t, zz_isIn_f, not_true_eq_false, not_false_eq_true, true_or, or_true, false_or, or_false, true_and, and_true, false_and, and_false, Nat.reduceLeDiff, Int.reduceAdd, Int.reduceSub, Int.reduceMul, Int.reduceNeg, Int.reduceToNat, Nat.reduceAdd, Nat.reduceMul, Nat.reduceSub, Int.toNat_natCast, zI_div, zI_mod, zN_le_t, zN_le_f]
    · rw [hun, ← hmx]
      by_cases c1 : n = 0
      · subst c1
        simp (disch := omega) only [↓reduceIte, ↓shl_ap, shb_ap, shv_ap, zI_lit, zL_lit, nI_z, lN_z, ofN_z, zI_add, zI_sub, zI_mul, zI_neg, zL_add, zL_sub, zL_mul, zL_neg, zI_l, zI_cl, zI_le_t, zI_le_f, zI_lt_t, zI_lt_f, zI_eq_t, zI_eq_f, zI_in_t, zz_isIn_t, zz_isIn_f, not_true_eq_false, not_false_eq_true, true_or, or_true, false_or, or_false, true_and, and_true, false_and, and_false, Nat.reduceLeDiff, Int.reduceAdd, Int.reduceSub, Int.reduceMul, Int.reduceNeg, Int.reduceToNat, Nat.reduceAdd, Nat.reduceMul, Nat.reduceSub, Int.toNat_natCast, r0, zN_le_t, zN_le_f]
      · by_cases c3 : (n : Int) % 4 = 0
        · simp (disch := omega) only [↓reduceIte, ↓shl_ap, shb_ap, shv_ap, zI_lit, zL_lit, nI_z, lN_z, ofN_z, zI_add, zI_sub, zI_mul, zI_neg, zL_add, zL_sub, zL_mul, zL_neg, zI_l, zI_cl, zI_le_t, zI_le_f, zI_lt_t, zI_lt_f, zI_eq_t, zI_eq_f, zI_in_t, zz_isIn_t, zz_isIn_f, not_true_eq_false, not_false_eq_true, true_or, or_true, false_or, or_false, true_and, and_true, false_and, and_false, Nat.reduceLeDiff, Int.reduceAdd, Int.reduceSub, Int.reduceMul, Int.reduceNeg, Int.reduceToNat, Nat.reduceAdd, Nat.reduceMul, Nat.reduceSub, Int.toNat_natCast, zI_div, zI_mod, r0, c3, zN_le_t, zN_le_f]
        · simp (disch := omega) only [↓reduceIte, ↓shl_ap, shb_ap, shv_ap, zI_lit, zL_lit, nI_z, lN_z, ofN_z, zI_add, zI_sub, zI_mul, zI_neg, zL_add, zL_sub, zL_mul, zL_neg, zI_l, zI_cl, zI_le_t, zI_le_f, zI_lt_t, zI_lt_f, zI_eq_t, zI_eq_f, zI_in_t, zz_isIn_t, zz_isIn_f, not_true_eq_false, not_false_eq_true, true_or, or_true, false_or, or_false, true_and, and_true, false_and, and_false, Nat.reduceLeDiff, Int.reduceAdd, Int.reduceSub, Int.reduceMul, Int.reduceNeg, Int.reduceToNat, Nat.reduceAdd, Nat.reduceMul, Nat.reduceSub, Int.toNat_natCast, zI_div, zI_mod, r0, zN_le_t, zN_le_f]
