/-! the class's asking, and its day -/
theorem cl_look1 {t r n : Nat} {P : sp_T} {x y : Nat} {h : Nat → Nat} {a2 : Int32} (ht : sh_isP t) (hr : ldr r) (hn : n ≤ 49) (hw : y * sp_c P + x < 1000) (hle : ∀ j, j < n → h j ≤ 99) : ∀ (g fu i lv : Nat) (μ : sh_Mem), i + g = n → g < fu → hx μ t r n P x y h → sh_i μ 55 7 = zI lv → lv ≤ 99 → (∀ j, j < i → ¬ exn P x y j → h j ≤ lv) →
    ∃ (μ' : sh_Mem) (lv' : Nat), F_X10_lookAround fu 1 r a2 (zI i) μ = some μ' ∧ sh_fr (fun a k => a = 55 ∧ k = 7) μ μ' ∧ hx μ' t r n P x y h ∧ sh_i μ' 55 7 = zI lv' ∧ lv' ≤ 99 ∧ ∀ j, j < n → ¬ exn P x y j → h j ≤ lv' := by
  intro g
  induction g with
  | zero =>
    intro fu i lv μ hi hf hX e7 hlv hmx
    obtain ⟨fu, rfl⟩ : ∃ q, fu = q + 1 := ⟨fu - 1, by omega⟩
    have hi : i = n := by omega
    subst hi
    refine ⟨μ, lv, ?_, sh_fr.rf, hX, e7, hlv, hmx⟩
    rw [F_X10_lookAround, shr_ap hX.1]
    simp (disch := omega) only [↓reduceIte, ↓shl_ap, shb_ap, shv_ap, zI_lit, zL_lit, nI_z, lN_z, ofN_z, zI_add, zI_sub, zI_mul, zI_neg, zL_add, zL_sub, zL_mul, zL_neg, zI_l, zI_cl, zI_le_t, zI_le_f, zI_lt_t, zI_lt_f, zI_eq_t, zI_eq_f, zI_in_t, zz_isIn_t, zz_isIn_f, not_true_eq_false, not_false_eq_true, true_or, or_true, false_or, or_false, true_and, and_true, false_and, and_false, Nat.reduceLeDiff, Int.reduceAdd, Int.reduceSub, Int.reduceMul, Int.reduceNeg, Int.reduceToNat, Nat.reduceAdd, Nat.reduceMul, Nat.reduceSub, Int.toNat_natCast, hX.1, shr_ap hX.1, shp ht, hX.2.1, zN_le_t, zN_le_f]
  | succ g ih =>
    intro fu i lv μ hi hf hX e7 hlv hmx
    obtain ⟨fu, rfl⟩ : ∃ q, fu = q + 1 := ⟨fu - 1, by omega⟩
    have hh := hX.2.2.2 i (by omega)
    have hhl := hle i (by omega)
    have hel := cl_else (j := i) hX.2.2.1 hw (by omega)
    by_cases c1 : exn P x y i = true ∨ h i ≤ lv
    · have hs : F_X10_lookAround (fu + 1) 1 r a2 (zI i) μ = F_X10_lookAround fu 1 r a2 (zI (i + 1 : Nat)) μ := by
        rw [F_X10_lookAround, shr_ap hX.1]
        by_cases c2 : exn P x y i = true
        · rw [if_pos c2] at hel
          simp (disch := omega) only [↓reduceIte, ↓shl_ap, shb_ap, shv_ap, zI_lit, zL_lit, nI_z, lN_z, ofN_z, zI_add, zI_sub, zI_mul, zI_neg, zL_add, zL_sub, zL_mul, zL_neg, zI_l, zI_cl, zI_le_t, zI_le_f, zI_lt_t, zI_lt_f, zI_eq_t, zI_eq_f, zI_in_t, zz_isIn_t, zz_isIn_f, not_true_eq_false, not_false_eq_true, true_or, or_true, false_or, or_false, true_and, and_true, false_and, and_false, Nat.reduceLeDiff, Int.reduceAdd, Int.reduceSub, Int.reduceMul, Int.reduceNeg, Int.reduceToNat, Nat.reduceAdd, Nat.reduceMul, Nat.reduceSub, Int.toNat_natCast, hX.1, shr_ap hX.1, shp ht, hX.2.1, hel, zN_le_t, zN_le_f]
          rfl
        · rw [if_neg c2] at hel
          have c3 : h i ≤ lv := c1.resolve_left c2
          simp (disch := omega) only [↓reduceIte, ↓shl_ap, shb_ap, shv_ap, zI_lit, zL_lit, nI_z, lN_z, ofN_z, zI_add, zI_sub, zI_mul, zI_neg, zL_add, zL_sub, zL_mul, zL_neg, zI_l, zI_cl, zI_le_t, zI_le_f, zI_lt_t, zI_lt_f, zI_eq_t, zI_eq_f, zI_in_t, zz_isIn_t, zz_isIn_f, not_true_eq_false, not_false_eq_true, true_or, or_true, false_or, or_false, true_and, and_true, false_and, and_false, Nat.reduceLeDiff, Int.reduceAdd, Int.reduceSub, Int.reduceMul, Int.reduceNeg, Int.reduceToNat, Nat.reduceAdd, Nat.reduceMul, Nat.reduceSub, Int.toNat_natCast, hX.1, shr_ap hX.1, shp ht, hX.2.1, hel, hh, e7, zN_le_t, zN_le_f]
          rfl
      rw [hs]
      refine ih fu (i + 1) lv μ (by omega) (by omega) hX e7 hlv (fun j hj hx => ?_)
      by_cases z : j = i
      · subst z
        exact c1.resolve_left hx
      · exact hmx j (by omega) hx
    · have c2 : ¬ exn P x y i = true := fun z => c1 (Or.inl z)
      have c3 : ¬ h i ≤ lv := fun z => c1 (Or.inr z)
      have hs : F_X10_lookAround (fu + 1) 1 r a2 (zI i) μ = F_X10_lookAround fu 1 r a2 (zI (i + 1 : Nat)) (sh_setI μ 55 7 (zI (h i))) := by
        rw [if_neg c2] at hel
        rw [F_X10_lookAround, shr_ap hX.1]
        simp (disch := omega) only [↓reduceIte, ↓shl_ap, shb_ap, shv_ap, zI_lit, zL_lit, nI_z, lN_z, ofN_z, zI_add, zI_sub, zI_mul, zI_neg, zL_add, zL_sub, zL_mul, zL_neg, zI_l, zI_cl, zI_le_t, zI_le_f, zI_lt_t, zI_lt_f, zI_eq_t, zI_eq_f, zI_in_t, zz_isIn_t, zz_isIn_f, not_true_eq_false, not_false_eq_true, true_or, or_true, false_or, or_false, true_and, and_true, false_and, and_false, Nat.reduceLeDiff, Int.reduceAdd, Int.reduceSub, Int.reduceMul, Int.reduceNeg, Int.reduceToNat, Nat.reduceAdd, Nat.reduceMul, Nat.reduceSub, Int.toNat_natCast, hX.1, shr_ap hX.1, shp ht, hX.2.1, hel, hh, e7, zN_le_t, zN_le_f]
        rfl
      rw [hs]
      obtain ⟨μ', lv', d1, d2, d3⟩ := ih fu (i + 1) (h i) (sh_setI μ 55 7 (zI (h i))) (by omega) (by omega) (hX.set ht hr (by omega)) ir_set hhl (fun j hj hx => by
        by_cases z : j = i
        · subst z; omega
        · have := hmx j (by omega) hx; omega)
      exact ⟨μ', lv', d1, (sh_fr_I sh_fr.rf ⟨rfl, rfl⟩).trans d2, d3⟩
theorem kx_l {P : sp_T} {x y : Nat} (hx : x < sp_c P) (hy : y < sp_r P) : kx P ((x : Int) - 1) y = if 0 < x then ((y * sp_c P + x : Nat) : Int) - 1 else -1 := by
  unfold kx
  by_cases c : 0 < x
  · rw [if_pos c, if_pos (by omega)]
    push_cast
    omega
  · rw [if_neg c, if_neg (by omega)]
theorem kx_r {P : sp_T} {x y : Nat} (hx : x < sp_c P) (hy : y < sp_r P) : kx P ((x : Int) + 1) y = if x + 1 < sp_c P then ((y * sp_c P + x : Nat) : Int) + 1 else -1 := by
  unfold kx
  by_cases c : x + 1 < sp_c P
  · rw [if_pos c, if_pos (by omega)]
    push_cast
    omega
  · rw [if_neg c, if_neg (by omega)]
section Wd
variable {μ : sh_Mem} {t r p q : Nat} {P : sp_T} {L : sl_T}
theorem cl_look (hw : cw μ t P) (hc : sm_cL μ r P L) (hl : sl_in P L) (hp : p < sp_np P) (hr : ldr r) : ∃ (μ' : sh_Mem) (lv : Nat), f_X10_lookAround r (zI p) μ = some μ' ∧ sh_fr (fun a k => a = 55 ∧ 4 ≤ k) μ μ' ∧ hx μ' t r (sp_c P * sp_r P) P (sl_x L p) (sl_y L p) (sl_h L) ∧ sh_i μ' 55 7 = zI lv ∧ sh_i μ' 55 8 = zI 0 ∧ Iv (sl_h L) (exn P (sl_x L p) (sl_y L p)) (sp_c P * sp_r P) lv 0 := by
  obtain ⟨h1, h2, h3, hk⟩ := hw
  have hb := sp_bd hk
  have ht := sh_isP_r h2
  have hn := sp_cells hk
  have hr' := hr
  unfold ldr at hr'
  obtain ⟨a1, a2, -, -⟩ := hc.2.2 p hp
  obtain ⟨b1, b2, -, -⟩ := hl.2 p hp
  have b6 := sp_cell hk b1 b2
  rw [nI_z] at a1 a2
  obtain ⟨x, hx1⟩ : ∃ x, x = sl_x L p := ⟨_, rfl⟩
  obtain ⟨y, hy1⟩ : ∃ y, y = sl_y L p := ⟨_, rfl⟩
  rw [← hx1] at a1 b1 b6
  rw [← hy1] at a2 b2 b6
  rw [← hx1, ← hy1]
  have hk1 : ∀ m : sh_Mem, sh_i m t = sh_i μ t → ∀ a b : Int, -2147483648 ≤ a → a < 2147483648 → -2147483648 ≤ b → b < 2147483648 → f_X5_cellAt m t (zI a) (zI b) = zI (kx P a b) := fun m hm a b q1 q2 q3 q4 => by
    rw [← cl_cellAt h3 hk q1 q2 q3 q4]
    unfold f_X5_cellAt
    rw [hm]
  obtain ⟨m5, hm5⟩ : ∃ m, m = sh_setI (sh_setI (sh_setI (sh_setI (sh_setI μ 55 4 (zI (kx P x y))) 55 5 (zI (kx P ((x : Int) - 1) y))) 55 6 (zI (kx P ((x : Int) + 1) y))) 55 7 (zI 0)) 55 8 (zI 0) := ⟨_, rfl⟩
  have n5 : ∀ a, ¬ a = 55 → sh_i m5 a = sh_i μ a := fun a ha => by rw [hm5, ir_set_r ha, ir_set_r ha, ir_set_r ha, ir_set_r ha, ir_set_r ha]
  have hX : hx m5 t r (sp_c P * sp_r P) P x y (sl_h L) := by
    refine ⟨by rw [hm5]; exact h1, by rw [cells_cg (n5 t (by omega))]; exact cl_cells h3, ⟨?_, ?_, ?_⟩, fun j hj => by rw [n5 _ (by omega), hc.2.1 j hj, nI_z]⟩
    · rw [hm5, ir_set_k (by omega), ir_set_k (by omega), ir_set_k (by omega), ir_set_k (by omega), ir_set, kx_pos b1 b2]
    · rw [hm5, ir_set_k (by omega), ir_set_k (by omega), ir_set_k (by omega), ir_set, kx_l b1 b2]
    · rw [hm5, ir_set_k (by omega), ir_set_k (by omega), ir_set, kx_r b1 b2]
  obtain ⟨μ', lv, d1, d2, d3, d4, d5, d6⟩ := cl_look1 (a2 := zI p) h2 hr hn (by omega) hl.1 (sp_c P * sp_r P) sh_fuel 0 0 m5 (by omega) (by rw [sh_fuel_eq]; omega) hX (by rw [hm5, ir_set_k (by omega), ir_set]; rfl) (by omega) (fun j hj => by omega)
  have f5 : sh_fr (fun a k => a = 55 ∧ 4 ≤ k) μ m5 := by rw [hm5]; exact sh_fr_I (sh_fr_I (sh_fr_I (sh_fr_I (sh_fr_I sh_fr.rf (by omega)) (by omega)) (by omega)) (by omega)) (by omega)
  refine ⟨μ', lv, ?_, f5.trans (d2.mono (fun a k z => by omega)), d3, d4, by rw [d2.i _ _ (by omega), hm5, ir_set], by omega, d5, d6, fun j hj => by omega⟩
  have g1 := hk1 μ rfl x y (by omega) (by omega) (by omega) (by omega)
  have g2 : f_X5_cellAt (sh_setI μ 55 4 (zI (kx P x y))) t (zI ((x : Int) - 1)) (zI y) = zI (kx P ((x : Int) - 1) y) := hk1 _ (ir_set_r (by omega)) _ _ (by omega) (by omega) (by omega) (by omega)
  have g3 : f_X5_cellAt (sh_setI (sh_setI μ 55 4 (zI (kx P x y))) 55 5 (zI (kx P ((x : Int) - 1) y))) t (zI ((x : Int) + 1)) (zI y) = zI (kx P ((x : Int) + 1) y) := hk1 _ (by rw [ir_set_r (by omega), ir_set_r (by omega)]) _ _ (by omega) (by omega) (by omega) (by omega)
  unfold f_X10_lookAround
  rw [shr_ap h1]
  simp (disch := omega) only [↓reduceIte, ↓shl_ap, shb_ap, shv_ap, zI_lit, zL_lit, nI_z, lN_z, ofN_z, zI_add, zI_sub, zI_mul, zI_neg, zL_add, zL_sub, zL_mul, zL_neg, zI_l, zI_cl, zI_le_t, zI_le_f, zI_lt_t, zI_lt_f, zI_eq_t, zI_eq_f, zI_in_t, zz_isIn_t, zz_isIn_f, not_true_eq_false, not_false_eq_true, true_or, or_true, false_or, or_false, true_and, and_true, false_and, and_false, ir_set, ir_set_k, ir_set_r, ir_row, ir_row_r, sh_i_setL, sh_i_setR, sh_r_setI, sh_r_setL, sh_r_rowI, sh_l_setI, sh_l_rowI, lr_set, lr_set_k, lr_set_r, Nat.reduceLeDiff, Int.reduceAdd, Int.reduceSub, Int.reduceMul, Int.reduceNeg, Int.reduceToNat, Nat.reduceAdd, Nat.reduceMul, Nat.reduceSub, Int.toNat_natCast, h1, shr_ap h1, shp h2, a1, a2, g1, shf_I, shr_ap h1, g2, g3, zN_le_t, zN_le_f]
  rw [← hm5]
  exact d1
def nA (r t a k : Nat) : Prop := a = r + 1 ∨ a = r + 4 ∨ (a = 55 ∧ 1 ≤ k) ∨ a = 56 ∨ a = t + 7 ∨ a = t + 10 ∨ a = t + 13
/-- both lifts -/
theorem cl_lifts {lv : Nat} (hw : cw μ t P) (hr : ldr r) (hl : sl_in P L) (hd : sl_d L ≤ 100000) (hp : p < sp_np P) (hq : q < sp_nt P) (hf : fcs μ 56 P L p q) (hX : hx μ t r (sp_c P * sp_r P) P (sl_x L p) (sl_y L p) (sl_h L)) (e1 : sh_i μ 55 1 = zI 0) (e7 : sh_i μ 55 7 = zI lv) (e8 : sh_i μ 55 8 = zI 0) (hI : Iv (sl_h L) (exn P (sl_x L p) (sl_y L p)) (sp_c P * sp_r P) lv 0) :
    ∃ m9 m12, f_X10_lift r (sh_i μ 55 5) μ = some m9 ∧ f_X10_lift r (sh_i m9 55 6) m9 = some m12 ∧ sh_fr (nF r t) μ m12 ∧ (∀ a, ¬ a = r + 1 → ¬ a = 55 → ¬ a = 56 → sh_i m12 a = sh_i μ a) ∧ fcs m12 56 P L p q ∧ (∀ j, j < sp_c P * sp_r P → sh_i m12 (r + 1) j = zI ((lfR P L p q (lfL P L p q)).1 j)) ∧ sh_i m12 55 1 = zI (lfR P L p q (lfL P L p q)).2 := by
  obtain ⟨-, h2, -, hk⟩ := id hw
  have ht := sh_isP_r h2
  have hr' := hr
  unfold ldr at hr'
  have hb := sp_bd hk
  obtain ⟨b1, b2, -, -⟩ := hl.2 p hp
  have b6 := sp_cell hk b1 b2
  have hL : ∃ (m9 : sh_Mem) (lv9 hi9 : Nat), f_X10_lift r (sh_i μ 55 5) μ = some m9 ∧ sh_fr (nF r t) μ m9 ∧ (∀ a, ¬ a = r + 1 → ¬ a = 55 → ¬ a = 56 → sh_i m9 a = sh_i μ a) ∧ fcs m9 56 P L p q ∧ hx m9 t r (sp_c P * sp_r P) P (sl_x L p) (sl_y L p) (lfL P L p q).1 ∧ sh_i m9 55 1 = zI (lfL P L p q).2 ∧ sh_i m9 55 7 = zI lv9 ∧ sh_i m9 55 8 = zI hi9 ∧ Iv (lfL P L p q).1 (exn P (sl_x L p) (sl_y L p)) (sp_c P * sp_r P) lv9 hi9 := by
    have e5 := hX.2.2.1.2.1
    unfold lfL
    by_cases c : 0 < sl_x L p
    · rw [if_pos c] at e5 ⊢
      have hx : ((sl_y L p * sp_c P + sl_x L p : Nat) : Int) - 1 = ((sl_y L p * sp_c P + sl_x L p - 1 : Nat) : Int) := by omega
      rw [e5, hx]
      have hj1 : sl_y L p * sp_c P + sl_x L p - 1 + 1 = sl_y L p * sp_c P + sl_x L p := Nat.sub_add_cancel (by omega)
      exact cl_lift (m := 0) (hi := 0) hw hr hl hd hp hq hf (Nat.lt_of_le_of_lt (Nat.sub_le _ _) b6) (exn_iff.mpr (Or.inr (Or.inl ⟨c, hj1⟩))) hl.1 hX (by omega) e1 e7 e8 hI
    · rw [if_neg c] at e5 ⊢
      refine ⟨μ, lv, 0, ?_, sh_fr.rf, fun _ _ _ _ => rfl, hf, hX, e1, e7, e8, hI⟩
      rw [e5]
      unfold f_X10_lift
      simp (disch := omega) only [↓reduceIte, ↓shl_ap, shb_ap, shv_ap, zI_lit, zL_lit, nI_z, lN_z, ofN_z, zI_add, zI_sub, zI_mul, zI_neg, zL_add, zL_sub, zL_mul, zL_neg, zI_l, zI_cl, zI_le_t, zI_le_f, zI_lt_t, zI_lt_f, zI_eq_t, zI_eq_f, zI_in_t, zz_isIn_t, zz_isIn_f, not_true_eq_false, not_false_eq_true, true_or, or_true, false_or, or_false, true_and, and_true, false_and, and_false, Nat.reduceLeDiff, Int.reduceAdd, Int.reduceSub, Int.reduceMul, Int.reduceNeg, Int.reduceToNat, Nat.reduceAdd, Nat.reduceMul, Nat.reduceSub, Int.toNat_natCast, zN_le_t, zN_le_f]
  obtain ⟨m9, lv9, hi9, d1, d2, d3, d4, d5, d6, d7, d8, d9⟩ := hL
  have hw9 : cw m9 t P := hw.cg d2.1 (fun j q1 q2 q3 => d3 _ (by omega) (by omega) (by omega))
  have hm := lfL_m (P := P) (L := L) (p := p) (q := q)
  have hR : ∃ (m12 : sh_Mem) (lv9 hi9 : Nat), f_X10_lift r (sh_i m9 55 6) m9 = some m12 ∧ sh_fr (nF r t) m9 m12 ∧ (∀ a, ¬ a = r + 1 → ¬ a = 55 → ¬ a = 56 → sh_i m12 a = sh_i m9 a) ∧ fcs m12 56 P L p q ∧ hx m12 t r (sp_c P * sp_r P) P (sl_x L p) (sl_y L p) (lfR P L p q (lfL P L p q)).1 ∧ sh_i m12 55 1 = zI (lfR P L p q (lfL P L p q)).2 ∧ sh_i m12 55 7 = zI lv9 ∧ sh_i m12 55 8 = zI hi9 ∧ Iv (lfR P L p q (lfL P L p q)).1 (exn P (sl_x L p) (sl_y L p)) (sp_c P * sp_r P) lv9 hi9 := by
    have e5 := d5.2.2.1.2.2
    have hle := lfL_le (P := P) (L := L) (p := p) (q := q) hl.1
    generalize lfL P L p q = s at *
    unfold lfR
    by_cases c : sl_x L p + 1 < sp_c P
    · rw [if_pos c] at e5 ⊢
      have hx : ((sl_y L p * sp_c P + sl_x L p : Nat) : Int) + 1 = ((sl_y L p * sp_c P + sl_x L p + 1 : Nat) : Int) := by omega
      rw [e5, hx]
      have b7 := sp_cell hk c b2
      exact cl_lift hw9 hr hl hd hp hq d4 (by omega) (exn_iff.mpr (Or.inr (Or.inr ⟨c, rfl⟩))) hle d5 (by omega) d6 d7 d8 d9
    · rw [if_neg c] at e5 ⊢
      refine ⟨m9, lv9, hi9, ?_, sh_fr.rf, fun _ _ _ _ => rfl, d4, d5, d6, d7, d8, d9⟩
      rw [e5]
      unfold f_X10_lift
      simp (disch := omega) only [↓reduceIte, ↓shl_ap, shb_ap, shv_ap, zI_lit, zL_lit, nI_z, lN_z, ofN_z, zI_add, zI_sub, zI_mul, zI_neg, zL_add, zL_sub, zL_mul, zL_neg, zI_l, zI_cl, zI_le_t, zI_le_f, zI_lt_t, zI_lt_f, zI_eq_t, zI_eq_f, zI_in_t, zz_isIn_t, zz_isIn_f, not_true_eq_false, not_false_eq_true, true_or, or_true, false_or, or_false, true_and, and_true, false_and, and_false, Nat.reduceLeDiff, Int.reduceAdd, Int.reduceSub, Int.reduceMul, Int.reduceNeg, Int.reduceToNat, Nat.reduceAdd, Nat.reduceMul, Nat.reduceSub, Int.toNat_natCast, zN_le_t, zN_le_f]
  obtain ⟨m12, lv12, hi12, g1, g2, g3, g4, g5, g6, -⟩ := hR
  exact ⟨m9, m12, d1, g1, d2.trans g2, fun a z1 z2 z3 => (g3 a z1 z2 z3).trans (d3 a z1 z2 z3), g4, g5.2.2.2, g6⟩
theorem cl_asked (hw : cw μ t P) (hc : sm_cL μ r P L) (hl : sl_in P L) (hd : sl_d L ≤ 100000) (hp : p < sp_np P) (hq : q < sp_nt P) (hr : ldr r) : ∃ μ', f_X10_asked r (zI p) (zI q) μ = some (zI (wd P L p q), μ') ∧ sm_cL μ' r P (aL P L p q) ∧ sh_i μ' 55 1 = zI (aM P L p q) ∧ sh_fr (nA r t) μ μ' ∧ ∀ a, ¬ a = r + 1 → ¬ a = r + 4 → ¬ a = 55 → ¬ a = 56 → sh_i μ' a = sh_i μ a := by
  obtain ⟨h1, h2, h3, hk⟩ := id hw
  have ht := sh_isP_r h2
  have hr' := hr
  unfold ldr at hr'
  have hb := sp_bd hk
  have hpos := sp_pos hk hp
  obtain ⟨m1, hm1⟩ : ∃ m, m = sh_setI μ 55 1 (zI 0) := ⟨_, rfl⟩
  have n1 : ∀ a, ¬ a = 55 → sh_i m1 a = sh_i μ a := fun a ha => by rw [hm1, ir_set_r ha]
  have f1 : sh_fr (nA r t) μ m1 := by rw [hm1]; exact sh_fr_I sh_fr.rf (by unfold nA; omega)
  have hw1 : cw m1 t P := hw.cg f1.1 (fun j q1 q2 q3 => n1 _ (by omega))
  have hc1 : sm_cL m1 r P L := hc.cg (fun j hj => n1 _ (by omega))
  obtain ⟨m2, d1, d2, d3, d4⟩ := cl_deed hw1 hc1 hl hd hp hq hr
  have f2 : sh_fr (nA r t) m1 m2 := d2.mono (fun a k z => by unfold nA; omega)
  have e55 : sh_i m2 55 1 = zI 0 := by rw [d3 55 (by omega), hm1, ir_set]
  have hun : f_X10_asked r (zI p) (zI q) μ = (if zI (wd P L p q) = 2 then sh_bindv (f_X10_lookAround r (zI p) m2) (fun μ6 => sh_bindv (f_X10_lift r (sh_i μ6 55 5) μ6) (fun μ9 => sh_bindv (f_X10_lift r (sh_i μ9 55 6) μ9) (fun μ12 => (if (sh_r μ12 55 0 = some (sh_ref μ12 55 0) ∧ ((sh_ref μ12 55 0) = 8 ∨ (sh_ref μ12 55 0) = 29)) then sh_let (sh_ref μ12 55 0) (fun r16 => sh_bind (f_X1_value (r16 + 8) 56 μ12) (fun y19 μ17 => (if sh_in (zI p) 7 then sh_let (sh_setI μ17 (r + 4) (zI p).toNatClampNeg (f_X10_within μ17 y19 9)) (fun μ21 => some (zI (wd P L p q), μ21)) else none))) else none)))) else some (zI (wd P L p q), m2)) := by
    unfold f_X10_asked
    have hm1' : m1 = sh_setI μ 55 1 0 := hm1
    rw [shl_ap, ← hm1', d1, shb_ap]
  by_cases c : wd P L p q = 2
  · have hc2 : sm_cL m2 r P L := hc1.cg (fun j hj => d3 _ (by omega))
    have hw2 : cw m2 t P := hw1.cg d2.1 (fun j q1 q2 q3 => d3 _ (by omega))
    obtain ⟨m6, lv, g1, g2, g3, g4, g5, g6⟩ := cl_look hw2 hc2 hl hp hr
    have n6 : ∀ a, ¬ a = 55 → sh_i m6 a = sh_i m2 a := fun a ha => g2.row a (fun k => by omega)
    have hw6 : cw m6 t P := hw2.cg g2.1 (fun j q1 q2 q3 => n6 _ (by omega))
    have hf6 : fcs m6 56 P L p q := (d4 c).cg (fun k _ => by rw [n6 56 (by omega)])
    obtain ⟨m9, m12, k1, k2, k3, k4, k5, k6, k7⟩ := cl_lifts hw6 hr hl hd hp hq hf6 g3 (by rw [g2.i _ _ (by omega)]; exact e55) g4 g5 g6
    have hw12 : cw m12 t P := hw6.cg k3.1 (fun j q1 q2 q3 => k4 _ (by omega) (by omega) (by omega))
    obtain ⟨-, ⟨s1, s2⟩, -⟩ := sp_forms hk (by omega)
    obtain ⟨v, m17, v1, v2, v3, v4⟩ := cl_value (F := fa P L p q 0) (K := k0) (W := k0) (g := 56) (fa_in hk hl hd hp (by omega) (by omega)) k0_in k0_in s2 s1 hw12.2.2.1.2.2.2.2.2.2.2.2.2.2.1 k5.h1 (fun z => by cases z)
    have hv : vt P L p q = v := by unfold vt; rw [v2]; rfl
    have hfr : sh_fr (nA r t) μ (sh_setI m17 (r + 4) p (zI (cut9 v))) := by
      refine sh_fr_I ?_ (by unfold nA; omega)
      exact f1.trans (f2.trans ((g2.mono (fun a k z => by unfold nA; omega)).trans ((k3.mono (fun a k z => by unfold nF at z; unfold nA; omega)).trans (v4.fr.mono (fun a k z => by unfold nA; omega)))))
    have hrow : ∀ a, ¬ a = r + 1 → ¬ a = r + 4 → ¬ a = 55 → ¬ a = 56 → sh_i (sh_setI m17 (r + 4) p (zI (cut9 v))) a = sh_i μ a := fun a z1 z2 z3 z4 => by rw [ir_set_r z2, v4.1, k4 a z1 z3 z4, n6 a z3, d3 a z4, n1 a z3]
    refine ⟨sh_setI m17 (r + 4) p (zI (cut9 v)), ?_, ?_, ?_, hfr, hrow⟩
    · rw [hun, c]
      simp (disch := omega) only [↓reduceIte, ↓shl_ap, shb_ap, shv_ap, zI_lit, zL_lit, nI_z, lN_z, ofN_z, zI_add, zI_sub, zI_mul, zI_neg, zL_add, zL_sub, zL_mul, zL_neg, zI_l, zI_cl, zI_le_t, zI_le_f, zI_lt_t, zI_lt_f, zI_eq_t, zI_eq_f, zI_in_t, zz_isIn_t, zz_isIn_f, not_true_eq_false, not_false_eq_true, true_or, or_true, false_or, or_false, true_and, and_true, false_and, and_false, Nat.reduceLeDiff, Int.reduceAdd, Int.reduceSub, Int.reduceMul, Int.reduceNeg, Int.reduceToNat, Nat.reduceAdd, Nat.reduceMul, Nat.reduceSub, Int.toNat_natCast, g1, k1, k2, zN_le_t, zN_le_f]
      rw [shr_ap hw12.1]
      simp (disch := omega) only [↓reduceIte, ↓shl_ap, shb_ap, shv_ap, zI_lit, zL_lit, nI_z, lN_z, ofN_z, zI_add, zI_sub, zI_mul, zI_neg, zL_add, zL_sub, zL_mul, zL_neg, zI_l, zI_cl, zI_le_t, zI_le_f, zI_lt_t, zI_lt_f, zI_eq_t, zI_eq_f, zI_in_t, zz_isIn_t, zz_isIn_f, not_true_eq_false, not_false_eq_true, true_or, or_true, false_or, or_false, true_and, and_true, false_and, and_false, Nat.reduceLeDiff, Int.reduceAdd, Int.reduceSub, Int.reduceMul, Int.reduceNeg, Int.reduceToNat, Nat.reduceAdd, Nat.reduceMul, Nat.reduceSub, Int.toNat_natCast, hw12.1, shr_ap hw12.1, shp h2, v1, cl_within v3.1, zN_le_t, zN_le_f]
    · unfold aL
      rw [if_pos c, hv]
      refine ⟨?_, fun j hj => ?_, fun p' hp' => ?_⟩
      · rw [hrow _ (by omega) (by omega) (by omega) (by omega)]; exact hc.1
      · rw [ir_set_r (by omega), v4.1, k6 j hj, nI_z]
      · obtain ⟨q1, q2, q3, q4⟩ := hc.2.2 p' hp'
        refine ⟨by rw [hrow _ (by omega) (by omega) (by omega) (by omega)]; exact q1, by rw [hrow _ (by omega) (by omega) (by omega) (by omega)]; exact q2, ?_, by rw [hrow _ (by omega) (by omega) (by omega) (by omega)]; exact q4⟩
        show sh_i _ (r + 4) p' = nI (hu (sl_t L) p (cut9 v) p')
        by_cases z : p' = p
        · subst z
          rw [ir_set, hu_s, nI_z]
        · rw [ir_set_k z, hu_n z, v4.1, k4 _ (by omega) (by omega) (by omega), n6 _ (by omega), d3 _ (by omega), n1 _ (by omega)]
          exact q3
    · unfold aM
      rw [if_pos c, ir_set_r (by omega), v4.1]
      exact k7
  · have hwd : wd P L p q ≤ 2 := by
      unfold wd
      split
      · omega
      · split <;> omega
    refine ⟨m2, ?_, ?_, ?_, f1.trans f2, fun a z1 z2 z3 z4 => by rw [d3 a z4, n1 a z3]⟩
    · rw [hun]
      simp (disch := omega) only [↓reduceIte, ↓shl_ap, shb_ap, shv_ap, zI_lit, zL_lit, nI_z, lN_z, ofN_z, zI_add, zI_sub, zI_mul, zI_neg, zL_add, zL_sub, zL_mul, zL_neg, zI_l, zI_cl, zI_le_t, zI_le_f, zI_lt_t, zI_lt_f, zI_eq_t, zI_eq_f, zI_in_t, zz_isIn_t, zz_isIn_f, not_true_eq_false, not_false_eq_true, true_or, or_true, false_or, or_false, true_and, and_true, false_and, and_false, Nat.reduceLeDiff, Int.reduceAdd, Int.reduceSub, Int.reduceMul, Int.reduceNeg, Int.reduceToNat, Nat.reduceAdd, Nat.reduceMul, Nat.reduceSub, Int.toNat_natCast, zN_le_t, zN_le_f]
    · unfold aL
      rw [if_neg c]
      exact hc1.cg (fun j hj => d3 _ (by omega))
    · unfold aM
      rw [if_neg c]
      exact e55
theorem cl_rowOf {m : sh_Mem} {d : Nat} (hP : sm_cP m t P) (hk : sp_ok P) (hd : d ≤ 100000) : f_X5_rowOf t (zI d) m = some (zI (if (sp_li P).length = 0 then -1 else ((d % (sp_li P).length : Nat) : Int)), m) := by
  have hb := sp_bd hk
  have e := hP.2.2.2.2.1
  rw [nI_z] at e
  unfold f_X5_rowOf
  by_cases c : (sp_li P).length = 0
  · rw [if_pos c]
    simp (disch := omega) only [↓reduceIte, ↓shl_ap, shb_ap, shv_ap, zI_lit, zL_lit, nI_z, lN_z, ofN_z, zI_add, zI_sub, zI_mul, zI_neg, zL_add, zL_sub, zL_mul, zL_neg, zI_l, zI_cl, zI_le_t, zI_le_f, zI_lt_t, zI_lt_f, zI_eq_t, zI_eq_f, zI_in_t, zz_isIn_t, zz_isIn_f, not_true_eq_false, not_false_eq_true, true_or, or_true, false_or, or_false, true_and, and_true, false_and, and_false, Nat.reduceLeDiff, Int.reduceAdd, Int.reduceSub, Int.reduceMul, Int.reduceNeg, Int.reduceToNat, Nat.reduceAdd, Nat.reduceMul, Nat.reduceSub, Int.toNat_natCast, e, zN_le_t, zN_le_f]
  · rw [if_neg c]
    simp (disch := omega) only [↓reduceIte, ↓shl_ap, shb_ap, shv_ap, zI_lit, zL_lit, nI_z, lN_z, ofN_z, zI_add, zI_sub, zI_mul, zI_neg, zL_add, zL_sub, zL_mul, zL_neg, zI_l, zI_cl, zI_le_t, zI_le_f, zI_lt_t, zI_lt_f, zI_eq_t, zI_eq_f, zI_in_t, zz_isIn_t, zz_isIn_f, not_true_eq_false, not_false_eq_true, true_or, or_true, false_or, or_false, true_and, and_true, false_and, and_false, Nat.reduceLeDiff, Int.reduceAdd, Int.reduceSub, Int.reduceMul, Int.reduceNeg, Int.reduceToNat, Nat.reduceAdd, Nat.reduceMul, Nat.reduceSub, Int.toNat_natCast, e, zI_div, zI_mod, zN_le_t, zN_le_f]
    rfl
theorem sp_li_in (hk : sp_ok P) {k : Nat} (h : k < (sp_li P).length) : ((sp_li P).getD k (0, 0)).1 < sp_np P ∧ ((sp_li P).getD k (0, 0)).2 < sp_nt P := by
  have h5 := hk.2.2.2.2.1
  rw [List.getD_eq_getElem?_getD, List.getElem?_eq_getElem h]
  exact h5 _ (List.getElem_mem h)
theorem cl_day {s : Nat} (hw : cw μ t P) (hc : sm_cL μ r P L) (hl : sl_in P L) (hd : sl_d L ≤ 99999) (hs : s < 128) (hr : ldr r) : ∃ μ', f_X10_passDay r (zI s) μ = some μ' ∧ sm_cL μ' r P (dP P s L) ∧ sh_fr (fun a k => nA r t a k ∨ (a = r ∧ k = 0)) μ μ' ∧ ∀ a, ¬ a = r → ¬ a = r + 1 → ¬ a = r + 4 → ¬ a = 55 → ¬ a = 56 → sh_i μ' a = sh_i μ a := by
  obtain ⟨h1, h2, h3, hk⟩ := id hw
  have ht := sh_isP_r h2
  have hr' := hr
  unfold ldr at hr'
  have hb := sp_bd hk
  have hday := hc.1
  rw [nI_z] at hday
  have hro := cl_rowOf h3 hk (show sl_d L ≤ 100000 by omega)
  have fin : ∀ (m : sh_Mem) (L' : sl_T), sm_cL m r P L' → sl_d L' = sl_d L → sm_cL (sh_setI m r 0 (sh_i m r 0 + 1)) r P (sl_d L + 1, L'.2) := fun m L' hm hd' => by
    have hm1 := hm.1
    rw [hd', nI_z] at hm1
    refine ⟨?_, fun j hj => ?_, fun p' hp' => ?_⟩
    · rw [ir_set, hm1, nI_z, show (1 : Int32) = zI 1 from rfl, zI_add]; rfl
    · rw [ir_set_r (by omega)]; exact hm.2.1 j hj
    · obtain ⟨q1, q2, q3, q4⟩ := hm.2.2 p' hp'
      exact ⟨by rw [ir_set_r (by omega)]; exact q1, by rw [ir_set_r (by omega)]; exact q2, by rw [ir_set_r (by omega)]; exact q3, by rw [ir_set_r (by omega)]; exact q4⟩
  unfold dP
  by_cases c : (sp_li P).length = 0
  · rw [if_pos c] at hro ⊢
    refine ⟨sh_setI μ r 0 (sh_i μ r 0 + 1), ?_, fin μ L hc rfl, sh_fr_I sh_fr.rf (by omega), fun a z1 _ _ _ _ => ir_set_r z1⟩
    unfold f_X10_passDay
    rw [shr_ap h1]
    simp (disch := omega) only [↓reduceIte, ↓shl_ap, shb_ap, shv_ap, zI_lit, zL_lit, nI_z, lN_z, ofN_z, zI_add, zI_sub, zI_mul, zI_neg, zL_add, zL_sub, zL_mul, zL_neg, zI_l, zI_cl, zI_le_t, zI_le_f, zI_lt_t, zI_lt_f, zI_eq_t, zI_eq_f, zI_in_t, zz_isIn_t, zz_isIn_f, not_true_eq_false, not_false_eq_true, true_or, or_true, false_or, or_false, true_and, and_true, false_and, and_false, Nat.reduceLeDiff, Int.reduceAdd, Int.reduceSub, Int.reduceMul, Int.reduceNeg, Int.reduceToNat, Nat.reduceAdd, Nat.reduceMul, Nat.reduceSub, Int.toNat_natCast, h1, shr_ap h1, shp h2, hday, hro, zN_le_t, zN_le_f]
  · rw [if_neg c] at hro ⊢
    have hlt : sl_d L % (sp_li P).length < (sp_li P).length := Nat.mod_lt _ (by omega)
    generalize sl_d L % (sp_li P).length = k at *
    obtain ⟨w1, w2⟩ := h3.2.2.2.2.2.2.2.2.1 k hlt
    obtain ⟨y1, y2⟩ := sp_li_in hk hlt
    generalize (sp_li P).getD k (0, 0) = e at *
    rw [nI_z] at w1 w2
    have hbit := zI_bit (k := s) (t := e.1) hs (by omega)
    by_cases c2 : s / 2 ^ e.1 % 2 = 1
    · rw [if_pos c2]
      rw [c2] at hbit
      refine ⟨sh_setI μ r 0 (sh_i μ r 0 + 1), ?_, fin μ L hc rfl, sh_fr_I sh_fr.rf (by omega), fun a z1 _ _ _ _ => ir_set_r z1⟩
      unfold f_X10_passDay
      rw [shr_ap h1]
      simp (disch := omega) only [↓reduceIte, ↓shl_ap, shb_ap, shv_ap, zI_lit, zL_lit, nI_z, lN_z, ofN_z, zI_add, zI_sub, zI_mul, zI_neg, zL_add, zL_sub, zL_mul, zL_neg, zI_l, zI_cl, zI_le_t, zI_le_f, zI_lt_t, zI_lt_f, zI_eq_t, zI_eq_f, zI_in_t, zz_isIn_t, zz_isIn_f, not_true_eq_false, not_false_eq_true, true_or, or_true, false_or, or_false, true_and, and_true, false_and, and_false, Nat.reduceLeDiff, Int.reduceAdd, Int.reduceSub, Int.reduceMul, Int.reduceNeg, Int.reduceToNat, Nat.reduceAdd, Nat.reduceMul, Nat.reduceSub, Int.toNat_natCast, h1, shr_ap h1, shp h2, hday, hro, w1, w2, zI_and31, hbit, zN_le_t, zN_le_f]
    · rw [if_neg c2]
      have c3 : s / 2 ^ e.1 % 2 = 0 := by omega
      rw [c3] at hbit
      obtain ⟨m, k1, k2, k3, k4, k5⟩ := cl_asked (p := e.1) (q := e.2) hw hc hl (by omega) y1 y2 hr
      refine ⟨sh_setI m r 0 (sh_i m r 0 + 1), ?_, fin m _ k2 aL_d, sh_fr_I (k4.mono (fun a k z => Or.inl z)) (by omega), fun a z1 z2 z3 z4 z5 => by rw [ir_set_r z1]; exact k5 a z2 z3 z4 z5⟩
      unfold f_X10_passDay
      rw [shr_ap h1]
      simp (disch := omega) only [↓reduceIte, ↓shl_ap, shb_ap, shv_ap, zI_lit, zL_lit, nI_z, lN_z, ofN_z, zI_add, zI_sub, zI_mul, zI_neg, zL_add, zL_sub, zL_mul, zL_neg, zI_l, zI_cl, zI_le_t, zI_le_f, zI_lt_t, zI_lt_f, zI_eq_t, zI_eq_f, zI_in_t, zz_isIn_t, zz_isIn_f, not_true_eq_false, not_false_eq_true, true_or, or_true, false_or, or_false, true_and, and_true, false_and, and_false, Nat.reduceLeDiff, Int.reduceAdd, Int.reduceSub, Int.reduceMul, Int.reduceNeg, Int.reduceToNat, Nat.reduceAdd, Nat.reduceMul, Nat.reduceSub, Int.toNat_natCast, h1, shr_ap h1, shp h2, hday, hro, w1, w2, zI_and31, hbit, k1, zN_le_t, zN_le_f]
end Wd
