/-! go, undo -/
theorem pr_24 : ∀ (μ : sh_Mem) (b1 b2 b3 : Int32), Sim μ → ∃ (v : Int32) (μ1 μ2 : sh_Mem), f_X11_go b1 b2 b3 μ = some (v, μ1) ∧ f_X12_go b1 b2 b3 μ1 = some (v, μ2) ∧ Sim μ2 := by
  intro μ b1 b2 b3 h
  obtain ⟨-, -, -, -, -, -, t, P, L, hR⟩ := id h
  obtain ⟨hr, hk, hl, hP, hM, hc, hm, hkp, hu, -⟩ := id hR
  obtain ⟨a, h1, h2, rfl⟩ := zI_of b1
  obtain ⟨b, h3, h4, rfl⟩ := zI_of b2
  obtain ⟨d, h5, h6, rfl⟩ := zI_of b3
  have hb := sp_bd hk
  have hcs := sp_cells hk
  have e : f_X11_refuse (zI 2) μ = some (0, sh_setI μ 290 2 (sh_i μ 290 2 + 1)) := cl_refuse (k := 2) (by omega)
  have hMb := hM.off (off290 (μ := μ) (k := 2) (x := sh_i μ 290 2 + zI 1))
  have hmb : sm_mL (sh_i (sh_setI μ 290 2 (sh_i μ 290 2 + zI 1)) 330) 0 P L := by rw [ir_set_r (by omega)]; exact hm
  by_cases c : 0 ≤ a ∧ a < sp_np P
  · obtain ⟨p, rfl⟩ := Int.eq_ofNat_of_zero_le c.1
    have hp : p < sp_np P := by omega
    obtain ⟨l1, l2, l3, l4⟩ := hl.2.2 p hp
    rcases kx_km (P := P) b d with ⟨e1, e2⟩ | ⟨x, y, rfl, rfl, hx, hy, e1, e2⟩
    · refine ⟨0, sh_setI μ 290 2 (sh_i μ 290 2 + 1), _, ?_, ?_, h.bump (k := 2) (by omega)⟩
      · unfold f_X11_go
        rw [cl_isPerson hr.2.1 hr.1 hP hk h1 h2, if_pos c]
        simp (disch := omega) only [↓reduceIte, ↓shl_ap, shb_ap, shv_ap, zI_lit, zL_lit, nI_z, lN_z, ofN_z, zI_add, zI_sub, zI_mul, zI_neg, zL_add, zL_sub, zL_mul, zL_neg, zI_l, zI_cl, zI_le_t, zI_le_f, zI_lt_t, zI_lt_f, zI_eq_t, zI_eq_f, zI_in_t, zz_isIn_t, zz_isIn_f, not_true_eq_false, not_false_eq_true, true_or, or_true, false_or, or_false, true_and, and_true, false_and, and_false, Nat.reduceLeDiff, Int.reduceAdd, Int.reduceSub, Int.reduceMul, Int.reduceNeg, Int.reduceToNat, Nat.reduceAdd, Nat.reduceMul, Nat.reduceSub, Int.toNat_natCast, shr_ap hr.2.1, hr.2.1, shr_ap hr.2.1, shp hr.1, cl_cellAt hP hk h3 h4 h5 h6, e1, e, zN_le_t, zN_le_f]
      · unfold f_X12_go
        rw [rf_cellAt (hM.off off290) hk h3 h4 h5 h6, e2]
        simp (disch := omega) only [↓reduceIte, ↓shl_ap, shb_ap, shv_ap, zI_lit, zL_lit, nI_z, lN_z, ofN_z, zI_add, zI_sub, zI_mul, zI_neg, zL_add, zL_sub, zL_mul, zL_neg, zI_l, zI_cl, zI_le_t, zI_le_f, zI_lt_t, zI_lt_f, zI_eq_t, zI_eq_f, zI_in_t, zz_isIn_t, zz_isIn_f, not_true_eq_false, not_false_eq_true, true_or, or_true, false_or, or_false, true_and, and_true, false_and, and_false, ir_set, ir_set_k, ir_set_r, ir_row, ir_row_r, sh_i_setL, sh_i_setR, sh_r_setI, sh_r_setL, sh_r_rowI, sh_l_setI, sh_l_rowI, lr_set, lr_set_k, lr_set_r, Nat.reduceLeDiff, Int.reduceAdd, Int.reduceSub, Int.reduceMul, Int.reduceNeg, Int.reduceToNat, Nat.reduceAdd, Nat.reduceMul, Nat.reduceSub, Int.toNat_natCast, rf_isRefused, zN_le_t, zN_le_f]
    · have hcell := sp_cell hk hx hy
      have e3 := hP.2.2.2.1
      rw [nI_z] at e3
      rcases cl_some hk hc hl.2 hx hy (sp_np P) sh_fuel 0 (by omega) (by rw [sh_fuel_eq]; omega) with ⟨q1, q2⟩ | ⟨q1, q2⟩
      · rcases rf_taken hk hMb hmb hl.2 hx hy (sp_np P) sh_fuel 0 (by omega) (by rw [sh_fuel_eq]; omega) with ⟨w1, w2⟩ | ⟨w1, w2⟩
        · have q3 : f_X3_isSomeoneAt 49 (zI x) (zI y) (zI (sp_np P)) μ = some (1, μ) := q2
          have w3 : f_X12_isTaken (zI ((x + 7 * y : Nat) : Int)) (sh_setI μ 290 2 (sh_i μ 290 2 + zI 1)) = some (1, _) := w2
          refine ⟨0, sh_setI μ 290 2 (sh_i μ 290 2 + 1), _, ?_, ?_, h.bump (k := 2) (by omega)⟩
          · unfold f_X11_go
            rw [cl_isPerson hr.2.1 hr.1 hP hk h1 h2, if_pos c]
            simp (disch := omega) only [↓reduceIte, ↓shl_ap, shb_ap, shv_ap, zI_lit, zL_lit, nI_z, lN_z, ofN_z, zI_add, zI_sub, zI_mul, zI_neg, zL_add, zL_sub, zL_mul, zL_neg, zI_l, zI_cl, zI_le_t, zI_le_f, zI_lt_t, zI_lt_f, zI_eq_t, zI_eq_f, zI_in_t, zz_isIn_t, zz_isIn_f, not_true_eq_false, not_false_eq_true, true_or, or_true, false_or, or_false, true_and, and_true, false_and, and_false, Nat.reduceLeDiff, Int.reduceAdd, Int.reduceSub, Int.reduceMul, Int.reduceNeg, Int.reduceToNat, Nat.reduceAdd, Nat.reduceMul, Nat.reduceSub, Int.toNat_natCast, shr_ap hr.2.1, hr.2.1, shr_ap hr.2.1, shp hr.1, cl_cellAt hP hk h3 h4 h5 h6, e1, e3, q3, e, zN_le_t, zN_le_f]
          · unfold f_X12_go
            rw [rf_cellAt (hM.off off290) hk h3 h4 h5 h6, e2]
            simp (disch := omega) only [↓reduceIte, ↓shl_ap, shb_ap, shv_ap, zI_lit, zL_lit, nI_z, lN_z, ofN_z, zI_add, zI_sub, zI_mul, zI_neg, zL_add, zL_sub, zL_mul, zL_neg, zI_l, zI_cl, zI_le_t, zI_le_f, zI_lt_t, zI_lt_f, zI_eq_t, zI_eq_f, zI_in_t, zz_isIn_t, zz_isIn_f, not_true_eq_false, not_false_eq_true, true_or, or_true, false_or, or_false, true_and, and_true, false_and, and_false, Nat.reduceLeDiff, Int.reduceAdd, Int.reduceSub, Int.reduceMul, Int.reduceNeg, Int.reduceToNat, Nat.reduceAdd, Nat.reduceMul, Nat.reduceSub, Int.toNat_natCast, rf_isPerson hMb hk h1 h2, eq_true c, w3, zN_le_t, zN_le_f]
            simp (disch := omega) only [↓reduceIte, ↓shl_ap, shb_ap, shv_ap, zI_lit, zL_lit, nI_z, lN_z, ofN_z, zI_add, zI_sub, zI_mul, zI_neg, zL_add, zL_sub, zL_mul, zL_neg, zI_l, zI_cl, zI_le_t, zI_le_f, zI_lt_t, zI_lt_f, zI_eq_t, zI_eq_f, zI_in_t, zz_isIn_t, zz_isIn_f, not_true_eq_false, not_false_eq_true, true_or, or_true, false_or, or_false, true_and, and_true, false_and, and_false, ir_set, ir_set_k, ir_set_r, ir_row, ir_row_r, sh_i_setL, sh_i_setR, sh_r_setI, sh_r_setL, sh_r_rowI, sh_l_setI, sh_l_rowI, lr_set, lr_set_k, lr_set_r, Nat.reduceLeDiff, Int.reduceAdd, Int.reduceSub, Int.reduceMul, Int.reduceNeg, Int.reduceToNat, Nat.reduceAdd, Nat.reduceMul, Nat.reduceSub, Int.toNat_natCast, rf_isRefused, zN_le_t, zN_le_f]
        · exact absurd q1 w1
      · have q3 : f_X3_isSomeoneAt 49 (zI x) (zI y) (zI (sp_np P)) μ = some (0, μ) := q2
        obtain ⟨u, o, w, u1, u2, u3, u4, u5, u6, u7, -⟩ := id hu
        obtain ⟨μr, x1, x2, x3⟩ := cl_remember u1 u2 u4 u5
        have hof : sh_offM μ (sh_setI (sh_setI μr 51 p (zI x)) 52 p (zI y)) := sh_offM_I (sh_offM_I (fp_X4_remember h.1 sh_isL_49 x1) (by omega)) (by omega)
        have c1 : f_X11_go (zI p) (zI x) (zI y) μ = some (1, sh_setI (sh_setI μr 51 p (zI x)) 52 p (zI y)) := by
          unfold f_X11_go
          rw [cl_isPerson hr.2.1 hr.1 hP hk h1 h2, if_pos c]
          simp (disch := omega) only [↓reduceIte, ↓shl_ap, shb_ap, shv_ap, zI_lit, zL_lit, nI_z, lN_z, ofN_z, zI_add, zI_sub, zI_mul, zI_neg, zL_add, zL_sub, zL_mul, zL_neg, zI_l, zI_cl, zI_le_t, zI_le_f, zI_lt_t, zI_lt_f, zI_eq_t, zI_eq_f, zI_in_t, zz_isIn_t, zz_isIn_f, not_true_eq_false, not_false_eq_true, true_or, or_true, false_or, or_false, true_and, and_true, false_and, and_false, Nat.reduceLeDiff, Int.reduceAdd, Int.reduceSub, Int.reduceMul, Int.reduceNeg, Int.reduceToNat, Nat.reduceAdd, Nat.reduceMul, Nat.reduceSub, Int.toNat_natCast, shr_ap hr.2.1, hr.2.1, shr_ap hr.2.1, shp hr.1, cl_cellAt hP hk h3 h4 h5 h6, e1, e3, q3, x1, zN_le_t, zN_le_f]
        have e330 : sh_i (sh_setI (sh_setI μr 51 p (zI x)) 52 p (zI y)) 330 = sh_i μ 330 := (hof 330 (by omega)).1
        have hm1 : sm_mL (sh_i (sh_setI (sh_setI μr 51 p (zI x)) 52 p (zI y)) 330) 0 P L := by rw [e330]; exact hm
        obtain ⟨μs, y1, y2, y3⟩ := rf_stores (μ := sh_setI (sh_setI μr 51 p (zI x)) 52 p (zI y)) u1 u3 (by rw [(hof 291 (by omega)).1]; exact u6) (by rw [(hof 291 (by omega)).1]; exact u7)
        rcases rf_taken hk (hM.off hof) hm1 hl.2 hx hy (sp_np P) sh_fuel 0 (by omega) (by rw [sh_fuel_eq]; omega) with ⟨w1, w2⟩ | ⟨w1, w2⟩
        · exact absurd w1 q1
        · have w3 : f_X12_isTaken (zI ((x + 7 * y : Nat) : Int)) (sh_setI (sh_setI μr 51 p (zI x)) 52 p (zI y)) = some (0, _) := w2
          have c2' : f_X12_go (zI p) (zI x) (zI y) (sh_setI (sh_setI μr 51 p (zI x)) 52 p (zI y)) = some (1, sh_setI μs 330 (50 + 3 * p) (zI ((x + 7 * y : Nat) : Int))) := by
            unfold f_X12_go
            rw [rf_cellAt (hM.off hof) hk h3 h4 h5 h6, e2]
            simp (disch := omega) only [↓reduceIte, ↓shl_ap, shb_ap, shv_ap, zI_lit, zL_lit, nI_z, lN_z, ofN_z, zI_add, zI_sub, zI_mul, zI_neg, zL_add, zL_sub, zL_mul, zL_neg, zI_l, zI_cl, zI_le_t, zI_le_f, zI_lt_t, zI_lt_f, zI_eq_t, zI_eq_f, zI_in_t, zz_isIn_t, zz_isIn_f, not_true_eq_false, not_false_eq_true, true_or, or_true, false_or, or_false, true_and, and_true, false_and, and_false, Nat.reduceLeDiff, Int.reduceAdd, Int.reduceSub, Int.reduceMul, Int.reduceNeg, Int.reduceToNat, Nat.reduceAdd, Nat.reduceMul, Nat.reduceSub, Int.toNat_natCast, rf_isPerson (hM.off hof) hk h1 h2, eq_true c, w3, y1, zN_le_t, zN_le_f]
            rw [show (50 + 3 * (p : Int)).toNat = 50 + 3 * p by omega]
          refine ⟨_, _, _, c1, c2', ?_⟩
          have q1 : ∀ r k, 49 ≤ r → r ≤ 54 → ¬ ((r = 51 ∨ r = 52) ∧ k = p) → sh_i (sh_setI (sh_setI μr 51 p (zI x)) 52 p (zI y)) r k = sh_i μ r k := fun r k a b c => by rw [sh_i_set, if_neg (by omega), sh_i_set, if_neg (by omega), x2.i _ _ (by omega)]
          have q2 : ∀ k, ¬ k = 50 + 3 * p → sh_i (sh_setI μs 330 (50 + 3 * p) (zI ((x + 7 * y : Nat) : Int))) 330 k = sh_i μ 330 k := fun k q => by rw [ir_set_k q, y2.i _ _ (by omega), e330]
          obtain ⟨g1, g2, g3, g4⟩ := hc.2.2 p hp
          obtain ⟨f1, f2, f3⟩ := hm.2.2 p hp
          rw [Nat.zero_add] at f2 f3
          refine Sim.act1 (p := p) (x' := x) (y' := y) (t' := sl_t L p) (k' := sl_k L p) h (gp_X12_go (gp_X11_go h.1 c1) c2') hR hp x1 (sh_fr_I (sh_fr_I sh_fr.rf (by omega)) (by omega)) y1 (sh_fr_I sh_fr.rf (by omega)) hx hy l3 l4 (by rw [ir_set_r (by omega), ir_set, nI_z]) (by rw [ir_set, nI_z]) (by rw [q1 _ _ (by omega) (by omega) (by omega)]; exact g3) (by rw [q1 _ _ (by omega) (by omega) (by omega)]; exact g4) (by rw [ir_set, nI_z]) (by rw [q2 _ (by omega)]; exact f2) (by rw [q2 _ (by omega)]; exact f3)
  · refine ⟨0, sh_setI μ 290 2 (sh_i μ 290 2 + 1), _, ?_, ?_, h.bump (k := 2) (by omega)⟩
    · unfold f_X11_go
      rw [cl_isPerson hr.2.1 hr.1 hP hk h1 h2, if_neg c]
      simp (disch := omega) only [↓reduceIte, ↓shl_ap, shb_ap, shv_ap, zI_lit, zL_lit, nI_z, lN_z, ofN_z, zI_add, zI_sub, zI_mul, zI_neg, zL_add, zL_sub, zL_mul, zL_neg, zI_l, zI_cl, zI_le_t, zI_le_f, zI_lt_t, zI_lt_f, zI_eq_t, zI_eq_f, zI_in_t, zz_isIn_t, zz_isIn_f, not_true_eq_false, not_false_eq_true, true_or, or_true, false_or, or_false, true_and, and_true, false_and, and_false, Nat.reduceLeDiff, Int.reduceAdd, Int.reduceSub, Int.reduceMul, Int.reduceNeg, Int.reduceToNat, Nat.reduceAdd, Nat.reduceMul, Nat.reduceSub, Int.toNat_natCast, e, zN_le_t, zN_le_f]
    · unfold f_X12_go
      rw [rf_cellAt (hM.off off290) hk h3 h4 h5 h6]
      rcases kx_km (P := P) b d with ⟨e1, e2⟩ | ⟨x, y, rfl, rfl, hx, hy, e1, e2⟩
      · rw [e2]
        simp (disch := omega) only [↓reduceIte, ↓shl_ap, shb_ap, shv_ap, zI_lit, zL_lit, nI_z, lN_z, ofN_z, zI_add, zI_sub, zI_mul, zI_neg, zL_add, zL_sub, zL_mul, zL_neg, zI_l, zI_cl, zI_le_t, zI_le_f, zI_lt_t, zI_lt_f, zI_eq_t, zI_eq_f, zI_in_t, zz_isIn_t, zz_isIn_f, not_true_eq_false, not_false_eq_true, true_or, or_true, false_or, or_false, true_and, and_true, false_and, and_false, ir_set, ir_set_k, ir_set_r, ir_row, ir_row_r, sh_i_setL, sh_i_setR, sh_r_setI, sh_r_setL, sh_r_rowI, sh_l_setI, sh_l_rowI, lr_set, lr_set_k, lr_set_r, Nat.reduceLeDiff, Int.reduceAdd, Int.reduceSub, Int.reduceMul, Int.reduceNeg, Int.reduceToNat, Nat.reduceAdd, Nat.reduceMul, Nat.reduceSub, Int.toNat_natCast, rf_isRefused, zN_le_t, zN_le_f]
      · rw [e2]
        have hcell := sp_cell hk hx hy
        simp (disch := omega) only [↓reduceIte, ↓shl_ap, shb_ap, shv_ap, zI_lit, zL_lit, nI_z, lN_z, ofN_z, zI_add, zI_sub, zI_mul, zI_neg, zL_add, zL_sub, zL_mul, zL_neg, zI_l, zI_cl, zI_le_t, zI_le_f, zI_lt_t, zI_lt_f, zI_eq_t, zI_eq_f, zI_in_t, zz_isIn_t, zz_isIn_f, not_true_eq_false, not_false_eq_true, true_or, or_true, false_or, or_false, true_and, and_true, false_and, and_false, Nat.reduceLeDiff, Int.reduceAdd, Int.reduceSub, Int.reduceMul, Int.reduceNeg, Int.reduceToNat, Nat.reduceAdd, Nat.reduceMul, Nat.reduceSub, Int.toNat_natCast, rf_isPerson hMb hk h1 h2, eq_false c, zN_le_t, zN_le_f]
        simp (disch := omega) only [↓reduceIte, ↓shl_ap, shb_ap, shv_ap, zI_lit, zL_lit, nI_z, lN_z, ofN_z, zI_add, zI_sub, zI_mul, zI_neg, zL_add, zL_sub, zL_mul, zL_neg, zI_l, zI_cl, zI_le_t, zI_le_f, zI_lt_t, zI_lt_f, zI_eq_t, zI_eq_f, zI_in_t, zz_isIn_t, zz_isIn_f, not_true_eq_false, not_false_eq_true, true_or, or_true, false_or, or_false, true_and, and_true, false_and, and_false, ir_set, ir_set_k, ir_set_r, ir_row, ir_row_r, sh_i_setL, sh_i_setR, sh_r_setI, sh_r_setL, sh_r_rowI, sh_l_setI, sh_l_rowI, lr_set, lr_set_k, lr_set_r, Nat.reduceLeDiff, Int.reduceAdd, Int.reduceSub, Int.reduceMul, Int.reduceNeg, Int.reduceToNat, Nat.reduceAdd, Nat.reduceMul, Nat.reduceSub, Int.toNat_natCast, rf_isRefused, zN_le_t, zN_le_f]
theorem rf_undo1 {w : Nat} (hw : w < 20) : ∀ (g f i : Nat) (μ : sh_Mem), i + g = 232 → g < f → sh_i μ 291 77 = zI w → ∃ μ', F_X12_undo f 1 (zI i) μ = F_X12_undo (f - g) 1 (zI 232) μ' ∧ sh_fr (fun r k => r = 330 ∧ i ≤ k ∧ k < 232) μ μ' ∧ ∀ k, i ≤ k → k < 232 → sh_i μ' 330 k = sh_i μ 340 (232 * w + k) := by
  intro g
  induction g with
  | zero =>
    intro f i μ hi hf e
    have hi : i = 232 := by omega
    subst hi
    exact ⟨μ, rfl, sh_fr.rf, fun k h1 h2 => by omega⟩
  | succ g ih =>
    intro f i μ hi hf e
    obtain ⟨f, rfl⟩ : ∃ q, f = q + 1 := ⟨f - 1, by omega⟩
    obtain ⟨μ', a, b, c⟩ := ih f (i + 1) (sh_setI μ 330 i (sh_i μ 340 (232 * w + i))) (by omega) (by omega) (by rw [ir_set_r (by omega)]; exact e)
    refine ⟨μ', ?_, (sh_fr_I sh_fr.rf (by omega)).trans (b.mono (fun r k q => by omega)), fun k h1 h2 => ?_⟩
    · rw [show f + 1 - (g + 1) = f - g by omega, ← a, F_X12_undo]
      simp (disch := omega) only [↓reduceIte, ↓shl_ap, shb_ap, shv_ap, zI_lit, zL_lit, nI_z, lN_z, ofN_z, zI_add, zI_sub, zI_mul, zI_neg, zL_add, zL_sub, zL_mul, zL_neg, zI_l, zI_cl, zI_le_t, zI_le_f, zI_lt_t, zI_lt_f, zI_eq_t, zI_eq_f, zI_in_t, zz_isIn_t, zz_isIn_f, not_true_eq_false, not_false_eq_true, true_or, or_true, false_or, or_false, true_and, and_true, false_and, and_false, ir_set, ir_set_k, ir_set_r, ir_row, ir_row_r, sh_i_setL, sh_i_setR, sh_r_setI, sh_r_setL, sh_r_rowI, sh_l_setI, sh_l_rowI, lr_set, lr_set_k, lr_set_r, Nat.reduceLeDiff, Int.reduceAdd, Int.reduceSub, Int.reduceMul, Int.reduceNeg, Int.reduceToNat, Nat.reduceAdd, Nat.reduceMul, Nat.reduceSub, Int.toNat_natCast, e, zN_le_t, zN_le_f]
      rw [show (232 * (w : Int) + i).toNat = 232 * w + i by omega]
      rfl
    · by_cases q : k = i
      · subst q
        rw [b.i _ _ (by omega), ir_set]
      · rw [c k (by omega) h2, ir_set_r (by omega)]
theorem rf_undo {μ : sh_Mem} {a w : Nat} (ha : a < 20) (hw : w < 20) (e1 : sh_i μ 291 76 = nI (a + 1)) (e2 : sh_i μ 291 77 = nI w) : ∃ μ', f_X12_undo μ = some (1, μ') ∧ sh_fr (fun r k => (r = 330 ∧ k < 232) ∨ (r = 291 ∧ (k = 76 ∨ k = 77))) μ μ' ∧ (∀ k, k < 232 → sh_i μ' 330 k = sh_i μ 340 (232 * w + k)) ∧ sh_i μ' 291 76 = nI a ∧ sh_i μ' 291 77 = nI ((w + 19) % 20) := by
  rw [nI_z] at e1 e2
  obtain ⟨μ', k1, k2, k3⟩ := rf_undo1 (w := w) hw 232 sh_fuel 0 μ (by omega) (by rw [sh_fuel_eq]; omega) e2
  obtain ⟨f, hf⟩ : ∃ f, sh_fuel - 232 = f + 1 := ⟨sh_fuel - 233, by rw [sh_fuel_eq]⟩
  have g1 : sh_i μ' 291 76 = zI (a + 1 : Nat) := by rw [k2.i _ _ (by omega), e1]
  have g2 : sh_i μ' 291 77 = zI w := by rw [k2.i _ _ (by omega), e2]
  refine ⟨sh_setI (sh_setI μ' 291 77 (zI (((w : Int) + 20 - 1) % 20))) 291 76 (zI ((a + 1 : Nat) - 1 : Int)), ?_, sh_fr_I (sh_fr_I (k2.mono (fun r k q => by omega)) (by omega)) (by omega), fun k hk => ?_, ?_, ?_⟩
  · unfold f_X12_undo
    rw [e1]
    simp (disch := omega) only [↓reduceIte, ↓shl_ap, shb_ap, shv_ap, zI_lit, zL_lit, nI_z, lN_z, ofN_z, zI_add, zI_sub, zI_mul, zI_neg, zL_add, zL_sub, zL_mul, zL_neg, zI_l, zI_cl, zI_le_t, zI_le_f, zI_lt_t, zI_lt_f, zI_eq_t, zI_eq_f, zI_in_t, zz_isIn_t, zz_isIn_f, not_true_eq_false, not_false_eq_true, true_or, or_true, false_or, or_false, true_and, and_true, false_and, and_false, Nat.reduceLeDiff, Int.reduceAdd, Int.reduceSub, Int.reduceMul, Int.reduceNeg, Int.reduceToNat, Nat.reduceAdd, Nat.reduceMul, Nat.reduceSub, Int.toNat_natCast, zN_le_t, zN_le_f]
    have k1' : F_X12_undo sh_fuel 1 (zI 0) μ = _ := k1
    rw [k1', hf, F_X12_undo]
    simp (disch := omega) only [↓reduceIte, ↓shl_ap, shb_ap, shv_ap, zI_lit, zL_lit, nI_z, lN_z, ofN_z, zI_add, zI_sub, zI_mul, zI_neg, zL_add, zL_sub, zL_mul, zL_neg, zI_l, zI_cl, zI_le_t, zI_le_f, zI_lt_t, zI_lt_f, zI_eq_t, zI_eq_f, zI_in_t, zz_isIn_t, zz_isIn_f, not_true_eq_false, not_false_eq_true, true_or, or_true, false_or, or_false, true_and, and_true, false_and, and_false, ir_set, ir_set_k, ir_set_r, ir_row, ir_row_r, sh_i_setL, sh_i_setR, sh_r_setI, sh_r_setL, sh_r_rowI, sh_l_setI, sh_l_rowI, lr_set, lr_set_k, lr_set_r, Nat.reduceLeDiff, Int.reduceAdd, Int.reduceSub, Int.reduceMul, Int.reduceNeg, Int.reduceToNat, Nat.reduceAdd, Nat.reduceMul, Nat.reduceSub, Int.toNat_natCast, g1, g2, zI_div, zI_mod, zN_le_t, zN_le_f]
  · rw [ir_set_r (by omega), ir_set_r (by omega), k3 k (by omega) hk]
  · rw [ir_set, nI_z, show ((a + 1 : Nat) : Int) - 1 = (a : Int) by omega]
  · rw [ir_set_k (by omega), ir_set, nI_z, show ((w : Int) + 20 - 1) % 20 = (((w + 19) % 20 : Nat) : Int) by omega]
theorem cl_goBack {μ : sh_Mem} {a o : Nat} (ha : a < 20) (ho : o < 20) (e1 : sh_i μ 63 2 = nI (a + 1)) (e2 : sh_i μ 63 3 = nI o) : ∃ μ', f_X4_goBack 49 μ = some (1, μ') ∧ sh_fr (fun r k => (49 ≤ r ∧ r ≤ 54) ∨ (r = 63 ∧ (k = 1 ∨ k = 2)) ∨ r = 64) μ μ' ∧
    sh_i μ' 49 0 = sh_i μ (88 + 6 * ((o + a) % 20)) 0 ∧ (∀ k, k < 49 → sh_i μ' 50 k = sh_i μ (88 + 6 * ((o + a) % 20) + 1) k) ∧ (∀ i, 2 ≤ i → i ≤ 5 → ∀ k, k < 7 → sh_i μ' (49 + i) k = sh_i μ (88 + 6 * ((o + a) % 20) + i) k) ∧
    (∀ k, k < 160 → sh_i μ' 64 k = sh_i μ (67 + (o + a) % 20) k) ∧ sh_i μ' 63 1 = sh_i μ 87 ((o + a) % 20) ∧ sh_i μ' 63 2 = nI a := by
  rw [nI_z] at e1 e2
  obtain ⟨w, hw⟩ : ∃ w, w = (o + a) % 20 := ⟨_, rfl⟩
  have hw20 : w < 20 := by omega
  rw [← hw]
  obtain ⟨m, hm⟩ : ∃ m, m = sh_setI μ 63 2 (zI a) := ⟨_, rfl⟩
  have nm : ∀ r, ¬ r = 63 → sh_i m r = sh_i μ r := fun r q => by rw [hm, ir_set_r q]
  obtain ⟨μ3, k1, k2, k3, k4, k5⟩ := cl_copy (μ := m) (r := 49) (q := 88 + 6 * w) (by omega)
  have fm : sh_fr (fun r k => (49 ≤ r ∧ r ≤ 54) ∨ (r = 63 ∧ (k = 1 ∨ k = 2)) ∨ r = 64) μ m := by rw [hm]; exact sh_fr_I sh_fr.rf (by omega)
  have hx : zI o + zI a - (zI o + zI a) / zI 20 * zI 20 = zI w := by
    simp (disch := omega) only [↓reduceIte, ↓shl_ap, shb_ap, shv_ap, zI_lit, zL_lit, nI_z, lN_z, ofN_z, zI_add, zI_sub, zI_mul, zI_neg, zL_add, zL_sub, zL_mul, zL_neg, zI_l, zI_cl, zI_le_t, zI_le_f, zI_lt_t, zI_lt_f, zI_eq_t, zI_eq_f, zI_in_t, zz_isIn_t, zz_isIn_f, not_true_eq_false, not_false_eq_true, true_or, or_true, false_or, or_false, true_and, and_true, false_and, and_false, Nat.reduceLeDiff, Int.reduceAdd, Int.reduceSub, Int.reduceMul, Int.reduceNeg, Int.reduceToNat, Nat.reduceAdd, Nat.reduceMul, Nat.reduceSub, Int.toNat_natCast, zI_div, zI_mod, zN_le_t, zN_le_f]
  have q1 : sh_i m 63 2 = zI a := by rw [hm, ir_set]
  have q2 : sh_i m 63 3 = zI o := by rw [hm, ir_set_k (by omega), e2]
  have hr : f_X4_goBack 49 μ = some (1, sh_setI (sh_rowI μ3 64 (va_cpy (sh_i μ3 (67 + w)) (sh_i μ3 64) 0 0 160)) 63 1 (sh_i μ3 87 w)) := by
    unfold f_X4_goBack
    rw [e1]
    simp (disch := omega) only [↓reduceIte, ↓shl_ap, shb_ap, shv_ap, zI_lit, zL_lit, nI_z, lN_z, ofN_z, zI_add, zI_sub, zI_mul, zI_neg, zL_add, zL_sub, zL_mul, zL_neg, zI_l, zI_cl, zI_le_t, zI_le_f, zI_lt_t, zI_lt_f, zI_eq_t, zI_eq_f, zI_in_t, zz_isIn_t, zz_isIn_f, not_true_eq_false, not_false_eq_true, true_or, or_true, false_or, or_false, true_and, and_true, false_and, and_false, Nat.reduceLeDiff, Int.reduceAdd, Int.reduceSub, Int.reduceMul, Int.reduceNeg, Int.reduceToNat, Nat.reduceAdd, Nat.reduceMul, Nat.reduceSub, Int.toNat_natCast, zN_le_t, zN_le_f]
    rw [show (((a + 1 : Nat) : Int) - 1) = (a : Int) by omega, ← hm, q1, q2]
    simp (disch := omega) only [↓reduceIte, ↓shl_ap, shb_ap, shv_ap, zI_lit, zL_lit, nI_z, lN_z, ofN_z, zI_add, zI_sub, zI_mul, zI_neg, zL_add, zL_sub, zL_mul, zL_neg, zI_l, zI_cl, zI_le_t, zI_le_f, zI_lt_t, zI_lt_f, zI_eq_t, zI_eq_f, zI_in_t, zz_isIn_t, zz_isIn_f, not_true_eq_false, not_false_eq_true, true_or, or_true, false_or, or_false, true_and, and_true, false_and, and_false, Nat.reduceLeDiff, Int.reduceAdd, Int.reduceSub, Int.reduceMul, Int.reduceNeg, Int.reduceToNat, Nat.reduceAdd, Nat.reduceMul, Nat.reduceSub, Int.toNat_natCast, zI_div, zI_mod, zN_le_t, zN_le_f]
    rw [show ((o : Int) + a) % 20 = (w : Int) by omega]
    simp (disch := omega) only [↓reduceIte, ↓shl_ap, shb_ap, shv_ap, zI_lit, zL_lit, nI_z, lN_z, ofN_z, zI_add, zI_sub, zI_mul, zI_neg, zL_add, zL_sub, zL_mul, zL_neg, zI_l, zI_cl, zI_le_t, zI_le_f, zI_lt_t, zI_lt_f, zI_eq_t, zI_eq_f, zI_in_t, zz_isIn_t, zz_isIn_f, not_true_eq_false, not_false_eq_true, true_or, or_true, false_or, or_false, true_and, and_true, false_and, and_false, ir_set, ir_set_k, ir_set_r, ir_row, ir_row_r, sh_i_setL, sh_i_setR, sh_r_setI, sh_r_setL, sh_r_rowI, sh_l_setI, sh_l_rowI, lr_set, lr_set_k, lr_set_r, Nat.reduceLeDiff, Int.reduceAdd, Int.reduceSub, Int.reduceMul, Int.reduceNeg, Int.reduceToNat, Nat.reduceAdd, Nat.reduceMul, Nat.reduceSub, Int.toNat_natCast, k1, zN_le_t, zN_le_f]
  refine ⟨_, hr, sh_fr_I (sh_fr_row (fm.trans (k2.mono (fun r k q => by omega))) (fun k => by omega)) (by omega), ?_, ?_, ?_, ?_, ?_, ?_⟩
  · simp (disch := omega) only [↓reduceIte, ↓shl_ap, shb_ap, shv_ap, zI_lit, zL_lit, nI_z, lN_z, ofN_z, zI_add, zI_sub, zI_mul, zI_neg, zL_add, zL_sub, zL_mul, zL_neg, zI_l, zI_cl, zI_le_t, zI_le_f, zI_lt_t, zI_lt_f, zI_eq_t, zI_eq_f, zI_in_t, zz_isIn_t, zz_isIn_f, not_true_eq_false, not_false_eq_true, true_or, or_true, false_or, or_false, true_and, and_true, false_and, and_false, ir_set, ir_set_k, ir_set_r, ir_row, ir_row_r, sh_i_setL, sh_i_setR, sh_r_setI, sh_r_setL, sh_r_rowI, sh_l_setI, sh_l_rowI, lr_set, lr_set_k, lr_set_r, Nat.reduceLeDiff, Int.reduceAdd, Int.reduceSub, Int.reduceMul, Int.reduceNeg, Int.reduceToNat, Nat.reduceAdd, Nat.reduceMul, Nat.reduceSub, Int.toNat_natCast, k3, nm, zN_le_t, zN_le_f]
  · intro k hk; simp (disch := omega) only [↓reduceIte, ↓shl_ap, shb_ap, shv_ap, zI_lit, zL_lit, nI_z, lN_z, ofN_z, zI_add, zI_sub, zI_mul, zI_neg, zL_add, zL_sub, zL_mul, zL_neg, zI_l, zI_cl, zI_le_t, zI_le_f, zI_lt_t, zI_lt_f, zI_eq_t, zI_eq_f, zI_in_t, zz_isIn_t, zz_isIn_f, not_true_eq_false, not_false_eq_true, true_or, or_true, false_or, or_false, true_and, and_true, false_and, and_false, ir_set, ir_set_k, ir_set_r, ir_row, ir_row_r, sh_i_setL, sh_i_setR, sh_r_setI, sh_r_setL, sh_r_rowI, sh_l_setI, sh_l_rowI, lr_set, lr_set_k, lr_set_r, Nat.reduceLeDiff, Int.reduceAdd, Int.reduceSub, Int.reduceMul, Int.reduceNeg, Int.reduceToNat, Nat.reduceAdd, Nat.reduceMul, Nat.reduceSub, Int.toNat_natCast, k4 k hk, nm, zN_le_t, zN_le_f]
  · intro i h2 h5 k hk
    simp (disch := omega) only [↓reduceIte, ↓shl_ap, shb_ap, shv_ap, zI_lit, zL_lit, nI_z, lN_z, ofN_z, zI_add, zI_sub, zI_mul, zI_neg, zL_add, zL_sub, zL_mul, zL_neg, zI_l, zI_cl, zI_le_t, zI_le_f, zI_lt_t, zI_lt_f, zI_eq_t, zI_eq_f, zI_in_t, zz_isIn_t, zz_isIn_f, not_true_eq_false, not_false_eq_true, true_or, or_true, false_or, or_false, true_and, and_true, false_and, and_false, ir_set, ir_set_k, ir_set_r, ir_row, ir_row_r, sh_i_setL, sh_i_setR, sh_r_setI, sh_r_setL, sh_r_rowI, sh_l_setI, sh_l_rowI, lr_set, lr_set_k, lr_set_r, Nat.reduceLeDiff, Int.reduceAdd, Int.reduceSub, Int.reduceMul, Int.reduceNeg, Int.reduceToNat, Nat.reduceAdd, Nat.reduceMul, Nat.reduceSub, Int.toNat_natCast, k5 i h2 h5 k hk, nm, zN_le_t, zN_le_f]
  · intro k hk
    simp (disch := omega) only [↓reduceIte, ↓shl_ap, shb_ap, shv_ap, zI_lit, zL_lit, nI_z, lN_z, ofN_z, zI_add, zI_sub, zI_mul, zI_neg, zL_add, zL_sub, zL_mul, zL_neg, zI_l, zI_cl, zI_le_t, zI_le_f, zI_lt_t, zI_lt_f, zI_eq_t, zI_eq_f, zI_in_t, zz_isIn_t, zz_isIn_f, not_true_eq_false, not_false_eq_true, true_or, or_true, false_or, or_false, true_and, and_true, false_and, and_false, ir_set, ir_set_k, ir_set_r, ir_row, ir_row_r, sh_i_setL, sh_i_setR, sh_r_setI, sh_r_setL, sh_r_rowI, sh_l_setI, sh_l_rowI, lr_set, lr_set_k, lr_set_r, Nat.reduceLeDiff, Int.reduceAdd, Int.reduceSub, Int.reduceMul, Int.reduceNeg, Int.reduceToNat, Nat.reduceAdd, Nat.reduceMul, Nat.reduceSub, Int.toNat_natCast, cpy_all hk, zN_le_t, zN_le_f]
    rw [k2.i _ _ (by omega), nm _ (by omega)]
  · rw [ir_set, k2.i _ _ (by omega), nm _ (by omega)]
  · rw [ir_set_k (by omega), ir_row_r (by omega), k2.i _ _ (by omega), q1, nI_z]
theorem pr_28 : ∀ (μ : sh_Mem), Sim μ → ∃ (v : Int32) (μ1 μ2 : sh_Mem), f_X11_undo μ = some (v, μ1) ∧ f_X12_undo μ1 = some (v, μ2) ∧ Sim μ2 := by
  intro μ h
  obtain ⟨g1, g2, g3, g4, g5, g6, t, P, L, hR⟩ := id h
  obtain ⟨hr, hk, hl, hP, hM, hc, hm, hkp, hu, hs, z1, z2, z3, z4, z5⟩ := id hR
  obtain ⟨u, o, w, u1, u2, u3, u4, u5, u6, u7, u8⟩ := id hu
  cases u with
  | zero =>
    have e : f_X11_refuse (zI 4) μ = some (0, sh_setI μ 290 4 (sh_i μ 290 4 + 1)) := cl_refuse (k := 4) (by omega)
    refine ⟨0, sh_setI μ 290 4 (sh_i μ 290 4 + 1), _, ?_, ?_, h.bump (k := 4) (by omega)⟩
    · unfold f_X11_undo f_X4_goBack
      simp (disch := omega) only [↓reduceIte, ↓shl_ap, shb_ap, shv_ap, zI_lit, zL_lit, nI_z, lN_z, ofN_z, zI_add, zI_sub, zI_mul, zI_neg, zL_add, zL_sub, zL_mul, zL_neg, zI_l, zI_cl, zI_le_t, zI_le_f, zI_lt_t, zI_lt_f, zI_eq_t, zI_eq_f, zI_in_t, zz_isIn_t, zz_isIn_f, not_true_eq_false, not_false_eq_true, true_or, or_true, false_or, or_false, true_and, and_true, false_and, and_false, Nat.reduceLeDiff, Int.reduceAdd, Int.reduceSub, Int.reduceMul, Int.reduceNeg, Int.reduceToNat, Nat.reduceAdd, Nat.reduceMul, Nat.reduceSub, Int.toNat_natCast, u4, e, zN_le_t, zN_le_f]
    · unfold f_X12_undo
      simp (disch := omega) only [↓reduceIte, ↓shl_ap, shb_ap, shv_ap, zI_lit, zL_lit, nI_z, lN_z, ofN_z, zI_add, zI_sub, zI_mul, zI_neg, zL_add, zL_sub, zL_mul, zL_neg, zI_l, zI_cl, zI_le_t, zI_le_f, zI_lt_t, zI_lt_f, zI_eq_t, zI_eq_f, zI_in_t, zz_isIn_t, zz_isIn_f, not_true_eq_false, not_false_eq_true, true_or, or_true, false_or, or_false, true_and, and_true, false_and, and_false, ir_set, ir_set_k, ir_set_r, ir_row, ir_row_r, sh_i_setL, sh_i_setR, sh_r_setI, sh_r_setL, sh_r_rowI, sh_l_setI, sh_l_rowI, lr_set, lr_set_k, lr_set_r, Nat.reduceLeDiff, Int.reduceAdd, Int.reduceSub, Int.reduceMul, Int.reduceNeg, Int.reduceToNat, Nat.reduceAdd, Nat.reduceMul, Nat.reduceSub, Int.toNat_natCast, u6, zN_le_t, zN_le_f]
  | succ a =>
    obtain ⟨μ1, x1, x2, x3, x4, x5, x6, x7, x8⟩ := cl_goBack (μ := μ) (a := a) (o := o) (by omega) u2 u4 u5
    have c1 : f_X11_undo μ = some (1, μ1) := by
      unfold f_X11_undo
      rw [x1]
      simp (disch := omega) only [↓reduceIte, ↓shl_ap, shb_ap, shv_ap, zI_lit, zL_lit, nI_z, lN_z, ofN_z, zI_add, zI_sub, zI_mul, zI_neg, zL_add, zL_sub, zL_mul, zL_neg, zI_l, zI_cl, zI_le_t, zI_le_f, zI_lt_t, zI_lt_f, zI_eq_t, zI_eq_f, zI_in_t, zz_isIn_t, zz_isIn_f, not_true_eq_false, not_false_eq_true, true_or, or_true, false_or, or_false, true_and, and_true, false_and, and_false, Nat.reduceLeDiff, Int.reduceAdd, Int.reduceSub, Int.reduceMul, Int.reduceNeg, Int.reduceToNat, Nat.reduceAdd, Nat.reduceMul, Nat.reduceSub, Int.toNat_natCast, zN_le_t, zN_le_f]
    obtain ⟨μ2, y1, y2, y3, y4, y5⟩ := rf_undo (μ := μ1) (a := a) (w := w) (by omega) u3 (by rw [x2.i _ _ (by omega)]; exact u6) (by rw [x2.i _ _ (by omega)]; exact u7)
    refine ⟨_, _, _, c1, y1, ?_⟩
    have hf : sh_fr (fun r k => (49 ≤ r ∧ r ≤ 54) ∨ (r = 63 ∧ (k = 1 ∨ k = 2)) ∨ r = 64 ∨ (r = 330 ∧ k < 232) ∨ (r = 291 ∧ (k = 76 ∨ k = 77))) μ μ2 := (x2.mono (fun r k q => by omega)).trans (y2.mono (fun r k q => by omega))
    have low : ∀ r k, r < 291 → sh_i μ2 r k = sh_i μ1 r k := fun r k q => y2.i r k (by omega)
    have e340 : ∀ k, sh_i μ1 340 k = sh_i μ 340 k := fun k => x2.i 340 k (by omega)
    obtain ⟨⟨L', l1, l2, l3⟩, l4⟩ := u8 0 (by omega)
    rw [show a + 1 - 1 - 0 = a by omega] at l2 l4
    rw [show (w + 20 - 0) % 20 = w by omega] at l3 l4
    have hE : ∀ k, k < 232 → sh_i μ2 330 (0 + k) = sh_i μ 340 (232 * w + k) := fun k q => by rw [Nat.zero_add, y3 k q, e340]
    have ht := hr.1
    have tc : ∀ j, j ≤ 12 → ¬ j = 7 → ¬ j = 10 → sh_i μ2 (t + j) = sh_i μ (t + j) := by
      intro j hj _ _
      refine hf.row _ (fun k => ?_)
      rcases ht with rfl | rfl <;> omega
    refine ⟨gp_X12_undo (gp_X11_undo h.1 c1) y1, g2.cg (hf.i _ _ (by omega)) (hf.i _ _ (by omega)) (hf.row _ (fun k => by omega)) (hf.row _ (fun k => by omega)), g3.cg (hf.i _ _ (by omega)) (hf.i _ _ (by omega)) (hf.i _ _ (by omega)) (hf.i _ _ (by omega)), g4.cg (hf.row _ (fun k => by omega)) (hf.row _ (fun k => by omega)), g5.cg (hf.2 _ _ (by omega)).2 (hf.2 _ _ (by omega)).2, g6.cg (hf.i _ _ (by omega)) (hf.i _ _ (by omega)) (hf.row _ (fun k => by omega)) (hf.row _ (fun k => by omega)), t, P, L', hr.cg hf.1, hk, l1, hP.cg tc, hM.cg (hf.i _ _ (by omega)) (fun j h1 h2 => hf.row _ (fun k => by omega)) (hf.lrow _ (fun k => by omega)), ?_, l3.sh hk hE, ?_, ?_, hs.cg (hf.i _ _ (by omega)) (hf.i _ _ (by omega)) (hf.row _ (fun k => by omega)) (hf.row _ (fun k => by omega)), by rw [hf.i _ _ (by omega)]; exact z1, by rw [hf.i _ _ (by omega)]; exact z2, by rw [hf.i _ _ (by omega)]; exact z3, by rw [hf.i _ _ (by omega)]; exact z4, fun q hq j hj => (hf.i _ _ (by have := sw_rng q hq; omega)).trans (z5 q hq j hj)⟩
    · refine l2.of hk ?_ (fun k q => ?_) (fun i q1 q2 k q => ?_)
      · rw [low _ _ (by omega)]; exact x3
      · rw [low _ _ (by omega)]; exact x4 k q
      · rw [low _ _ (by omega)]; exact x5 i q1 q2 k q
    · refine l4.sh ?_ (fun k q => ?_) hE
      · rw [low _ _ (by omega)]; exact x7
      · rw [low _ _ (by omega)]; exact x6 k q
    · refine ⟨a, o, (w + 19) % 20, by omega, u2, by omega, by rw [low _ _ (by omega)]; exact x8, by rw [hf.i _ _ (by omega)]; exact u5, y4, y5, fun i hi => ?_⟩
      have := u8 (i + 1) (by omega)
      rw [show a + 1 - 1 - (i + 1) = a - 1 - i by omega, show (w + 20 - (i + 1)) % 20 = ((w + 19) % 20 + 20 - i) % 20 by omega] at this
      obtain ⟨⟨L2, m1, m2, m3⟩, m4⟩ := this
      have r340 : sh_i μ2 340 = sh_i μ 340 := hf.row _ (fun k => by omega)
      refine ⟨⟨L2, m1, m2.cg (fun j hj => hf.row _ (fun k => by omega)), by rw [r340]; exact m3⟩, ?_⟩
      rw [r340, hf.row (67 + (o + (a - 1 - i)) % 20) (fun k => by omega), hf.row 87 (fun k => by omega)]
      exact m4
