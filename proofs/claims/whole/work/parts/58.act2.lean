/-! ease, teach, go, undo -/
theorem Sim.act1 {μ μr μ1 μs μ2 : sh_Mem} {t p x' y' t' k' : Nat} {P : sp_T} {L : sl_T} (h : Sim μ) (hG2 : sh_G μ2) (hR : sm_rest μ t P L) (hp : p < sp_np P) (hr : f_X4_remember 49 μ = some μr) (fA : sh_fr (fun r k => 51 ≤ r ∧ r ≤ 54 ∧ k = p) μr μ1) (hs : f_X12_stores μ1 = some μs) (fB : sh_fr (fun r k => r = 330 ∧ 50 + 3 * p ≤ k ∧ k ≤ 52 + 3 * p) μs μ2)
    (o1 : x' < sp_c P) (o2 : y' < sp_r P) (o3 : t' ≤ 9) (o4 : k' < 2 ^ sp_nt P) (w1 : sh_i μ1 51 p = nI x') (w2 : sh_i μ1 52 p = nI y') (w3 : sh_i μ1 53 p = nI t') (w4 : sh_i μ1 54 p = nI k') (v1 : sh_i μ2 330 (50 + 3 * p) = nI (x' + 7 * y')) (v2 : sh_i μ2 330 (51 + 3 * p) = nI t') (v3 : sh_i μ2 330 (52 + 3 * p) = nI k') : Sim μ2 := by
  obtain ⟨-, hk, hl, hP, hM, hc, hm, hkp, hu, -, z57, z60, -⟩ := id hR
  have hb := sp_bd hk
  obtain ⟨u, o, w, u1, u2, u3, u4, u5, u6, u7, -⟩ := id hu
  obtain ⟨μr', x1, x2, -⟩ := cl_remember u1 u2 u4 u5
  obtain rfl : μr' = μr := Option.some.inj (x1.symm.trans hr)
  have x3 : sh_fr (fun r k => (67 ≤ r ∧ r ≤ 207) ∨ (r = 63 ∧ (k = 2 ∨ k = 3))) μ μr' := x2.mono (fun r k q => by omega)
  have hof : ∀ r k, 291 ≤ r → sh_i μ1 r k = sh_i μ r k ∧ sh_l μ1 r k = sh_l μ r k := fun r k q => ⟨(fA.i r k (by omega)).trans (x3.i r k (by omega)), (fA.2 r k (by omega)).2.trans (x3.2 r k (by omega)).2⟩
  obtain ⟨μs', y1, y2, -⟩ := rf_stores u1 u3 ((hof 291 76 (by omega)).1.trans u6) ((hof 291 77 (by omega)).1.trans u7)
  obtain rfl : μs' = μs := Option.some.inj (y1.symm.trans hs)
  have y3 : sh_fr (fun r k => r = 340 ∨ (r = 291 ∧ (k = 76 ∨ k = 77))) μ1 μs' := y2.mono (fun r k q => by omega)
  have e330 : ∀ k, ¬ (50 + 3 * p ≤ k ∧ k ≤ 52 + 3 * p) → sh_i μ2 330 k = sh_i μ 330 k := fun k q => by rw [fB.i 330 k (by omega), y3.i 330 k (by omega), (hof 330 k (by omega)).1]
  have elow : ∀ r k, r < 291 → sh_i μ2 r k = sh_i μ1 r k := fun r k q => by rw [fB.i r k (by omega), y3.i r k (by omega)]
  have e49 : ∀ r k, (49 ≤ r ∧ r ≤ 64) → ¬ (51 ≤ r ∧ r ≤ 54 ∧ k = p) → ¬ (r = 63 ∧ (k = 2 ∨ k = 3)) → sh_i μ2 r k = sh_i μ r k := fun r k q1 q2 q3 => by rw [elow r k (by omega), fA.i r k q2, x3.i r k (by omega)]
  refine Sim.act (L' := (sl_d L, sl_h L, fun q => if q = p then x' else sl_x L q, fun q => if q = p then y' else sl_y L q, fun q => if q = p then t' else sl_t L q, fun q => if q = p then k' else sl_k L q)) h hG2 hR x1 (fA.mono (fun r k q => ⟨by omega, Or.inr (Or.inl (by omega))⟩)) y1 (fB.mono (fun r k q => ⟨by omega, Or.inr (Or.inl q.1)⟩)) ⟨hl.1, hl.2.1, fun q hq => ?_⟩ ⟨?_, fun j hj => ?_, fun q hq => ?_⟩ ?_ ?_ ?_ ?_ ?_
  · obtain ⟨g1, g2, g3, g4⟩ := hl.2.2 q hq
    show (if q = p then x' else sl_x L q) < _ ∧ (if q = p then y' else sl_y L q) < _ ∧ (if q = p then t' else sl_t L q) ≤ 9 ∧ (if q = p then k' else sl_k L q) < _
    by_cases z : q = p
    · rw [if_pos z, if_pos z, if_pos z, if_pos z]; exact ⟨o1, o2, o3, o4⟩
    · rw [if_neg z, if_neg z, if_neg z, if_neg z]; exact ⟨g1, g2, g3, g4⟩
  · rw [e49 _ _ (by omega) (by omega) (by omega)]; exact hc.1
  · rw [e49 _ _ (by omega) (by omega) (by omega)]; exact hc.2.1 j hj
  · obtain ⟨g1, g2, g3, g4⟩ := hc.2.2 q hq
    show sh_i μ2 51 q = nI (if q = p then x' else sl_x L q) ∧ sh_i μ2 52 q = nI (if q = p then y' else sl_y L q) ∧ sh_i μ2 53 q = nI (if q = p then t' else sl_t L q) ∧ sh_i μ2 54 q = nI (if q = p then k' else sl_k L q)
    by_cases z : q = p
    · subst z
      rw [if_pos rfl, if_pos rfl, if_pos rfl, if_pos rfl, elow _ _ (by omega), elow _ _ (by omega), elow _ _ (by omega), elow _ _ (by omega)]
      exact ⟨w1, w2, w3, w4⟩
    · rw [if_neg z, if_neg z, if_neg z, if_neg z, e49 _ _ (by omega) (by omega) (by omega), e49 _ _ (by omega) (by omega) (by omega), e49 _ _ (by omega) (by omega) (by omega), e49 _ _ (by omega) (by omega) (by omega)]
      exact ⟨g1, g2, g3, g4⟩
  · obtain ⟨m1, m2, m3⟩ := hm
    refine ⟨?_, fun x y hx hy => ?_, fun q hq => ?_⟩
    · rw [e330 _ (by omega)]; exact m1
    · have : y < 7 := by omega
      rw [e330 _ (by omega)]; exact m2 x y hx hy
    · obtain ⟨g1, g2, g3⟩ := m3 q hq
      show sh_i μ2 330 (0 + 50 + 3 * q) = nI ((if q = p then x' else sl_x L q) + 7 * (if q = p then y' else sl_y L q)) ∧ sh_i μ2 330 (0 + 51 + 3 * q) = nI (if q = p then t' else sl_t L q) ∧ sh_i μ2 330 (0 + 52 + 3 * q) = nI (if q = p then k' else sl_k L q)
      by_cases z : q = p
      · subst z
        rw [if_pos rfl, if_pos rfl, if_pos rfl, if_pos rfl, Nat.zero_add, Nat.zero_add, Nat.zero_add]
        exact ⟨v1, v2, v3⟩
      · rw [if_neg z, if_neg z, if_neg z, if_neg z, e330 _ (by omega), e330 _ (by omega), e330 _ (by omega)]
        exact ⟨g1, g2, g3⟩
  · obtain ⟨n, n1, n2, n3, n4⟩ := hkp
    refine ⟨n, n1, ?_, ?_, fun j hj => ?_⟩
    · rw [e49 _ _ (by omega) (by omega) (by omega)]; exact n2
    · rw [e330 _ (by omega)]; exact n3
    · rw [e49 _ _ (by omega) (by omega) (by omega), e330 _ (by omega)]; exact n4 j hj
  · rw [fB.i _ _ (by omega), y3.i _ _ (by omega), (hof 291 57 (by omega)).1]; exact z57
  · rw [fB.i _ _ (by omega), y3.i _ _ (by omega), (hof 291 60 (by omega)).1]; exact z60
  · refine h.2.2.2.2.1.cg ?_ ?_
    · rw [(fB.2 0 16 (by omega)).2, (y3.2 0 16 (by omega)).2, (fA.2 0 16 (by omega)).2, (x3.2 0 16 (by omega)).2]
    · rw [(fB.2 291 78 (by omega)).2, (y3.2 291 78 (by omega)).2, (hof 291 78 (by omega)).2]
theorem pr_25 : ∀ (μ : sh_Mem) (b1 : Int32), Sim μ → ∃ (v : Int32) (μ1 μ2 : sh_Mem), f_X11_ease b1 μ = some (v, μ1) ∧ f_X12_ease b1 μ1 = some (v, μ2) ∧ Sim μ2 := by
  intro μ b1 h
  obtain ⟨-, -, -, -, -, -, t, P, L, hR⟩ := id h
  obtain ⟨hr, hk, hl, hP, hM, hc, hm, hkp, hu, -⟩ := id hR
  obtain ⟨a, h1, h2, rfl⟩ := zI_of b1
  have hb := sp_bd hk
  have e : f_X11_refuse (zI 2) μ = some (0, sh_setI μ 290 2 (sh_i μ 290 2 + 1)) := cl_refuse (k := 2) (by omega)
  by_cases c : 0 ≤ a ∧ a < sp_np P
  · obtain ⟨p, rfl⟩ := Int.eq_ofNat_of_zero_le c.1
    have hp : p < sp_np P := by omega
    have ec : sh_i μ 53 p = zI (sl_t L p) := by rw [(hc.2.2 p hp).2.2.1, nI_z]
    obtain ⟨l1, l2, l3, l4⟩ := hl.2.2 p hp
    by_cases c2 : sl_t L p = 0
    · refine ⟨0, sh_setI μ 290 2 (sh_i μ 290 2 + 1), _, ?_, ?_, h.bump (k := 2) (by omega)⟩
      · unfold f_X11_ease
        rw [cl_isPerson hr.2.1 hr.1 hP hk h1 h2, if_pos c]
        simp (disch := omega) only [↓reduceIte, ↓shl_ap, shb_ap, shv_ap, zI_lit, zL_lit, nI_z, lN_z, ofN_z, zI_add, zI_sub, zI_mul, zI_neg, zL_add, zL_sub, zL_mul, zL_neg, zI_l, zI_cl, zI_le_t, zI_le_f, zI_lt_t, zI_lt_f, zI_eq_t, zI_eq_f, zI_in_t, zz_isIn_t, zz_isIn_f, not_true_eq_false, not_false_eq_true, true_or, or_true, false_or, or_false, true_and, and_true, false_and, and_false, Nat.reduceLeDiff, Int.reduceAdd, Int.reduceSub, Int.reduceMul, Int.reduceNeg, Int.reduceToNat, Nat.reduceAdd, Nat.reduceMul, Nat.reduceSub, Int.toNat_natCast, ec, e, c2]
      · unfold f_X12_ease
        rw [rf_isPerson (hM.off off290) hk h1 h2, if_pos c]
        simp (disch := omega) only [↓reduceIte, ↓shl_ap, shb_ap, shv_ap, zI_lit, zL_lit, nI_z, lN_z, ofN_z, zI_add, zI_sub, zI_mul, zI_neg, zL_add, zL_sub, zL_mul, zL_neg, zI_l, zI_cl, zI_le_t, zI_le_f, zI_lt_t, zI_lt_f, zI_eq_t, zI_eq_f, zI_in_t, zz_isIn_t, zz_isIn_f, not_true_eq_false, not_false_eq_true, true_or, or_true, false_or, or_false, true_and, and_true, false_and, and_false, rf_tiredOf (L := L) (show sm_mL (sh_i (sh_setI μ 290 2 (sh_i μ 290 2 + zI 1)) 330) 0 P L by rw [ir_set_r (by omega)]; exact hm) hk hp, c2]
        simp (disch := omega) only [↓reduceIte, ↓shl_ap, shb_ap, shv_ap, zI_lit, zL_lit, nI_z, lN_z, ofN_z, zI_add, zI_sub, zI_mul, zI_neg, zL_add, zL_sub, zL_mul, zL_neg, zI_l, zI_cl, zI_le_t, zI_le_f, zI_lt_t, zI_lt_f, zI_eq_t, zI_eq_f, zI_in_t, zz_isIn_t, zz_isIn_f, not_true_eq_false, not_false_eq_true, true_or, or_true, false_or, or_false, true_and, and_true, false_and, and_false, ir_set, ir_set_k, ir_set_r, ir_row, ir_row_r, sh_i_setL, sh_i_setR, sh_r_setI, sh_r_setL, sh_r_rowI, sh_l_setI, sh_l_rowI, lr_set, lr_set_k, lr_set_r, Nat.reduceLeDiff, Int.reduceAdd, Int.reduceSub, Int.reduceMul, Int.reduceNeg, Int.reduceToNat, Nat.reduceAdd, Nat.reduceMul, Nat.reduceSub, Int.toNat_natCast, rf_isRefused]
    · obtain ⟨u, o, w, u1, u2, u3, u4, u5, u6, u7, -⟩ := id hu
      obtain ⟨μr, x1, x2, x3⟩ := cl_remember u1 u2 u4 u5
      have hof : sh_offM μ (sh_setI μr 53 p (zI 0)) := sh_offM_I (fp_X4_remember h.1 sh_isL_49 x1) (by omega)
      have c1 : f_X11_ease (zI p) μ = some (1, sh_setI μr 53 p (zI 0)) := by
        unfold f_X11_ease
        rw [cl_isPerson hr.2.1 hr.1 hP hk h1 h2, if_pos c]
        simp (disch := omega) only [↓reduceIte, ↓shl_ap, shb_ap, shv_ap, zI_lit, zL_lit, nI_z, lN_z, ofN_z, zI_add, zI_sub, zI_mul, zI_neg, zL_add, zL_sub, zL_mul, zL_neg, zI_l, zI_cl, zI_le_t, zI_le_f, zI_lt_t, zI_lt_f, zI_eq_t, zI_eq_f, zI_in_t, zz_isIn_t, zz_isIn_f, not_true_eq_false, not_false_eq_true, true_or, or_true, false_or, or_false, true_and, and_true, false_and, and_false, Nat.reduceLeDiff, Int.reduceAdd, Int.reduceSub, Int.reduceMul, Int.reduceNeg, Int.reduceToNat, Nat.reduceAdd, Nat.reduceMul, Nat.reduceSub, Int.toNat_natCast, ec, x1]
      obtain ⟨μs, y1, y2, y3⟩ := rf_stores (μ := sh_setI μr 53 p (zI 0)) u1 u3 (by rw [(hof 291 (by omega)).1]; exact u6) (by rw [(hof 291 (by omega)).1]; exact u7)
      have e330 : sh_i (sh_setI μr 53 p (zI 0)) 330 = sh_i μ 330 := (hof 330 (by omega)).1
      have hm1 : sm_mL (sh_i (sh_setI μr 53 p (zI 0)) 330) 0 P L := by rw [e330]; exact hm
      have c2' : f_X12_ease (zI p) (sh_setI μr 53 p (zI 0)) = some (1, sh_setI μs 330 (51 + 3 * p) (zI 0)) := by
        unfold f_X12_ease
        rw [rf_isPerson (hM.off hof) hk h1 h2, if_pos c]
        simp (disch := omega) only [↓reduceIte, ↓shl_ap, shb_ap, shv_ap, zI_lit, zL_lit, nI_z, lN_z, ofN_z, zI_add, zI_sub, zI_mul, zI_neg, zL_add, zL_sub, zL_mul, zL_neg, zI_l, zI_cl, zI_le_t, zI_le_f, zI_lt_t, zI_lt_f, zI_eq_t, zI_eq_f, zI_in_t, zz_isIn_t, zz_isIn_f, not_true_eq_false, not_false_eq_true, true_or, or_true, false_or, or_false, true_and, and_true, false_and, and_false, Nat.reduceLeDiff, Int.reduceAdd, Int.reduceSub, Int.reduceMul, Int.reduceNeg, Int.reduceToNat, Nat.reduceAdd, Nat.reduceMul, Nat.reduceSub, Int.toNat_natCast, rf_tiredOf hm1 hk hp, y1]
        rw [show (51 + 3 * (p : Int)).toNat = 51 + 3 * p by omega]
      refine ⟨_, _, _, c1, c2', ?_⟩
      have q1 : ∀ r k, 49 ≤ r → r ≤ 54 → ¬ (r = 53 ∧ k = p) → sh_i (sh_setI μr 53 p (zI 0)) r k = sh_i μ r k := fun r k a b c => by rw [sh_i_set, if_neg c, x2.i _ _ (by omega)]
      have q2 : ∀ k, ¬ k = 51 + 3 * p → sh_i (sh_setI μs 330 (51 + 3 * p) (zI 0)) 330 k = sh_i μ 330 k := fun k q => by rw [ir_set_k q, y2.i _ _ (by omega), e330]
      obtain ⟨g1, g2, g3, g4⟩ := hc.2.2 p hp
      obtain ⟨f1, f2, f3⟩ := hm.2.2 p hp
      rw [Nat.zero_add] at f1 f3
      refine Sim.act1 (p := p) (x' := sl_x L p) (y' := sl_y L p) (t' := 0) (k' := sl_k L p) h (gp_X12_ease (gp_X11_ease h.1 c1) c2') hR hp x1 (sh_fr_I sh_fr.rf (by omega)) y1 (sh_fr_I sh_fr.rf (by omega)) l1 l2 (by omega) l4 (by rw [q1 _ _ (by omega) (by omega) (by omega)]; exact g1) (by rw [q1 _ _ (by omega) (by omega) (by omega)]; exact g2) ir_set (by rw [q1 _ _ (by omega) (by omega) (by omega)]; exact g4) (by rw [q2 _ (by omega)]; exact f1) ir_set (by rw [q2 _ (by omega)]; exact f3)
  · refine ⟨0, sh_setI μ 290 2 (sh_i μ 290 2 + 1), _, ?_, ?_, h.bump (k := 2) (by omega)⟩
    · unfold f_X11_ease
      rw [cl_isPerson hr.2.1 hr.1 hP hk h1 h2, if_neg c]
      simp (disch := omega) only [↓reduceIte, ↓shl_ap, shb_ap, shv_ap, zI_lit, zL_lit, nI_z, lN_z, ofN_z, zI_add, zI_sub, zI_mul, zI_neg, zL_add, zL_sub, zL_mul, zL_neg, zI_l, zI_cl, zI_le_t, zI_le_f, zI_lt_t, zI_lt_f, zI_eq_t, zI_eq_f, zI_in_t, zz_isIn_t, zz_isIn_f, not_true_eq_false, not_false_eq_true, true_or, or_true, false_or, or_false, true_and, and_true, false_and, and_false, Nat.reduceLeDiff, Int.reduceAdd, Int.reduceSub, Int.reduceMul, Int.reduceNeg, Int.reduceToNat, Nat.reduceAdd, Nat.reduceMul, Nat.reduceSub, Int.toNat_natCast, e]
    · unfold f_X12_ease
      rw [rf_isPerson (hM.off off290) hk h1 h2, if_neg c]
      simp (disch := omega) only [↓reduceIte, ↓shl_ap, shb_ap, shv_ap, zI_lit, zL_lit, nI_z, lN_z, ofN_z, zI_add, zI_sub, zI_mul, zI_neg, zL_add, zL_sub, zL_mul, zL_neg, zI_l, zI_cl, zI_le_t, zI_le_f, zI_lt_t, zI_lt_f, zI_eq_t, zI_eq_f, zI_in_t, zz_isIn_t, zz_isIn_f, not_true_eq_false, not_false_eq_true, true_or, or_true, false_or, or_false, true_and, and_true, false_and, and_false, ir_set, ir_set_k, ir_set_r, ir_row, ir_row_r, sh_i_setL, sh_i_setR, sh_r_setI, sh_r_setL, sh_r_rowI, sh_l_setI, sh_l_rowI, lr_set, lr_set_k, lr_set_r, Nat.reduceLeDiff, Int.reduceAdd, Int.reduceSub, Int.reduceMul, Int.reduceNeg, Int.reduceToNat, Nat.reduceAdd, Nat.reduceMul, Nat.reduceSub, Int.toNat_natCast, rf_isRefused]
