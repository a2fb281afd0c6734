/-! teach, go, undo -/
theorem zI_bit {k t : Nat} (hk : k < 128) (ht : t < 7) : (zI k >>> zI t) &&& zI 1 = zI ((k / 2 ^ t % 2 : Nat) : Int) := by
  have : ∀ k : Nat, k < 128 → ∀ t : Nat, t < 7 → (zI k >>> zI t) &&& zI 1 = zI ((k / 2 ^ t % 2 : Nat) : Int) := by decide +kernel
  exact this k hk t ht
theorem zI_flip {k t : Nat} (hk : k < 128) (ht : t < 7) : zI k ^^^ (zI 1 <<< zI t) = zI ((k ^^^ 2 ^ t : Nat) : Int) := by
  have : ∀ k : Nat, k < 128 → ∀ t : Nat, t < 7 → zI k ^^^ (zI 1 <<< zI t) = zI ((k ^^^ 2 ^ t : Nat) : Int) := by decide +kernel
  exact this k hk t ht
theorem sl_k32 {P : sp_T} {L : sl_T} (hk : sp_ok P) (hl : sl_in P L) {p : Nat} (hp : p < sp_np P) : sl_k L p < 32 := Nat.lt_of_lt_of_le (hl.2 p hp).2.2.2 (Nat.pow_le_pow_right (by omega) (sp_bd hk).2.2.1)
theorem pr_23 : ∀ (μ : sh_Mem) (b1 b2 b3 : Int32), Sim μ → ∃ (v : Int32) (μ1 μ2 : sh_Mem), f_X11_teach b1 b2 b3 μ = some (v, μ1) ∧ f_X12_teach b1 b2 b3 μ1 = some (v, μ2) ∧ Sim μ2 := by
  intro μ b1 b2 b3 h
  obtain ⟨-, -, -, -, -, -, t, P, L, hR⟩ := id h
  obtain ⟨hr, hk, hl, hP, hM, hc, hm, hkp, hu, -⟩ := id hR
  obtain ⟨a, h1, h2, rfl⟩ := zI_of b1
  obtain ⟨b, h3, h4, rfl⟩ := zI_of b2
  obtain ⟨d, h5, h6, rfl⟩ := zI_of b3
  have hb := sp_bd hk
  have e : f_X11_refuse (zI 2) μ = some (0, sh_setI μ 290 2 (sh_i μ 290 2 + 1)) := cl_refuse (k := 2) (by omega)
  have hMb := hM.off (off290 (μ := μ) (k := 2) (x := sh_i μ 290 2 + zI 1))
  have hmb : sm_mL (sh_i (sh_setI μ 290 2 (sh_i μ 290 2 + zI 1)) 330) 0 P L := by rw [ir_set_r (by omega)]; exact hm
  by_cases c : 0 ≤ a ∧ a < sp_np P
  · obtain ⟨p, rfl⟩ := Int.eq_ofNat_of_zero_le c.1
    have hp : p < sp_np P := by omega
    obtain ⟨l1, l2, l3, l4⟩ := hl.2.2 p hp
    have l5 := sl_k32 hk hl.2 hp
    have ec : sh_i μ 54 p = zI (sl_k L p) := by rw [(hc.2.2 p hp).2.2.2, nI_z]
    by_cases ct : 0 ≤ b ∧ b < sp_nt P
    · obtain ⟨q, rfl⟩ := Int.eq_ofNat_of_zero_le ct.1
      have hq : q < sp_nt P := by omega
      by_cases cd : 0 ≤ d ∧ d ≤ 1
      · by_cases c2 : ((sl_k L p / 2 ^ q % 2 : Nat) : Int) = d
        · refine ⟨0, sh_setI μ 290 2 (sh_i μ 290 2 + 1), _, ?_, ?_, h.bump (k := 2) (by omega)⟩
          · unfold f_X11_teach
            rw [cl_isPerson hr.2.1 hr.1 hP hk h1 h2, if_pos c]
            simp (disch := omega) only [↓reduceIte, ↓shl_ap, shb_ap, shv_ap, zI_lit, zL_lit, nI_z, lN_z, ofN_z, zI_add, zI_sub, zI_mul, zI_neg, zL_add, zL_sub, zL_mul, zL_neg, zI_l, zI_cl, zI_le_t, zI_le_f, zI_lt_t, zI_lt_f, zI_eq_t, zI_eq_f, zI_in_t, zz_isIn_t, zz_isIn_f, not_true_eq_false, not_false_eq_true, true_or, or_true, false_or, or_false, true_and, and_true, false_and, and_false, Nat.reduceLeDiff, Int.reduceAdd, Int.reduceSub, Int.reduceMul, Int.reduceNeg, Int.reduceToNat, Nat.reduceAdd, Nat.reduceMul, Nat.reduceSub, Int.toNat_natCast, cl_isTopic hr.2.1 hr.1 hP hk h3 h4, eq_true ct, ec, zI_and31, zI_bit (show sl_k L p < 128 by omega) (show q < 7 by omega), e]
          · unfold f_X12_teach
            rw [rf_isPerson (hM.off off290) hk h1 h2, if_pos c]
            simp (disch := omega) only [↓reduceIte, ↓shl_ap, shb_ap, shv_ap, zI_lit, zL_lit, nI_z, lN_z, ofN_z, zI_add, zI_sub, zI_mul, zI_neg, zL_add, zL_sub, zL_mul, zL_neg, zI_l, zI_cl, zI_le_t, zI_le_f, zI_lt_t, zI_lt_f, zI_eq_t, zI_eq_f, zI_in_t, zz_isIn_t, zz_isIn_f, not_true_eq_false, not_false_eq_true, true_or, or_true, false_or, or_false, true_and, and_true, false_and, and_false, Nat.reduceLeDiff, Int.reduceAdd, Int.reduceSub, Int.reduceMul, Int.reduceNeg, Int.reduceToNat, Nat.reduceAdd, Nat.reduceMul, Nat.reduceSub, Int.toNat_natCast, rf_isTopic hMb hk (show -9223372036854775808 ≤ (q : Int) by omega) (show (q : Int) < 9223372036854775808 by omega), eq_true ct, rf_knowsOf hmb hk hp, zI_and31, zI_bit (show sl_k L p < 128 by omega) (show q < 7 by omega)]
            simp (disch := omega) only [↓reduceIte, ↓shl_ap, shb_ap, shv_ap, zI_lit, zL_lit, nI_z, lN_z, ofN_z, zI_add, zI_sub, zI_mul, zI_neg, zL_add, zL_sub, zL_mul, zL_neg, zI_l, zI_cl, zI_le_t, zI_le_f, zI_lt_t, zI_lt_f, zI_eq_t, zI_eq_f, zI_in_t, zz_isIn_t, zz_isIn_f, not_true_eq_false, not_false_eq_true, true_or, or_true, false_or, or_false, true_and, and_true, false_and, and_false, ir_set, ir_set_k, ir_set_r, ir_row, ir_row_r, sh_i_setL, sh_i_setR, sh_r_setI, sh_r_setL, sh_r_rowI, sh_l_setI, sh_l_rowI, lr_set, lr_set_k, lr_set_r, Nat.reduceLeDiff, Int.reduceAdd, Int.reduceSub, Int.reduceMul, Int.reduceNeg, Int.reduceToNat, Nat.reduceAdd, Nat.reduceMul, Nat.reduceSub, Int.toNat_natCast, rf_isRefused]
        · obtain ⟨u, o, w, u1, u2, u3, u4, u5, u6, u7, -⟩ := id hu
          obtain ⟨μr, x1, x2, x3⟩ := cl_remember u1 u2 u4 u5
          have hof : sh_offM μ (sh_setI μr 54 p (zI ((sl_k L p ^^^ 2 ^ q : Nat) : Int))) := sh_offM_I (fp_X4_remember h.1 sh_isL_49 x1) (by omega)
          have er : sh_i μr 54 p = zI (sl_k L p) := by rw [x2.i _ _ (by omega)]; exact ec
          have c1 : f_X11_teach (zI p) (zI q) (zI d) μ = some (1, sh_setI μr 54 p (zI ((sl_k L p ^^^ 2 ^ q : Nat) : Int))) := by
            unfold f_X11_teach
            rw [cl_isPerson hr.2.1 hr.1 hP hk h1 h2, if_pos c]
            simp (disch := omega) only [↓reduceIte, ↓shl_ap, shb_ap, shv_ap, zI_lit, zL_lit, nI_z, lN_z, ofN_z, zI_add, zI_sub, zI_mul, zI_neg, zL_add, zL_sub, zL_mul, zL_neg, zI_l, zI_cl, zI_le_t, zI_le_f, zI_lt_t, zI_lt_f, zI_eq_t, zI_eq_f, zI_in_t, zz_isIn_t, zz_isIn_f, not_true_eq_false, not_false_eq_true, true_or, or_true, false_or, or_false, true_and, and_true, false_and, and_false, Nat.reduceLeDiff, Int.reduceAdd, Int.reduceSub, Int.reduceMul, Int.reduceNeg, Int.reduceToNat, Nat.reduceAdd, Nat.reduceMul, Nat.reduceSub, Int.toNat_natCast, cl_isTopic hr.2.1 hr.1 hP hk h3 h4, eq_true ct, ec, zI_and31, zI_bit (show sl_k L p < 128 by omega) (show q < 7 by omega), x1, er, zI_flip (show sl_k L p < 128 by omega) (show q < 7 by omega)]
          obtain ⟨μs, y1, y2, y3⟩ := rf_stores (μ := sh_setI μr 54 p (zI ((sl_k L p ^^^ 2 ^ q : Nat) : Int))) u1 u3 (by rw [(hof 291 (by omega)).1]; exact u6) (by rw [(hof 291 (by omega)).1]; exact u7)
          have e330 : sh_i (sh_setI μr 54 p (zI ((sl_k L p ^^^ 2 ^ q : Nat) : Int))) 330 = sh_i μ 330 := (hof 330 (by omega)).1
          have hm1 : sm_mL (sh_i (sh_setI μr 54 p (zI ((sl_k L p ^^^ 2 ^ q : Nat) : Int))) 330) 0 P L := by rw [e330]; exact hm
          have es : sh_i μs 330 (52 + 3 * p) = zI (sl_k L p) := by rw [y2.i _ _ (by omega), e330, ← nI_z]; have := (hm.2.2 p hp).2.2; rw [Nat.zero_add] at this; exact this
          have c2' : f_X12_teach (zI p) (zI q) (zI d) (sh_setI μr 54 p (zI ((sl_k L p ^^^ 2 ^ q : Nat) : Int))) = some (1, sh_setI μs 330 (52 + 3 * p) (zI ((sl_k L p ^^^ 2 ^ q : Nat) : Int))) := by
            unfold f_X12_teach
            rw [rf_isPerson (hM.off hof) hk h1 h2, if_pos c]
            simp (disch := omega) only [↓reduceIte, ↓shl_ap, shb_ap, shv_ap, zI_lit, zL_lit, nI_z, lN_z, ofN_z, zI_add, zI_sub, zI_mul, zI_neg, zL_add, zL_sub, zL_mul, zL_neg, zI_l, zI_cl, zI_le_t, zI_le_f, zI_lt_t, zI_lt_f, zI_eq_t, zI_eq_f, zI_in_t, zz_isIn_t, zz_isIn_f, not_true_eq_false, not_false_eq_true, true_or, or_true, false_or, or_false, true_and, and_true, false_and, and_false, Nat.reduceLeDiff, Int.reduceAdd, Int.reduceSub, Int.reduceMul, Int.reduceNeg, Int.reduceToNat, Nat.reduceAdd, Nat.reduceMul, Nat.reduceSub, Int.toNat_natCast, rf_isTopic (hM.off hof) hk (show -9223372036854775808 ≤ (q : Int) by omega) (show (q : Int) < 9223372036854775808 by omega), eq_true ct, rf_knowsOf hm1 hk hp, zI_and31, zI_bit (show sl_k L p < 128 by omega) (show q < 7 by omega), y1]
            rw [show (52 + 3 * (p : Int)).toNat = 52 + 3 * p by omega, es, zI_flip (show sl_k L p < 128 by omega) (show q < 7 by omega)]
          refine ⟨_, _, _, c1, c2', ?_⟩
          have q1 : ∀ r k, 49 ≤ r → r ≤ 54 → ¬ (r = 54 ∧ k = p) → sh_i (sh_setI μr 54 p (zI ((sl_k L p ^^^ 2 ^ q : Nat) : Int))) r k = sh_i μ r k := fun r k a b c => by rw [sh_i_set, if_neg c, x2.i _ _ (by omega)]
          have q2 : ∀ k, ¬ k = 52 + 3 * p → sh_i (sh_setI μs 330 (52 + 3 * p) (zI ((sl_k L p ^^^ 2 ^ q : Nat) : Int))) 330 k = sh_i μ 330 k := fun k q => by rw [ir_set_k q, y2.i _ _ (by omega), e330]
          obtain ⟨g1, g2, g3, g4⟩ := hc.2.2 p hp
          obtain ⟨f1, f2, f3⟩ := hm.2.2 p hp
          rw [Nat.zero_add] at f1 f2
          have hx : sl_k L p ^^^ 2 ^ q < 2 ^ sp_nt P := Nat.xor_lt_two_pow l4 (Nat.pow_lt_pow_right (by omega) hq)
          refine Sim.act1 (p := p) (x' := sl_x L p) (y' := sl_y L p) (t' := sl_t L p) (k' := sl_k L p ^^^ 2 ^ q) h (gp_X12_teach (gp_X11_teach h.1 c1) c2') hR hp x1 (sh_fr_I sh_fr.rf (by omega)) y1 (sh_fr_I sh_fr.rf (by omega)) l1 l2 l3 hx (by rw [q1 _ _ (by omega) (by omega) (by omega)]; exact g1) (by rw [q1 _ _ (by omega) (by omega) (by omega)]; exact g2) (by rw [q1 _ _ (by omega) (by omega) (by omega)]; exact g3) (by rw [ir_set, nI_z]) (by rw [q2 _ (by omega)]; exact f1) (by rw [q2 _ (by omega)]; exact f2) (by rw [ir_set, nI_z])
      · refine ⟨0, sh_setI μ 290 2 (sh_i μ 290 2 + 1), _, ?_, ?_, h.bump (k := 2) (by omega)⟩
        · unfold f_X11_teach
          rw [cl_isPerson hr.2.1 hr.1 hP hk h1 h2, if_pos c]
          by_cases c5 : d < 0
          · simp (disch := omega) only [↓reduceIte, ↓shl_ap, shb_ap, shv_ap, zI_lit, zL_lit, nI_z, lN_z, ofN_z, zI_add, zI_sub, zI_mul, zI_neg, zL_add, zL_sub, zL_mul, zL_neg, zI_l, zI_cl, zI_le_t, zI_le_f, zI_lt_t, zI_lt_f, zI_eq_t, zI_eq_f, zI_in_t, zz_isIn_t, zz_isIn_f, not_true_eq_false, not_false_eq_true, true_or, or_true, false_or, or_false, true_and, and_true, false_and, and_false, Nat.reduceLeDiff, Int.reduceAdd, Int.reduceSub, Int.reduceMul, Int.reduceNeg, Int.reduceToNat, Nat.reduceAdd, Nat.reduceMul, Nat.reduceSub, Int.toNat_natCast, cl_isTopic hr.2.1 hr.1 hP hk h3 h4, eq_true ct, e]
          · simp (disch := omega) only [↓reduceIte, ↓shl_ap, shb_ap, shv_ap, zI_lit, zL_lit, nI_z, lN_z, ofN_z, zI_add, zI_sub, zI_mul, zI_neg, zL_add, zL_sub, zL_mul, zL_neg, zI_l, zI_cl, zI_le_t, zI_le_f, zI_lt_t, zI_lt_f, zI_eq_t, zI_eq_f, zI_in_t, zz_isIn_t, zz_isIn_f, not_true_eq_false, not_false_eq_true, true_or, or_true, false_or, or_false, true_and, and_true, false_and, and_false, Nat.reduceLeDiff, Int.reduceAdd, Int.reduceSub, Int.reduceMul, Int.reduceNeg, Int.reduceToNat, Nat.reduceAdd, Nat.reduceMul, Nat.reduceSub, Int.toNat_natCast, cl_isTopic hr.2.1 hr.1 hP hk h3 h4, eq_true ct, e]
        · unfold f_X12_teach
          rw [rf_isPerson (hM.off off290) hk h1 h2, if_pos c]
          simp (disch := omega) only [↓reduceIte, ↓shl_ap, shb_ap, shv_ap, zI_lit, zL_lit, nI_z, lN_z, ofN_z, zI_add, zI_sub, zI_mul, zI_neg, zL_add, zL_sub, zL_mul, zL_neg, zI_l, zI_cl, zI_le_t, zI_le_f, zI_lt_t, zI_lt_f, zI_eq_t, zI_eq_f, zI_in_t, zz_isIn_t, zz_isIn_f, not_true_eq_false, not_false_eq_true, true_or, or_true, false_or, or_false, true_and, and_true, false_and, and_false, Nat.reduceLeDiff, Int.reduceAdd, Int.reduceSub, Int.reduceMul, Int.reduceNeg, Int.reduceToNat, Nat.reduceAdd, Nat.reduceMul, Nat.reduceSub, Int.toNat_natCast, rf_isTopic hMb hk (show -9223372036854775808 ≤ (q : Int) by omega) (show (q : Int) < 9223372036854775808 by omega), eq_true ct]
          simp (disch := omega) only [↓reduceIte, ↓shl_ap, shb_ap, shv_ap, zI_lit, zL_lit, nI_z, lN_z, ofN_z, zI_add, zI_sub, zI_mul, zI_neg, zL_add, zL_sub, zL_mul, zL_neg, zI_l, zI_cl, zI_le_t, zI_le_f, zI_lt_t, zI_lt_f, zI_eq_t, zI_eq_f, zI_in_t, zz_isIn_t, zz_isIn_f, not_true_eq_false, not_false_eq_true, true_or, or_true, false_or, or_false, true_and, and_true, false_and, and_false, ir_set, ir_set_k, ir_set_r, ir_row, ir_row_r, sh_i_setL, sh_i_setR, sh_r_setI, sh_r_setL, sh_r_rowI, sh_l_setI, sh_l_rowI, lr_set, lr_set_k, lr_set_r, Nat.reduceLeDiff, Int.reduceAdd, Int.reduceSub, Int.reduceMul, Int.reduceNeg, Int.reduceToNat, Nat.reduceAdd, Nat.reduceMul, Nat.reduceSub, Int.toNat_natCast, rf_isRefused]
    · refine ⟨0, sh_setI μ 290 2 (sh_i μ 290 2 + 1), _, ?_, ?_, h.bump (k := 2) (by omega)⟩
      · unfold f_X11_teach
        rw [cl_isPerson hr.2.1 hr.1 hP hk h1 h2, if_pos c]
        simp (disch := omega) only [↓reduceIte, ↓shl_ap, shb_ap, shv_ap, zI_lit, zL_lit, nI_z, lN_z, ofN_z, zI_add, zI_sub, zI_mul, zI_neg, zL_add, zL_sub, zL_mul, zL_neg, zI_l, zI_cl, zI_le_t, zI_le_f, zI_lt_t, zI_lt_f, zI_eq_t, zI_eq_f, zI_in_t, zz_isIn_t, zz_isIn_f, not_true_eq_false, not_false_eq_true, true_or, or_true, false_or, or_false, true_and, and_true, false_and, and_false, Nat.reduceLeDiff, Int.reduceAdd, Int.reduceSub, Int.reduceMul, Int.reduceNeg, Int.reduceToNat, Nat.reduceAdd, Nat.reduceMul, Nat.reduceSub, Int.toNat_natCast, cl_isTopic hr.2.1 hr.1 hP hk h3 h4, eq_false ct, e]
      · unfold f_X12_teach
        rw [rf_isPerson (hM.off off290) hk h1 h2, if_pos c]
        simp (disch := omega) only [↓reduceIte, ↓shl_ap, shb_ap, shv_ap, zI_lit, zL_lit, nI_z, lN_z, ofN_z, zI_add, zI_sub, zI_mul, zI_neg, zL_add, zL_sub, zL_mul, zL_neg, zI_l, zI_cl, zI_le_t, zI_le_f, zI_lt_t, zI_lt_f, zI_eq_t, zI_eq_f, zI_in_t, zz_isIn_t, zz_isIn_f, not_true_eq_false, not_false_eq_true, true_or, or_true, false_or, or_false, true_and, and_true, false_and, and_false, Nat.reduceLeDiff, Int.reduceAdd, Int.reduceSub, Int.reduceMul, Int.reduceNeg, Int.reduceToNat, Nat.reduceAdd, Nat.reduceMul, Nat.reduceSub, Int.toNat_natCast, rf_isTopic hMb hk (show -9223372036854775808 ≤ b by omega) (show b < 9223372036854775808 by omega), eq_false ct]
        simp (disch := omega) only [↓reduceIte, ↓shl_ap, shb_ap, shv_ap, zI_lit, zL_lit, nI_z, lN_z, ofN_z, zI_add, zI_sub, zI_mul, zI_neg, zL_add, zL_sub, zL_mul, zL_neg, zI_l, zI_cl, zI_le_t, zI_le_f, zI_lt_t, zI_lt_f, zI_eq_t, zI_eq_f, zI_in_t, zz_isIn_t, zz_isIn_f, not_true_eq_false, not_false_eq_true, true_or, or_true, false_or, or_false, true_and, and_true, false_and, and_false, ir_set, ir_set_k, ir_set_r, ir_row, ir_row_r, sh_i_setL, sh_i_setR, sh_r_setI, sh_r_setL, sh_r_rowI, sh_l_setI, sh_l_rowI, lr_set, lr_set_k, lr_set_r, Nat.reduceLeDiff, Int.reduceAdd, Int.reduceSub, Int.reduceMul, Int.reduceNeg, Int.reduceToNat, Nat.reduceAdd, Nat.reduceMul, Nat.reduceSub, Int.toNat_natCast, rf_isRefused]
  · refine ⟨0, sh_setI μ 290 2 (sh_i μ 290 2 + 1), _, ?_, ?_, h.bump (k := 2) (by omega)⟩
    · unfold f_X11_teach
      rw [cl_isPerson hr.2.1 hr.1 hP hk h1 h2, if_neg c]
      simp (disch := omega) only [↓reduceIte, ↓shl_ap, shb_ap, shv_ap, zI_lit, zL_lit, nI_z, lN_z, ofN_z, zI_add, zI_sub, zI_mul, zI_neg, zL_add, zL_sub, zL_mul, zL_neg, zI_l, zI_cl, zI_le_t, zI_le_f, zI_lt_t, zI_lt_f, zI_eq_t, zI_eq_f, zI_in_t, zz_isIn_t, zz_isIn_f, not_true_eq_false, not_false_eq_true, true_or, or_true, false_or, or_false, true_and, and_true, false_and, and_false, Nat.reduceLeDiff, Int.reduceAdd, Int.reduceSub, Int.reduceMul, Int.reduceNeg, Int.reduceToNat, Nat.reduceAdd, Nat.reduceMul, Nat.reduceSub, Int.toNat_natCast, e]
    · unfold f_X12_teach
      rw [rf_isPerson (hM.off off290) hk h1 h2, if_neg c]
      simp (disch := omega) only [↓reduceIte, ↓shl_ap, shb_ap, shv_ap, zI_lit, zL_lit, nI_z, lN_z, ofN_z, zI_add, zI_sub, zI_mul, zI_neg, zL_add, zL_sub, zL_mul, zL_neg, zI_l, zI_cl, zI_le_t, zI_le_f, zI_lt_t, zI_lt_f, zI_eq_t, zI_eq_f, zI_in_t, zz_isIn_t, zz_isIn_f, not_true_eq_false, not_false_eq_true, true_or, or_true, false_or, or_false, true_and, and_true, false_and, and_false, ir_set, ir_set_k, ir_set_r, ir_row, ir_row_r, sh_i_setL, sh_i_setR, sh_r_setI, sh_r_setL, sh_r_rowI, sh_l_setI, sh_l_rowI, lr_set, lr_set_k, lr_set_r, Nat.reduceLeDiff, Int.reduceAdd, Int.reduceSub, Int.reduceMul, Int.reduceNeg, Int.reduceToNat, Nat.reduceAdd, Nat.reduceMul, Nat.reduceSub, Int.toNat_natCast, rf_isRefused]
/-- whether someone stands there -/
def sl_at (L : sl_T) (x y n : Nat) : Prop := ∃ p, p < n ∧ sl_x L p = x ∧ sl_y L p = y
theorem cl_some {μ : sh_Mem} {P : sp_T} {L : sl_T} {r x y : Nat} (hk : sp_ok P) (hc : sm_cL μ r P L) (hl : sl_in P L) (hx : x < sp_c P) (hy : y < sp_r P) : ∀ (g f i : Nat), i + g = sp_np P → g < f → (∃ p, i ≤ p ∧ p < sp_np P ∧ sl_x L p = x ∧ sl_y L p = y) ∧ F_X3_isSomeoneAt f 1 r (zI x) (zI y) (zI (sp_np P)) (zI i) μ = some (1, μ) ∨ (¬ ∃ p, i ≤ p ∧ p < sp_np P ∧ sl_x L p = x ∧ sl_y L p = y) ∧ F_X3_isSomeoneAt f 1 r (zI x) (zI y) (zI (sp_np P)) (zI i) μ = some (0, μ) := by
  have hb := sp_bd hk
  intro g
  induction g with
  | zero =>
    intro f i hi hf
    obtain ⟨f, rfl⟩ : ∃ q, f = q + 1 := ⟨f - 1, by omega⟩
    refine Or.inr ⟨fun ⟨p, q1, q2, _⟩ => by omega, ?_⟩
    rw [F_X3_isSomeoneAt]
    simp (disch := omega) only [↓reduceIte, ↓shl_ap, shb_ap, shv_ap, zI_lit, zL_lit, nI_z, lN_z, ofN_z, zI_add, zI_sub, zI_mul, zI_neg, zL_add, zL_sub, zL_mul, zL_neg, zI_l, zI_cl, zI_le_t, zI_le_f, zI_lt_t, zI_lt_f, zI_eq_t, zI_eq_f, zI_in_t, zz_isIn_t, zz_isIn_f, not_true_eq_false, not_false_eq_true, true_or, or_true, false_or, or_false, true_and, and_true, false_and, and_false, Nat.reduceLeDiff, Int.reduceAdd, Int.reduceSub, Int.reduceMul, Int.reduceNeg, Int.reduceToNat, Nat.reduceAdd, Nat.reduceMul, Nat.reduceSub, Int.toNat_natCast]
  | succ g ih =>
    intro f i hi hf
    obtain ⟨f, rfl⟩ : ∃ q, f = q + 1 := ⟨f - 1, by omega⟩
    have hip : i < sp_np P := by omega
    obtain ⟨w1, w2, -, -⟩ := hc.2.2 i hip
    obtain ⟨v1, v2, -, -⟩ := hl.2 i hip
    rw [F_X3_isSomeoneAt]
    by_cases c : sl_x L i = x ∧ sl_y L i = y
    · refine Or.inl ⟨⟨i, by omega, hip, c⟩, ?_⟩
      simp (disch := omega) only [↓reduceIte, ↓shl_ap, shb_ap, shv_ap, zI_lit, zL_lit, nI_z, lN_z, ofN_z, zI_add, zI_sub, zI_mul, zI_neg, zL_add, zL_sub, zL_mul, zL_neg, zI_l, zI_cl, zI_le_t, zI_le_f, zI_lt_t, zI_lt_f, zI_eq_t, zI_eq_f, zI_in_t, zz_isIn_t, zz_isIn_f, not_true_eq_false, not_false_eq_true, true_or, or_true, false_or, or_false, true_and, and_true, false_and, and_false, Nat.reduceLeDiff, Int.reduceAdd, Int.reduceSub, Int.reduceMul, Int.reduceNeg, Int.reduceToNat, Nat.reduceAdd, Nat.reduceMul, Nat.reduceSub, Int.toNat_natCast, w1, w2, c.1, c.2]
    · have e : F_X3_isSomeoneAt f 1 r (zI x) (zI y) (zI (sp_np P)) (zI i + 1) μ = F_X3_isSomeoneAt f 1 r (zI x) (zI y) (zI (sp_np P)) (zI (i + 1 : Nat)) μ := by rw [show (zI (i : Int) + 1) = zI ((i + 1 : Nat) : Int) from zI_add i 1]
      have e2 : (∃ p, i ≤ p ∧ p < sp_np P ∧ sl_x L p = x ∧ sl_y L p = y) ↔ (∃ p, i + 1 ≤ p ∧ p < sp_np P ∧ sl_x L p = x ∧ sl_y L p = y) := by
        refine ⟨fun ⟨p, q1, q2, q3⟩ => ⟨p, ?_, q2, q3⟩, fun ⟨p, q1, q2, q3⟩ => ⟨p, by omega, q2, q3⟩⟩
        by_cases z : p = i
        · subst z; exact absurd q3 c
        · omega
      rw [e2]
      have := ih f (i + 1) (by omega) (by omega)
      rw [← e] at this
      by_cases c1 : sl_x L i = x
      · have c2 : ¬ sl_y L i = y := fun z => c ⟨c1, z⟩
        simp (disch := omega) only [↓reduceIte, ↓shl_ap, shb_ap, shv_ap, zI_lit, zL_lit, nI_z, lN_z, ofN_z, zI_add, zI_sub, zI_mul, zI_neg, zL_add, zL_sub, zL_mul, zL_neg, zI_l, zI_cl, zI_le_t, zI_le_f, zI_lt_t, zI_lt_f, zI_eq_t, zI_eq_f, zI_in_t, zz_isIn_t, zz_isIn_f, not_true_eq_false, not_false_eq_true, true_or, or_true, false_or, or_false, true_and, and_true, false_and, and_false, Nat.reduceLeDiff, Int.reduceAdd, Int.reduceSub, Int.reduceMul, Int.reduceNeg, Int.reduceToNat, Nat.reduceAdd, Nat.reduceMul, Nat.reduceSub, Int.toNat_natCast, w1, w2, c1] at this ⊢
        exact this
      · simp (disch := omega) only [↓reduceIte, ↓shl_ap, shb_ap, shv_ap, zI_lit, zL_lit, nI_z, lN_z, ofN_z, zI_add, zI_sub, zI_mul, zI_neg, zL_add, zL_sub, zL_mul, zL_neg, zI_l, zI_cl, zI_le_t, zI_le_f, zI_lt_t, zI_lt_f, zI_eq_t, zI_eq_f, zI_in_t, zz_isIn_t, zz_isIn_f, not_true_eq_false, not_false_eq_true, true_or, or_true, false_or, or_false, true_and, and_true, false_and, and_false, Nat.reduceLeDiff, Int.reduceAdd, Int.reduceSub, Int.reduceMul, Int.reduceNeg, Int.reduceToNat, Nat.reduceAdd, Nat.reduceMul, Nat.reduceSub, Int.toNat_natCast, w1, w2] at this ⊢
        exact this
theorem rf_taken {μ : sh_Mem} {P : sp_T} {L : sl_T} {x y : Nat} (hk : sp_ok P) (hM : sm_mP μ P) (hm : sm_mL (sh_i μ 330) 0 P L) (hl : sl_in P L) (hx : x < sp_c P) (hy : y < sp_r P) : ∀ (g f i : Nat), i + g = sp_np P → g < f → (∃ p, i ≤ p ∧ p < sp_np P ∧ sl_x L p = x ∧ sl_y L p = y) ∧ F_X12_isTaken f 1 (zI ((x + 7 * y : Nat) : Int)) (zI i) μ = some (1, μ) ∨ (¬ ∃ p, i ≤ p ∧ p < sp_np P ∧ sl_x L p = x ∧ sl_y L p = y) ∧ F_X12_isTaken f 1 (zI ((x + 7 * y : Nat) : Int)) (zI i) μ = some (0, μ) := by
  have hb := sp_bd hk
  intro g
  induction g with
  | zero =>
    intro f i hi hf
    obtain ⟨f, rfl⟩ : ∃ q, f = q + 1 := ⟨f - 1, by omega⟩
    refine Or.inr ⟨fun ⟨p, q1, q2, _⟩ => by omega, ?_⟩
    rw [F_X12_isTaken, rf_personMany hM]
    simp (disch := omega) only [↓reduceIte, ↓shl_ap, shb_ap, shv_ap, zI_lit, zL_lit, nI_z, lN_z, ofN_z, zI_add, zI_sub, zI_mul, zI_neg, zL_add, zL_sub, zL_mul, zL_neg, zI_l, zI_cl, zI_le_t, zI_le_f, zI_lt_t, zI_lt_f, zI_eq_t, zI_eq_f, zI_in_t, zz_isIn_t, zz_isIn_f, not_true_eq_false, not_false_eq_true, true_or, or_true, false_or, or_false, true_and, and_true, false_and, and_false, Nat.reduceLeDiff, Int.reduceAdd, Int.reduceSub, Int.reduceMul, Int.reduceNeg, Int.reduceToNat, Nat.reduceAdd, Nat.reduceMul, Nat.reduceSub, Int.toNat_natCast]
  | succ g ih =>
    intro f i hi hf
    obtain ⟨f, rfl⟩ : ∃ q, f = q + 1 := ⟨f - 1, by omega⟩
    have hip : i < sp_np P := by omega
    obtain ⟨v1, v2, -, -⟩ := hl.2 i hip
    rw [F_X12_isTaken, rf_personMany hM]
    by_cases c : sl_x L i = x ∧ sl_y L i = y
    · refine Or.inl ⟨⟨i, by omega, hip, c⟩, ?_⟩
      simp (disch := omega) only [↓reduceIte, ↓shl_ap, shb_ap, shv_ap, zI_lit, zL_lit, nI_z, lN_z, ofN_z, zI_add, zI_sub, zI_mul, zI_neg, zL_add, zL_sub, zL_mul, zL_neg, zI_l, zI_cl, zI_le_t, zI_le_f, zI_lt_t, zI_lt_f, zI_eq_t, zI_eq_f, zI_in_t, zz_isIn_t, zz_isIn_f, not_true_eq_false, not_false_eq_true, true_or, or_true, false_or, or_false, true_and, and_true, false_and, and_false, Nat.reduceLeDiff, Int.reduceAdd, Int.reduceSub, Int.reduceMul, Int.reduceNeg, Int.reduceToNat, Nat.reduceAdd, Nat.reduceMul, Nat.reduceSub, Int.toNat_natCast, rf_cellOf hm hk hip]
    · have e2 : (∃ p, i ≤ p ∧ p < sp_np P ∧ sl_x L p = x ∧ sl_y L p = y) ↔ (∃ p, i + 1 ≤ p ∧ p < sp_np P ∧ sl_x L p = x ∧ sl_y L p = y) := by
        refine ⟨fun ⟨p, q1, q2, q3⟩ => ⟨p, ?_, q2, q3⟩, fun ⟨p, q1, q2, q3⟩ => ⟨p, by omega, q2, q3⟩⟩
        by_cases z : p = i
        · subst z; exact absurd q3 c
        · omega
      rw [e2]
      have := ih f (i + 1) (by omega) (by omega)
      rw [show ((i + 1 : Nat) : Int) = (i : Int) + 1 by omega] at this
      have hx7 : x < 7 := by omega
      have hxi : sl_x L i < 7 := by omega
      have hne : ¬ (((sl_x L i + 7 * sl_y L i : Nat) : Int) = ((x + 7 * y : Nat) : Int)) := by
        intro z
        have z1 : sl_x L i = x := by omega
        have z2 : sl_y L i = y := by omega
        exact c ⟨z1, z2⟩
      simp (disch := omega) only [↓reduceIte, ↓shl_ap, shb_ap, shv_ap, zI_lit, zL_lit, nI_z, lN_z, ofN_z, zI_add, zI_sub, zI_mul, zI_neg, zL_add, zL_sub, zL_mul, zL_neg, zI_l, zI_cl, zI_le_t, zI_le_f, zI_lt_t, zI_lt_f, zI_eq_t, zI_eq_f, zI_in_t, zz_isIn_t, zz_isIn_f, not_true_eq_false, not_false_eq_true, true_or, or_true, false_or, or_false, true_and, and_true, false_and, and_false, Nat.reduceLeDiff, Int.reduceAdd, Int.reduceSub, Int.reduceMul, Int.reduceNeg, Int.reduceToNat, Nat.reduceAdd, Nat.reduceMul, Nat.reduceSub, Int.toNat_natCast, rf_cellOf hm hk hip]
      exact this
