/-! way: the reference; way as a call -/
section Wu
variable {k : Nat} {P : sp_T} {L : sl_T} {h : Nat → Nat}
def n336 (r _k : Nat) : Prop := r = 336
theorem f336_mP {μ μ' : sh_Mem} (hf : sh_fr n336 μ μ') (hM : sm_mP μ P) : sm_mP μ' P := hM.f3 (fun r k z => hf.i r k (fun w => by unfold n336 at w; omega)) (hf.lrow _ (fun k w => by unfold n336 at w; omega))
theorem f336_330 {μ μ' : sh_Mem} (hf : sh_fr n336 μ μ') : sh_i μ' 330 = sh_i μ 330 := hf.row 330 (fun k w => by unfold n336 at w; omega)
theorem mc_n {v : Nat} (h : v = 1000000) : mc v = -1 := if_pos h
theorem mc_p {v : Nat} (h : ¬ v = 1000000) : mc v = (v : Int) := if_neg h
theorem rf_chp1 (hk : sp_ok P) (h1 : k < sp_c P * sp_r P) (hle : ∀ j, j < sp_c P * sp_r P → h j ≤ 99) : ∀ (g f d B : Nat) (s : (Nat → Nat) × Bool) (μ : sh_Mem), d + g = 4 → g < f → B + 100 * g ≤ 999800 → sm_mP μ P → sm_mL (sh_i μ 330) 0 P (lh L h) → mst μ P s.1 → bdC (sp_c P * sp_r P) s.1 B → ∃ μ', F_X12_isCheaper f 1 (zI (ro P k : Int)) (zI (bI s.2)) (zI d) μ = some (zI (bI (rlg P h k g d s).2), μ') ∧ mst μ' P (rlg P h k g d s).1 ∧ sh_fr n336 μ μ' := by
  have hcs := sp_cells hk
  have hrk := ro_lt hk h1
  intro g
  induction g with
  | zero =>
    intro f d B s μ hd hf hB hM hm hC hb
    obtain ⟨f, rfl⟩ : ∃ q, f = q + 1 := ⟨f - 1, by omega⟩
    have hd : d = 4 := by omega
    subst hd
    refine ⟨μ, ?_, hC, sh_fr.rf⟩
    rw [F_X12_isCheaper, rlg]
    cases s.2 with
    | true => rw [bI_t]; simp (disch := omega) only [↓reduceIte, ↓shl_ap, shb_ap, shv_ap, zI_lit, zL_lit, nI_z, lN_z, ofN_z, zI_add, zI_sub, zI_mul, zI_neg, zL_add, zL_sub, zL_mul, zL_neg, zI_l, zI_cl, zI_le_t, zI_le_f, zI_lt_t, zI_lt_f, zI_eq_t, zI_eq_f, zI_in_t, zz_isIn_t, zz_isIn_f, not_true_eq_false, not_false_eq_true, true_or, or_true, false_or, or_false, true_and, and_true, false_and, and_false, Nat.reduceLeDiff, Int.reduceAdd, Int.reduceSub, Int.reduceMul, Int.reduceNeg, Int.reduceToNat, Nat.reduceAdd, Nat.reduceMul, Nat.reduceSub, Int.toNat_natCast, zN_le_t, zN_le_f]
    | false => rw [bI_f]; simp (disch := omega) only [↓reduceIte, ↓shl_ap, shb_ap, shv_ap, zI_lit, zL_lit, nI_z, lN_z, ofN_z, zI_add, zI_sub, zI_mul, zI_neg, zL_add, zL_sub, zL_mul, zL_neg, zI_l, zI_cl, zI_le_t, zI_le_f, zI_lt_t, zI_lt_f, zI_eq_t, zI_eq_f, zI_in_t, zz_isIn_t, zz_isIn_f, not_true_eq_false, not_false_eq_true, true_or, or_true, false_or, or_false, true_and, and_true, false_and, and_false, Nat.reduceLeDiff, Int.reduceAdd, Int.reduceSub, Int.reduceMul, Int.reduceNeg, Int.reduceToNat, Nat.reduceAdd, Nat.reduceMul, Nat.reduceSub, Int.toNat_natCast, zN_le_t, zN_le_f]
  | succ g ih =>
    intro f d B s μ hd hf hB hM hm hC hb
    obtain ⟨f, rfl⟩ : ∃ q, f = q + 1 := ⟨f - 1, by omega⟩
    have hn := rf_beside hM hk h1 (show d < 4 by omega)
    rw [rlg]
    have hCk := hC k h1
    have hlk := hle k h1
    have hhk : f_X12_heightOf (zI (ro P k : Int)) μ = some (zI (h k), μ) := rf_heightOrd (L := lh L h) hm hk h1
    have hskip : rl P h k d s = s → F_X12_isCheaper (f + 1) 1 (zI (ro P k : Int)) (zI (bI s.2)) (zI d) μ = F_X12_isCheaper f 1 (zI (ro P k : Int)) (zI (bI s.2)) (zI ((d + 1 : Nat) : Int)) μ → ∃ μ', F_X12_isCheaper (f + 1) 1 (zI (ro P k : Int)) (zI (bI s.2)) (zI d) μ = some (zI (bI (rlg P h k g (d + 1) (rl P h k d s)).2), μ') ∧ mst μ' P (rlg P h k g (d + 1) (rl P h k d s)).1 ∧ sh_fr n336 μ μ' := by
      intro er hs
      obtain ⟨μ', k1, k2, k3⟩ := ih f (d + 1) B s μ (by omega) (by omega) (by omega) hM hm hC hb
      rw [er]
      exact ⟨μ', hs.trans k1, k2, k3⟩
    have hset : ∀ v : Nat, v < 1000000 → rl P h k d s = (hu s.1 k v, true) → F_X12_isCheaper (f + 1) 1 (zI (ro P k : Int)) (zI (bI s.2)) (zI d) μ = F_X12_isCheaper f 1 (zI (ro P k : Int)) (zI 1) (zI ((d + 1 : Nat) : Int)) (sh_setI μ 336 (ro P k) (zI v)) → ∃ μ', F_X12_isCheaper (f + 1) 1 (zI (ro P k : Int)) (zI (bI s.2)) (zI d) μ = some (zI (bI (rlg P h k g (d + 1) (rl P h k d s)).2), μ') ∧ mst μ' P (rlg P h k g (d + 1) (rl P h k d s)).1 ∧ sh_fr n336 μ μ' := by
      intro v hv er hs
      have fr1 : sh_fr n336 μ (sh_setI μ 336 (ro P k) (zI v)) := sh_fr_I sh_fr.rf rfl
      obtain ⟨μ', k1, k2, k3⟩ := ih f (d + 1) (B + 100) (rl P h k d s) (sh_setI μ 336 (ro P k) (zI v)) (by omega) (by omega) (by omega) (f336_mP fr1 hM) (by rw [f336_330 fr1]; exact hm) (fun i hi => by
        rw [er]
        show _ = zI (mc (hu s.1 k v i))
        by_cases z : i = k
        · subst z; rw [ir_set, hu_s, mc_p (by omega)]
        · rw [ir_set_k (fun w => z (ro_inj hk hi h1 w)), hu_n z]; exact hC i hi) (rl_bd hk hle h1 (by omega) hb)
      refine ⟨μ', hs.trans ?_, k2, fr1.trans k3⟩
      rw [← k1, er]
      rfl
    cases e : nb P k d with
    | none =>
      have er : rl P h k d s = s := by unfold rl; rw [e]
      apply hskip er
      rw [F_X12_isCheaper, hn, e]
      simp (disch := omega) only [↓reduceIte, ↓shl_ap, shb_ap, shv_ap, zI_lit, zL_lit, nI_z, lN_z, ofN_z, zI_add, zI_sub, zI_mul, zI_neg, zL_add, zL_sub, zL_mul, zL_neg, zI_l, zI_cl, zI_le_t, zI_le_f, zI_lt_t, zI_lt_f, zI_eq_t, zI_eq_f, zI_in_t, zz_isIn_t, zz_isIn_f, not_true_eq_false, not_false_eq_true, true_or, or_true, false_or, or_false, true_and, and_true, false_and, and_false, Nat.reduceLeDiff, Int.reduceAdd, Int.reduceSub, Int.reduceMul, Int.reduceNeg, Int.reduceToNat, Nat.reduceAdd, Nat.reduceMul, Nat.reduceSub, Int.toNat_natCast, bz_n, zN_le_t, zN_le_f]
      rfl
    | some j =>
      have hj := nb_lt hk h1 e
      have hrj := ro_lt hk hj
      have hCj := hC j hj
      have hlj := hle j hj
      have hhj : f_X12_heightOf (zI (ro P j : Int)) μ = some (zI (h j), μ) := rf_heightOrd (L := lh L h) hm hk hj
      obtain ⟨W, w1, w2, -, w3⟩ := wgt_W (h := h) (k := k) (j := j) hlk hlj
      rcases hb j hj with zj | zj
      · have er : rl P h k d s = s := by
          unfold rl; rw [e]
          refine if_neg ?_
          rcases hb k h1 with zk | zk <;> omega
        apply hskip er
        rw [mc_n zj] at hCj
        rw [F_X12_isCheaper, hn, e]
        simp (disch := omega) only [↓reduceIte, ↓shl_ap, shb_ap, shv_ap, zI_lit, zL_lit, nI_z, lN_z, ofN_z, zI_add, zI_sub, zI_mul, zI_neg, zL_add, zL_sub, zL_mul, zL_neg, zI_l, zI_cl, zI_le_t, zI_le_f, zI_lt_t, zI_lt_f, zI_eq_t, zI_eq_f, zI_in_t, zz_isIn_t, zz_isIn_f, not_true_eq_false, not_false_eq_true, true_or, or_true, false_or, or_false, true_and, and_true, false_and, and_false, Nat.reduceLeDiff, Int.reduceAdd, Int.reduceSub, Int.reduceMul, Int.reduceNeg, Int.reduceToNat, Nat.reduceAdd, Nat.reduceMul, Nat.reduceSub, Int.toNat_natCast, bz_s, hCj, zN_le_t, zN_le_f]
        rfl
      · rw [mc_p (by omega)] at hCj
        rcases hb k h1 with zk | zk
        · have er : rl P h k d s = (hu s.1 k (s.1 j + wgt h k j), true) := by
            unfold rl; rw [e]
            exact if_pos (by omega)
          rw [mc_n zk] at hCk
          apply hset _ (by omega) er
          rw [F_X12_isCheaper, hn, e]
          rcases w3 with ⟨w4, w5⟩ | ⟨w4, w5⟩
          · simp (disch := omega) only [↓reduceIte, ↓shl_ap, shb_ap, shv_ap, zI_lit, zL_lit, nI_z, lN_z, ofN_z, zI_add, zI_sub, zI_mul, zI_neg, zL_add, zL_sub, zL_mul, zL_neg, zI_l, zI_cl, zI_le_t, zI_le_f, zI_lt_t, zI_lt_f, zI_eq_t, zI_eq_f, zI_in_t, zz_isIn_t, zz_isIn_f, not_true_eq_false, not_false_eq_true, true_or, or_true, false_or, or_false, true_and, and_true, false_and, and_false, Nat.reduceLeDiff, Int.reduceAdd, Int.reduceSub, Int.reduceMul, Int.reduceNeg, Int.reduceToNat, Nat.reduceAdd, Nat.reduceMul, Nat.reduceSub, Int.toNat_natCast, bz_s, hCj, hhk, hhj, hCk, w5, zN_le_t, zN_le_f]
            rw [show ((s.1 j + wgt h k j : Nat) : Int) = (s.1 j : Int) + 1 + W by omega]
            rfl
          · simp (disch := omega) only [↓reduceIte, ↓shl_ap, shb_ap, shv_ap, zI_lit, zL_lit, nI_z, lN_z, ofN_z, zI_add, zI_sub, zI_mul, zI_neg, zL_add, zL_sub, zL_mul, zL_neg, zI_l, zI_cl, zI_le_t, zI_le_f, zI_lt_t, zI_lt_f, zI_eq_t, zI_eq_f, zI_in_t, zz_isIn_t, zz_isIn_f, not_true_eq_false, not_false_eq_true, true_or, or_true, false_or, or_false, true_and, and_true, false_and, and_false, Nat.reduceLeDiff, Int.reduceAdd, Int.reduceSub, Int.reduceMul, Int.reduceNeg, Int.reduceToNat, Nat.reduceAdd, Nat.reduceMul, Nat.reduceSub, Int.toNat_natCast, bz_s, hCj, hhk, hhj, hCk, w5, zN_le_t, zN_le_f]
            rw [show ((s.1 j + wgt h k j : Nat) : Int) = (s.1 j : Int) + 1 + W by omega]
            rfl
        · rw [mc_p (by omega)] at hCk
          by_cases c : s.1 j + wgt h k j < s.1 k
          · have er : rl P h k d s = (hu s.1 k (s.1 j + wgt h k j), true) := by
              unfold rl; rw [e]
              exact if_pos c
            apply hset _ (by omega) er
            rw [F_X12_isCheaper, hn, e]
            rcases w3 with ⟨w4, w5⟩ | ⟨w4, w5⟩
            · simp (disch := omega) only [↓reduceIte, ↓shl_ap, shb_ap, shv_ap, zI_lit, zL_lit, nI_z, lN_z, ofN_z, zI_add, zI_sub, zI_mul, zI_neg, zL_add, zL_sub, zL_mul, zL_neg, zI_l, zI_cl, zI_le_t, zI_le_f, zI_lt_t, zI_lt_f, zI_eq_t, zI_eq_f, zI_in_t, zz_isIn_t, zz_isIn_f, not_true_eq_false, not_false_eq_true, true_or, or_true, false_or, or_false, true_and, and_true, false_and, and_false, Nat.reduceLeDiff, Int.reduceAdd, Int.reduceSub, Int.reduceMul, Int.reduceNeg, Int.reduceToNat, Nat.reduceAdd, Nat.reduceMul, Nat.reduceSub, Int.toNat_natCast, bz_s, hCj, hhk, hhj, hCk, w5, zN_le_t, zN_le_f]
              rw [show ((s.1 j + wgt h k j : Nat) : Int) = (s.1 j : Int) + 1 + W by omega]
              rfl
            · simp (disch := omega) only [↓reduceIte, ↓shl_ap, shb_ap, shv_ap, zI_lit, zL_lit, nI_z, lN_z, ofN_z, zI_add, zI_sub, zI_mul, zI_neg, zL_add, zL_sub, zL_mul, zL_neg, zI_l, zI_cl, zI_le_t, zI_le_f, zI_lt_t, zI_lt_f, zI_eq_t, zI_eq_f, zI_in_t, zz_isIn_t, zz_isIn_f, not_true_eq_false, not_false_eq_true, true_or, or_true, false_or, or_false, true_and, and_true, false_and, and_false, Nat.reduceLeDiff, Int.reduceAdd, Int.reduceSub, Int.reduceMul, Int.reduceNeg, Int.reduceToNat, Nat.reduceAdd, Nat.reduceMul, Nat.reduceSub, Int.toNat_natCast, bz_s, hCj, hhk, hhj, hCk, w5, zN_le_t, zN_le_f]
              rw [show ((s.1 j + wgt h k j : Nat) : Int) = (s.1 j : Int) + 1 + W by omega]
              rfl
          · have er : rl P h k d s = s := by
              unfold rl; rw [e]
              exact if_neg c
            apply hskip er
            rw [F_X12_isCheaper, hn, e]
            rcases w3 with ⟨w4, w5⟩ | ⟨w4, w5⟩
            · simp (disch := omega) only [↓reduceIte, ↓shl_ap, shb_ap, shv_ap, zI_lit, zL_lit, nI_z, lN_z, ofN_z, zI_add, zI_sub, zI_mul, zI_neg, zL_add, zL_sub, zL_mul, zL_neg, zI_l, zI_cl, zI_le_t, zI_le_f, zI_lt_t, zI_lt_f, zI_eq_t, zI_eq_f, zI_in_t, zz_isIn_t, zz_isIn_f, not_true_eq_false, not_false_eq_true, true_or, or_true, false_or, or_false, true_and, and_true, false_and, and_false, Nat.reduceLeDiff, Int.reduceAdd, Int.reduceSub, Int.reduceMul, Int.reduceNeg, Int.reduceToNat, Nat.reduceAdd, Nat.reduceMul, Nat.reduceSub, Int.toNat_natCast, bz_s, hCj, hhk, hhj, hCk, w5, zN_le_t, zN_le_f]
              rfl
            · simp (disch := omega) only [↓reduceIte, ↓shl_ap, shb_ap, shv_ap, zI_lit, zL_lit, nI_z, lN_z, ofN_z, zI_add, zI_sub, zI_mul, zI_neg, zL_add, zL_sub, zL_mul, zL_neg, zI_l, zI_cl, zI_le_t, zI_le_f, zI_lt_t, zI_lt_f, zI_eq_t, zI_eq_f, zI_in_t, zz_isIn_t, zz_isIn_f, not_true_eq_false, not_false_eq_true, true_or, or_true, false_or, or_false, true_and, and_true, false_and, and_false, Nat.reduceLeDiff, Int.reduceAdd, Int.reduceSub, Int.reduceMul, Int.reduceNeg, Int.reduceToNat, Nat.reduceAdd, Nat.reduceMul, Nat.reduceSub, Int.toNat_natCast, bz_s, hCj, hhk, hhj, hCk, w5, zN_le_t, zN_le_f]
              rfl
set_option maxRecDepth 8000 in
theorem rf_swp (hk : sp_ok P) (hle : ∀ j, j < sp_c P * sp_r P → h j ≤ 99) {i1 i2 : Int32} : ∀ (g f k B : Nat) (s : (Nat → Nat) × Bool) (μ : sh_Mem), k + g = sp_c P * sp_r P → g < f → B + 400 * g ≤ 999800 → sm_mP μ P → sm_mL (sh_i μ 330) 0 P (lh L h) → mst μ P s.1 → bdC (sp_c P * sp_r P) s.1 B → ∃ μ', F_X12_wayCost f 3 i1 i2 (zI (bI s.2)) (zI k) μ = F_X12_wayCost (f - g - 1) 2 i1 i2 (zI (bI (swp P h g k s).2)) (zI 0) μ' ∧ mst μ' P (swp P h g k s).1 ∧ sh_fr n336 μ μ' := by
  have hcs := sp_cells hk
  intro g
  induction g with
  | zero =>
    intro f k B s μ hg hf hB hM hm hC hb
    obtain ⟨f, rfl⟩ : ∃ q, f = q + 1 := ⟨f - 1, by omega⟩
    have hk2 : k = sp_c P * sp_r P := by omega
    subst hk2
    refine ⟨μ, ?_, hC, sh_fr.rf⟩
    rw [show f + 1 - 0 - 1 = f by omega, F_X12_wayCost, swp, rf_cellMany hM]
    simp (disch := omega) only [↓reduceIte, ↓shl_ap, shb_ap, shv_ap, zI_lit, zL_lit, nI_z, lN_z, ofN_z, zI_add, zI_sub, zI_mul, zI_neg, zL_add, zL_sub, zL_mul, zL_neg, zI_l, zI_cl, zI_le_t, zI_le_f, zI_lt_t, zI_lt_f, zI_eq_t, zI_eq_f, zI_in_t, zz_isIn_t, zz_isIn_f, not_true_eq_false, not_false_eq_true, true_or, or_true, false_or, or_false, true_and, and_true, false_and, and_false, Nat.reduceLeDiff, Int.reduceAdd, Int.reduceSub, Int.reduceMul, Int.reduceNeg, Int.reduceToNat, Nat.reduceAdd, Nat.reduceMul, Nat.reduceSub, Int.toNat_natCast, zN_le_t, zN_le_f]
  | succ g ih =>
    intro f k B s μ hg hf hB hM hm hC hb
    obtain ⟨f, rfl⟩ : ∃ q, f = q + 1 := ⟨f - 1, by omega⟩
    have h1 : k < sp_c P * sp_r P := by omega
    obtain ⟨m, a1, a2, a3⟩ := rf_chp1 (L := L) (h := h) hk h1 hle 4 sh_fuel 0 B (s.1, false) μ (by omega) (by rw [sh_fuel_eq]; omega) (by omega) hM hm hC hb
    have hb2 := rlg_b (P := P) (h := h) (k := k) 4 0 s.1 false s.2
    have hb3 : (rlg P h k 4 0 s).2 = (s.2 || (rlg P h k 4 0 (s.1, false)).2) := hb2.2
    obtain ⟨μ', k1, k2, k3⟩ := ih f (k + 1) (B + 400) (rlg P h k 4 0 s) m (by omega) (by omega) (by omega) (f336_mP a3 hM) (by rw [f336_330 a3]; exact hm) (by rw [show (rlg P h k 4 0 s).1 = (rlg P h k 4 0 (s.1, false)).1 from hb2.1.symm]; exact a2) (rlg_bd hk hle h1 4 0 B s (by omega) hb)
    refine ⟨μ', ?_, k2, a3.trans k3⟩
    have hco : f_X12_cellOrder (zI k) μ = some (zI (ro P k : Int), μ) := rf_cellOrder hM hk h1
    rw [show f + 1 - (g + 1) - 1 = f - g - 1 by omega, swp, ← k1, F_X12_wayCost, rf_cellMany hM]
    have a1' : f_X12_isCheaper (zI (ro P k : Int)) μ = some (zI (bI (rlg P h k 4 0 (s.1, false)).2), m) := a1
    rw [hb3]
    cases e : (rlg P h k 4 0 (s.1, false)).2 with
    | true =>
      rw [e, bI_t] at a1'
      rw [Bool.or_true, bI_t]
      simp (disch := omega) only [↓reduceIte, ↓shl_ap, shb_ap, shv_ap, zI_lit, zL_lit, nI_z, lN_z, ofN_z, zI_add, zI_sub, zI_mul, zI_neg, zL_add, zL_sub, zL_mul, zL_neg, zI_l, zI_cl, zI_le_t, zI_le_f, zI_lt_t, zI_lt_f, zI_eq_t, zI_eq_f, zI_in_t, zz_isIn_t, zz_isIn_f, not_true_eq_false, not_false_eq_true, true_or, or_true, false_or, or_false, true_and, and_true, false_and, and_false, Nat.reduceLeDiff, Int.reduceAdd, Int.reduceSub, Int.reduceMul, Int.reduceNeg, Int.reduceToNat, Nat.reduceAdd, Nat.reduceMul, Nat.reduceSub, Int.toNat_natCast, hco, a1', zN_le_t, zN_le_f]
      rfl
    | false =>
      rw [e, bI_f] at a1'
      rw [Bool.or_false]
      simp (disch := omega) only [↓reduceIte, ↓shl_ap, shb_ap, shv_ap, zI_lit, zL_lit, nI_z, lN_z, ofN_z, zI_add, zI_sub, zI_mul, zI_neg, zL_add, zL_sub, zL_mul, zL_neg, zI_l, zI_cl, zI_le_t, zI_le_f, zI_lt_t, zI_lt_f, zI_eq_t, zI_eq_f, zI_in_t, zz_isIn_t, zz_isIn_f, not_true_eq_false, not_false_eq_true, true_or, or_true, false_or, or_false, true_and, and_true, false_and, and_false, Nat.reduceLeDiff, Int.reduceAdd, Int.reduceSub, Int.reduceMul, Int.reduceNeg, Int.reduceToNat, Nat.reduceAdd, Nat.reduceMul, Nat.reduceSub, Int.toNat_natCast, hco, a1', zN_le_t, zN_le_f]
      rfl
theorem rf_rds (hk : sp_ok P) (hle : ∀ j, j < sp_c P * sp_r P → h j ≤ 99) {i1 : Int32} {to : Nat} (hto : to < sp_c P * sp_r P) : ∀ (g f B : Nat) (C : Nat → Nat) (i4 : Int32) (μ : sh_Mem), cvg P h g C → 60 * g + 2 < f → B + 400 * 49 * g ≤ 999800 → sm_mP μ P → sm_mL (sh_i μ 330) 0 P (lh L h) → mst μ P C → bdC (sp_c P * sp_r P) C B → ∃ μ', F_X12_wayCost f 2 i1 (zI (ro P to : Int)) (zI 1) i4 μ = some (zI (mc (rds P h g C to)), μ') ∧ sh_fr n336 μ μ' := by
  have hcs := sp_cells hk
  have hrt := ro_lt hk hto
  intro g
  induction g with
  | zero => intro f B C i4 μ q; exact q.elim
  | succ g ih =>
    intro f B C i4 μ q hf hB hM hm hC hb
    obtain ⟨f, rfl⟩ : ∃ q, f = q + 1 := ⟨f - 1, by omega⟩
    have h400 : 400 * (sp_c P * sp_r P) ≤ 400 * 49 := Nat.mul_le_mul_left _ hcs
    obtain ⟨m, a1, a2, a3⟩ := rf_swp (L := L) (h := h) (i1 := i1) (i2 := zI (ro P to : Int)) hk hle (sp_c P * sp_r P) f 0 B (C, false) μ (by omega) (by omega) (by omega) hM hm hC hb
    have hbm := swp_bd hk hle (sp_c P * sp_r P) 0 B (C, false) (by omega) (by omega) hb
    rw [rds]
    have hst : F_X12_wayCost (f + 1) 2 i1 (zI (ro P to : Int)) (zI 1) i4 μ = F_X12_wayCost f 3 i1 (zI (ro P to : Int)) (zI 0) (zI 0) μ := by
      rw [F_X12_wayCost]
      simp (disch := omega) only [↓reduceIte, ↓shl_ap, shb_ap, shv_ap, zI_lit, zL_lit, nI_z, lN_z, ofN_z, zI_add, zI_sub, zI_mul, zI_neg, zL_add, zL_sub, zL_mul, zL_neg, zI_l, zI_cl, zI_le_t, zI_le_f, zI_lt_t, zI_lt_f, zI_eq_t, zI_eq_f, zI_in_t, zz_isIn_t, zz_isIn_f, not_true_eq_false, not_false_eq_true, true_or, or_true, false_or, or_false, true_and, and_true, false_and, and_false, Nat.reduceLeDiff, Int.reduceAdd, Int.reduceSub, Int.reduceMul, Int.reduceNeg, Int.reduceToNat, Nat.reduceAdd, Nat.reduceMul, Nat.reduceSub, Int.toNat_natCast, zN_le_t, zN_le_f]
    have a1' : F_X12_wayCost f 3 i1 (zI (ro P to : Int)) (zI 0) (zI 0) μ = _ := a1
    rw [hst, a1']
    cases e : (swp P h (sp_c P * sp_r P) 0 (C, false)).2 with
    | true =>
      rw [if_pos rfl, bI_t]
      rcases q with q | q
      · rw [q] at e; cases e
      · obtain ⟨μ', k1, k2⟩ := ih (f - sp_c P * sp_r P - 1) (B + 400 * 49) (swp P h (sp_c P * sp_r P) 0 (C, false)).1 (zI 0) m q (by omega) (by omega) (f336_mP a3 hM) (by rw [f336_330 a3]; exact hm) a2 (fun j hj => by rcases hbm j hj with z | z; exact Or.inl z; exact Or.inr (by omega))
        exact ⟨μ', k1, a3.trans k2⟩
    | false =>
      rw [if_neg (by decide), bI_f]
      have hsame := (swp_f (sp_c P * sp_r P) 0 (C, false) e).1
      rw [hsame] at a2
      have a2to : sh_i m 336 (ro P to) = zI (mc (C to)) := a2 to hto
      obtain ⟨f', hf'⟩ : ∃ q, f - sp_c P * sp_r P - 1 = q + 1 := ⟨f - sp_c P * sp_r P - 2, by omega⟩
      refine ⟨m, ?_, a3⟩
      rw [hf', F_X12_wayCost]
      simp (disch := omega) only [↓reduceIte, ↓shl_ap, shb_ap, shv_ap, zI_lit, zL_lit, nI_z, lN_z, ofN_z, zI_add, zI_sub, zI_mul, zI_neg, zL_add, zL_sub, zL_mul, zL_neg, zI_l, zI_cl, zI_le_t, zI_le_f, zI_lt_t, zI_lt_f, zI_eq_t, zI_eq_f, zI_in_t, zz_isIn_t, zz_isIn_f, not_true_eq_false, not_false_eq_true, true_or, or_true, false_or, or_false, true_and, and_true, false_and, and_false, Nat.reduceLeDiff, Int.reduceAdd, Int.reduceSub, Int.reduceMul, Int.reduceNeg, Int.reduceToNat, Nat.reduceAdd, Nat.reduceMul, Nat.reduceSub, Int.toNat_natCast, a2to, zN_le_t, zN_le_f]
theorem rf_wfill {i2 : Int32} {a : Nat} (ha : a < 49) : ∀ (g f i : Nat) (μ : sh_Mem), i + g = 49 → g < f → ∃ μ', F_X12_wayCost f 1 (zI a) i2 (zI i) (zI 0) μ = F_X12_wayCost (f - g - 1) 2 (zI a) i2 (zI 1) (zI 0) μ' ∧ sh_fr n336 μ μ' ∧ (∀ j, i ≤ j → j < 49 → sh_i μ' 336 j = zI (if j = a then 0 else -1)) ∧ ∀ j, j < i → sh_i μ' 336 j = sh_i μ 336 j := by
  intro g
  induction g with
  | zero =>
    intro f i μ hg hf
    obtain ⟨f, rfl⟩ : ∃ q, f = q + 1 := ⟨f - 1, by omega⟩
    have hi : i = 49 := by omega
    subst hi
    refine ⟨μ, ?_, sh_fr.rf, fun j h1 h2 => by omega, fun j hj => rfl⟩
    rw [show f + 1 - 0 - 1 = f by omega, F_X12_wayCost]
    simp (disch := omega) only [↓reduceIte, ↓shl_ap, shb_ap, shv_ap, zI_lit, zL_lit, nI_z, lN_z, ofN_z, zI_add, zI_sub, zI_mul, zI_neg, zL_add, zL_sub, zL_mul, zL_neg, zI_l, zI_cl, zI_le_t, zI_le_f, zI_lt_t, zI_lt_f, zI_eq_t, zI_eq_f, zI_in_t, zz_isIn_t, zz_isIn_f, not_true_eq_false, not_false_eq_true, true_or, or_true, false_or, or_false, true_and, and_true, false_and, and_false, Nat.reduceLeDiff, Int.reduceAdd, Int.reduceSub, Int.reduceMul, Int.reduceNeg, Int.reduceToNat, Nat.reduceAdd, Nat.reduceMul, Nat.reduceSub, Int.toNat_natCast, zN_le_t, zN_le_f]
  | succ g ih =>
    intro f i μ hg hf
    obtain ⟨f, rfl⟩ : ∃ q, f = q + 1 := ⟨f - 1, by omega⟩
    obtain ⟨μ', k1, k2, k3, k4⟩ := ih f (i + 1) (sh_setI μ 336 i (zI (if i = a then 0 else -1))) (by omega) (by omega)
    refine ⟨μ', ?_, (sh_fr_I (N := n336) sh_fr.rf rfl).trans k2, fun j h1 h2 => ?_, fun j hj => ?_⟩
    · rw [show f + 1 - (g + 1) - 1 = f - g - 1 by omega, ← k1, F_X12_wayCost]
      by_cases c : i = a
      · rw [if_pos c]
        simp (disch := omega) only [↓reduceIte, ↓shl_ap, shb_ap, shv_ap, zI_lit, zL_lit, nI_z, lN_z, ofN_z, zI_add, zI_sub, zI_mul, zI_neg, zL_add, zL_sub, zL_mul, zL_neg, zI_l, zI_cl, zI_le_t, zI_le_f, zI_lt_t, zI_lt_f, zI_eq_t, zI_eq_f, zI_in_t, zz_isIn_t, zz_isIn_f, not_true_eq_false, not_false_eq_true, true_or, or_true, false_or, or_false, true_and, and_true, false_and, and_false, Nat.reduceLeDiff, Int.reduceAdd, Int.reduceSub, Int.reduceMul, Int.reduceNeg, Int.reduceToNat, Nat.reduceAdd, Nat.reduceMul, Nat.reduceSub, Int.toNat_natCast, c, zN_le_t, zN_le_f]
        rfl
      · rw [if_neg c]
        simp (disch := omega) only [↓reduceIte, ↓shl_ap, shb_ap, shv_ap, zI_lit, zL_lit, nI_z, lN_z, ofN_z, zI_add, zI_sub, zI_mul, zI_neg, zL_add, zL_sub, zL_mul, zL_neg, zI_l, zI_cl, zI_le_t, zI_le_f, zI_lt_t, zI_lt_f, zI_eq_t, zI_eq_f, zI_in_t, zz_isIn_t, zz_isIn_f, not_true_eq_false, not_false_eq_true, true_or, or_true, false_or, or_false, true_and, and_true, false_and, and_false, Nat.reduceLeDiff, Int.reduceAdd, Int.reduceSub, Int.reduceMul, Int.reduceNeg, Int.reduceToNat, Nat.reduceAdd, Nat.reduceMul, Nat.reduceSub, Int.toNat_natCast, zN_le_t, zN_le_f]
        rfl
    · by_cases c : j = i
      · subst c; rw [k4 j (by omega), ir_set]
      · exact k3 j (by omega) h2
    · rw [k4 j (by omega), ir_set_k (by omega)]
theorem cz_prd (hfr : k < sp_c P * sp_r P) : prd P h (sp_c P * sp_r P) k (cz k) := by
  refine ⟨by unfold cz; rw [if_pos rfl], fun j hj hl => Or.inl ?_⟩
  unfold cz at hl
  by_cases c : j = k
  · exact c
  · rw [if_neg c] at hl; omega
theorem cz_le (j : Nat) : cz k j ≤ 1000000 := by unfold cz; split <;> omega
theorem cz_bd : bdC (sp_c P * sp_r P) (cz k) 0 := by
  intro j hj
  unfold cz
  split
  · exact Or.inr (by omega)
  · exact Or.inl rfl
theorem lip {φ : Nat → Nat} {n : Nat} (hs : ∀ i, i + 1 < n → φ (i + 1) ≤ φ i + 100 ∧ φ i ≤ φ (i + 1) + 100) : ∀ (m i j : Nat), i < n → j < n → (i = j + m ∨ j = i + m) → φ i ≤ φ j + 100 * m
  | 0, i, j, h1, h2, e => by
    have : i = j := by omega
    subst this; omega
  | m + 1, i, j, h1, h2, e => by
    rcases e with e | e
    · have := lip hs m (i - 1) j (by omega) h2 (Or.inl (by omega))
      have q := (hs (i - 1) (by omega)).1
      rw [show i - 1 + 1 = i by omega] at q
      omega
    · have := lip hs m (i + 1) j (by omega) h2 (Or.inr (by omega))
      have q := (hs i (by omega)).2
      omega
theorem dm {x y : Nat} (hx : x < sp_c P) : (y * sp_c P + x) / sp_c P = y ∧ (y * sp_c P + x) % sp_c P = x := by
  have h0 : 0 < sp_c P := by omega
  constructor
  · rw [Nat.mul_comm, Nat.mul_add_div h0, Nat.div_eq_of_lt hx, Nat.add_zero]
  · rw [Nat.mul_comm, Nat.mul_add_mod, Nat.mod_eq_of_lt hx]
theorem nb_1 {x y : Nat} (hx : x + 1 < sp_c P) : nb P (y * sp_c P + (x + 1)) 1 = some (y * sp_c P + x) := by
  unfold nb
  rw [if_neg (by omega), if_pos rfl, (dm hx).1, (dm hx).2, if_pos (by omega)]
  rfl
theorem nb_2 {x y : Nat} (hx : x + 1 < sp_c P) : nb P (y * sp_c P + x) 2 = some (y * sp_c P + (x + 1)) := by
  unfold nb
  rw [if_neg (by omega), if_neg (by omega), if_pos rfl, (dm (show x < sp_c P by omega)).1, (dm (show x < sp_c P by omega)).2, if_pos hx]
theorem nb_0 {x y : Nat} (hx : x < sp_c P) : nb P ((y + 1) * sp_c P + x) 0 = some (y * sp_c P + x) := by
  unfold nb
  rw [if_pos rfl, (dm hx).1, (dm hx).2, if_pos (by omega)]
  rfl
theorem nb_3 {x y : Nat} (hx : x < sp_c P) (hy : y + 1 < sp_r P) : nb P (y * sp_c P + x) 3 = some ((y + 1) * sp_c P + x) := by
  unfold nb
  rw [if_neg (by omega), if_neg (by omega), if_neg (by omega), (dm hx).1, (dm hx).2, if_pos hy]
theorem rds_fin (hk : sp_ok P) (hle : ∀ j, j < sp_c P * sp_r P → h j ≤ 99) {fr to : Nat} (hfr : fr < sp_c P * sp_r P) (hto : to < sp_c P * sp_r P) : rds P h 49 (cz fr) to ≤ 1200 := by
  have hb := sp_bd hk
  have hcs := sp_cells hk
  have hcv := cvg_49 (h := h) hk hfr (cz_prd hfr) cz_le
  obtain ⟨e1, i, e2⟩ := rds_fix 49 (cz fr) hcv
  have hD := (swp_f (sp_c P * sp_r P) 0 (rds P h 49 (cz fr), false) e1).2
  have h0 : rds P h 49 (cz fr) fr = 0 := by rw [e2]; exact (itr_prd (h := h) hk (cz_prd hfr) i).1
  generalize rds P h 49 (cz fr) = D at *
  have hst : ∀ k j d, k < sp_c P * sp_r P → j < sp_c P * sp_r P → d < 4 → nb P k d = some j → D k ≤ D j + 100 := by
    intro k j d h1 h2 h3 h4
    have q : ¬ D j + wgt h k j < D k := hD k (by omega) (by omega) d h3 j h4
    have := wgt_le (hle k h1) (hle j h2)
    omega
  have hx : ∀ y, y < sp_r P → ∀ i, i + 1 < sp_c P → D (y * sp_c P + (i + 1)) ≤ D (y * sp_c P + i) + 100 ∧ D (y * sp_c P + i) ≤ D (y * sp_c P + (i + 1)) + 100 := fun y hy i hi =>
    ⟨hst _ _ 1 (sp_cell hk (by omega) hy) (sp_cell hk (by omega) hy) (by omega) (nb_1 hi), hst _ _ 2 (sp_cell hk (by omega) hy) (sp_cell hk (by omega) hy) (by omega) (nb_2 hi)⟩
  have hy : ∀ x, x < sp_c P → ∀ i, i + 1 < sp_r P → D ((i + 1) * sp_c P + x) ≤ D (i * sp_c P + x) + 100 ∧ D (i * sp_c P + x) ≤ D ((i + 1) * sp_c P + x) + 100 := fun x hx i hi =>
    ⟨hst _ _ 0 (sp_cell hk hx hi) (sp_cell hk hx (by omega)) (by omega) (nb_0 hx), hst _ _ 3 (sp_cell hk hx (by omega)) (sp_cell hk hx hi) (by omega) (nb_3 hx hi)⟩
  obtain ⟨a1, a2, a3⟩ := sp_div hfr
  obtain ⟨b1, b2, b3⟩ := sp_div hto
  generalize to / sp_c P = X at *
  generalize fr / sp_c P = Y at *
  generalize to % sp_c P = x at *
  generalize fr % sp_c P = y at *
  obtain ⟨mx, hmx, hmx6⟩ : ∃ m, (x = y + m ∨ y = x + m) ∧ m ≤ 6 := by
    by_cases c : y ≤ x
    · exact ⟨x - y, Or.inl (by omega), by omega⟩
    · exact ⟨y - x, Or.inr (by omega), by omega⟩
  obtain ⟨my, hmy, hmy6⟩ : ∃ m, (X = Y + m ∨ Y = X + m) ∧ m ≤ 6 := by
    by_cases c : Y ≤ X
    · exact ⟨X - Y, Or.inl (by omega), by omega⟩
    · exact ⟨Y - X, Or.inr (by omega), by omega⟩
  have q1 := lip (φ := fun i => D (X * sp_c P + i)) (hx X b2) mx x y b1 a1 hmx
  have q2 := lip (φ := fun i => D (i * sp_c P + y)) (hy y a1) my X Y b2 a2 hmy
  have q1 : D (X * sp_c P + x) ≤ D (X * sp_c P + y) + 100 * mx := q1
  have q2 : D (X * sp_c P + y) ≤ D (Y * sp_c P + y) + 100 * my := q2
  rw [b3] at q1
  rw [a3] at q2
  omega
theorem rf_way {μ : sh_Mem} (hk : sp_ok P) (hM : sm_mP μ P) (hm : sm_mL (sh_i μ 330) 0 P L) (hl : sl_in P L) {fr to : Nat} (hfr : fr < sp_c P * sp_r P) (hto : to < sp_c P * sp_r P) : ∃ μ', f_X12_wayCost (zI (ro P fr : Int)) (zI (ro P to : Int)) μ = some (zI (rds P (sl_h L) 49 (cz fr) to), μ') ∧ sh_fr n336 μ μ' := by
  have hcs := sp_cells hk
  obtain ⟨m, a1, a2, a3, -⟩ := rf_wfill (i2 := zI (ro P to : Int)) (ro_lt hk hfr) 49 sh_fuel 0 μ (by omega) (by rw [sh_fuel_eq]; omega)
  obtain ⟨μ', k1, k2⟩ := rf_rds (L := L) (h := sl_h L) (i1 := zI (ro P fr : Int)) hk hl.1 hto 49 (sh_fuel - 49 - 1) 0 (cz fr) (zI 0) m (cvg_49 hk hfr (cz_prd hfr) cz_le) (by rw [sh_fuel_eq]; omega) (by omega) (f336_mP a2 hM) (by rw [f336_330 a2]; exact hm) (fun j hj => by
    rw [a3 _ (by omega) (ro_lt hk hj)]
    by_cases c : j = fr
    · subst c; rw [if_pos rfl, mc_p (by unfold cz; rw [if_pos rfl]; omega)]; unfold cz; rw [if_pos rfl]; rfl
    · rw [if_neg (fun z => c (ro_inj hk hj hfr z)), mc_n (by unfold cz; rw [if_neg c])]) cz_bd
  refine ⟨μ', ?_, a2.trans k2⟩
  have hfin := rds_fin hk hl.1 hfr hto
  rw [mc_p (by omega)] at k1
  exact a1.trans k1
end Wu
/-- a cell by its number -/
theorem cl_cellOf {μ : sh_Mem} {t : Nat} {P : sp_T} {a : Int} (hP : sm_cP μ t P) (hk : sp_ok P) (h1 : -2147483648 ≤ a) (h2 : a < 2147483648) : f_X5_cellOf t (zI a) μ = some (zI (if 0 ≤ a then kx P (a % 8) (a / 8) else -1), μ) := by
  unfold f_X5_cellOf
  by_cases c : 0 ≤ a
  · rw [if_pos c]
    simp (disch := omega) only [↓reduceIte, ↓shl_ap, shb_ap, shv_ap, zI_lit, zL_lit, nI_z, lN_z, ofN_z, zI_add, zI_sub, zI_mul, zI_neg, zL_add, zL_sub, zL_mul, zL_neg, zI_l, zI_cl, zI_le_t, zI_le_f, zI_lt_t, zI_lt_f, zI_eq_t, zI_eq_f, zI_in_t, zz_isIn_t, zz_isIn_f, not_true_eq_false, not_false_eq_true, true_or, or_true, false_or, or_false, true_and, and_true, false_and, and_false, Nat.reduceLeDiff, Int.reduceAdd, Int.reduceSub, Int.reduceMul, Int.reduceNeg, Int.reduceToNat, Nat.reduceAdd, Nat.reduceMul, Nat.reduceSub, Int.toNat_natCast, zI_div, zI_mod, cl_cellAt hP hk, zN_le_t, zN_le_f]
  · rw [if_neg c]
    simp (disch := omega) only [↓reduceIte, ↓shl_ap, shb_ap, shv_ap, zI_lit, zL_lit, nI_z, lN_z, ofN_z, zI_add, zI_sub, zI_mul, zI_neg, zL_add, zL_sub, zL_mul, zL_neg, zI_l, zI_cl, zI_le_t, zI_le_f, zI_lt_t, zI_lt_f, zI_eq_t, zI_eq_f, zI_in_t, zz_isIn_t, zz_isIn_f, not_true_eq_false, not_false_eq_true, true_or, or_true, false_or, or_false, true_and, and_true, false_and, and_false, Nat.reduceLeDiff, Int.reduceAdd, Int.reduceSub, Int.reduceMul, Int.reduceNeg, Int.reduceToNat, Nat.reduceAdd, Nat.reduceMul, Nat.reduceSub, Int.toNat_natCast, zN_le_t, zN_le_f]
theorem rf_cellN {μ : sh_Mem} {P : sp_T} {a : Int} (hM : sm_mP μ P) (hk : sp_ok P) (h1 : -2147483648 ≤ a) (h2 : a < 2147483648) : f_X12_cellNumbered (zI a) μ = some (zI (if 0 ≤ a then km P (a % 8) (a / 8) else -1), μ) := by
  unfold f_X12_cellNumbered
  by_cases c : 0 ≤ a
  · rw [if_pos c]
    simp (disch := omega) only [↓reduceIte, ↓shl_ap, shb_ap, shv_ap, zI_lit, zL_lit, nI_z, lN_z, ofN_z, zI_add, zI_sub, zI_mul, zI_neg, zL_add, zL_sub, zL_mul, zL_neg, zI_l, zI_cl, zI_le_t, zI_le_f, zI_lt_t, zI_lt_f, zI_eq_t, zI_eq_f, zI_in_t, zz_isIn_t, zz_isIn_f, not_true_eq_false, not_false_eq_true, true_or, or_true, false_or, or_false, true_and, and_true, false_and, and_false, Nat.reduceLeDiff, Int.reduceAdd, Int.reduceSub, Int.reduceMul, Int.reduceNeg, Int.reduceToNat, Nat.reduceAdd, Nat.reduceMul, Nat.reduceSub, Int.toNat_natCast, zI_div, zI_mod, rf_cellAt hM hk, zN_le_t, zN_le_f]
  · rw [if_neg c]
    simp (disch := omega) only [↓reduceIte, ↓shl_ap, shb_ap, shv_ap, zI_lit, zL_lit, nI_z, lN_z, ofN_z, zI_add, zI_sub, zI_mul, zI_neg, zL_add, zL_sub, zL_mul, zL_neg, zI_l, zI_cl, zI_le_t, zI_le_f, zI_lt_t, zI_lt_f, zI_eq_t, zI_eq_f, zI_in_t, zz_isIn_t, zz_isIn_f, not_true_eq_false, not_false_eq_true, true_or, or_true, false_or, or_false, true_and, and_true, false_and, and_false, Nat.reduceLeDiff, Int.reduceAdd, Int.reduceSub, Int.reduceMul, Int.reduceNeg, Int.reduceToNat, Nat.reduceAdd, Nat.reduceMul, Nat.reduceSub, Int.toNat_natCast, zN_le_t, zN_le_f]
/-- a number tells no cell, or the same one to both -/
theorem cell_both {P : sp_T} (hk : sp_ok P) (a : Int) : ((if 0 ≤ a then kx P (a % 8) (a / 8) else -1) = -1 ∧ (if 0 ≤ a then km P (a % 8) (a / 8) else -1) = -1) ∨ ∃ k : Nat, k < sp_c P * sp_r P ∧ (if 0 ≤ a then kx P (a % 8) (a / 8) else -1) = (k : Int) ∧ (if 0 ≤ a then km P (a % 8) (a / 8) else -1) = (ro P k : Int) := by
  by_cases c : 0 ≤ a
  · rw [if_pos c, if_pos c]
    rcases kx_km (P := P) (a % 8) (a / 8) with q | ⟨x, y, -, -, hx, hy, e1, e2⟩
    · exact Or.inl q
    · refine Or.inr ⟨y * sp_c P + x, sp_cell hk hx hy, e1, ?_⟩
      rw [e2, ro_mk hx]
  · rw [if_neg c, if_neg c]
    exact Or.inl ⟨rfl, rfl⟩
theorem pr_15 : ∀ (μ : sh_Mem) (b1 b2 : Int32), Sim μ → ∃ (v : Int32) (μ1 μ2 : sh_Mem), f_X11_way b1 b2 μ = some (v, μ1) ∧ f_X12_way b1 b2 μ1 = some (v, μ2) ∧ Sim μ2 := by
  intro μ b1 b2 h
  obtain ⟨-, -, -, -, -, -, t, P, L, hR⟩ := id h
  obtain ⟨hr, hk, hl, hP, hM, hc, hm, -⟩ := id hR
  obtain ⟨a, h1, h2, rfl⟩ := zI_of b1
  obtain ⟨b, h3, h4, rfl⟩ := zI_of b2
  have hcs := sp_cells hk
  have ca := cl_cellOf (μ := μ) hP hk h1 h2
  have cb := cl_cellOf (μ := μ) hP hk h3 h4
  have ra := rf_cellN (μ := μ) hM hk h1 h2
  have rb := rf_cellN (μ := μ) hM hk h3 h4
  rcases cell_both hk a with ⟨x1, x2⟩ | ⟨fr, hfr, x1, x2⟩
  · rw [x1] at ca
    rw [x2] at ra
    refine ⟨zI (-1), μ, μ, ?_, ?_, h⟩
    · unfold f_X11_way
      rw [shr_ap hr.2.1]
      simp (disch := omega) only [↓reduceIte, ↓shl_ap, shb_ap, shv_ap, zI_lit, zL_lit, nI_z, lN_z, ofN_z, zI_add, zI_sub, zI_mul, zI_neg, zL_add, zL_sub, zL_mul, zL_neg, zI_l, zI_cl, zI_le_t, zI_le_f, zI_lt_t, zI_lt_f, zI_eq_t, zI_eq_f, zI_in_t, zz_isIn_t, zz_isIn_f, not_true_eq_false, not_false_eq_true, true_or, or_true, false_or, or_false, true_and, and_true, false_and, and_false, Nat.reduceLeDiff, Int.reduceAdd, Int.reduceSub, Int.reduceMul, Int.reduceNeg, Int.reduceToNat, Nat.reduceAdd, Nat.reduceMul, Nat.reduceSub, Int.toNat_natCast, hr.2.1, shr_ap hr.2.1, shp hr.1, ca, cb, zN_le_t, zN_le_f]
    · unfold f_X12_way
      simp (disch := omega) only [↓reduceIte, ↓shl_ap, shb_ap, shv_ap, zI_lit, zL_lit, nI_z, lN_z, ofN_z, zI_add, zI_sub, zI_mul, zI_neg, zL_add, zL_sub, zL_mul, zL_neg, zI_l, zI_cl, zI_le_t, zI_le_f, zI_lt_t, zI_lt_f, zI_eq_t, zI_eq_f, zI_in_t, zz_isIn_t, zz_isIn_f, not_true_eq_false, not_false_eq_true, true_or, or_true, false_or, or_false, true_and, and_true, false_and, and_false, Nat.reduceLeDiff, Int.reduceAdd, Int.reduceSub, Int.reduceMul, Int.reduceNeg, Int.reduceToNat, Nat.reduceAdd, Nat.reduceMul, Nat.reduceSub, Int.toNat_natCast, ra, rb, zN_le_t, zN_le_f]
  · rcases cell_both hk b with ⟨y1, y2⟩ | ⟨to, hto, y1, y2⟩
    · rw [x1] at ca
      rw [x2] at ra
      rw [y1] at cb
      rw [y2] at rb
      have := ro_lt hk hfr
      refine ⟨zI (-1), μ, μ, ?_, ?_, h⟩
      · unfold f_X11_way
        rw [shr_ap hr.2.1]
        simp (disch := omega) only [↓reduceIte, ↓shl_ap, shb_ap, shv_ap, zI_lit, zL_lit, nI_z, lN_z, ofN_z, zI_add, zI_sub, zI_mul, zI_neg, zL_add, zL_sub, zL_mul, zL_neg, zI_l, zI_cl, zI_le_t, zI_le_f, zI_lt_t, zI_lt_f, zI_eq_t, zI_eq_f, zI_in_t, zz_isIn_t, zz_isIn_f, not_true_eq_false, not_false_eq_true, true_or, or_true, false_or, or_false, true_and, and_true, false_and, and_false, Nat.reduceLeDiff, Int.reduceAdd, Int.reduceSub, Int.reduceMul, Int.reduceNeg, Int.reduceToNat, Nat.reduceAdd, Nat.reduceMul, Nat.reduceSub, Int.toNat_natCast, hr.2.1, shr_ap hr.2.1, shp hr.1, ca, cb, zN_le_t, zN_le_f]
      · unfold f_X12_way
        simp (disch := omega) only [↓reduceIte, ↓shl_ap, shb_ap, shv_ap, zI_lit, zL_lit, nI_z, lN_z, ofN_z, zI_add, zI_sub, zI_mul, zI_neg, zL_add, zL_sub, zL_mul, zL_neg, zI_l, zI_cl, zI_le_t, zI_le_f, zI_lt_t, zI_lt_f, zI_eq_t, zI_eq_f, zI_in_t, zz_isIn_t, zz_isIn_f, not_true_eq_false, not_false_eq_true, true_or, or_true, false_or, or_false, true_and, and_true, false_and, and_false, Nat.reduceLeDiff, Int.reduceAdd, Int.reduceSub, Int.reduceMul, Int.reduceNeg, Int.reduceToNat, Nat.reduceAdd, Nat.reduceMul, Nat.reduceSub, Int.toNat_natCast, ra, rb, zN_le_t, zN_le_f]
    · rw [x1] at ca
      rw [y1] at cb
      obtain ⟨μ1, a1, a2⟩ := cl_cost (μ := μ) hk (Or.inl rfl) hr.1 hP hc hl.2 hfr hto
      have e1 : f_X11_way (zI a) (zI b) μ = some (zI (rds P (sl_h L) 49 (cz fr) to), μ1) := by
        unfold f_X11_way
        rw [shr_ap hr.2.1]
        simp (disch := omega) only [↓reduceIte, ↓shl_ap, shb_ap, shv_ap, zI_lit, zL_lit, nI_z, lN_z, ofN_z, zI_add, zI_sub, zI_mul, zI_neg, zL_add, zL_sub, zL_mul, zL_neg, zI_l, zI_cl, zI_le_t, zI_le_f, zI_lt_t, zI_lt_f, zI_eq_t, zI_eq_f, zI_in_t, zz_isIn_t, zz_isIn_f, not_true_eq_false, not_false_eq_true, true_or, or_true, false_or, or_false, true_and, and_true, false_and, and_false, Nat.reduceLeDiff, Int.reduceAdd, Int.reduceSub, Int.reduceMul, Int.reduceNeg, Int.reduceToNat, Nat.reduceAdd, Nat.reduceMul, Nat.reduceSub, Int.toNat_natCast, hr.2.1, shr_ap hr.2.1, shp hr.1, ca, cb, a1, zN_le_t, zN_le_f]
      have hof : sh_offM μ μ1 := fp_X11_way h.1 e1
      have hM1 := hM.off hof
      have ra := rf_cellN (μ := μ1) hM1 hk h1 h2
      have rb := rf_cellN (μ := μ1) hM1 hk h3 h4
      rw [x2] at ra
      rw [y2] at rb
      obtain ⟨μ2, c1, c2⟩ := rf_way (μ := μ1) (L := L) hk hM1 (by rw [(hof 330 (by omega)).1]; exact hm) hl.2 hfr hto
      have hra := ro_lt hk hfr
      have hrb := ro_lt hk hto
      have e2 : f_X12_way (zI a) (zI b) μ1 = some (zI (rds P (sl_h L) 49 (cz fr) to), μ2) := by
        unfold f_X12_way
        simp (disch := omega) only [↓reduceIte, ↓shl_ap, shb_ap, shv_ap, zI_lit, zL_lit, nI_z, lN_z, ofN_z, zI_add, zI_sub, zI_mul, zI_neg, zL_add, zL_sub, zL_mul, zL_neg, zI_l, zI_cl, zI_le_t, zI_le_f, zI_lt_t, zI_lt_f, zI_eq_t, zI_eq_f, zI_in_t, zz_isIn_t, zz_isIn_f, not_true_eq_false, not_false_eq_true, true_or, or_true, false_or, or_false, true_and, and_true, false_and, and_false, Nat.reduceLeDiff, Int.reduceAdd, Int.reduceSub, Int.reduceMul, Int.reduceNeg, Int.reduceToNat, Nat.reduceAdd, Nat.reduceMul, Nat.reduceSub, Int.toNat_natCast, ra, rb, c1, zN_le_t, zN_le_f]
      refine ⟨_, μ1, μ2, e1, e2, h.fr (gp_X12_way (gp_X11_way h.1 e1) e2) ((a2.mono (fun r k q => ?_)).trans (c2.mono (fun r k q => ?_)))⟩
      · unfold sm_A sm_S; omega
      · unfold n336 at q; unfold sm_A sm_S; omega
