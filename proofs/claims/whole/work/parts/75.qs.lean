/-! would, later, tired, rises -/
def nD (t a k : Nat) : Prop := (209 ≤ a ∧ a ≤ 214) ∨ (a = 55 ∧ 1 ≤ k) ∨ a = 56 ∨ a = t + 7 ∨ a = t + 10 ∨ a = t + 13
theorem nD_qA {t r k : Nat} (ht : sh_isP t) (h : nD t r k) : qA r k := by
  have ht := sh_isP_r ht
  unfold nD at h
  refine ⟨by omega, ?_⟩
  unfold sm_A sm_S
  omega
theorem nD_cw {μ μ' : sh_Mem} {t : Nat} {P : sp_T} (hf : sh_fr (nD t) μ μ') (hw : cw μ t P) : cw μ' t P := by
  have ht := sh_isP_r hw.2.1
  exact hw.cg hf.1 (fun j h1 h2 h3 => hf.row _ (fun k z => by unfold nD at z; omega))
theorem cl_behind1 {t s n r1 : Nat} {P : sp_T} (hs : s < 128) (hn : n ≤ 1000) : ∀ (g f i : Nat) (L : sl_T) (μ : sh_Mem), i + g = n → g < f → cw μ t P → sm_cL μ 209 P L → sl_in P L → sl_d L + g ≤ 99999 → ∃ μ', F_X0_behind f 1 r1 (zI n) (zI s) (zI i) μ = some μ' ∧ sm_cL μ' 209 P (dN P s g L) ∧ sh_fr (nD t) μ μ' := by
  intro g
  induction g with
  | zero =>
    intro f i L μ hi hf hw hc hl hd
    obtain ⟨f, rfl⟩ : ∃ q, f = q + 1 := ⟨f - 1, by omega⟩
    refine ⟨μ, ?_, hc, sh_fr.rf⟩
    rw [F_X0_behind]
    simp (disch := omega) only [↓reduceIte, ↓shl_ap, shb_ap, shv_ap, zI_lit, zL_lit, nI_z, lN_z, ofN_z, zI_add, zI_sub, zI_mul, zI_neg, zL_add, zL_sub, zL_mul, zL_neg, zI_l, zI_cl, zI_le_t, zI_le_f, zI_lt_t, zI_lt_f, zI_eq_t, zI_eq_f, zI_in_t, zz_isIn_t, zz_isIn_f, not_true_eq_false, not_false_eq_true, true_or, or_true, false_or, or_false, true_and, and_true, false_and, and_false, Nat.reduceLeDiff, Int.reduceAdd, Int.reduceSub, Int.reduceMul, Int.reduceNeg, Int.reduceToNat, Nat.reduceAdd, Nat.reduceMul, Nat.reduceSub, Int.toNat_natCast, zN_le_t, zN_le_f]
  | succ g ih =>
    intro f i L μ hi hf hw hc hl hd
    obtain ⟨f, rfl⟩ : ∃ q, f = q + 1 := ⟨f - 1, by omega⟩
    obtain ⟨m, a1, a2, a3, -⟩ := cl_day (s := s) hw hc hl (by omega) hs (by unfold ldr; omega)
    have f1 : sh_fr (nD t) μ m := a3.mono (fun a k z => by unfold nA at z; unfold nD; omega)
    obtain ⟨μ', b1, b2, b3⟩ := ih f (i + 1) (dP P s L) m (by omega) (by omega) (nD_cw f1 hw) a2 (dP_in hl) (by rw [dP_d]; omega)
    refine ⟨μ', ?_, b2, f1.trans b3⟩
    rw [← b1, F_X0_behind]
    simp (disch := omega) only [↓reduceIte, ↓shl_ap, shb_ap, shv_ap, zI_lit, zL_lit, nI_z, lN_z, ofN_z, zI_add, zI_sub, zI_mul, zI_neg, zL_add, zL_sub, zL_mul, zL_neg, zI_l, zI_cl, zI_le_t, zI_le_f, zI_lt_t, zI_lt_f, zI_eq_t, zI_eq_f, zI_in_t, zz_isIn_t, zz_isIn_f, not_true_eq_false, not_false_eq_true, true_or, or_true, false_or, or_false, true_and, and_true, false_and, and_false, Nat.reduceLeDiff, Int.reduceAdd, Int.reduceSub, Int.reduceMul, Int.reduceNeg, Int.reduceToNat, Nat.reduceAdd, Nat.reduceMul, Nat.reduceSub, Int.toNat_natCast, a1, zN_le_t, zN_le_f]
    rfl
theorem cl_behind {μ : sh_Mem} {t s n : Nat} {P : sp_T} {L : sl_T} (hs : s < 128) (hn : n ≤ 1000) (hw : cw μ t P) (hc : sm_cL μ 49 P L) (hl : sl_in P L) (hd : sl_d L ≤ 999) : ∃ μ', f_X0_behind 49 (zI n) (zI s) μ = some μ' ∧ sm_cL μ' 209 P (dN P s n L) ∧ sh_fr (nD t) μ μ' := by
  obtain ⟨m, k1, k2, k3, k4, k5⟩ := cl_copy (μ := μ) (r := 209) (q := 49) (by omega)
  have f1 : sh_fr (nD t) μ m := k2.mono (fun a k z => by unfold nD; omega)
  have hc1 : sm_cL m 209 P L := hc.of hw.2.2.2 k3 k4 k5
  obtain ⟨μ', b1, b2, b3⟩ := cl_behind1 (r1 := 49) hs hn n sh_fuel 0 L m (by omega) (by rw [sh_fuel_eq]; omega) (nD_cw f1 hw) hc1 hl (by omega)
  refine ⟨μ', ?_, b2, f1.trans b3⟩
  unfold f_X0_behind
  rw [k1, shv_ap]
  exact b1
theorem rN3_qB {r k : Nat} (h : rN3 r k) : qB r k := by
  unfold rN3 at h
  unfold qB sm_A sm_S
  omega
theorem pr_9 : ∀ (μ : sh_Mem) (b1 b2 : Int32), Sim μ → ∃ (v : Int32) (μ1 μ2 : sh_Mem), f_X11_would b1 b2 μ = some (v, μ1) ∧ f_X12_would b1 b2 μ1 = some (v, μ2) ∧ Sim μ2 := by
  intro μ b1 b2 h
  obtain ⟨-, -, -, -, -, -, t, P, L, hR⟩ := id h
  obtain ⟨hr, hk, hl, hP, hM, hc, hm, hkp, hu, hs, z1, z2, -⟩ := id hR
  obtain ⟨a, h1, h2, rfl⟩ := zI_of b1
  obtain ⟨b, h3, h4, rfl⟩ := zI_of b2
  have hb := sp_bd hk
  have ht := sh_isP_r hr.1
  by_cases c : 0 ≤ a ∧ a < sp_np P
  · by_cases ct : 0 ≤ b ∧ b < sp_nt P
    · obtain ⟨p, rfl⟩ := Int.eq_ofNat_of_zero_le c.1
      obtain ⟨q, rfl⟩ := Int.eq_ofNat_of_zero_le ct.1
      have hp : p < sp_np P := by omega
      have hq : q < sp_nt P := by omega
      obtain ⟨μ1, d1, d2, -⟩ := cl_deed (r := 49) (t := t) ⟨hr.2.2.1, hr.1, hP, hk⟩ hc hl.2 (by have := hl.1; omega) hp hq (by unfold ldr; omega)
      have c1 : f_X11_would (zI p) (zI q) μ = some (zI (wd P L p q), μ1) := by
        unfold f_X11_would
        rw [cl_isPerson hr.2.1 hr.1 hP hk h1 h2, if_pos c, shb_ap, if_neg (by decide), cl_isTopic hr.2.1 hr.1 hP hk h3 h4, if_pos ct, shb_ap, if_neg (by decide), d1]
        rfl
      have hof : sh_offM μ μ1 := fp_X11_would h.1 c1
      have nh : ∀ r, 291 ≤ r → sh_i μ1 r = sh_i μ r := fun r z => (hof r z).1
      obtain ⟨μ2, w1, w2, -⟩ := rf_would (μ := μ1) (L := L) (hM.off hof) (by rw [nh _ (by omega)]; exact hm) hk hl.2 (by have := hl.1; omega) hp hq
      have c2 : f_X12_would (zI p) (zI q) μ1 = some (zI (wd P L p q), μ2) := by
        unfold f_X12_would
        rw [rf_isPerson (hM.off hof) hk h1 h2, if_pos c, shb_ap, if_neg (by decide), zI_l h3 h4, rf_isTopic (hM.off hof) hk (by omega) (by omega), if_pos ct, shb_ap, if_neg (by decide), w1]
        rfl
      refine ⟨_, _, _, c1, c2, ?_⟩
      refine h.q (gp_X12_would (gp_X11_would h.1 c1) c2) (d2.mono (fun r k z => nD_qA hr.1 (by unfold nD; omega))) (w2.mono (fun r k z => rN3_qB z)) (w2.row _ (fun k z => by unfold rN3 at z; omega)) ?_ ?_
      · rw [w2.i _ _ (fun z => by unfold rN3 at z; omega), nh _ (by omega), z1]
      · rw [w2.i _ _ (fun z => by unfold rN3 at z; omega), nh _ (by omega), z2]
    · refine ⟨zI (-1), μ, μ, ?_, ?_, h⟩
      · unfold f_X11_would
        rw [cl_isPerson hr.2.1 hr.1 hP hk h1 h2, if_pos c, shb_ap, if_neg (by decide), cl_isTopic hr.2.1 hr.1 hP hk h3 h4, if_neg ct]
        rfl
      · unfold f_X12_would
        rw [rf_isPerson hM hk h1 h2, if_pos c, shb_ap, if_neg (by decide), zI_l h3 h4, rf_isTopic hM hk (by omega) (by omega), if_neg ct]
        rfl
  · refine ⟨zI (-1), μ, μ, ?_, ?_, h⟩
    · unfold f_X11_would
      rw [cl_isPerson hr.2.1 hr.1 hP hk h1 h2, if_neg c]
      rfl
    · unfold f_X12_would
      rw [rf_isPerson hM hk h1 h2, if_neg c]
      rfl
/-- both sides some days ahead, thought -/
theorem thk_q {μ μ1 m m2 : sh_Mem} {t : Nat} (h : Sim μ) (ht : sh_isP t) (hG : sh_G m2) (fA : sh_fr (nD t) μ μ1) (hT : thk μ1 m) (hb : f_X12_takesBack m = some m2) : Sim m2 := by
  obtain ⟨m3, q1, q2, q3, q4, q5, -⟩ := rf_back hT
  obtain rfl : m3 = m2 := Option.some.inj (q1.symm.trans hb)
  exact h.q hG (fA.mono (fun r k z => nD_qA ht z)) (q5.mono (fun r k z => rN6_qB z)) q2 q3 q4
theorem pr_11 : ∀ (μ : sh_Mem) (b1 b2 b3 : Int32), Sim μ → ∃ (v : Int32) (μ1 μ2 : sh_Mem), f_X11_later b1 b2 b3 μ = some (v, μ1) ∧ f_X12_later b1 b2 b3 μ1 = some (v, μ2) ∧ Sim μ2 := by
  intro μ b1 b2 b3 h
  obtain ⟨-, -, -, -, -, -, t, P, L, hR⟩ := id h
  obtain ⟨hr, hk, hl, hP, hM, hc, hm, hkp, hu, hs, z1, z2, -⟩ := id hR
  obtain ⟨a, h1, h2, rfl⟩ := zI_of b1
  obtain ⟨b, h3, h4, rfl⟩ := zI_of b2
  obtain ⟨d, h5, h6, rfl⟩ := zI_of b3
  have hb := sp_bd hk
  have hcs := sp_cells hk
  have hd := hl.1
  rcases kx_km (P := P) a b with ⟨e1, e2⟩ | ⟨x, y, rfl, rfl, hx, hy, e1, e2⟩
  · refine ⟨zI (-1), μ, μ, ?_, ?_, h⟩
    · unfold f_X11_later
      rw [shr_ap hr.2.1]
      simp (disch := omega) only [↓reduceIte, ↓shl_ap, shb_ap, shv_ap, zI_lit, zL_lit, nI_z, lN_z, ofN_z, zI_add, zI_sub, zI_mul, zI_neg, zL_add, zL_sub, zL_mul, zL_neg, zI_l, zI_cl, zI_le_t, zI_le_f, zI_lt_t, zI_lt_f, zI_eq_t, zI_eq_f, zI_in_t, zz_isIn_t, zz_isIn_f, not_true_eq_false, not_false_eq_true, true_or, or_true, false_or, or_false, true_and, and_true, false_and, and_false, Nat.reduceLeDiff, Int.reduceAdd, Int.reduceSub, Int.reduceMul, Int.reduceNeg, Int.reduceToNat, Nat.reduceAdd, Nat.reduceMul, Nat.reduceSub, Int.toNat_natCast, hr.2.1, shr_ap hr.2.1, shp hr.1, cl_cellAt hP hk h1 h2 h3 h4, e1, zN_le_t, zN_le_f]
    · unfold f_X12_later
      rw [rf_cellAt hM hk h1 h2 h3 h4, e2]
      rfl
  · have hcell := sp_cell hk hx hy
    rcases cl_isAhead (lo := 0) (hi := 60) hr.2.1 hr.1 hP hk hc hd h5 h6 (by omega) with ⟨q1, q2⟩ | ⟨q1, q2⟩
    · obtain ⟨n, rfl⟩ := Int.eq_ofNat_of_zero_le (show 0 ≤ d by have := q1.2.1; omega)
      obtain ⟨-, n1, n2, n3⟩ := id q1
      obtain ⟨K, K1, K2⟩ := hkp.K
      obtain ⟨μ1, a1, a2, a3⟩ := cl_behind (μ := μ) (t := t) (s := 0) (n := n) (by omega) (by omega) ⟨hr.2.2.1, hr.1, hP, hk⟩ hc hl.2 hd
      have a1' : f_X0_behind 49 (zI n) (zI 0) μ = some μ1 := a1
      have c1 : f_X11_later (zI x) (zI y) (zI n) μ = some (zI (sl_h (dN P 0 n L) (y * sp_c P + x)), μ1) := by
        unfold f_X11_later
        rw [shr_ap hr.2.1]
        simp (disch := omega) only [↓reduceIte, ↓shl_ap, shb_ap, shv_ap, zI_lit, zL_lit, nI_z, lN_z, ofN_z, zI_add, zI_sub, zI_mul, zI_neg, zL_add, zL_sub, zL_mul, zL_neg, zI_l, zI_cl, zI_le_t, zI_le_f, zI_lt_t, zI_lt_f, zI_eq_t, zI_eq_f, zI_in_t, zz_isIn_t, zz_isIn_f, not_true_eq_false, not_false_eq_true, true_or, or_true, false_or, or_false, true_and, and_true, false_and, and_false, Nat.reduceLeDiff, Int.reduceAdd, Int.reduceSub, Int.reduceMul, Int.reduceNeg, Int.reduceToNat, Nat.reduceAdd, Nat.reduceMul, Nat.reduceSub, Int.toNat_natCast, hr.2.1, shr_ap hr.2.1, shp hr.1, cl_cellAt hP hk h1 h2 h3 h4, e1, q2, a1', a2.2.1 _ hcell, zN_le_t, zN_le_f]
      have hof : sh_offM μ μ1 := fp_X11_later h.1 c1
      have nh : ∀ r, 291 ≤ r → sh_i μ1 r = sh_i μ r := fun r z => (hof r z).1
      have hM1 := hM.off hof
      have hm1 : sm_mL (sh_i μ1 330) 0 P L := by rw [nh _ (by omega)]; exact hm
      obtain ⟨m1, p1, p2, p3, p4, p5⟩ := rf_aside (μ := μ1)
      have hMm : sm_mP m1 P := hM1.f3 (fun r k z => p5.i _ _ (by omega)) (p5.lrow _ (fun k => by omega))
      obtain ⟨m2, w1, w2, w3, w4, w5, w6, w7⟩ := rf_daysT (K := K) (μ0 := μ1) (s := 0) (n := n) hk (by omega) (by omega) n sh_fuel 0 L m1 (by omega) (by rw [sh_fuel_eq]; omega) p2 hMm (by rw [p3]; exact hm1) hl.2 (by omega) (by rw [p4, nh _ (by omega), z2]; rfl) (K2.cg (p3.trans (nh _ (by omega))))
      obtain ⟨μ2, v1, v2, v3, v4, v5, -⟩ := rf_back w3
      rcases rf_isAhead (lo := 0) (hi := 60) hM1 hk hm1 hd h5 h6 (by omega) with ⟨r1, r2⟩ | ⟨r1, r2⟩
      · have c2 : f_X12_later (zI x) (zI y) (zI n) μ1 = some (zI (sl_h (dN P 0 n L) (y * sp_c P + x)), μ2) := by
          have w1' : f_X12_daysGo (zI n) m1 = some m2 := w1
          have hH := rf_heightOf w2 hk hx hy
          unfold f_X12_later
          rw [rf_cellAt hM1 hk h1 h2 h3 h4, e2]
          simp (disch := omega) only [↓reduceIte, ↓shl_ap, shb_ap, shv_ap, zI_lit, zL_lit, nI_z, lN_z, ofN_z, zI_add, zI_sub, zI_mul, zI_neg, zL_add, zL_sub, zL_mul, zL_neg, zI_l, zI_cl, zI_le_t, zI_le_f, zI_lt_t, zI_lt_f, zI_eq_t, zI_eq_f, zI_in_t, zz_isIn_t, zz_isIn_f, not_true_eq_false, not_false_eq_true, true_or, or_true, false_or, or_false, true_and, and_true, false_and, and_false, Nat.reduceLeDiff, Int.reduceAdd, Int.reduceSub, Int.reduceMul, Int.reduceNeg, Int.reduceToNat, Nat.reduceAdd, Nat.reduceMul, Nat.reduceSub, Int.toNat_natCast, r2, p1, w1', hH, v1, zN_le_t, zN_le_f]
        exact ⟨_, _, _, c1, c2, thk_q h hr.1 (gp_X12_later (gp_X11_later h.1 c1) c2) a3 w3 v1⟩
      · exact absurd q1 r1
    · refine ⟨zI (-1), μ, μ, ?_, ?_, h⟩
      · unfold f_X11_later
        rw [shr_ap hr.2.1]
        simp (disch := omega) only [↓reduceIte, ↓shl_ap, shb_ap, shv_ap, zI_lit, zL_lit, nI_z, lN_z, ofN_z, zI_add, zI_sub, zI_mul, zI_neg, zL_add, zL_sub, zL_mul, zL_neg, zI_l, zI_cl, zI_le_t, zI_le_f, zI_lt_t, zI_lt_f, zI_eq_t, zI_eq_f, zI_in_t, zz_isIn_t, zz_isIn_f, not_true_eq_false, not_false_eq_true, true_or, or_true, false_or, or_false, true_and, and_true, false_and, and_false, Nat.reduceLeDiff, Int.reduceAdd, Int.reduceSub, Int.reduceMul, Int.reduceNeg, Int.reduceToNat, Nat.reduceAdd, Nat.reduceMul, Nat.reduceSub, Int.toNat_natCast, hr.2.1, shr_ap hr.2.1, shp hr.1, cl_cellAt hP hk h1 h2 h3 h4, e1, q2, zN_le_t, zN_le_f]
      · rcases rf_isAhead (lo := 0) (hi := 60) hM hk hm hd h5 h6 (by omega) with ⟨r1, r2⟩ | ⟨r1, r2⟩
        · exact absurd r1 q1
        · unfold f_X12_later
          rw [rf_cellAt hM hk h1 h2 h3 h4, e2]
          simp (disch := omega) only [↓reduceIte, ↓shl_ap, shb_ap, shv_ap, zI_lit, zL_lit, nI_z, lN_z, ofN_z, zI_add, zI_sub, zI_mul, zI_neg, zL_add, zL_sub, zL_mul, zL_neg, zI_l, zI_cl, zI_le_t, zI_le_f, zI_lt_t, zI_lt_f, zI_eq_t, zI_eq_f, zI_in_t, zz_isIn_t, zz_isIn_f, not_true_eq_false, not_false_eq_true, true_or, or_true, false_or, or_false, true_and, and_true, false_and, and_false, Nat.reduceLeDiff, Int.reduceAdd, Int.reduceSub, Int.reduceMul, Int.reduceNeg, Int.reduceToNat, Nat.reduceAdd, Nat.reduceMul, Nat.reduceSub, Int.toNat_natCast, r2, zN_le_t, zN_le_f]
theorem pr_12 : ∀ (μ : sh_Mem) (b1 b2 : Int32), Sim μ → ∃ (v : Int32) (μ1 μ2 : sh_Mem), f_X11_tired b1 b2 μ = some (v, μ1) ∧ f_X12_tired b1 b2 μ1 = some (v, μ2) ∧ Sim μ2 := by
  intro μ b1 b2 h
  obtain ⟨-, -, -, -, -, -, t, P, L, hR⟩ := id h
  obtain ⟨hr, hk, hl, hP, hM, hc, hm, hkp, hu, hs, z1, z2, -⟩ := id hR
  obtain ⟨a, h1, h2, rfl⟩ := zI_of b1
  obtain ⟨d, h5, h6, rfl⟩ := zI_of b2
  have hb := sp_bd hk
  have hd := hl.1
  by_cases c : 0 ≤ a ∧ a < sp_np P
  · obtain ⟨p, rfl⟩ := Int.eq_ofNat_of_zero_le c.1
    have hp : p < sp_np P := by omega
    rcases cl_isAhead (lo := 0) (hi := 60) hr.2.1 hr.1 hP hk hc hd h5 h6 (by omega) with ⟨q1, q2⟩ | ⟨q1, q2⟩
    · obtain ⟨n, rfl⟩ := Int.eq_ofNat_of_zero_le (show 0 ≤ d by have := q1.2.1; omega)
      obtain ⟨-, n1, n2, n3⟩ := id q1
      obtain ⟨K, K1, K2⟩ := hkp.K
      obtain ⟨μ1, a1, a2, a3⟩ := cl_behind (μ := μ) (t := t) (s := 0) (n := n) (by omega) (by omega) ⟨hr.2.2.1, hr.1, hP, hk⟩ hc hl.2 hd
      have a1' : f_X0_behind 49 (zI n) (zI 0) μ = some μ1 := a1
      have c1 : f_X11_tired (zI p) (zI n) μ = some (zI (sl_t (dN P 0 n L) p), μ1) := by
        unfold f_X11_tired
        rw [cl_isPerson hr.2.1 hr.1 hP hk h1 h2, if_pos c]
        simp (disch := omega) only [↓reduceIte, ↓shl_ap, shb_ap, shv_ap, zI_lit, zL_lit, nI_z, lN_z, ofN_z, zI_add, zI_sub, zI_mul, zI_neg, zL_add, zL_sub, zL_mul, zL_neg, zI_l, zI_cl, zI_le_t, zI_le_f, zI_lt_t, zI_lt_f, zI_eq_t, zI_eq_f, zI_in_t, zz_isIn_t, zz_isIn_f, not_true_eq_false, not_false_eq_true, true_or, or_true, false_or, or_false, true_and, and_true, false_and, and_false, Nat.reduceLeDiff, Int.reduceAdd, Int.reduceSub, Int.reduceMul, Int.reduceNeg, Int.reduceToNat, Nat.reduceAdd, Nat.reduceMul, Nat.reduceSub, Int.toNat_natCast, q2, a1', (a2.2.2 p hp).2.2.1, zN_le_t, zN_le_f]
      have hof : sh_offM μ μ1 := fp_X11_tired h.1 c1
      have nh : ∀ r, 291 ≤ r → sh_i μ1 r = sh_i μ r := fun r z => (hof r z).1
      have hM1 := hM.off hof
      have hm1 : sm_mL (sh_i μ1 330) 0 P L := by rw [nh _ (by omega)]; exact hm
      obtain ⟨m1, p1, p2, p3, p4, p5⟩ := rf_aside (μ := μ1)
      have hMm : sm_mP m1 P := hM1.f3 (fun r k z => p5.i _ _ (by omega)) (p5.lrow _ (fun k => by omega))
      obtain ⟨m2, w1, w2, w3, w4, w5, w6, w7⟩ := rf_daysT (K := K) (μ0 := μ1) (s := 0) (n := n) hk (by omega) (by omega) n sh_fuel 0 L m1 (by omega) (by rw [sh_fuel_eq]; omega) p2 hMm (by rw [p3]; exact hm1) hl.2 (by omega) (by rw [p4, nh _ (by omega), z2]; rfl) (K2.cg (p3.trans (nh _ (by omega))))
      obtain ⟨μ2, v1, v2, v3, v4, v5, -⟩ := rf_back w3
      rcases rf_isAhead (lo := 0) (hi := 60) hM1 hk hm1 hd h5 h6 (by omega) with ⟨r1, r2⟩ | ⟨r1, r2⟩
      · have c2 : f_X12_tired (zI p) (zI n) μ1 = some (zI (sl_t (dN P 0 n L) p), μ2) := by
          have w1' : f_X12_daysGo (zI n) m1 = some m2 := w1
          have hH := rf_tiredOf w2 hk hp
          unfold f_X12_tired
          rw [rf_isPerson hM1 hk h1 h2, if_pos c]
          simp (disch := omega) only [↓reduceIte, ↓shl_ap, shb_ap, shv_ap, zI_lit, zL_lit, nI_z, lN_z, ofN_z, zI_add, zI_sub, zI_mul, zI_neg, zL_add, zL_sub, zL_mul, zL_neg, zI_l, zI_cl, zI_le_t, zI_le_f, zI_lt_t, zI_lt_f, zI_eq_t, zI_eq_f, zI_in_t, zz_isIn_t, zz_isIn_f, not_true_eq_false, not_false_eq_true, true_or, or_true, false_or, or_false, true_and, and_true, false_and, and_false, Nat.reduceLeDiff, Int.reduceAdd, Int.reduceSub, Int.reduceMul, Int.reduceNeg, Int.reduceToNat, Nat.reduceAdd, Nat.reduceMul, Nat.reduceSub, Int.toNat_natCast, r2, p1, w1', hH, v1, zN_le_t, zN_le_f]
        exact ⟨_, _, _, c1, c2, thk_q h hr.1 (gp_X12_tired (gp_X11_tired h.1 c1) c2) a3 w3 v1⟩
      · exact absurd q1 r1
    · refine ⟨zI (-1), μ, μ, ?_, ?_, h⟩
      · unfold f_X11_tired
        rw [cl_isPerson hr.2.1 hr.1 hP hk h1 h2, if_pos c]
        simp (disch := omega) only [↓reduceIte, ↓shl_ap, shb_ap, shv_ap, zI_lit, zL_lit, nI_z, lN_z, ofN_z, zI_add, zI_sub, zI_mul, zI_neg, zL_add, zL_sub, zL_mul, zL_neg, zI_l, zI_cl, zI_le_t, zI_le_f, zI_lt_t, zI_lt_f, zI_eq_t, zI_eq_f, zI_in_t, zz_isIn_t, zz_isIn_f, not_true_eq_false, not_false_eq_true, true_or, or_true, false_or, or_false, true_and, and_true, false_and, and_false, Nat.reduceLeDiff, Int.reduceAdd, Int.reduceSub, Int.reduceMul, Int.reduceNeg, Int.reduceToNat, Nat.reduceAdd, Nat.reduceMul, Nat.reduceSub, Int.toNat_natCast, q2, zN_le_t, zN_le_f]
      · rcases rf_isAhead (lo := 0) (hi := 60) hM hk hm hd h5 h6 (by omega) with ⟨r1, r2⟩ | ⟨r1, r2⟩
        · exact absurd r1 q1
        · unfold f_X12_tired
          rw [rf_isPerson hM hk h1 h2, if_pos c]
          simp (disch := omega) only [↓reduceIte, ↓shl_ap, shb_ap, shv_ap, zI_lit, zL_lit, nI_z, lN_z, ofN_z, zI_add, zI_sub, zI_mul, zI_neg, zL_add, zL_sub, zL_mul, zL_neg, zI_l, zI_cl, zI_le_t, zI_le_f, zI_lt_t, zI_lt_f, zI_eq_t, zI_eq_f, zI_in_t, zz_isIn_t, zz_isIn_f, not_true_eq_false, not_false_eq_true, true_or, or_true, false_or, or_false, true_and, and_true, false_and, and_false, Nat.reduceLeDiff, Int.reduceAdd, Int.reduceSub, Int.reduceMul, Int.reduceNeg, Int.reduceToNat, Nat.reduceAdd, Nat.reduceMul, Nat.reduceSub, Int.toNat_natCast, r2, zN_le_t, zN_le_f]
  · refine ⟨zI (-1), μ, μ, ?_, ?_, h⟩
    · unfold f_X11_tired
      rw [cl_isPerson hr.2.1 hr.1 hP hk h1 h2, if_neg c]
      rfl
    · unfold f_X12_tired
      rw [rf_isPerson hM hk h1 h2, if_neg c]
      rfl
def riS (P : sp_T) (c : Nat) (b : Int) : Nat → Nat → sl_T → Int
  | 0, n, L => if b ≤ sl_h L c then n else -1
  | g + 1, n, L => if b ≤ sl_h L c then n else if 999 ≤ sl_d L then -1 else riS P c b g (n + 1) (dP P 0 L)
theorem riS_rg {P : sp_T} {c : Nat} {b : Int} : ∀ (g n : Nat) (L : sl_T), n + g ≤ 60 → -1 ≤ riS P c b g n L ∧ riS P c b g n L ≤ 60
  | 0, n, L, h => by
    rw [riS]
    split <;> omega
  | g + 1, n, L, h => by
    rw [riS]
    split
    · omega
    · split
      · omega
      · exact riS_rg g (n + 1) _ (by omega)
theorem cl_rise {t c r1 : Nat} {P : sp_T} {b : Int} (hk : sp_ok P) (hc : c < sp_c P * sp_r P) (h1 : -2147483648 ≤ b) (h2 : b < 2147483648) : ∀ (g f n : Nat) (L : sl_T) (μ : sh_Mem), n + g = 60 → g + 1 < f → cw μ t P → sm_cL μ 209 P L → sl_in P L → sl_d L ≤ 999 → ∃ μ', F_X0_daysToRise f 1 r1 (zI c) (zI b) (zI n) μ = some (zI (riS P c b g n L), μ') ∧ sh_fr (nD t) μ μ' := by
  have hcs := sp_cells hk
  intro g
  induction g with
  | zero =>
    intro f n L μ hn hf hw hcl hl hd
    obtain ⟨f, rfl⟩ : ∃ q, f = q + 1 + 1 := ⟨f - 2, by omega⟩
    have e1 := hcl.2.1 c hc
    have e0 := hcl.1
    have l1 := hl.1 c hc
    rw [nI_z] at e0 e1
    have e1 : sh_i μ 210 c = zI (sl_h L c) := e1
    rw [riS, F_X0_daysToRise]
    by_cases c1 : b ≤ sl_h L c
    · rw [if_pos c1]
      refine ⟨μ, ?_, sh_fr.rf⟩
      simp (disch := omega) only [↓reduceIte, ↓shl_ap, shb_ap, shv_ap, zI_lit, zL_lit, nI_z, lN_z, ofN_z, zI_add, zI_sub, zI_mul, zI_neg, zL_add, zL_sub, zL_mul, zL_neg, zI_l, zI_cl, zI_le_t, zI_le_f, zI_lt_t, zI_lt_f, zI_eq_t, zI_eq_f, zI_in_t, zz_isIn_t, zz_isIn_f, not_true_eq_false, not_false_eq_true, true_or, or_true, false_or, or_false, true_and, and_true, false_and, and_false, Nat.reduceLeDiff, Int.reduceAdd, Int.reduceSub, Int.reduceMul, Int.reduceNeg, Int.reduceToNat, Nat.reduceAdd, Nat.reduceMul, Nat.reduceSub, Int.toNat_natCast, e0, e1, zN_le_t, zN_le_f]
    · rw [if_neg c1]
      obtain ⟨m, a1, a2, a3, -⟩ := cl_day (s := 0) hw hcl hl (by omega) (by omega) (by unfold ldr; omega)
      have a1 : f_X10_passDay 209 (zI 0) μ = some m := a1
      refine ⟨m, ?_, a3.mono (fun a k z => by unfold nA at z; unfold nD; omega)⟩
      simp (disch := omega) only [↓reduceIte, ↓shl_ap, shb_ap, shv_ap, zI_lit, zL_lit, nI_z, lN_z, ofN_z, zI_add, zI_sub, zI_mul, zI_neg, zL_add, zL_sub, zL_mul, zL_neg, zI_l, zI_cl, zI_le_t, zI_le_f, zI_lt_t, zI_lt_f, zI_eq_t, zI_eq_f, zI_in_t, zz_isIn_t, zz_isIn_f, not_true_eq_false, not_false_eq_true, true_or, or_true, false_or, or_false, true_and, and_true, false_and, and_false, Nat.reduceLeDiff, Int.reduceAdd, Int.reduceSub, Int.reduceMul, Int.reduceNeg, Int.reduceToNat, Nat.reduceAdd, Nat.reduceMul, Nat.reduceSub, Int.toNat_natCast, e0, e1, a1, zN_le_t, zN_le_f]
      rw [F_X0_daysToRise]
      simp (disch := omega) only [↓reduceIte, ↓shl_ap, shb_ap, shv_ap, zI_lit, zL_lit, nI_z, lN_z, ofN_z, zI_add, zI_sub, zI_mul, zI_neg, zL_add, zL_sub, zL_mul, zL_neg, zI_l, zI_cl, zI_le_t, zI_le_f, zI_lt_t, zI_lt_f, zI_eq_t, zI_eq_f, zI_in_t, zz_isIn_t, zz_isIn_f, not_true_eq_false, not_false_eq_true, true_or, or_true, false_or, or_false, true_and, and_true, false_and, and_false, Nat.reduceLeDiff, Int.reduceAdd, Int.reduceSub, Int.reduceMul, Int.reduceNeg, Int.reduceToNat, Nat.reduceAdd, Nat.reduceMul, Nat.reduceSub, Int.toNat_natCast, zN_le_t, zN_le_f]
  | succ g ih =>
    intro f n L μ hn hf hw hcl hl hd
    obtain ⟨f, rfl⟩ : ∃ q, f = q + 1 + 1 := ⟨f - 2, by omega⟩
    have e1 := hcl.2.1 c hc
    have e0 := hcl.1
    have l1 := hl.1 c hc
    rw [nI_z] at e0 e1
    have e1 : sh_i μ 210 c = zI (sl_h L c) := e1
    rw [riS, F_X0_daysToRise]
    by_cases c1 : b ≤ sl_h L c
    · rw [if_pos c1]
      refine ⟨μ, ?_, sh_fr.rf⟩
      simp (disch := omega) only [↓reduceIte, ↓shl_ap, shb_ap, shv_ap, zI_lit, zL_lit, nI_z, lN_z, ofN_z, zI_add, zI_sub, zI_mul, zI_neg, zL_add, zL_sub, zL_mul, zL_neg, zI_l, zI_cl, zI_le_t, zI_le_f, zI_lt_t, zI_lt_f, zI_eq_t, zI_eq_f, zI_in_t, zz_isIn_t, zz_isIn_f, not_true_eq_false, not_false_eq_true, true_or, or_true, false_or, or_false, true_and, and_true, false_and, and_false, Nat.reduceLeDiff, Int.reduceAdd, Int.reduceSub, Int.reduceMul, Int.reduceNeg, Int.reduceToNat, Nat.reduceAdd, Nat.reduceMul, Nat.reduceSub, Int.toNat_natCast, e0, e1, zN_le_t, zN_le_f]
    · rw [if_neg c1]
      obtain ⟨m, a1, a2, a3, -⟩ := cl_day (s := 0) hw hcl hl (by omega) (by omega) (by unfold ldr; omega)
      have a1 : f_X10_passDay 209 (zI 0) μ = some m := a1
      have f1 : sh_fr (nD t) μ m := a3.mono (fun a k z => by unfold nA at z; unfold nD; omega)
      by_cases c2 : 999 ≤ sl_d L
      · rw [if_pos c2]
        have e2 := a2.1
        rw [dP_d, nI_z] at e2
        refine ⟨m, ?_, f1⟩
        simp (disch := omega) only [↓reduceIte, ↓shl_ap, shb_ap, shv_ap, zI_lit, zL_lit, nI_z, lN_z, ofN_z, zI_add, zI_sub, zI_mul, zI_neg, zL_add, zL_sub, zL_mul, zL_neg, zI_l, zI_cl, zI_le_t, zI_le_f, zI_lt_t, zI_lt_f, zI_eq_t, zI_eq_f, zI_in_t, zz_isIn_t, zz_isIn_f, not_true_eq_false, not_false_eq_true, true_or, or_true, false_or, or_false, true_and, and_true, false_and, and_false, Nat.reduceLeDiff, Int.reduceAdd, Int.reduceSub, Int.reduceMul, Int.reduceNeg, Int.reduceToNat, Nat.reduceAdd, Nat.reduceMul, Nat.reduceSub, Int.toNat_natCast, e0, e1, a1, zN_le_t, zN_le_f]
        rw [F_X0_daysToRise]
        simp (disch := omega) only [↓reduceIte, ↓shl_ap, shb_ap, shv_ap, zI_lit, zL_lit, nI_z, lN_z, ofN_z, zI_add, zI_sub, zI_mul, zI_neg, zL_add, zL_sub, zL_mul, zL_neg, zI_l, zI_cl, zI_le_t, zI_le_f, zI_lt_t, zI_lt_f, zI_eq_t, zI_eq_f, zI_in_t, zz_isIn_t, zz_isIn_f, not_true_eq_false, not_false_eq_true, true_or, or_true, false_or, or_false, true_and, and_true, false_and, and_false, Nat.reduceLeDiff, Int.reduceAdd, Int.reduceSub, Int.reduceMul, Int.reduceNeg, Int.reduceToNat, Nat.reduceAdd, Nat.reduceMul, Nat.reduceSub, Int.toNat_natCast, e2, zN_le_t, zN_le_f]
      · rw [if_neg c2]
        obtain ⟨μ', b1, b2⟩ := ih (f + 1) (n + 1) (dP P 0 L) m (by omega) (by omega) (nD_cw f1 hw) a2 (dP_in hl) (by rw [dP_d]; omega)
        refine ⟨μ', ?_, f1.trans b2⟩
        rw [← b1]
        simp (disch := omega) only [↓reduceIte, ↓shl_ap, shb_ap, shv_ap, zI_lit, zL_lit, nI_z, lN_z, ofN_z, zI_add, zI_sub, zI_mul, zI_neg, zL_add, zL_sub, zL_mul, zL_neg, zI_l, zI_cl, zI_le_t, zI_le_f, zI_lt_t, zI_lt_f, zI_eq_t, zI_eq_f, zI_in_t, zz_isIn_t, zz_isIn_f, not_true_eq_false, not_false_eq_true, true_or, or_true, false_or, or_false, true_and, and_true, false_and, and_false, Nat.reduceLeDiff, Int.reduceAdd, Int.reduceSub, Int.reduceMul, Int.reduceNeg, Int.reduceToNat, Nat.reduceAdd, Nat.reduceMul, Nat.reduceSub, Int.toNat_natCast, e0, e1, a1, zN_le_t, zN_le_f]
        rfl
theorem rf_rise {μ0 : sh_Mem} {x y : Nat} {P : sp_T} {K : kS} {b : Int} {i1 i2 : Int32} (hk : sp_ok P) (hx : x < sp_c P) (hy : y < sp_r P) (h1 : -2147483648 ≤ b) (h2 : b < 2147483648) : ∀ (g f n : Nat) (L : sl_T) (μ : sh_Mem), n + g = 60 → g + 1 < f → thk μ0 μ → sm_mP μ P → sm_mL (sh_i μ 330) 0 P L → sl_in P L → sl_d L ≤ 999 → sh_i μ 291 60 = zI 0 → mkp μ K → ∃ m μ', F_X12_rises f 1 i1 i2 (zI b) (zI ((x + 7 * y : Nat) : Int)) (zI n) μ = some (zI (riS P (y * sp_c P + x) b g n L), μ') ∧ thk μ0 m ∧ f_X12_takesBack m = some μ' := by
  have hcell := sp_cell hk hx hy
  have hbd := sp_bd hk
  intro g
  induction g with
  | zero =>
    intro f n L μ hn hf hT hM hm hl hd e60 hK
    obtain ⟨f, rfl⟩ : ∃ q, f = q + 1 + 1 := ⟨f - 2, by omega⟩
    have l1 := hl.1 _ hcell
    have hH := rf_heightOf hm hk hx hy
    obtain ⟨μ', v1, -⟩ := rf_back hT
    refine ⟨μ, μ', ?_, hT, v1⟩
    rw [riS, F_X12_rises, hH]
    by_cases c1 : b ≤ sl_h L (y * sp_c P + x)
    · rw [if_pos c1]
      simp (disch := omega) only [↓reduceIte, ↓shl_ap, shb_ap, shv_ap, zI_lit, zL_lit, nI_z, lN_z, ofN_z, zI_add, zI_sub, zI_mul, zI_neg, zL_add, zL_sub, zL_mul, zL_neg, zI_l, zI_cl, zI_le_t, zI_le_f, zI_lt_t, zI_lt_f, zI_eq_t, zI_eq_f, zI_in_t, zz_isIn_t, zz_isIn_f, not_true_eq_false, not_false_eq_true, true_or, or_true, false_or, or_false, true_and, and_true, false_and, and_false, Nat.reduceLeDiff, Int.reduceAdd, Int.reduceSub, Int.reduceMul, Int.reduceNeg, Int.reduceToNat, Nat.reduceAdd, Nat.reduceMul, Nat.reduceSub, Int.toNat_natCast, hH, v1, zN_le_t, zN_le_f]
    · rw [if_neg c1]
      simp (disch := omega) only [↓reduceIte, ↓shl_ap, shb_ap, shv_ap, zI_lit, zL_lit, nI_z, lN_z, ofN_z, zI_add, zI_sub, zI_mul, zI_neg, zL_add, zL_sub, zL_mul, zL_neg, zI_l, zI_cl, zI_le_t, zI_le_f, zI_lt_t, zI_lt_f, zI_eq_t, zI_eq_f, zI_in_t, zz_isIn_t, zz_isIn_f, not_true_eq_false, not_false_eq_true, true_or, or_true, false_or, or_false, true_and, and_true, false_and, and_false, Nat.reduceLeDiff, Int.reduceAdd, Int.reduceSub, Int.reduceMul, Int.reduceNeg, Int.reduceToNat, Nat.reduceAdd, Nat.reduceMul, Nat.reduceSub, Int.toNat_natCast, hH, v1, zN_le_t, zN_le_f]
  | succ g ih =>
    intro f n L μ hn hf hT hM hm hl hd e60 hK
    obtain ⟨f, rfl⟩ : ∃ q, f = q + 1 + 1 := ⟨f - 2, by omega⟩
    have l1 := hl.1 _ hcell
    have hH := rf_heightOf hm hk hx hy
    have e0 := hm.1
    rw [nI_z] at e0
    rw [riS, F_X12_rises, hH]
    by_cases c1 : b ≤ sl_h L (y * sp_c P + x)
    · rw [if_pos c1]
      obtain ⟨μ', v1, -⟩ := rf_back hT
      refine ⟨μ, μ', ?_, hT, v1⟩
      simp (disch := omega) only [↓reduceIte, ↓shl_ap, shb_ap, shv_ap, zI_lit, zL_lit, nI_z, lN_z, ofN_z, zI_add, zI_sub, zI_mul, zI_neg, zL_add, zL_sub, zL_mul, zL_neg, zI_l, zI_cl, zI_le_t, zI_le_f, zI_lt_t, zI_lt_f, zI_eq_t, zI_eq_f, zI_in_t, zz_isIn_t, zz_isIn_f, not_true_eq_false, not_false_eq_true, true_or, or_true, false_or, or_false, true_and, and_true, false_and, and_false, Nat.reduceLeDiff, Int.reduceAdd, Int.reduceSub, Int.reduceMul, Int.reduceNeg, Int.reduceToNat, Nat.reduceAdd, Nat.reduceMul, Nat.reduceSub, Int.toNat_natCast, hH, v1, zN_le_t, zN_le_f]
    · rw [if_neg c1]
      by_cases c2 : 999 ≤ sl_d L
      · rw [if_pos c2]
        obtain ⟨μ', v1, -⟩ := rf_back hT
        refine ⟨μ, μ', ?_, hT, v1⟩
        simp (disch := omega) only [↓reduceIte, ↓shl_ap, shb_ap, shv_ap, zI_lit, zL_lit, nI_z, lN_z, ofN_z, zI_add, zI_sub, zI_mul, zI_neg, zL_add, zL_sub, zL_mul, zL_neg, zI_l, zI_cl, zI_le_t, zI_le_f, zI_lt_t, zI_lt_f, zI_eq_t, zI_eq_f, zI_in_t, zz_isIn_t, zz_isIn_f, not_true_eq_false, not_false_eq_true, true_or, or_true, false_or, or_false, true_and, and_true, false_and, and_false, Nat.reduceLeDiff, Int.reduceAdd, Int.reduceSub, Int.reduceMul, Int.reduceNeg, Int.reduceToNat, Nat.reduceAdd, Nat.reduceMul, Nat.reduceSub, Int.toNat_natCast, hH, e0, v1, zN_le_t, zN_le_f]
      · rw [if_neg c2]
        obtain ⟨m, a1, a2, a3, a4, a5, a6⟩ := rf_day (s := 0) hM hm hk hl (by omega) (by omega) e60 hK
        have a6 := a6 hT.n0
        have hKm : mkp m K := ⟨hK.1, by rw [a6 _ (by omega)]; exact hK.2.1, fun j hj => by rw [a6 _ (by omega)]; exact hK.2.2 j hj⟩
        obtain ⟨m', μ', b1, b2, b3⟩ := ih (f + 1) (n + 1) (dP P 0 L) m (by omega) (by omega) (hT.st a4 a6) (rN5_mP a4 hM) a2 (dP_in hl) (by rw [dP_d]; omega) (by rw [a4.i _ _ (by unfold rN5; omega)]; exact e60) hKm
        refine ⟨m', μ', ?_, b2, b3⟩
        rw [← b1]
        simp (disch := omega) only [↓reduceIte, ↓shl_ap, shb_ap, shv_ap, zI_lit, zL_lit, nI_z, lN_z, ofN_z, zI_add, zI_sub, zI_mul, zI_neg, zL_add, zL_sub, zL_mul, zL_neg, zI_l, zI_cl, zI_le_t, zI_le_f, zI_lt_t, zI_lt_f, zI_eq_t, zI_eq_f, zI_in_t, zz_isIn_t, zz_isIn_f, not_true_eq_false, not_false_eq_true, true_or, or_true, false_or, or_false, true_and, and_true, false_and, and_false, Nat.reduceLeDiff, Int.reduceAdd, Int.reduceSub, Int.reduceMul, Int.reduceNeg, Int.reduceToNat, Nat.reduceAdd, Nat.reduceMul, Nat.reduceSub, Int.toNat_natCast, e0, a1, zN_le_t, zN_le_f]
        rfl
theorem pr_13 : ∀ (μ : sh_Mem) (b1 b2 b3 : Int32), Sim μ → ∃ (v : Int32) (μ1 μ2 : sh_Mem), f_X11_rises b1 b2 b3 μ = some (v, μ1) ∧ f_X12_rises b1 b2 b3 μ1 = some (v, μ2) ∧ Sim μ2 := by
  intro μ b1 b2 b3 h
  obtain ⟨-, -, -, -, -, -, t, P, L, hR⟩ := id h
  obtain ⟨hr, hk, hl, hP, hM, hc, hm, hkp, hu, hs, z1, z2, -⟩ := id hR
  obtain ⟨a, h1, h2, rfl⟩ := zI_of b1
  obtain ⟨b, h3, h4, rfl⟩ := zI_of b2
  obtain ⟨d, h5, h6, rfl⟩ := zI_of b3
  have hb := sp_bd hk
  have hcs := sp_cells hk
  have hd := hl.1
  rcases kx_km (P := P) a b with ⟨e1, e2⟩ | ⟨x, y, rfl, rfl, hx, hy, e1, e2⟩
  · refine ⟨zI (-1), μ, μ, ?_, ?_, h⟩
    · unfold f_X11_rises
      rw [shr_ap hr.2.1]
      simp (disch := omega) only [↓reduceIte, ↓shl_ap, shb_ap, shv_ap, zI_lit, zL_lit, nI_z, lN_z, ofN_z, zI_add, zI_sub, zI_mul, zI_neg, zL_add, zL_sub, zL_mul, zL_neg, zI_l, zI_cl, zI_le_t, zI_le_f, zI_lt_t, zI_lt_f, zI_eq_t, zI_eq_f, zI_in_t, zz_isIn_t, zz_isIn_f, not_true_eq_false, not_false_eq_true, true_or, or_true, false_or, or_false, true_and, and_true, false_and, and_false, Nat.reduceLeDiff, Int.reduceAdd, Int.reduceSub, Int.reduceMul, Int.reduceNeg, Int.reduceToNat, Nat.reduceAdd, Nat.reduceMul, Nat.reduceSub, Int.toNat_natCast, hr.2.1, shr_ap hr.2.1, shp hr.1, cl_cellAt hP hk h1 h2 h3 h4, e1, zN_le_t, zN_le_f]
    · unfold f_X12_rises
      rw [rf_cellAt hM hk h1 h2 h3 h4, e2]
      rfl
  · have hcell := sp_cell hk hx hy
    obtain ⟨K, K1, K2⟩ := hkp.K
    obtain ⟨m, k1, k2, k3, k4, k5⟩ := cl_copy (μ := μ) (r := 209) (q := 49) (by omega)
    have f1 : sh_fr (nD t) μ m := k2.mono (fun a k z => by unfold nD; omega)
    obtain ⟨μ1, a1, a2⟩ := cl_rise (t := t) (r1 := 49) (b := d) hk hcell h5 h6 60 sh_fuel 0 L m (by omega) (by rw [sh_fuel_eq]; omega) (nD_cw f1 ⟨hr.2.2.1, hr.1, hP, hk⟩) (hc.of hk k3 k4 k5) hl.2 hd
    have c1 : f_X11_rises (zI x) (zI y) (zI d) μ = some (zI (riS P (y * sp_c P + x) d 60 0 L), μ1) := by
      have a1' : f_X0_daysToRise 49 (zI ((y * sp_c P + x : Nat) : Int)) (zI d) μ = some (zI (riS P (y * sp_c P + x) d 60 0 L), μ1) := by
        unfold f_X0_daysToRise
        rw [k1, shv_ap]
        exact a1
      unfold f_X11_rises
      rw [shr_ap hr.2.1]
      simp (disch := omega) only [↓reduceIte, ↓shl_ap, shb_ap, shv_ap, zI_lit, zL_lit, nI_z, lN_z, ofN_z, zI_add, zI_sub, zI_mul, zI_neg, zL_add, zL_sub, zL_mul, zL_neg, zI_l, zI_cl, zI_le_t, zI_le_f, zI_lt_t, zI_lt_f, zI_eq_t, zI_eq_f, zI_in_t, zz_isIn_t, zz_isIn_f, not_true_eq_false, not_false_eq_true, true_or, or_true, false_or, or_false, true_and, and_true, false_and, and_false, Nat.reduceLeDiff, Int.reduceAdd, Int.reduceSub, Int.reduceMul, Int.reduceNeg, Int.reduceToNat, Nat.reduceAdd, Nat.reduceMul, Nat.reduceSub, Int.toNat_natCast, hr.2.1, shr_ap hr.2.1, shp hr.1, cl_cellAt hP hk h1 h2 h3 h4, e1, a1', zN_le_t, zN_le_f]
    have hof : sh_offM μ μ1 := fp_X11_rises h.1 c1
    have nh : ∀ r, 291 ≤ r → sh_i μ1 r = sh_i μ r := fun r z => (hof r z).1
    have hM1 := hM.off hof
    have hm1 : sm_mL (sh_i μ1 330) 0 P L := by rw [nh _ (by omega)]; exact hm
    obtain ⟨m1, p1, p2, p3, p4, p5⟩ := rf_aside (μ := μ1)
    have hMm : sm_mP m1 P := hM1.f3 (fun r k z => p5.i _ _ (by omega)) (p5.lrow _ (fun k => by omega))
    obtain ⟨m2, μ2, w1, w2, w3⟩ := rf_rise (K := K) (μ0 := μ1) (b := d) (i1 := zI x) (i2 := zI y) hk hx hy h5 h6 60 sh_fuel 0 L m1 (by omega) (by rw [sh_fuel_eq]; omega) p2 hMm (by rw [p3]; exact hm1) hl.2 hd (by rw [p4, nh _ (by omega), z2]; rfl) (K2.cg (p3.trans (nh _ (by omega))))
    have c2 : f_X12_rises (zI x) (zI y) (zI d) μ1 = some (zI (riS P (y * sp_c P + x) d 60 0 L), μ2) := by
      unfold f_X12_rises
      rw [rf_cellAt hM1 hk h1 h2 h3 h4, e2]
      simp (disch := omega) only [↓reduceIte, ↓shl_ap, shb_ap, shv_ap, zI_lit, zL_lit, nI_z, lN_z, ofN_z, zI_add, zI_sub, zI_mul, zI_neg, zL_add, zL_sub, zL_mul, zL_neg, zI_l, zI_cl, zI_le_t, zI_le_f, zI_lt_t, zI_lt_f, zI_eq_t, zI_eq_f, zI_in_t, zz_isIn_t, zz_isIn_f, not_true_eq_false, not_false_eq_true, true_or, or_true, false_or, or_false, true_and, and_true, false_and, and_false, Nat.reduceLeDiff, Int.reduceAdd, Int.reduceSub, Int.reduceMul, Int.reduceNeg, Int.reduceToNat, Nat.reduceAdd, Nat.reduceMul, Nat.reduceSub, Int.toNat_natCast, p1, zN_le_t, zN_le_f]
      exact w1
    exact ⟨_, _, _, c1, c2, thk_q h hr.1 (gp_X12_rises (gp_X11_rises h.1 c1) c2) (f1.trans a2) w2 w3⟩
