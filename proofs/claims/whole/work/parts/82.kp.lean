/-! keeps -/
section Kp
variable {t : Nat} {P : sp_T} {L : sl_T}
def nK (t a k : Nat) : Prop := nD t a k ∨ a = 288
theorem nK_qA {r k : Nat} (ht : sh_isP t) (h : nK t r k) : qA r k := by
  rcases h with h | h
  · exact nD_qA ht h
  · subst h; refine ⟨by omega, ?_⟩; unfold sm_A sm_S; omega
theorem nK_49 {μ μ' : sh_Mem} (ht : sh_isP t) (hf : sh_fr (nK t) μ μ') (hc : sm_cL μ 49 P L) : sm_cL μ' 49 P L := hc.cg (fun j hj => hf.row _ (fun k => by rcases ht with rfl | rfl <;> (unfold nK nD; omega)))
theorem nK_cw {μ μ' : sh_Mem} (hf : sh_fr (nK t) μ μ') (hw : cw μ t P) : cw μ' t P := by
  have ht := hw.2.1
  exact hw.cg hf.1 (fun j hj h7 h10 => hf.row _ (fun k => by rcases ht with rfl | rfl <;> (unfold nK nD; omega)))
/-- what the way costs then -/
def vK (P : sp_T) (L : sl_T) (n fr to s : Nat) : Nat := rds P (sl_h (dN P s n L)) 49 (cz fr) to
theorem vK_le {n fr to s : Nat} (hk : sp_ok P) (hl : sl_in P L) (hfr : fr < sp_c P * sp_r P) (hto : to < sp_c P * sp_r P) : vK P L n fr to s ≤ 1200 := rds_fin hk (dN_in n L hl).1 hfr hto
theorem cl_keep2 {i1 i2 : Int32} {n fr to mo z : Nat} (hn : n ≤ 20) (hl : sl_in P L) (hd : sl_d L ≤ 999) (hfr : fr < sp_c P * sp_r P) (hto : to < sp_c P * sp_r P) (hmo : mo ≤ 1200) (hz : z ≤ 7) : ∀ (g f s : Nat) (μ : sh_Mem), s + g = 2 ^ sp_np P → g < f → sh_r μ 0 7 = some t → cw μ t P → sm_cL μ 49 P L → ∃ μ', sh_fr (nK t) μ μ' ∧ ((∃ s', s ≤ s' ∧ s' < 2 ^ sp_np P ∧ pc s' = z ∧ vK P L n fr to s' ≤ mo ∧ (∀ q, s ≤ q → q < s' → ¬ (pc q = z ∧ vK P L n fr to q ≤ mo)) ∧ F_X11_keeps f 2 i1 i2 (zI n) (zI fr) (zI to) (zI mo) (zI z) (zI s) μ = some (zI s', μ')) ∨ ((∀ q, s ≤ q → q < 2 ^ sp_np P → ¬ (pc q = z ∧ vK P L n fr to q ≤ mo)) ∧ F_X11_keeps f 2 i1 i2 (zI n) (zI fr) (zI to) (zI mo) (zI z) (zI s) μ = F_X11_keeps (f - g - 1) 1 i1 i2 (zI n) (zI fr) (zI to) (zI mo) (zI ((z + 1 : Nat) : Int)) (zI 0) μ')) := by
  intro g
  induction g with
  | zero =>
    intro f s μ hs hf hr hw hc
    obtain ⟨f, rfl⟩ : ∃ q, f = q + 1 := ⟨f - 1, by omega⟩
    obtain ⟨w1, w2, w3, w4⟩ := id hw
    have hb := sp_bd w4
    have h128 := pw128 (show sp_np P ≤ 7 by omega)
    have hs : s = 2 ^ sp_np P := by omega
    refine ⟨μ, sh_fr.rf, Or.inr ⟨fun q h1 h2 => by omega, ?_⟩⟩
    rw [show f + 1 - 0 - 1 = f by omega, F_X11_keeps, shr_ap hr, hs]
    simp (disch := omega) only [↓reduceIte, ↓shl_ap, shb_ap, shv_ap, zI_lit, zL_lit, nI_z, lN_z, ofN_z, zI_add, zI_sub, zI_mul, zI_neg, zL_add, zL_sub, zL_mul, zL_neg, zI_l, zI_cl, zI_le_t, zI_le_f, zI_lt_t, zI_lt_f, zI_eq_t, zI_eq_f, zI_in_t, zz_isIn_t, zz_isIn_f, not_true_eq_false, not_false_eq_true, true_or, or_true, false_or, or_false, true_and, and_true, false_and, and_false, Nat.reduceLeDiff, Int.reduceAdd, Int.reduceSub, Int.reduceMul, Int.reduceNeg, Int.reduceToNat, Nat.reduceAdd, Nat.reduceMul, Nat.reduceSub, Int.toNat_natCast, hr, shr_ap hr, shp w2, w3.2.2.2.1, zI_pw2, zN_le_t, zN_le_f]
    rfl
  | succ g ih =>
    intro f s μ hs hf hr hw hc
    obtain ⟨f, rfl⟩ : ∃ q, f = q + 1 := ⟨f - 1, by omega⟩
    obtain ⟨w1, w2, w3, w4⟩ := id hw
    have hb := sp_bd w4
    have h128 := pw128 (show sp_np P ≤ 7 by omega)
    have hsn : s < 2 ^ sp_np P := by omega
    have hpc := pc_le (n := s)
    have hbc := cl_bits (μ := μ) (show s < 128 by omega)
    have hgo : ∀ m, sh_fr (nK t) μ m → ¬ (pc s = z ∧ vK P L n fr to s ≤ mo) → F_X11_keeps (f + 1) 2 i1 i2 (zI n) (zI fr) (zI to) (zI mo) (zI z) (zI s) μ = F_X11_keeps f 2 i1 i2 (zI n) (zI fr) (zI to) (zI mo) (zI z) (zI ((s + 1 : Nat) : Int)) m → ∃ μ', sh_fr (nK t) μ μ' ∧ ((∃ s', s ≤ s' ∧ s' < 2 ^ sp_np P ∧ pc s' = z ∧ vK P L n fr to s' ≤ mo ∧ (∀ q, s ≤ q → q < s' → ¬ (pc q = z ∧ vK P L n fr to q ≤ mo)) ∧ F_X11_keeps (f + 1) 2 i1 i2 (zI n) (zI fr) (zI to) (zI mo) (zI z) (zI s) μ = some (zI s', μ')) ∨ ((∀ q, s ≤ q → q < 2 ^ sp_np P → ¬ (pc q = z ∧ vK P L n fr to q ≤ mo)) ∧ F_X11_keeps (f + 1) 2 i1 i2 (zI n) (zI fr) (zI to) (zI mo) (zI z) (zI s) μ = F_X11_keeps (f + 1 - (g + 1) - 1) 1 i1 i2 (zI n) (zI fr) (zI to) (zI mo) (zI ((z + 1 : Nat) : Int)) (zI 0) μ')) := by
      intro m fm hno hst
      obtain ⟨μ', a0, hh⟩ := ih f (s + 1) m (by omega) (by omega) (by rw [fm.1]; exact hr) (nK_cw fm hw) (nK_49 w2 fm hc)
      refine ⟨μ', fm.trans a0, ?_⟩
      rcases hh with ⟨s', a1, a2, a3, a4, a5, a6⟩ | ⟨a1, a2⟩
      · refine Or.inl ⟨s', by omega, a2, a3, a4, fun q h1 h2 => ?_, hst.trans a6⟩
        by_cases w : q = s
        · subst w; exact hno
        · exact a5 q (by omega) h2
      · refine Or.inr ⟨fun q h1 h2 => ?_, by rw [show f + 1 - (g + 1) - 1 = f - g - 1 by omega]; exact hst.trans a2⟩
        by_cases w : q = s
        · subst w; exact hno
        · exact a1 q (by omega) h2
    by_cases c : pc s = z
    · obtain ⟨m1, a1, a2, a3⟩ := cl_behind (μ := μ) (t := t) (s := s) (n := n) (by omega) (by omega) hw hc hl hd
      have f1 : sh_fr (nK t) μ m1 := a3.mono (fun r k q => Or.inl q)
      have hw1 := nK_cw f1 hw
      obtain ⟨m2, b1, b2⟩ := cl_cost (μ := m1) (L := dN P s n L) w4 (Or.inr rfl) w2 hw1.2.2.1 a2 (dN_in n L hl) hfr hto
      have f2 : sh_fr (nK t) μ m2 := f1.trans (b2.mono (fun r k q => Or.inr q))
      have hvl := vK_le (n := n) (fr := fr) (to := to) (s := s) w4 hl hfr hto
      have b1' : f_X9_cost t 209 (zI fr) (zI to) m1 = some (zI (vK P L n fr to s), m2) := b1
      by_cases c2 : vK P L n fr to s ≤ mo
      · refine ⟨m2, f2, Or.inl ⟨s, Nat.le_refl _, hsn, c, c2, fun q h1 h2 => by omega, ?_⟩⟩
        rw [F_X11_keeps, shr_ap hr]
        simp (disch := omega) only [↓reduceIte, ↓shl_ap, shb_ap, shv_ap, zI_lit, zL_lit, nI_z, lN_z, ofN_z, zI_add, zI_sub, zI_mul, zI_neg, zL_add, zL_sub, zL_mul, zL_neg, zI_l, zI_cl, zI_le_t, zI_le_f, zI_lt_t, zI_lt_f, zI_eq_t, zI_eq_f, zI_in_t, zz_isIn_t, zz_isIn_f, not_true_eq_false, not_false_eq_true, true_or, or_true, false_or, or_false, true_and, and_true, false_and, and_false, Nat.reduceLeDiff, Int.reduceAdd, Int.reduceSub, Int.reduceMul, Int.reduceNeg, Int.reduceToNat, Nat.reduceAdd, Nat.reduceMul, Nat.reduceSub, Int.toNat_natCast, hr, shr_ap hr, shp w2, w3.2.2.2.1, zI_pw2, hbc, a1, b1', zN_le_t, zN_le_f]
      · refine hgo m2 f2 (fun q => c2 q.2) ?_
        rw [F_X11_keeps, shr_ap hr]
        simp (disch := omega) only [↓reduceIte, ↓shl_ap, shb_ap, shv_ap, zI_lit, zL_lit, nI_z, lN_z, ofN_z, zI_add, zI_sub, zI_mul, zI_neg, zL_add, zL_sub, zL_mul, zL_neg, zI_l, zI_cl, zI_le_t, zI_le_f, zI_lt_t, zI_lt_f, zI_eq_t, zI_eq_f, zI_in_t, zz_isIn_t, zz_isIn_f, not_true_eq_false, not_false_eq_true, true_or, or_true, false_or, or_false, true_and, and_true, false_and, and_false, Nat.reduceLeDiff, Int.reduceAdd, Int.reduceSub, Int.reduceMul, Int.reduceNeg, Int.reduceToNat, Nat.reduceAdd, Nat.reduceMul, Nat.reduceSub, Int.toNat_natCast, hr, shr_ap hr, shp w2, w3.2.2.2.1, zI_pw2, hbc, a1, b1', zN_le_t, zN_le_f]
        rfl
    · refine hgo μ sh_fr.rf (fun q => c q.1) ?_
      rw [F_X11_keeps, shr_ap hr]
      simp (disch := omega) only [↓reduceIte, ↓shl_ap, shb_ap, shv_ap, zI_lit, zL_lit, nI_z, lN_z, ofN_z, zI_add, zI_sub, zI_mul, zI_neg, zL_add, zL_sub, zL_mul, zL_neg, zI_l, zI_cl, zI_le_t, zI_le_f, zI_lt_t, zI_lt_f, zI_eq_t, zI_eq_f, zI_in_t, zz_isIn_t, zz_isIn_f, not_true_eq_false, not_false_eq_true, true_or, or_true, false_or, or_false, true_and, and_true, false_and, and_false, Nat.reduceLeDiff, Int.reduceAdd, Int.reduceSub, Int.reduceMul, Int.reduceNeg, Int.reduceToNat, Nat.reduceAdd, Nat.reduceMul, Nat.reduceSub, Int.toNat_natCast, hr, shr_ap hr, shp w2, w3.2.2.2.1, zI_pw2, hbc, zN_le_t, zN_le_f]
      rfl
theorem cl_keep1 {i1 i2 : Int32} {n fr to mo : Nat} (hn : n ≤ 20) (hl : sl_in P L) (hd : sl_d L ≤ 999) (hfr : fr < sp_c P * sp_r P) (hto : to < sp_c P * sp_r P) (hmo : mo ≤ 1200) : ∀ (g f z : Nat) (μ : sh_Mem), z + g = sp_np P + 1 → 140 * g + 1 < f → sh_r μ 0 7 = some t → cw μ t P → sm_cL μ 49 P L → (∀ q, q < 2 ^ sp_np P → vK P L n fr to q ≤ mo → z ≤ pc q) → ∃ v μ', F_X11_keeps f 1 i1 i2 (zI n) (zI fr) (zI to) (zI mo) (zI z) (zI 0) μ = some (zI v, μ') ∧ sh_fr (nK t) μ μ' ∧ isB (fun s => vK P L n fr to s ≤ mo) (2 ^ sp_np P) v := by
  intro g
  induction g with
  | zero =>
    intro f z μ hz hf hr hw hc hq
    obtain ⟨f, rfl⟩ : ∃ q, f = q + 1 := ⟨f - 1, by omega⟩
    obtain ⟨w1, w2, w3, w4⟩ := id hw
    have hb := sp_bd w4
    have hz : z = sp_np P + 1 := by omega
    subst hz
    refine ⟨-1, μ, ?_, sh_fr.rf, Or.inl ⟨rfl, fun s hs q => ?_⟩⟩
    · rw [F_X11_keeps, shr_ap hr]
      simp (disch := omega) only [↓reduceIte, ↓shl_ap, shb_ap, shv_ap, zI_lit, zL_lit, nI_z, lN_z, ofN_z, zI_add, zI_sub, zI_mul, zI_neg, zL_add, zL_sub, zL_mul, zL_neg, zI_l, zI_cl, zI_le_t, zI_le_f, zI_lt_t, zI_lt_f, zI_eq_t, zI_eq_f, zI_in_t, zz_isIn_t, zz_isIn_f, not_true_eq_false, not_false_eq_true, true_or, or_true, false_or, or_false, true_and, and_true, false_and, and_false, Nat.reduceLeDiff, Int.reduceAdd, Int.reduceSub, Int.reduceMul, Int.reduceNeg, Int.reduceToNat, Nat.reduceAdd, Nat.reduceMul, Nat.reduceSub, Int.toNat_natCast, hr, shr_ap hr, shp w2, w3.2.2.2.1, zN_le_t, zN_le_f]
    · have := hq s hs q
      have := pc_np (show sp_np P ≤ 7 by omega) hs
      omega
  | succ g ih =>
    intro f z μ hz hf hr hw hc hq
    obtain ⟨f, rfl⟩ : ∃ q, f = q + 1 := ⟨f - 1, by omega⟩
    obtain ⟨w1, w2, w3, w4⟩ := id hw
    have hb := sp_bd w4
    have h128 := pw128 (show sp_np P ≤ 7 by omega)
    have hs1 : F_X11_keeps (f + 1) 1 i1 i2 (zI n) (zI fr) (zI to) (zI mo) (zI z) (zI 0) μ = F_X11_keeps f 2 i1 i2 (zI n) (zI fr) (zI to) (zI mo) (zI z) (zI ((0 : Nat) : Int)) μ := by
      rw [F_X11_keeps, shr_ap hr]
      simp (disch := omega) only [↓reduceIte, ↓shl_ap, shb_ap, shv_ap, zI_lit, zL_lit, nI_z, lN_z, ofN_z, zI_add, zI_sub, zI_mul, zI_neg, zL_add, zL_sub, zL_mul, zL_neg, zI_l, zI_cl, zI_le_t, zI_le_f, zI_lt_t, zI_lt_f, zI_eq_t, zI_eq_f, zI_in_t, zz_isIn_t, zz_isIn_f, not_true_eq_false, not_false_eq_true, true_or, or_true, false_or, or_false, true_and, and_true, false_and, and_false, Nat.reduceLeDiff, Int.reduceAdd, Int.reduceSub, Int.reduceMul, Int.reduceNeg, Int.reduceToNat, Nat.reduceAdd, Nat.reduceMul, Nat.reduceSub, Int.toNat_natCast, hr, shr_ap hr, shp w2, w3.2.2.2.1, zN_le_t, zN_le_f]
      rfl
    rw [hs1]
    obtain ⟨m, fm, hh⟩ := cl_keep2 (i1 := i1) (i2 := i2) (z := z) hn hl hd hfr hto hmo (by omega) (2 ^ sp_np P) f 0 μ (by omega) (by omega) hr hw hc
    rcases hh with ⟨s', a1, a2, a3, a4, a5, a6⟩ | ⟨a1, a2⟩
    · refine ⟨s', m, a6, fm, Or.inr ⟨s', a2, rfl, a4, fun q h1 h2 => ?_⟩⟩
      have w1 := hq q h1 h2
      by_cases w : pc q = z
      · by_cases w2 : q < s'
        · exact absurd ⟨w, h2⟩ (a5 q (by omega) w2)
        · omega
      · omega
    · rw [a2]
      obtain ⟨v, μ', k1, k2, k3⟩ := ih (f - 2 ^ sp_np P - 1) (z + 1) m (by omega) (by omega) (by rw [fm.1]; exact hr) (nK_cw fm hw) (nK_49 w2 fm hc) (fun q h1 h2 => by
        have w1 := hq q h1 h2
        have w2 : ¬ pc q = z := fun w => a1 q (by omega) h1 ⟨w, h2⟩
        omega)
      exact ⟨v, μ', k1, fm.trans k2, k3⟩
theorem rf_wk {n fr to mo s : Nat} {μ1 m μ0 : sh_Mem} {K : kS} (hn : n ≤ 20) (hk : sp_ok P) (hl : sl_in P L) (hd : sl_d L ≤ 999) (hM : sm_mP m P) (hm1 : sm_mL (sh_i μ1 330) 0 P L) (hK : mkp μ1 K) (hfr : fr < sp_c P * sp_r P) (hto : to < sp_c P * sp_r P) (hmo : mo ≤ 1200) (hs : s < 128) (hT : thk μ0 m) (h330 : sh_i m 330 = sh_i μ1 330) (h0 : sh_i μ0 330 = sh_i μ1 330) : ∃ m' μ0', f_X12_isWayKept (zI s) (zI (ro P fr : Int)) (zI (ro P to : Int)) (zI n) (zI mo) m = some (if vK P L n fr to s ≤ mo then 1 else 0, m') ∧ thk μ0' m' ∧ sh_fr n336 μ0 μ0' ∧ sh_i m' 330 = sh_i μ1 330 ∧ sh_i μ0' 330 = sh_i μ1 330 := by
  have hT1 : thk μ0 (sh_setI m 291 60 (zI s)) := hT.s60
  have e330 : sh_i (sh_setI m 291 60 (zI s)) 330 = sh_i μ1 330 := by rw [ir_set_r (by omega)]; exact h330
  obtain ⟨m2, w1, w2, w3, w4, w5, w6, w7⟩ := rf_daysT (K := K) (μ0 := μ0) (s := s) (n := n) hk hs (by omega) n sh_fuel 0 L (sh_setI m 291 60 (zI s)) (by omega) (by rw [sh_fuel_eq]; omega) hT1 (hM.f3 (fun r k z => by rw [sh_i_set, if_neg (by omega)]) rfl) (by rw [e330]; exact hm1) hl (by omega) ir_set (hK.cg e330)
  obtain ⟨m3, c1, c2⟩ := rf_way (μ := m2) (L := dN P s n L) hk w5 w2 (dN_in n L hl) hfr hto
  obtain ⟨μ0', d1, d2, d3⟩ := w3.off (x := 336) (c2.mono (fun r k q => q)) (by omega)
  obtain ⟨m4, p1, p2, p3, p4⟩ := rf_anew d1
  have hvl := vK_le (n := n) (fr := fr) (to := to) (s := s) hk hl hfr hto
  have c1' : f_X12_wayCost (zI (ro P fr : Int)) (zI (ro P to : Int)) m2 = some (zI (vK P L n fr to s), m3) := c1
  have w1' : f_X12_daysGo (zI n) (sh_setI m 291 60 (zI s)) = some m2 := w1
  refine ⟨m4, μ0', ?_, p2, d2.mono (fun r k q => q), by rw [p3, d3, h0], by rw [d3, h0]⟩
  unfold f_X12_isWayKept
  by_cases c : vK P L n fr to s ≤ mo
  · rw [if_pos c]
    simp (disch := omega) only [↓reduceIte, ↓shl_ap, shb_ap, shv_ap, zI_lit, zL_lit, nI_z, lN_z, ofN_z, zI_add, zI_sub, zI_mul, zI_neg, zL_add, zL_sub, zL_mul, zL_neg, zI_l, zI_cl, zI_le_t, zI_le_f, zI_lt_t, zI_lt_f, zI_eq_t, zI_eq_f, zI_in_t, zz_isIn_t, zz_isIn_f, not_true_eq_false, not_false_eq_true, true_or, or_true, false_or, or_false, true_and, and_true, false_and, and_false, Nat.reduceLeDiff, Int.reduceAdd, Int.reduceSub, Int.reduceMul, Int.reduceNeg, Int.reduceToNat, Nat.reduceAdd, Nat.reduceMul, Nat.reduceSub, Int.toNat_natCast, w1', c1', p1, zN_le_t, zN_le_f]
  · rw [if_neg c]
    simp (disch := omega) only [↓reduceIte, ↓shl_ap, shb_ap, shv_ap, zI_lit, zL_lit, nI_z, lN_z, ofN_z, zI_add, zI_sub, zI_mul, zI_neg, zL_add, zL_sub, zL_mul, zL_neg, zI_l, zI_cl, zI_le_t, zI_le_f, zI_lt_t, zI_lt_f, zI_eq_t, zI_eq_f, zI_in_t, zz_isIn_t, zz_isIn_f, not_true_eq_false, not_false_eq_true, true_or, or_true, false_or, or_false, true_and, and_true, false_and, and_false, Nat.reduceLeDiff, Int.reduceAdd, Int.reduceSub, Int.reduceMul, Int.reduceNeg, Int.reduceToNat, Nat.reduceAdd, Nat.reduceMul, Nat.reduceSub, Int.toNat_natCast, w1', c1', p1, zN_le_t, zN_le_f]
theorem rf_keep1 {i1 i2 : Int32} {n fr to mo : Nat} {μ1 : sh_Mem} {K : kS} (hn : n ≤ 20) (hk : sp_ok P) (hl : sl_in P L) (hd : sl_d L ≤ 999) (hM1 : sm_mP μ1 P) (hm1 : sm_mL (sh_i μ1 330) 0 P L) (hK : mkp μ1 K) (hfr : fr < sp_c P * sp_r P) (hto : to < sp_c P * sp_r P) (hmo : mo ≤ 1200) : ∀ (g f s : Nat) (b : Int) (m μ0 : sh_Mem), s + g = 2 ^ sp_np P → g < f → isB (fun s => vK P L n fr to s ≤ mo) s b → thk μ0 m → sh_fr n336 μ1 μ0 → sh_i m 330 = sh_i μ1 330 → ∃ v m', F_X12_keeps f 1 i1 i2 (zI n) (zI (ro P fr : Int)) (zI (ro P to : Int)) (zI mo) (zI b) (zI s) m = some (zI v, m') ∧ isB (fun s => vK P L n fr to s ≤ mo) (2 ^ sp_np P) v ∧ sh_i m' 330 = sh_i μ1 330 ∧ sh_i m' 291 57 = 0 ∧ sh_i m' 291 60 = 0 ∧ sh_fr (fun r k => rN6 r k ∨ r = 336) μ1 m' := by
  have hb := sp_bd hk
  have h128 := pw128 (show sp_np P ≤ 7 by omega)
  have hMm : ∀ m μ0, thk μ0 m → sh_fr n336 μ1 μ0 → sm_mP m P := fun m μ0 hT hF => hM1.f3 (fun r k z => (hT.1.i r k (by unfold rN6 rN5; omega)).trans (hF.i r k (by unfold n336; omega))) ((hT.1.lrow 323 (fun k => by unfold rN6 rN5; omega)).trans (hF.lrow 323 (fun k => by unfold n336; omega)))
  intro g
  induction g with
  | zero =>
    intro f s b m μ0 hs hf hB hT hF h330
    obtain ⟨f, rfl⟩ : ∃ q, f = q + 1 := ⟨f - 1, by omega⟩
    have hs : s = 2 ^ sp_np P := by omega
    rw [hs] at hB ⊢
    obtain ⟨m', v1, v2, v3, v4, v5, v6⟩ := rf_back hT
    refine ⟨b, m', ?_, hB, ?_, v3, v4, (hF.mono (fun r k q => Or.inr q)).trans (v5.mono (fun r k q => Or.inl q))⟩
    · rw [F_X12_keeps, rf_personMany (hMm m μ0 hT hF)]
      simp (disch := omega) only [↓reduceIte, ↓shl_ap, shb_ap, shv_ap, zI_lit, zL_lit, nI_z, lN_z, ofN_z, zI_add, zI_sub, zI_mul, zI_neg, zL_add, zL_sub, zL_mul, zL_neg, zI_l, zI_cl, zI_le_t, zI_le_f, zI_lt_t, zI_lt_f, zI_eq_t, zI_eq_f, zI_in_t, zz_isIn_t, zz_isIn_f, not_true_eq_false, not_false_eq_true, true_or, or_true, false_or, or_false, true_and, and_true, false_and, and_false, Nat.reduceLeDiff, Int.reduceAdd, Int.reduceSub, Int.reduceMul, Int.reduceNeg, Int.reduceToNat, Nat.reduceAdd, Nat.reduceMul, Nat.reduceSub, Int.toNat_natCast, zI_pw2, v1, zN_le_t, zN_le_f]
    · rw [v2, hF.row 330 (fun k => by unfold n336; omega)]
  | succ g ih =>
    intro f s b m μ0 hs hf hB hT hF h330
    obtain ⟨f, rfl⟩ : ∃ q, f = q + 1 := ⟨f - 1, by omega⟩
    have hsn : s < 2 ^ sp_np P := by omega
    have hpc := pc_le (n := s)
    have hMh := hMm m μ0 hT hF
    have hpm := rf_personMany hMh
    obtain ⟨m', μ0', e, t1, t2, t3, t4⟩ := rf_wk (n := n) (s := s) hn hk hl hd hMh hm1 hK hfr hto hmo (by omega) hT h330 (hF.row 330 (fun k => by unfold n336; omega))
    rcases id hB with ⟨hb, -⟩ | ⟨s0, hs0, hb, -, -⟩
    · subst hb
      by_cases c : vK P L n fr to s ≤ mo
      · rw [if_pos c] at e
        obtain ⟨v, m2, k1, k2⟩ := ih f (s + 1) (s : Int) m' μ0' (by omega) (by omega) (isB_new hB c (fun s' w => by omega)) t1 (hF.trans t2) t3
        refine ⟨v, m2, ?_, k2⟩
        rw [← k1, F_X12_keeps, hpm]
        simp (disch := omega) only [↓reduceIte, ↓shl_ap, shb_ap, shv_ap, zI_lit, zL_lit, nI_z, lN_z, ofN_z, zI_add, zI_sub, zI_mul, zI_neg, zL_add, zL_sub, zL_mul, zL_neg, zI_l, zI_cl, zI_le_t, zI_le_f, zI_lt_t, zI_lt_f, zI_eq_t, zI_eq_f, zI_in_t, zz_isIn_t, zz_isIn_f, not_true_eq_false, not_false_eq_true, true_or, or_true, false_or, or_false, true_and, and_true, false_and, and_false, Nat.reduceLeDiff, Int.reduceAdd, Int.reduceSub, Int.reduceMul, Int.reduceNeg, Int.reduceToNat, Nat.reduceAdd, Nat.reduceMul, Nat.reduceSub, Int.toNat_natCast, zI_pw2, e, zN_le_t, zN_le_f]
        rfl
      · rw [if_neg c] at e
        obtain ⟨v, m2, k1, k2⟩ := ih f (s + 1) (-1) m' μ0' (by omega) (by omega) (isB_no hB c) t1 (hF.trans t2) t3
        refine ⟨v, m2, ?_, k2⟩
        rw [← k1, F_X12_keeps, hpm]
        simp (disch := omega) only [↓reduceIte, ↓shl_ap, shb_ap, shv_ap, zI_lit, zL_lit, nI_z, lN_z, ofN_z, zI_add, zI_sub, zI_mul, zI_neg, zL_add, zL_sub, zL_mul, zL_neg, zI_l, zI_cl, zI_le_t, zI_le_f, zI_lt_t, zI_lt_f, zI_eq_t, zI_eq_f, zI_in_t, zz_isIn_t, zz_isIn_f, not_true_eq_false, not_false_eq_true, true_or, or_true, false_or, or_false, true_and, and_true, false_and, and_false, Nat.reduceLeDiff, Int.reduceAdd, Int.reduceSub, Int.reduceMul, Int.reduceNeg, Int.reduceToNat, Nat.reduceAdd, Nat.reduceMul, Nat.reduceSub, Int.toNat_natCast, zI_pw2, e, zN_le_t, zN_le_f]
        rfl
    · subst hb
      have hpc0 := pc_le (n := s0)
      have hb1 := rf_bits (μ := m) (show s < 128 by omega)
      have hb2 := rf_bits (μ := m) (show s0 < 128 by omega)
      by_cases c0 : pc s < pc s0
      · by_cases c : vK P L n fr to s ≤ mo
        · rw [if_pos c] at e
          have hnew : ∀ s' : Nat, (s0 : Int) = (s' : Int) → pc s < pc s' := fun s' w => by
            have : s' = s0 := by omega
            subst this; exact c0
          obtain ⟨v, m2, k1, k2⟩ := ih f (s + 1) (s : Int) m' μ0' (by omega) (by omega) (isB_new hB c hnew) t1 (hF.trans t2) t3
          refine ⟨v, m2, ?_, k2⟩
          rw [← k1, F_X12_keeps, hpm]
          simp (disch := omega) only [↓reduceIte, ↓shl_ap, shb_ap, shv_ap, zI_lit, zL_lit, nI_z, lN_z, ofN_z, zI_add, zI_sub, zI_mul, zI_neg, zL_add, zL_sub, zL_mul, zL_neg, zI_l, zI_cl, zI_le_t, zI_le_f, zI_lt_t, zI_lt_f, zI_eq_t, zI_eq_f, zI_in_t, zz_isIn_t, zz_isIn_f, not_true_eq_false, not_false_eq_true, true_or, or_true, false_or, or_false, true_and, and_true, false_and, and_false, Nat.reduceLeDiff, Int.reduceAdd, Int.reduceSub, Int.reduceMul, Int.reduceNeg, Int.reduceToNat, Nat.reduceAdd, Nat.reduceMul, Nat.reduceSub, Int.toNat_natCast, zI_pw2, hb1, hb2, e, zN_le_t, zN_le_f]
          rfl
        · rw [if_neg c] at e
          obtain ⟨v, m2, k1, k2⟩ := ih f (s + 1) (s0 : Int) m' μ0' (by omega) (by omega) (isB_no hB c) t1 (hF.trans t2) t3
          refine ⟨v, m2, ?_, k2⟩
          rw [← k1, F_X12_keeps, hpm]
          simp (disch := omega) only [↓reduceIte, ↓shl_ap, shb_ap, shv_ap, zI_lit, zL_lit, nI_z, lN_z, ofN_z, zI_add, zI_sub, zI_mul, zI_neg, zL_add, zL_sub, zL_mul, zL_neg, zI_l, zI_cl, zI_le_t, zI_le_f, zI_lt_t, zI_lt_f, zI_eq_t, zI_eq_f, zI_in_t, zz_isIn_t, zz_isIn_f, not_true_eq_false, not_false_eq_true, true_or, or_true, false_or, or_false, true_and, and_true, false_and, and_false, Nat.reduceLeDiff, Int.reduceAdd, Int.reduceSub, Int.reduceMul, Int.reduceNeg, Int.reduceToNat, Nat.reduceAdd, Nat.reduceMul, Nat.reduceSub, Int.toNat_natCast, zI_pw2, hb1, hb2, e, zN_le_t, zN_le_f]
          rfl
      · obtain ⟨v, m2, k1, k2⟩ := ih f (s + 1) (s0 : Int) m μ0 (by omega) (by omega) (isB_ge hB (by omega)) hT hF h330
        refine ⟨v, m2, ?_, k2⟩
        rw [← k1, F_X12_keeps, hpm]
        simp (disch := omega) only [↓reduceIte, ↓shl_ap, shb_ap, shv_ap, zI_lit, zL_lit, nI_z, lN_z, ofN_z, zI_add, zI_sub, zI_mul, zI_neg, zL_add, zL_sub, zL_mul, zL_neg, zI_l, zI_cl, zI_le_t, zI_le_f, zI_lt_t, zI_lt_f, zI_eq_t, zI_eq_f, zI_in_t, zz_isIn_t, zz_isIn_f, not_true_eq_false, not_false_eq_true, true_or, or_true, false_or, or_false, true_and, and_true, false_and, and_false, Nat.reduceLeDiff, Int.reduceAdd, Int.reduceSub, Int.reduceMul, Int.reduceNeg, Int.reduceToNat, Nat.reduceAdd, Nat.reduceMul, Nat.reduceSub, Int.toNat_natCast, zI_pw2, hb1, hb2, zN_le_t, zN_le_f]
        rfl
end Kp
theorem pr_17 : ∀ (μ : sh_Mem) (b1 b2 b3 : Int32), Sim μ → ∃ (v : Int32) (μ1 μ2 : sh_Mem), f_X11_keeps b1 b2 b3 μ = some (v, μ1) ∧ f_X12_keeps b1 b2 b3 μ1 = some (v, μ2) ∧ Sim μ2 := by
  intro μ b1 b2 b3 h
  obtain ⟨-, -, -, -, -, -, t, P, L, hR⟩ := id h
  obtain ⟨hr, hk, hl, hP, hM, hc, hm, hkp, hu, hs, z1, z2, -⟩ := id hR
  obtain ⟨a, h1, h2, rfl⟩ := zI_of b1
  obtain ⟨b, h3, h4, rfl⟩ := zI_of b2
  obtain ⟨d, h5, h6, rfl⟩ := zI_of b3
  have hb := sp_bd hk
  have hcs := sp_cells hk
  have hd := hl.1
  have h128 := pw128 (show sp_np P ≤ 7 by omega)
  have ca := cl_cellOf (μ := μ) hP hk h1 h2
  have cb := cl_cellOf (μ := μ) hP hk h3 h4
  have ra := rf_cellN (μ := μ) hM hk h1 h2
  have rb := rf_cellN (μ := μ) hM hk h3 h4
  rcases cell_both hk a with ⟨x1, x2⟩ | ⟨fr, hfr, x1, x2⟩
  · rw [x1] at ca
    rw [x2] at ra
    refine ⟨zI (-1), μ, μ, ?_, ?_, h⟩
    · unfold f_X11_keeps
      rw [shr_ap hr.2.1]
      simp (disch := omega) only [↓reduceIte, ↓shl_ap, shb_ap, shv_ap, zI_lit, zL_lit, nI_z, lN_z, ofN_z, zI_add, zI_sub, zI_mul, zI_neg, zL_add, zL_sub, zL_mul, zL_neg, zI_l, zI_cl, zI_le_t, zI_le_f, zI_lt_t, zI_lt_f, zI_eq_t, zI_eq_f, zI_in_t, zz_isIn_t, zz_isIn_f, not_true_eq_false, not_false_eq_true, true_or, or_true, false_or, or_false, true_and, and_true, false_and, and_false, Nat.reduceLeDiff, Int.reduceAdd, Int.reduceSub, Int.reduceMul, Int.reduceNeg, Int.reduceToNat, Nat.reduceAdd, Nat.reduceMul, Nat.reduceSub, Int.toNat_natCast, hr.2.1, shr_ap hr.2.1, shp hr.1, ca, cb, zN_le_t, zN_le_f]
    · unfold f_X12_keeps
      simp (disch := omega) only [↓reduceIte, ↓shl_ap, shb_ap, shv_ap, zI_lit, zL_lit, nI_z, lN_z, ofN_z, zI_add, zI_sub, zI_mul, zI_neg, zL_add, zL_sub, zL_mul, zL_neg, zI_l, zI_cl, zI_le_t, zI_le_f, zI_lt_t, zI_lt_f, zI_eq_t, zI_eq_f, zI_in_t, zz_isIn_t, zz_isIn_f, not_true_eq_false, not_false_eq_true, true_or, or_true, false_or, or_false, true_and, and_true, false_and, and_false, Nat.reduceLeDiff, Int.reduceAdd, Int.reduceSub, Int.reduceMul, Int.reduceNeg, Int.reduceToNat, Nat.reduceAdd, Nat.reduceMul, Nat.reduceSub, Int.toNat_natCast, ra, rb, zN_le_t, zN_le_f]
  rcases cell_both hk b with ⟨y1, y2⟩ | ⟨to, hto, y1, y2⟩
  · rw [x1] at ca
    rw [x2] at ra
    rw [y1] at cb
    rw [y2] at rb
    have := ro_lt hk hfr
    refine ⟨zI (-1), μ, μ, ?_, ?_, h⟩
    · unfold f_X11_keeps
      rw [shr_ap hr.2.1]
      simp (disch := omega) only [↓reduceIte, ↓shl_ap, shb_ap, shv_ap, zI_lit, zL_lit, nI_z, lN_z, ofN_z, zI_add, zI_sub, zI_mul, zI_neg, zL_add, zL_sub, zL_mul, zL_neg, zI_l, zI_cl, zI_le_t, zI_le_f, zI_lt_t, zI_lt_f, zI_eq_t, zI_eq_f, zI_in_t, zz_isIn_t, zz_isIn_f, not_true_eq_false, not_false_eq_true, true_or, or_true, false_or, or_false, true_and, and_true, false_and, and_false, Nat.reduceLeDiff, Int.reduceAdd, Int.reduceSub, Int.reduceMul, Int.reduceNeg, Int.reduceToNat, Nat.reduceAdd, Nat.reduceMul, Nat.reduceSub, Int.toNat_natCast, hr.2.1, shr_ap hr.2.1, shp hr.1, ca, cb, zN_le_t, zN_le_f]
    · unfold f_X12_keeps
      simp (disch := omega) only [↓reduceIte, ↓shl_ap, shb_ap, shv_ap, zI_lit, zL_lit, nI_z, lN_z, ofN_z, zI_add, zI_sub, zI_mul, zI_neg, zL_add, zL_sub, zL_mul, zL_neg, zI_l, zI_cl, zI_le_t, zI_le_f, zI_lt_t, zI_lt_f, zI_eq_t, zI_eq_f, zI_in_t, zz_isIn_t, zz_isIn_f, not_true_eq_false, not_false_eq_true, true_or, or_true, false_or, or_false, true_and, and_true, false_and, and_false, Nat.reduceLeDiff, Int.reduceAdd, Int.reduceSub, Int.reduceMul, Int.reduceNeg, Int.reduceToNat, Nat.reduceAdd, Nat.reduceMul, Nat.reduceSub, Int.toNat_natCast, ra, rb, zN_le_t, zN_le_f]
  have hra := ro_lt hk hfr
  have hrb := ro_lt hk hto
  rw [x1] at ca
  rw [y1] at cb
  rcases cl_isAhead (lo := 1) (hi := 20) hr.2.1 hr.1 hP hk hc hd h5 h6 (by omega) with ⟨q1, q2⟩ | ⟨q1, q2⟩
  · obtain ⟨n, rfl⟩ := Int.eq_ofNat_of_zero_le (show 0 ≤ d by have := q1.2.1; omega)
    obtain ⟨-, n1, n2, n3⟩ := id q1
    obtain ⟨K, K1, K2⟩ := hkp.K
    obtain ⟨m0, a1, a2⟩ := cl_cost (μ := μ) hk (Or.inl rfl) hr.1 hP hc hl.2 hfr hto
    have f0 : sh_fr (nK t) μ m0 := a2.mono (fun r k q => Or.inr q)
    have hmo := rds_fin hk hl.2.1 hfr hto
    obtain ⟨v, μ1, k1, k2, k3⟩ := cl_keep1 (t := t) (P := P) (L := L) (i1 := zI a) (i2 := zI b) (n := n) (mo := rds P (sl_h L) 49 (cz fr) to) (by omega) hl.2 hd hfr hto hmo (sp_np P + 1) sh_fuel 0 m0 (by omega) (by rw [sh_fuel_eq]; omega) (by rw [f0.1]; exact hr.2.1) (nK_cw f0 ⟨hr.2.2.1, hr.1, hP, hk⟩) (nK_49 hr.1 f0 hc) (fun q hq h2 => by omega)
    have c1 : f_X11_keeps (zI a) (zI b) (zI n) μ = some (zI v, μ1) := by
      unfold f_X11_keeps
      rw [shr_ap hr.2.1]
      simp (disch := omega) only [↓reduceIte, ↓shl_ap, shb_ap, shv_ap, zI_lit, zL_lit, nI_z, lN_z, ofN_z, zI_add, zI_sub, zI_mul, zI_neg, zL_add, zL_sub, zL_mul, zL_neg, zI_l, zI_cl, zI_le_t, zI_le_f, zI_lt_t, zI_lt_f, zI_eq_t, zI_eq_f, zI_in_t, zz_isIn_t, zz_isIn_f, not_true_eq_false, not_false_eq_true, true_or, or_true, false_or, or_false, true_and, and_true, false_and, and_false, Nat.reduceLeDiff, Int.reduceAdd, Int.reduceSub, Int.reduceMul, Int.reduceNeg, Int.reduceToNat, Nat.reduceAdd, Nat.reduceMul, Nat.reduceSub, Int.toNat_natCast, hr.2.1, shr_ap hr.2.1, shp hr.1, ca, cb, q2, a1, zN_le_t, zN_le_f]
      exact k1
    have hof : sh_offM μ μ1 := fp_X11_keeps h.1 c1
    have nh : ∀ r, 291 ≤ r → sh_i μ1 r = sh_i μ r := fun r z => (hof r z).1
    have hM1 := hM.off hof
    have hm1 : sm_mL (sh_i μ1 330) 0 P L := by rw [nh _ (by omega)]; exact hm
    obtain ⟨m1, e1, e2⟩ := rf_way (μ := μ1) (L := L) hk hM1 hm1 hl.2 hfr hto
    have hM1' := f336_mP e2 hM1
    obtain ⟨m2, p1, p2, p3, p4, p5⟩ := rf_aside (μ := m1)
    have e330 : sh_i m1 330 = sh_i μ1 330 := f336_330 e2
    obtain ⟨v', μ2, o1, o2, o3, o4, o5, o6⟩ := rf_keep1 (i1 := zI a) (i2 := zI b) (n := n) (μ1 := m1) (K := K) (mo := rds P (sl_h L) 49 (cz fr) to) (by omega) hk hl.2 hd hM1' (by rw [e330]; exact hm1) (K2.cg (e330.trans (nh _ (by omega)))) hfr hto hmo (2 ^ sp_np P) sh_fuel 0 (-1) m2 m1 (by omega) (by rw [sh_fuel_eq]; omega) isB_0 p2 sh_fr.rf p3
    have hv := isB_u k3 o2
    subst hv
    have ra := rf_cellN (μ := μ1) hM1 hk h1 h2
    have rb := rf_cellN (μ := μ1) hM1 hk h3 h4
    rw [x2] at ra
    rw [y2] at rb
    rcases rf_isAhead (lo := 1) (hi := 20) hM1 hk hm1 hd h5 h6 (by omega) with ⟨r1, r2⟩ | ⟨r1, r2⟩
    · have c2 : f_X12_keeps (zI a) (zI b) (zI n) μ1 = some (zI v, μ2) := by
        unfold f_X12_keeps
        simp (disch := omega) only [↓reduceIte, ↓shl_ap, shb_ap, shv_ap, zI_lit, zL_lit, nI_z, lN_z, ofN_z, zI_add, zI_sub, zI_mul, zI_neg, zL_add, zL_sub, zL_mul, zL_neg, zI_l, zI_cl, zI_le_t, zI_le_f, zI_lt_t, zI_lt_f, zI_eq_t, zI_eq_f, zI_in_t, zz_isIn_t, zz_isIn_f, not_true_eq_false, not_false_eq_true, true_or, or_true, false_or, or_false, true_and, and_true, false_and, and_false, Nat.reduceLeDiff, Int.reduceAdd, Int.reduceSub, Int.reduceMul, Int.reduceNeg, Int.reduceToNat, Nat.reduceAdd, Nat.reduceMul, Nat.reduceSub, Int.toNat_natCast, ra, rb, r2, e1, p1, zN_le_t, zN_le_f]
        exact o1
      refine ⟨_, μ1, μ2, c1, c2, h.q (gp_X12_keeps (gp_X11_keeps h.1 c1) c2) ((f0.trans k2).mono (fun r k z => nK_qA hr.1 z)) ((e2.mono (fun r k z => ?_)).trans (o6.mono (fun r k z => ?_))) (o3.trans e330) o4 o5⟩
      · unfold n336 at z
        subst z; exact Or.inr (Or.inr ⟨by omega, by unfold sm_A sm_S; omega⟩)
      · rcases z with z | z
        · exact rN6_qB z
        · subst z; exact Or.inr (Or.inr ⟨by omega, by unfold sm_A sm_S; omega⟩)
    · exact absurd q1 r1
  · refine ⟨zI (-1), μ, μ, ?_, ?_, h⟩
    · unfold f_X11_keeps
      rw [shr_ap hr.2.1]
      simp (disch := omega) only [↓reduceIte, ↓shl_ap, shb_ap, shv_ap, zI_lit, zL_lit, nI_z, lN_z, ofN_z, zI_add, zI_sub, zI_mul, zI_neg, zL_add, zL_sub, zL_mul, zL_neg, zI_l, zI_cl, zI_le_t, zI_le_f, zI_lt_t, zI_lt_f, zI_eq_t, zI_eq_f, zI_in_t, zz_isIn_t, zz_isIn_f, not_true_eq_false, not_false_eq_true, true_or, or_true, false_or, or_false, true_and, and_true, false_and, and_false, Nat.reduceLeDiff, Int.reduceAdd, Int.reduceSub, Int.reduceMul, Int.reduceNeg, Int.reduceToNat, Nat.reduceAdd, Nat.reduceMul, Nat.reduceSub, Int.toNat_natCast, hr.2.1, shr_ap hr.2.1, shp hr.1, ca, cb, q2, zN_le_t, zN_le_f]
    · rw [x2] at ra
      rw [y2] at rb
      rcases rf_isAhead (lo := 1) (hi := 20) hM hk hm hd h5 h6 (by omega) with ⟨r1, r2⟩ | ⟨r1, r2⟩
      · exact absurd r1 q1
      · unfold f_X12_keeps
        simp (disch := omega) only [↓reduceIte, ↓shl_ap, shb_ap, shv_ap, zI_lit, zL_lit, nI_z, lN_z, ofN_z, zI_add, zI_sub, zI_mul, zI_neg, zL_add, zL_sub, zL_mul, zL_neg, zI_l, zI_cl, zI_le_t, zI_le_f, zI_lt_t, zI_lt_f, zI_eq_t, zI_eq_f, zI_in_t, zz_isIn_t, zz_isIn_f, not_true_eq_false, not_false_eq_true, true_or, or_true, false_or, or_false, true_and, and_true, false_and, and_false, Nat.reduceLeDiff, Int.reduceAdd, Int.reduceSub, Int.reduceMul, Int.reduceNeg, Int.reduceToNat, Nat.reduceAdd, Nat.reduceMul, Nat.reduceSub, Int.toNat_natCast, ra, rb, r2, zN_le_t, zN_le_f]
