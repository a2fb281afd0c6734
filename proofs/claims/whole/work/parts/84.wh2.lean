/-! who: the reference; who as a call -/
theorem rf_hAny {μ : sh_Mem} {c : Nat} (hc : c < 49) : f_X12_heightOf (zI c) μ = some (sh_i μ 330 (1 + c), μ) := by
  unfold f_X12_heightOf
  simp (disch := omega) only [↓reduceIte, ↓shl_ap, shb_ap, shv_ap, zI_lit, zL_lit, nI_z, lN_z, ofN_z, zI_add, zI_sub, zI_mul, zI_neg, zL_add, zL_sub, zL_mul, zL_neg, zI_l, zI_cl, zI_le_t, zI_le_f, zI_lt_t, zI_lt_f, zI_eq_t, zI_eq_f, zI_in_t, zz_isIn_t, zz_isIn_f, not_true_eq_false, not_false_eq_true, true_or, or_true, false_or, or_false, true_and, and_true, false_and, and_false, Nat.reduceLeDiff, Int.reduceAdd, Int.reduceSub, Int.reduceMul, Int.reduceNeg, Int.reduceToNat, Nat.reduceAdd, Nat.reduceMul, Nat.reduceSub, Int.toNat_natCast, show (1 + (c : Int)).toNat = 1 + c by omega, zN_le_t, zN_le_f]
theorem thk.s74 {μ0 m : sh_Mem} {v : Int32} (h : thk μ0 m) : thk (sh_setI μ0 291 74 v) (sh_setI m 291 74 v) := by
  obtain ⟨h1, h2, h3, h4⟩ := h
  refine ⟨⟨h1.1, fun r k q => ⟨?_, (h1.2 r k q).2⟩⟩, fun k z => ?_, fun k z => ?_, ?_⟩
  · rw [sh_i_set, sh_i_set]
    by_cases c : r = 291 ∧ k = 74
    · rw [if_pos c, if_pos c]
    · rw [if_neg c, if_neg c]; exact (h1.2 r k q).1
  · rw [ir_set_r (by omega), ir_set_r (by omega)]; exact h2 k z
  · rw [ir_set_r (by omega), ir_set_r (by omega)]; exact h3 k z
  · rw [ir_set_k (by omega)]; exact h4
theorem thk_K {μ0 m μ1 : sh_Mem} {K : kS} (h : thk μ0 m) (h0 : sh_i μ0 330 = sh_i μ1 330) (hK : mkp μ1 K) : mkp m K := by
  obtain ⟨h1, h2, h3, h4⟩ := h
  refine ⟨hK.1, by rw [h2 71 (by omega), h0]; exact hK.2.1, fun j hj => by rw [h2 _ (by omega), h0]; exact hK.2.2 j hj⟩
def nQ (r k : Nat) : Prop := r = 339 ∨ (r = 291 ∧ k = 74)
section Wi
variable {q : Nat} {P : sp_T} {L : sl_T} {S : se_T} {μ1 : sh_Mem} {K : kS}
theorem rf_who3 {i1 i3 : Int32} {p d : Nat} (hp : p < 7) (hd : d ≤ 30) : ∀ (g f c : Nat) (m : sh_Mem), c + g = 49 → g < f → ∃ m', F_X12_laysWho f 3 i1 (zI p) i3 (zI d) (zI c) m = F_X12_laysWho (f - g) 3 i1 (zI p) i3 (zI d) (zI 49) m' ∧ sh_fr (fun r k => r = 339 ∧ 1519 * p + 49 * d + c ≤ k ∧ k < 1519 * p + 49 * d + 49) m m' ∧ ∀ c', c ≤ c' → c' < 49 → sh_i m' 339 (1519 * p + 49 * d + c') = sh_i m 330 (1 + c') := by
  intro g
  induction g with
  | zero =>
    intro f c m hc hf
    have hc : c = 49 := by omega
    subst hc
    exact ⟨m, rfl, sh_fr.rf, fun c' h1 h2 => by omega⟩
  | succ g ih =>
    intro f c m hc hf
    obtain ⟨f, rfl⟩ : ∃ q, f = q + 1 := ⟨f - 1, by omega⟩
    obtain ⟨m', k1, k2, k3⟩ := ih f (c + 1) (sh_setI m 339 (1519 * p + 49 * d + c) (sh_i m 330 (1 + c))) (by omega) (by omega)
    refine ⟨m', ?_, (sh_fr_I sh_fr.rf (by omega)).trans (k2.mono (fun r k z => by omega)), fun c' h1 h2 => ?_⟩
    · rw [show f + 1 - (g + 1) = f - g by omega, ← k1, F_X12_laysWho]
      simp (disch := omega) only [↓reduceIte, ↓shl_ap, shb_ap, shv_ap, zI_lit, zL_lit, nI_z, lN_z, ofN_z, zI_add, zI_sub, zI_mul, zI_neg, zL_add, zL_sub, zL_mul, zL_neg, zI_l, zI_cl, zI_le_t, zI_le_f, zI_lt_t, zI_lt_f, zI_eq_t, zI_eq_f, zI_in_t, zz_isIn_t, zz_isIn_f, not_true_eq_false, not_false_eq_true, true_or, or_true, false_or, or_false, true_and, and_true, false_and, and_false, Nat.reduceLeDiff, Int.reduceAdd, Int.reduceSub, Int.reduceMul, Int.reduceNeg, Int.reduceToNat, Nat.reduceAdd, Nat.reduceMul, Nat.reduceSub, Int.toNat_natCast, rf_hAny (μ := m) (show c < 49 by omega), show (1519 * (p : Int) + 49 * (d : Int) + (c : Int)).toNat = 1519 * p + 49 * d + c by omega, zN_le_t, zN_le_f]
      rfl
    · by_cases z : c' = c
      · subst z; rw [k2.i _ _ (by omega), ir_set]
      · rw [k3 c' (by omega) h2, ir_set_r (by omega)]
/-- what a day of one's leaves -/
def wE (P : sp_T) (L : sl_T) (q : Nat) (m : sh_Mem) (p d : Nat) : Prop := ∀ j, j < sp_c P * sp_r P → sh_i m 339 (1519 * p + 49 * d + ro P j) = zI (sl_h (wL P L q p d) j)
theorem nQ_se {m μ0 : sh_Mem} (hT : thk μ0 m) (hF : sh_fr nQ μ1 μ0) (h : se_m μ1 S) : se_m m S := h.cg ((hT.1.i _ _ (by unfold rN6 rN5; omega)).trans (hF.i _ _ (by unfold nQ; omega))) ((hT.1.row _ (fun k => by unfold rN6 rN5; omega)).trans (hF.row _ (fun k => by unfold nQ; omega)))
theorem nQ_mP {m μ0 : sh_Mem} (hT : thk μ0 m) (hF : sh_fr nQ μ1 μ0) (h : sm_mP μ1 P) : sm_mP m P := h.f3 (fun r k z => (hT.1.i r k (by unfold rN6 rN5; omega)).trans (hF.i r k (by unfold nQ; omega))) ((hT.1.lrow 323 (fun k => by unfold rN6 rN5; omega)).trans (hF.lrow 323 (fun k => by unfold nQ; omega)))
theorem rf_who2 {p s : Nat} (hk : sp_ok P) (hp : p < sp_np P) (hS : se_ok P S) (hl : sl_in P L) (hd0 : sl_d L ≤ 999) (hM1 : sm_mP μ1 P) (hse : se_m μ1 S) (hK : mkp μ1 K) (hs : s < 128) : ∀ (g f d : Nat) (b : Bool) (m μ0 : sh_Mem), d + g = 31 → 60 * g + 2 < f → thk μ0 m → sh_fr nQ μ1 μ0 → sm_mL (sh_i m 330) 0 P (wL P L q p d) → sh_i m 291 60 = zI 0 → sh_i m 291 74 = zI s → (b = true ↔ ∀ d', d' < d → asS P S (wL P L q p d') d' 0) → (∀ d', d' < d → wE P L q m p d') →
    ∃ (f' : Nat) (m' μ0' : sh_Mem), F_X12_laysWho f 2 (zI q) (zI p) (zI (bI b)) (zI d) (zI 0) m = F_X12_laysWho f' 1 (zI q) (zI ((p + 1 : Nat) : Int)) (zI 0) (zI 0) (zI 0) m' ∧ f ≤ f' + 60 * g + 2 ∧ thk μ0' m' ∧ sh_fr nQ μ1 μ0' ∧ sh_i m' 330 = sh_i μ1 330 ∧ sh_i m' 291 60 = zI 0 ∧ (fitP P S L q p 0 → sh_i m' 291 74 = zI ((s ||| 2 ^ p : Nat) : Int)) ∧ (¬ fitP P S L q p 0 → sh_i m' 291 74 = zI s) ∧ (∀ d', d' ≤ 30 → wE P L q m' p d') ∧ ∀ k, ¬ (1519 * p ≤ k ∧ k < 1519 * p + 1519) → sh_i m' 339 k = sh_i m 339 k := by
  have hb := sp_bd hk
  have hcs := sp_cells hk
  intro g
  induction g with
  | zero =>
    intro f d b m μ0 hd hf hT hF hm e60 e74 hbb hE
    obtain ⟨f, rfl⟩ : ∃ q, f = q + 1 := ⟨f - 1, by omega⟩
    have hd : d = 31 := by omega
    subst hd
    obtain ⟨m4, p1, p2, p3, p4⟩ := rf_anew hT
    have e74' : sh_i m4 291 74 = zI s := by rw [p4.i _ _ (by omega)]; exact e74
    have e60' : sh_i m4 291 60 = zI 0 := by rw [p4.i _ _ (by omega)]; exact e60
    have e330 : sh_i m4 330 = sh_i μ1 330 := by rw [p3, hF.row 330 (fun k => by unfold nQ; omega)]
    have hE4 : ∀ d', d' ≤ 30 → wE P L q m4 p d' := fun d' h1 j hj => by rw [p4.i _ _ (by omega)]; exact hE d' (by omega) j hj
    cases b with
    | false =>
      refine ⟨f, m4, μ0, ?_, by omega, p2, hF, e330, e60', fun z => ?_, fun _ => e74', hE4, fun k hk => p4.i _ _ (by omega)⟩
      · rw [F_X12_laysWho, bI_f]
        simp (disch := omega) only [↓reduceIte, ↓shl_ap, shb_ap, shv_ap, zI_lit, zL_lit, nI_z, lN_z, ofN_z, zI_add, zI_sub, zI_mul, zI_neg, zL_add, zL_sub, zL_mul, zL_neg, zI_l, zI_cl, zI_le_t, zI_le_f, zI_lt_t, zI_lt_f, zI_eq_t, zI_eq_f, zI_in_t, zz_isIn_t, zz_isIn_f, not_true_eq_false, not_false_eq_true, true_or, or_true, false_or, or_false, true_and, and_true, false_and, and_false, Nat.reduceLeDiff, Int.reduceAdd, Int.reduceSub, Int.reduceMul, Int.reduceNeg, Int.reduceToNat, Nat.reduceAdd, Nat.reduceMul, Nat.reduceSub, Int.toNat_natCast, p1, zN_le_t, zN_le_f]
        rfl
      · have := hbb.mpr (fun d' h1 => z d' (by omega) (by omega))
        cases this
    | true =>
      have hz := zI_or (s := s) (p := p) hs (by omega)
      refine ⟨f, sh_setI m4 291 74 (zI ((s ||| 2 ^ p : Nat) : Int)), sh_setI μ0 291 74 (zI ((s ||| 2 ^ p : Nat) : Int)), ?_, by omega, p2.s74, sh_fr_I hF (Or.inr ⟨rfl, rfl⟩), by rw [ir_set_r (by omega)]; exact e330, by rw [ir_set_k (by omega)]; exact e60', fun _ => ir_set, fun z => ?_, fun d' h1 j hj => by rw [ir_set_r (by omega)]; exact hE4 d' h1 j hj, fun k hk => by rw [ir_set_r (by omega)]; exact p4.i _ _ (by omega)⟩
      · rw [F_X12_laysWho, bI_t]
        simp (disch := omega) only [↓reduceIte, ↓shl_ap, shb_ap, shv_ap, zI_lit, zL_lit, nI_z, lN_z, ofN_z, zI_add, zI_sub, zI_mul, zI_neg, zL_add, zL_sub, zL_mul, zL_neg, zI_l, zI_cl, zI_le_t, zI_le_f, zI_lt_t, zI_lt_f, zI_eq_t, zI_eq_f, zI_in_t, zz_isIn_t, zz_isIn_f, not_true_eq_false, not_false_eq_true, true_or, or_true, false_or, or_false, true_and, and_true, false_and, and_false, Nat.reduceLeDiff, Int.reduceAdd, Int.reduceSub, Int.reduceMul, Int.reduceNeg, Int.reduceToNat, Nat.reduceAdd, Nat.reduceMul, Nat.reduceSub, Int.toNat_natCast, p1, e74', zI_and31, hz, zN_le_t, zN_le_f]
        rfl
      · exact absurd (fun d' _ h2 => hbb.mp rfl d' (by omega)) z
  | succ g ih =>
    intro f d b m μ0 hd hf hT hF hm e60 e74 hbb hE
    obtain ⟨f, rfl⟩ : ∃ q, f = q + 1 := ⟨f - 1, by omega⟩
    have hin := wL_in (q := q) (p := p) (d := d) hl
    have hday := wL_d (P := P) (L := L) (q := q) (p := p) (d := d)
    have has := rf_as (d := d) hk hS (nQ_se hT hF hse) hm hin (by omega) (by omega) S.1 sh_fuel 0 (by omega) (by have := hS.1; rw [sh_fuel_eq]; omega)
    -- behind the look
    have step : ∀ b' : Bool, (b' = true ↔ ∀ d', d' < d + 1 → asS P S (wL P L q p d') d' 0) → F_X12_laysWho (f + 1) 2 (zI q) (zI p) (zI (bI b)) (zI d) (zI 0) m = F_X12_laysWho f 3 (zI q) (zI p) (zI (bI b')) (zI d) (zI 0) m → ∃ (f' : Nat) (m' μ0' : sh_Mem), F_X12_laysWho (f + 1) 2 (zI q) (zI p) (zI (bI b)) (zI d) (zI 0) m = F_X12_laysWho f' 1 (zI q) (zI ((p + 1 : Nat) : Int)) (zI 0) (zI 0) (zI 0) m' ∧ f + 1 ≤ f' + 60 * (g + 1) + 2 ∧ thk μ0' m' ∧ sh_fr nQ μ1 μ0' ∧ sh_i m' 330 = sh_i μ1 330 ∧ sh_i m' 291 60 = zI 0 ∧ (fitP P S L q p 0 → sh_i m' 291 74 = zI ((s ||| 2 ^ p : Nat) : Int)) ∧ (¬ fitP P S L q p 0 → sh_i m' 291 74 = zI s) ∧ (∀ d', d' ≤ 30 → wE P L q m' p d') ∧ ∀ k, ¬ (1519 * p ≤ k ∧ k < 1519 * p + 1519) → sh_i m' 339 k = sh_i m 339 k := by
      intro b' hb' hst
      obtain ⟨m2, c1, c2, c3⟩ := rf_who3 (i1 := zI q) (i3 := zI (bI b')) (p := p) (d := d) (by omega) (by omega) 49 f 0 m (by omega) (by omega)
      obtain ⟨μ0', d1, d2, d3⟩ := hT.off (x := 339) (c2.mono (fun r k z => z.1)) (by omega)
      have hF' : sh_fr nQ μ1 μ0' := hF.trans (d2.mono (fun r k z => Or.inl z))
      have e330 : sh_i m2 330 = sh_i m 330 := c2.row 330 (fun k => by omega)
      have h0 : sh_i μ0' 330 = sh_i μ1 330 := hF'.row 330 (fun k => by unfold nQ; omega)
      obtain ⟨m3, a1, a2, a3, a4, a5, a6⟩ := rf_day (s := 0) (nQ_mP d1 hF' hM1) (by rw [e330]; exact hm) hk hin (by omega) (by omega) (by rw [c2.i _ _ (by omega)]; exact e60) (thk_K d1 h0 hK)
      rw [← wL_s] at a2
      have hE2 : ∀ d', d' < d + 1 → wE P L q m3 p d' := by
        intro d' h1 j hj
        have hro := ro_lt hk hj
        rw [a4.i _ _ (by unfold rN5; omega)]
        by_cases z : d' = d
        · subst z
          obtain ⟨x1, x2, x3⟩ := sp_div hj
          rw [c3 _ (by omega) hro]
          have := hm.2.1 _ _ x1 x2
          rw [x3, nI_z] at this
          rw [← this]
          unfold ro
          congr 1
          omega
        · rw [c2.i _ _ (by omega)]
          exact hE d' (by omega) j hj
      obtain ⟨f', m', μ0'', k1, k2, k3, k4, k5, k6, k7, k8, k9, k10⟩ := ih (f - 49 - 1) (d + 1) b' m3 μ0' (by omega) (by omega) (d1.st a4 (a6 d1.n0)) hF' a2 (by rw [a4.i _ _ (by unfold rN5; omega), c2.i _ _ (by omega)]; exact e60) (by rw [a4.i _ _ (by unfold rN5; omega), c2.i _ _ (by omega)]; exact e74) hb' hE2
      refine ⟨f', m', μ0'', ?_, by omega, k3, k4, k5, k6, k7, k8, k9, fun k hk => ?_⟩
      · have c1' : F_X12_laysWho f 3 (zI q) (zI p) (zI (bI b')) (zI d) (zI 0) m = _ := c1
        obtain ⟨f2, hf2⟩ : ∃ x, f - 49 = x + 1 := ⟨f - 49 - 1, by omega⟩
        rw [hst, c1', ← k1, show f - 49 - 1 = f2 by omega, hf2, F_X12_laysWho]
        simp (disch := omega) only [↓reduceIte, ↓shl_ap, shb_ap, shv_ap, zI_lit, zL_lit, nI_z, lN_z, ofN_z, zI_add, zI_sub, zI_mul, zI_neg, zL_add, zL_sub, zL_mul, zL_neg, zI_l, zI_cl, zI_le_t, zI_le_f, zI_lt_t, zI_lt_f, zI_eq_t, zI_eq_f, zI_in_t, zz_isIn_t, zz_isIn_f, not_true_eq_false, not_false_eq_true, true_or, or_true, false_or, or_false, true_and, and_true, false_and, and_false, Nat.reduceLeDiff, Int.reduceAdd, Int.reduceSub, Int.reduceMul, Int.reduceNeg, Int.reduceToNat, Nat.reduceAdd, Nat.reduceMul, Nat.reduceSub, Int.toNat_natCast, a1, zN_le_t, zN_le_f]
        rfl
      · rw [k10 k hk, a4.i _ _ (by unfold rN5; omega), c2.i _ _ (by omega)]
    cases b with
    | false =>
      refine step false ⟨fun z => (by cases z), fun z => ?_⟩ ?_
      · have := hbb.mpr (fun d' h1 => z d' (by omega))
        cases this
      · rw [F_X12_laysWho, bI_f]
        simp (disch := omega) only [↓reduceIte, ↓shl_ap, shb_ap, shv_ap, zI_lit, zL_lit, nI_z, lN_z, ofN_z, zI_add, zI_sub, zI_mul, zI_neg, zL_add, zL_sub, zL_mul, zL_neg, zI_l, zI_cl, zI_le_t, zI_le_f, zI_lt_t, zI_lt_f, zI_eq_t, zI_eq_f, zI_in_t, zz_isIn_t, zz_isIn_f, not_true_eq_false, not_false_eq_true, true_or, or_true, false_or, or_false, true_and, and_true, false_and, and_false, Nat.reduceLeDiff, Int.reduceAdd, Int.reduceSub, Int.reduceMul, Int.reduceNeg, Int.reduceToNat, Nat.reduceAdd, Nat.reduceMul, Nat.reduceSub, Int.toNat_natCast, zN_le_t, zN_le_f]
    | true =>
      rcases has with ⟨q1, q2⟩ | ⟨q1, q2⟩
      · have q2' : f_X12_isAsSeen (zI d) m = some (1, m) := q2
        refine step true ⟨fun _ d' h1 => ?_, fun _ => rfl⟩ ?_
        · by_cases z : d' = d
          · subst z; exact q1
          · exact hbb.mp rfl d' (by omega)
        · rw [F_X12_laysWho, bI_t]
          simp (disch := omega) only [↓reduceIte, ↓shl_ap, shb_ap, shv_ap, zI_lit, zL_lit, nI_z, lN_z, ofN_z, zI_add, zI_sub, zI_mul, zI_neg, zL_add, zL_sub, zL_mul, zL_neg, zI_l, zI_cl, zI_le_t, zI_le_f, zI_lt_t, zI_lt_f, zI_eq_t, zI_eq_f, zI_in_t, zz_isIn_t, zz_isIn_f, not_true_eq_false, not_false_eq_true, true_or, or_true, false_or, or_false, true_and, and_true, false_and, and_false, Nat.reduceLeDiff, Int.reduceAdd, Int.reduceSub, Int.reduceMul, Int.reduceNeg, Int.reduceToNat, Nat.reduceAdd, Nat.reduceMul, Nat.reduceSub, Int.toNat_natCast, q2', zN_le_t, zN_le_f]
      · have q2' : f_X12_isAsSeen (zI d) m = some (0, m) := q2
        refine step false ⟨fun z => (by cases z), fun z => absurd (z d (by omega)) q1⟩ ?_
        rw [F_X12_laysWho, bI_t, bI_f]
        simp (disch := omega) only [↓reduceIte, ↓shl_ap, shb_ap, shv_ap, zI_lit, zL_lit, nI_z, lN_z, ofN_z, zI_add, zI_sub, zI_mul, zI_neg, zL_add, zL_sub, zL_mul, zL_neg, zI_l, zI_cl, zI_le_t, zI_le_f, zI_lt_t, zI_lt_f, zI_eq_t, zI_eq_f, zI_in_t, zz_isIn_t, zz_isIn_f, not_true_eq_false, not_false_eq_true, true_or, or_true, false_or, or_false, true_and, and_true, false_and, and_false, Nat.reduceLeDiff, Int.reduceAdd, Int.reduceSub, Int.reduceMul, Int.reduceNeg, Int.reduceToNat, Nat.reduceAdd, Nat.reduceMul, Nat.reduceSub, Int.toNat_natCast, q2', zN_le_t, zN_le_f]
theorem rf_who1 (hk : sp_ok P) (hq : q < sp_nt P) (hS : se_ok P S) (hl : sl_in P L) (hd0 : sl_d L ≤ 999) (hM1 : sm_mP μ1 P) (hm1 : sm_mL (sh_i μ1 330) 0 P L) (hse : se_m μ1 S) (hK : mkp μ1 K) : ∀ (g f p s : Nat) (m μ0 : sh_Mem), p + g = sp_np P → 2000 * g + 2 < f → thk μ0 m → sh_fr nQ μ1 μ0 → sh_i m 330 = sh_i μ1 330 → sh_i m 291 60 = zI 0 → sh_i m 291 74 = zI s → s < 2 ^ sp_np P → (∀ p', p' < sp_np P → (s / 2 ^ p' % 2 = 1 ↔ p' < p ∧ fitP P S L q p' 0)) → (∀ p', p' < p → ∀ d', d' ≤ 30 → wE P L q m p' d') →
    ∃ (s' : Nat) (m' : sh_Mem), F_X12_laysWho f 1 (zI q) (zI p) (zI 0) (zI 0) (zI 0) m = some m' ∧ sh_i m' 330 = sh_i μ1 330 ∧ sh_i m' 291 57 = 0 ∧ sh_i m' 291 60 = 0 ∧ sh_fr (fun r k => rN6 r k ∨ nQ r k) μ1 m' ∧ sh_i m' 291 74 = zI s' ∧ whoB P S L q s' ∧ ∀ p', p' < sp_np P → ∀ d', d' ≤ 30 → wE P L q m' p' d' := by
  have hb := sp_bd hk
  have h128 := pw128 (show sp_np P ≤ 7 by omega)
  intro g
  induction g with
  | zero =>
    intro f p s m μ0 hp hf hT hF h330 e60 e74 hs hbits hE
    obtain ⟨f, rfl⟩ : ∃ q, f = q + 1 := ⟨f - 1, by omega⟩
    have hp : p = sp_np P := by omega
    subst hp
    obtain ⟨m', v1, v2, v3, v4, v5, v6⟩ := rf_back hT
    refine ⟨s, m', ?_, ?_, v3, v4, (hF.mono (fun r k z => Or.inr z)).trans (v5.mono (fun r k z => Or.inl z)), ?_, ⟨hs, fun p' h1 => ?_⟩, fun p' h1 d' h2 j hj => ?_⟩
    · rw [F_X12_laysWho, rf_personMany (nQ_mP hT hF hM1)]
      simp (disch := omega) only [↓reduceIte, ↓shl_ap, shb_ap, shv_ap, zI_lit, zL_lit, nI_z, lN_z, ofN_z, zI_add, zI_sub, zI_mul, zI_neg, zL_add, zL_sub, zL_mul, zL_neg, zI_l, zI_cl, zI_le_t, zI_le_f, zI_lt_t, zI_lt_f, zI_eq_t, zI_eq_f, zI_in_t, zz_isIn_t, zz_isIn_f, not_true_eq_false, not_false_eq_true, true_or, or_true, false_or, or_false, true_and, and_true, false_and, and_false, Nat.reduceLeDiff, Int.reduceAdd, Int.reduceSub, Int.reduceMul, Int.reduceNeg, Int.reduceToNat, Nat.reduceAdd, Nat.reduceMul, Nat.reduceSub, Int.toNat_natCast, v1, zN_le_t, zN_le_f]
    · rw [v2, hF.row 330 (fun k => by unfold nQ; omega)]
    · rw [v6.i _ _ (by omega)]; exact e74
    · rw [hbits p' h1]
      exact ⟨fun z => z.2, fun z => ⟨h1, z⟩⟩
    · rw [v6.i _ _ (by omega)]; exact hE p' h1 d' h2 j hj
  | succ g ih =>
    intro f p s m μ0 hp hf hT hF h330 e60 e74 hs hbits hE
    obtain ⟨f, rfl⟩ : ∃ q, f = q + 1 := ⟨f - 1, by omega⟩
    have hpp : p < sp_np P := by omega
    have h0 : sh_i μ0 330 = sh_i μ1 330 := hF.row 330 (fun k => by unfold nQ; omega)
    obtain ⟨m1, a1, a2, a3, a4, a5, a6, a7⟩ := rf_askK (s := 0) (p := p) (q := q) (nQ_mP hT hF hM1) (by rw [h330]; exact hm1) hk hl (by omega) hpp hq (by omega) e60 (by rw [Nat.zero_div]) (thk_K hT h0 hK)
    have hT1 : thk μ0 m1 := hT.st a5 (a7 hT.n0)
    obtain ⟨f', m2, μ0', c1, c2, c3, c4, c5, c6, c7, c8, c9, c10⟩ := rf_who2 (q := q) (p := p) (s := s) hk hpp hS hl hd0 hM1 hse hK (by omega) 31 f 0 true m1 μ0 (by omega) (by omega) hT1 hF a2 (by rw [a5.i _ _ (by unfold rN5; omega)]; exact e60) (by rw [a5.i _ _ (by unfold rN5; omega)]; exact e74) ⟨fun _ d' z => by omega, fun _ => rfl⟩ (fun d' z => by omega)
    have hE2 : ∀ p', p' < p + 1 → ∀ d', d' ≤ 30 → wE P L q m2 p' d' := by
      intro p' h1 d' h2 j hj
      have hro := ro_lt hk hj
      by_cases z : p' = p
      · subst z; exact c9 d' h2 j hj
      · rw [c10 _ (by omega), a5.i _ _ (by unfold rN5; omega)]
        exact hE p' (by omega) d' h2 j hj
    have hst : F_X12_laysWho (f + 1) 1 (zI q) (zI p) (zI 0) (zI 0) (zI 0) m = F_X12_laysWho f 2 (zI q) (zI p) (zI (bI true)) (zI ((0 : Nat) : Int)) (zI 0) m1 := by
      rw [F_X12_laysWho, rf_personMany (nQ_mP hT hF hM1)]
      simp (disch := omega) only [↓reduceIte, ↓shl_ap, shb_ap, shv_ap, zI_lit, zL_lit, nI_z, lN_z, ofN_z, zI_add, zI_sub, zI_mul, zI_neg, zL_add, zL_sub, zL_mul, zL_neg, zI_l, zI_cl, zI_le_t, zI_le_f, zI_lt_t, zI_lt_f, zI_eq_t, zI_eq_f, zI_in_t, zz_isIn_t, zz_isIn_f, not_true_eq_false, not_false_eq_true, true_or, or_true, false_or, or_false, true_and, and_true, false_and, and_false, Nat.reduceLeDiff, Int.reduceAdd, Int.reduceSub, Int.reduceMul, Int.reduceNeg, Int.reduceToNat, Nat.reduceAdd, Nat.reduceMul, Nat.reduceSub, Int.toNat_natCast, a1, zN_le_t, zN_le_f]
      rfl
    have fin : ∀ s2 : Nat, s2 < 2 ^ sp_np P → sh_i m2 291 74 = zI s2 → (∀ p', p' < sp_np P → (s2 / 2 ^ p' % 2 = 1 ↔ p' < p + 1 ∧ fitP P S L q p' 0)) → ∃ (s' : Nat) (m' : sh_Mem), F_X12_laysWho (f + 1) 1 (zI q) (zI p) (zI 0) (zI 0) (zI 0) m = some m' ∧ sh_i m' 330 = sh_i μ1 330 ∧ sh_i m' 291 57 = 0 ∧ sh_i m' 291 60 = 0 ∧ sh_fr (fun r k => rN6 r k ∨ nQ r k) μ1 m' ∧ sh_i m' 291 74 = zI s' ∧ whoB P S L q s' ∧ ∀ p', p' < sp_np P → ∀ d', d' ≤ 30 → wE P L q m' p' d' := by
      intro s2 g1 g2 g3
      obtain ⟨s', m', k1, k2⟩ := ih f' (p + 1) s2 m2 μ0' (by omega) (by omega) c3 c4 c5 c6 g2 g1 g3 hE2
      exact ⟨s', m', by rw [hst, c1, k1], k2⟩
    by_cases cf : fitP P S L q p 0
    · refine fin (s ||| 2 ^ p) (or_lt hs hpp) (c7 cf) (fun p' h1 => ?_)
      rw [or_bit (by omega) (by omega) (by omega)]
      by_cases z : p' = p
      · subst z; rw [if_pos rfl]; exact ⟨fun _ => ⟨by omega, cf⟩, fun _ => rfl⟩
      · rw [if_neg z, hbits p' h1]
        exact ⟨fun w => ⟨by omega, w.2⟩, fun w => ⟨by omega, w.2⟩⟩
    · refine fin s hs (c8 cf) (fun p' h1 => ?_)
      rw [hbits p' h1]
      refine ⟨fun w => ⟨by omega, w.2⟩, fun w => ⟨?_, w.2⟩⟩
      by_cases z : p' = p
      · subst z; exact absurd w.2 cf
      · omega
theorem rf_who (hk : sp_ok P) (hq : q < sp_nt P) (hS : se_ok P S) (hl : sl_in P L) (hd0 : sl_d L ≤ 999) (hM1 : sm_mP μ1 P) (hm1 : sm_mL (sh_i μ1 330) 0 P L) (hse : se_m μ1 S) (hK : mkp μ1 K) (e60 : sh_i μ1 291 60 = 0) : ∃ (s : Nat) (m' : sh_Mem), f_X12_laysWho (zI q) μ1 = some m' ∧ sh_i m' 330 = sh_i μ1 330 ∧ sh_i m' 291 57 = 0 ∧ sh_i m' 291 60 = 0 ∧ sh_fr (fun r k => rN6 r k ∨ nQ r k) μ1 m' ∧ sh_i m' 291 74 = zI s ∧ whoB P S L q s ∧ ∀ p', p' < sp_np P → ∀ d', d' ≤ 30 → wE P L q m' p' d' := by
  have hb := sp_bd hk
  obtain ⟨m0, hm0⟩ : ∃ m, m = sh_setI μ1 291 74 (zI 0) := ⟨_, rfl⟩
  have f0 : sh_fr nQ μ1 m0 := by rw [hm0]; exact sh_fr_I sh_fr.rf (Or.inr ⟨rfl, rfl⟩)
  obtain ⟨m1, p1, p2, p3, p4, p5⟩ := rf_aside (μ := m0)
  have hpos := Nat.two_pow_pos (sp_np P)
  obtain ⟨s, m', k1, k2⟩ := rf_who1 (q := q) (S := S) hk hq hS hl hd0 hM1 hm1 hse hK (sp_np P) sh_fuel 0 0 m1 m0 (by omega) (by rw [sh_fuel_eq]; omega) p2 f0 (by rw [p3, f0.row 330 (fun k => by unfold nQ; omega)]) (by rw [p4, f0.i _ _ (by unfold nQ; omega), e60]; rfl) (by rw [p5.i _ _ (by omega), hm0, ir_set]; rfl) (by omega) (fun p' h1 => ⟨fun z => by rw [Nat.zero_div] at z; omega, fun z => by omega⟩) (fun p' h1 => by omega)
  refine ⟨s, m', ?_, k2⟩
  have hm0' : sh_setI μ1 291 74 0 = m0 := hm0.symm
  unfold f_X12_laysWho
  rw [shl_ap, hm0', p1, shv_ap]
  exact k1
end Wi
theorem pr_20 : ∀ (μ : sh_Mem) (b1 : Int32), Sim μ → ∃ (v : Int32) (μ1 μ2 : sh_Mem), f_X11_who b1 μ = some (v, μ1) ∧ f_X12_who b1 μ1 = some (v, μ2) ∧ Sim μ2 := by
  intro μ b1 h
  obtain ⟨-, -, -, -, -, -, t, P, L, hR⟩ := id h
  obtain ⟨hr, hk, hl, hP, hM, hc, hm, hkp, hu, hsn, z1, z2, -⟩ := id hR
  obtain ⟨a, h1, h2, rfl⟩ := zI_of b1
  have hd := hl.1
  have eT := cl_isTopic hr.2.1 hr.1 hP hk h1 h2
  by_cases c : 0 ≤ a ∧ a < sp_nt P
  · obtain ⟨q, rfl⟩ := Int.eq_ofNat_of_zero_le c.1
    have hq : q < sp_nt P := by omega
    obtain ⟨S, S1, S2, S3⟩ := hsn.T hk
    obtain ⟨K, K1, K2⟩ := hkp.K
    obtain ⟨s, μ1, a1, a2, a3⟩ := cl_whoFits (t := t) (P := P) (S := S) (L := L) (q := q) ⟨hr.2.2.1, hr.1, hP, hk⟩ S1 S2 hc hl.2 hd hq
    rw [if_pos c] at eT
    have c1 : f_X11_who (zI q) μ = some (zI s, μ1) := by
      unfold f_X11_who
      rw [eT, shb_ap, if_neg (by decide), a1]
      rfl
    have hof : sh_offM μ μ1 := fp_X11_who h.1 c1
    have nh : ∀ r, 291 ≤ r → sh_i μ1 r = sh_i μ r := fun r z => (hof r z).1
    have hM1 := hM.off hof
    have hm1 : sm_mL (sh_i μ1 330) 0 P L := by rw [nh _ (by omega)]; exact hm
    obtain ⟨s', μ2, d1, d2, d3, d4, d5, d6, d7, -⟩ := rf_who (q := q) (S := S) hk hq S1 hl.2 hd hM1 hm1 (S3.cg (by rw [nh _ (by omega)]) (nh _ (by omega))) (K2.cg (nh _ (by omega))) (by rw [nh _ (by omega)]; exact z2)
    have hs := whoB_u hk a3 d7
    subst hs
    have eM := rf_isTopic (a := (q : Int)) hM1 hk (by omega) (by omega)
    rw [if_pos c] at eM
    have c2 : f_X12_who (zI q) μ1 = some (zI s, μ2) := by
      unfold f_X12_who
      rw [zI_l h1 h2, eM, shb_ap, if_neg (by decide), d1, shv_ap, d6]
    refine ⟨_, μ1, μ2, c1, c2, h.q (gp_X12_who (gp_X11_who h.1 c1) c2) (a2.mono (fun r k z => nW_qA hr.1 z)) (d5.mono (fun r k z => ?_)) d2 d3 d4⟩
    rcases z with z | z
    · exact rN6_qB z
    · unfold nQ at z
      exact Or.inr (Or.inr ⟨by omega, by unfold sm_A sm_S; omega⟩)
  · rw [if_neg c] at eT
    refine ⟨zI (-1), μ, μ, ?_, ?_, h⟩
    · unfold f_X11_who
      rw [eT, shb_ap, if_pos rfl]
      rfl
    · have eM := rf_isTopic (a := a) hM hk (by omega) (by omega)
      rw [if_neg c] at eM
      unfold f_X12_who
      rw [zI_l h1 h2, eM, shb_ap, if_pos rfl]
      rfl
