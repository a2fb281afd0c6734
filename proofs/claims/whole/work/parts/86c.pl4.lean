/-! plans: the reference -/
def nY (r _k : Nat) : Prop := r = 333 ∨ r = 334 ∨ r = 335
def TT (μ1 m : sh_Mem) : Prop := ∃ μ0, thk μ0 m ∧ sh_fr nY μ1 μ0
theorem TT.off {μ1 m m' : sh_Mem} {x : Nat} (h : TT μ1 m) (hf : sh_fr (fun r _ => r = x) m m') (hx : x = 333 ∨ x = 334 ∨ x = 335) : TT μ1 m' := by
  obtain ⟨μ0, h1, h2⟩ := h
  obtain ⟨μ0', d1, d2, -⟩ := h1.off hf (by omega)
  exact ⟨μ0', d1, h2.trans (d2.mono (fun r k z => by unfold nY; omega))⟩
theorem TT.st {μ1 m m' : sh_Mem} (h : TT μ1 m) (hf : sh_fr rN5 m m') (hk : ∀ k, 71 ≤ k → sh_i m' 330 k = sh_i m 330 k) : TT μ1 m' := by
  obtain ⟨μ0, h1, h2⟩ := h
  exact ⟨μ0, h1.st hf hk, h2⟩
theorem TT.r330 {μ1 m m' : sh_Mem} (h : TT μ1 m) (hf : sh_fr (fun r k => r = 330 ∧ k < 71) m m') : TT μ1 m' := by
  refine h.st (hf.mono (fun r k z => by unfold rN5; omega)) (fun k hk => hf.i _ _ (by omega))
theorem TT.n0 {μ1 m : sh_Mem} (h : TT μ1 m) : ¬ sh_i m 291 57 = 0 := by
  obtain ⟨μ0, h1, -⟩ := h
  exact h1.n0
theorem TT.mP {μ1 m : sh_Mem} {P : sp_T} (h : TT μ1 m) (hM : sm_mP μ1 P) : sm_mP m P := by
  obtain ⟨μ0, h1, h2⟩ := h
  exact hM.f3 (fun r k z => (h1.1.i r k (by unfold rN6 rN5; omega)).trans (h2.i r k (by unfold nY; omega))) ((h1.1.lrow 323 (fun k => by unfold rN6 rN5; omega)).trans (h2.lrow 323 (fun k => by unfold nY; omega)))
theorem TT.K {μ1 m : sh_Mem} {K : kS} (h : TT μ1 m) (hK : mkp μ1 K) : mkp m K := by
  obtain ⟨μ0, h1, h2⟩ := h
  exact thk_K h1 (h2.row 330 (fun k => by unfold nY; omega)) hK
theorem TT.e {μ1 m : sh_Mem} (h : TT μ1 m) {k : Nat} (hk : 61 ≤ k ∧ k ≤ 70) : sh_i m 291 k = sh_i μ1 291 k := by
  obtain ⟨μ0, h1, h2⟩ := h
  exact (h1.1.i 291 k (by unfold rN6 rN5; omega)).trans (h2.i 291 k (by unfold nY; omega))
theorem TT.anew {μ1 m : sh_Mem} (h : TT μ1 m) : ∃ m', f_X12_triesAnew m = some m' ∧ TT μ1 m' ∧ sh_i m' 330 = sh_i μ1 330 ∧ sh_fr (fun r _ => r = 330) m m' := by
  obtain ⟨μ0, h1, h2⟩ := h
  obtain ⟨m', p1, p2, p3, p4⟩ := rf_anew h1
  exact ⟨m', p1, ⟨μ0, p2, h2⟩, by rw [p3, h2.row 330 (fun k => by unfold nY; omega)], p4⟩
theorem TT.back {μ1 m : sh_Mem} (h : TT μ1 m) : ∃ m', f_X12_takesBack m = some m' ∧ sh_i m' 330 = sh_i μ1 330 ∧ sh_i m' 291 57 = 0 ∧ sh_i m' 291 60 = 0 ∧ sh_fr (fun r k => rN6 r k ∨ nY r k) μ1 m' ∧ sh_i m' 333 = sh_i m 333 := by
  obtain ⟨μ0, h1, h2⟩ := h
  obtain ⟨m', v1, v2, v3, v4, v5, v6⟩ := rf_back h1
  exact ⟨m', v1, by rw [v2, h2.row 330 (fun k => by unfold nY; omega)], v3, v4, (h2.mono (fun r k z => Or.inr z)).trans (v5.mono (fun r k z => Or.inl z)), v6.row 333 (fun k => by omega)⟩
/-- where the cells and heights of a plan stand -/
def rV (P : sp_T) (up ht st S0 : Nat) (m : sh_Mem) : Prop := sh_i m 291 65 = zI (ro P up : Int) ∧ sh_i m 291 66 = zI ht ∧ sh_i m 291 67 = zI (ro P st : Int) ∧ sh_i m 291 68 = zI S0
theorem TT.rV {μ1 m : sh_Mem} {P : sp_T} {up ht st S0 : Nat} (h : TT μ1 m) (hv : rV P up ht st S0 μ1) : rV P up ht st S0 m := by
  obtain ⟨a, b, c, d⟩ := hv
  exact ⟨(h.e (by omega)).trans a, (h.e (by omega)).trans b, (h.e (by omega)).trans c, (h.e (by omega)).trans d⟩
section Pr
variable {P : sp_T} {D : sl_T} {up ht st S0 : Nat} {μ1 m : sh_Mem} {K : kS}
theorem rf_so (hk : sp_ok P) (hl : sl_in P D) (hm : sm_mL (sh_i m 330) 0 P D) (hv : rV P up ht st S0 m) (hup : up < sp_c P * sp_r P) (hst : st < sp_c P * sp_r P) (hht : ht ≤ 99) (hS0 : S0 ≤ 99) : f_X12_isSo m = some (zI (bI (prr P (pgl up ht st S0) 0 D).isSome), m) := by
  obtain ⟨a, b, c, d⟩ := hv
  have e1 : f_X12_heightOf (zI (ro P up : Int)) m = some (zI (sl_h D up), m) := rf_heightOrd hm hk hup
  have e2 : f_X12_heightOf (zI (ro P st : Int)) m = some (zI (sl_h D st), m) := rf_heightOrd hm hk hst
  have h1 := hl.1 up hup
  have h2 := hl.1 st hst
  have hpr : prr P (pgl up ht st S0) 0 D = if pgl up ht st S0 D then some [] else none := rfl
  rw [hpr]
  unfold f_X12_isSo
  rw [a, e1, shb_ap, b, c]
  by_cases c1 : ht ≤ sl_h D up
  · rw [if_neg (fun z => by have := (zI_lt (by omega) (by omega) (by omega) (by omega)).mp z; omega), e2, shb_ap, d]
    by_cases c2 : sl_h D st = S0
    · rw [if_pos (congrArg zI (by omega)), if_pos (show pgl up ht st S0 D = true from decide_eq_true ⟨c1, c2⟩)]
      rfl
    · rw [if_neg (fun z => by have := (zI_eq (by omega) (by omega) (by omega) (by omega)).mp z; omega), if_neg (show ¬ pgl up ht st S0 D = true from fun z => c2 (of_decide_eq_true z).2)]
      rfl
  · rw [if_pos ((zI_lt (by omega) (by omega) (by omega) (by omega)).mpr (by omega)), if_neg (show ¬ pgl up ht st S0 D = true from fun z => c1 (of_decide_eq_true z).1)]
    rfl
theorem pa_pq {a : Nat} (h : a < sp_np P * sp_nt P) : 0 < sp_nt P ∧ a / sp_nt P < sp_np P ∧ a % sp_nt P < sp_nt P := by
  have h0 : 0 < sp_nt P := Nat.pos_of_ne_zero (fun q => by rw [q] at h; omega)
  exact ⟨h0, Nat.div_lt_of_lt_mul (by rw [Nat.mul_comm]; exact h), Nat.mod_lt _ h0⟩
theorem pa_35 (hk : sp_ok P) : sp_np P * sp_nt P ≤ 35 := by
  have hb := sp_bd hk
  exact Nat.le_trans (Nat.mul_le_mul hb.2.2.2.1 hb.2.2.1) (by decide)
theorem rf_many (hM : sm_mP m P) : f_X12_askingMany m = some (zI ((sp_np P * sp_nt P : Nat) : Int), m) := by
  unfold f_X12_askingMany
  rw [rf_personMany hM, shb_ap, rf_topicMany hM, shb_ap, zI_mul, Int.natCast_mul]
theorem rf_sh {a : Nat} (hk : sp_ok P) (hl : sl_in P D) (hdd : sl_d D ≤ 1000) (hT : TT μ1 m) (hM1 : sm_mP μ1 P) (hK : mkp μ1 K) (hm : sm_mL (sh_i m 330) 0 P D) (e60 : sh_i m 291 60 = zI 0) (ha : a < sp_np P * sp_nt P) : ∃ m', f_X12_doesShrug (zI a) m = some (if wd P D (a / sp_nt P) (a % sp_nt P) = 2 then 1 else 0, m') ∧ TT μ1 m' ∧ sm_mL (sh_i m' 330) 0 P (aL P D (a / sp_nt P) (a % sp_nt P)) ∧ sh_i m' 291 60 = zI 0 ∧ sh_fr rN5 m m' := by
  obtain ⟨h0, hp, hq⟩ := pa_pq ha
  have h35 := pa_35 hk
  have hb := sp_bd hk
  have hM := hT.mP hM1
  obtain ⟨m', a1, a2, a3, a4, a5, a6, a7⟩ := rf_askK (s := 0) (p := a / sp_nt P) (q := a % sp_nt P) hM hm hk hl (by omega) hp hq (by omega) e60 (by rw [Nat.zero_div]) (hT.K hK)
  refine ⟨m', ?_, hT.st a5 (a7 hT.n0), a2, by rw [a5.i _ _ (by unfold rN5; omega)]; exact e60, a5⟩
  have ed : zI (a : Int) / zI (sp_nt P) = zI ((a / sp_nt P : Nat) : Int) := by rw [zI_div (by omega)]; rfl
  have em : zI (a : Int) - zI (a : Int) / zI (sp_nt P) * zI (sp_nt P) = zI ((a % sp_nt P : Nat) : Int) := by
    rw [zI_div (by omega), zI_mul, zI_sub, zI_mod (by omega)]
    rfl
  have n0 : ¬ zI (sp_nt P) = 0 := fun z => by
    have := (zI_eq (b := 0) (by omega) (by omega) (by omega) (by omega)).mp z
    omega
  have hwl := wd_le (P := P) (L := D) (p := a / sp_nt P) (q := a % sp_nt P)
  unfold f_X12_doesShrug
  rw [rf_topicMany hM, shb_ap, if_pos n0, rf_topicMany hM, shb_ap, if_pos n0, em, ed, a1, shb_ap]
  by_cases c : wd P D (a / sp_nt P) (a % sp_nt P) = 2
  · rw [if_pos c, c, if_pos (show zI ((2 : Nat) : Int) = 2 from rfl)]
  · rw [if_neg c, if_neg (fun z => by
      have := (zI_eq (a := (wd P D (a / sp_nt P) (a % sp_nt P) : Int)) (b := 2) (by omega) (by omega) (by omega) (by omega)).mp z
      omega)]
/-- the numbers of the askings, from place i0 on -/
def pQ (P : sp_T) (m : sh_Mem) (i0 : Nat) (o : Option (List Nat)) : Prop := ∀ r, o = some r → ∀ i, i < r.length → ∃ a, a < sp_np P * sp_nt P ∧ sh_i m 333 (i0 + i) = zI a ∧ r.getD i 0 = 8 * (a / sp_nt P) + a % sp_nt P
theorem mL_cp {m' : sh_Mem} (hk : sp_ok P) (hm : sm_mL (sh_i m 330) 0 P D) (e : ∀ k, k < 71 → sh_i m' 330 k = sh_i m 330 k) : sm_mL (sh_i m' 330) 0 P D := by
  have hb := sp_bd hk
  obtain ⟨a, b, c⟩ := hm
  refine ⟨(e 0 (by omega)).trans a, fun x y hx hy => (e _ (by omega)).trans (b x y hx hy), fun p hp => ?_⟩
  obtain ⟨c1, c2, c3⟩ := c p hp
  exact ⟨(e _ (by omega)).trans c1, (e _ (by omega)).trans c2, (e _ (by omega)).trans c3⟩
theorem rf_th1 : ∀ (g f k : Nat) (m : sh_Mem), k + g = 71 → g < f → ∃ m', F_X12_isThird f 1  (zI k) (zI 0) m = F_X12_isThird (f - g) 1  (zI 71) (zI 0) m' ∧ sh_fr (fun r k' => r = 335 ∧ k ≤ k' ∧ k' < 71) m m' ∧ ∀ k', k ≤ k' → k' < 71 → sh_i m' 335 k' = sh_i m 330 k' := by
  intro g
  induction g with
  | zero =>
    intro f k m hk hf
    have hk : k = 71 := by omega
    subst hk
    exact ⟨m, rfl, sh_fr.rf, fun k' h1 h2 => by omega⟩
  | succ g ih =>
    intro f k m hk hf
    obtain ⟨f, rfl⟩ : ∃ q, f = q + 1 := ⟨f - 1, by omega⟩
    obtain ⟨m', k1, k2, k3⟩ := ih f (k + 1) (sh_setI m 335 k (sh_i m 330 k)) (by omega) (by omega)
    refine ⟨m', ?_, (sh_fr_I sh_fr.rf (by omega)).trans (k2.mono (fun r k z => by omega)), fun k' h1 h2 => ?_⟩
    · rw [show f + 1 - (g + 1) = f - g by omega, ← k1, F_X12_isThird]
      simp (disch := omega) only [↓reduceIte, ↓shl_ap, shb_ap, shv_ap, zI_lit, zL_lit, nI_z, lN_z, ofN_z, zI_add, zI_sub, zI_mul, zI_neg, zL_add, zL_sub, zL_mul, zL_neg, zI_l, zI_cl, zI_le_t, zI_le_f, zI_lt_t, zI_lt_f, zI_eq_t, zI_eq_f, zI_in_t, zz_isIn_t, zz_isIn_f, not_true_eq_false, not_false_eq_true, true_or, or_true, false_or, or_false, true_and, and_true, false_and, and_false, Nat.reduceLeDiff, Int.reduceAdd, Int.reduceSub, Int.reduceMul, Int.reduceNeg, Int.reduceToNat, Nat.reduceAdd, Nat.reduceMul, Nat.reduceSub, Int.toNat_natCast, zN_le_t, zN_le_f]
      rfl
    · by_cases z : k' = k
      · subst z; rw [k2.i _ _ (by omega), ir_set]
      · rw [k3 k' (by omega) h2, ir_set_r (by omega)]
theorem rf_th3 {i1 : Int32} : ∀ (g f k : Nat) (m : sh_Mem), k + g = 71 → g < f → ∃ m', F_X12_isThird f 3 i1 (zI k)  m = F_X12_isThird (f - g) 3 i1 (zI 71)  m' ∧ sh_fr (fun r k' => r = 330 ∧ k ≤ k' ∧ k' < 71) m m' ∧ ∀ k', k ≤ k' → k' < 71 → sh_i m' 330 k' = sh_i m 335 k' := by
  intro g
  induction g with
  | zero =>
    intro f k m hk hf
    have hk : k = 71 := by omega
    subst hk
    exact ⟨m, rfl, sh_fr.rf, fun k' h1 h2 => by omega⟩
  | succ g ih =>
    intro f k m hk hf
    obtain ⟨f, rfl⟩ : ∃ q, f = q + 1 := ⟨f - 1, by omega⟩
    obtain ⟨m', k1, k2, k3⟩ := ih f (k + 1) (sh_setI m 330 k (sh_i m 335 k)) (by omega) (by omega)
    refine ⟨m', ?_, (sh_fr_I sh_fr.rf (by omega)).trans (k2.mono (fun r k z => by omega)), fun k' h1 h2 => ?_⟩
    · rw [show f + 1 - (g + 1) = f - g by omega, ← k1, F_X12_isThird]
      simp (disch := omega) only [↓reduceIte, ↓shl_ap, shb_ap, shv_ap, zI_lit, zL_lit, nI_z, lN_z, ofN_z, zI_add, zI_sub, zI_mul, zI_neg, zL_add, zL_sub, zL_mul, zL_neg, zI_l, zI_cl, zI_le_t, zI_le_f, zI_lt_t, zI_lt_f, zI_eq_t, zI_eq_f, zI_in_t, zz_isIn_t, zz_isIn_f, not_true_eq_false, not_false_eq_true, true_or, or_true, false_or, or_false, true_and, and_true, false_and, and_false, Nat.reduceLeDiff, Int.reduceAdd, Int.reduceSub, Int.reduceMul, Int.reduceNeg, Int.reduceToNat, Nat.reduceAdd, Nat.reduceMul, Nat.reduceSub, Int.toNat_natCast, zN_le_t, zN_le_f]
      rfl
    · by_cases z : k' = k
      · subst z; rw [k2.i _ _ (by omega), ir_set]
      · rw [k3 k' (by omega) h2, ir_set_r (by omega)]
theorem rf_t2o {i1 i2 : Int32} : ∀ (g f k : Nat) (m : sh_Mem), k + g = 71 → g < f → ∃ m', F_X12_isTwo f 2 i1 i2 (zI k) (zI 0) m = F_X12_isTwo (f - g) 2 i1 i2 (zI 71) (zI 0) m' ∧ sh_fr (fun r k' => r = 334 ∧ k ≤ k' ∧ k' < 71) m m' ∧ ∀ k', k ≤ k' → k' < 71 → sh_i m' 334 k' = sh_i m 330 k' := by
  intro g
  induction g with
  | zero =>
    intro f k m hk hf
    have hk : k = 71 := by omega
    subst hk
    exact ⟨m, rfl, sh_fr.rf, fun k' h1 h2 => by omega⟩
  | succ g ih =>
    intro f k m hk hf
    obtain ⟨f, rfl⟩ : ∃ q, f = q + 1 := ⟨f - 1, by omega⟩
    obtain ⟨m', k1, k2, k3⟩ := ih f (k + 1) (sh_setI m 334 k (sh_i m 330 k)) (by omega) (by omega)
    refine ⟨m', ?_, (sh_fr_I sh_fr.rf (by omega)).trans (k2.mono (fun r k z => by omega)), fun k' h1 h2 => ?_⟩
    · rw [show f + 1 - (g + 1) = f - g by omega, ← k1, F_X12_isTwo]
      simp (disch := omega) only [↓reduceIte, ↓shl_ap, shb_ap, shv_ap, zI_lit, zL_lit, nI_z, lN_z, ofN_z, zI_add, zI_sub, zI_mul, zI_neg, zL_add, zL_sub, zL_mul, zL_neg, zI_l, zI_cl, zI_le_t, zI_le_f, zI_lt_t, zI_lt_f, zI_eq_t, zI_eq_f, zI_in_t, zz_isIn_t, zz_isIn_f, not_true_eq_false, not_false_eq_true, true_or, or_true, false_or, or_false, true_and, and_true, false_and, and_false, Nat.reduceLeDiff, Int.reduceAdd, Int.reduceSub, Int.reduceMul, Int.reduceNeg, Int.reduceToNat, Nat.reduceAdd, Nat.reduceMul, Nat.reduceSub, Int.toNat_natCast, zN_le_t, zN_le_f]
      rfl
    · by_cases z : k' = k
      · subst z; rw [k2.i _ _ (by omega), ir_set]
      · rw [k3 k' (by omega) h2, ir_set_r (by omega)]
theorem rf_t2b {i1 i2 i3 : Int32} : ∀ (g f k : Nat) (m : sh_Mem), k + g = 71 → g < f → ∃ m', F_X12_isTwo f 4 i1 i2 i3 (zI k)  m = F_X12_isTwo (f - g) 4 i1 i2 i3 (zI 71)  m' ∧ sh_fr (fun r k' => r = 330 ∧ k ≤ k' ∧ k' < 71) m m' ∧ ∀ k', k ≤ k' → k' < 71 → sh_i m' 330 k' = sh_i m 334 k' := by
  intro g
  induction g with
  | zero =>
    intro f k m hk hf
    have hk : k = 71 := by omega
    subst hk
    exact ⟨m, rfl, sh_fr.rf, fun k' h1 h2 => by omega⟩
  | succ g ih =>
    intro f k m hk hf
    obtain ⟨f, rfl⟩ : ∃ q, f = q + 1 := ⟨f - 1, by omega⟩
    obtain ⟨m', k1, k2, k3⟩ := ih f (k + 1) (sh_setI m 330 k (sh_i m 334 k)) (by omega) (by omega)
    refine ⟨m', ?_, (sh_fr_I sh_fr.rf (by omega)).trans (k2.mono (fun r k z => by omega)), fun k' h1 h2 => ?_⟩
    · rw [show f + 1 - (g + 1) = f - g by omega, ← k1, F_X12_isTwo]
      simp (disch := omega) only [↓reduceIte, ↓shl_ap, shb_ap, shv_ap, zI_lit, zL_lit, nI_z, lN_z, ofN_z, zI_add, zI_sub, zI_mul, zI_neg, zL_add, zL_sub, zL_mul, zL_neg, zI_l, zI_cl, zI_le_t, zI_le_f, zI_lt_t, zI_lt_f, zI_eq_t, zI_eq_f, zI_in_t, zz_isIn_t, zz_isIn_f, not_true_eq_false, not_false_eq_true, true_or, or_true, false_or, or_false, true_and, and_true, false_and, and_false, Nat.reduceLeDiff, Int.reduceAdd, Int.reduceSub, Int.reduceMul, Int.reduceNeg, Int.reduceToNat, Nat.reduceAdd, Nat.reduceMul, Nat.reduceSub, Int.toNat_natCast, zN_le_t, zN_le_f]
      rfl
    · by_cases z : k' = k
      · subst z; rw [k2.i _ _ (by omega), ir_set]
      · rw [k3 k' (by omega) h2, ir_set_r (by omega)]
theorem rf_t3o {i1 i2 : Int32} : ∀ (g f k : Nat) (m : sh_Mem), k + g = 71 → g < f → ∃ m', F_X12_isThree f 2 i1 i2 (zI k) (zI 0) m = F_X12_isThree (f - g) 2 i1 i2 (zI 71) (zI 0) m' ∧ sh_fr (fun r k' => r = 334 ∧ k ≤ k' ∧ k' < 71) m m' ∧ ∀ k', k ≤ k' → k' < 71 → sh_i m' 334 k' = sh_i m 330 k' := by
  intro g
  induction g with
  | zero =>
    intro f k m hk hf
    have hk : k = 71 := by omega
    subst hk
    exact ⟨m, rfl, sh_fr.rf, fun k' h1 h2 => by omega⟩
  | succ g ih =>
    intro f k m hk hf
    obtain ⟨f, rfl⟩ : ∃ q, f = q + 1 := ⟨f - 1, by omega⟩
    obtain ⟨m', k1, k2, k3⟩ := ih f (k + 1) (sh_setI m 334 k (sh_i m 330 k)) (by omega) (by omega)
    refine ⟨m', ?_, (sh_fr_I sh_fr.rf (by omega)).trans (k2.mono (fun r k z => by omega)), fun k' h1 h2 => ?_⟩
    · rw [show f + 1 - (g + 1) = f - g by omega, ← k1, F_X12_isThree]
      simp (disch := omega) only [↓reduceIte, ↓shl_ap, shb_ap, shv_ap, zI_lit, zL_lit, nI_z, lN_z, ofN_z, zI_add, zI_sub, zI_mul, zI_neg, zL_add, zL_sub, zL_mul, zL_neg, zI_l, zI_cl, zI_le_t, zI_le_f, zI_lt_t, zI_lt_f, zI_eq_t, zI_eq_f, zI_in_t, zz_isIn_t, zz_isIn_f, not_true_eq_false, not_false_eq_true, true_or, or_true, false_or, or_false, true_and, and_true, false_and, and_false, Nat.reduceLeDiff, Int.reduceAdd, Int.reduceSub, Int.reduceMul, Int.reduceNeg, Int.reduceToNat, Nat.reduceAdd, Nat.reduceMul, Nat.reduceSub, Int.toNat_natCast, zN_le_t, zN_le_f]
      rfl
    · by_cases z : k' = k
      · subst z; rw [k2.i _ _ (by omega), ir_set]
      · rw [k3 k' (by omega) h2, ir_set_r (by omega)]
theorem rf_t3b {i1 i2 i3 : Int32} : ∀ (g f k : Nat) (m : sh_Mem), k + g = 71 → g < f → ∃ m', F_X12_isThree f 4 i1 i2 i3 (zI k)  m = F_X12_isThree (f - g) 4 i1 i2 i3 (zI 71)  m' ∧ sh_fr (fun r k' => r = 330 ∧ k ≤ k' ∧ k' < 71) m m' ∧ ∀ k', k ≤ k' → k' < 71 → sh_i m' 330 k' = sh_i m 334 k' := by
  intro g
  induction g with
  | zero =>
    intro f k m hk hf
    have hk : k = 71 := by omega
    subst hk
    exact ⟨m, rfl, sh_fr.rf, fun k' h1 h2 => by omega⟩
  | succ g ih =>
    intro f k m hk hf
    obtain ⟨f, rfl⟩ : ∃ q, f = q + 1 := ⟨f - 1, by omega⟩
    obtain ⟨m', k1, k2, k3⟩ := ih f (k + 1) (sh_setI m 330 k (sh_i m 334 k)) (by omega) (by omega)
    refine ⟨m', ?_, (sh_fr_I sh_fr.rf (by omega)).trans (k2.mono (fun r k z => by omega)), fun k' h1 h2 => ?_⟩
    · rw [show f + 1 - (g + 1) = f - g by omega, ← k1, F_X12_isThree]
      simp (disch := omega) only [↓reduceIte, ↓shl_ap, shb_ap, shv_ap, zI_lit, zL_lit, nI_z, lN_z, ofN_z, zI_add, zI_sub, zI_mul, zI_neg, zL_add, zL_sub, zL_mul, zL_neg, zI_l, zI_cl, zI_le_t, zI_le_f, zI_lt_t, zI_lt_f, zI_eq_t, zI_eq_f, zI_in_t, zz_isIn_t, zz_isIn_f, not_true_eq_false, not_false_eq_true, true_or, or_true, false_or, or_false, true_and, and_true, false_and, and_false, Nat.reduceLeDiff, Int.reduceAdd, Int.reduceSub, Int.reduceMul, Int.reduceNeg, Int.reduceToNat, Nat.reduceAdd, Nat.reduceMul, Nat.reduceSub, Int.toNat_natCast, zN_le_t, zN_le_f]
      rfl
    · by_cases z : k' = k
      · subst z; rw [k2.i _ _ (by omega), ir_set]
      · rw [k3 k' (by omega) h2, ir_set_r (by omega)]
theorem zI_not {a b : Int} (h : a < b) (h1 : -2147483648 ≤ a ∧ b < 2147483648) : ¬ zI b ≤ zI a := fun z => by
  have := (zI_le (by omega) (by omega) (by omega) (by omega)).mp z
  omega
theorem zI_yes {a b : Int} (h : a ≤ b) (h1 : -2147483648 ≤ a ∧ b < 2147483648) : zI a ≤ zI b := (zI_le (by omega) (by omega) (by omega) (by omega)).mpr h
theorem rf_third2 (hk : sp_ok P) (hl : sl_in P D) (hdd : sl_d D ≤ 1000) (hM1 : sm_mP μ1 P) (hK : mkp μ1 K) (hv : rV P up ht st S0 μ1) (hup : up < sp_c P * sp_r P) (hst : st < sp_c P * sp_r P) (hht : ht ≤ 99) (hS0 : S0 ≤ 99) {A : Nat → Int32} : ∀ (g f c : Nat) (m : sh_Mem), c + g = sp_np P * sp_nt P → 80 * g + 2 < f → TT μ1 m → sm_mL (sh_i m 330) 0 P D → sh_i m 291 60 = zI 0 → (∀ k, k < 71 → sh_i m 330 k = A k) → (∀ k, k < 71 → sh_i m 335 k = A k) → ∃ m', F_X12_isThird f 2 (zI c) (zI 0) m = some (zI (bI (fs (pst P D (prr P (pgl up ht st S0) 0)) g c).isSome), m') ∧ TT μ1 m' ∧ sh_i m' 291 60 = zI 0 ∧ (fs (pst P D (prr P (pgl up ht st S0) 0)) g c = none → ∀ k, k < 71 → sh_i m' 330 k = A k) ∧ (∀ k, ¬ k = 2 → sh_i m' 333 k = sh_i m 333 k) ∧ sh_i m' 334 = sh_i m 334 ∧ pQ P m' 2 (fs (pst P D (prr P (pgl up ht st S0) 0)) g c) := by
  have h35 := pa_35 hk
  intro g
  induction g with
  | zero =>
    intro f c m hc hf hT hm e60 hA hB
    obtain ⟨f, rfl⟩ : ∃ q, f = q + 1 := ⟨f - 1, by omega⟩
    refine ⟨m, ?_, hT, e60, fun _ => hA, fun _ _ => rfl, rfl, fun r h => by cases h⟩
    rw [F_X12_isThird, rf_many (hT.mP hM1), shb_ap, if_pos (zI_yes (by omega) (by omega))]
    rfl
  | succ g ih =>
    intro f c m hc hf hT hm e60 hA hB
    obtain ⟨f, rfl⟩ : ∃ q, f = q + 1 := ⟨f - 1, by omega⟩
    have hca : c < sp_np P * sp_nt P := by omega
    obtain ⟨m1, hm1⟩ : ∃ x, x = sh_setI m 333 2 (zI c) := ⟨_, rfl⟩
    have f1 : sh_fr (fun r _ => r = 333) m m1 := by rw [hm1]; exact sh_fr_I sh_fr.rf rfl
    have hT1 := hT.off f1 (by omega)
    have e330 : sh_i m1 330 = sh_i m 330 := f1.row _ (fun k => by omega)
    obtain ⟨m2, a1, a2, a3, a4, a5⟩ := rf_sh (a := c) hk hl hdd hT1 hM1 hK (by rw [e330]; exact hm) (by rw [f1.i _ _ (by omega)]; exact e60) hca
    have hm1' : sh_setI m 333 (Int32.toNatClampNeg 2) (zI c) = m1 := hm1.symm
    have k333 : ∀ k, sh_i m2 333 k = sh_i m1 333 k := fun k => a5.i _ _ (by unfold rN5; omega)
    have k334 : sh_i m2 334 = sh_i m 334 := (a5.row _ (fun k => by unfold rN5; omega)).trans (f1.row _ (fun k => by omega))
    have k335 : ∀ k, k < 71 → sh_i m2 335 k = A k := fun k hk => by rw [a5.i _ _ (by unfold rN5; omega), f1.i _ _ (by omega)]; exact hB k hk
    -- nothing found here: it is put back
    have bk : pst P D (prr P (pgl up ht st S0) 0) c = none → F_X12_isThird (f + 1) 2 (zI c) (zI 0) m = F_X12_isThird f 3 (zI c) (zI 0) m2 → ∃ m', F_X12_isThird (f + 1) 2 (zI c) (zI 0) m = some (zI (bI (fs (pst P D (prr P (pgl up ht st S0) 0)) (g + 1) c).isSome), m') ∧ TT μ1 m' ∧ sh_i m' 291 60 = zI 0 ∧ (fs (pst P D (prr P (pgl up ht st S0) 0)) (g + 1) c = none → ∀ k, k < 71 → sh_i m' 330 k = A k) ∧ (∀ k, ¬ k = 2 → sh_i m' 333 k = sh_i m 333 k) ∧ sh_i m' 334 = sh_i m 334 ∧ pQ P m' 2 (fs (pst P D (prr P (pgl up ht st S0) 0)) (g + 1) c) := by
      intro hno hst2
      obtain ⟨m3, b1, b2, b3⟩ := rf_th3 (i1 := zI c) 71 f 0 m2 (by omega) (by omega)
      have f3 : sh_fr (fun r k => r = 330 ∧ k < 71) m2 m3 := b2.mono (fun r k z => by omega)
      have h330 : ∀ k, k < 71 → sh_i m3 330 k = A k := fun k hk => (b3 k (by omega) hk).trans (k335 k hk)
      obtain ⟨f', hf'⟩ : ∃ x, f - 71 = x + 1 := ⟨f - 72, by omega⟩
      obtain ⟨m', k1, k2, k3, k4, k5, k6, k7⟩ := ih f' (c + 1) m3 (by omega) (by omega) (a2.r330 f3) (mL_cp hk hm (fun k hk => by rw [h330 k hk, hA k hk])) (by rw [f3.i _ _ (by omega)]; exact a4) h330 (fun k hk => by rw [f3.i _ _ (by omega)]; exact k335 k hk)
      rw [fs_n hno]
      refine ⟨m', ?_, k2, k3, k4, fun k hk => ?_, ?_, k7⟩
      · have b1' : F_X12_isThird f 3 (zI c) (zI 0) m2 = _ := b1
        rw [hst2, b1', hf', ← k1, F_X12_isThird, if_pos (by decide), zI_s1]
        rfl
      · rw [k5 k hk, f3.i _ _ (by omega), k333, hm1, ir_set_k hk]
      · rw [k6, f3.row _ (fun k => by omega), k334]
    by_cases c1 : wd P D (c / sp_nt P) (c % sp_nt P) = 2
    · rw [if_pos c1] at a1
      have hso := rf_so (P := P) (D := aL P D (c / sp_nt P) (c % sp_nt P)) (m := m2) hk (aL_in hl) a3 (a2.rV hv) hup hst hht hS0
      cases e : prr P (pgl up ht st S0) 0 (aL P D (c / sp_nt P) (c % sp_nt P)) with
      | none =>
        refine bk (pst_n e) ?_
        rw [e] at hso
        have hso' : f_X12_isSo m2 = some (0, m2) := hso
        rw [F_X12_isThird, rf_many (hT.mP hM1), shb_ap, if_neg (zI_not (by omega) (by omega)), shl_ap, hm1', a1, shb_ap, if_neg (by decide), hso', shb_ap, if_pos rfl]
        rfl
      | some r =>
        rw [e] at hso
        have hso' : f_X12_isSo m2 = some (1, m2) := hso
        have hr : r = [] := by
          have := (prr_up 0 _ r e).2.2
          exact List.length_eq_zero_iff.mp this
        rw [fs_s (pst_s c1 e)]
        refine ⟨m2, ?_, a2, a4, fun z => (by cases z), fun k hk => (by rw [k333, hm1, ir_set_k hk]), k334, fun r' h i hi => ?_⟩
        · rw [F_X12_isThird, rf_many (hT.mP hM1), shb_ap, if_neg (zI_not (by omega) (by omega)), shl_ap, hm1', a1, shb_ap, if_neg (by decide), hso', shb_ap, if_neg (by decide)]
          rfl
        · cases h
          subst hr
          have hi0 : i = 0 := by
            have : i < 1 := hi
            omega
          subst hi0
          exact ⟨c, hca, by rw [k333, hm1, ir_set], rfl⟩
    · rw [if_neg c1] at a1
      refine bk (pst_no c1) ?_
      rw [F_X12_isThird, rf_many (hT.mP hM1), shb_ap, if_neg (zI_not (by omega) (by omega)), shl_ap, hm1', a1, shb_ap, if_pos rfl]
      rfl
theorem rf_third (hk : sp_ok P) (hl : sl_in P D) (hdd : sl_d D ≤ 1000) (hM1 : sm_mP μ1 P) (hK : mkp μ1 K) (hv : rV P up ht st S0 μ1) (hup : up < sp_c P * sp_r P) (hst : st < sp_c P * sp_r P) (hht : ht ≤ 99) (hS0 : S0 ≤ 99) (hT : TT μ1 m) (hm : sm_mL (sh_i m 330) 0 P D) (e60 : sh_i m 291 60 = zI 0) : ∃ m', f_X12_isThird m = some (zI (bI (prr P (pgl up ht st S0) 1 D).isSome), m') ∧ TT μ1 m' ∧ sh_i m' 291 60 = zI 0 ∧ (∀ k, ¬ k = 2 → sh_i m' 333 k = sh_i m 333 k) ∧ sh_i m' 334 = sh_i m 334 ∧ pQ P m' 2 (prr P (pgl up ht st S0) 1 D) := by
  have h35 := pa_35 hk
  obtain ⟨m1, b1, b2, b3⟩ := rf_th1 71 sh_fuel 0 m (by omega) (by rw [sh_fuel_eq]; omega)
  have f1 : sh_fr (fun r _ => r = 335) m m1 := b2.mono (fun r k z => z.1)
  have e330 : sh_i m1 330 = sh_i m 330 := f1.row _ (fun k => by omega)
  obtain ⟨f', hf'⟩ : ∃ x, sh_fuel - 71 = x + 1 := ⟨sh_fuel - 72, by have := sh_fuel_eq; omega⟩
  obtain ⟨m', k1, k2, k3, k4, k5, k6, k7⟩ := rf_third2 (A := sh_i m 330) hk hl hdd hM1 hK hv hup hst hht hS0 (sp_np P * sp_nt P) f' 0 m1 (by omega) (by have := sh_fuel_eq; omega) (hT.off f1 (by omega)) (by rw [e330]; exact hm) (by rw [f1.i _ _ (by omega)]; exact e60) (fun k hk => by rw [e330]) (fun k hk => b3 k (by omega) hk)
  refine ⟨m', ?_, k2, k3, fun k hk => by rw [k5 k hk, f1.i _ _ (by omega)], by rw [k6, f1.row _ (fun k => by omega)], k7⟩
  have b1' : f_X12_isThird m = F_X12_isThird (sh_fuel - 71) 1 (zI 71) (zI 0) m1 := b1
  rw [b1', hf', F_X12_isThird, if_pos (by decide)]
  exact k1
/-- behind the first asking, the second ones -/
theorem rf_t23 {a : Nat} {L0 : sl_T} (hk : sp_ok P) (hl : sl_in P D) (hdd : sl_d D ≤ 1000) (hM1 : sm_mP μ1 P) (hm1 : sm_mL (sh_i μ1 330) 0 P L0) (hK : mkp μ1 K) (hv : rV P up ht st S0 μ1) (hup : up < sp_c P * sp_r P) (hst : st < sp_c P * sp_r P) (hht : ht ≤ 99) (hS0 : S0 ≤ 99) (ha : a < 100) {A : Nat → Int32} : ∀ (g f b : Nat) (m : sh_Mem), b + g = sp_np P * sp_nt P → 80 * g + 2 < f → TT μ1 m → sm_mL (sh_i m 330) 0 P D → sh_i m 291 60 = zI 0 → (∀ k, k < 71 → sh_i m 330 k = A k) → (∀ k, k < 71 → sh_i m 334 k = A k) → ∃ (m' : sh_Mem) (f' : Nat), TT μ1 m' ∧ sh_i m' 291 60 = zI 0 ∧ sh_i m' 333 0 = sh_i m 333 0 ∧ pQ P m' 1 (fs (pst P D (prr P (pgl up ht st S0) 0)) g b) ∧ f ≤ f' + 80 * g + 1 ∧ ((fs (pst P D (prr P (pgl up ht st S0) 0)) g b).isSome = true → F_X12_isTwo f 3 (zI a) (zI 1) (zI b) (zI 0) m = some (1, m')) ∧ (fs (pst P D (prr P (pgl up ht st S0) 0)) g b = none → sh_i m' 330 = sh_i μ1 330 ∧ F_X12_isTwo f 3 (zI a) (zI 1) (zI b) (zI 0) m = F_X12_isTwo f' 1 (zI ((a + 1 : Nat) : Int)) (zI 0) (zI 0) (zI 0) m') := by
  have h35 := pa_35 hk
  intro g
  induction g with
  | zero =>
    intro f b m hb hf hT hm e60 hA hB
    obtain ⟨f, rfl⟩ : ∃ q, f = q + 1 := ⟨f - 1, by omega⟩
    obtain ⟨m', p1, p2, p3, p4⟩ := hT.anew
    refine ⟨m', f, p2, by rw [p4.i _ _ (by omega)]; exact e60, p4.i _ _ (by omega), fun r h => (by cases h), by omega, fun h => (by cases h), fun _ => ⟨p3, ?_⟩⟩
    rw [F_X12_isTwo, rf_many (hT.mP hM1), shb_ap, if_pos (zI_yes (by omega) (by omega)), p1, shv_ap, zI_s1]
    rfl
  | succ g ih =>
    intro f b m hb hf hT hm e60 hA hB
    obtain ⟨f, rfl⟩ : ∃ q, f = q + 1 := ⟨f - 1, by omega⟩
    have hca : b < sp_np P * sp_nt P := by omega
    obtain ⟨m1, hmm⟩ : ∃ x, x = sh_setI m 333 1 (zI b) := ⟨_, rfl⟩
    have f1 : sh_fr (fun r _ => r = 333) m m1 := by rw [hmm]; exact sh_fr_I sh_fr.rf rfl
    have hT1 := hT.off f1 (by omega)
    have e330 : sh_i m1 330 = sh_i m 330 := f1.row _ (fun k => by omega)
    obtain ⟨m2, a1, a2, a3, a4, a5⟩ := rf_sh (a := b) hk hl hdd hT1 hM1 hK (by rw [e330]; exact hm) (by rw [f1.i _ _ (by omega)]; exact e60) hca
    have hmm' : sh_setI m 333 (Int32.toNatClampNeg 1) (zI b) = m1 := hmm.symm
    have k333 : ∀ k, sh_i m2 333 k = sh_i m1 333 k := fun k => a5.i _ _ (by unfold rN5; omega)
    have k334 : sh_i m2 334 = sh_i m 334 := (a5.row _ (fun k => by unfold rN5; omega)).trans (f1.row _ (fun k => by omega))
    have h0 : ∀ {x : Int32}, sh_setI m 333 (Int32.toNatClampNeg 1) x = sh_setI m 333 1 x := rfl
    have bk : ∀ mm : sh_Mem, TT μ1 mm → sh_i mm 291 60 = zI 0 → sh_i mm 333 0 = sh_i m 333 0 → sh_i mm 334 = sh_i m 334 → pst P D (prr P (pgl up ht st S0) 0) b = none → F_X12_isTwo (f + 1) 3 (zI a) (zI 1) (zI b) (zI 0) m = F_X12_isTwo f 4 (zI a) (zI 1) (zI b) (zI 0) mm → ∃ (m' : sh_Mem) (f' : Nat), TT μ1 m' ∧ sh_i m' 291 60 = zI 0 ∧ sh_i m' 333 0 = sh_i m 333 0 ∧ pQ P m' 1 (fs (pst P D (prr P (pgl up ht st S0) 0)) (g + 1) b) ∧ f + 1 ≤ f' + 80 * (g + 1) + 1 ∧ ((fs (pst P D (prr P (pgl up ht st S0) 0)) (g + 1) b).isSome = true → F_X12_isTwo (f + 1) 3 (zI a) (zI 1) (zI b) (zI 0) m = some (1, m')) ∧ (fs (pst P D (prr P (pgl up ht st S0) 0)) (g + 1) b = none → sh_i m' 330 = sh_i μ1 330 ∧ F_X12_isTwo (f + 1) 3 (zI a) (zI 1) (zI b) (zI 0) m = F_X12_isTwo f' 1 (zI ((a + 1 : Nat) : Int)) (zI 0) (zI 0) (zI 0) m') := by
      intro mm t1 t2 t3 t4 hno hst2
      obtain ⟨m3, b1, b2, b3⟩ := rf_t2b (i1 := zI a) (i2 := zI 1) (i3 := zI b) 71 f 0 mm (by omega) (by omega)
      have f3 : sh_fr (fun r k => r = 330 ∧ k < 71) mm m3 := b2.mono (fun r k z => by omega)
      have h330 : ∀ k, k < 71 → sh_i m3 330 k = A k := fun k hk => by rw [b3 k (by omega) hk, t4]; exact hB k hk
      obtain ⟨f2, hf2⟩ : ∃ x, f - 71 = x + 1 := ⟨f - 72, by omega⟩
      obtain ⟨m', f', k1, k2, k3, k4, k5, k6, k7⟩ := ih f2 (b + 1) m3 (by omega) (by omega) (t1.r330 f3) (mL_cp hk hm (fun k hk => by rw [h330 k hk, hA k hk])) (by rw [f3.i _ _ (by omega)]; exact t2) h330 (fun k hk => by rw [f3.i _ _ (by omega), t4]; exact hB k hk)
      have hst3 : F_X12_isTwo (f + 1) 3 (zI a) (zI 1) (zI b) (zI 0) m = F_X12_isTwo f2 3 (zI a) (zI 1) (zI ((b + 1 : Nat) : Int)) (zI 0) m3 := by
        have b1' : F_X12_isTwo f 4 (zI a) (zI 1) (zI b) (zI 0) mm = _ := b1
        rw [hst2, b1', hf2, F_X12_isTwo, if_pos (by decide), zI_s1]
        rfl
      rw [fs_n hno, hst3]
      exact ⟨m', f', k1, k2, by rw [k3, f3.i _ _ (by omega), t3], k4, by omega, k6, k7⟩
    have z333 : sh_i m2 333 0 = sh_i m 333 0 := by rw [k333, hmm, ir_set_k (by omega)]
    by_cases c1 : wd P D (b / sp_nt P) (b % sp_nt P) = 2
    · rw [if_pos c1] at a1
      have hso := rf_so (P := P) (D := aL P D (b / sp_nt P) (b % sp_nt P)) (m := m2) hk (aL_in hl) a3 (a2.rV hv) hup hst hht hS0
      cases e : prr P (pgl up ht st S0) 0 (aL P D (b / sp_nt P) (b % sp_nt P)) with
      | none =>
        rw [e] at hso
        have hso' : f_X12_isSo m2 = some (0, m2) := hso
        refine bk m2 a2 a4 z333 k334 (pst_n e) ?_
        rw [F_X12_isTwo, rf_many (hT.mP hM1), shb_ap, if_neg (zI_not (by omega) (by omega)), if_neg (by decide), shl_ap, hmm', a1, shb_ap, if_neg (by decide), hso', shb_ap, if_pos rfl]
        rfl
      | some r =>
        rw [e] at hso
        have hso' : f_X12_isSo m2 = some (1, m2) := hso
        have hr : r = [] := List.length_eq_zero_iff.mp (prr_up 0 _ r e).2.2
        rw [fs_s (pst_s c1 e)]
        refine ⟨m2, f, a2, a4, z333, fun r' h i hi => ?_, by omega, fun _ => ?_, fun z => (by cases z)⟩
        · cases h
          subst hr
          have hi0 : i = 0 := by
            have : i < 1 := hi
            omega
          subst hi0
          exact ⟨b, hca, by rw [k333, hmm, ir_set], rfl⟩
        · rw [F_X12_isTwo, rf_many (hT.mP hM1), shb_ap, if_neg (zI_not (by omega) (by omega)), if_neg (by decide), shl_ap, hmm', a1, shb_ap, if_neg (by decide), hso', shb_ap, if_neg (by decide)]
    · rw [if_neg c1] at a1
      refine bk m2 a2 a4 z333 k334 (pst_no c1) ?_
      rw [F_X12_isTwo, rf_many (hT.mP hM1), shb_ap, if_neg (zI_not (by omega) (by omega)), if_neg (by decide), shl_ap, hmm', a1, shb_ap, if_pos rfl]
      rfl
theorem rf_t21 {L0 : sl_T} (hk : sp_ok P) (hl : sl_in P L0) (hdd : sl_d L0 ≤ 999) (hM1 : sm_mP μ1 P) (hm1 : sm_mL (sh_i μ1 330) 0 P L0) (hK : mkp μ1 K) (hv : rV P up ht st S0 μ1) (hup : up < sp_c P * sp_r P) (hst : st < sp_c P * sp_r P) (hht : ht ≤ 99) (hS0 : S0 ≤ 99) : ∀ (g f a : Nat) (m : sh_Mem), a + g = sp_np P * sp_nt P → 3000 * g + 2 < f → TT μ1 m → sh_i m 330 = sh_i μ1 330 → sh_i m 291 60 = zI 0 → ∃ m', F_X12_isTwo f 1 (zI a) (zI 0) (zI 0) (zI 0) m = some (zI (bI (fs (pst P L0 (prr P (pgl up ht st S0) (0 + 1))) g a).isSome), m') ∧ TT μ1 m' ∧ sh_i m' 291 60 = zI 0 ∧ pQ P m' 0 (fs (pst P L0 (prr P (pgl up ht st S0) (0 + 1))) g a) := by
  have h35 := pa_35 hk
  intro g
  induction g with
  | zero =>
    intro f a m ha hf hT h330 e60
    obtain ⟨f, rfl⟩ : ∃ q, f = q + 1 := ⟨f - 1, by omega⟩
    refine ⟨m, ?_, hT, e60, fun r h => (by cases h)⟩
    rw [F_X12_isTwo, rf_many (hT.mP hM1), shb_ap, if_pos (zI_yes (by omega) (by omega))]
    rfl
  | succ g ih =>
    intro f a m ha hf hT h330 e60
    obtain ⟨f, rfl⟩ : ∃ q, f = q + 1 := ⟨f - 1, by omega⟩
    have hca : a < sp_np P * sp_nt P := by omega
    obtain ⟨x1, hx1⟩ : ∃ x, x = sh_setI m 333 0 (zI a) := ⟨_, rfl⟩
    have f1 : sh_fr (fun r _ => r = 333) m x1 := by rw [hx1]; exact sh_fr_I sh_fr.rf rfl
    have hT1 := hT.off f1 (by omega)
    have e330 : sh_i x1 330 = sh_i μ1 330 := (f1.row _ (fun k => by omega)).trans h330
    obtain ⟨x2, a1, a2, a3, a4, a5⟩ := rf_sh (a := a) hk hl (by omega) hT1 hM1 hK (by rw [e330]; exact hm1) (by rw [f1.i _ _ (by omega)]; exact e60) hca
    have hx1' : sh_setI m 333 (Int32.toNatClampNeg 0) (zI a) = x1 := hx1.symm
    have z333 : sh_i x2 333 0 = zI a := by rw [a5.i _ _ (by unfold rN5; omega), hx1, ir_set]
    by_cases c1 : wd P L0 (a / sp_nt P) (a % sp_nt P) = 2
    · rw [if_pos c1] at a1
      obtain ⟨x3, b1, b2, b3⟩ := rf_t2o (i1 := zI a) (i2 := zI 1) 71 f 0 x2 (by omega) (by omega)
      have f3 : sh_fr (fun r _ => r = 334) x2 x3 := b2.mono (fun r k z => z.1)
      obtain ⟨f2, hf2⟩ : ∃ x, f - 71 = x + 1 := ⟨f - 72, by omega⟩
      have e3 : sh_i x3 330 = sh_i x2 330 := f3.row _ (fun k => by omega)
      obtain ⟨m', f', k1, k2, k3, k4, k5, k6, k7⟩ := rf_t23 (a := a) (D := aL P L0 (a / sp_nt P) (a % sp_nt P)) (L0 := L0) (A := sh_i x2 330) hk (aL_in hl) (by rw [aL_d]; omega) hM1 hm1 hK hv hup hst hht hS0 (by omega) (sp_np P * sp_nt P) f2 0 x3 (by omega) (by omega) (a2.off f3 (by omega)) (by rw [e3]; exact a3) (by rw [f3.i _ _ (by omega)]; exact a4) (fun k hk => by rw [e3]) (fun k hk => b3 k (by omega) hk)
      have hst2 : F_X12_isTwo (f + 1) 1 (zI a) (zI 0) (zI 0) (zI 0) m = F_X12_isTwo f2 3 (zI a) (zI 1) (zI ((0 : Nat) : Int)) (zI 0) x3 := by
        have b1' : F_X12_isTwo f 2 (zI a) (zI 1) (zI 0) (zI 0) x2 = _ := b1
        have hstA : F_X12_isTwo (f + 1) 1 (zI a) (zI 0) (zI 0) (zI 0) m = F_X12_isTwo f 2 (zI a) (zI 1) (zI 0) (zI 0) x2 := by
          rw [F_X12_isTwo, rf_many (hT.mP hM1), shb_ap, if_neg (zI_not (by omega) (by omega)), shl_ap, hx1', a1, shb_ap]
          rfl
        rw [hstA, b1', hf2, F_X12_isTwo, if_pos (by decide)]
        rfl
      have hpr : prr P (pgl up ht st S0) (0 + 1) (aL P L0 (a / sp_nt P) (a % sp_nt P)) = fs (pst P (aL P L0 (a / sp_nt P) (a % sp_nt P)) (prr P (pgl up ht st S0) 0)) (sp_np P * sp_nt P) 0 := rfl
      rw [hst2]
      cases e : fs (pst P (aL P L0 (a / sp_nt P) (a % sp_nt P)) (prr P (pgl up ht st S0) 0)) (sp_np P * sp_nt P) 0 with
      | some r =>
        rw [e] at k4 k6
        rw [fs_s (pst_s c1 (hpr.trans e))]
        refine ⟨m', k6 rfl, k1, k2, fun r' h i hi => ?_⟩
        cases h
        cases i with
        | zero => exact ⟨a, hca, by rw [Nat.zero_add, k3, f3.i _ _ (by omega)]; exact z333, rfl⟩
        | succ i =>
          have := k4 r rfl i (by have : i + 1 < r.length + 1 := hi; omega)
          rw [show 0 + (i + 1) = 1 + i by omega]
          exact this
      | none =>
        obtain ⟨q1, q2⟩ := k7 e
        rw [fs_n (pst_n (hpr.trans e)), q2]
        exact ih f' (a + 1) m' (by omega) (by omega) k1 q1 k2
    · rw [if_neg c1] at a1
      obtain ⟨x3, b1, b2, b3⟩ := rf_t2o (i1 := zI a) (i2 := zI 0) 71 f 0 x2 (by omega) (by omega)
      have f3 : sh_fr (fun r _ => r = 334) x2 x3 := b2.mono (fun r k z => z.1)
      obtain ⟨f2, hf2⟩ : ∃ x, f - 71 = x + 1 + 1 := ⟨f - 73, by omega⟩
      have hT3 := a2.off f3 (by omega)
      obtain ⟨x4, p1, p2, p3, p4⟩ := hT3.anew
      have hst2 : F_X12_isTwo (f + 1) 1 (zI a) (zI 0) (zI 0) (zI 0) m = F_X12_isTwo f2 1 (zI ((a + 1 : Nat) : Int)) (zI 0) (zI 0) (zI 0) x4 := by
        have b1' : F_X12_isTwo f 2 (zI a) (zI 0) (zI 0) (zI 0) x2 = _ := b1
        have hstA : F_X12_isTwo (f + 1) 1 (zI a) (zI 0) (zI 0) (zI 0) m = F_X12_isTwo f 2 (zI a) (zI 0) (zI 0) (zI 0) x2 := by
          rw [F_X12_isTwo, rf_many (hT.mP hM1), shb_ap, if_neg (zI_not (by omega) (by omega)), shl_ap, hx1', a1, shb_ap]
          rfl
        rw [hstA, b1', hf2, F_X12_isTwo, if_pos (by decide)]
        show F_X12_isTwo (f2 + 1) 3 (zI a) (zI 0) (zI 0) (zI 0) x3 = _
        rw [F_X12_isTwo, rf_many (hT3.mP hM1), shb_ap, if_neg (zI_not (by omega) (by omega)), if_pos (show zI 0 = 0 from rfl), p1, shv_ap, zI_s1]
        rfl
      rw [fs_n (pst_no c1), hst2]
      exact ih f2 (a + 1) x4 (by omega) (by omega) p2 p3 (by rw [p4.i _ _ (by omega), f3.i _ _ (by omega)]; exact a4)
/-- behind the first asking, the second ones -/
theorem rf_t33 {a : Nat} {L0 : sl_T} (hk : sp_ok P) (hl : sl_in P D) (hdd : sl_d D ≤ 1000) (hM1 : sm_mP μ1 P) (hm1 : sm_mL (sh_i μ1 330) 0 P L0) (hK : mkp μ1 K) (hv : rV P up ht st S0 μ1) (hup : up < sp_c P * sp_r P) (hst : st < sp_c P * sp_r P) (hht : ht ≤ 99) (hS0 : S0 ≤ 99) (ha : a < 100) {A : Nat → Int32} : ∀ (g f b : Nat) (m : sh_Mem), b + g = sp_np P * sp_nt P → 80 * g + 2 < f → TT μ1 m → sm_mL (sh_i m 330) 0 P D → sh_i m 291 60 = zI 0 → (∀ k, k < 71 → sh_i m 330 k = A k) → (∀ k, k < 71 → sh_i m 334 k = A k) → ∃ (m' : sh_Mem) (f' : Nat), TT μ1 m' ∧ sh_i m' 291 60 = zI 0 ∧ sh_i m' 333 0 = sh_i m 333 0 ∧ pQ P m' 1 (fs (pst P D (prr P (pgl up ht st S0) 1)) g b) ∧ f ≤ f' + 80 * g + 1 ∧ ((fs (pst P D (prr P (pgl up ht st S0) 1)) g b).isSome = true → F_X12_isThree f 3 (zI a) (zI 1) (zI b) (zI 0) m = some (1, m')) ∧ (fs (pst P D (prr P (pgl up ht st S0) 1)) g b = none → sh_i m' 330 = sh_i μ1 330 ∧ F_X12_isThree f 3 (zI a) (zI 1) (zI b) (zI 0) m = F_X12_isThree f' 1 (zI ((a + 1 : Nat) : Int)) (zI 0) (zI 0) (zI 0) m') := by
  have h35 := pa_35 hk
  intro g
  induction g with
  | zero =>
    intro f b m hb hf hT hm e60 hA hB
    obtain ⟨f, rfl⟩ : ∃ q, f = q + 1 := ⟨f - 1, by omega⟩
    obtain ⟨m', p1, p2, p3, p4⟩ := hT.anew
    refine ⟨m', f, p2, by rw [p4.i _ _ (by omega)]; exact e60, p4.i _ _ (by omega), fun r h => (by cases h), by omega, fun h => (by cases h), fun _ => ⟨p3, ?_⟩⟩
    rw [F_X12_isThree, rf_many (hT.mP hM1), shb_ap, if_pos (zI_yes (by omega) (by omega)), p1, shv_ap, zI_s1]
    rfl
  | succ g ih =>
    intro f b m hb hf hT hm e60 hA hB
    obtain ⟨f, rfl⟩ : ∃ q, f = q + 1 := ⟨f - 1, by omega⟩
    have hca : b < sp_np P * sp_nt P := by omega
    obtain ⟨m1, hmm⟩ : ∃ x, x = sh_setI m 333 1 (zI b) := ⟨_, rfl⟩
    have f1 : sh_fr (fun r _ => r = 333) m m1 := by rw [hmm]; exact sh_fr_I sh_fr.rf rfl
    have hT1 := hT.off f1 (by omega)
    have e330 : sh_i m1 330 = sh_i m 330 := f1.row _ (fun k => by omega)
    obtain ⟨m2, a1, a2, a3, a4, a5⟩ := rf_sh (a := b) hk hl hdd hT1 hM1 hK (by rw [e330]; exact hm) (by rw [f1.i _ _ (by omega)]; exact e60) hca
    have hmm' : sh_setI m 333 (Int32.toNatClampNeg 1) (zI b) = m1 := hmm.symm
    have k333 : ∀ k, sh_i m2 333 k = sh_i m1 333 k := fun k => a5.i _ _ (by unfold rN5; omega)
    have k334 : sh_i m2 334 = sh_i m 334 := (a5.row _ (fun k => by unfold rN5; omega)).trans (f1.row _ (fun k => by omega))
    have h0 : ∀ {x : Int32}, sh_setI m 333 (Int32.toNatClampNeg 1) x = sh_setI m 333 1 x := rfl
    have bk : ∀ mm : sh_Mem, TT μ1 mm → sh_i mm 291 60 = zI 0 → sh_i mm 333 0 = sh_i m 333 0 → sh_i mm 334 = sh_i m 334 → pst P D (prr P (pgl up ht st S0) 1) b = none → F_X12_isThree (f + 1) 3 (zI a) (zI 1) (zI b) (zI 0) m = F_X12_isThree f 4 (zI a) (zI 1) (zI b) (zI 0) mm → ∃ (m' : sh_Mem) (f' : Nat), TT μ1 m' ∧ sh_i m' 291 60 = zI 0 ∧ sh_i m' 333 0 = sh_i m 333 0 ∧ pQ P m' 1 (fs (pst P D (prr P (pgl up ht st S0) 1)) (g + 1) b) ∧ f + 1 ≤ f' + 80 * (g + 1) + 1 ∧ ((fs (pst P D (prr P (pgl up ht st S0) 1)) (g + 1) b).isSome = true → F_X12_isThree (f + 1) 3 (zI a) (zI 1) (zI b) (zI 0) m = some (1, m')) ∧ (fs (pst P D (prr P (pgl up ht st S0) 1)) (g + 1) b = none → sh_i m' 330 = sh_i μ1 330 ∧ F_X12_isThree (f + 1) 3 (zI a) (zI 1) (zI b) (zI 0) m = F_X12_isThree f' 1 (zI ((a + 1 : Nat) : Int)) (zI 0) (zI 0) (zI 0) m') := by
      intro mm t1 t2 t3 t4 hno hst2
      obtain ⟨m3, b1, b2, b3⟩ := rf_t3b (i1 := zI a) (i2 := zI 1) (i3 := zI b) 71 f 0 mm (by omega) (by omega)
      have f3 : sh_fr (fun r k => r = 330 ∧ k < 71) mm m3 := b2.mono (fun r k z => by omega)
      have h330 : ∀ k, k < 71 → sh_i m3 330 k = A k := fun k hk => by rw [b3 k (by omega) hk, t4]; exact hB k hk
      obtain ⟨f2, hf2⟩ : ∃ x, f - 71 = x + 1 := ⟨f - 72, by omega⟩
      obtain ⟨m', f', k1, k2, k3, k4, k5, k6, k7⟩ := ih f2 (b + 1) m3 (by omega) (by omega) (t1.r330 f3) (mL_cp hk hm (fun k hk => by rw [h330 k hk, hA k hk])) (by rw [f3.i _ _ (by omega)]; exact t2) h330 (fun k hk => by rw [f3.i _ _ (by omega), t4]; exact hB k hk)
      have hst3 : F_X12_isThree (f + 1) 3 (zI a) (zI 1) (zI b) (zI 0) m = F_X12_isThree f2 3 (zI a) (zI 1) (zI ((b + 1 : Nat) : Int)) (zI 0) m3 := by
        have b1' : F_X12_isThree f 4 (zI a) (zI 1) (zI b) (zI 0) mm = _ := b1
        rw [hst2, b1', hf2, F_X12_isThree, if_pos (by decide), zI_s1]
        rfl
      rw [fs_n hno, hst3]
      exact ⟨m', f', k1, k2, by rw [k3, f3.i _ _ (by omega), t3], k4, by omega, k6, k7⟩
    have z333 : sh_i m2 333 0 = sh_i m 333 0 := by rw [k333, hmm, ir_set_k (by omega)]
    by_cases c1 : wd P D (b / sp_nt P) (b % sp_nt P) = 2
    · rw [if_pos c1] at a1
      obtain ⟨m9, t1, t2, t3, t4, t5, t6⟩ := rf_third (P := P) (D := aL P D (b / sp_nt P) (b % sp_nt P)) (m := m2) hk (aL_in hl) (by rw [aL_d]; exact hdd) hM1 hK hv hup hst hht hS0 a2 a3 a4
      cases e : prr P (pgl up ht st S0) 1 (aL P D (b / sp_nt P) (b % sp_nt P)) with
      | none =>
        rw [e] at t1
        have t1' : f_X12_isThird m2 = some (0, m9) := t1
        refine bk m9 t2 t3 ((t4 0 (by omega)).trans z333) (t5.trans k334) (pst_n e) ?_
        rw [F_X12_isThree, rf_many (hT.mP hM1), shb_ap, if_neg (zI_not (by omega) (by omega)), if_neg (by decide), shl_ap, hmm', a1, shb_ap, if_neg (by decide), t1', shb_ap, if_pos rfl]
        rfl
      | some r =>
        rw [e] at t1 t6
        have t1' : f_X12_isThird m2 = some (1, m9) := t1
        rw [fs_s (pst_s c1 e)]
        refine ⟨m9, f, t2, t3, (t4 0 (by omega)).trans z333, fun r' h i hi => ?_, by omega, fun _ => ?_, fun z => (by cases z)⟩
        · cases h
          cases i with
          | zero => exact ⟨b, hca, by rw [Nat.add_zero, t4 1 (by omega), k333, hmm, ir_set], rfl⟩
          | succ i =>
            have := t6 r rfl i (by have : i + 1 < r.length + 1 := hi; omega)
            rw [show 1 + (i + 1) = 2 + i by omega]
            exact this
        · rw [F_X12_isThree, rf_many (hT.mP hM1), shb_ap, if_neg (zI_not (by omega) (by omega)), if_neg (by decide), shl_ap, hmm', a1, shb_ap, if_neg (by decide), t1', shb_ap, if_neg (by decide)]
    · rw [if_neg c1] at a1
      refine bk m2 a2 a4 z333 k334 (pst_no c1) ?_
      rw [F_X12_isThree, rf_many (hT.mP hM1), shb_ap, if_neg (zI_not (by omega) (by omega)), if_neg (by decide), shl_ap, hmm', a1, shb_ap, if_pos rfl]
      rfl
theorem rf_t31 {L0 : sl_T} (hk : sp_ok P) (hl : sl_in P L0) (hdd : sl_d L0 ≤ 999) (hM1 : sm_mP μ1 P) (hm1 : sm_mL (sh_i μ1 330) 0 P L0) (hK : mkp μ1 K) (hv : rV P up ht st S0 μ1) (hup : up < sp_c P * sp_r P) (hst : st < sp_c P * sp_r P) (hht : ht ≤ 99) (hS0 : S0 ≤ 99) : ∀ (g f a : Nat) (m : sh_Mem), a + g = sp_np P * sp_nt P → 3000 * g + 2 < f → TT μ1 m → sh_i m 330 = sh_i μ1 330 → sh_i m 291 60 = zI 0 → ∃ m', F_X12_isThree f 1 (zI a) (zI 0) (zI 0) (zI 0) m = some (zI (bI (fs (pst P L0 (prr P (pgl up ht st S0) (1 + 1))) g a).isSome), m') ∧ TT μ1 m' ∧ sh_i m' 291 60 = zI 0 ∧ pQ P m' 0 (fs (pst P L0 (prr P (pgl up ht st S0) (1 + 1))) g a) := by
  have h35 := pa_35 hk
  intro g
  induction g with
  | zero =>
    intro f a m ha hf hT h330 e60
    obtain ⟨f, rfl⟩ : ∃ q, f = q + 1 := ⟨f - 1, by omega⟩
    refine ⟨m, ?_, hT, e60, fun r h => (by cases h)⟩
    rw [F_X12_isThree, rf_many (hT.mP hM1), shb_ap, if_pos (zI_yes (by omega) (by omega))]
    rfl
  | succ g ih =>
    intro f a m ha hf hT h330 e60
    obtain ⟨f, rfl⟩ : ∃ q, f = q + 1 := ⟨f - 1, by omega⟩
    have hca : a < sp_np P * sp_nt P := by omega
    obtain ⟨x1, hx1⟩ : ∃ x, x = sh_setI m 333 0 (zI a) := ⟨_, rfl⟩
    have f1 : sh_fr (fun r _ => r = 333) m x1 := by rw [hx1]; exact sh_fr_I sh_fr.rf rfl
    have hT1 := hT.off f1 (by omega)
    have e330 : sh_i x1 330 = sh_i μ1 330 := (f1.row _ (fun k => by omega)).trans h330
    obtain ⟨x2, a1, a2, a3, a4, a5⟩ := rf_sh (a := a) hk hl (by omega) hT1 hM1 hK (by rw [e330]; exact hm1) (by rw [f1.i _ _ (by omega)]; exact e60) hca
    have hx1' : sh_setI m 333 (Int32.toNatClampNeg 0) (zI a) = x1 := hx1.symm
    have z333 : sh_i x2 333 0 = zI a := by rw [a5.i _ _ (by unfold rN5; omega), hx1, ir_set]
    by_cases c1 : wd P L0 (a / sp_nt P) (a % sp_nt P) = 2
    · rw [if_pos c1] at a1
      obtain ⟨x3, b1, b2, b3⟩ := rf_t3o (i1 := zI a) (i2 := zI 1) 71 f 0 x2 (by omega) (by omega)
      have f3 : sh_fr (fun r _ => r = 334) x2 x3 := b2.mono (fun r k z => z.1)
      obtain ⟨f2, hf2⟩ : ∃ x, f - 71 = x + 1 := ⟨f - 72, by omega⟩
      have e3 : sh_i x3 330 = sh_i x2 330 := f3.row _ (fun k => by omega)
      obtain ⟨m', f', k1, k2, k3, k4, k5, k6, k7⟩ := rf_t33 (a := a) (D := aL P L0 (a / sp_nt P) (a % sp_nt P)) (L0 := L0) (A := sh_i x2 330) hk (aL_in hl) (by rw [aL_d]; omega) hM1 hm1 hK hv hup hst hht hS0 (by omega) (sp_np P * sp_nt P) f2 0 x3 (by omega) (by omega) (a2.off f3 (by omega)) (by rw [e3]; exact a3) (by rw [f3.i _ _ (by omega)]; exact a4) (fun k hk => by rw [e3]) (fun k hk => b3 k (by omega) hk)
      have hst2 : F_X12_isThree (f + 1) 1 (zI a) (zI 0) (zI 0) (zI 0) m = F_X12_isThree f2 3 (zI a) (zI 1) (zI ((0 : Nat) : Int)) (zI 0) x3 := by
        have b1' : F_X12_isThree f 2 (zI a) (zI 1) (zI 0) (zI 0) x2 = _ := b1
        have hstA : F_X12_isThree (f + 1) 1 (zI a) (zI 0) (zI 0) (zI 0) m = F_X12_isThree f 2 (zI a) (zI 1) (zI 0) (zI 0) x2 := by
          rw [F_X12_isThree, rf_many (hT.mP hM1), shb_ap, if_neg (zI_not (by omega) (by omega)), shl_ap, hx1', a1, shb_ap]
          rfl
        rw [hstA, b1', hf2, F_X12_isThree, if_pos (by decide)]
        rfl
      have hpr : prr P (pgl up ht st S0) (1 + 1) (aL P L0 (a / sp_nt P) (a % sp_nt P)) = fs (pst P (aL P L0 (a / sp_nt P) (a % sp_nt P)) (prr P (pgl up ht st S0) 1)) (sp_np P * sp_nt P) 0 := rfl
      rw [hst2]
      cases e : fs (pst P (aL P L0 (a / sp_nt P) (a % sp_nt P)) (prr P (pgl up ht st S0) 1)) (sp_np P * sp_nt P) 0 with
      | some r =>
        rw [e] at k4 k6
        rw [fs_s (pst_s c1 (hpr.trans e))]
        refine ⟨m', k6 rfl, k1, k2, fun r' h i hi => ?_⟩
        cases h
        cases i with
        | zero => exact ⟨a, hca, by rw [Nat.zero_add, k3, f3.i _ _ (by omega)]; exact z333, rfl⟩
        | succ i =>
          have := k4 r rfl i (by have : i + 1 < r.length + 1 := hi; omega)
          rw [show 0 + (i + 1) = 1 + i by omega]
          exact this
      | none =>
        obtain ⟨q1, q2⟩ := k7 e
        rw [fs_n (pst_n (hpr.trans e)), q2]
        exact ih f' (a + 1) m' (by omega) (by omega) k1 q1 k2
    · rw [if_neg c1] at a1
      obtain ⟨x3, b1, b2, b3⟩ := rf_t3o (i1 := zI a) (i2 := zI 0) 71 f 0 x2 (by omega) (by omega)
      have f3 : sh_fr (fun r _ => r = 334) x2 x3 := b2.mono (fun r k z => z.1)
      obtain ⟨f2, hf2⟩ : ∃ x, f - 71 = x + 1 + 1 := ⟨f - 73, by omega⟩
      have hT3 := a2.off f3 (by omega)
      obtain ⟨x4, p1, p2, p3, p4⟩ := hT3.anew
      have hst2 : F_X12_isThree (f + 1) 1 (zI a) (zI 0) (zI 0) (zI 0) m = F_X12_isThree f2 1 (zI ((a + 1 : Nat) : Int)) (zI 0) (zI 0) (zI 0) x4 := by
        have b1' : F_X12_isThree f 2 (zI a) (zI 0) (zI 0) (zI 0) x2 = _ := b1
        have hstA : F_X12_isThree (f + 1) 1 (zI a) (zI 0) (zI 0) (zI 0) m = F_X12_isThree f 2 (zI a) (zI 0) (zI 0) (zI 0) x2 := by
          rw [F_X12_isThree, rf_many (hT.mP hM1), shb_ap, if_neg (zI_not (by omega) (by omega)), shl_ap, hx1', a1, shb_ap]
          rfl
        rw [hstA, b1', hf2, F_X12_isThree, if_pos (by decide)]
        show F_X12_isThree (f2 + 1) 3 (zI a) (zI 0) (zI 0) (zI 0) x3 = _
        rw [F_X12_isThree, rf_many (hT3.mP hM1), shb_ap, if_neg (zI_not (by omega) (by omega)), if_pos (show zI 0 = 0 from rfl), p1, shv_ap, zI_s1]
        rfl
      rw [fs_n (pst_no c1), hst2]
      exact ih f2 (a + 1) x4 (by omega) (by omega) p2 p3 (by rw [p4.i _ _ (by omega), f3.i _ _ (by omega)]; exact a4)
theorem rf_one {L0 : sl_T} (hk : sp_ok P) (hl : sl_in P L0) (hdd : sl_d L0 ≤ 999) (hM1 : sm_mP μ1 P) (hm1 : sm_mL (sh_i μ1 330) 0 P L0) (hK : mkp μ1 K) (hv : rV P up ht st S0 μ1) (hup : up < sp_c P * sp_r P) (hst : st < sp_c P * sp_r P) (hht : ht ≤ 99) (hS0 : S0 ≤ 99) : ∀ (g f a : Nat) (m : sh_Mem), a + g = sp_np P * sp_nt P → g < f → TT μ1 m → sh_i m 330 = sh_i μ1 330 → sh_i m 291 60 = zI 0 → ∃ m', F_X12_isOne f 1 (zI a) m = some (zI (bI (fs (pst P L0 (prr P (pgl up ht st S0) 0)) g a).isSome), m') ∧ TT μ1 m' ∧ sh_i m' 330 = sh_i μ1 330 ∧ sh_i m' 291 60 = zI 0 ∧ pQ P m' 0 (fs (pst P L0 (prr P (pgl up ht st S0) 0)) g a) := by
  have h35 := pa_35 hk
  intro g
  induction g with
  | zero =>
    intro f a m ha hf hT h330 e60
    obtain ⟨f, rfl⟩ : ∃ q, f = q + 1 := ⟨f - 1, by omega⟩
    refine ⟨m, ?_, hT, h330, e60, fun r h => (by cases h)⟩
    rw [F_X12_isOne, rf_many (hT.mP hM1), shb_ap, if_pos (zI_yes (by omega) (by omega))]
    rfl
  | succ g ih =>
    intro f a m ha hf hT h330 e60
    obtain ⟨f, rfl⟩ : ∃ q, f = q + 1 := ⟨f - 1, by omega⟩
    have hca : a < sp_np P * sp_nt P := by omega
    obtain ⟨x1, hx1⟩ : ∃ x, x = sh_setI m 333 0 (zI a) := ⟨_, rfl⟩
    have f1 : sh_fr (fun r _ => r = 333) m x1 := by rw [hx1]; exact sh_fr_I sh_fr.rf rfl
    have hT1 := hT.off f1 (by omega)
    have e330 : sh_i x1 330 = sh_i μ1 330 := (f1.row _ (fun k => by omega)).trans h330
    obtain ⟨x2, a1, a2, a3, a4, a5⟩ := rf_sh (a := a) hk hl (by omega) hT1 hM1 hK (by rw [e330]; exact hm1) (by rw [f1.i _ _ (by omega)]; exact e60) hca
    have hx1' : sh_setI m 333 (Int32.toNatClampNeg 0) (zI a) = x1 := hx1.symm
    have z333 : sh_i x2 333 0 = zI a := by rw [a5.i _ _ (by unfold rN5; omega), hx1, ir_set]
    obtain ⟨x4, p1, p2, p3, p4⟩ := a2.anew
    have e60' : sh_i x4 291 60 = zI 0 := by rw [p4.i _ _ (by omega)]; exact a4
    by_cases c1 : wd P L0 (a / sp_nt P) (a % sp_nt P) = 2
    · rw [if_pos c1] at a1
      have hso := rf_so (P := P) (D := aL P L0 (a / sp_nt P) (a % sp_nt P)) (m := x2) hk (aL_in hl) a3 (a2.rV hv) hup hst hht hS0
      cases e : prr P (pgl up ht st S0) 0 (aL P L0 (a / sp_nt P) (a % sp_nt P)) with
      | none =>
        rw [e] at hso
        have hso' : f_X12_isSo x2 = some (0, x2) := hso
        obtain ⟨m', k1, k2⟩ := ih f (a + 1) x4 (by omega) (by omega) p2 p3 e60'
        rw [fs_n (pst_n e)]
        refine ⟨m', ?_, k2⟩
        rw [← k1, F_X12_isOne, rf_many (hT.mP hM1), shb_ap, if_neg (zI_not (by omega) (by omega)), shl_ap, hx1', a1, shb_ap, if_neg (by decide), hso', shb_ap, if_pos rfl, p1, shv_ap, zI_s1]
      | some r =>
        rw [e] at hso
        have hso' : f_X12_isSo x2 = some (1, x2) := hso
        have hr : r = [] := List.length_eq_zero_iff.mp (prr_up 0 _ r e).2.2
        rw [fs_s (pst_s c1 e)]
        refine ⟨x4, ?_, p2, p3, e60', fun r' h i hi => ?_⟩
        · rw [F_X12_isOne, rf_many (hT.mP hM1), shb_ap, if_neg (zI_not (by omega) (by omega)), shl_ap, hx1', a1, shb_ap, if_neg (by decide), hso', shb_ap, if_neg (by decide), p1, shv_ap]
          rfl
        · cases h
          subst hr
          have hi0 : i = 0 := by
            have : i < 1 := hi
            omega
          subst hi0
          exact ⟨a, hca, by rw [p4.i _ _ (by omega)]; exact z333, rfl⟩
    · rw [if_neg c1] at a1
      obtain ⟨m', k1, k2⟩ := ih f (a + 1) x4 (by omega) (by omega) p2 p3 e60'
      rw [fs_n (pst_no c1)]
      refine ⟨m', ?_, k2⟩
      rw [← k1, F_X12_isOne, rf_many (hT.mP hM1), shb_ap, if_neg (zI_not (by omega) (by omega)), shl_ap, hx1', a1, shb_ap, if_pos rfl, p1, shv_ap, zI_s1]
theorem rf_planMany {L0 : sl_T} (hk : sp_ok P) (hl : sl_in P L0) (hdd : sl_d L0 ≤ 999) (hM1 : sm_mP μ1 P) (hm1 : sm_mL (sh_i μ1 330) 0 P L0) (hK : mkp μ1 K) (hv : rV P up ht st S0 μ1) (hup : up < sp_c P * sp_r P) (hst : st < sp_c P * sp_r P) (hht : ht ≤ 99) (hS0 : S0 ≤ 99) (hT : TT μ1 m) (h330 : sh_i m 330 = sh_i μ1 330) (e60 : sh_i m 291 60 = zI 0) : ∃ m', f_X12_planMany m = some (zI (pv (fs (pN P (pgl up ht st S0) L0) 4 0)), m') ∧ TT μ1 m' ∧ ∀ x, fs (pN P (pgl up ht st S0) L0) 4 0 = some x → pQ P m' 0 (some x.2) := by
  have h35 := pa_35 hk
  have hso := rf_so (P := P) (D := L0) (m := m) hk hl (by rw [h330]; exact hm1) (hT.rV hv) hup hst hht hS0
  obtain ⟨m1, b1, b2, b3, b4, b5⟩ := rf_one (L0 := L0) hk hl hdd hM1 hm1 hK hv hup hst hht hS0 (sp_np P * sp_nt P) sh_fuel 0 m (by omega) (by have := sh_fuel_eq; omega) hT h330 e60
  obtain ⟨m2, c1, c2, c3, c4⟩ := rf_t21 (L0 := L0) hk hl hdd hM1 hm1 hK hv hup hst hht hS0 (sp_np P * sp_nt P) sh_fuel 0 m1 (by omega) (by have := sh_fuel_eq; omega) b2 b3 b4
  obtain ⟨m3, d1, d2, d3, d4⟩ := c2.anew
  obtain ⟨m4, g1, g2, g3, g4⟩ := rf_t31 (L0 := L0) hk hl hdd hM1 hm1 hK hv hup hst hht hS0 (sp_np P * sp_nt P) sh_fuel 0 m3 (by omega) (by have := sh_fuel_eq; omega) d2 d3 (by rw [d4.i _ _ (by omega)]; exact c3)
  have p1 : prr P (pgl up ht st S0) 1 L0 = fs (pst P L0 (prr P (pgl up ht st S0) 0)) (sp_np P * sp_nt P) 0 := rfl
  have p2 : prr P (pgl up ht st S0) 2 L0 = fs (pst P L0 (prr P (pgl up ht st S0) (0 + 1))) (sp_np P * sp_nt P) 0 := rfl
  have p3 : prr P (pgl up ht st S0) 3 L0 = fs (pst P L0 (prr P (pgl up ht st S0) (1 + 1))) (sp_np P * sp_nt P) 0 := rfl
  rw [← p1] at b1 b5
  rw [← p2] at c1 c4
  rw [← p3] at g1 g4
  have b1' : f_X12_isOne m = _ := b1
  have c1' : f_X12_isTwo m1 = _ := c1
  have g1' : f_X12_isThree m3 = _ := g1
  unfold f_X12_planMany
  rw [hso, shb_ap]
  cases e0 : prr P (pgl up ht st S0) 0 L0 with
  | some r =>
    have hp : pN P (pgl up ht st S0) L0 0 = some (0, r) := by unfold pN; rw [e0]
    have hr : r = [] := List.length_eq_zero_iff.mp (prr_up 0 _ r e0).2.2
    rw [fs_s hp, if_neg (by rw [show (some r).isSome = true from rfl]; decide)]
    refine ⟨m, rfl, hT, fun x h r' h2 i hi => ?_⟩
    cases h
    cases h2
    subst hr
    exact absurd hi (Nat.not_lt_zero _)
  | none =>
    have hp : pN P (pgl up ht st S0) L0 0 = none := by unfold pN; rw [e0]
    rw [fs_n hp, if_pos (by rw [show (none : Option (List Nat)).isSome = false from rfl]; decide), b1', shb_ap]
    cases e1 : prr P (pgl up ht st S0) 1 L0 with
    | some r =>
      have hp : pN P (pgl up ht st S0) L0 1 = some (1, r) := by unfold pN; rw [e1]
      rw [e1] at b5
      rw [fs_s hp, if_neg (by rw [show (some r).isSome = true from rfl]; decide)]
      refine ⟨m1, rfl, b2, fun x h => ?_⟩
      cases h
      exact b5
    | none =>
      have hp : pN P (pgl up ht st S0) L0 1 = none := by unfold pN; rw [e1]
      rw [fs_n hp, if_pos (by rw [show (none : Option (List Nat)).isSome = false from rfl]; decide), c1', shb_ap]
      cases e2 : prr P (pgl up ht st S0) 2 L0 with
      | some r =>
        have hp : pN P (pgl up ht st S0) L0 2 = some (2, r) := by unfold pN; rw [e2]
        rw [e2] at c4
        rw [fs_s hp, if_neg (by rw [show (some r).isSome = true from rfl]; decide)]
        refine ⟨m2, rfl, c2, fun x h => ?_⟩
        cases h
        exact c4
      | none =>
        have hp : pN P (pgl up ht st S0) L0 2 = none := by unfold pN; rw [e2]
        rw [fs_n hp, if_pos (by rw [show (none : Option (List Nat)).isSome = false from rfl]; decide), d1, shv_ap, g1', shb_ap]
        cases e3 : prr P (pgl up ht st S0) 3 L0 with
        | some r =>
          have hp : pN P (pgl up ht st S0) L0 3 = some (3, r) := by unfold pN; rw [e3]
          rw [e3] at g4
          rw [fs_s hp, if_neg (by rw [show (some r).isSome = true from rfl]; decide)]
          refine ⟨m4, rfl, g2, fun x h => ?_⟩
          cases h
          exact g4
        | none =>
          have hp : pN P (pgl up ht st S0) L0 3 = none := by unfold pN; rw [e3]
          rw [fs_n hp, if_pos (by rw [show (none : Option (List Nat)).isSome = false from rfl]; decide)]
          exact ⟨m4, rfl, g2, fun x h => by cases h⟩
end Pr
