/-! the class's world -/
theorem shf_I {μ : sh_Mem} {r k a b : Nat} {v : Int32} : sh_ref (sh_setI μ r k v) a b = sh_ref μ a b := rfl
theorem shf_L {μ : sh_Mem} {r k a b : Nat} {v : Int64} : sh_ref (sh_setL μ r k v) a b = sh_ref μ a b := rfl
theorem shf_W {μ : sh_Mem} {r a b : Nat} {g : Nat → Int32} : sh_ref (sh_rowI μ r g) a b = sh_ref μ a b := rfl
def ldr (r : Nat) : Prop := r = 49 ∨ (57 ≤ r ∧ r ≤ 285)
def cw (μ : sh_Mem) (t : Nat) (P : sp_T) : Prop := sh_r μ 55 0 = some t ∧ sh_isP t ∧ sm_cP μ t P ∧ sp_ok P
theorem sh_isP_r {t : Nat} (h : sh_isP t) : t = 8 ∨ t = 29 := h
theorem cw.cg {μ μ' : sh_Mem} {t : Nat} {P : sp_T} (h : cw μ t P) (h1 : sh_r μ' = sh_r μ) (h2 : ∀ j, j ≤ 12 → ¬ j = 7 → ¬ j = 10 → sh_i μ' (t + j) = sh_i μ (t + j)) : cw μ' t P := ⟨by rw [h1]; exact h.1, h.2.1, h.2.2.1.cg h2, h.2.2.2⟩
theorem sp_pos {P : sp_T} (h : sp_ok P) {p : Nat} (hp : p < sp_np P) : 3 ≤ sp_c P ∧ sp_c P ≤ 7 ∧ 3 ≤ sp_r P ∧ sp_r P ≤ 7 := by
  rcases h.1 with ⟨-, -, -, q, -⟩ | q
  · have : sp_np P = 0 := by show (sp_pn P).length = 0; rw [q]; rfl
    omega
  · exact q
theorem sp_forms {P : sp_T} (h : sp_ok P) (hc : 0 < sp_c P) : (sg_ok 0 false (sp_fl P) [] ∧ (sp_fl P).length ≤ 1600) ∧ (sg_ok 1 false (sp_ft P) [] ∧ (sp_ft P).length ≤ 1600) ∧ (∃ res, sg_ok 1 res (sp_fh P) [] ∧ ((sp_told P).2.2 = true → res = true)) ∧ (sp_fh P).length ≤ 1600 := by
  obtain ⟨-, -, -, -, -, -, -, -, h1, h2, h3, h4⟩ := h
  obtain ⟨k1, k2, k3, k4, k5, k6⟩ := h4 hc
  refine ⟨⟨k1, h1⟩, ⟨k2, h2⟩, ?_, h3⟩
  cases e : (sp_told P).2.2 with
  | true => exact ⟨true, k6 e, fun _ => rfl⟩
  | false =>
    rw [k5 e]
    exact ⟨false, ⟨[false], Or.inl ⟨by omega, by omega, rfl⟩, by show 1 ≤ 60; omega, rfl⟩, fun z => by cases z⟩
def fcs (μ : sh_Mem) (g : Nat) (P : sp_T) (L : sl_T) (p q : Nat) : Prop := sh_i μ g 6 = zI (sl_t L p) ∧ sh_i μ g 14 = zI (sl_h L (sl_y L p * sp_c P + sl_x L p)) ∧ sh_i μ g 15 = zI (pc (sl_k L p)) ∧ sh_i μ g 16 = zI (sl_d L) ∧ sh_i μ g 3 = zI q
theorem fcs.h1 {μ : sh_Mem} {g : Nat} {P : sp_T} {L : sl_T} {p q : Nat} (h : fcs μ g P L p q) : ∀ t w : Nat, t < 9 → sg_may 1 t → sg_c t = -1 - (w : Int) → sh_i μ g w = zI (fa P L p q 0 t) := by
  obtain ⟨a, b, c, d, e⟩ := h
  intro t w ht hm hw
  have hm : t < 5 := hm
  have q : t = 0 ∨ t = 1 ∨ t = 2 ∨ t = 3 ∨ t = 4 := by omega
  rcases q with rfl | rfl | rfl | rfl | rfl
  · rw [show sg_c 0 = -7 from rfl] at hw; obtain rfl : w = 6 := by omega
    exact a
  · rw [show sg_c 1 = -15 from rfl] at hw; obtain rfl : w = 14 := by omega
    exact b
  · rw [show sg_c 2 = -16 from rfl] at hw; obtain rfl : w = 15 := by omega
    exact c
  · rw [show sg_c 3 = -17 from rfl] at hw; obtain rfl : w = 16 := by omega
    exact d
  · rw [show sg_c 4 = -4 from rfl] at hw; obtain rfl : w = 3 := by omega
    exact e
theorem fcs.h0 {μ : sh_Mem} {g : Nat} {P : sp_T} {L : sl_T} {p q sd : Nat} (h : fcs μ g P L p q) (hs : sh_i μ g 17 = zI sd) : ∀ t w : Nat, t < 9 → sg_may 0 t → sg_c t = -1 - (w : Int) → sh_i μ g w = zI (fa P L p q sd t) := by
  intro t w ht hm hw
  have hm : t < 6 := hm
  by_cases c : t = 5
  · subst c
    rw [show sg_c 5 = -18 from rfl] at hw; obtain rfl : w = 17 := by omega
    exact hs
  · have h1 := h.h1 t w ht (show t < 5 by omega) hw
    rw [h1]
    congr 1
    unfold fa
    have q : t = 0 ∨ t = 1 ∨ t = 2 ∨ t = 3 ∨ t = 4 := by omega
    rcases q with rfl | rfl | rfl | rfl | rfl <;> rfl
theorem fcs.cg {μ μ' : sh_Mem} {g : Nat} {P : sp_T} {L : sl_T} {p q : Nat} (h : fcs μ g P L p q) (e : ∀ k, ¬ k = 17 → sh_i μ' g k = sh_i μ g k) : fcs μ' g P L p q := by
  obtain ⟨a, b, c, d, f⟩ := h
  exact ⟨(e _ (by omega)).trans a, (e _ (by omega)).trans b, (e _ (by omega)).trans c, (e _ (by omega)).trans d, (e _ (by omega)).trans f⟩
section Wc
variable {μ : sh_Mem} {t r p q : Nat} {P : sp_T} {L : sl_T}
theorem cl_gather {g : Nat} (hw : cw μ t P) (hc : sm_cL μ r P L) (hl : sl_in P L) (hp : p < sp_np P) (hg : g = 56 ∨ g = 28) (hr : ldr r) : f_X10_gather r (zI p) g μ = some (sh_setI (sh_setI (sh_setI (sh_setI μ g 6 (zI (sl_t L p))) g 14 (zI (sl_h L (sl_y L p * sp_c P + sl_x L p)))) g 15 (zI (pc (sl_k L p)))) g 16 (zI (sl_d L))) := by
  obtain ⟨h1, h2, h3, hk⟩ := hw
  have hb := sp_bd hk
  obtain ⟨a1, a2, a3, a4⟩ := hc.2.2 p hp
  obtain ⟨b1, b2, b3, b4⟩ := hl.2 p hp
  have b5 := sl_k32 hk hl hp
  have b6 := sp_cell hk b1 b2
  have b7 := sp_cells hk
  have hh := hc.2.1 _ b6
  have hd := hc.1
  rw [nI_z] at a1 a2 a3 a4 hh hd
  have hx : f_X5_cellAt μ t (zI (sl_x L p)) (zI (sl_y L p)) = zI ((sl_y L p * sp_c P + sl_x L p : Nat) : Int) := by rw [cl_cellAt h3 hk (by omega) (by omega) (by omega) (by omega), kx_pos b1 b2]
  have hbc : ∀ m : sh_Mem, f_J6_bitCount_0f7a4 (zI (sl_k L p)) m = some (zI (pc (sl_k L p)), m) := fun m => cl_bits (by omega)
  unfold f_X10_gather
  unfold ldr at hr
  rw [shr_ap h1]
  simp (disch := omega) only [↓reduceIte, ↓shl_ap, shb_ap, shv_ap, zI_lit, zL_lit, nI_z, lN_z, ofN_z, zI_add, zI_sub, zI_mul, zI_neg, zL_add, zL_sub, zL_mul, zL_neg, zI_l, zI_cl, zI_le_t, zI_le_f, zI_lt_t, zI_lt_f, zI_eq_t, zI_eq_f, zI_in_t, zz_isIn_t, zz_isIn_f, not_true_eq_false, not_false_eq_true, true_or, or_true, false_or, or_false, true_and, and_true, false_and, and_false, ir_set, ir_set_k, ir_set_r, ir_row, ir_row_r, sh_i_setL, sh_i_setR, sh_r_setI, sh_r_setL, sh_r_rowI, sh_l_setI, sh_l_rowI, lr_set, lr_set_k, lr_set_r, Nat.reduceLeDiff, Int.reduceAdd, Int.reduceSub, Int.reduceMul, Int.reduceNeg, Int.reduceToNat, Nat.reduceAdd, Nat.reduceMul, Nat.reduceSub, Int.toNat_natCast, h1, shr_ap h1, shp h2, a1, a2, a3, a4, hx, hh, hd, hbc, zN_le_t, zN_le_f]
theorem cl_deed (hw : cw μ t P) (hc : sm_cL μ r P L) (hl : sl_in P L) (hd : sl_d L ≤ 100000) (hp : p < sp_np P) (hq : q < sp_nt P) (hr : ldr r) : ∃ μ', f_X10_deed r (zI p) (zI q) μ = some (zI (wd P L p q), μ') ∧ sh_fr (fun a _ => a = 56 ∨ a = t + 13) μ μ' ∧ (∀ a, ¬ a = 56 → sh_i μ' a = sh_i μ a) ∧ (wd P L p q = 2 → fcs μ' 56 P L p q) := by
  have hw0 := hw
  obtain ⟨h1, h2, h3, hk⟩ := hw
  have hb := sp_bd hk
  have hpos := sp_pos hk hp
  have a4 := (hc.2.2 p hp).2.2.2
  have b5 := sl_k32 hk hl hp
  rw [nI_z] at a4
  unfold f_X10_deed wd
  by_cases c : sl_k L p / 2 ^ q % 2 = 1
  · rw [if_pos c]
    refine ⟨μ, ?_, sh_fr.rf, fun _ _ => rfl, fun z => by cases z⟩
    simp (disch := omega) only [↓reduceIte, ↓shl_ap, shb_ap, shv_ap, zI_lit, zL_lit, nI_z, lN_z, ofN_z, zI_add, zI_sub, zI_mul, zI_neg, zL_add, zL_sub, zL_mul, zL_neg, zI_l, zI_cl, zI_le_t, zI_le_f, zI_lt_t, zI_lt_f, zI_eq_t, zI_eq_f, zI_in_t, zz_isIn_t, zz_isIn_f, not_true_eq_false, not_false_eq_true, true_or, or_true, false_or, or_false, true_and, and_true, false_and, and_false, Nat.reduceLeDiff, Int.reduceAdd, Int.reduceSub, Int.reduceMul, Int.reduceNeg, Int.reduceToNat, Nat.reduceAdd, Nat.reduceMul, Nat.reduceSub, Int.toNat_natCast, a4, zI_and31, zI_bit (show sl_k L p < 128 by omega) (show q < 7 by omega), c, zN_le_t, zN_le_f]
    rfl
  · rw [if_neg c]
    have c' : sl_k L p / 2 ^ q % 2 = 0 := by omega
    have e1 := cl_gather (g := 56) hw0 hc hl hp (by omega) hr
    obtain ⟨m6, hm6⟩ : ∃ m, m = sh_setI (sh_setI (sh_setI (sh_setI (sh_setI μ 56 6 (zI (sl_t L p))) 56 14 (zI (sl_h L (sl_y L p * sp_c P + sl_x L p)))) 56 15 (zI (pc (sl_k L p)))) 56 16 (zI (sl_d L))) 56 3 (zI q) := ⟨_, rfl⟩
    have hf6 : fcs m6 56 P L p q := by
      rw [hm6]
      refine ⟨?_, ?_, ?_, ?_, ir_set⟩
      · rw [ir_set_k (by omega), ir_set_k (by omega), ir_set_k (by omega), ir_set_k (by omega), ir_set]
      · rw [ir_set_k (by omega), ir_set_k (by omega), ir_set_k (by omega), ir_set]
      · rw [ir_set_k (by omega), ir_set_k (by omega), ir_set]
      · rw [ir_set_k (by omega), ir_set]
    have hr6 : ∀ a, ¬ a = 56 → sh_i m6 a = sh_i μ a := fun a ha => by rw [hm6, ir_set_r ha, ir_set_r ha, ir_set_r ha, ir_set_r ha, ir_set_r ha]
    have hfr6 : sh_fr (fun a _ => a = 56 ∨ a = t + 13) μ m6 := by rw [hm6]; exact sh_fr_I (sh_fr_I (sh_fr_I (sh_fr_I (sh_fr_I sh_fr.rf (Or.inl rfl)) (Or.inl rfl)) (Or.inl rfl)) (Or.inl rfl)) (Or.inl rfl)
    obtain ⟨-, -, ⟨res, g1, -⟩, g3⟩ := sp_forms hk (by omega)
    have ht := sh_isP_r h2
    have hform : sm_form m6 (t + 11) (sp_fh P) := h3.2.2.2.2.2.2.2.2.2.2.2.cg (hr6 _ (by omega)) (hr6 _ (by omega))
    obtain ⟨v, μ', v1, v2, v3, v4⟩ := cl_value (F := fa P L p q 0) (K := k0) (W := k0) (g := 56) (fa_in hk hl hd hp (by omega) (by omega)) k0_in k0_in g3 g1 hform hf6.h1 (fun z => by cases z)
    have hv : vh P L p q = v := by unfold vh; rw [v2]; rfl
    have hr1 : sh_r m6 55 0 = some t := by rw [hfr6.1]; exact h1
    have hve : ein v := v3.1
    unfold ein at hve
    have hstep : f_X10_deed r (zI p) (zI q) μ = some (zI (if v = 0 then 2 else 1), μ') := by
      unfold f_X10_deed
      simp (disch := omega) only [↓reduceIte, ↓shl_ap, shb_ap, shv_ap, zI_lit, zL_lit, nI_z, lN_z, ofN_z, zI_add, zI_sub, zI_mul, zI_neg, zL_add, zL_sub, zL_mul, zL_neg, zI_l, zI_cl, zI_le_t, zI_le_f, zI_lt_t, zI_lt_f, zI_eq_t, zI_eq_f, zI_in_t, zz_isIn_t, zz_isIn_f, not_true_eq_false, not_false_eq_true, true_or, or_true, false_or, or_false, true_and, and_true, false_and, and_false, Nat.reduceLeDiff, Int.reduceAdd, Int.reduceSub, Int.reduceMul, Int.reduceNeg, Int.reduceToNat, Nat.reduceAdd, Nat.reduceMul, Nat.reduceSub, Int.toNat_natCast, a4, zI_and31, zI_bit (show sl_k L p < 128 by omega) (show q < 7 by omega), c', e1, zN_le_t, zN_le_f]
      rw [← hm6, shr_ap hr1]
      by_cases cv : v = 0
      · rw [if_pos cv]
        simp (disch := omega) only [↓reduceIte, ↓shl_ap, shb_ap, shv_ap, zI_lit, zL_lit, nI_z, lN_z, ofN_z, zI_add, zI_sub, zI_mul, zI_neg, zL_add, zL_sub, zL_mul, zL_neg, zI_l, zI_cl, zI_le_t, zI_le_f, zI_lt_t, zI_lt_f, zI_eq_t, zI_eq_f, zI_in_t, zz_isIn_t, zz_isIn_f, not_true_eq_false, not_false_eq_true, true_or, or_true, false_or, or_false, true_and, and_true, false_and, and_false, Nat.reduceLeDiff, Int.reduceAdd, Int.reduceSub, Int.reduceMul, Int.reduceNeg, Int.reduceToNat, Nat.reduceAdd, Nat.reduceMul, Nat.reduceSub, Int.toNat_natCast, hr1, shr_ap hr1, shp h2, v1, lg_eq0, eq_true cv, zN_le_t, zN_le_f]
      · rw [if_neg cv]
        simp (disch := omega) only [↓reduceIte, ↓shl_ap, shb_ap, shv_ap, zI_lit, zL_lit, nI_z, lN_z, ofN_z, zI_add, zI_sub, zI_mul, zI_neg, zL_add, zL_sub, zL_mul, zL_neg, zI_l, zI_cl, zI_le_t, zI_le_f, zI_lt_t, zI_lt_f, zI_eq_t, zI_eq_f, zI_in_t, zz_isIn_t, zz_isIn_f, not_true_eq_false, not_false_eq_true, true_or, or_true, false_or, or_false, true_and, and_true, false_and, and_false, Nat.reduceLeDiff, Int.reduceAdd, Int.reduceSub, Int.reduceMul, Int.reduceNeg, Int.reduceToNat, Nat.reduceAdd, Nat.reduceMul, Nat.reduceSub, Int.toNat_natCast, hr1, shr_ap hr1, shp h2, v1, lg_eq0, eq_false cv, zN_le_t, zN_le_f]
    unfold f_X10_deed at hstep
    refine ⟨μ', ?_, hfr6.trans (v4.fr.mono (fun a _ z => Or.inr z)), fun a ha => by rw [v4.1]; exact hr6 a ha, fun _ => hf6.cg (fun k _ => by rw [v4.1])⟩
    rw [hstep, hv]
    by_cases cv : v = 0
    · rw [if_pos cv, if_pos cv]; rfl
    · rw [if_neg cv, if_neg cv]; rfl
end Wc
