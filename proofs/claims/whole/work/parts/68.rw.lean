/-! the reference's world -/
def lh (L : sl_T) (h : Nat → Nat) : sl_T := (sl_d L, h, sl_x L, sl_y L, sl_t L, sl_k L)
theorem lh_self (L : sl_T) : lh L (sl_h L) = L := rfl
theorem sp_inj {P : sp_T} {x y x' y' : Nat} (hx : x < sp_c P) (hx' : x' < sp_c P) (h : y * sp_c P + x = y' * sp_c P + x') : x = x' ∧ y = y' := by
  have h0 : 0 < sp_c P := by omega
  have e1 : (y * sp_c P + x) / sp_c P = y := by rw [Nat.mul_comm, Nat.mul_add_div h0, Nat.div_eq_of_lt hx, Nat.add_zero]
  have e2 : (y' * sp_c P + x') / sp_c P = y' := by rw [Nat.mul_comm, Nat.mul_add_div h0, Nat.div_eq_of_lt hx', Nat.add_zero]
  have e3 : y = y' := by rw [← e1, ← e2, h]
  subst e3
  exact ⟨by omega, rfl⟩
theorem mL_hu {μ : sh_Mem} {P : sp_T} {L : sl_T} {h : Nat → Nat} {x y v : Nat} (hk : sp_ok P) (hm : sm_mL (sh_i μ 330) 0 P (lh L h)) (hx : x < sp_c P) (hy : y < sp_r P) : sm_mL (sh_i (sh_setI μ 330 (1 + x + 7 * y) (zI v)) 330) 0 P (lh L (hu h (y * sp_c P + x) v)) := by
  have hb := sp_bd hk
  obtain ⟨a1, a2, a3⟩ := hm
  refine ⟨?_, fun x' y' hx' hy' => ?_, fun p hp => ?_⟩
  · rw [ir_set_k (by omega)]; exact a1
  · show _ = nI (hu h (y * sp_c P + x) v (y' * sp_c P + x'))
    by_cases c : x' = x ∧ y' = y
    · obtain ⟨rfl, rfl⟩ := c
      rw [hu_s, show 0 + 1 + x' + 7 * y' = 1 + x' + 7 * y' by omega, ir_set, nI_z]
    · rw [ir_set_k (by omega), hu_n (fun z => by have := sp_inj hx' hx z; omega)]
      exact a2 x' y' hx' hy'
  · obtain ⟨b1, b2, b3⟩ := a3 p hp
    exact ⟨by rw [ir_set_k (by omega)]; exact b1, by rw [ir_set_k (by omega)]; exact b2, by rw [ir_set_k (by omega)]; exact b3⟩
theorem rf_part {μ : sh_Mem} {P : sp_T} {L : sl_T} {p q sd t : Nat} (ht : t < 9) (hm : sm_mL (sh_i μ 330) 0 P L) (hk : sp_ok P) (hl : sl_in P L) (hd : sl_d L ≤ 100000) (hp : p < sp_np P) (hq : q ≤ 5) (hs : sd ≤ 99) (e54 : sh_i μ 291 54 = zI p) (e55 : t = 4 → sh_i μ 291 55 = zI q) (e56 : t = 5 → sh_i μ 291 56 = zI sd) : f_X12_qPartOf (zI t) (sh_i μ 291 54) μ = some (zL (fa P L p q sd t), μ) := by
  obtain ⟨b1, b2, b3, b4⟩ := hl.2 p hp
  have hb := sp_bd hk
  have b5 := hl.1 _ (sp_cell hk b1 b2)
  have b6 := pc_le (n := sl_k L p)
  have b7 := sl_k32 hk hl hp
  have e0 := hm.1
  rw [nI_z] at e0
  have hx7 : sl_x L p < 7 := by omega
  unfold f_X12_qPartOf
  rw [e54]
  have c : t = 0 ∨ t = 1 ∨ t = 2 ∨ t = 3 ∨ t = 4 ∨ t = 5 ∨ t = 6 ∨ t = 7 ∨ t = 8 := by omega
  rcases c with rfl | rfl | rfl | rfl | rfl | rfl | rfl | rfl | rfl
  · simp (disch := omega) only [↓reduceIte, ↓shl_ap, shb_ap, shv_ap, zI_lit, zL_lit, nI_z, lN_z, ofN_z, zI_add, zI_sub, zI_mul, zI_neg, zL_add, zL_sub, zL_mul, zL_neg, zI_l, zI_cl, zI_le_t, zI_le_f, zI_lt_t, zI_lt_f, zI_eq_t, zI_eq_f, zI_in_t, zz_isIn_t, zz_isIn_f, not_true_eq_false, not_false_eq_true, true_or, or_true, false_or, or_false, true_and, and_true, false_and, and_false, Nat.reduceLeDiff, Int.reduceAdd, Int.reduceSub, Int.reduceMul, Int.reduceNeg, Int.reduceToNat, Nat.reduceAdd, Nat.reduceMul, Nat.reduceSub, Int.toNat_natCast, rf_tiredOf hm hk hp, zN_le_t, zN_le_f]
    rfl
  · simp (disch := omega) only [↓reduceIte, ↓shl_ap, shb_ap, shv_ap, zI_lit, zL_lit, nI_z, lN_z, ofN_z, zI_add, zI_sub, zI_mul, zI_neg, zL_add, zL_sub, zL_mul, zL_neg, zI_l, zI_cl, zI_le_t, zI_le_f, zI_lt_t, zI_lt_f, zI_eq_t, zI_eq_f, zI_in_t, zz_isIn_t, zz_isIn_f, not_true_eq_false, not_false_eq_true, true_or, or_true, false_or, or_false, true_and, and_true, false_and, and_false, Nat.reduceLeDiff, Int.reduceAdd, Int.reduceSub, Int.reduceMul, Int.reduceNeg, Int.reduceToNat, Nat.reduceAdd, Nat.reduceMul, Nat.reduceSub, Int.toNat_natCast, rf_cellOf hm hk hp, rf_heightOf hm hk b1 b2, zN_le_t, zN_le_f]
    rfl
  · simp (disch := omega) only [↓reduceIte, ↓shl_ap, shb_ap, shv_ap, zI_lit, zL_lit, nI_z, lN_z, ofN_z, zI_add, zI_sub, zI_mul, zI_neg, zL_add, zL_sub, zL_mul, zL_neg, zI_l, zI_cl, zI_le_t, zI_le_f, zI_lt_t, zI_lt_f, zI_eq_t, zI_eq_f, zI_in_t, zz_isIn_t, zz_isIn_f, not_true_eq_false, not_false_eq_true, true_or, or_true, false_or, or_false, true_and, and_true, false_and, and_false, Nat.reduceLeDiff, Int.reduceAdd, Int.reduceSub, Int.reduceMul, Int.reduceNeg, Int.reduceToNat, Nat.reduceAdd, Nat.reduceMul, Nat.reduceSub, Int.toNat_natCast, rf_knowsOf hm hk hp, rf_bits (show sl_k L p < 128 by omega), zN_le_t, zN_le_f]
    rfl
  · simp (disch := omega) only [↓reduceIte, ↓shl_ap, shb_ap, shv_ap, zI_lit, zL_lit, nI_z, lN_z, ofN_z, zI_add, zI_sub, zI_mul, zI_neg, zL_add, zL_sub, zL_mul, zL_neg, zI_l, zI_cl, zI_le_t, zI_le_f, zI_lt_t, zI_lt_f, zI_eq_t, zI_eq_f, zI_in_t, zz_isIn_t, zz_isIn_f, not_true_eq_false, not_false_eq_true, true_or, or_true, false_or, or_false, true_and, and_true, false_and, and_false, Nat.reduceLeDiff, Int.reduceAdd, Int.reduceSub, Int.reduceMul, Int.reduceNeg, Int.reduceToNat, Nat.reduceAdd, Nat.reduceMul, Nat.reduceSub, Int.toNat_natCast, e0, zN_le_t, zN_le_f]
    rfl
  · simp (disch := omega) only [↓reduceIte, ↓shl_ap, shb_ap, shv_ap, zI_lit, zL_lit, nI_z, lN_z, ofN_z, zI_add, zI_sub, zI_mul, zI_neg, zL_add, zL_sub, zL_mul, zL_neg, zI_l, zI_cl, zI_le_t, zI_le_f, zI_lt_t, zI_lt_f, zI_eq_t, zI_eq_f, zI_in_t, zz_isIn_t, zz_isIn_f, not_true_eq_false, not_false_eq_true, true_or, or_true, false_or, or_false, true_and, and_true, false_and, and_false, Nat.reduceLeDiff, Int.reduceAdd, Int.reduceSub, Int.reduceMul, Int.reduceNeg, Int.reduceToNat, Nat.reduceAdd, Nat.reduceMul, Nat.reduceSub, Int.toNat_natCast, e55 rfl, zN_le_t, zN_le_f]
    rfl
  · simp (disch := omega) only [↓reduceIte, ↓shl_ap, shb_ap, shv_ap, zI_lit, zL_lit, nI_z, lN_z, ofN_z, zI_add, zI_sub, zI_mul, zI_neg, zL_add, zL_sub, zL_mul, zL_neg, zI_l, zI_cl, zI_le_t, zI_le_f, zI_lt_t, zI_lt_f, zI_eq_t, zI_eq_f, zI_in_t, zz_isIn_t, zz_isIn_f, not_true_eq_false, not_false_eq_true, true_or, or_true, false_or, or_false, true_and, and_true, false_and, and_false, Nat.reduceLeDiff, Int.reduceAdd, Int.reduceSub, Int.reduceMul, Int.reduceNeg, Int.reduceToNat, Nat.reduceAdd, Nat.reduceMul, Nat.reduceSub, Int.toNat_natCast, e56 rfl, zN_le_t, zN_le_f]
    rfl
  · simp (disch := omega) only [↓reduceIte, ↓shl_ap, shb_ap, shv_ap, zI_lit, zL_lit, nI_z, lN_z, ofN_z, zI_add, zI_sub, zI_mul, zI_neg, zL_add, zL_sub, zL_mul, zL_neg, zI_l, zI_cl, zI_le_t, zI_le_f, zI_lt_t, zI_lt_f, zI_eq_t, zI_eq_f, zI_in_t, zz_isIn_t, zz_isIn_f, not_true_eq_false, not_false_eq_true, true_or, or_true, false_or, or_false, true_and, and_true, false_and, and_false, Nat.reduceLeDiff, Int.reduceAdd, Int.reduceSub, Int.reduceMul, Int.reduceNeg, Int.reduceToNat, Nat.reduceAdd, Nat.reduceMul, Nat.reduceSub, Int.toNat_natCast, zN_le_t, zN_le_f]
    rfl
  · simp (disch := omega) only [↓reduceIte, ↓shl_ap, shb_ap, shv_ap, zI_lit, zL_lit, nI_z, lN_z, ofN_z, zI_add, zI_sub, zI_mul, zI_neg, zL_add, zL_sub, zL_mul, zL_neg, zI_l, zI_cl, zI_le_t, zI_le_f, zI_lt_t, zI_lt_f, zI_eq_t, zI_eq_f, zI_in_t, zz_isIn_t, zz_isIn_f, not_true_eq_false, not_false_eq_true, true_or, or_true, false_or, or_false, true_and, and_true, false_and, and_false, Nat.reduceLeDiff, Int.reduceAdd, Int.reduceSub, Int.reduceMul, Int.reduceNeg, Int.reduceToNat, Nat.reduceAdd, Nat.reduceMul, Nat.reduceSub, Int.toNat_natCast, rf_cellOf hm hk hp, zI_div, zI_mod, zN_le_t, zN_le_f]
    rw [show ((sl_x L p + 7 * sl_y L p : Nat) : Int) % 7 = (sl_x L p : Int) by omega]
    rfl
  · simp (disch := omega) only [↓reduceIte, ↓shl_ap, shb_ap, shv_ap, zI_lit, zL_lit, nI_z, lN_z, ofN_z, zI_add, zI_sub, zI_mul, zI_neg, zL_add, zL_sub, zL_mul, zL_neg, zI_l, zI_cl, zI_le_t, zI_le_f, zI_lt_t, zI_lt_f, zI_eq_t, zI_eq_f, zI_in_t, zz_isIn_t, zz_isIn_f, not_true_eq_false, not_false_eq_true, true_or, or_true, false_or, or_false, true_and, and_true, false_and, and_false, Nat.reduceLeDiff, Int.reduceAdd, Int.reduceSub, Int.reduceMul, Int.reduceNeg, Int.reduceToNat, Nat.reduceAdd, Nat.reduceMul, Nat.reduceSub, Int.toNat_natCast, rf_cellOf hm hk hp, zI_div, zN_le_t, zN_le_f]
    rw [show ((sl_x L p + 7 * sl_y L p : Nat) : Int) / 7 = (sl_y L p : Int) by omega]
    rfl
def rN3 (r k : Nat) : Prop := r = 366 ∨ (r = 291 ∧ (k = 51 ∨ k = 54 ∨ k = 55 ∨ k = 56 ∨ k = 109))
theorem sm_mP.f3 {μ μ' : sh_Mem} {P : sp_T} (h : sm_mP μ P) (hi : ∀ r k, ((321 ≤ r ∧ r ≤ 329) ∨ (r = 291 ∧ k = 50)) → sh_i μ' r k = sh_i μ r k) (hl : sh_l μ' 323 = sh_l μ 323) : sm_mP μ' P := h.cg (hi _ _ (by omega)) (fun j h1 h2 => funext fun k => hi _ _ (by omega)) hl
section Rw
variable {μ : sh_Mem} {P : sp_T} {L : sl_T} {p q : Nat}
theorem rf_would (hM : sm_mP μ P) (hm : sm_mL (sh_i μ 330) 0 P L) (hk : sp_ok P) (hl : sl_in P L) (hd : sl_d L ≤ 100000) (hp : p < sp_np P) (hq : q < sp_nt P) : ∃ μ', f_X12_wouldDo (zI p) (zI q) μ = some (zI (wd P L p q), μ') ∧ sh_fr rN3 μ μ' ∧ (wd P L p q = 2 → sh_i μ' 291 54 = zI p ∧ sh_i μ' 291 55 = zI q) := by
  have hb := sp_bd hk
  have hpos := sp_pos hk hp
  have b7 := sl_k32 hk hl hp
  have hbit := zI_bit (k := sl_k L p) (t := q) (by omega) (by omega)
  have hmF := hM.2.2.2.2.2.2.2.2.2.2.2.2
  have hok := hk.2.2.2.2.2.2.2.2.2.2.2 (by omega)
  unfold wd
  by_cases c : sl_k L p / 2 ^ q % 2 = 1
  · rw [if_pos c]
    rw [c] at hbit
    refine ⟨μ, ?_, sh_fr.rf, fun z => by cases z⟩
    unfold f_X12_wouldDo
    simp (disch := omega) only [↓reduceIte, ↓shl_ap, shb_ap, shv_ap, zI_lit, zL_lit, nI_z, lN_z, ofN_z, zI_add, zI_sub, zI_mul, zI_neg, zL_add, zL_sub, zL_mul, zL_neg, zI_l, zI_cl, zI_le_t, zI_le_f, zI_lt_t, zI_lt_f, zI_eq_t, zI_eq_f, zI_in_t, zz_isIn_t, zz_isIn_f, not_true_eq_false, not_false_eq_true, true_or, or_true, false_or, or_false, true_and, and_true, false_and, and_false, Nat.reduceLeDiff, Int.reduceAdd, Int.reduceSub, Int.reduceMul, Int.reduceNeg, Int.reduceToNat, Nat.reduceAdd, Nat.reduceMul, Nat.reduceSub, Int.toNat_natCast, rf_knowsOf hm hk hp, zI_and31, hbit, zN_le_t, zN_le_f]
    rfl
  · rw [if_neg c]
    have c' : sl_k L p / 2 ^ q % 2 = 0 := by omega
    rw [c'] at hbit
    obtain ⟨m6, hm6⟩ : ∃ m, m = sh_setI (sh_setI μ 291 54 (zI p)) 291 55 (zI q) := ⟨_, rfl⟩
    have n6 : ∀ r k, ¬ (r = 291 ∧ (k = 54 ∨ k = 55)) → sh_i m6 r k = sh_i μ r k := fun r k z => by rw [hm6, sh_i_set, if_neg (by omega), sh_i_set, if_neg (by omega)]
    have f6 : sh_fr rN3 μ m6 := by rw [hm6]; exact sh_fr_I (sh_fr_I sh_fr.rf (by unfold rN3; omega)) (by unfold rN3; omega)
    have e54 : sh_i m6 291 54 = zI p := by rw [hm6, ir_set_k (by omega), ir_set]
    have e55 : sh_i m6 291 55 = zI q := by rw [hm6, ir_set]
    have m330 : sh_i m6 330 = sh_i μ 330 := funext fun k => n6 330 k (by omega)
    have hun : f_X12_wouldDo (zI p) (zI q) μ = (if (sh_i m6 327 (Int32.toNatClampNeg 5)) = (-1) then some (2, m6) else sh_bind (f_X12_codesTell 2 m6) (fun y10 μ8 => (if (lg_cmp y10 1) = 0 then some (1, μ8) else some (2, μ8)))) := by
      unfold f_X12_wouldDo
      simp (disch := omega) only [↓reduceIte, ↓shl_ap, shb_ap, shv_ap, zI_lit, zL_lit, nI_z, lN_z, ofN_z, zI_add, zI_sub, zI_mul, zI_neg, zL_add, zL_sub, zL_mul, zL_neg, zI_l, zI_cl, zI_le_t, zI_le_f, zI_lt_t, zI_lt_f, zI_eq_t, zI_eq_f, zI_in_t, zz_isIn_t, zz_isIn_f, not_true_eq_false, not_false_eq_true, true_or, or_true, false_or, or_false, true_and, and_true, false_and, and_false, Nat.reduceLeDiff, Int.reduceAdd, Int.reduceSub, Int.reduceMul, Int.reduceNeg, Int.reduceToNat, Nat.reduceAdd, Nat.reduceMul, Nat.reduceSub, Int.toNat_natCast, rf_knowsOf hm hk hp, zI_and31, hbit, zN_le_t, zN_le_f]
      rw [← hm6]
    rw [hun]
    cases ht : (sp_told P).2.2 with
    | false =>
      rw [ht] at hmF
      have hv : vh P L p q = 0 := by
        unfold vh
        rw [hok.2.2.2.2.1 ht]
        rfl
      rw [if_pos hv]
      have e5 : sh_i m6 327 (Int32.toNatClampNeg 5) = -1 := by
        rw [n6 _ _ (by omega)]
        have : sm_mF μ 2 false (sp_fh P) := hmF
        unfold sm_mF at this
        rw [if_pos rfl] at this
        exact this
      rw [if_pos e5]
      exact ⟨m6, rfl, f6, fun _ => ⟨e54, e55⟩⟩
    | true =>
      rw [ht] at hmF
      have hmF6 : sm_mF m6 2 true (sp_fh P) := hmF.cg (funext fun k => n6 _ _ (by omega)) (funext fun k => n6 _ _ (by omega)) (funext fun k => n6 _ _ (by omega))
      obtain ⟨v, m8, d1, d2, d3, d4⟩ := rf_codes (F := fa P L p q 0) (K := k0) (W := k0) (kd := 1) (k := 2) (by omega) (fa_in hk hl hd hp (by omega) (by omega)) k0_in k0_in (by omega) (hok.2.2.2.2.2 ht) hmF6 (fun t h1 h2 m hf => by
        have h2 : t < 5 := h2
        have n8 : ∀ r k, ¬ r = 366 → ¬ (r = 291 ∧ (k = 51 ∨ k = 109)) → sh_i m r k = sh_i m6 r k := fun r k z1 z2 => hf.i r k (fun z => by unfold rN2 at z; omega)
        refine rf_part (t := t) h1 ?_ hk hl hd hp (by omega) (by omega) (by rw [n8 _ _ (by omega) (by omega)]; exact e54) (fun _ => by rw [n8 _ _ (by omega) (by omega)]; exact e55) (fun z => by omega)
        rw [show sh_i m 330 = sh_i μ 330 from funext fun k => by rw [n8 _ _ (by omega) (by omega), n6 _ _ (by omega)]]
        exact hm)
      have hv : vh P L p q = v := by unfold vh; rw [d2]; rfl
      have hne : ¬ sh_i m6 327 (Int32.toNatClampNeg 5) = -1 := by
        have : sm_mF m6 2 true (sp_fh P) := hmF6
        unfold sm_mF at this
        rw [if_neg (by decide)] at this
        obtain ⟨a, b, q1, q2, q3, q4, -⟩ := this
        have q4 : sh_i m6 327 (Int32.toNatClampNeg 5) = nI a := q4
        rw [q4, nI_z]
        intro z
        have := (zI_eq (a := (a : Int)) (b := -1) (by omega) (by omega) (by omega) (by omega)).mp (show zI (a : Int) = zI (-1) from z)
        omega
      have d1' : f_X12_codesTell 2 m6 = some (zL v, m8) := d1
      have n8 : ∀ k, k = 54 ∨ k = 55 → sh_i m8 291 k = sh_i m6 291 k := fun k z => d4.i _ _ (fun z => by unfold rN2 at z; omega)
      have f8 : sh_fr rN3 μ m8 := f6.trans (d4.mono (fun r k z => by unfold rN2 at z; unfold rN3; omega))
      rw [if_neg hne, d1', shb_ap, hv]
      have d31 := d3.2.1 rfl
      have d30 := d3.1
      unfold ein at d30
      have hlg : (lg_cmp (zL v) 1 = 0) = (v = 1) := lg_eq0 (a := v) (b := 1) (by omega)
      rcases d31 with rfl | rfl
      · rw [if_neg (fun z => by rw [hlg] at z; omega), if_pos rfl]
        exact ⟨m8, rfl, f8, fun _ => ⟨by rw [n8 _ (by omega)]; exact e54, by rw [n8 _ (by omega)]; exact e55⟩⟩
      · rw [if_pos (by rw [hlg]), if_neg (show ¬ (1 : Int) = 0 by omega)]
        exact ⟨m8, rfl, f8, fun z => by cases z⟩
def ro (P : sp_T) (k : Nat) : Nat := k % sp_c P + 7 * (k / sp_c P)
def bz (P : sp_T) : Option Nat → Int
  | none => -1
  | some b => (ro P b : Int)
theorem ro_lt (hk : sp_ok P) {k : Nat} (h : k < sp_c P * sp_r P) : ro P k < 49 := by
  have h1 := sp_div h
  have hb := sp_bd hk
  unfold ro
  omega
theorem rf_hb1 {a b d : Int} {h : Nat → Nat} {ex : Nat → Bool} (hM : sm_mP μ P) (hk : sp_ok P) (hm : sm_mL (sh_i μ 330) 0 P (lh L h)) (hle : ∀ j, j < sp_c P * sp_r P → h j ≤ 99) (ha : -1 ≤ a ∧ a < 100) (hb : -1 ≤ b ∧ b < 100) (hd : -1 ≤ d ∧ d < 100) (hex : ∀ k, k < sp_c P * sp_r P → (((ro P k : Int) = a ∨ (ro P k : Int) = b ∨ (ro P k : Int) = d) ↔ ex k = true)) : ∀ (g f k : Nat), k + g = sp_c P * sp_r P → g < f → F_X12_highestBut f 1 (zI a) (zI b) (zI d) (zI (bz P (bst h ex k))) (zI k) μ = some (zI (bz P (bst h ex (sp_c P * sp_r P))), μ) := by
  have hcs := sp_cells hk
  intro g
  induction g with
  | zero =>
    intro f k hg hf
    obtain ⟨f, rfl⟩ : ∃ q, f = q + 1 := ⟨f - 1, by omega⟩
    have hk2 : k = sp_c P * sp_r P := by omega
    rw [F_X12_highestBut, rf_cellMany hM, hk2]
    simp (disch := omega) only [↓reduceIte, ↓shl_ap, shb_ap, shv_ap, zI_lit, zL_lit, nI_z, lN_z, ofN_z, zI_add, zI_sub, zI_mul, zI_neg, zL_add, zL_sub, zL_mul, zL_neg, zI_l, zI_cl, zI_le_t, zI_le_f, zI_lt_t, zI_lt_f, zI_eq_t, zI_eq_f, zI_in_t, zz_isIn_t, zz_isIn_f, not_true_eq_false, not_false_eq_true, true_or, or_true, false_or, or_false, true_and, and_true, false_and, and_false, Nat.reduceLeDiff, Int.reduceAdd, Int.reduceSub, Int.reduceMul, Int.reduceNeg, Int.reduceToNat, Nat.reduceAdd, Nat.reduceMul, Nat.reduceSub, Int.toNat_natCast, Int.le_refl, zN_le_t, zN_le_f]
  | succ g ih =>
    intro f k hg hf
    obtain ⟨f, rfl⟩ : ∃ q, f = q + 1 := ⟨f - 1, by omega⟩
    have hkn : k < sp_c P * sp_r P := by omega
    have hro := ro_lt hk hkn
    have hrec := ih f (k + 1) (by omega) (by omega)
    have hO : f_X12_cellOrder (zI k) μ = some (zI (ro P k : Int), μ) := rf_cellOrder hM hk hkn
    have hH : f_X12_heightOf (zI (ro P k : Int)) μ = some (zI (h k), μ) := rf_heightOrd hm hk hkn
    have hx := hex k hkn
    rw [F_X12_highestBut, rf_cellMany hM]
    by_cases c : ex k = true
    · rw [show bst h ex (k + 1) = bst h ex k by rw [bst, if_pos c], show ((k + 1 : Nat) : Int) = (k : Int) + 1 by omega] at hrec
      have hbz : -1 ≤ bz P (bst h ex k) ∧ bz P (bst h ex k) < 100 := by
        rcases bst_sp (h := h) (ex := ex) k with ⟨q1, -⟩ | ⟨b', q1, q2, -⟩
        · rw [q1]; show (-1 : Int) ≤ -1 ∧ (-1 : Int) < 100; omega
        · rw [q1]
          have := ro_lt hk (show b' < sp_c P * sp_r P by omega)
          show (-1 : Int) ≤ (ro P b' : Int) ∧ (ro P b' : Int) < 100
          omega
      by_cases c1 : (ro P k : Int) = a
      · simp (disch := omega) only [↓reduceIte, ↓shl_ap, shb_ap, shv_ap, zI_lit, zL_lit, nI_z, lN_z, ofN_z, zI_add, zI_sub, zI_mul, zI_neg, zL_add, zL_sub, zL_mul, zL_neg, zI_l, zI_cl, zI_le_t, zI_le_f, zI_lt_t, zI_lt_f, zI_eq_t, zI_eq_f, zI_in_t, zz_isIn_t, zz_isIn_f, not_true_eq_false, not_false_eq_true, true_or, or_true, false_or, or_false, true_and, and_true, false_and, and_false, Nat.reduceLeDiff, Int.reduceAdd, Int.reduceSub, Int.reduceMul, Int.reduceNeg, Int.reduceToNat, Nat.reduceAdd, Nat.reduceMul, Nat.reduceSub, Int.toNat_natCast, hO, hrec, zN_le_t, zN_le_f]
      · by_cases c2 : (ro P k : Int) = b
        · simp (disch := omega) only [↓reduceIte, ↓shl_ap, shb_ap, shv_ap, zI_lit, zL_lit, nI_z, lN_z, ofN_z, zI_add, zI_sub, zI_mul, zI_neg, zL_add, zL_sub, zL_mul, zL_neg, zI_l, zI_cl, zI_le_t, zI_le_f, zI_lt_t, zI_lt_f, zI_eq_t, zI_eq_f, zI_in_t, zz_isIn_t, zz_isIn_f, not_true_eq_false, not_false_eq_true, true_or, or_true, false_or, or_false, true_and, and_true, false_and, and_false, Nat.reduceLeDiff, Int.reduceAdd, Int.reduceSub, Int.reduceMul, Int.reduceNeg, Int.reduceToNat, Nat.reduceAdd, Nat.reduceMul, Nat.reduceSub, Int.toNat_natCast, hO, hrec, zN_le_t, zN_le_f]
        · have c3 : (ro P k : Int) = d := by
            rcases hx.mpr c with z | z | z
            · exact absurd z c1
            · exact absurd z c2
            · exact z
          simp (disch := omega) only [↓reduceIte, ↓shl_ap, shb_ap, shv_ap, zI_lit, zL_lit, nI_z, lN_z, ofN_z, zI_add, zI_sub, zI_mul, zI_neg, zL_add, zL_sub, zL_mul, zL_neg, zI_l, zI_cl, zI_le_t, zI_le_f, zI_lt_t, zI_lt_f, zI_eq_t, zI_eq_f, zI_in_t, zz_isIn_t, zz_isIn_f, not_true_eq_false, not_false_eq_true, true_or, or_true, false_or, or_false, true_and, and_true, false_and, and_false, Nat.reduceLeDiff, Int.reduceAdd, Int.reduceSub, Int.reduceMul, Int.reduceNeg, Int.reduceToNat, Nat.reduceAdd, Nat.reduceMul, Nat.reduceSub, Int.toNat_natCast, hO, hrec, zN_le_t, zN_le_f]
    · have c1 : ¬ (ro P k : Int) = a := fun z => c (hx.mp (Or.inl z))
      have c2 : ¬ (ro P k : Int) = b := fun z => c (hx.mp (Or.inr (Or.inl z)))
      have c3 : ¬ (ro P k : Int) = d := fun z => c (hx.mp (Or.inr (Or.inr z)))
      rw [show ((k + 1 : Nat) : Int) = (k : Int) + 1 by omega] at hrec
      rcases bst_sp (h := h) (ex := ex) k with ⟨q1, -⟩ | ⟨b', q1, q2, -⟩
      · rw [show bst h ex (k + 1) = some k by rw [bst, if_neg c, q1]] at hrec
        have hrec : F_X12_highestBut f 1 (zI a) (zI b) (zI d) (zI (ro P k : Int)) (zI ((k : Int) + 1)) μ = _ := hrec
        rw [q1]
        show sh_bind (some (zI ((sp_c P * sp_r P : Nat) : Int), μ)) _ = _
        rw [show bz P none = -1 from rfl]
        simp (disch := omega) only [↓reduceIte, ↓shl_ap, shb_ap, shv_ap, zI_lit, zL_lit, nI_z, lN_z, ofN_z, zI_add, zI_sub, zI_mul, zI_neg, zL_add, zL_sub, zL_mul, zL_neg, zI_l, zI_cl, zI_le_t, zI_le_f, zI_lt_t, zI_lt_f, zI_eq_t, zI_eq_f, zI_in_t, zz_isIn_t, zz_isIn_f, not_true_eq_false, not_false_eq_true, true_or, or_true, false_or, or_false, true_and, and_true, false_and, and_false, Nat.reduceLeDiff, Int.reduceAdd, Int.reduceSub, Int.reduceMul, Int.reduceNeg, Int.reduceToNat, Nat.reduceAdd, Nat.reduceMul, Nat.reduceSub, Int.toNat_natCast, hO, hrec, zN_le_t, zN_le_f]
      · have hb'n : b' < sp_c P * sp_r P := by omega
        have hrob := ro_lt hk hb'n
        have hHb : f_X12_heightOf (zI (ro P b' : Int)) μ = some (zI (h b'), μ) := rf_heightOrd hm hk hb'n
        have l1 := hle k hkn
        have l2 := hle b' hb'n
        rw [q1, show bz P (some b') = (ro P b' : Int) from rfl]
        by_cases c4 : h b' < h k
        · rw [show bst h ex (k + 1) = some k by rw [bst, if_neg c, q1]; exact if_pos c4] at hrec
          have hrec : F_X12_highestBut f 1 (zI a) (zI b) (zI d) (zI (ro P k : Int)) (zI ((k : Int) + 1)) μ = _ := hrec
          simp (disch := omega) only [↓reduceIte, ↓shl_ap, shb_ap, shv_ap, zI_lit, zL_lit, nI_z, lN_z, ofN_z, zI_add, zI_sub, zI_mul, zI_neg, zL_add, zL_sub, zL_mul, zL_neg, zI_l, zI_cl, zI_le_t, zI_le_f, zI_lt_t, zI_lt_f, zI_eq_t, zI_eq_f, zI_in_t, zz_isIn_t, zz_isIn_f, not_true_eq_false, not_false_eq_true, true_or, or_true, false_or, or_false, true_and, and_true, false_and, and_false, Nat.reduceLeDiff, Int.reduceAdd, Int.reduceSub, Int.reduceMul, Int.reduceNeg, Int.reduceToNat, Nat.reduceAdd, Nat.reduceMul, Nat.reduceSub, Int.toNat_natCast, hO, hH, hHb, hrec, zN_le_t, zN_le_f]
        · rw [show bst h ex (k + 1) = some b' by rw [bst, if_neg c, q1]; exact if_neg c4] at hrec
          have hrec : F_X12_highestBut f 1 (zI a) (zI b) (zI d) (zI (ro P b' : Int)) (zI ((k : Int) + 1)) μ = _ := hrec
          simp (disch := omega) only [↓reduceIte, ↓shl_ap, shb_ap, shv_ap, zI_lit, zL_lit, nI_z, lN_z, ofN_z, zI_add, zI_sub, zI_mul, zI_neg, zL_add, zL_sub, zL_mul, zL_neg, zI_l, zI_cl, zI_le_t, zI_le_f, zI_lt_t, zI_lt_f, zI_eq_t, zI_eq_f, zI_in_t, zz_isIn_t, zz_isIn_f, not_true_eq_false, not_false_eq_true, true_or, or_true, false_or, or_false, true_and, and_true, false_and, and_false, Nat.reduceLeDiff, Int.reduceAdd, Int.reduceSub, Int.reduceMul, Int.reduceNeg, Int.reduceToNat, Nat.reduceAdd, Nat.reduceMul, Nat.reduceSub, Int.toNat_natCast, hO, hH, hHb, hrec, zN_le_t, zN_le_f]
/-- a cell of another row -/
theorem exn_some (hc : 3 ≤ sp_c P) (hr : 3 ≤ sp_r P) {x y : Nat} (hx : x < sp_c P) : ∃ j, j < sp_c P * sp_r P ∧ ¬ exn P x y j = true := by
  have h9 : sp_c P * 3 ≤ sp_c P * sp_r P := Nat.mul_le_mul_left _ hr
  by_cases c : y = 0
  · subst c
    refine ⟨sp_c P, by omega, fun z => ?_⟩
    have := exn_iff.mp z
    omega
  · refine ⟨0, by omega, fun z => ?_⟩
    have h1 : 1 * sp_c P ≤ y * sp_c P := Nat.mul_le_mul_right _ (by omega)
    have := exn_iff.mp z
    omega
theorem bst_some {h : Nat → Nat} {ex : Nat → Bool} {n : Nat} (hj : ∃ j, j < n ∧ ¬ ex j = true) : ∃ b, bst h ex n = some b ∧ bsp h ex n b := by
  rcases bst_sp (h := h) (ex := ex) n with ⟨q1, q2⟩ | q
  · obtain ⟨j, h1, h2⟩ := hj
    exact absurd (q2 j h1) h2
  · exact q
theorem rf_lifts1 {a b d : Int} {ex : Nat → Bool} {x y T : Nat} (hk : sp_ok P) (hx : x < sp_c P) (hy : y < sp_r P) (he : a = ((x + 7 * y : Nat) : Int)) (hb : -1 ≤ b ∧ b < 100) (hd : -1 ≤ d ∧ d < 100) (hex : ∀ k, k < sp_c P * sp_r P → (((ro P k : Int) = a ∨ (ro P k : Int) = b ∨ (ro P k : Int) = d) ↔ ex k = true)) (hcx : ex (y * sp_c P + x) = true) (hj : ∃ j, j < sp_c P * sp_r P ∧ ¬ ex j = true) (hT : T ≤ 9) : ∀ (g f i m : Nat) (h : Nat → Nat) (μ : sh_Mem), i + g = T → g < f → m + g ≤ 100 → sm_mP μ P → sm_mL (sh_i μ 330) 0 P (lh L h) → (∀ j, j < sp_c P * sp_r P → h j ≤ 99) → sh_i μ 291 59 = zI m →
    ∃ μ', F_X12_lifts f 1 (zI a) (zI b) (zI d) (zI T) (zI i) μ = some μ' ∧ sm_mL (sh_i μ' 330) 0 P (lh L (lfn (sp_c P * sp_r P) ex (y * sp_c P + x) g h m).1) ∧ sh_i μ' 291 59 = zI (lfn (sp_c P * sp_r P) ex (y * sp_c P + x) g h m).2 ∧ sh_fr (fun r k => (r = 330 ∧ k < 50) ∨ (r = 291 ∧ k = 59)) μ μ' := by
  have hbd := sp_bd hk
  have hcell := sp_cell hk hx hy
  have hcs := sp_cells hk
  intro g
  induction g with
  | zero =>
    intro f i m h μ hi hf hm100 hM hm hle e59
    obtain ⟨f, rfl⟩ : ∃ q, f = q + 1 := ⟨f - 1, by omega⟩
    refine ⟨μ, ?_, hm, e59, sh_fr.rf⟩
    rw [F_X12_lifts]
    simp (disch := omega) only [↓reduceIte, ↓shl_ap, shb_ap, shv_ap, zI_lit, zL_lit, nI_z, lN_z, ofN_z, zI_add, zI_sub, zI_mul, zI_neg, zL_add, zL_sub, zL_mul, zL_neg, zI_l, zI_cl, zI_le_t, zI_le_f, zI_lt_t, zI_lt_f, zI_eq_t, zI_eq_f, zI_in_t, zz_isIn_t, zz_isIn_f, not_true_eq_false, not_false_eq_true, true_or, or_true, false_or, or_false, true_and, and_true, false_and, and_false, Nat.reduceLeDiff, Int.reduceAdd, Int.reduceSub, Int.reduceMul, Int.reduceNeg, Int.reduceToNat, Nat.reduceAdd, Nat.reduceMul, Nat.reduceSub, Int.toNat_natCast, zN_le_t, zN_le_f]
  | succ g ih =>
    intro f i m h μ hi hf hm100 hM hm hle e59
    obtain ⟨f, rfl⟩ : ∃ q, f = q + 1 := ⟨f - 1, by omega⟩
    obtain ⟨bb, q1, q2⟩ := bst_some (h := h) hj
    have hbn := q2.1
    have hrob := ro_lt hk hbn
    have hdv := sp_div hbn
    have hHb : f_X12_heightOf (zI (ro P bb : Int)) μ = some (zI (h bb), μ) := rf_heightOrd hm hk hbn
    have hHc : f_X12_heightOf (zI a) μ = some (zI (h (y * sp_c P + x)), μ) := by rw [he]; exact rf_heightOf hm hk hx hy
    have hB : f_X12_highestBut (zI a) (zI b) (zI d) μ = some (zI (ro P bb : Int), μ) := by
      have := rf_hb1 hM hk hm hle (by omega) hb hd hex (sp_c P * sp_r P) sh_fuel 0 (by omega) (by rw [sh_fuel_eq]; omega)
      rw [q1] at this
      exact this
    have l1 := hle _ hbn
    have l2 := hle _ hcell
    have hne : ¬ bb = y * sp_c P + x := fun z => q2.2.1 (by rw [z]; exact hcx)
    rw [F_X12_lifts]
    unfold lfn lf1
    rw [q1]
    by_cases c1 : h bb = 0
    · have hL : (if 99 ≤ h (y * sp_c P + x) then none else if h bb = 0 then none else some (hu (hu h bb (h bb - 1)) (y * sp_c P + x) (h (y * sp_c P + x) + 1))) = (none : Option (Nat → Nat)) := by rw [if_pos c1]; exact ite_self _
      refine ⟨μ, ?_, by simp only [hL]; exact hm, by simp only [hL]; exact e59, sh_fr.rf⟩
      simp (disch := omega) only [↓reduceIte, ↓shl_ap, shb_ap, shv_ap, zI_lit, zL_lit, nI_z, lN_z, ofN_z, zI_add, zI_sub, zI_mul, zI_neg, zL_add, zL_sub, zL_mul, zL_neg, zI_l, zI_cl, zI_le_t, zI_le_f, zI_lt_t, zI_lt_f, zI_eq_t, zI_eq_f, zI_in_t, zz_isIn_t, zz_isIn_f, not_true_eq_false, not_false_eq_true, true_or, or_true, false_or, or_false, true_and, and_true, false_and, and_false, Nat.reduceLeDiff, Int.reduceAdd, Int.reduceSub, Int.reduceMul, Int.reduceNeg, Int.reduceToNat, Nat.reduceAdd, Nat.reduceMul, Nat.reduceSub, Int.toNat_natCast, hB, hHb, c1, zN_le_t, zN_le_f]
    · by_cases c2 : 99 ≤ h (y * sp_c P + x)
      · have hL : (if 99 ≤ h (y * sp_c P + x) then none else if h bb = 0 then none else some (hu (hu h bb (h bb - 1)) (y * sp_c P + x) (h (y * sp_c P + x) + 1))) = (none : Option (Nat → Nat)) := by rw [if_pos c2]
        refine ⟨μ, ?_, by simp only [hL]; exact hm, by simp only [hL]; exact e59, sh_fr.rf⟩
        simp (disch := omega) only [↓reduceIte, ↓shl_ap, shb_ap, shv_ap, zI_lit, zL_lit, nI_z, lN_z, ofN_z, zI_add, zI_sub, zI_mul, zI_neg, zL_add, zL_sub, zL_mul, zL_neg, zI_l, zI_cl, zI_le_t, zI_le_f, zI_lt_t, zI_lt_f, zI_eq_t, zI_eq_f, zI_in_t, zz_isIn_t, zz_isIn_f, not_true_eq_false, not_false_eq_true, true_or, or_true, false_or, or_false, true_and, and_true, false_and, and_false, Nat.reduceLeDiff, Int.reduceAdd, Int.reduceSub, Int.reduceMul, Int.reduceNeg, Int.reduceToNat, Nat.reduceAdd, Nat.reduceMul, Nat.reduceSub, Int.toNat_natCast, hB, hHb, hHc, zN_le_t, zN_le_f]
      · have hL : (if 99 ≤ h (y * sp_c P + x) then none else if h bb = 0 then none else some (hu (hu h bb (h bb - 1)) (y * sp_c P + x) (h (y * sp_c P + x) + 1))) = some (hu (hu h bb (h bb - 1)) (y * sp_c P + x) (h (y * sp_c P + x) + 1)) := by rw [if_neg c2, if_neg c1]
        simp only [hL]
        obtain ⟨m1, hm1⟩ : ∃ m', m' = sh_setI μ 330 (1 + bb % sp_c P + 7 * (bb / sp_c P)) (zI (h bb - 1 : Nat)) := ⟨_, rfl⟩
        have hmL1 : sm_mL (sh_i m1 330) 0 P (lh L (hu h bb (h bb - 1))) := by
          have := mL_hu (v := h bb - 1) hk hm hdv.1 hdv.2.1
          rw [hdv.2.2] at this
          rw [hm1]
          exact this
        obtain ⟨m2, hm2⟩ : ∃ m', m' = sh_setI (sh_setI m1 330 (1 + x + 7 * y) (zI (h (y * sp_c P + x) + 1 : Nat))) 291 59 (zI (m + 1 : Nat)) := ⟨_, rfl⟩
        have n2 : ∀ r k, ¬ r = 330 → ¬ (r = 291 ∧ k = 59) → sh_i m2 r k = sh_i μ r k := fun r k z1 z2 => by rw [hm2, sh_i_set, if_neg (by omega), ir_set_r z1, hm1, ir_set_r z1]
        have hmL2 : sm_mL (sh_i m2 330) 0 P (lh L (hu (hu h bb (h bb - 1)) (y * sp_c P + x) (h (y * sp_c P + x) + 1))) := by
          rw [hm2, ir_set_r (by omega)]
          exact mL_hu hk hmL1 hx hy
        have hM2 : sm_mP m2 P := hM.f3 (fun r k z => n2 r k (by omega) (by omega)) (by rw [hm2, hm1]; rfl)
        have hle2 : ∀ j, j < sp_c P * sp_r P → hu (hu h bb (h bb - 1)) (y * sp_c P + x) (h (y * sp_c P + x) + 1) j ≤ 99 := by
          intro j hj'
          unfold hu
          split
          · omega
          · split
            · omega
            · exact hle j hj'
        obtain ⟨μ', d1, d2, d3, d4⟩ := ih f (i + 1) (m + 1) _ m2 (by omega) (by omega) (by omega) hM2 hmL2 hle2 (by rw [hm2, ir_set])
        have w1 : (1 + (ro P bb : Int)).toNat = 1 + bb % sp_c P + 7 * (bb / sp_c P) := by unfold ro; omega
        have w2 : (1 + a).toNat = 1 + x + 7 * y := by omega
        have v1 : sh_i μ 330 (1 + bb % sp_c P + 7 * (bb / sp_c P)) = zI (h bb) := by
          have := hm.2.1 _ _ hdv.1 hdv.2.1
          rw [hdv.2.2, nI_z] at this
          rw [Nat.zero_add] at this
          exact this
        have v2 : sh_i m1 330 (1 + x + 7 * y) = zI (h (y * sp_c P + x)) := by
          have := hmL1.2.1 _ _ hx hy
          rw [show sl_h (lh L (hu h bb (h bb - 1))) (y * sp_c P + x) = h (y * sp_c P + x) from hu_n (fun z => hne z.symm), nI_z] at this
          rw [Nat.zero_add] at this
          exact this
        have hx7 : x < 7 := by omega
        have hf2 : sh_fr (fun r k => (r = 330 ∧ k < 50) ∨ (r = 291 ∧ k = 59)) μ m2 := by
          rw [hm2, hm1]
          have : bb / sp_c P < 7 := by omega
          have : bb % sp_c P < 7 := by omega
          exact sh_fr_I (sh_fr_I (sh_fr_I sh_fr.rf (by omega)) (by omega)) (by omega)
        refine ⟨μ', ?_, d2, d3, hf2.trans d4⟩
        rw [← d1]
        simp (disch := omega) only [↓reduceIte, ↓shl_ap, shb_ap, shv_ap, zI_lit, zL_lit, nI_z, lN_z, ofN_z, zI_add, zI_sub, zI_mul, zI_neg, zL_add, zL_sub, zL_mul, zL_neg, zI_l, zI_cl, zI_le_t, zI_le_f, zI_lt_t, zI_lt_f, zI_eq_t, zI_eq_f, zI_in_t, zz_isIn_t, zz_isIn_f, not_true_eq_false, not_false_eq_true, true_or, or_true, false_or, or_false, true_and, and_true, false_and, and_false, Nat.reduceLeDiff, Int.reduceAdd, Int.reduceSub, Int.reduceMul, Int.reduceNeg, Int.reduceToNat, Nat.reduceAdd, Nat.reduceMul, Nat.reduceSub, Int.toNat_natCast, hB, hHb, hHc, w1, v1, zN_le_t, zN_le_f]
        rw [show ((h bb : Nat) : Int) - 1 = ((h bb - 1 : Nat) : Int) by omega, ← hm1]
        simp (disch := omega) only [↓reduceIte, ↓shl_ap, shb_ap, shv_ap, zI_lit, zL_lit, nI_z, lN_z, ofN_z, zI_add, zI_sub, zI_mul, zI_neg, zL_add, zL_sub, zL_mul, zL_neg, zI_l, zI_cl, zI_le_t, zI_le_f, zI_lt_t, zI_lt_f, zI_eq_t, zI_eq_f, zI_in_t, zz_isIn_t, zz_isIn_f, not_true_eq_false, not_false_eq_true, true_or, or_true, false_or, or_false, true_and, and_true, false_and, and_false, Nat.reduceLeDiff, Int.reduceAdd, Int.reduceSub, Int.reduceMul, Int.reduceNeg, Int.reduceToNat, Nat.reduceAdd, Nat.reduceMul, Nat.reduceSub, Int.toNat_natCast, w2, v2, zN_le_t, zN_le_f]
        have e59' : sh_i (sh_setI m1 330 (1 + x + 7 * y) (zI ((h (y * sp_c P + x) : Int) + 1))) 291 59 = zI m := by rw [ir_set_r (by omega), hm1, ir_set_r (by omega), e59]
        simp (disch := omega) only [↓reduceIte, ↓shl_ap, shb_ap, shv_ap, zI_lit, zL_lit, nI_z, lN_z, ofN_z, zI_add, zI_sub, zI_mul, zI_neg, zL_add, zL_sub, zL_mul, zL_neg, zI_l, zI_cl, zI_le_t, zI_le_f, zI_lt_t, zI_lt_f, zI_eq_t, zI_eq_f, zI_in_t, zz_isIn_t, zz_isIn_f, not_true_eq_false, not_false_eq_true, true_or, or_true, false_or, or_false, true_and, and_true, false_and, and_false, Nat.reduceLeDiff, Int.reduceAdd, Int.reduceSub, Int.reduceMul, Int.reduceNeg, Int.reduceToNat, Nat.reduceAdd, Nat.reduceMul, Nat.reduceSub, Int.toNat_natCast, e59', zN_le_t, zN_le_f]
        rw [show ((h (y * sp_c P + x) : Nat) : Int) + 1 = ((h (y * sp_c P + x) + 1 : Nat) : Int) by omega, show ((m : Nat) : Int) + 1 = ((m + 1 : Nat) : Int) by omega, ← hm2]
        rfl
/-- 'liftedBy' -/
theorem rf_lby {h : Nat → Nat} {x y : Nat} (hM : sm_mP μ P) (hm : sm_mL (sh_i μ 330) 0 P (lh L h)) (hk : sp_ok P) (hl : sl_in P L) (hle : ∀ j, j < sp_c P * sp_r P → h j ≤ 99) (hd : sl_d L ≤ 100000) (hp : p < sp_np P) (hq : q < sp_nt P) (hx : x < sp_c P) (hy : y < sp_r P) (e54 : sh_i μ 291 54 = zI p) (e55 : sh_i μ 291 55 = zI q) (ho : h (sl_y L p * sp_c P + sl_x L p) = sl_h L (sl_y L p * sp_c P + sl_x L p)) : ∃ μ', f_X12_liftedBy (zI ((x + 7 * y : Nat) : Int)) μ = some (zI (cut9 (vl P L p q (h (y * sp_c P + x)))), μ') ∧ sh_fr rN3 μ μ' ∧ sh_i μ' 291 54 = zI p ∧ sh_i μ' 291 55 = zI q := by
  have hb := sp_bd hk
  have hpos := sp_pos hk hp
  obtain ⟨⟨hF1, hF2⟩, -⟩ := sp_forms hk (by omega)
  have hmF := hM.2.2.2.2.2.2.2.2.2.2.1
  have hok := hk.2.2.2.2.2.2.2.2.2.2.2 (by omega)
  have hcell := sp_cell hk hx hy
  have l1 := hle _ hcell
  cases ht : (sp_told P).1 with
  | false =>
    rw [ht] at hmF
    have hv : vl P L p q (h (y * sp_c P + x)) = 3 := by
      unfold vl
      rw [hok.2.2.1 ht]
      rfl
    have e5 : sh_i μ 327 (Int32.toNatClampNeg 3) = -1 := by
      have : sm_mF μ 0 false (sp_fl P) := hmF
      unfold sm_mF at this
      rw [if_pos rfl] at this
      exact this
    rw [hv]
    refine ⟨μ, ?_, sh_fr.rf, e54, e55⟩
    unfold f_X12_liftedBy
    rw [if_pos e5]
    rfl
  | true =>
    rw [ht] at hmF
    obtain ⟨m5, hm5⟩ : ∃ m, m = sh_setI μ 291 56 (zI (h (y * sp_c P + x))) := ⟨_, rfl⟩
    have n5 : ∀ r k, ¬ (r = 291 ∧ k = 56) → sh_i m5 r k = sh_i μ r k := fun r k z => by rw [hm5, sh_i_set, if_neg z]
    have f5 : sh_fr rN3 μ m5 := by rw [hm5]; exact sh_fr_I sh_fr.rf (by unfold rN3; omega)
    have hmF5 : sm_mF m5 0 true (sp_fl P) := hmF.cg (funext fun k => n5 _ _ (by omega)) (funext fun k => n5 _ _ (by omega)) (funext fun k => n5 _ _ (by omega))
    have hlL : sl_in P (lh L h) := ⟨hle, hl.2⟩
    have hfa : fa P (lh L h) p q (h (y * sp_c P + x)) = fa P L p q (h (y * sp_c P + x)) := fa_h rfl rfl rfl rfl rfl ho
    obtain ⟨v, m8, d1, d2, d3, d4⟩ := rf_codes (F := fa P L p q (h (y * sp_c P + x))) (K := k0) (W := k0) (kd := 0) (k := 0) (by omega) (fa_in hk hl hd hp (by omega) l1) k0_in k0_in (by omega) hF1 hmF5 (fun t h1 h2 m hf => by
      have h2 : t < 6 := h2
      have n8 : ∀ r k, ¬ r = 366 → ¬ (r = 291 ∧ (k = 51 ∨ k = 109)) → sh_i m r k = sh_i m5 r k := fun r k z1 z2 => hf.i r k (fun z => by unfold rN2 at z; omega)
      rw [← hfa]
      refine rf_part (t := t) h1 ?_ hk hlL hd hp (by omega) l1 (by rw [n8 _ _ (by omega) (by omega), n5 _ _ (by omega)]; exact e54) (fun _ => by rw [n8 _ _ (by omega) (by omega), n5 _ _ (by omega)]; exact e55) (fun z => by rw [n8 _ _ (by omega) (by omega), hm5, ir_set])
      rw [show sh_i m 330 = sh_i μ 330 from funext fun k => by rw [n8 _ _ (by omega) (by omega), n5 _ _ (by omega)]]
      exact hm)
    have hv : vl P L p q (h (y * sp_c P + x)) = v := by unfold vl; rw [d2]; rfl
    have hne : ¬ sh_i μ 327 (Int32.toNatClampNeg 3) = -1 := by
      have : sm_mF μ 0 true (sp_fl P) := hmF
      unfold sm_mF at this
      rw [if_neg (by decide)] at this
      obtain ⟨a, b, q1, q2, q3, q4, -⟩ := this
      have q4 : sh_i μ 327 (Int32.toNatClampNeg 3) = nI a := q4
      rw [q4, nI_z]
      intro z
      have := (zI_eq (a := (a : Int)) (b := -1) (by omega) (by omega) (by omega) (by omega)).mp (show zI (a : Int) = zI (-1) from z)
      omega
    have d1' : f_X12_codesTell 0 m5 = some (zL v, m8) := d1
    have n8 : ∀ k, k = 54 ∨ k = 55 → sh_i m8 291 k = sh_i m5 291 k := fun k z => d4.i _ _ (fun z => by unfold rN2 at z; omega)
    rw [hv]
    refine ⟨m8, ?_, f5.trans (d4.mono (fun r k z => by unfold rN2 at z; unfold rN3; omega)), by rw [n8 _ (by omega), n5 _ _ (by omega)]; exact e54, by rw [n8 _ (by omega), n5 _ _ (by omega)]; exact e55⟩
    unfold f_X12_liftedBy
    rw [if_neg hne, rf_heightOf hm hk hx hy, shb_ap, shl_ap]
    show sh_bind (f_X12_codesTell 0 (sh_setI μ 291 56 (zI (h (y * sp_c P + x))))) _ = _
    rw [← hm5, d1', shb_ap, rf_cut d3.1]
end Rw
