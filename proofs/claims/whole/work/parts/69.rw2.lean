/-! the reference's world: asking, days -/
def rN4 (r k : Nat) : Prop := rN3 r k ∨ (r = 330 ∧ k < 50) ∨ (r = 291 ∧ k = 59)
section Rx
variable {μ : sh_Mem} {P : sp_T} {L : sl_T} {p q : Nat}
theorem exn_ro (hk : sp_ok P) {x y k : Nat} (hx : x < sp_c P) (hk2 : k < sp_c P * sp_r P) : exn P x y k = true ↔ (ro P k = x + 7 * y ∨ (0 < x ∧ ro P k + 1 = x + 7 * y) ∨ (x + 1 < sp_c P ∧ ro P k = x + 7 * y + 1)) := by
  have hb := sp_bd hk
  obtain ⟨d1, d2, d3⟩ := sp_div hk2
  rw [exn_iff]
  unfold ro
  generalize k % sp_c P = u at *
  generalize k / sp_c P = w at *
  constructor
  · rintro (z | ⟨z1, z2⟩ | ⟨z1, z2⟩)
    · have := sp_inj (P := P) (x := u) (y := w) (x' := x) (y' := y) d1 hx (by omega)
      left; omega
    · have := sp_inj (P := P) (x := u) (y := w) (x' := x - 1) (y' := y) d1 (by omega) (by omega)
      right; left; omega
    · have := sp_inj (P := P) (x := u) (y := w) (x' := x + 1) (y' := y) d1 (by omega) (by omega)
      right; right; omega
  · rintro (z | ⟨z1, z2⟩ | ⟨z1, z2⟩)
    · have e1 : u = x := by omega
      have e2 : w = y := by omega
      subst e1; subst e2
      left; omega
    · have e1 : u + 1 = x := by omega
      have e2 : w = y := by omega
      subst e1; subst e2
      right; left; omega
    · have e1 : u = x + 1 := by omega
      have e2 : w = y := by omega
      subst e1; subst e2
      right; right; omega
/-- one of the two lifts -/
theorem rf_lift {h : Nat → Nat} {x y px py m : Nat} {b d : Int} (hM : sm_mP μ P) (hm : sm_mL (sh_i μ 330) 0 P (lh L h)) (hk : sp_ok P) (hl : sl_in P L) (hle : ∀ j, j < sp_c P * sp_r P → h j ≤ 99) (hd : sl_d L ≤ 100000) (hp : p < sp_np P) (hq : q < sp_nt P) (hx : x < sp_c P) (hy : y < sp_r P) (e54 : sh_i μ 291 54 = zI p) (e55 : sh_i μ 291 55 = zI q) (e59 : sh_i μ 291 59 = zI m) (hm100 : m ≤ 50) (ho : h (sl_y L p * sp_c P + sl_x L p) = sl_h L (sl_y L p * sp_c P + sl_x L p)) (hpx : px < sp_c P)
    (hb : -1 ≤ b ∧ b < 100) (hd2 : -1 ≤ d ∧ d < 100) (hex : ∀ k, k < sp_c P * sp_r P → (((ro P k : Int) = ((x + 7 * y : Nat) : Int) ∨ (ro P k : Int) = b ∨ (ro P k : Int) = d) ↔ exn P px py k = true)) (hcx : exn P px py (y * sp_c P + x) = true) :
    ∃ μ', f_X12_lifts (zI ((x + 7 * y : Nat) : Int)) (zI b) (zI d) μ = some μ' ∧ sm_mL (sh_i μ' 330) 0 P (lh L (lfn (sp_c P * sp_r P) (exn P px py) (y * sp_c P + x) (cut9 (vl P L p q (h (y * sp_c P + x)))) h m).1) ∧ sh_i μ' 291 59 = zI (lfn (sp_c P * sp_r P) (exn P px py) (y * sp_c P + x) (cut9 (vl P L p q (h (y * sp_c P + x)))) h m).2 ∧ sh_fr rN4 μ μ' ∧ sh_i μ' 291 54 = zI p ∧ sh_i μ' 291 55 = zI q := by
  have hpos := sp_pos hk hp
  obtain ⟨m1, a1, a2, a3, a4⟩ := rf_lby hM hm hk hl hle hd hp hq hx hy e54 e55 ho
  have n1 : ∀ r k, ¬ r = 366 → ¬ (r = 291 ∧ (k = 51 ∨ k = 54 ∨ k = 55 ∨ k = 56 ∨ k = 109)) → sh_i m1 r k = sh_i μ r k := fun r k z1 z2 => a2.i r k (fun z => by unfold rN3 at z; omega)
  have r330 : sh_i m1 330 = sh_i μ 330 := funext fun k => n1 _ _ (by omega) (by omega)
  have hM1 : sm_mP m1 P := hM.f3 (fun r k z => n1 r k (by omega) (by omega)) (a2.lrow _ (fun k z => by unfold rN3 at z; omega))
  obtain ⟨μ', b1, b2, b3, b4⟩ := rf_lifts1 (L := L) hk hx hy rfl hb hd2 hex hcx (exn_some (by omega) (by omega) hpx) (cut9_le (vl P L p q (h (y * sp_c P + x)))) (cut9 (vl P L p q (h (y * sp_c P + x)))) sh_fuel 0 m h m1 (by omega) (by rw [sh_fuel_eq]; have := cut9_le (vl P L p q (h (y * sp_c P + x))); omega) (by have := cut9_le (vl P L p q (h (y * sp_c P + x))); omega) hM1 (by rw [r330]; exact hm) hle (by rw [n1 _ _ (by omega) (by omega)]; exact e59)
  refine ⟨μ', ?_, b2, b3, (a2.mono (fun r k z => Or.inl z)).trans (b4.mono (fun r k z => Or.inr z)), by rw [b4.i _ _ (by omega)]; exact a3, by rw [b4.i _ _ (by omega)]; exact a4⟩
  unfold f_X12_lifts
  rw [a1, shb_ap]
  exact b1
def kpN (n : Nat) : Nat := if n = 40 then 40 else n + 1
def kpG (n : Nat) (g : Nat → Int32) (d p q m : Int32) (j : Nat) : Int32 := if j + 4 = 4 * kpN n then d else if j + 3 = 4 * kpN n then p else if j + 2 = 4 * kpN n then q else if j + 1 = 4 * kpN n then m else if n = 40 then g (j + 4) else g j
theorem kpN_le {n : Nat} (h : n ≤ 40) : 1 ≤ kpN n ∧ kpN n ≤ 40 := by
  unfold kpN
  split <;> omega
theorem rf_kept1 {a1 a2 : Int32} : ∀ (g f i : Nat) (μ : sh_Mem), i + g = 228 → g < f → 72 ≤ i → ∃ μ', F_X12_isKept f 1 a1 a2 (zI i) μ = F_X12_isKept (f - g) 1 a1 a2 (zI 228) μ' ∧ sh_fr (fun r k => r = 330 ∧ i ≤ k ∧ k < 228) μ μ' ∧ ∀ k, i ≤ k → k < 228 → sh_i μ' 330 k = sh_i μ 330 (k + 4) := by
  intro g
  induction g with
  | zero =>
    intro f i μ hi hf h72
    have hi : i = 228 := by omega
    subst hi
    exact ⟨μ, rfl, sh_fr.rf, fun k h1 h2 => by omega⟩
  | succ g ih =>
    intro f i μ hi hf h72
    obtain ⟨f, rfl⟩ : ∃ q, f = q + 1 := ⟨f - 1, by omega⟩
    obtain ⟨μ', a, b, c⟩ := ih f (i + 1) (sh_setI μ 330 i (sh_i μ 330 (i + 4))) (by omega) (by omega) (by omega)
    refine ⟨μ', ?_, (sh_fr_I sh_fr.rf (by omega)).trans (b.mono (fun r k q => by omega)), fun k h1 h2 => ?_⟩
    · rw [show f + 1 - (g + 1) = f - g by omega, ← a, F_X12_isKept]
      simp (disch := omega) only [↓reduceIte, ↓shl_ap, shb_ap, shv_ap, zI_lit, zL_lit, nI_z, lN_z, ofN_z, zI_add, zI_sub, zI_mul, zI_neg, zL_add, zL_sub, zL_mul, zL_neg, zI_l, zI_cl, zI_le_t, zI_le_f, zI_lt_t, zI_lt_f, zI_eq_t, zI_eq_f, zI_in_t, zz_isIn_t, zz_isIn_f, not_true_eq_false, not_false_eq_true, true_or, or_true, false_or, or_false, true_and, and_true, false_and, and_false, Nat.reduceLeDiff, Int.reduceAdd, Int.reduceSub, Int.reduceMul, Int.reduceNeg, Int.reduceToNat, Nat.reduceAdd, Nat.reduceMul, Nat.reduceSub, Int.toNat_natCast, show ((i : Int) + 4).toNat = i + 4 by omega, zN_le_t, zN_le_f]
      rfl
    · by_cases z : k = i
      · subst z
        rw [b.i _ _ (by omega), ir_set]
      · rw [c k (by omega) h2, ir_set_k (by omega)]
theorem rf_kept {a1 a2 : Int32} {n : Nat} (e57 : sh_i μ 291 57 = 0) (e71 : sh_i μ 330 71 = zI n) (hn : n ≤ 40) : ∃ μ', f_X12_isKept a1 a2 μ = some μ' ∧ sh_i μ' 330 71 = zI (kpN n) ∧ (∀ j, j < 4 * kpN n → sh_i μ' 330 (72 + j) = kpG n (fun j => sh_i μ 330 (72 + j)) (sh_i μ 330 0) a1 a2 (sh_i μ 291 59) j) ∧ sh_fr (fun r k => r = 330 ∧ 71 ≤ k ∧ k < 232) μ μ' := by
  by_cases c : n = 40
  · subst c
    obtain ⟨m1, k1, k2, k3⟩ := rf_kept1 (a1 := a1) (a2 := a2) 156 sh_fuel 72 μ (by omega) (by rw [sh_fuel_eq]; omega) (by omega)
    obtain ⟨f, hf⟩ : ∃ f, sh_fuel - 156 = f + 1 := ⟨sh_fuel - 157, by rw [sh_fuel_eq]⟩
    have g71 : sh_i m1 330 71 = zI 40 := by rw [k2.i _ _ (by omega)]; exact e71
    have g0 : sh_i m1 330 0 = sh_i μ 330 0 := k2.i _ _ (by omega)
    have g59 : sh_i m1 291 59 = sh_i μ 291 59 := k2.i _ _ (by omega)
    refine ⟨sh_setI (sh_setI (sh_setI (sh_setI m1 330 228 (sh_i μ 330 0)) 330 229 a1) 330 230 a2) 330 231 (sh_i μ 291 59), ?_, ?_, fun j hj => ?_, ?_⟩
    · unfold f_X12_isKept
      have e71' : sh_i μ 330 (Int32.toNatClampNeg 71) = zI 40 := e71
      rw [if_pos e57, e71', if_pos (show zI 40 = 40 from rfl)]
      show F_X12_isKept sh_fuel 1 a1 a2 (zI (72 : Nat)) μ = _
      rw [k1, hf, F_X12_isKept]
      simp (disch := omega) only [↓reduceIte, ↓shl_ap, shb_ap, shv_ap, zI_lit, zL_lit, nI_z, lN_z, ofN_z, zI_add, zI_sub, zI_mul, zI_neg, zL_add, zL_sub, zL_mul, zL_neg, zI_l, zI_cl, zI_le_t, zI_le_f, zI_lt_t, zI_lt_f, zI_eq_t, zI_eq_f, zI_in_t, zz_isIn_t, zz_isIn_f, not_true_eq_false, not_false_eq_true, true_or, or_true, false_or, or_false, true_and, and_true, false_and, and_false, ir_set, ir_set_k, ir_set_r, ir_row, ir_row_r, sh_i_setL, sh_i_setR, sh_r_setI, sh_r_setL, sh_r_rowI, sh_l_setI, sh_l_rowI, lr_set, lr_set_k, lr_set_r, Nat.reduceLeDiff, Int.reduceAdd, Int.reduceSub, Int.reduceMul, Int.reduceNeg, Int.reduceToNat, Nat.reduceAdd, Nat.reduceMul, Nat.reduceSub, Int.toNat_natCast, g71, g0, g59, zN_le_t, zN_le_f]
    · rw [ir_set_k (by omega), ir_set_k (by omega), ir_set_k (by omega), ir_set_k (by omega), g71]
      rfl
    · have hj : j < 160 := hj
      unfold kpG
      rw [show kpN 40 = 40 from rfl]
      have hq : j = 156 ∨ j = 157 ∨ j = 158 ∨ j = 159 ∨ j < 156 := by omega
      rcases hq with rfl | rfl | rfl | rfl | hq
      · rw [if_pos rfl, ir_set_k (by omega), ir_set_k (by omega), ir_set_k (by omega), ir_set]
      · rw [if_neg (by omega), if_pos rfl, ir_set_k (by omega), ir_set_k (by omega), ir_set]
      · rw [if_neg (by omega), if_neg (by omega), if_pos rfl, ir_set_k (by omega), ir_set]
      · rw [if_neg (by omega), if_neg (by omega), if_neg (by omega), if_pos rfl, ir_set]
      · rw [if_neg (by omega), if_neg (by omega), if_neg (by omega), if_neg (by omega), if_pos rfl, ir_set_k (by omega), ir_set_k (by omega), ir_set_k (by omega), ir_set_k (by omega), k3 _ (by omega) (by omega), Nat.add_assoc]
    · exact sh_fr_I (sh_fr_I (sh_fr_I (sh_fr_I (k2.mono (fun r k z => by omega)) (by omega)) (by omega)) (by omega)) (by omega)
  · have hN : kpN n = n + 1 := if_neg c
    rw [hN]
    obtain ⟨m1, hm1⟩ : ∃ m, m = sh_setI μ 330 71 (zI (n + 1 : Nat)) := ⟨_, rfl⟩
    have g71 : sh_i m1 330 71 = zI (n + 1 : Nat) := by rw [hm1, ir_set]
    have g0 : sh_i m1 330 0 = sh_i μ 330 0 := by rw [hm1, ir_set_k (by omega)]
    have g59 : sh_i m1 291 59 = sh_i μ 291 59 := by rw [hm1, ir_set_r (by omega)]
    have w0 : (72 + 4 * ((n + 1 : Nat) : Int) - 4).toNat = 72 + 4 * n := by omega
    have w1 : (72 + 4 * ((n + 1 : Nat) : Int) - 4 + 1).toNat = 72 + 4 * n + 1 := by omega
    have w2 : (72 + 4 * ((n + 1 : Nat) : Int) - 4 + 2).toNat = 72 + 4 * n + 2 := by omega
    have w3 : (72 + 4 * ((n + 1 : Nat) : Int) - 4 + 3).toNat = 72 + 4 * n + 3 := by omega
    refine ⟨sh_setI (sh_setI (sh_setI (sh_setI m1 330 (72 + 4 * n) (sh_i μ 330 0)) 330 (72 + 4 * n + 1) a1) 330 (72 + 4 * n + 2) a2) 330 (72 + 4 * n + 3) (sh_i μ 291 59), ?_, ?_, fun j hj => ?_, ?_⟩
    · unfold f_X12_isKept
      have e71' : sh_i μ 330 (Int32.toNatClampNeg 71) = zI n := e71
      rw [if_pos e57, e71']
      simp (disch := omega) only [↓reduceIte, ↓shl_ap, shb_ap, shv_ap, zI_lit, zL_lit, nI_z, lN_z, ofN_z, zI_add, zI_sub, zI_mul, zI_neg, zL_add, zL_sub, zL_mul, zL_neg, zI_l, zI_cl, zI_le_t, zI_le_f, zI_lt_t, zI_lt_f, zI_eq_t, zI_eq_f, zI_in_t, zz_isIn_t, zz_isIn_f, not_true_eq_false, not_false_eq_true, true_or, or_true, false_or, or_false, true_and, and_true, false_and, and_false, Nat.reduceLeDiff, Int.reduceAdd, Int.reduceSub, Int.reduceMul, Int.reduceNeg, Int.reduceToNat, Nat.reduceAdd, Nat.reduceMul, Nat.reduceSub, Int.toNat_natCast, zN_le_t, zN_le_f]
      rw [show (n : Int) + 1 = ((n + 1 : Nat) : Int) by omega, ← hm1, g71]
      simp (disch := omega) only [↓reduceIte, ↓shl_ap, shb_ap, shv_ap, zI_lit, zL_lit, nI_z, lN_z, ofN_z, zI_add, zI_sub, zI_mul, zI_neg, zL_add, zL_sub, zL_mul, zL_neg, zI_l, zI_cl, zI_le_t, zI_le_f, zI_lt_t, zI_lt_f, zI_eq_t, zI_eq_f, zI_in_t, zz_isIn_t, zz_isIn_f, not_true_eq_false, not_false_eq_true, true_or, or_true, false_or, or_false, true_and, and_true, false_and, and_false, ir_set, ir_set_k, ir_set_r, ir_row, ir_row_r, sh_i_setL, sh_i_setR, sh_r_setI, sh_r_setL, sh_r_rowI, sh_l_setI, sh_l_rowI, lr_set, lr_set_k, lr_set_r, Nat.reduceLeDiff, Int.reduceAdd, Int.reduceSub, Int.reduceMul, Int.reduceNeg, Int.reduceToNat, Nat.reduceAdd, Nat.reduceMul, Nat.reduceSub, Int.toNat_natCast, w0, w1, w2, w3, g0, g59, zN_le_t, zN_le_f]
    · rw [ir_set_k (by omega), ir_set_k (by omega), ir_set_k (by omega), ir_set_k (by omega), g71]
    · unfold kpG
      rw [hN]
      have hq : j = 4 * n ∨ j = 4 * n + 1 ∨ j = 4 * n + 2 ∨ j = 4 * n + 3 ∨ j < 4 * n := by omega
      rcases hq with rfl | rfl | rfl | rfl | hq
      · rw [if_pos (by omega), ir_set_k (by omega), ir_set_k (by omega), ir_set_k (by omega), ir_set]
      · rw [if_neg (by omega), if_pos (by omega), ir_set_k (by omega), ir_set_k (by omega), show 72 + (4 * n + 1) = 72 + 4 * n + 1 by omega, ir_set]
      · rw [if_neg (by omega), if_neg (by omega), if_pos (by omega), ir_set_k (by omega), show 72 + (4 * n + 2) = 72 + 4 * n + 2 by omega, ir_set]
      · rw [if_neg (by omega), if_neg (by omega), if_neg (by omega), if_pos (by omega), show 72 + (4 * n + 3) = 72 + 4 * n + 3 by omega, ir_set]
      · rw [if_neg (by omega), if_neg (by omega), if_neg (by omega), if_neg (by omega), if_neg c, ir_set_k (by omega), ir_set_k (by omega), ir_set_k (by omega), ir_set_k (by omega), hm1, ir_set_k (by omega)]
    · rw [hm1]
      exact sh_fr_I (sh_fr_I (sh_fr_I (sh_fr_I (sh_fr_I sh_fr.rf (by omega)) (by omega)) (by omega)) (by omega)) (by omega)
noncomputable def TL (y5 a1 a2 : Int32) (μ : sh_Mem) : Option (Int32 × sh_Mem) := (if (sh_i μ 327 (Int32.toNatClampNeg 4)) = (-1) then sh_bind (f_X12_tiredOf a1 μ) (fun y24 μ22 => (if sh_in (51 + (3 * a1)) 232 then sh_let (sh_setI μ22 330 ((51 + (3 * a1))).toNatClampNeg (f_X12_cut μ22 ((y24 + 1)).toInt64)) (fun μ26 => sh_let (sh_setI μ26 291 58 ((sh_i μ26 291 58) + 1)) (fun μ27 => sh_bindv (f_X12_isKept a1 a2 μ27) (fun μ28 => some (y5, μ28)))) else none)) else sh_bind (f_X12_codesTell 1 μ) (fun y15 μ13 => (if sh_in (51 + (3 * a1)) 232 then sh_let (sh_setI μ13 330 ((51 + (3 * a1))).toNatClampNeg (f_X12_cut μ13 y15)) (fun μ17 => sh_let (sh_setI μ17 291 58 ((sh_i μ17 291 58) + 1)) (fun μ18 => sh_bindv (f_X12_isKept a1 a2 μ18) (fun μ19 => some (y5, μ19)))) else none)))
theorem isAsked_TL {a1 a2 : Int32} : f_X12_isAsked a1 a2 μ = sh_let (sh_setI μ 291 59 0) (fun μ1 => (if (((sh_i μ1 291 60) >>> (a1 &&& 31)) &&& 1) = 1 then some (0, μ1) else sh_bind (f_X12_wouldDo a1 a2 μ1) (fun y5 μ3 => (if 2 ≤ y5 then sh_bind (f_X12_cellOf a1 μ3) (fun y9 μ7 => (if (y9 - y9 / 7 * 7) ≤ 0 then (if ((sh_i μ7 321 (Int32.toNatClampNeg 3)) - 1) ≤ (y9 - y9 / 7 * 7) then TL y5 a1 a2 μ7 else sh_let ((y9 + 1) : Int32) (fun x31 => (if x31 = (-1) then TL y5 a1 a2 μ7 else sh_bindv (f_X12_lifts x31 y9 (-1) μ7) (fun μ52 => TL y5 a1 a2 μ52)))) else sh_let ((y9 - 1) : Int32) (fun x74 => (if ((sh_i μ7 321 (Int32.toNatClampNeg 3)) - 1) ≤ (y9 - y9 / 7 * 7) then (if x74 = (-1) then TL y5 a1 a2 μ7 else sh_bindv (f_X12_lifts x74 y9 (-1) μ7) (fun μ96 => TL y5 a1 a2 μ96)) else sh_let ((y9 + 1) : Int32) (fun x118 => (if x74 = (-1) then (if x118 = (-1) then TL y5 a1 a2 μ7 else sh_bindv (f_X12_lifts x118 y9 x74 μ7) (fun μ140 => TL y5 a1 a2 μ140)) else sh_bindv (f_X12_lifts x74 y9 x118 μ7) (fun μ162 => (if x118 = (-1) then TL y5 a1 a2 μ162 else sh_bindv (f_X12_lifts x118 y9 x74 μ162) (fun μ185 => TL y5 a1 a2 μ185)))))))) ) else some (y5, μ3)))))  := rfl
/-- what is kept, behind an asking that was a shrug -/
def rkp (μ μ' : sh_Mem) (a1 a2 m : Int32) : Prop := (¬ sh_i μ 291 57 = 0 → ∀ k, 71 ≤ k → sh_i μ' 330 k = sh_i μ 330 k) ∧ (sh_i μ 291 57 = 0 → ∀ n : Nat, n ≤ 40 → sh_i μ 330 71 = zI n → sh_i μ' 330 71 = zI (kpN n) ∧ ∀ j, j < 4 * kpN n → sh_i μ' 330 (72 + j) = kpG n (fun j => sh_i μ 330 (72 + j)) (sh_i μ 330 0) a1 a2 m j)
def rN5 (r k : Nat) : Prop := r = 330 ∨ r = 366 ∨ (r = 291 ∧ (k = 51 ∨ k = 54 ∨ k = 55 ∨ k = 56 ∨ k = 58 ∨ k = 59 ∨ k = 109))
theorem rf_tail {h : Nat → Nat} {m n0 : Nat} {y5 : Int32} (hM : sm_mP μ P) (hm : sm_mL (sh_i μ 330) 0 P (lh L h)) (hk : sp_ok P) (hl : sl_in P L) (hd : sl_d L ≤ 100000) (hle : ∀ j, j < sp_c P * sp_r P → h j ≤ 99) (hp : p < sp_np P) (hq : q < sp_nt P) (e54 : sh_i μ 291 54 = zI p) (e55 : sh_i μ 291 55 = zI q) (e59 : sh_i μ 291 59 = zI m) (ho : h (sl_y L p * sp_c P + sl_x L p) = sl_h L (sl_y L p * sp_c P + sl_x L p)) (hn0 : n0 ≤ 40) (e71 : sh_i μ 330 71 = zI n0) :
    ∃ μ', TL y5 (zI p) (zI q) μ = some (y5, μ') ∧ sm_mL (sh_i μ' 330) 0 P (sl_d L, h, sl_x L, sl_y L, hu (sl_t L) p (cut9 (vt P L p q)), sl_k L) ∧ sh_i μ' 291 59 = zI m ∧ sh_i μ' 291 58 = sh_i μ 291 58 + 1 ∧ sh_fr rN5 μ μ' ∧ rkp μ μ' (zI p) (zI q) (zI m) := by
  have hb := sp_bd hk
  have hpos := sp_pos hk hp
  obtain ⟨-, ⟨hF1, hF2⟩, -⟩ := sp_forms hk (by omega)
  have hmF := hM.2.2.2.2.2.2.2.2.2.2.2.1
  have hok := hk.2.2.2.2.2.2.2.2.2.2.2 (by omega)
  have hlL : sl_in P (lh L h) := ⟨hle, hl.2⟩
  have hfa : fa P (lh L h) p q 0 = fa P L p q 0 := fa_h rfl rfl rfl rfl rfl ho
  have hx51 : (51 + 3 * (p : Int)).toNat = 51 + 3 * p := by omega
  obtain ⟨b1, b2, b3, b4⟩ := hl.2 p hp
  -- behind the reading of the rule
  have fin : ∀ (m8 : sh_Mem) (v : Int), sh_fr rN3 μ m8 → vt P L p q = v → TL y5 (zI p) (zI q) μ = sh_bindv (f_X12_isKept (zI p) (zI q) (sh_setI (sh_setI m8 330 (51 + 3 * p) (zI (cut9 v))) 291 58 (sh_i m8 291 58 + 1))) (fun μ28 => some (y5, μ28)) → ∃ μ', TL y5 (zI p) (zI q) μ = some (y5, μ') ∧ sm_mL (sh_i μ' 330) 0 P (sl_d L, h, sl_x L, sl_y L, hu (sl_t L) p (cut9 (vt P L p q)), sl_k L) ∧ sh_i μ' 291 59 = zI m ∧ sh_i μ' 291 58 = sh_i μ 291 58 + 1 ∧ sh_fr rN5 μ μ' ∧ rkp μ μ' (zI p) (zI q) (zI m) := by
    intro m8 v f8 hv he
    obtain ⟨m9, hm9⟩ : ∃ m, m = sh_setI (sh_setI m8 330 (51 + 3 * p) (zI (cut9 v))) 291 58 (sh_i m8 291 58 + 1) := ⟨_, rfl⟩
    rw [← hm9] at he
    have n8 : ∀ r k, ¬ r = 366 → ¬ (r = 291 ∧ (k = 51 ∨ k = 54 ∨ k = 55 ∨ k = 56 ∨ k = 109)) → sh_i m8 r k = sh_i μ r k := fun r k z1 z2 => f8.i r k (fun z => by unfold rN3 at z; omega)
    have n9 : ∀ k, ¬ k = 51 + 3 * p → sh_i m9 330 k = sh_i μ 330 k := fun k z => by rw [hm9, ir_set_r (by omega), ir_set_k z, n8 _ _ (by omega) (by omega)]
    have f9 : sh_fr rN5 μ m9 := by rw [hm9]; exact sh_fr_I (sh_fr_I (f8.mono (fun r k z => by unfold rN3 at z; unfold rN5; omega)) (by unfold rN5; omega)) (by unfold rN5; omega)
    have hland : ∀ m10 : sh_Mem, (∀ k, k < 71 → sh_i m10 330 k = sh_i m9 330 k) → sm_mL (sh_i m10 330) 0 P (sl_d L, h, sl_x L, sl_y L, hu (sl_t L) p (cut9 (vt P L p q)), sl_k L) := by
      intro m10 hh
      obtain ⟨a1, a2, a3⟩ := hm
      refine ⟨?_, fun x' y' hx' hy' => ?_, fun p' hp' => ?_⟩
      · rw [hh _ (by omega), n9 _ (by omega)]; exact a1
      · rw [hh _ (by omega), n9 _ (by omega)]; exact a2 x' y' hx' hy'
      · obtain ⟨c1, c2, c3⟩ := a3 p' hp'
        refine ⟨by rw [hh _ (by omega), n9 _ (by omega)]; exact c1, ?_, by rw [hh _ (by omega), n9 _ (by omega)]; exact c3⟩
        show _ = nI (hu (sl_t L) p (cut9 (vt P L p q)) p')
        by_cases z : p' = p
        · subst z
          rw [hu_s, hh _ (by omega), hm9, ir_set_r (by omega), show 0 + 51 + 3 * p' = 51 + 3 * p' by omega, ir_set, hv, nI_z]
        · rw [hu_n z, hh _ (by omega), n9 _ (by omega)]; exact c2
    have e57 : sh_i m9 291 57 = sh_i μ 291 57 := by rw [hm9, ir_set_k (by omega), ir_set_r (by omega), n8 _ _ (by omega) (by omega)]
    have e59' : sh_i m9 291 59 = zI m := by rw [hm9, ir_set_k (by omega), ir_set_r (by omega), n8 _ _ (by omega) (by omega), e59]
    have e58' : sh_i m9 291 58 = sh_i μ 291 58 + 1 := by rw [hm9, ir_set, n8 _ _ (by omega) (by omega)]
    have e71' : sh_i m9 330 71 = zI n0 := by rw [n9 _ (by omega), e71]
    by_cases c : sh_i μ 291 57 = 0
    · obtain ⟨μ', k1, k2, k3, k4⟩ := rf_kept (μ := m9) (a1 := zI p) (a2 := zI q) (e57.trans c) e71' hn0
      refine ⟨μ', ?_, hland μ' (fun k hk => k4.i _ _ (by omega)), by rw [k4.i _ _ (by omega)]; exact e59', by rw [k4.i _ _ (by omega)]; exact e58', f9.trans (k4.mono (fun r k z => by unfold rN5; omega)), fun z => absurd c z, fun _ n hn e => ?_⟩
      · rw [he, k1]
        rfl
      · have hnn : n = n0 := by
          rw [e71] at e
          have := (zI_eq (a := (n0 : Int)) (b := (n : Int)) (by omega) (by omega) (by omega) (by omega)).mp e
          omega
        subst hnn
        refine ⟨k2, fun j hj => ?_⟩
        rw [k3 j hj, e59', n9 0 (by omega)]
        have hkn := kpN_le hn
        unfold kpG
        split
        · rfl
        · split
          · rfl
          · split
            · rfl
            · split
              · rfl
              · split
                · exact n9 _ (by omega)
                · exact n9 _ (by omega)
    · refine ⟨m9, ?_, hland m9 (fun _ _ => rfl), e59', e58', f9, fun _ k hk => n9 k (by omega), fun z => absurd z c⟩
      rw [he]
      unfold f_X12_isKept
      rw [if_neg (by rw [e57]; exact c)]
      rfl
  cases ht : (sp_told P).2.1 with
  | false =>
    rw [ht] at hmF
    have hv : vt P L p q = ((sl_t L p : Int) + 1) := by
      unfold vt
      rw [hok.2.2.2.1 ht]
      show ec ((sl_t L p : Int) + 1) = _
      unfold ec
      rw [if_neg (by omega), if_neg (by omega)]
    have e5 : sh_i μ 327 (Int32.toNatClampNeg 4) = -1 := by
      have : sm_mF μ 1 false (sp_ft P) := hmF
      unfold sm_mF at this
      rw [if_pos rfl] at this
      exact this
    refine fin μ _ sh_fr.rf hv ?_
    unfold TL
    rw [if_pos e5, rf_tiredOf hm hk hp, shb_ap]
    show (if sh_in (51 + 3 * zI p) 232 then sh_let (sh_setI μ 330 (51 + 3 * zI p).toNatClampNeg (f_X12_cut μ (zI (sl_t L p) + 1).toInt64)) _ else none) = _
    simp (disch := omega) only [↓reduceIte, ↓shl_ap, shb_ap, shv_ap, zI_lit, zL_lit, nI_z, lN_z, ofN_z, zI_add, zI_sub, zI_mul, zI_neg, zL_add, zL_sub, zL_mul, zL_neg, zI_l, zI_cl, zI_le_t, zI_le_f, zI_lt_t, zI_lt_f, zI_eq_t, zI_eq_f, zI_in_t, zz_isIn_t, zz_isIn_f, not_true_eq_false, not_false_eq_true, true_or, or_true, false_or, or_false, true_and, and_true, false_and, and_false, Nat.reduceLeDiff, Int.reduceAdd, Int.reduceSub, Int.reduceMul, Int.reduceNeg, Int.reduceToNat, Nat.reduceAdd, Nat.reduceMul, Nat.reduceSub, Int.toNat_natCast, hx51, rf_cut (show ein ((sl_t L p : Int) + 1) by unfold ein; omega), zN_le_t, zN_le_f]
    rfl
  | true =>
    rw [ht] at hmF
    obtain ⟨v, m8, d1, d2, d3, d4⟩ := rf_codes (F := fa P L p q 0) (K := k0) (W := k0) (kd := 1) (k := 1) (by omega) (fa_in hk hl hd hp (by omega) (by omega)) k0_in k0_in (by omega) hF1 hmF (fun t h1 h2 m hf => by
      have h2 : t < 5 := h2
      have n8 : ∀ r k, ¬ r = 366 → ¬ (r = 291 ∧ (k = 51 ∨ k = 109)) → sh_i m r k = sh_i μ r k := fun r k z1 z2 => hf.i r k (fun z => by unfold rN2 at z; omega)
      rw [← hfa]
      refine rf_part (t := t) h1 ?_ hk hlL hd hp (by omega) (by omega) (by rw [n8 _ _ (by omega) (by omega)]; exact e54) (fun _ => by rw [n8 _ _ (by omega) (by omega)]; exact e55) (fun z => by omega)
      rw [show sh_i m 330 = sh_i μ 330 from funext fun k => n8 _ _ (by omega) (by omega)]
      exact hm)
    have hv : vt P L p q = v := by unfold vt; rw [d2]; rfl
    have hne : ¬ sh_i μ 327 (Int32.toNatClampNeg 4) = -1 := by
      have : sm_mF μ 1 true (sp_ft P) := hmF
      unfold sm_mF at this
      rw [if_neg (by decide)] at this
      obtain ⟨a, b, q1, q2, q3, q4, -⟩ := this
      have q4 : sh_i μ 327 (Int32.toNatClampNeg 4) = nI a := q4
      rw [q4, nI_z]
      intro z
      have := (zI_eq (a := (a : Int)) (b := -1) (by omega) (by omega) (by omega) (by omega)).mp (show zI (a : Int) = zI (-1) from z)
      omega
    have d1' : f_X12_codesTell 1 μ = some (zL v, m8) := d1
    refine fin m8 v (d4.mono (fun r k z => by unfold rN2 at z; unfold rN3; omega)) hv ?_
    unfold TL
    rw [if_neg hne, d1', shb_ap]
    show (if sh_in (51 + 3 * zI p) 232 then sh_let (sh_setI m8 330 (51 + 3 * zI p).toNatClampNeg (f_X12_cut m8 (zL v))) _ else none) = _
    simp (disch := omega) only [↓reduceIte, ↓shl_ap, shb_ap, shv_ap, zI_lit, zL_lit, nI_z, lN_z, ofN_z, zI_add, zI_sub, zI_mul, zI_neg, zL_add, zL_sub, zL_mul, zL_neg, zI_l, zI_cl, zI_le_t, zI_le_f, zI_lt_t, zI_lt_f, zI_eq_t, zI_eq_f, zI_in_t, zz_isIn_t, zz_isIn_f, not_true_eq_false, not_false_eq_true, true_or, or_true, false_or, or_false, true_and, and_true, false_and, and_false, Nat.reduceLeDiff, Int.reduceAdd, Int.reduceSub, Int.reduceMul, Int.reduceNeg, Int.reduceToNat, Nat.reduceAdd, Nat.reduceMul, Nat.reduceSub, Int.toNat_natCast, hx51, rf_cut d3.1, zN_le_t, zN_le_f]
    rfl
end Rx
