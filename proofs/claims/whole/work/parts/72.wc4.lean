/-! the class: asking now, days, days ahead -/
theorem Sim.fi {μ μ' : sh_Mem} (h : Sim μ) (hG : sh_G μ') (hr : sh_r μ' = sh_r μ) (hi : ∀ r k, sm_A r k → sh_i μ' r k = sh_i μ r k) (l1 : sh_l μ' 0 16 = sh_l μ 0 16) (l2 : sh_l μ' 291 78 = sh_l μ 291 78) (l3 : sh_l μ' 323 = sh_l μ 323) : Sim μ' := by
  have hrow : ∀ r, (∀ k, sm_A r k) → sh_i μ' r = sh_i μ r := fun r q => funext fun k => hi r k (q k)
  obtain ⟨a1, a2, a3, a4, a5, a6, t, P, L, a7⟩ := h
  exact ⟨hG, a2.cg (hi _ _ (by unfold sm_A; omega)) (hi _ _ (by unfold sm_A; omega)) (hrow _ (fun k => by unfold sm_A; omega)) (hrow _ (fun k => by unfold sm_A; omega)), a3.cg (hi _ _ (by unfold sm_A; omega)) (hi _ _ (by unfold sm_A; omega)) (hi _ _ (by unfold sm_A; omega)) (hi _ _ (by unfold sm_A; omega)), a4.cg (hrow _ (fun k => by unfold sm_A; omega)) (hrow _ (fun k => by unfold sm_A; omega)), a5.cg l1 l2, a6.cg (hi _ _ (by unfold sm_A; omega)) (hi _ _ (by unfold sm_A; omega)) (hrow _ (fun k => by unfold sm_A; omega)) (hrow _ (fun k => by unfold sm_A; omega)), t, P, L, a7.cg hr (fun r k q => hi _ _ (Or.inl q)) l3⟩
/-- a question: each side comes back to what the relation speaks of -/
def qA (r k : Nat) : Prop := r < 291 ∧ ¬ sm_A r k
def qB (r k : Nat) : Prop := r = 330 ∨ (r = 291 ∧ (k = 57 ∨ k = 60)) ∨ (291 ≤ r ∧ ¬ sm_A r k)
theorem A_low {r k : Nat} (h : sm_A r k) (h2 : r < 291) : ¬ qB r k := by unfold qB; omega
theorem Sim.q {μ μ1 μ2 : sh_Mem} (h : Sim μ) (hG : sh_G μ2) (fA : sh_fr qA μ μ1) (fB : sh_fr qB μ1 μ2) (h330 : sh_i μ2 330 = sh_i μ1 330) (h57 : sh_i μ2 291 57 = 0) (h60 : sh_i μ2 291 60 = 0) : Sim μ2 := by
  obtain ⟨-, -, -, -, -, -, t, P, L, hR⟩ := id h
  obtain ⟨-, -, -, -, -, -, -, -, -, -, z1, z2, -⟩ := id hR
  have hA : ∀ r k, sm_A r k → sh_i μ1 r k = sh_i μ r k ∧ sh_l μ1 r k = sh_l μ r k := fun r k q => fA.2 r k (fun z => z.2 q)
  have hB : ∀ r k, sm_A r k → ¬ r = 330 → ¬ (r = 291 ∧ (k = 57 ∨ k = 60)) → sh_i μ2 r k = sh_i μ1 r k ∧ sh_l μ2 r k = sh_l μ1 r k := fun r k q q1 q2 => fB.2 r k (fun z => by
    rcases z with z | z | z
    · exact q1 z
    · exact q2 z
    · exact z.2 q)
  refine h.fi hG (fB.1.trans fA.1) (fun r k q => ?_) ?_ ?_ ?_
  · by_cases c1 : r = 330
    · subst c1
      rw [h330]
      exact (hA _ _ q).1
    · by_cases c2 : r = 291 ∧ (k = 57 ∨ k = 60)
      · obtain ⟨rfl, rfl | rfl⟩ := c2
        · rw [h57, z1]
        · rw [h60, z2]
      · exact (hB r k q c1 c2).1.trans (hA r k q).1
  · have q : sm_A 0 16 := A9 (by omega)
    exact (hB _ _ q (by omega) (by omega)).2.trans (hA _ _ q).2
  · have q : sm_A 291 78 := A11 (by omega)
    exact (hB _ _ q (by omega) (by omega)).2.trans (hA _ _ q).2
  · funext k
    have q : sm_A 323 k := A4 (by omega) (by omega)
    exact (hB _ _ q (by omega) (by omega)).2.trans (hA _ _ q).2
theorem rN6_qB {r k : Nat} (h : rN6 r k) : qB r k := by
  unfold rN6 rN5 at h
  unfold qB sm_A sm_S
  omega
section Wx
variable {μ : sh_Mem} {t r p q : Nat} {P : sp_T} {L : sl_T} {K : kS}
theorem cl_keep {d a2 a3 a4 : Int32} (hK : ckp μ K) : ∃ μ', f_X4_keep d a2 a3 a4 μ = some μ' ∧ ckp μ' (kK K d a2 a3 a4) ∧ sh_fr (fun r k => r = 64 ∨ (r = 63 ∧ k = 1)) μ μ' := by
  obtain ⟨hn, e1, e2⟩ := hK
  obtain ⟨n, g⟩ := K
  have hn : n ≤ 40 := hn
  have e1 : sh_i μ 63 1 = zI n := e1
  by_cases c : n = 40
  · subst c
    refine ⟨sh_setI (sh_setI (sh_setI (sh_setI (sh_setI (sh_setI (sh_rowI μ 64 (va_cpy (sh_i μ 64) (sh_i μ 64) 4 0 156)) 63 1 (zI 39)) 64 156 d) 64 157 a2) 64 158 a3) 64 159 a4) 63 1 (zI 40), ?_, ⟨by show 40 ≤ 40; omega, by rw [ir_set]; rfl, fun j hj => ?_⟩, ?_⟩
    · unfold f_X4_keep
      simp (disch := omega) only [↓reduceIte, ↓shl_ap, shb_ap, shv_ap, zI_lit, zL_lit, nI_z, lN_z, ofN_z, zI_add, zI_sub, zI_mul, zI_neg, zL_add, zL_sub, zL_mul, zL_neg, zI_l, zI_cl, zI_le_t, zI_le_f, zI_lt_t, zI_lt_f, zI_eq_t, zI_eq_f, zI_in_t, zz_isIn_t, zz_isIn_f, not_true_eq_false, not_false_eq_true, true_or, or_true, false_or, or_false, true_and, and_true, false_and, and_false, ir_set, ir_set_k, ir_set_r, ir_row, ir_row_r, sh_i_setL, sh_i_setR, sh_r_setI, sh_r_setL, sh_r_rowI, sh_l_setI, sh_l_rowI, lr_set, lr_set_k, lr_set_r, Nat.reduceLeDiff, Int.reduceAdd, Int.reduceSub, Int.reduceMul, Int.reduceNeg, Int.reduceToNat, Nat.reduceAdd, Nat.reduceMul, Nat.reduceSub, Int.toNat_natCast, e1, zN_le_t, zN_le_f]
      rfl
    · have hj : j < 160 := hj
      show _ = kpG 40 g d a2 a3 a4 j
      unfold kpG
      rw [show kpN 40 = 40 from rfl, ir_set_r (by omega)]
      have hq : j = 156 ∨ j = 157 ∨ j = 158 ∨ j = 159 ∨ j < 156 := by omega
      rcases hq with rfl | rfl | rfl | rfl | hq
      · rw [if_pos rfl, ir_set_k (by omega), ir_set_k (by omega), ir_set_k (by omega), ir_set]
      · rw [if_neg (by omega), if_pos rfl, ir_set_k (by omega), ir_set_k (by omega), ir_set]
      · rw [if_neg (by omega), if_neg (by omega), if_pos rfl, ir_set_k (by omega), ir_set]
      · rw [if_neg (by omega), if_neg (by omega), if_neg (by omega), if_pos rfl, ir_set]
      · rw [if_neg (by omega), if_neg (by omega), if_neg (by omega), if_neg (by omega), if_pos rfl, ir_set_k (by omega), ir_set_k (by omega), ir_set_k (by omega), ir_set_k (by omega), ir_set_r (by omega), ir_row]
        unfold va_cpy
        rw [if_pos (by omega)]
        have := e2 (j + 4) (by show j + 4 < 160; omega)
        refine Eq.trans ?_ this
        congr 1
        omega
    · exact sh_fr_I (sh_fr_I (sh_fr_I (sh_fr_I (sh_fr_I (sh_fr_I (sh_fr_row sh_fr.rf (fun k => by omega)) (by omega)) (by omega)) (by omega)) (by omega)) (by omega)) (by omega)
  · have hN : kpN n = n + 1 := if_neg c
    have w0 : ((n : Int) * 4).toNat = 4 * n := by omega
    have w1 : ((n : Int) * 4 + 1).toNat = 4 * n + 1 := by omega
    have w2 : ((n : Int) * 4 + 2).toNat = 4 * n + 2 := by omega
    have w3 : ((n : Int) * 4 + 3).toNat = 4 * n + 3 := by omega
    refine ⟨sh_setI (sh_setI (sh_setI (sh_setI (sh_setI μ 64 (4 * n) d) 64 (4 * n + 1) a2) 64 (4 * n + 2) a3) 64 (4 * n + 3) a4) 63 1 (zI (n + 1 : Nat)), ?_, ⟨by show kpN n ≤ 40; omega, ?_, fun j hj => ?_⟩, ?_⟩
    · unfold f_X4_keep
      simp (disch := omega) only [↓reduceIte, ↓shl_ap, shb_ap, shv_ap, zI_lit, zL_lit, nI_z, lN_z, ofN_z, zI_add, zI_sub, zI_mul, zI_neg, zL_add, zL_sub, zL_mul, zL_neg, zI_l, zI_cl, zI_le_t, zI_le_f, zI_lt_t, zI_lt_f, zI_eq_t, zI_eq_f, zI_in_t, zz_isIn_t, zz_isIn_f, not_true_eq_false, not_false_eq_true, true_or, or_true, false_or, or_false, true_and, and_true, false_and, and_false, ir_set, ir_set_k, ir_set_r, ir_row, ir_row_r, sh_i_setL, sh_i_setR, sh_r_setI, sh_r_setL, sh_r_rowI, sh_l_setI, sh_l_rowI, lr_set, lr_set_k, lr_set_r, Nat.reduceLeDiff, Int.reduceAdd, Int.reduceSub, Int.reduceMul, Int.reduceNeg, Int.reduceToNat, Nat.reduceAdd, Nat.reduceMul, Nat.reduceSub, Int.toNat_natCast, e1, w0, w1, w2, w3, zN_le_t, zN_le_f]
      rfl
    · rw [ir_set]
      show _ = zI (kpN n)
      rw [hN]
    · have hj : j < 4 * kpN n := hj
      show _ = kpG n g d a2 a3 a4 j
      unfold kpG
      rw [hN] at hj ⊢
      rw [ir_set_r (by omega)]
      have hq : j = 4 * n ∨ j = 4 * n + 1 ∨ j = 4 * n + 2 ∨ j = 4 * n + 3 ∨ j < 4 * n := by omega
      rcases hq with rfl | rfl | rfl | rfl | hq
      · rw [if_pos (by omega), ir_set_k (by omega), ir_set_k (by omega), ir_set_k (by omega), ir_set]
      · rw [if_neg (by omega), if_pos (by omega), ir_set_k (by omega), ir_set_k (by omega), ir_set]
      · rw [if_neg (by omega), if_neg (by omega), if_pos (by omega), ir_set_k (by omega), ir_set]
      · rw [if_neg (by omega), if_neg (by omega), if_neg (by omega), if_pos (by omega), ir_set]
      · rw [if_neg (by omega), if_neg (by omega), if_neg (by omega), if_neg (by omega), if_neg c, ir_set_k (by omega), ir_set_k (by omega), ir_set_k (by omega), ir_set_k (by omega)]
        exact e2 j hq
    · exact sh_fr_I (sh_fr_I (sh_fr_I (sh_fr_I (sh_fr_I sh_fr.rf (by omega)) (by omega)) (by omega)) (by omega)) (by omega)
def nC (t a k : Nat) : Prop := (49 ≤ a ∧ a ≤ 54) ∨ (a = 55 ∧ 1 ≤ k) ∨ a = 56 ∨ a = t + 7 ∨ a = t + 10 ∨ a = t + 13 ∨ a = 64 ∨ (a = 63 ∧ k = 1)
theorem nC_cw {μ' : sh_Mem} (hf : sh_fr (nC t) μ μ') (hw : cw μ t P) : cw μ' t P := by
  have ht := sh_isP_r hw.2.1
  exact hw.cg hf.1 (fun j h1 h2 h3 => hf.row _ (fun k z => by unfold nC at z; omega))
theorem cl_askNow (hw : cw μ t P) (hc : sm_cL μ 49 P L) (hl : sl_in P L) (hd : sl_d L ≤ 100000) (hp : p < sp_np P) (hq : q < sp_nt P) (hK : ckp μ K) : ∃ μ', f_X11_askNow (zI p) (zI q) μ = some (zI (wd P L p q), μ') ∧ sm_cL μ' 49 P (aL P L p q) ∧ ckp μ' (aK P L K p q) ∧ sh_fr (nC t) μ μ' := by
  have ht := sh_isP_r hw.2.1
  obtain ⟨m, k1, k2, k3, k4, k5⟩ := cl_asked hw hc hl hd hp hq (r := 49) (by unfold ldr; omega)
  have f1 : sh_fr (nC t) μ m := k4.mono (fun a k z => by unfold nA at z; unfold nC; omega)
  have hKm : ckp m K := ⟨hK.1, by rw [k4.i _ _ (fun z => by unfold nA at z; omega)]; exact hK.2.1, fun j hj => by rw [k4.i _ _ (fun z => by unfold nA at z; omega)]; exact hK.2.2 j hj⟩
  unfold aK
  have hw2 := wd_le (P := P) (L := L) (p := p) (q := q)
  by_cases c : wd P L p q = 2
  · have ed : sh_i m 49 0 = zI (sl_d L) := by rw [k2.1, aL_d, nI_z]
    obtain ⟨μ', c1, c2, c3⟩ := cl_keep (d := zI (sl_d L)) (a2 := zI p) (a3 := zI q) (a4 := zI (aM P L p q)) hKm
    rw [if_pos c]
    refine ⟨μ', ?_, k2.cg (fun j hj => c3.row _ (fun k => by omega)), c2, f1.trans (c3.mono (fun a k z => by unfold nC; omega))⟩
    unfold f_X11_askNow
    rw [k1, shb_ap, c, if_pos (show zI ((2 : Nat) : Int) = 2 from rfl), ed, k3, c1]
    rfl
  · rw [if_neg c]
    refine ⟨m, ?_, k2, hKm, f1⟩
    unfold f_X11_askNow
    rw [k1]
    simp (disch := omega) only [↓reduceIte, ↓shl_ap, shb_ap, shv_ap, zI_lit, zL_lit, nI_z, lN_z, ofN_z, zI_add, zI_sub, zI_mul, zI_neg, zL_add, zL_sub, zL_mul, zL_neg, zI_l, zI_cl, zI_le_t, zI_le_f, zI_lt_t, zI_lt_f, zI_eq_t, zI_eq_f, zI_in_t, zz_isIn_t, zz_isIn_f, not_true_eq_false, not_false_eq_true, true_or, or_true, false_or, or_false, true_and, and_true, false_and, and_false, Nat.reduceLeDiff, Int.reduceAdd, Int.reduceSub, Int.reduceMul, Int.reduceNeg, Int.reduceToNat, Nat.reduceAdd, Nat.reduceMul, Nat.reduceSub, Int.toNat_natCast, zN_le_t, zN_le_f]
theorem cl_dayNow (hr : sh_r μ 0 7 = some t) (hw : cw μ t P) (hc : sm_cL μ 49 P L) (hl : sl_in P L) (hd : sl_d L ≤ 99999) (hK : ckp μ K) : ∃ μ', f_X11_dayNow μ = some (zI (dW P 0 L), μ') ∧ sm_cL μ' 49 P (dP P 0 L) ∧ ckp μ' (dK P 0 L K) ∧ sh_fr (nC t) μ μ' := by
  obtain ⟨h1, h2, h3, hk⟩ := id hw
  have ht := sh_isP_r h2
  have hb := sp_bd hk
  have hday := hc.1
  rw [nI_z] at hday
  have hro := cl_rowOf h3 hk (show sl_d L ≤ 100000 by omega)
  have fin : ∀ (m : sh_Mem) (L' : sl_T), sm_cL m 49 P L' → sl_d L' = sl_d L → sm_cL (sh_setI m 49 0 (sh_i m 49 0 + 1)) 49 P (sl_d L + 1, L'.2) := fun m L' hm hd' => by
    have hm1 := hm.1
    rw [hd', nI_z] at hm1
    refine ⟨?_, fun j hj => ?_, fun p' hp' => ?_⟩
    · rw [ir_set, hm1, nI_z, show (1 : Int32) = zI 1 from rfl, zI_add]; rfl
    · rw [ir_set_r (by omega)]; exact hm.2.1 j hj
    · obtain ⟨q1, q2, q3, q4⟩ := hm.2.2 p' hp'
      exact ⟨by rw [ir_set_r (by omega)]; exact q1, by rw [ir_set_r (by omega)]; exact q2, by rw [ir_set_r (by omega)]; exact q3, by rw [ir_set_r (by omega)]; exact q4⟩
  have kp0 : ∀ (m : sh_Mem) (K : kS) (v : Int32), ckp m K → ckp (sh_setI m 49 0 v) K := fun m K v h => ⟨h.1, by rw [ir_set_r (by omega)]; exact h.2.1, fun j hj => by rw [ir_set_r (by omega)]; exact h.2.2 j hj⟩
  rw [dP_eq]
  unfold dW dK
  by_cases c : (sp_li P).length = 0
  · rw [if_pos c] at hro
    rw [if_pos c, if_pos c, if_pos c]
    refine ⟨sh_setI μ 49 0 (sh_i μ 49 0 + 1), ?_, fin μ L hc rfl, kp0 _ _ _ hK, sh_fr_I sh_fr.rf (by unfold nC; omega)⟩
    unfold f_X11_dayNow
    rw [shr_ap hr]
    simp (disch := omega) only [↓reduceIte, ↓shl_ap, shb_ap, shv_ap, zI_lit, zL_lit, nI_z, lN_z, ofN_z, zI_add, zI_sub, zI_mul, zI_neg, zL_add, zL_sub, zL_mul, zL_neg, zI_l, zI_cl, zI_le_t, zI_le_f, zI_lt_t, zI_lt_f, zI_eq_t, zI_eq_f, zI_in_t, zz_isIn_t, zz_isIn_f, not_true_eq_false, not_false_eq_true, true_or, or_true, false_or, or_false, true_and, and_true, false_and, and_false, Nat.reduceLeDiff, Int.reduceAdd, Int.reduceSub, Int.reduceMul, Int.reduceNeg, Int.reduceToNat, Nat.reduceAdd, Nat.reduceMul, Nat.reduceSub, Int.toNat_natCast, hr, shr_ap hr, shp h2, hday, hro, zN_le_t, zN_le_f]
    rfl
  · rw [if_neg c] at hro
    have hz : ¬ 0 / 2 ^ dPp P L % 2 = 1 := by rw [Nat.zero_div]; omega
    rw [if_neg c, if_neg c, if_neg c, if_neg hz, if_neg hz, if_neg hz]
    have hlt : sl_d L % (sp_li P).length < (sp_li P).length := Nat.mod_lt _ (by omega)
    obtain ⟨w1, w2⟩ := h3.2.2.2.2.2.2.2.2.1 _ hlt
    obtain ⟨y1, y2⟩ := sp_li_in hk hlt
    have w1 : sh_i μ (t + 3) (sl_d L % (sp_li P).length) = nI (dPp P L) := w1
    have w2 : sh_i μ (t + 4) (sl_d L % (sp_li P).length) = nI (dPq P L) := w2
    have y1 : dPp P L < sp_np P := y1
    have y2 : dPq P L < sp_nt P := y2
    rw [nI_z] at w1 w2
    obtain ⟨m, k1, k2, k3, k4⟩ := cl_askNow (p := dPp P L) (q := dPq P L) hw hc hl (by omega) y1 y2 hK
    have hwl := wd_le (P := P) (L := L) (p := dPp P L) (q := dPq P L)
    refine ⟨sh_setI m 49 0 (sh_i m 49 0 + 1), ?_, fin m _ k2 aL_d, kp0 _ _ _ k3, sh_fr_I k4 (by unfold nC; omega)⟩
    unfold f_X11_dayNow
    rw [shr_ap hr]
    by_cases c2 : wd P L (dPp P L) (dPq P L) = 2
    · rw [if_pos c2]
      simp (disch := omega) only [↓reduceIte, ↓shl_ap, shb_ap, shv_ap, zI_lit, zL_lit, nI_z, lN_z, ofN_z, zI_add, zI_sub, zI_mul, zI_neg, zL_add, zL_sub, zL_mul, zL_neg, zI_l, zI_cl, zI_le_t, zI_le_f, zI_lt_t, zI_lt_f, zI_eq_t, zI_eq_f, zI_in_t, zz_isIn_t, zz_isIn_f, not_true_eq_false, not_false_eq_true, true_or, or_true, false_or, or_false, true_and, and_true, false_and, and_false, Nat.reduceLeDiff, Int.reduceAdd, Int.reduceSub, Int.reduceMul, Int.reduceNeg, Int.reduceToNat, Nat.reduceAdd, Nat.reduceMul, Nat.reduceSub, Int.toNat_natCast, hr, shr_ap hr, shp h2, hday, hro, w1, w2, k1, c2, zN_le_t, zN_le_f]
      rfl
    · rw [if_neg c2]
      simp (disch := omega) only [↓reduceIte, ↓shl_ap, shb_ap, shv_ap, zI_lit, zL_lit, nI_z, lN_z, ofN_z, zI_add, zI_sub, zI_mul, zI_neg, zL_add, zL_sub, zL_mul, zL_neg, zI_l, zI_cl, zI_le_t, zI_le_f, zI_lt_t, zI_lt_f, zI_eq_t, zI_eq_f, zI_in_t, zz_isIn_t, zz_isIn_f, not_true_eq_false, not_false_eq_true, true_or, or_true, false_or, or_false, true_and, and_true, false_and, and_false, Nat.reduceLeDiff, Int.reduceAdd, Int.reduceSub, Int.reduceMul, Int.reduceNeg, Int.reduceToNat, Nat.reduceAdd, Nat.reduceMul, Nat.reduceSub, Int.toNat_natCast, hr, shr_ap hr, shp h2, hday, hro, w1, w2, k1, zN_le_t, zN_le_f]
      rfl
theorem cl_daysK {n : Nat} (hn : n ≤ 1000) : ∀ (g f i c : Nat) (L : sl_T) (K : kS) (μ : sh_Mem), i + g = n → g < f → c ≤ i → sh_r μ 0 7 = some t → cw μ t P → sm_cL μ 49 P L → sl_in P L → sl_d L + g ≤ 99999 → ckp μ K → ∃ μ', F_X11_days f 1 (zI n) (zI c) (zI i) μ = some (zI (c + dNW P 0 g L : Nat), μ') ∧ sm_cL μ' 49 P (dN P 0 g L) ∧ ckp μ' (dNK P 0 g L K) ∧ sh_fr (nC t) μ μ' := by
  intro g
  induction g with
  | zero =>
    intro f i c L K μ hi hf hc0 hr hw hc hl hd hK
    obtain ⟨f, rfl⟩ : ∃ q, f = q + 1 := ⟨f - 1, by omega⟩
    refine ⟨μ, ?_, hc, hK, sh_fr.rf⟩
    rw [F_X11_days]
    simp (disch := omega) only [↓reduceIte, ↓shl_ap, shb_ap, shv_ap, zI_lit, zL_lit, nI_z, lN_z, ofN_z, zI_add, zI_sub, zI_mul, zI_neg, zL_add, zL_sub, zL_mul, zL_neg, zI_l, zI_cl, zI_le_t, zI_le_f, zI_lt_t, zI_lt_f, zI_eq_t, zI_eq_f, zI_in_t, zz_isIn_t, zz_isIn_f, not_true_eq_false, not_false_eq_true, true_or, or_true, false_or, or_false, true_and, and_true, false_and, and_false, Nat.reduceLeDiff, Int.reduceAdd, Int.reduceSub, Int.reduceMul, Int.reduceNeg, Int.reduceToNat, Nat.reduceAdd, Nat.reduceMul, Nat.reduceSub, Int.toNat_natCast, zN_le_t, zN_le_f]
    rfl
  | succ g ih =>
    intro f i c L K μ hi hf hc0 hr hw hc hl hd hK
    obtain ⟨f, rfl⟩ : ∃ q, f = q + 1 := ⟨f - 1, by omega⟩
    obtain ⟨m, a1, a2, a3, a4⟩ := cl_dayNow hr hw hc hl (by omega) hK
    have hW := dW_le (P := P) (s := 0) (L := L)
    obtain ⟨μ', b1, b2, b3, b4⟩ := ih f (i + 1) (c + dW P 0 L) (dP P 0 L) (dK P 0 L K) m (by omega) (by omega) (by omega) (by rw [a4.1]; exact hr) (nC_cw a4 hw) a2 (dP_in hl) (by rw [dP_d]; omega) a3
    refine ⟨μ', ?_, b2, b3, a4.trans b4⟩
    rw [F_X11_days]
    simp (disch := omega) only [↓reduceIte, ↓shl_ap, shb_ap, shv_ap, zI_lit, zL_lit, nI_z, lN_z, ofN_z, zI_add, zI_sub, zI_mul, zI_neg, zL_add, zL_sub, zL_mul, zL_neg, zI_l, zI_cl, zI_le_t, zI_le_f, zI_lt_t, zI_lt_f, zI_eq_t, zI_eq_f, zI_in_t, zz_isIn_t, zz_isIn_f, not_true_eq_false, not_false_eq_true, true_or, or_true, false_or, or_false, true_and, and_true, false_and, and_false, Nat.reduceLeDiff, Int.reduceAdd, Int.reduceSub, Int.reduceMul, Int.reduceNeg, Int.reduceToNat, Nat.reduceAdd, Nat.reduceMul, Nat.reduceSub, Int.toNat_natCast, a1, zN_le_t, zN_le_f]
    rw [dNW, ← Nat.add_assoc, ← b1]
    rfl
end Wx
theorem nC_NA {t r k : Nat} (ht : sh_isP t) (h : nC t r k) : sm_NA r k := by
  have ht := sh_isP_r ht
  unfold nC at h
  unfold sm_NA
  by_cases c : (49 ≤ r ∧ r ≤ 54) ∨ r = 64 ∨ (r = 63 ∧ k = 1)
  · omega
  · refine ⟨by omega, Or.inl ?_⟩
    unfold sm_A sm_S
    omega
theorem rN5_NB {r k : Nat} (h : rN5 r k) : sm_NB r k := by
  unfold rN5 at h
  unfold sm_NB
  by_cases c : r = 330
  · omega
  · refine ⟨by omega, Or.inl ?_⟩
    unfold sm_A sm_S
    omega
/-- what 'remember' and 'stores' leave -/
theorem rem_fr {μ : sh_Mem} {P : sp_T} (hu : sm_undo μ P) : ∃ μr, f_X4_remember 49 μ = some μr ∧ sh_fr (fun r k => (67 ≤ r ∧ r ≤ 207) ∨ (r = 63 ∧ (k = 2 ∨ k = 3))) μ μr := by
  obtain ⟨u, o, w, u1, u2, u3, u4, u5, u6, u7, -⟩ := hu
  obtain ⟨μr, x1, x2, -⟩ := cl_remember u1 u2 u4 u5
  exact ⟨μr, x1, x2.mono (fun r k q => by omega)⟩
theorem sto_fr {μ μ1 : sh_Mem} {P : sp_T} (hu : sm_undo μ P) (h1 : sh_i μ1 291 76 = sh_i μ 291 76) (h2 : sh_i μ1 291 77 = sh_i μ 291 77) : ∃ μs, f_X12_stores μ1 = some μs ∧ sh_fr (fun r k => r = 340 ∨ (r = 291 ∧ (k = 76 ∨ k = 77))) μ1 μs := by
  obtain ⟨u, o, w, u1, u2, u3, u4, u5, u6, u7, -⟩ := hu
  obtain ⟨μs, x1, x2, -⟩ := rf_stores u1 u3 (h1.trans u6) (h2.trans u7)
  exact ⟨μs, x1, x2.mono (fun r k q => by omega)⟩
theorem ckp.cg {μ μ' : sh_Mem} {K : kS} (h : ckp μ K) (h1 : sh_i μ' 63 1 = sh_i μ 63 1) (h2 : sh_i μ' 64 = sh_i μ 64) : ckp μ' K := ⟨h.1, h1.trans h.2.1, by rw [h2]; exact h.2.2⟩
theorem mkp.cg {μ μ' : sh_Mem} {K : kS} (h : mkp μ K) (h1 : sh_i μ' 330 = sh_i μ 330) : mkp μ' K := by unfold mkp; rw [h1]; exact h
theorem pr_22 : ∀ (μ : sh_Mem) (b1 b2 : Int32), Sim μ → ∃ (v : Int32) (μ1 μ2 : sh_Mem), f_X11_asks b1 b2 μ = some (v, μ1) ∧ f_X12_asks b1 b2 μ1 = some (v, μ2) ∧ Sim μ2 := by
  intro μ b1 b2 h
  obtain ⟨-, -, -, -, g5, -, t, P, L, hR⟩ := id h
  obtain ⟨hr, hk, hl, hP, hM, hc, hm, hkp, hu, hs, z1, z2, -⟩ := id hR
  obtain ⟨a, h1, h2, rfl⟩ := zI_of b1
  obtain ⟨b, h3, h4, rfl⟩ := zI_of b2
  have hb := sp_bd hk
  have e : f_X11_refuseNumber (zI 2) μ = some (zI (-1), sh_setI μ 290 2 (sh_i μ 290 2 + 1)) := cl_refuseN (k := 2) (by omega)
  have e' : f_X12_refuses (zI 2) (sh_setI μ 290 2 (sh_i μ 290 2 + 1)) = some (zI (-1), sh_setI (sh_setI μ 290 2 (sh_i μ 290 2 + 1)) 293 2 (sh_i μ 293 2 + 1)) := rf_refuses (k := 2) (by omega)
  have hMb := hM.off (off290 (μ := μ) (k := 2) (x := sh_i μ 290 2 + 1))
  by_cases c : 0 ≤ a ∧ a < sp_np P
  · by_cases ct : 0 ≤ b ∧ b < sp_nt P
    · obtain ⟨p, rfl⟩ := Int.eq_ofNat_of_zero_le c.1
      obtain ⟨q, rfl⟩ := Int.eq_ofNat_of_zero_le ct.1
      have hp : p < sp_np P := by omega
      have hq : q < sp_nt P := by omega
      obtain ⟨K, K1, K2⟩ := hkp.K
      obtain ⟨μr, x1, x2⟩ := rem_fr hu
      have ht := sh_isP_r hr.1
      have hwr : cw μr t P := cw.cg (μ := μ) ⟨hr.2.2.1, hr.1, hP, hk⟩ x2.1 (fun j _ _ _ => x2.row _ (fun k => by omega))
      have hcr : sm_cL μr 49 P L := hc.cg (fun j hj => x2.row _ (fun k => by omega))
      have hKr : ckp μr K := K1.cg (x2.i _ _ (by omega)) (x2.row _ (fun k => by omega))
      obtain ⟨μ1, a1, a2, a3, a4⟩ := cl_askNow hwr hcr hl.2 (by have := hl.1; omega) hp hq hKr
      have c1 : f_X11_asks (zI p) (zI q) μ = some (zI (wd P L p q), μ1) := by
        unfold f_X11_asks
        rw [cl_isPerson hr.2.1 hr.1 hP hk h1 h2, if_pos c, shb_ap, if_neg (by decide), cl_isTopic hr.2.1 hr.1 hP hk h3 h4, if_pos ct, shb_ap, if_neg (by decide), x1, shv_ap, a1]
        rfl
      have hof : sh_offM μ μ1 := fp_X11_asks h.1 c1
      have nh : ∀ r, 291 ≤ r → sh_i μ1 r = sh_i μ r := fun r z => (hof r z).1
      obtain ⟨μs, y1, y2⟩ := sto_fr (μ1 := μ1) hu (by rw [nh _ (by omega)]) (by rw [nh _ (by omega)])
      have hM1 := hM.off hof
      have hMs : sm_mP μs P := hM1.f3 (fun r k z => y2.i _ _ (by omega)) (y2.lrow _ (fun k => by omega))
      have r330 : sh_i μs 330 = sh_i μ 330 := (y2.row _ (fun k => by omega)).trans (nh _ (by omega))
      obtain ⟨μ2, w1, w2, w3, w4, w5, w6, w7⟩ := rf_askK (μ := μs) (L := L) (s := 0) hMs (by rw [r330]; exact hm) hk hl.2 (by have := hl.1; omega) hp hq (by omega) (by rw [y2.i _ _ (by omega), nh _ (by omega), z2]; rfl) (by rw [Nat.zero_div]) (K2.cg r330)
      have c2 : f_X12_asks (zI p) (zI q) μ1 = some (zI (wd P L p q), μ2) := by
        unfold f_X12_asks
        rw [rf_isPerson hM1 hk h1 h2, if_pos c, shb_ap, if_neg (by decide), zI_l h3 h4, rf_isTopic hM1 hk (by omega) (by omega), if_pos ct, shb_ap, if_neg (by decide), y1, shv_ap, w1]
        rfl
      refine ⟨_, _, _, c1, c2, ?_⟩
      have low : ∀ r, r < 291 → sh_i μ2 r = sh_i μ1 r := fun r z => by rw [w5.row r (fun k z => by unfold rN5 at z; omega), y2.row r (fun k => by omega)]
      have e57 : sh_i μs 291 57 = 0 := by rw [y2.i _ _ (by omega), nh _ (by omega), z1]
      refine Sim.act (L' := aL P L p q) h (gp_X12_asks (gp_X11_asks h.1 c1) c2) hR x1 (a4.mono (fun r k z => nC_NA hr.1 z)) y1 (w5.mono (fun r k z => rN5_NB z)) ⟨by rw [aL_d]; exact hl.1, aL_in hl.2⟩ (a2.cg (fun j hj => low _ (by omega))) w2 (kept_of (a3.cg (by rw [low _ (by omega)]) (low _ (by omega))) (w6 e57)) ?_ ?_ ?_
      · rw [w5.i _ _ (fun z => by unfold rN5 at z; omega)]; exact e57
      · rw [w5.i _ _ (fun z => by unfold rN5 at z; omega), y2.i _ _ (by omega), nh _ (by omega), z2]
      · refine g5.cg ?_ ?_
        · rw [(w5.2 0 16 (fun z => by unfold rN5 at z; omega)).2, (y2.2 0 16 (by omega)).2, (a4.2 0 16 (fun z => by unfold nC at z; omega)).2, (x2.2 0 16 (by omega)).2]
        · rw [(w5.2 291 78 (fun z => by unfold rN5 at z; omega)).2, (y2.2 291 78 (by omega)).2, (hof 291 (by omega)).2.1]
    · refine ⟨zI (-1), sh_setI μ 290 2 (sh_i μ 290 2 + 1), _, ?_, ?_, h.bump (k := 2) (by omega)⟩
      · unfold f_X11_asks
        rw [cl_isPerson hr.2.1 hr.1 hP hk h1 h2, if_pos c, shb_ap, if_neg (by decide), cl_isTopic hr.2.1 hr.1 hP hk h3 h4, if_neg ct, shb_ap, if_pos rfl, show (2 : Int32) = zI 2 from rfl, e]
        rfl
      · unfold f_X12_asks
        rw [rf_isPerson hMb hk h1 h2, if_pos c, shb_ap, if_neg (by decide), zI_l h3 h4, rf_isTopic hMb hk (by omega) (by omega), if_neg ct, shb_ap, if_pos rfl, show (2 : Int32) = zI 2 from rfl, e']
        rfl
  · refine ⟨zI (-1), sh_setI μ 290 2 (sh_i μ 290 2 + 1), _, ?_, ?_, h.bump (k := 2) (by omega)⟩
    · unfold f_X11_asks
      rw [cl_isPerson hr.2.1 hr.1 hP hk h1 h2, if_neg c, shb_ap, if_pos rfl, show (2 : Int32) = zI 2 from rfl, e]
      rfl
    · unfold f_X12_asks
      rw [rf_isPerson hMb hk h1 h2, if_neg c, shb_ap, if_pos rfl, show (2 : Int32) = zI 2 from rfl, e']
      rfl
/-- whether so many days are ahead -/
def ahd (P : sp_T) (L : sl_T) (a lo hi : Int) : Prop := 0 < sp_c P ∧ lo ≤ a ∧ a ≤ hi ∧ sl_d L + a ≤ 999
theorem cl_isPlain {μ : sh_Mem} {t : Nat} {P : sp_T} (hr : sh_r μ 0 7 = some t) (ht : sh_isP t) (hP : sm_cP μ t P) (hk : sp_ok P) : f_X11_isPlain μ = some (if 0 < sp_c P then 1 else 0, μ) := by
  have hb := sp_bd hk
  have e := hP.1
  unfold f_X11_isPlain
  rw [shr_ap hr]
  by_cases c : 0 < sp_c P
  · rw [if_pos c]
    simp (disch := omega) only [↓reduceIte, ↓shl_ap, shb_ap, shv_ap, zI_lit, zL_lit, nI_z, lN_z, ofN_z, zI_add, zI_sub, zI_mul, zI_neg, zL_add, zL_sub, zL_mul, zL_neg, zI_l, zI_cl, zI_le_t, zI_le_f, zI_lt_t, zI_lt_f, zI_eq_t, zI_eq_f, zI_in_t, zz_isIn_t, zz_isIn_f, not_true_eq_false, not_false_eq_true, true_or, or_true, false_or, or_false, true_and, and_true, false_and, and_false, Nat.reduceLeDiff, Int.reduceAdd, Int.reduceSub, Int.reduceMul, Int.reduceNeg, Int.reduceToNat, Nat.reduceAdd, Nat.reduceMul, Nat.reduceSub, Int.toNat_natCast, hr, shr_ap hr, shp ht, e, zN_le_t, zN_le_f]
  · rw [if_neg c]
    simp (disch := omega) only [↓reduceIte, ↓shl_ap, shb_ap, shv_ap, zI_lit, zL_lit, nI_z, lN_z, ofN_z, zI_add, zI_sub, zI_mul, zI_neg, zL_add, zL_sub, zL_mul, zL_neg, zI_l, zI_cl, zI_le_t, zI_le_f, zI_lt_t, zI_lt_f, zI_eq_t, zI_eq_f, zI_in_t, zz_isIn_t, zz_isIn_f, not_true_eq_false, not_false_eq_true, true_or, or_true, false_or, or_false, true_and, and_true, false_and, and_false, Nat.reduceLeDiff, Int.reduceAdd, Int.reduceSub, Int.reduceMul, Int.reduceNeg, Int.reduceToNat, Nat.reduceAdd, Nat.reduceMul, Nat.reduceSub, Int.toNat_natCast, hr, shr_ap hr, shp ht, e, zN_le_t, zN_le_f]
theorem cl_isAhead {μ : sh_Mem} {t : Nat} {P : sp_T} {L : sl_T} {a lo hi : Int} (hr : sh_r μ 0 7 = some t) (ht : sh_isP t) (hP : sm_cP μ t P) (hk : sp_ok P) (hc : sm_cL μ 49 P L) (hd : sl_d L ≤ 999) (h1 : -2147483648 ≤ a) (h2 : a < 2147483648) (h3 : 0 ≤ lo ∧ hi ≤ 1000 ∧ lo ≤ hi) : (ahd P L a lo hi ∧ f_X11_isAhead (zI a) (zI lo) (zI hi) μ = some (1, μ)) ∨ (¬ ahd P L a lo hi ∧ f_X11_isAhead (zI a) (zI lo) (zI hi) μ = some (0, μ)) := by
  have e := hc.1
  rw [nI_z] at e
  unfold f_X11_isAhead ahd
  rw [cl_isPlain hr ht hP hk]
  by_cases c : 0 < sp_c P
  · by_cases c1 : a < lo
    · refine Or.inr ⟨by omega, ?_⟩
      rw [if_pos c]
      simp (disch := omega) only [↓reduceIte, ↓shl_ap, shb_ap, shv_ap, zI_lit, zL_lit, nI_z, lN_z, ofN_z, zI_add, zI_sub, zI_mul, zI_neg, zL_add, zL_sub, zL_mul, zL_neg, zI_l, zI_cl, zI_le_t, zI_le_f, zI_lt_t, zI_lt_f, zI_eq_t, zI_eq_f, zI_in_t, zz_isIn_t, zz_isIn_f, not_true_eq_false, not_false_eq_true, true_or, or_true, false_or, or_false, true_and, and_true, false_and, and_false, Nat.reduceLeDiff, Int.reduceAdd, Int.reduceSub, Int.reduceMul, Int.reduceNeg, Int.reduceToNat, Nat.reduceAdd, Nat.reduceMul, Nat.reduceSub, Int.toNat_natCast, zN_le_t, zN_le_f]
    · by_cases c2 : hi < a
      · refine Or.inr ⟨by omega, ?_⟩
        rw [if_pos c]
        simp (disch := omega) only [↓reduceIte, ↓shl_ap, shb_ap, shv_ap, zI_lit, zL_lit, nI_z, lN_z, ofN_z, zI_add, zI_sub, zI_mul, zI_neg, zL_add, zL_sub, zL_mul, zL_neg, zI_l, zI_cl, zI_le_t, zI_le_f, zI_lt_t, zI_lt_f, zI_eq_t, zI_eq_f, zI_in_t, zz_isIn_t, zz_isIn_f, not_true_eq_false, not_false_eq_true, true_or, or_true, false_or, or_false, true_and, and_true, false_and, and_false, Nat.reduceLeDiff, Int.reduceAdd, Int.reduceSub, Int.reduceMul, Int.reduceNeg, Int.reduceToNat, Nat.reduceAdd, Nat.reduceMul, Nat.reduceSub, Int.toNat_natCast, zN_le_t, zN_le_f]
      · by_cases c3 : 999 < (sl_d L : Int) + a
        · refine Or.inr ⟨by omega, ?_⟩
          rw [if_pos c]
          simp (disch := omega) only [↓reduceIte, ↓shl_ap, shb_ap, shv_ap, zI_lit, zL_lit, nI_z, lN_z, ofN_z, zI_add, zI_sub, zI_mul, zI_neg, zL_add, zL_sub, zL_mul, zL_neg, zI_l, zI_cl, zI_le_t, zI_le_f, zI_lt_t, zI_lt_f, zI_eq_t, zI_eq_f, zI_in_t, zz_isIn_t, zz_isIn_f, not_true_eq_false, not_false_eq_true, true_or, or_true, false_or, or_false, true_and, and_true, false_and, and_false, Nat.reduceLeDiff, Int.reduceAdd, Int.reduceSub, Int.reduceMul, Int.reduceNeg, Int.reduceToNat, Nat.reduceAdd, Nat.reduceMul, Nat.reduceSub, Int.toNat_natCast, e, zN_le_t, zN_le_f]
        · refine Or.inl ⟨by omega, ?_⟩
          rw [if_pos c]
          simp (disch := omega) only [↓reduceIte, ↓shl_ap, shb_ap, shv_ap, zI_lit, zL_lit, nI_z, lN_z, ofN_z, zI_add, zI_sub, zI_mul, zI_neg, zL_add, zL_sub, zL_mul, zL_neg, zI_l, zI_cl, zI_le_t, zI_le_f, zI_lt_t, zI_lt_f, zI_eq_t, zI_eq_f, zI_in_t, zz_isIn_t, zz_isIn_f, not_true_eq_false, not_false_eq_true, true_or, or_true, false_or, or_false, true_and, and_true, false_and, and_false, Nat.reduceLeDiff, Int.reduceAdd, Int.reduceSub, Int.reduceMul, Int.reduceNeg, Int.reduceToNat, Nat.reduceAdd, Nat.reduceMul, Nat.reduceSub, Int.toNat_natCast, e, zN_le_t, zN_le_f]
  · refine Or.inr ⟨by omega, ?_⟩
    rw [if_neg c]
    simp (disch := omega) only [↓reduceIte, ↓shl_ap, shb_ap, shv_ap, zI_lit, zL_lit, nI_z, lN_z, ofN_z, zI_add, zI_sub, zI_mul, zI_neg, zL_add, zL_sub, zL_mul, zL_neg, zI_l, zI_cl, zI_le_t, zI_le_f, zI_lt_t, zI_lt_f, zI_eq_t, zI_eq_f, zI_in_t, zz_isIn_t, zz_isIn_f, not_true_eq_false, not_false_eq_true, true_or, or_true, false_or, or_false, true_and, and_true, false_and, and_false, Nat.reduceLeDiff, Int.reduceAdd, Int.reduceSub, Int.reduceMul, Int.reduceNeg, Int.reduceToNat, Nat.reduceAdd, Nat.reduceMul, Nat.reduceSub, Int.toNat_natCast, zN_le_t, zN_le_f]
theorem rf_isAhead {μ : sh_Mem} {P : sp_T} {L : sl_T} {a lo hi : Int} (hM : sm_mP μ P) (hk : sp_ok P) (hm : sm_mL (sh_i μ 330) 0 P L) (hd : sl_d L ≤ 999) (h1 : -2147483648 ≤ a) (h2 : a < 2147483648) (h3 : 0 ≤ lo ∧ hi ≤ 1000 ∧ lo ≤ hi) : (ahd P L a lo hi ∧ f_X12_isAhead (zI a) (zI lo) (zI hi) μ = some (1, μ)) ∨ (¬ ahd P L a lo hi ∧ f_X12_isAhead (zI a) (zI lo) (zI hi) μ = some (0, μ)) := by
  have e := hm.1
  rw [nI_z] at e
  have e' : sh_i μ 330 (Int32.toNatClampNeg 0) = zI (sl_d L) := e
  unfold f_X12_isAhead ahd
  rw [rf_plain hM hk, e']
  by_cases c : 0 < sp_c P
  · by_cases c1 : lo ≤ a ∧ a ≤ hi
    · by_cases c3 : 999 < (sl_d L : Int) + a
      · refine Or.inr ⟨by omega, ?_⟩
        rw [if_pos c]
        simp (disch := omega) only [↓reduceIte, ↓shl_ap, shb_ap, shv_ap, zI_lit, zL_lit, nI_z, lN_z, ofN_z, zI_add, zI_sub, zI_mul, zI_neg, zL_add, zL_sub, zL_mul, zL_neg, zI_l, zI_cl, zI_le_t, zI_le_f, zI_lt_t, zI_lt_f, zI_eq_t, zI_eq_f, zI_in_t, zz_isIn_t, zz_isIn_f, not_true_eq_false, not_false_eq_true, true_or, or_true, false_or, or_false, true_and, and_true, false_and, and_false, Nat.reduceLeDiff, Int.reduceAdd, Int.reduceSub, Int.reduceMul, Int.reduceNeg, Int.reduceToNat, Nat.reduceAdd, Nat.reduceMul, Nat.reduceSub, Int.toNat_natCast, zN_le_t, zN_le_f]
      · refine Or.inl ⟨by omega, ?_⟩
        rw [if_pos c]
        simp (disch := omega) only [↓reduceIte, ↓shl_ap, shb_ap, shv_ap, zI_lit, zL_lit, nI_z, lN_z, ofN_z, zI_add, zI_sub, zI_mul, zI_neg, zL_add, zL_sub, zL_mul, zL_neg, zI_l, zI_cl, zI_le_t, zI_le_f, zI_lt_t, zI_lt_f, zI_eq_t, zI_eq_f, zI_in_t, zz_isIn_t, zz_isIn_f, not_true_eq_false, not_false_eq_true, true_or, or_true, false_or, or_false, true_and, and_true, false_and, and_false, Nat.reduceLeDiff, Int.reduceAdd, Int.reduceSub, Int.reduceMul, Int.reduceNeg, Int.reduceToNat, Nat.reduceAdd, Nat.reduceMul, Nat.reduceSub, Int.toNat_natCast, zN_le_t, zN_le_f]
    · refine Or.inr ⟨by omega, ?_⟩
      rw [if_pos c]
      simp (disch := omega) only [↓reduceIte, ↓shl_ap, shb_ap, shv_ap, zI_lit, zL_lit, nI_z, lN_z, ofN_z, zI_add, zI_sub, zI_mul, zI_neg, zL_add, zL_sub, zL_mul, zL_neg, zI_l, zI_cl, zI_le_t, zI_le_f, zI_lt_t, zI_lt_f, zI_eq_t, zI_eq_f, zI_in_t, zz_isIn_t, zz_isIn_f, not_true_eq_false, not_false_eq_true, true_or, or_true, false_or, or_false, true_and, and_true, false_and, and_false, Nat.reduceLeDiff, Int.reduceAdd, Int.reduceSub, Int.reduceMul, Int.reduceNeg, Int.reduceToNat, Nat.reduceAdd, Nat.reduceMul, Nat.reduceSub, Int.toNat_natCast, zN_le_t, zN_le_f]
  · refine Or.inr ⟨by omega, ?_⟩
    rw [if_neg c]
    simp (disch := omega) only [↓reduceIte, ↓shl_ap, shb_ap, shv_ap, zI_lit, zL_lit, nI_z, lN_z, ofN_z, zI_add, zI_sub, zI_mul, zI_neg, zL_add, zL_sub, zL_mul, zL_neg, zI_l, zI_cl, zI_le_t, zI_le_f, zI_lt_t, zI_lt_f, zI_eq_t, zI_eq_f, zI_in_t, zz_isIn_t, zz_isIn_f, not_true_eq_false, not_false_eq_true, true_or, or_true, false_or, or_false, true_and, and_true, false_and, and_false, Nat.reduceLeDiff, Int.reduceAdd, Int.reduceSub, Int.reduceMul, Int.reduceNeg, Int.reduceToNat, Nat.reduceAdd, Nat.reduceMul, Nat.reduceSub, Int.toNat_natCast, zN_le_t, zN_le_f]
theorem pr_26 : ∀ (μ : sh_Mem) (b1 : Int32), Sim μ → ∃ (v : Int32) (μ1 μ2 : sh_Mem), f_X11_days b1 μ = some (v, μ1) ∧ f_X12_days b1 μ1 = some (v, μ2) ∧ Sim μ2 := by
  intro μ b1 h
  obtain ⟨-, -, -, -, g5, -, t, P, L, hR⟩ := id h
  obtain ⟨hr, hk, hl, hP, hM, hc, hm, hkp, hu, hs, z1, z2, -⟩ := id hR
  obtain ⟨a, h1, h2, rfl⟩ := zI_of b1
  have hb := sp_bd hk
  have hd := hl.1
  rcases cl_isAhead (lo := 1) (hi := 100) hr.2.1 hr.1 hP hk hc hd h1 h2 (by omega) with ⟨q1, q2⟩ | ⟨q1, q2⟩
  · obtain ⟨n, rfl⟩ := Int.eq_ofNat_of_zero_le (show 0 ≤ a by have := q1.2.1; omega)
    obtain ⟨-, n1, n2, n3⟩ := id q1
    obtain ⟨K, K1, K2⟩ := hkp.K
    obtain ⟨μr, x1, x2⟩ := rem_fr hu
    have ht := sh_isP_r hr.1
    have hwr : cw μr t P := cw.cg (μ := μ) ⟨hr.2.2.1, hr.1, hP, hk⟩ x2.1 (fun j _ _ _ => x2.row _ (fun k => by omega))
    have hcr : sm_cL μr 49 P L := hc.cg (fun j hj => x2.row _ (fun k => by omega))
    have hKr : ckp μr K := K1.cg (x2.i _ _ (by omega)) (x2.row _ (fun k => by omega))
    obtain ⟨μ1, a1, a2, a3, a4⟩ := cl_daysK (n := n) (t := t) (P := P) (by omega) n sh_fuel 0 0 L K μr (by omega) (by rw [sh_fuel_eq]; omega) (by omega) (by rw [x2.1]; exact hr.2.1) hwr hcr hl.2 (by omega) hKr
    rw [Nat.zero_add] at a1
    have q2' : f_X11_isAhead (zI n) 1 100 μ = some (1, μ) := q2
    have c1 : f_X11_days (zI n) μ = some (zI (dNW P 0 n L), μ1) := by
      unfold f_X11_days
      rw [q2', shb_ap, if_neg (by decide), x1, shv_ap]
      exact a1
    have hof : sh_offM μ μ1 := fp_X11_days h.1 c1
    have nh : ∀ r, 291 ≤ r → sh_i μ1 r = sh_i μ r := fun r z => (hof r z).1
    obtain ⟨μs, y1, y2⟩ := sto_fr (μ1 := μ1) hu (by rw [nh _ (by omega)]) (by rw [nh _ (by omega)])
    have hM1 := hM.off hof
    have hMs : sm_mP (sh_setI μs 291 58 0) P := hM1.f3 (fun r k z => by rw [sh_i_set, if_neg (by omega)]; exact y2.i _ _ (by omega)) (y2.lrow _ (fun k => by omega))
    have r330 : sh_i (sh_setI μs 291 58 0) 330 = sh_i μ 330 := by rw [ir_set_r (by omega)]; exact (y2.row _ (fun k => by omega)).trans (nh _ (by omega))
    have e57 : sh_i (sh_setI μs 291 58 0) 291 57 = 0 := by rw [ir_set_k (by omega), y2.i _ _ (by omega), nh _ (by omega), z1]
    have e60 : sh_i (sh_setI μs 291 58 0) 291 60 = 0 := by rw [ir_set_k (by omega), y2.i _ _ (by omega), nh _ (by omega), z2]
    obtain ⟨μ2, w1, w2, w3, w4, w5⟩ := rf_daysK (n := n) (P := P) hk (by omega) n sh_fuel 0 L K (sh_setI μs 291 58 0) (by omega) (by rw [sh_fuel_eq]; omega) e57 hMs (by rw [r330]; exact hm) hl.2 (by omega) e60 (K2.cg r330)
    have hm1 : sm_mL (sh_i μ1 330) 0 P L := by rw [nh _ (by omega)]; exact hm
    rcases rf_isAhead (lo := 1) (hi := 100) hM1 hk hm1 hd h1 h2 (by omega) with ⟨r1, r2⟩ | ⟨r1, r2⟩
    · have r2' : f_X12_isAhead (zI n) 1 100 μ1 = some (1, μ1) := r2
      have c2 : f_X12_days (zI n) μ1 = some (zI (dNW P 0 n L), μ2) := by
        unfold f_X12_days
        rw [r2', shb_ap, if_neg (by decide), y1, shv_ap, shl_ap]
        unfold f_X12_daysGo
        have w1' : F_X12_daysGo sh_fuel 1 (zI n) 0 (sh_setI μs 291 58 0) = some μ2 := w1
        rw [w1', shv_ap, w4, ir_set, Int32.zero_add]
      refine ⟨_, _, _, c1, c2, ?_⟩
      have f0 : sh_fr sm_NB μs μ2 := (sh_fr_I sh_fr.rf (rN5_NB (show rN5 291 58 by unfold rN5; omega))).trans (w5.mono (fun r k z => rN5_NB z))
      have low : ∀ r, r < 291 → sh_i μ2 r = sh_i μ1 r := fun r z => by rw [w5.row r (fun k z => by unfold rN5 at z; omega), ir_set_r (by omega), y2.row r (fun k => by omega)]
      refine Sim.act (L' := dN P 0 n L) h (gp_X12_days (gp_X11_days h.1 c1) c2) hR x1 (a4.mono (fun r k z => nC_NA hr.1 z)) y1 f0 ⟨by rw [dN_d]; omega, dN_in n L hl.2⟩ (a2.cg (fun j hj => low _ (by omega))) w2 (kept_of (a3.cg (by rw [low _ (by omega)]) (low _ (by omega))) w3) ?_ ?_ ?_
      · rw [w5.i _ _ (fun z => by unfold rN5 at z; omega)]; exact e57
      · rw [w5.i _ _ (fun z => by unfold rN5 at z; omega)]; exact e60
      · refine g5.cg ?_ ?_
        · rw [(w5.2 0 16 (fun z => by unfold rN5 at z; omega)).2]
          show sh_l μs 0 16 = _
          rw [(y2.2 0 16 (by omega)).2, (a4.2 0 16 (fun z => by unfold nC at z; omega)).2, (x2.2 0 16 (by omega)).2]
        · rw [(w5.2 291 78 (fun z => by unfold rN5 at z; omega)).2]
          show sh_l μs 291 78 = _
          rw [(y2.2 291 78 (by omega)).2, (hof 291 (by omega)).2.1]
    · exact absurd q1 r1
  · have e : f_X11_refuseNumber 3 μ = some (zI (-1), sh_setI μ 290 3 (sh_i μ 290 3 + 1)) := cl_refuseN (k := 3) (by omega)
    have e' : f_X12_refuses 3 (sh_setI μ 290 3 (sh_i μ 290 3 + 1)) = some (zI (-1), sh_setI (sh_setI μ 290 3 (sh_i μ 290 3 + 1)) 293 3 (sh_i μ 293 3 + 1)) := rf_refuses (k := 3) (by omega)
    have hMb := hM.off (off290 (μ := μ) (k := 3) (x := sh_i μ 290 3 + 1))
    have hmb : sm_mL (sh_i (sh_setI μ 290 3 (sh_i μ 290 3 + 1)) 330) 0 P L := by rw [ir_set_r (by omega)]; exact hm
    refine ⟨zI (-1), sh_setI μ 290 3 (sh_i μ 290 3 + 1), _, ?_, ?_, h.bump (k := 3) (by omega)⟩
    · unfold f_X11_days
      have q2' : f_X11_isAhead (zI a) 1 100 μ = some (0, μ) := q2
      rw [q2', shb_ap, if_pos rfl, e]
      rfl
    · rcases rf_isAhead (lo := 1) (hi := 100) hMb hk hmb hd h1 h2 (by omega) with ⟨r1, r2⟩ | ⟨r1, r2⟩
      · exact absurd r1 q1
      · unfold f_X12_days
        have r2' : f_X12_isAhead (zI a) 1 100 (sh_setI μ 290 3 (sh_i μ 290 3 + 1)) = some (0, _) := r2
        rw [r2', shb_ap, if_pos rfl, e']
        rfl
