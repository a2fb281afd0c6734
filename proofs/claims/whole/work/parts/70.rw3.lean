/-! the reference: asking, days, what is put aside -/
section Ry
variable {μ : sh_Mem} {P : sp_T} {L : sl_T} {p q : Nat}
theorem zI_bit7 {s t : Nat} (hs : s < 128) (ht : t < 7) : (zI s >>> zI t) &&& zI 1 = zI ((s / 2 ^ t % 2 : Nat) : Int) := zI_bit hs ht
theorem wd_le : wd P L p q ≤ 2 := by
  unfold wd
  split
  · omega
  · split <;> omega
theorem rf_asked {s n0 : Nat} (hM : sm_mP μ P) (hm : sm_mL (sh_i μ 330) 0 P L) (hk : sp_ok P) (hl : sl_in P L) (hd : sl_d L ≤ 100000) (hp : p < sp_np P) (hq : q < sp_nt P) (hs : s < 128) (e60 : sh_i μ 291 60 = zI s) (hb0 : s / 2 ^ p % 2 = 0) (hn0 : n0 ≤ 40) (e71 : sh_i μ 330 71 = zI n0) :
    ∃ μ', f_X12_isAsked (zI p) (zI q) μ = some (zI (wd P L p q), μ') ∧ sm_mL (sh_i μ' 330) 0 P (aL P L p q) ∧ sh_i μ' 291 59 = zI (aM P L p q) ∧ sh_i μ' 291 58 = sh_i μ 291 58 + (if wd P L p q = 2 then 1 else 0) ∧ sh_fr rN5 μ μ' ∧ (wd P L p q = 2 → rkp μ μ' (zI p) (zI q) (zI (aM P L p q))) ∧ (¬ wd P L p q = 2 → sh_i μ' 330 = sh_i μ 330) := by
  have hb := sp_bd hk
  have hpos := sp_pos hk hp
  obtain ⟨b1, b2, b3, b4⟩ := hl.2 p hp
  have hcell := sp_cell hk b1 b2
  have hcs := sp_cells hk
  have hbit := zI_bit7 (s := s) (t := p) hs (by omega)
  rw [hb0] at hbit
  obtain ⟨m1, hm1⟩ : ∃ m, m = sh_setI μ 291 59 (zI 0) := ⟨_, rfl⟩
  have n1 : ∀ r k, ¬ (r = 291 ∧ k = 59) → sh_i m1 r k = sh_i μ r k := fun r k z => by rw [hm1, sh_i_set, if_neg z]
  have r1 : ∀ r, ¬ r = 291 → sh_i m1 r = sh_i μ r := fun r z => funext fun k => n1 r k (by omega)
  have f1 : sh_fr rN5 μ m1 := by rw [hm1]; exact sh_fr_I sh_fr.rf (by unfold rN5; omega)
  have hM1 : sm_mP m1 P := hM.f3 (fun r k z => n1 r k (by omega)) (by rw [hm1]; rfl)
  obtain ⟨m3, d1, d2, d3⟩ := rf_would (L := L) hM1 (by rw [r1 330 (by omega)]; exact hm) hk hl hd hp hq
  have f3 : sh_fr rN5 m1 m3 := d2.mono (fun r k z => by unfold rN3 at z; unfold rN5; omega)
  have n3 : ∀ r k, ¬ r = 366 → ¬ (r = 291 ∧ (k = 51 ∨ k = 54 ∨ k = 55 ∨ k = 56 ∨ k = 109)) → sh_i m3 r k = sh_i m1 r k := fun r k z1 z2 => d2.i r k (fun z => by unfold rN3 at z; omega)
  have r330 : sh_i m3 330 = sh_i μ 330 := funext fun k => by rw [n3 _ _ (by omega) (by omega), n1 _ _ (by omega)]
  have e59 : sh_i m3 291 59 = zI 0 := by rw [n3 _ _ (by omega) (by omega), hm1, ir_set]
  have e58 : sh_i m3 291 58 = sh_i μ 291 58 := by rw [n3 _ _ (by omega) (by omega), n1 _ _ (by omega)]
  have e57 : sh_i m3 291 57 = sh_i μ 291 57 := by rw [n3 _ _ (by omega) (by omega), n1 _ _ (by omega)]
  have e60' : sh_i m1 291 60 = zI s := by rw [n1 _ _ (by omega), e60]
  have hun : f_X12_isAsked (zI p) (zI q) μ = (if 2 ≤ zI (wd P L p q) then sh_bind (f_X12_cellOf (zI p) m3) (fun y9 μ7 => (if (y9 - y9 / 7 * 7) ≤ 0 then (if ((sh_i μ7 321 (Int32.toNatClampNeg 3)) - 1) ≤ (y9 - y9 / 7 * 7) then TL (zI (wd P L p q)) (zI p) (zI q) μ7 else sh_let ((y9 + 1) : Int32) (fun x31 => (if x31 = (-1) then TL (zI (wd P L p q)) (zI p) (zI q) μ7 else sh_bindv (f_X12_lifts x31 y9 (-1) μ7) (fun μ52 => TL (zI (wd P L p q)) (zI p) (zI q) μ52)))) else sh_let ((y9 - 1) : Int32) (fun x74 => (if ((sh_i μ7 321 (Int32.toNatClampNeg 3)) - 1) ≤ (y9 - y9 / 7 * 7) then (if x74 = (-1) then TL (zI (wd P L p q)) (zI p) (zI q) μ7 else sh_bindv (f_X12_lifts x74 y9 (-1) μ7) (fun μ96 => TL (zI (wd P L p q)) (zI p) (zI q) μ96)) else sh_let ((y9 + 1) : Int32) (fun x118 => (if x74 = (-1) then (if x118 = (-1) then TL (zI (wd P L p q)) (zI p) (zI q) μ7 else sh_bindv (f_X12_lifts x118 y9 x74 μ7) (fun μ140 => TL (zI (wd P L p q)) (zI p) (zI q) μ140)) else sh_bindv (f_X12_lifts x74 y9 x118 μ7) (fun μ162 => (if x118 = (-1) then TL (zI (wd P L p q)) (zI p) (zI q) μ162 else sh_bindv (f_X12_lifts x118 y9 x74 μ162) (fun μ185 => TL (zI (wd P L p q)) (zI p) (zI q) μ185))))))))) else some (zI (wd P L p q), m3)) := by
    rw [isAsked_TL, shl_ap, show (0 : Int32) = zI 0 from rfl, ← hm1, e60', show (31 : Int32) = zI 31 from rfl, zI_and31 (by omega), show (1 : Int32) = zI 1 from rfl, hbit, if_neg (by decide), d1, shb_ap]
  by_cases c : wd P L p q = 2
  · obtain ⟨e54, e55⟩ := d3 c
    have hM3 : sm_mP m3 P := hM1.f3 (fun r k z => n3 r k (by omega) (by omega)) (d2.lrow _ (fun k z => by unfold rN3 at z; omega))
    have hm3 : sm_mL (sh_i m3 330) 0 P (lh L (sl_h L)) := by rw [r330]; exact hm
    have hs3 : sh_i m3 321 (Int32.toNatClampNeg 3) = zI (sp_c P) := by rw [← nI_z]; exact hM3.1
    have hs3' : sh_i m3 321 3 = zI (sp_c P) := hs3
    have hO := rf_cellOf hm3 hk hp
    have hO : f_X12_cellOf (zI p) m3 = some (zI ((sl_x L p + 7 * sl_y L p : Nat) : Int), m3) := hO
    have ih1 : ∀ k, k < sp_c P * sp_r P → (exn P (sl_x L p) (sl_y L p) k = true ↔ (ro P k = sl_x L p + 7 * sl_y L p ∨ (0 < sl_x L p ∧ ro P k + 1 = sl_x L p + 7 * sl_y L p) ∨ (sl_x L p + 1 < sp_c P ∧ ro P k = sl_x L p + 7 * sl_y L p + 1))) := fun k hk2 => exn_ro hk b1 hk2
    obtain ⟨x, hx1⟩ : ∃ x, x = sl_x L p := ⟨_, rfl⟩
    obtain ⟨y, hy1⟩ : ∃ y, y = sl_y L p := ⟨_, rfl⟩
    have own : exn P x y (y * sp_c P + x) = true := exn_iff.mpr (Or.inl rfl)
    have hx7 : x < 7 := by omega
    -- left
    have hL : 0 < x → ∃ m5, f_X12_lifts (zI ((x + 7 * y : Nat) - 1 : Int)) (zI ((x + 7 * y : Nat) : Int)) (zI (if x + 1 < sp_c P then ((x + 7 * y : Nat) : Int) + 1 else -1)) m3 = some m5 ∧ sm_mL (sh_i m5 330) 0 P (lh L (lfL P L p q).1) ∧ sh_i m5 291 59 = zI (lfL P L p q).2 ∧ sh_fr rN4 m3 m5 ∧ sh_i m5 291 54 = zI p ∧ sh_i m5 291 55 = zI q := by
      intro c1
      have := rf_lift (μ := m3) (L := L) (h := sl_h L) (x := x - 1) (y := y) (px := x) (py := y) (m := 0) (p := p) (q := q) (b := ((x + 7 * y : Nat) : Int)) (d := if x + 1 < sp_c P then ((x + 7 * y : Nat) : Int) + 1 else -1) hM3 hm3 hk hl hl.1 hd hp hq (by omega) (by omega) e54 e55 e59 (by omega) rfl (by omega) (by omega) (by split <;> omega) (fun k hk2 => by
        have := ih1 k hk2
        rw [← hx1, ← hy1] at this
        rw [this]
        split <;> omega) (exn_iff.mpr (Or.inr (Or.inl ⟨c1, by omega⟩)))
      unfold lfL
      rw [← hx1, ← hy1, if_pos c1]
      rw [show y * sp_c P + (x - 1) = y * sp_c P + x - 1 by omega, show ((x - 1 + 7 * y : Nat) : Int) = ((x + 7 * y : Nat) : Int) - 1 by omega] at this
      exact this
    -- right
    have hR : ∀ m5 : sh_Mem, x + 1 < sp_c P → sm_mP m5 P → sm_mL (sh_i m5 330) 0 P (lh L (lfL P L p q).1) → sh_i m5 291 59 = zI (lfL P L p q).2 → sh_i m5 291 54 = zI p → sh_i m5 291 55 = zI q → ∃ m6, f_X12_lifts (zI (((x + 7 * y : Nat) : Int) + 1)) (zI ((x + 7 * y : Nat) : Int)) (zI (if 0 < x then ((x + 7 * y : Nat) : Int) - 1 else -1)) m5 = some m6 ∧ sm_mL (sh_i m6 330) 0 P (lh L (lfR P L p q (lfL P L p q)).1) ∧ sh_i m6 291 59 = zI (lfR P L p q (lfL P L p q)).2 ∧ sh_fr rN4 m5 m6 ∧ sh_i m6 291 54 = zI p ∧ sh_i m6 291 55 = zI q := by
      intro m5 c1 hM5 hm5 e59 e54 e55
      have hle := lfL_le (P := P) (L := L) (p := p) (q := q) hl.1
      have hmm := lfL_m (P := P) (L := L) (p := p) (q := q)
      have hox : (lfL P L p q).1 (sl_y L p * sp_c P + sl_x L p) = sl_h L (sl_y L p * sp_c P + sl_x L p) := by
        unfold lfL
        split
        · rename_i z
          exact lfn_ex (exn_iff.mpr (Or.inl rfl)) (by omega) _ _ _
        · rfl
      have := rf_lift (μ := m5) (L := L) (h := (lfL P L p q).1) (x := x + 1) (y := y) (px := x) (py := y) (m := (lfL P L p q).2) (p := p) (q := q) (b := ((x + 7 * y : Nat) : Int)) (d := if 0 < x then ((x + 7 * y : Nat) : Int) - 1 else -1) hM5 hm5 hk hl hle hd hp hq (by omega) (by omega) e54 e55 e59 (by omega) hox (by omega) (by omega) (by split <;> omega) (fun k hk2 => by
        have := ih1 k hk2
        rw [← hx1, ← hy1] at this
        rw [this]
        split <;> omega) (exn_iff.mpr (Or.inr (Or.inr ⟨c1, by omega⟩)))
      unfold lfR
      rw [← hx1, ← hy1, if_pos c1]
      rw [show y * sp_c P + (x + 1) = y * sp_c P + x + 1 by omega, show ((x + 1 + 7 * y : Nat) : Int) = ((x + 7 * y : Nat) : Int) + 1 by omega] at this
      exact this
    have hoR : (lfR P L p q (lfL P L p q)).1 (sl_y L p * sp_c P + sl_x L p) = sl_h L (sl_y L p * sp_c P + sl_x L p) := by
      have hox : (lfL P L p q).1 (sl_y L p * sp_c P + sl_x L p) = sl_h L (sl_y L p * sp_c P + sl_x L p) := by
        unfold lfL
        split
        · rename_i z
          exact lfn_ex (exn_iff.mpr (Or.inl rfl)) (by omega) _ _ _
        · rfl
      unfold lfR
      split
      · exact (lfn_ex (exn_iff.mpr (Or.inl rfl)) (by omega) _ _ _).trans hox
      · exact hox
    -- the rest
    have hfin : ∀ m6 : sh_Mem, f_X12_isAsked (zI p) (zI q) μ = TL (zI (wd P L p q)) (zI p) (zI q) m6 → sm_mL (sh_i m6 330) 0 P (lh L (lfR P L p q (lfL P L p q)).1) → sh_i m6 291 59 = zI (lfR P L p q (lfL P L p q)).2 → sh_fr rN4 m3 m6 → sh_i m6 291 54 = zI p → sh_i m6 291 55 = zI q → ∃ μ', f_X12_isAsked (zI p) (zI q) μ = some (zI (wd P L p q), μ') ∧ sm_mL (sh_i μ' 330) 0 P (aL P L p q) ∧ sh_i μ' 291 59 = zI (aM P L p q) ∧ sh_i μ' 291 58 = sh_i μ 291 58 + (if wd P L p q = 2 then 1 else 0) ∧ sh_fr rN5 μ μ' ∧ (wd P L p q = 2 → rkp μ μ' (zI p) (zI q) (zI (aM P L p q))) ∧ (¬ wd P L p q = 2 → sh_i μ' 330 = sh_i μ 330) := by
      intro m6 he hm6 e59 hf e54 e55
      have n6 : ∀ r k, ¬ r = 366 → ¬ (r = 291 ∧ (k = 51 ∨ k = 54 ∨ k = 55 ∨ k = 56 ∨ k = 59 ∨ k = 109)) → ¬ (r = 330 ∧ k < 50) → sh_i m6 r k = sh_i m3 r k := fun r k z1 z2 z3 => hf.i r k (fun z => by unfold rN4 rN3 at z; omega)
      have hM6 : sm_mP m6 P := hM3.f3 (fun r k z => n6 r k (by omega) (by omega) (by omega)) (hf.lrow _ (fun k z => by unfold rN4 rN3 at z; omega))
      obtain ⟨μ', g1, g2, g3, g4, g5, g6⟩ := rf_tail (μ := m6) (L := L) (y5 := zI (wd P L p q)) hM6 hm6 hk hl hd (lfR_le (lfL_le hl.1)) hp hq e54 e55 e59 hoR hn0 (by rw [n6 _ _ (by omega) (by omega) (by omega), r330]; exact e71)
      have e57' : sh_i m6 291 57 = sh_i μ 291 57 := by rw [n6 _ _ (by omega) (by omega) (by omega), e57]
      have h330 : ∀ k, 50 ≤ k → sh_i m6 330 k = sh_i μ 330 k := fun k z => by rw [n6 _ _ (by omega) (by omega) (by omega), r330]
      have h0 : sh_i m6 330 0 = sh_i μ 330 0 := hm6.1.trans hm.1.symm
      refine ⟨μ', by rw [he, g1], ?_, ?_, ?_, f1.trans (f3.trans ((hf.mono (fun r k z => by unfold rN4 rN3 at z; unfold rN5; omega)).trans g5)), fun _ => ?_, fun z => absurd c z⟩
      · unfold aL
        rw [if_pos c]
        exact g2
      · unfold aM
        rw [if_pos c]
        exact g3
      · rw [g4, if_pos c, n6 _ _ (by omega) (by omega) (by omega), e58]
      · unfold aM
        rw [if_pos c]
        obtain ⟨q1, q2⟩ := g6
        rw [e57'] at q1 q2
        refine ⟨fun z k hk => by rw [q1 z k hk, h330 k (by omega)], fun z n hn e => ?_⟩
        obtain ⟨w1, w2⟩ := q2 z n hn (by rw [h330 _ (by omega)]; exact e)
        refine ⟨w1, fun j hj => ?_⟩
        rw [w2 j hj, h0]
        unfold kpG
        split
        · rfl
        · split
          · rfl
          · split
            · rfl
            · split
              · rfl
              · split
                · exact h330 _ (by omega)
                · exact h330 _ (by omega)
    rw [hun] at hfin ⊢
    rw [← hx1, ← hy1] at hO
    have hO : f_X12_cellOf (zI p) m3 = some (zI ((x + 7 * y : Nat) : Int), m3) := hO
    have hmod : ((x + 7 * y : Nat) : Int) - ((x + 7 * y : Nat) : Int) / 7 * 7 = (x : Int) := by omega
    have hw2 : zI (wd P L p q) = zI 2 := by rw [c]; rfl
    rw [← hx1] at b1
    rw [← hy1] at b2
    by_cases c1 : 0 < x
    · obtain ⟨m5, l1, l2, l3, l4, l5, l6⟩ := hL c1
      have n5 : ∀ r k, ¬ r = 366 → ¬ (r = 291 ∧ (k = 51 ∨ k = 54 ∨ k = 55 ∨ k = 56 ∨ k = 59 ∨ k = 109)) → ¬ (r = 330 ∧ k < 50) → sh_i m5 r k = sh_i m3 r k := fun r k z1 z2 z3 => l4.i r k (fun z => by unfold rN4 rN3 at z; omega)
      have hM5 : sm_mP m5 P := hM3.f3 (fun r k z => n5 r k (by omega) (by omega) (by omega)) (l4.lrow _ (fun k z => by unfold rN4 rN3 at z; omega))
      by_cases c2 : x + 1 < sp_c P
      · rw [if_pos c2] at l1
        obtain ⟨m6, w1, w2, w3, w4, w5, w6⟩ := hR m5 c2 hM5 l2 l3 l5 l6
        rw [if_pos c1] at w1
        refine hfin m6 ?_ w2 w3 (l4.trans w4) w5 w6
        rw [hw2, hO]
        simp (disch := omega) only [↓reduceIte, ↓shl_ap, shb_ap, shv_ap, zI_lit, zL_lit, nI_z, lN_z, ofN_z, zI_add, zI_sub, zI_mul, zI_neg, zL_add, zL_sub, zL_mul, zL_neg, zI_l, zI_cl, zI_le_t, zI_le_f, zI_lt_t, zI_lt_f, zI_eq_t, zI_eq_f, zI_in_t, zz_isIn_t, zz_isIn_f, not_true_eq_false, not_false_eq_true, true_or, or_true, false_or, or_false, true_and, and_true, false_and, and_false, Nat.reduceLeDiff, Int.reduceAdd, Int.reduceSub, Int.reduceMul, Int.reduceNeg, Int.reduceToNat, Nat.reduceAdd, Nat.reduceMul, Nat.reduceSub, Int.toNat_natCast, zI_div, hmod, hs3, hs3', l1, w1, zN_le_t, zN_le_f]
      · rw [if_neg c2] at l1
        refine hfin m5 ?_ ?_ ?_ l4 l5 l6
        · rw [hw2, hO]
          simp (disch := omega) only [↓reduceIte, ↓shl_ap, shb_ap, shv_ap, zI_lit, zL_lit, nI_z, lN_z, ofN_z, zI_add, zI_sub, zI_mul, zI_neg, zL_add, zL_sub, zL_mul, zL_neg, zI_l, zI_cl, zI_le_t, zI_le_f, zI_lt_t, zI_lt_f, zI_eq_t, zI_eq_f, zI_in_t, zz_isIn_t, zz_isIn_f, not_true_eq_false, not_false_eq_true, true_or, or_true, false_or, or_false, true_and, and_true, false_and, and_false, Nat.reduceLeDiff, Int.reduceAdd, Int.reduceSub, Int.reduceMul, Int.reduceNeg, Int.reduceToNat, Nat.reduceAdd, Nat.reduceMul, Nat.reduceSub, Int.toNat_natCast, zI_div, hmod, hs3, hs3', l1, zN_le_t, zN_le_f]
        · unfold lfR
          rw [← hx1, if_neg c2]
          exact l2
        · unfold lfR
          rw [← hx1, if_neg c2]
          exact l3
    · have c2 : x + 1 < sp_c P := by omega
      have hL0 : lfL P L p q = (sl_h L, 0) := by unfold lfL; rw [← hx1, if_neg c1]
      obtain ⟨m6, w1, w2, w3, w4, w5, w6⟩ := hR m3 c2 hM3 (by rw [hL0]; exact hm3) (by rw [hL0]; exact e59) e54 e55
      rw [if_neg c1] at w1
      refine hfin m6 ?_ w2 w3 w4 w5 w6
      rw [hw2, hO]
      simp (disch := omega) only [↓reduceIte, ↓shl_ap, shb_ap, shv_ap, zI_lit, zL_lit, nI_z, lN_z, ofN_z, zI_add, zI_sub, zI_mul, zI_neg, zL_add, zL_sub, zL_mul, zL_neg, zI_l, zI_cl, zI_le_t, zI_le_f, zI_lt_t, zI_lt_f, zI_eq_t, zI_eq_f, zI_in_t, zz_isIn_t, zz_isIn_f, not_true_eq_false, not_false_eq_true, true_or, or_true, false_or, or_false, true_and, and_true, false_and, and_false, Nat.reduceLeDiff, Int.reduceAdd, Int.reduceSub, Int.reduceMul, Int.reduceNeg, Int.reduceToNat, Nat.reduceAdd, Nat.reduceMul, Nat.reduceSub, Int.toNat_natCast, zI_div, hmod, hs3, hs3', w1, zN_le_t, zN_le_f]
  · have hw := wd_le (P := P) (L := L) (p := p) (q := q)
    refine ⟨m3, ?_, ?_, ?_, ?_, f1.trans f3, fun z => absurd z c, fun _ => r330⟩
    · rw [hun, if_neg]
      intro z
      have z : zI 2 ≤ zI (wd P L p q) := z
      have := (zI_le (a := 2) (b := (wd P L p q : Int)) (by omega) (by omega) (by omega) (by omega)).mp z
      omega
    · unfold aL
      rw [if_neg c, r330]
      exact hm
    · unfold aM
      rw [if_neg c]
      exact e59
    · rw [if_neg c, e58, Int32.add_zero]
end Ry
