/-! what is kept, as a value; the reference's days; what is put aside -/
abbrev kS : Type := Nat × (Nat → Int32)
def kK (K : kS) (d p q m : Int32) : kS := (kpN K.1, kpG K.1 K.2 d p q m)
def ckp (μ : sh_Mem) (K : kS) : Prop := K.1 ≤ 40 ∧ sh_i μ 63 1 = zI K.1 ∧ ∀ j, j < 4 * K.1 → sh_i μ 64 j = K.2 j
def mkp (μ : sh_Mem) (K : kS) : Prop := K.1 ≤ 40 ∧ sh_i μ 330 71 = zI K.1 ∧ ∀ j, j < 4 * K.1 → sh_i μ 330 (72 + j) = K.2 j
theorem sm_kept.K {μ : sh_Mem} (h : sm_kept (sh_i μ 64) (sh_i μ 63 1) (sh_i μ 330) 0) : ∃ K, ckp μ K ∧ mkp μ K := by
  obtain ⟨n, h1, h2, h3, h4⟩ := h
  rw [nI_z] at h2 h3
  rw [Nat.zero_add] at h3
  exact ⟨(n, sh_i μ 64), ⟨h1, h2, fun j _ => rfl⟩, ⟨h1, h3, fun j hj => by have := h4 j hj; rw [Nat.zero_add] at this; exact this.symm⟩⟩
theorem kept_of {μ : sh_Mem} {K : kS} (h1 : ckp μ K) (h2 : mkp μ K) : sm_kept (sh_i μ 64) (sh_i μ 63 1) (sh_i μ 330) 0 := by
  refine ⟨K.1, h1.1, by rw [nI_z]; exact h1.2.1, by rw [nI_z, Nat.zero_add]; exact h2.2.1, fun j hj => ?_⟩
  rw [h1.2.2 j hj, ← h2.2.2 j hj, Nat.zero_add]
theorem kpG_cg {n : Nat} {g g' : Nat → Int32} {d p q m : Int32} (hn : n ≤ 40) (h : ∀ j, j < 4 * n → g j = g' j) (j : Nat) (hj : j < 4 * kpN n) : kpG n g d p q m j = kpG n g' d p q m j := by
  unfold kpG
  by_cases c : n = 40
  · subst c
    rw [show kpN 40 = 40 from rfl] at hj ⊢
    split
    · rfl
    · split
      · rfl
      · split
        · rfl
        · split
          · rfl
          · rw [if_pos rfl, if_pos rfl]
            exact h _ (by omega)
  · rw [show kpN n = n + 1 from if_neg c] at hj ⊢
    split
    · rfl
    · split
      · rfl
      · split
        · rfl
        · split
          · rfl
          · exact h _ (by omega)
def aK (P : sp_T) (L : sl_T) (K : kS) (p q : Nat) : kS := if wd P L p q = 2 then kK K (zI (sl_d L)) (zI p) (zI q) (zI (aM P L p q)) else K
def dPp (P : sp_T) (L : sl_T) : Nat := ((sp_li P).getD (sl_d L % (sp_li P).length) (0, 0)).1
def dPq (P : sp_T) (L : sl_T) : Nat := ((sp_li P).getD (sl_d L % (sp_li P).length) (0, 0)).2
def dW (P : sp_T) (s : Nat) (L : sl_T) : Nat := if (sp_li P).length = 0 then 0 else if s / 2 ^ dPp P L % 2 = 1 then 0 else if wd P L (dPp P L) (dPq P L) = 2 then 1 else 0
def dK (P : sp_T) (s : Nat) (L : sl_T) (K : kS) : kS := if (sp_li P).length = 0 then K else if s / 2 ^ dPp P L % 2 = 1 then K else aK P L K (dPp P L) (dPq P L)
theorem dP_eq {P : sp_T} {s : Nat} {L : sl_T} : dP P s L = (sl_d L + 1, (if (sp_li P).length = 0 then L else if s / 2 ^ dPp P L % 2 = 1 then L else aL P L (dPp P L) (dPq P L)).2) := rfl
def dN (P : sp_T) (s : Nat) : Nat → sl_T → sl_T
  | 0, L => L
  | n + 1, L => dN P s n (dP P s L)
def dNK (P : sp_T) (s : Nat) : Nat → sl_T → kS → kS
  | 0, _, K => K
  | n + 1, L, K => dNK P s n (dP P s L) (dK P s L K)
def dNW (P : sp_T) (s : Nat) : Nat → sl_T → Nat
  | 0, _ => 0
  | n + 1, L => dW P s L + dNW P s n (dP P s L)
theorem dN_in {P : sp_T} {s : Nat} : ∀ (n : Nat) (L : sl_T), sl_in P L → sl_in P (dN P s n L)
  | 0, _, h => h
  | n + 1, _, h => dN_in n _ (dP_in h)
theorem dN_d {P : sp_T} {s : Nat} : ∀ (n : Nat) (L : sl_T), sl_d (dN P s n L) = sl_d L + n
  | 0, _ => rfl
  | n + 1, L => by rw [dN, dN_d n, dP_d]; omega
theorem dN_s {P : sp_T} {s : Nat} : ∀ (n : Nat) (L : sl_T), dN P s (n + 1) L = dP P s (dN P s n L)
  | 0, _ => rfl
  | n + 1, L => by rw [dN, dN_s n]; rfl
theorem dW_le {P : sp_T} {s : Nat} {L : sl_T} : dW P s L ≤ 1 := by
  unfold dW
  split
  · omega
  · split
    · omega
    · split <;> omega
theorem dNW_le {P : sp_T} {s : Nat} : ∀ (n : Nat) (L : sl_T), dNW P s n L ≤ n
  | 0, _ => Nat.le_refl _
  | n + 1, L => by
    have h1 := dW_le (P := P) (s := s) (L := L)
    have h2 := dNW_le (P := P) (s := s) n (dP P s L)
    rw [dNW]
    omega
section Rz
variable {μ : sh_Mem} {P : sp_T} {L : sl_T} {p q : Nat} {K : kS}
theorem rf_askK {s : Nat} (hM : sm_mP μ P) (hm : sm_mL (sh_i μ 330) 0 P L) (hk : sp_ok P) (hl : sl_in P L) (hd : sl_d L ≤ 100000) (hp : p < sp_np P) (hq : q < sp_nt P) (hs : s < 128) (e60 : sh_i μ 291 60 = zI s) (hb0 : s / 2 ^ p % 2 = 0) (hK : mkp μ K) :
    ∃ μ', f_X12_isAsked (zI p) (zI q) μ = some (zI (wd P L p q), μ') ∧ sm_mL (sh_i μ' 330) 0 P (aL P L p q) ∧ sh_i μ' 291 59 = zI (aM P L p q) ∧ sh_i μ' 291 58 = sh_i μ 291 58 + zI ((if wd P L p q = 2 then 1 else 0 : Nat) : Int) ∧ sh_fr rN5 μ μ' ∧ (sh_i μ 291 57 = 0 → mkp μ' (aK P L K p q)) ∧ (¬ sh_i μ 291 57 = 0 → ∀ k, 71 ≤ k → sh_i μ' 330 k = sh_i μ 330 k) := by
  obtain ⟨μ', a1, a2, a3, a4, a5, a6, a7⟩ := rf_asked hM hm hk hl hd hp hq hs e60 hb0 hK.1 hK.2.1
  refine ⟨μ', a1, a2, a3, ?_, a5, fun z => ?_, fun z k hk => ?_⟩
  · rw [a4]
    split <;> rfl
  · unfold aK
    by_cases c : wd P L p q = 2
    · rw [if_pos c]
      obtain ⟨b1, b2⟩ := (a6 c).2 z K.1 hK.1 hK.2.1
      refine ⟨(kpN_le hK.1).2, b1, fun j hj => ?_⟩
      have e0 : sh_i μ 330 0 = zI (sl_d L) := by rw [← nI_z]; exact hm.1
      rw [b2 j hj, e0]
      exact kpG_cg hK.1 (fun i hi => hK.2.2 i hi) j hj
    · rw [if_neg c]
      unfold mkp
      rw [a7 c]
      exact hK
  · by_cases c : wd P L p q = 2
    · exact (a6 c).1 z k hk
    · rw [a7 c]
theorem mL_day (hm : sm_mL (sh_i μ 330) 0 P L) : sm_mL (sh_i (sh_setI μ 330 0 (sh_i μ 330 0 + 1)) 330) 0 P (sl_d L + 1, L.2) := by
  obtain ⟨a1, a2, a3⟩ := hm
  rw [nI_z] at a1
  refine ⟨?_, fun x y hx hy => ?_, fun p hp => ?_⟩
  · rw [ir_set, a1, nI_z, show (1 : Int32) = zI 1 from rfl, zI_add]; rfl
  · rw [ir_set_k (by omega)]; exact a2 x y hx hy
  · obtain ⟨b1, b2, b3⟩ := a3 p hp
    exact ⟨by rw [ir_set_k (by omega)]; exact b1, by rw [ir_set_k (by omega)]; exact b2, by rw [ir_set_k (by omega)]; exact b3⟩
theorem rf_day {s : Nat} (hM : sm_mP μ P) (hm : sm_mL (sh_i μ 330) 0 P L) (hk : sp_ok P) (hl : sl_in P L) (hd : sl_d L ≤ 99999) (hs : s < 128) (e60 : sh_i μ 291 60 = zI s) (hK : mkp μ K) :
    ∃ μ', f_X12_dayGoes μ = some μ' ∧ sm_mL (sh_i μ' 330) 0 P (dP P s L) ∧ sh_i μ' 291 58 = sh_i μ 291 58 + zI (dW P s L) ∧ sh_fr rN5 μ μ' ∧ (sh_i μ 291 57 = 0 → mkp μ' (dK P s L K)) ∧ (¬ sh_i μ 291 57 = 0 → ∀ k, 71 ≤ k → sh_i μ' 330 k = sh_i μ 330 k) := by
  have hb := sp_bd hk
  have e0 := hm.1
  rw [nI_z] at e0
  rw [dP_eq]
  unfold dW dK
  have kp0 : ∀ (m : sh_Mem) (K : kS) (v : Int32), mkp m K → mkp (sh_setI m 330 0 v) K := fun m K v h => ⟨h.1, by rw [ir_set_k (by omega)]; exact h.2.1, fun j hj => by rw [ir_set_k (by omega)]; exact h.2.2 j hj⟩
  by_cases c : (sp_li P).length = 0
  · rw [if_pos c, if_pos c, if_pos c]
    refine ⟨sh_setI μ 330 0 (sh_i μ 330 0 + 1), ?_, mL_day hm, by rw [ir_set_r (by omega)]; exact (Int32.add_zero _).symm, sh_fr_I sh_fr.rf (by unfold rN5; omega), fun _ => kp0 _ _ _ hK, fun _ k hk => ir_set_k (by omega)⟩
    unfold f_X12_dayGoes
    rw [rf_listMany hM]
    simp (disch := omega) only [↓reduceIte, ↓shl_ap, shb_ap, shv_ap, zI_lit, zL_lit, nI_z, lN_z, ofN_z, zI_add, zI_sub, zI_mul, zI_neg, zL_add, zL_sub, zL_mul, zL_neg, zI_l, zI_cl, zI_le_t, zI_le_f, zI_lt_t, zI_lt_f, zI_eq_t, zI_eq_f, zI_in_t, zz_isIn_t, zz_isIn_f, not_true_eq_false, not_false_eq_true, true_or, or_true, false_or, or_false, true_and, and_true, false_and, and_false, ir_set, ir_set_k, ir_set_r, ir_row, ir_row_r, sh_i_setL, sh_i_setR, sh_r_setI, sh_r_setL, sh_r_rowI, sh_l_setI, sh_l_rowI, lr_set, lr_set_k, lr_set_r, Nat.reduceLeDiff, Int.reduceAdd, Int.reduceSub, Int.reduceMul, Int.reduceNeg, Int.reduceToNat, Nat.reduceAdd, Nat.reduceMul, Nat.reduceSub, Int.toNat_natCast, c, zN_le_t, zN_le_f]
  · rw [if_neg c, if_neg c, if_neg c]
    have hlt : sl_d L % (sp_li P).length < (sp_li P).length := Nat.mod_lt _ (by omega)
    obtain ⟨w1, w2⟩ := hM.2.2.2.2.2.2.2.2.2.1 _ hlt
    obtain ⟨y1, y2⟩ := sp_li_in hk hlt
    have w1 : sh_i μ 326 (24 + 2 * (sl_d L % (sp_li P).length)) = nI (dPp P L) := w1
    have w2 : sh_i μ 326 (25 + 2 * (sl_d L % (sp_li P).length)) = nI (dPq P L) := w2
    have y1 : dPp P L < sp_np P := y1
    have y2 : dPq P L < sp_nt P := y2
    rw [nI_z] at w1 w2
    have hbit := zI_bit7 (s := s) (t := dPp P L) hs (by omega)
    have hx7 : (24 + 2 * ((sl_d L : Int) % ((sp_li P).length : Int))) = ((24 + 2 * (sl_d L % (sp_li P).length) : Nat) : Int) := by push_cast; rfl
    have hun : f_X12_dayGoes μ = sh_bind (f_X12_isAsked (zI (dPp P L)) (zI (dPq P L)) μ) (fun y12 μ10 => sh_let (sh_setI μ10 330 0 ((sh_i μ10 330 0) + 1)) (fun μ13 => some μ13)) := by
      unfold f_X12_dayGoes
      rw [rf_listMany hM]
      show sh_bind (some (zI ((sp_li P).length : Int), μ)) _ = _
      have e0' : sh_i μ 330 (Int32.toNatClampNeg 0) = zI (sl_d L) := e0
      rw [shb_ap, e0']
      simp (disch := omega) only [↓reduceIte, ↓shl_ap, shb_ap, shv_ap, zI_lit, zL_lit, nI_z, lN_z, ofN_z, zI_add, zI_sub, zI_mul, zI_neg, zL_add, zL_sub, zL_mul, zL_neg, zI_l, zI_cl, zI_le_t, zI_le_f, zI_lt_t, zI_lt_f, zI_eq_t, zI_eq_f, zI_in_t, zz_isIn_t, zz_isIn_f, not_true_eq_false, not_false_eq_true, true_or, or_true, false_or, or_false, true_and, and_true, false_and, and_false, Nat.reduceLeDiff, Int.reduceAdd, Int.reduceSub, Int.reduceMul, Int.reduceNeg, Int.reduceToNat, Nat.reduceAdd, Nat.reduceMul, Nat.reduceSub, Int.toNat_natCast, zI_div, zI_mod, zN_le_t, zN_le_f]
      rw [hx7, show ((24 + 2 * (sl_d L % (sp_li P).length) : Nat) : Int).toNat = 24 + 2 * (sl_d L % (sp_li P).length) by omega, show (((24 + 2 * (sl_d L % (sp_li P).length) : Nat) : Int) + 1).toNat = 25 + 2 * (sl_d L % (sp_li P).length) by omega, w1, w2]
    by_cases c2 : s / 2 ^ dPp P L % 2 = 1
    · rw [if_pos c2, if_pos c2, if_pos c2]
      rw [c2] at hbit
      have hmm : sm_mL (sh_i (sh_setI μ 291 59 (zI 0)) 330) 0 P L := by rw [ir_set_r (by omega)]; exact hm
      have hKm : mkp (sh_setI μ 291 59 (zI 0)) K := ⟨hK.1, by rw [ir_set_r (by omega)]; exact hK.2.1, fun j hj => by rw [ir_set_r (by omega)]; exact hK.2.2 j hj⟩
      refine ⟨sh_setI (sh_setI μ 291 59 (zI 0)) 330 0 (sh_i (sh_setI μ 291 59 (zI 0)) 330 0 + 1), ?_, mL_day hmm, by rw [ir_set_r (by omega), ir_set_k (by omega)]; exact (Int32.add_zero _).symm, sh_fr_I (sh_fr_I sh_fr.rf (by unfold rN5; omega)) (by unfold rN5; omega), fun _ => kp0 _ _ _ hKm, fun _ k hk => by rw [ir_set_k (by omega), ir_set_r (by omega)]⟩
      have e60' : sh_i (sh_setI μ 291 59 (zI 0)) 291 60 = zI s := by rw [ir_set_k (by omega), e60]
      rw [hun, isAsked_TL, shl_ap, show (0 : Int32) = zI 0 from rfl, e60', show (31 : Int32) = zI 31 from rfl, zI_and31 (by omega), show (1 : Int32) = zI 1 from rfl, hbit, if_pos (show zI ((1 : Nat) : Int) = zI 1 from rfl)]
      rfl
    · rw [if_neg c2, if_neg c2, if_neg c2]
      obtain ⟨m, k1, k2, k3, k4, k5, k6, k7⟩ := rf_askK hM hm hk hl (by omega) y1 y2 hs e60 (by omega) hK
      have hday := mL_day k2
      rw [aL_d] at hday
      refine ⟨sh_setI m 330 0 (sh_i m 330 0 + 1), ?_, hday, by rw [ir_set_r (by omega)]; exact k4, sh_fr_I k5 (by unfold rN5; omega), fun z => kp0 _ _ _ (k6 z), fun z k hk => by rw [ir_set_k (by omega)]; exact k7 z k hk⟩
      rw [hun, k1]
      rfl
def rN6 (r k : Nat) : Prop := rN5 r k ∨ r = 331 ∨ (r = 291 ∧ (k = 57 ∨ k = 60))
/-- thought: what there was lies aside -/
def thk (μ0 μ : sh_Mem) : Prop := sh_fr rN6 μ0 μ ∧ (∀ k, 71 ≤ k → sh_i μ 330 k = sh_i μ0 330 k) ∧ (∀ k, k < 71 → sh_i μ 331 k = sh_i μ0 330 k) ∧ sh_i μ 291 57 = zI 1
theorem thk.st {μ0 μ μ' : sh_Mem} (h : thk μ0 μ) (hf : sh_fr rN5 μ μ') (hk : ∀ k, 71 ≤ k → sh_i μ' 330 k = sh_i μ 330 k) : thk μ0 μ' := by
  obtain ⟨a, b, c, d⟩ := h
  exact ⟨a.trans (hf.mono (fun r k z => Or.inl z)), fun k z => (hk k z).trans (b k z), fun k z => (hf.i _ _ (by unfold rN5; omega)).trans (c k z), (hf.i _ _ (by unfold rN5; omega)).trans d⟩
theorem thk.n0 {μ0 μ : sh_Mem} (h : thk μ0 μ) : ¬ sh_i μ 291 57 = 0 := by
  rw [h.2.2.2]
  decide
theorem rf_aside1 : ∀ (g f i : Nat) (μ : sh_Mem), i + g = 71 → g < f → ∃ μ', F_X12_putsAside f 1 (zI i) μ = some μ' ∧ sh_fr (fun r k => r = 331 ∧ i ≤ k) μ μ' ∧ ∀ k, i ≤ k → k < 71 → sh_i μ' 331 k = sh_i μ 330 k := by
  intro g
  induction g with
  | zero =>
    intro f i μ hi hf
    obtain ⟨f, rfl⟩ : ∃ q, f = q + 1 := ⟨f - 1, by omega⟩
    refine ⟨μ, ?_, sh_fr.rf, fun k h1 h2 => by omega⟩
    rw [F_X12_putsAside]
    simp (disch := omega) only [↓reduceIte, ↓shl_ap, shb_ap, shv_ap, zI_lit, zL_lit, nI_z, lN_z, ofN_z, zI_add, zI_sub, zI_mul, zI_neg, zL_add, zL_sub, zL_mul, zL_neg, zI_l, zI_cl, zI_le_t, zI_le_f, zI_lt_t, zI_lt_f, zI_eq_t, zI_eq_f, zI_in_t, zz_isIn_t, zz_isIn_f, not_true_eq_false, not_false_eq_true, true_or, or_true, false_or, or_false, true_and, and_true, false_and, and_false, Nat.reduceLeDiff, Int.reduceAdd, Int.reduceSub, Int.reduceMul, Int.reduceNeg, Int.reduceToNat, Nat.reduceAdd, Nat.reduceMul, Nat.reduceSub, Int.toNat_natCast, zN_le_t, zN_le_f]
  | succ g ih =>
    intro f i μ hi hf
    obtain ⟨f, rfl⟩ : ∃ q, f = q + 1 := ⟨f - 1, by omega⟩
    obtain ⟨μ', a, b, c⟩ := ih f (i + 1) (sh_setI μ 331 i (sh_i μ 330 i)) (by omega) (by omega)
    refine ⟨μ', ?_, (sh_fr_I sh_fr.rf (by omega)).trans (b.mono (fun r k q => by omega)), fun k h1 h2 => ?_⟩
    · rw [← a, F_X12_putsAside]
      simp (disch := omega) only [↓reduceIte, ↓shl_ap, shb_ap, shv_ap, zI_lit, zL_lit, nI_z, lN_z, ofN_z, zI_add, zI_sub, zI_mul, zI_neg, zL_add, zL_sub, zL_mul, zL_neg, zI_l, zI_cl, zI_le_t, zI_le_f, zI_lt_t, zI_lt_f, zI_eq_t, zI_eq_f, zI_in_t, zz_isIn_t, zz_isIn_f, not_true_eq_false, not_false_eq_true, true_or, or_true, false_or, or_false, true_and, and_true, false_and, and_false, Nat.reduceLeDiff, Int.reduceAdd, Int.reduceSub, Int.reduceMul, Int.reduceNeg, Int.reduceToNat, Nat.reduceAdd, Nat.reduceMul, Nat.reduceSub, Int.toNat_natCast, zN_le_t, zN_le_f]
      rfl
    · by_cases z : k = i
      · subst z
        rw [b.i _ _ (by omega), ir_set]
      · rw [c k (by omega) h2, ir_set_r (by omega)]
theorem rf_aside : ∃ μ', f_X12_putsAside μ = some μ' ∧ thk μ μ' ∧ sh_i μ' 330 = sh_i μ 330 ∧ sh_i μ' 291 60 = sh_i μ 291 60 ∧ sh_fr (fun r k => r = 331 ∨ (r = 291 ∧ k = 57)) μ μ' := by
  obtain ⟨μ', a, b, c⟩ := rf_aside1 71 sh_fuel 0 (sh_setI μ 291 57 (zI 1)) (by omega) (by rw [sh_fuel_eq]; omega)
  have hf : sh_fr (fun r k => r = 331 ∨ (r = 291 ∧ k = 57)) μ μ' := (sh_fr_I sh_fr.rf (by omega)).trans (b.mono (fun r k z => by omega))
  refine ⟨μ', a, ⟨hf.mono (fun r k z => by unfold rN6; omega), fun k _ => hf.i _ _ (by omega), fun k z => ?_, ?_⟩, hf.row _ (fun k => by omega), hf.i _ _ (by omega), hf⟩
  · rw [c k (by omega) z, ir_set_r (by omega)]
  · rw [b.i _ _ (by omega), ir_set]
theorem rf_anew1 : ∀ (g f i : Nat) (μ : sh_Mem), i + g = 71 → g < f → ∃ μ', F_X12_triesAnew f 1 (zI i) μ = some μ' ∧ sh_fr (fun r k => r = 330 ∧ i ≤ k ∧ k < 71) μ μ' ∧ ∀ k, i ≤ k → k < 71 → sh_i μ' 330 k = sh_i μ 331 k := by
  intro g
  induction g with
  | zero =>
    intro f i μ hi hf
    obtain ⟨f, rfl⟩ : ∃ q, f = q + 1 := ⟨f - 1, by omega⟩
    refine ⟨μ, ?_, sh_fr.rf, fun k h1 h2 => by omega⟩
    rw [F_X12_triesAnew]
    simp (disch := omega) only [↓reduceIte, ↓shl_ap, shb_ap, shv_ap, zI_lit, zL_lit, nI_z, lN_z, ofN_z, zI_add, zI_sub, zI_mul, zI_neg, zL_add, zL_sub, zL_mul, zL_neg, zI_l, zI_cl, zI_le_t, zI_le_f, zI_lt_t, zI_lt_f, zI_eq_t, zI_eq_f, zI_in_t, zz_isIn_t, zz_isIn_f, not_true_eq_false, not_false_eq_true, true_or, or_true, false_or, or_false, true_and, and_true, false_and, and_false, Nat.reduceLeDiff, Int.reduceAdd, Int.reduceSub, Int.reduceMul, Int.reduceNeg, Int.reduceToNat, Nat.reduceAdd, Nat.reduceMul, Nat.reduceSub, Int.toNat_natCast, zN_le_t, zN_le_f]
  | succ g ih =>
    intro f i μ hi hf
    obtain ⟨f, rfl⟩ : ∃ q, f = q + 1 := ⟨f - 1, by omega⟩
    obtain ⟨μ', a, b, c⟩ := ih f (i + 1) (sh_setI μ 330 i (sh_i μ 331 i)) (by omega) (by omega)
    refine ⟨μ', ?_, (sh_fr_I sh_fr.rf (by omega)).trans (b.mono (fun r k q => by omega)), fun k h1 h2 => ?_⟩
    · rw [← a, F_X12_triesAnew]
      simp (disch := omega) only [↓reduceIte, ↓shl_ap, shb_ap, shv_ap, zI_lit, zL_lit, nI_z, lN_z, ofN_z, zI_add, zI_sub, zI_mul, zI_neg, zL_add, zL_sub, zL_mul, zL_neg, zI_l, zI_cl, zI_le_t, zI_le_f, zI_lt_t, zI_lt_f, zI_eq_t, zI_eq_f, zI_in_t, zz_isIn_t, zz_isIn_f, not_true_eq_false, not_false_eq_true, true_or, or_true, false_or, or_false, true_and, and_true, false_and, and_false, Nat.reduceLeDiff, Int.reduceAdd, Int.reduceSub, Int.reduceMul, Int.reduceNeg, Int.reduceToNat, Nat.reduceAdd, Nat.reduceMul, Nat.reduceSub, Int.toNat_natCast, zN_le_t, zN_le_f]
      rfl
    · by_cases z : k = i
      · subst z
        rw [b.i _ _ (by omega), ir_set]
      · rw [c k (by omega) h2, ir_set_r (by omega)]
theorem rf_anew {μ0 : sh_Mem} (h : thk μ0 μ) : ∃ μ', f_X12_triesAnew μ = some μ' ∧ thk μ0 μ' ∧ sh_i μ' 330 = sh_i μ0 330 ∧ sh_fr (fun r _ => r = 330) μ μ' := by
  obtain ⟨μ', a, b, c⟩ := rf_anew1 71 sh_fuel 0 μ (by omega) (by rw [sh_fuel_eq]; omega)
  obtain ⟨h1, h2, h3, h4⟩ := h
  refine ⟨μ', a, ⟨h1.trans (b.mono (fun r k z => by unfold rN6 rN5; omega)), fun k z => (b.i _ _ (by omega)).trans (h2 k z), fun k z => (b.i _ _ (by omega)).trans (h3 k z), (b.i _ _ (by omega)).trans h4⟩, funext fun k => ?_, b.mono (fun r k z => z.1)⟩
  by_cases z : k < 71
  · rw [c k (by omega) z, h3 k z]
  · rw [b.i _ _ (by omega), h2 k (by omega)]
theorem rf_back {μ0 : sh_Mem} (h : thk μ0 μ) : ∃ μ', f_X12_takesBack μ = some μ' ∧ sh_i μ' 330 = sh_i μ0 330 ∧ sh_i μ' 291 57 = 0 ∧ sh_i μ' 291 60 = 0 ∧ sh_fr rN6 μ0 μ' ∧ sh_fr (fun r k => r = 330 ∨ (r = 291 ∧ (k = 57 ∨ k = 60))) μ μ' := by
  obtain ⟨m1, a1, a2, a3, a4⟩ := rf_anew h
  refine ⟨sh_setI (sh_setI m1 291 60 0) 291 57 0, ?_, by rw [ir_set_r (by omega), ir_set_r (by omega)]; exact a3, ir_set, by rw [ir_set_k (by omega), ir_set], sh_fr_I (sh_fr_I a2.1 (by unfold rN6; omega)) (by unfold rN6; omega), sh_fr_I (sh_fr_I (a4.mono (fun r k z => by omega)) (by omega)) (by omega)⟩
  unfold f_X12_takesBack
  rw [a1]
  rfl
theorem rN5_mP {μ' : sh_Mem} (hf : sh_fr rN5 μ μ') (hM : sm_mP μ P) : sm_mP μ' P := hM.f3 (fun r k z => hf.i r k (fun w => by unfold rN5 at w; omega)) (hf.lrow _ (fun k w => by unfold rN5 at w; omega))
theorem rf_daysT {μ0 : sh_Mem} {s n : Nat} (hk : sp_ok P) (hs : s < 128) (hn : n ≤ 1000) : ∀ (g f i : Nat) (L : sl_T) (μ : sh_Mem), i + g = n → g < f → thk μ0 μ → sm_mP μ P → sm_mL (sh_i μ 330) 0 P L → sl_in P L → sl_d L + g ≤ 99999 → sh_i μ 291 60 = zI s → mkp μ K → ∃ μ', F_X12_daysGo f 1 (zI n) (zI i) μ = some μ' ∧ sm_mL (sh_i μ' 330) 0 P (dN P s g L) ∧ thk μ0 μ' ∧ sh_i μ' 291 60 = zI s ∧ sm_mP μ' P ∧ mkp μ' K ∧ sh_fr rN5 μ μ' := by
  intro g
  induction g with
  | zero =>
    intro f i L μ hi hf hT hM hm hl hd e60 hK
    obtain ⟨f, rfl⟩ : ∃ q, f = q + 1 := ⟨f - 1, by omega⟩
    refine ⟨μ, ?_, hm, hT, e60, hM, hK, sh_fr.rf⟩
    rw [F_X12_daysGo]
    simp (disch := omega) only [↓reduceIte, ↓shl_ap, shb_ap, shv_ap, zI_lit, zL_lit, nI_z, lN_z, ofN_z, zI_add, zI_sub, zI_mul, zI_neg, zL_add, zL_sub, zL_mul, zL_neg, zI_l, zI_cl, zI_le_t, zI_le_f, zI_lt_t, zI_lt_f, zI_eq_t, zI_eq_f, zI_in_t, zz_isIn_t, zz_isIn_f, not_true_eq_false, not_false_eq_true, true_or, or_true, false_or, or_false, true_and, and_true, false_and, and_false, Nat.reduceLeDiff, Int.reduceAdd, Int.reduceSub, Int.reduceMul, Int.reduceNeg, Int.reduceToNat, Nat.reduceAdd, Nat.reduceMul, Nat.reduceSub, Int.toNat_natCast, zN_le_t, zN_le_f]
  | succ g ih =>
    intro f i L μ hi hf hT hM hm hl hd e60 hK
    obtain ⟨f, rfl⟩ : ∃ q, f = q + 1 := ⟨f - 1, by omega⟩
    obtain ⟨m, a1, a2, a3, a4, a5, a6⟩ := rf_day hM hm hk hl (by omega) hs e60 hK
    have a6 := a6 hT.n0
    have hKm : mkp m K := ⟨hK.1, by rw [a6 _ (by omega)]; exact hK.2.1, fun j hj => by rw [a6 _ (by omega)]; exact hK.2.2 j hj⟩
    obtain ⟨μ', b1, b2, b3, b4, b5, b6, b7⟩ := ih f (i + 1) (dP P s L) m (by omega) (by omega) (hT.st a4 a6) (rN5_mP a4 hM) a2 (dP_in hl) (by rw [dP_d]; omega) (by rw [a4.i _ _ (by unfold rN5; omega)]; exact e60) hKm
    refine ⟨μ', ?_, b2, b3, b4, b5, b6, a4.trans b7⟩
    rw [← b1, F_X12_daysGo]
    simp (disch := omega) only [↓reduceIte, ↓shl_ap, shb_ap, shv_ap, zI_lit, zL_lit, nI_z, lN_z, ofN_z, zI_add, zI_sub, zI_mul, zI_neg, zL_add, zL_sub, zL_mul, zL_neg, zI_l, zI_cl, zI_le_t, zI_le_f, zI_lt_t, zI_lt_f, zI_eq_t, zI_eq_f, zI_in_t, zz_isIn_t, zz_isIn_f, not_true_eq_false, not_false_eq_true, true_or, or_true, false_or, or_false, true_and, and_true, false_and, and_false, Nat.reduceLeDiff, Int.reduceAdd, Int.reduceSub, Int.reduceMul, Int.reduceNeg, Int.reduceToNat, Nat.reduceAdd, Nat.reduceMul, Nat.reduceSub, Int.toNat_natCast, a1, zN_le_t, zN_le_f]
    rfl
theorem rf_daysK {n : Nat} (hk : sp_ok P) (hn : n ≤ 1000) : ∀ (g f i : Nat) (L : sl_T) (K : kS) (μ : sh_Mem), i + g = n → g < f → sh_i μ 291 57 = 0 → sm_mP μ P → sm_mL (sh_i μ 330) 0 P L → sl_in P L → sl_d L + g ≤ 99999 → sh_i μ 291 60 = 0 → mkp μ K → ∃ μ', F_X12_daysGo f 1 (zI n) (zI i) μ = some μ' ∧ sm_mL (sh_i μ' 330) 0 P (dN P 0 g L) ∧ mkp μ' (dNK P 0 g L K) ∧ sh_i μ' 291 58 = sh_i μ 291 58 + zI (dNW P 0 g L) ∧ sh_fr rN5 μ μ' := by
  intro g
  induction g with
  | zero =>
    intro f i L K μ hi hf e57 hM hm hl hd e60 hK
    obtain ⟨f, rfl⟩ : ∃ q, f = q + 1 := ⟨f - 1, by omega⟩
    refine ⟨μ, ?_, hm, hK, (Int32.add_zero _).symm, sh_fr.rf⟩
    rw [F_X12_daysGo]
    simp (disch := omega) only [↓reduceIte, ↓shl_ap, shb_ap, shv_ap, zI_lit, zL_lit, nI_z, lN_z, ofN_z, zI_add, zI_sub, zI_mul, zI_neg, zL_add, zL_sub, zL_mul, zL_neg, zI_l, zI_cl, zI_le_t, zI_le_f, zI_lt_t, zI_lt_f, zI_eq_t, zI_eq_f, zI_in_t, zz_isIn_t, zz_isIn_f, not_true_eq_false, not_false_eq_true, true_or, or_true, false_or, or_false, true_and, and_true, false_and, and_false, Nat.reduceLeDiff, Int.reduceAdd, Int.reduceSub, Int.reduceMul, Int.reduceNeg, Int.reduceToNat, Nat.reduceAdd, Nat.reduceMul, Nat.reduceSub, Int.toNat_natCast, zN_le_t, zN_le_f]
  | succ g ih =>
    intro f i L K μ hi hf e57 hM hm hl hd e60 hK
    obtain ⟨f, rfl⟩ : ∃ q, f = q + 1 := ⟨f - 1, by omega⟩
    obtain ⟨m, a1, a2, a3, a4, a5, a6⟩ := rf_day (s := 0) hM hm hk hl (by omega) (by omega) e60 hK
    obtain ⟨μ', b1, b2, b3, b4, b5⟩ := ih f (i + 1) (dP P 0 L) (dK P 0 L K) m (by omega) (by omega) (by rw [a4.i _ _ (by unfold rN5; omega)]; exact e57) (rN5_mP a4 hM) a2 (dP_in hl) (by rw [dP_d]; omega) (by rw [a4.i _ _ (by unfold rN5; omega)]; exact e60) (a5 e57)
    refine ⟨μ', ?_, b2, b3, ?_, a4.trans b5⟩
    · rw [← b1, F_X12_daysGo]
      simp (disch := omega) only [↓reduceIte, ↓shl_ap, shb_ap, shv_ap, zI_lit, zL_lit, nI_z, lN_z, ofN_z, zI_add, zI_sub, zI_mul, zI_neg, zL_add, zL_sub, zL_mul, zL_neg, zI_l, zI_cl, zI_le_t, zI_le_f, zI_lt_t, zI_lt_f, zI_eq_t, zI_eq_f, zI_in_t, zz_isIn_t, zz_isIn_f, not_true_eq_false, not_false_eq_true, true_or, or_true, false_or, or_false, true_and, and_true, false_and, and_false, Nat.reduceLeDiff, Int.reduceAdd, Int.reduceSub, Int.reduceMul, Int.reduceNeg, Int.reduceToNat, Nat.reduceAdd, Nat.reduceMul, Nat.reduceSub, Int.toNat_natCast, a1, zN_le_t, zN_le_f]
      rfl
    · rw [b4, a3, dNW, Int32.add_assoc, zI_add]
      push_cast
      rfl
end Rz
