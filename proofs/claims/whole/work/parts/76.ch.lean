/-! chance -/
def zs (z : Nat) : Nat := (1103515245 * z + 12345) % 2147483648
theorem zs_lt (z : Nat) : zs z < 2147483648 := Nat.mod_lt _ (by omega)
theorem zL_bv (v : Nat) : (zL v).toBitVec = BitVec.ofNat 64 v := by
  show BitVec.ofInt 64 (v : Int) = _
  exact BitVec.ofInt_natCast ..
theorem zL_and31 {v : Nat} (hv : v < 9223372036854775808) : zL v &&& zL 2147483647 = zL ((v % 2147483648 : Nat) : Int) := by
  have e : zL 2147483647 = zL ((2147483647 : Nat) : Int) := rfl
  rw [e]
  apply Int64.toBitVec_inj.mp
  rw [Int64.toBitVec_and, zL_bv, zL_bv, zL_bv]
  apply BitVec.eq_of_toNat_eq
  rw [BitVec.toNat_and, BitVec.toNat_ofNat, BitVec.toNat_ofNat, BitVec.toNat_ofNat, Nat.mod_eq_of_lt (show v < 2 ^ 64 by omega), Nat.mod_eq_of_lt (show 2147483647 < 2 ^ 64 by omega), Nat.mod_eq_of_lt (show v % 2147483648 < 2 ^ 64 by omega)]
  exact Nat.and_two_pow_sub_one_eq_mod v 31
theorem zL_dN {a b : Nat} (h : a < 9223372036854775808 ∧ b < 9223372036854775808) : zL a / zL b = zL ((a / b : Nat) : Int) := by
  rw [zL_div (by omega), Int.tdiv_eq_ediv_of_nonneg (by omega)]
  rfl
theorem zL_i (a : Int) : (zL a).toInt32 = zI a := Int64.toInt32_ofInt
theorem dr_val {v m : Nat} (hv : v < 2147483648) (hm : m < 1000) : (zL v / zL (64 : Nat) - zL v / zL (64 : Nat) / zL m * zL m).toInt32 = zI ((v / 64 % m : Nat) : Int) := by
  rw [zL_dN (by omega), zL_dN (by omega), zL_mul, zL_sub, zL_i]
  congr 1
  have := Nat.div_add_mod (v / 64) m
  have h2 : (v / 64 / m : Nat) * (m : Int) = ((m * (v / 64 / m) : Nat) : Int) := by push_cast; rw [Int.mul_comm]
  rw [h2]
  omega
theorem zs_c {z : Nat} (hz : z < 2147483648) : ((1103515245 : Int64) * zL z + 12345) &&& 2147483647 = zL (zs z) := by
  rw [show (1103515245 : Int64) = zL 1103515245 from rfl, show (12345 : Int64) = zL 12345 from rfl, show (2147483647 : Int64) = zL 2147483647 from rfl, zL_mul, zL_add, show (1103515245 * (z : Int) + 12345) = ((1103515245 * z + 12345 : Nat) : Int) by omega, zL_and31 (by omega)]
  rfl
theorem zs_m {z : Nat} (hz : z < 2147483648) : ((1103515245 : Int64) * zL z + 12345) - ((1103515245 : Int64) * zL z + 12345) / 2147483648 * 2147483648 = zL (zs z) := by
  rw [show (1103515245 : Int64) = zL 1103515245 from rfl, show (12345 : Int64) = zL 12345 from rfl, show (2147483648 : Int64) = zL (2147483648 : Nat) from rfl, zL_mul, zL_add, show (1103515245 * (z : Int) + 12345) = ((1103515245 * z + 12345 : Nat) : Int) by omega, zL_dN (by omega), zL_mul, zL_sub]
  congr 1
  unfold zs
  omega
theorem cl_draw {μ : sh_Mem} {z m : Nat} (hz : z < 2147483648) (e : sh_l μ 0 16 = zL z) (hm : 0 < m ∧ m < 1000) : f_X11_draw (zI m) μ = some (zI ((zs z / 64 % m : Nat) : Int), sh_setL μ 0 16 (zL (zs z))) := by
  unfold f_X11_draw
  rw [e, zs_c hz, shl_ap, lr_set, zI_l (by omega) (by omega), if_neg, if_pos]
  · exact congrArg (fun v => some (v, _)) (dr_val (zs_lt z) hm.2)
  · intro q
    have := (zL_eq (a := (m : Int)) (b := 0) (by omega)).mp q
    omega
  · intro q
    have := (zI_le (a := (m : Int)) (b := 0) (by omega) (by omega) (by omega) (by omega)).mp q
    omega
theorem rf_draw {μ : sh_Mem} {z m : Nat} (hz : z < 2147483648) (e : sh_l μ 291 78 = zL z) (hm : 0 < m ∧ m < 1000) : f_X12_drawOf (zI m) μ = some (zI ((zs z / 64 % m : Nat) : Int), sh_setL μ 291 78 (zL (zs z))) := by
  unfold f_X12_drawOf
  rw [e, zs_m hz, shl_ap, lr_set, zI_l (by omega) (by omega), if_pos]
  · exact congrArg (fun v => some (v, _)) (dr_val (zs_lt z) hm.2)
  · intro q
    have := (zL_eq (a := (m : Int)) (b := 0) (by omega)).mp q
    omega
def crp (P : sp_T) (z : Nat) : Nat := zs (zs z) / 64 % sp_np P
def crq (P : sp_T) (z : Nat) : Nat := zs (zs (zs z)) / 64 % sp_nt P
def crL (P : sp_T) (z : Nat) (L : sl_T) : sl_T := if zs z / 64 % 100 < sp_cr P ∧ 0 < sp_np P ∧ 0 < sp_nt P then aL P L (crp P z) (crq P z) else L
def crK (P : sp_T) (z : Nat) (L : sl_T) (K : kS) : kS := if zs z / 64 % 100 < sp_cr P ∧ 0 < sp_np P ∧ 0 < sp_nt P then aK P L K (crp P z) (crq P z) else K
def crW (P : sp_T) (z : Nat) (L : sl_T) : Nat := if zs z / 64 % 100 < sp_cr P ∧ 0 < sp_np P ∧ 0 < sp_nt P then (if wd P L (crp P z) (crq P z) = 2 then 1 else 0) else 0
def crZ (P : sp_T) (z : Nat) : Nat := if zs z / 64 % 100 < sp_cr P ∧ 0 < sp_np P ∧ 0 < sp_nt P then zs (zs (zs z)) else zs z
theorem crZ_lt {P : sp_T} {z : Nat} : crZ P z < 2147483648 := by
  unfold crZ
  split
  · exact zs_lt _
  · exact zs_lt _
theorem crW_le {P : sp_T} {z : Nat} {L : sl_T} : crW P z L ≤ 1 := by
  unfold crW
  split
  · split <;> omega
  · omega
theorem crL_in {P : sp_T} {z : Nat} {L : sl_T} (h : sl_in P L) : sl_in P (crL P z L) := by
  unfold crL
  split
  · exact aL_in h
  · exact h
theorem crL_d {P : sp_T} {z : Nat} {L : sl_T} : sl_d (crL P z L) = sl_d L := by
  unfold crL
  split
  · exact aL_d
  · rfl
def chL (P : sp_T) : Nat → Nat → sl_T → sl_T
  | 0, _, L => L
  | n + 1, z, L => chL P n (crZ P z) (dP P 0 (crL P z L))
def chK (P : sp_T) : Nat → Nat → sl_T → kS → kS
  | 0, _, _, K => K
  | n + 1, z, L, K => chK P n (crZ P z) (dP P 0 (crL P z L)) (dK P 0 (crL P z L) (crK P z L K))
def chW (P : sp_T) : Nat → Nat → sl_T → Nat
  | 0, _, _ => 0
  | n + 1, z, L => crW P z L + chW P n (crZ P z) (dP P 0 (crL P z L))
def chZ (P : sp_T) : Nat → Nat → Nat
  | 0, z => z
  | n + 1, z => chZ P n (crZ P z)
theorem chZ_lt {P : sp_T} : ∀ (n z : Nat), z < 2147483648 → chZ P n z < 2147483648
  | 0, _, h => h
  | n + 1, z, _ => chZ_lt n _ crZ_lt
theorem chL_in {P : sp_T} : ∀ (n z : Nat) (L : sl_T), sl_in P L → sl_in P (chL P n z L)
  | 0, _, _, h => h
  | n + 1, z, _, h => chL_in n _ _ (dP_in (crL_in h))
theorem chL_d {P : sp_T} : ∀ (n z : Nat) (L : sl_T), sl_d (chL P n z L) = sl_d L + n
  | 0, _, _ => rfl
  | n + 1, z, L => by rw [chL, chL_d n, dP_d, crL_d]; omega
section Chs
variable {μ : sh_Mem} {t z : Nat} {P : sp_T} {L : sl_T} {K : kS}
def nE (t a k : Nat) : Prop := nC t a k ∨ (a = 0 ∧ k = 16)
theorem nE_cw {μ' : sh_Mem} (hf : sh_fr (nE t) μ μ') (hw : cw μ t P) : cw μ' t P := by
  have ht := sh_isP_r hw.2.1
  exact hw.cg hf.1 (fun j h1 h2 h3 => hf.row _ (fun k z => by unfold nE nC at z; omega))
theorem cl_crowd (hr : sh_r μ 0 7 = some t) (hw : cw μ t P) (hc : sm_cL μ 49 P L) (hl : sl_in P L) (hd : sl_d L ≤ 99999) (hK : ckp μ K) (hz : z < 2147483648) (e : sh_l μ 0 16 = zL z) : ∃ μ', f_X11_crowdNow μ = some (zI (crW P z L), μ') ∧ sm_cL μ' 49 P (crL P z L) ∧ ckp μ' (crK P z L K) ∧ sh_l μ' 0 16 = zL (crZ P z) ∧ sh_fr (nE t) μ μ' := by
  obtain ⟨h1, h2, h3, hk⟩ := id hw
  have ht := sh_isP_r h2
  have hb := sp_bd hk
  obtain ⟨-, -, p3, p4, p5, p6, -⟩ := id h3
  rw [nI_z] at p3 p4 p6
  obtain ⟨m1, hm1⟩ : ∃ m, m = sh_setL μ 0 16 (zL (zs z)) := ⟨_, rfl⟩
  have i1 : sh_i m1 = sh_i μ := by rw [hm1]; rfl
  have r1 : sh_r m1 = sh_r μ := by rw [hm1]; rfl
  have d1 : f_X11_draw (zI 100) μ = some (zI ((zs z / 64 % 100 : Nat) : Int), m1) := by rw [hm1]; exact cl_draw (m := 100) hz e (by omega)
  have hz1 := zs_lt z
  have f1 : sh_fr (nE t) μ m1 := by rw [hm1]; exact sh_fr_L sh_fr.rf (by unfold nE; omega)
  have hr1 : sh_r m1 0 7 = some t := by rw [r1]; exact hr
  have q3 : sh_i m1 t 2 = zI (sp_nt P) := by rw [i1]; exact p3
  have q4 : sh_i m1 t 3 = zI (sp_np P) := by rw [i1]; exact p4
  have q6 : sh_i m1 t 5 = zI (sp_cr P) := by rw [i1]; exact p6
  have hmod : zs z / 64 % 100 < 100 := Nat.mod_lt _ (by omega)
  have skip : ¬ (zs z / 64 % 100 < sp_cr P ∧ 0 < sp_np P ∧ 0 < sp_nt P) → f_X11_crowdNow μ = some (zI 0, m1) → ∃ μ', f_X11_crowdNow μ = some (zI (crW P z L), μ') ∧ sm_cL μ' 49 P (crL P z L) ∧ ckp μ' (crK P z L K) ∧ sh_l μ' 0 16 = zL (crZ P z) ∧ sh_fr (nE t) μ μ' := by
    intro c he
    unfold crW crL crK crZ
    rw [if_neg c, if_neg c, if_neg c, if_neg c]
    exact ⟨m1, he, hc.cg (fun j _ => by rw [i1]), hK.cg (by rw [i1]) (by rw [i1]), by rw [hm1, lr_set], f1⟩
  by_cases c1 : zs z / 64 % 100 < sp_cr P
  · by_cases c2 : 0 < sp_np P
    · by_cases c3 : 0 < sp_nt P
      · have c : zs z / 64 % 100 < sp_cr P ∧ 0 < sp_np P ∧ 0 < sp_nt P := ⟨c1, c2, c3⟩
        unfold crW crL crK crZ
        rw [if_pos c, if_pos c, if_pos c, if_pos c]
        obtain ⟨m2, hm2⟩ : ∃ m, m = sh_setL m1 0 16 (zL (zs (zs z))) := ⟨_, rfl⟩
        have d2 : f_X11_draw (zI (sp_np P)) m1 = some (zI (crp P z : Nat), m2) := by rw [hm2]; exact cl_draw hz1 (by rw [hm1, lr_set]) (by omega)
        obtain ⟨m3, hm3⟩ : ∃ m, m = sh_setL m2 0 16 (zL (zs (zs (zs z)))) := ⟨_, rfl⟩
        have d3 : f_X11_draw (zI (sp_nt P)) m2 = some (zI (crq P z : Nat), m3) := by rw [hm3]; exact cl_draw (zs_lt _) (by rw [hm2, lr_set]) (by omega)
        have i2 : sh_i m2 = sh_i μ := by rw [hm2]; exact i1
        have i3 : sh_i m3 = sh_i μ := by rw [hm3]; exact i2
        have r2 : sh_r m2 = sh_r μ := by rw [hm2]; exact r1
        have r3 : sh_r m3 = sh_r μ := by rw [hm3]; exact r2
        have hr2 : sh_r m2 0 7 = some t := by rw [r2]; exact hr
        have q3' : sh_i m2 t 2 = zI (sp_nt P) := by rw [i2]; exact p3
        have hp : crp P z < sp_np P := Nat.mod_lt _ c2
        have hq : crq P z < sp_nt P := Nat.mod_lt _ c3
        have f3 : sh_fr (nE t) μ m3 := by rw [hm3, hm2]; exact sh_fr_L (sh_fr_L f1 (by unfold nE; omega)) (by unfold nE; omega)
        obtain ⟨μ', a1, a2, a3, a4⟩ := cl_askNow (μ := m3) (p := crp P z) (q := crq P z) (nE_cw f3 hw) (hc.cg (fun j _ => by rw [i3])) hl (by omega) hp hq (hK.cg (by rw [i3]) (by rw [i3]))
        have hwl := wd_le (P := P) (L := L) (p := crp P z) (q := crq P z)
        refine ⟨μ', ?_, a2, a3, ?_, f3.trans (a4.mono (fun a k z => Or.inl z))⟩
        · unfold f_X11_crowdNow
          rw [show (100 : Int32) = zI 100 from rfl, d1, shb_ap]
          by_cases c4 : wd P L (crp P z) (crq P z) = 2
          · simp (disch := omega) only [↓reduceIte, ↓shl_ap, shb_ap, shv_ap, zI_lit, zL_lit, nI_z, lN_z, ofN_z, zI_add, zI_sub, zI_mul, zI_neg, zL_add, zL_sub, zL_mul, zL_neg, zI_l, zI_cl, zI_le_t, zI_le_f, zI_lt_t, zI_lt_f, zI_eq_t, zI_eq_f, zI_in_t, zz_isIn_t, zz_isIn_f, not_true_eq_false, not_false_eq_true, true_or, or_true, false_or, or_false, true_and, and_true, false_and, and_false, Nat.reduceLeDiff, Int.reduceAdd, Int.reduceSub, Int.reduceMul, Int.reduceNeg, Int.reduceToNat, Nat.reduceAdd, Nat.reduceMul, Nat.reduceSub, Int.toNat_natCast, shr_ap hr1, hr1, shr_ap hr1, shp h2, q6, q4, q3, d2, shr_ap hr2, hr2, q3', d3, a1, c4, zN_le_t, zN_le_f]
            rfl
          · simp (disch := omega) only [↓reduceIte, ↓shl_ap, shb_ap, shv_ap, zI_lit, zL_lit, nI_z, lN_z, ofN_z, zI_add, zI_sub, zI_mul, zI_neg, zL_add, zL_sub, zL_mul, zL_neg, zI_l, zI_cl, zI_le_t, zI_le_f, zI_lt_t, zI_lt_f, zI_eq_t, zI_eq_f, zI_in_t, zz_isIn_t, zz_isIn_f, not_true_eq_false, not_false_eq_true, true_or, or_true, false_or, or_false, true_and, and_true, false_and, and_false, Nat.reduceLeDiff, Int.reduceAdd, Int.reduceSub, Int.reduceMul, Int.reduceNeg, Int.reduceToNat, Nat.reduceAdd, Nat.reduceMul, Nat.reduceSub, Int.toNat_natCast, shr_ap hr1, hr1, shr_ap hr1, shp h2, q6, q4, q3, d2, shr_ap hr2, hr2, q3', d3, a1, if_neg c4, zN_le_t, zN_le_f]
            rfl
        · rw [(a4.2 0 16 (fun z => by unfold nC at z; omega)).2, hm3, lr_set]
      · refine skip (fun z => c3 z.2.2) ?_
        unfold f_X11_crowdNow
        rw [show (100 : Int32) = zI 100 from rfl, d1, shb_ap]
        simp (disch := omega) only [↓reduceIte, ↓shl_ap, shb_ap, shv_ap, zI_lit, zL_lit, nI_z, lN_z, ofN_z, zI_add, zI_sub, zI_mul, zI_neg, zL_add, zL_sub, zL_mul, zL_neg, zI_l, zI_cl, zI_le_t, zI_le_f, zI_lt_t, zI_lt_f, zI_eq_t, zI_eq_f, zI_in_t, zz_isIn_t, zz_isIn_f, not_true_eq_false, not_false_eq_true, true_or, or_true, false_or, or_false, true_and, and_true, false_and, and_false, Nat.reduceLeDiff, Int.reduceAdd, Int.reduceSub, Int.reduceMul, Int.reduceNeg, Int.reduceToNat, Nat.reduceAdd, Nat.reduceMul, Nat.reduceSub, Int.toNat_natCast, shr_ap hr1, hr1, shr_ap hr1, shp h2, q6, q4, q3, zN_le_t, zN_le_f]
    · refine skip (fun z => c2 z.2.1) ?_
      unfold f_X11_crowdNow
      rw [show (100 : Int32) = zI 100 from rfl, d1, shb_ap]
      simp (disch := omega) only [↓reduceIte, ↓shl_ap, shb_ap, shv_ap, zI_lit, zL_lit, nI_z, lN_z, ofN_z, zI_add, zI_sub, zI_mul, zI_neg, zL_add, zL_sub, zL_mul, zL_neg, zI_l, zI_cl, zI_le_t, zI_le_f, zI_lt_t, zI_lt_f, zI_eq_t, zI_eq_f, zI_in_t, zz_isIn_t, zz_isIn_f, not_true_eq_false, not_false_eq_true, true_or, or_true, false_or, or_false, true_and, and_true, false_and, and_false, Nat.reduceLeDiff, Int.reduceAdd, Int.reduceSub, Int.reduceMul, Int.reduceNeg, Int.reduceToNat, Nat.reduceAdd, Nat.reduceMul, Nat.reduceSub, Int.toNat_natCast, shr_ap hr1, hr1, shr_ap hr1, shp h2, q6, q4, q3, zN_le_t, zN_le_f]
  · refine skip (fun z => c1 z.1) ?_
    unfold f_X11_crowdNow
    rw [show (100 : Int32) = zI 100 from rfl, d1, shb_ap]
    simp (disch := omega) only [↓reduceIte, ↓shl_ap, shb_ap, shv_ap, zI_lit, zL_lit, nI_z, lN_z, ofN_z, zI_add, zI_sub, zI_mul, zI_neg, zL_add, zL_sub, zL_mul, zL_neg, zI_l, zI_cl, zI_le_t, zI_le_f, zI_lt_t, zI_lt_f, zI_eq_t, zI_eq_f, zI_in_t, zz_isIn_t, zz_isIn_f, not_true_eq_false, not_false_eq_true, true_or, or_true, false_or, or_false, true_and, and_true, false_and, and_false, Nat.reduceLeDiff, Int.reduceAdd, Int.reduceSub, Int.reduceMul, Int.reduceNeg, Int.reduceToNat, Nat.reduceAdd, Nat.reduceMul, Nat.reduceSub, Int.toNat_natCast, shr_ap hr1, hr1, shr_ap hr1, shp h2, q6, q4, q3, zN_le_t, zN_le_f]
theorem cl_chance {n : Nat} (hn : n ≤ 1000) : ∀ (g f i c z : Nat) (L : sl_T) (K : kS) (μ : sh_Mem), i + g = n → g < f → c ≤ i → sh_r μ 0 7 = some t → cw μ t P → sm_cL μ 49 P L → sl_in P L → sl_d L + g ≤ 99999 → ckp μ K → z < 2147483648 → sh_l μ 0 16 = zL z → ∃ μ', F_X11_chance f 1 (zI n) (zI c) (zI i) μ = some (zI (c + chW P g z L : Nat), μ') ∧ sm_cL μ' 49 P (chL P g z L) ∧ ckp μ' (chK P g z L K) ∧ sh_l μ' 0 16 = zL (chZ P g z) ∧ sh_fr (nE t) μ μ' := by
  intro g
  induction g with
  | zero =>
    intro f i c z L K μ hi hf hc0 hr hw hc hl hd hK hz e
    obtain ⟨f, rfl⟩ : ∃ q, f = q + 1 := ⟨f - 1, by omega⟩
    refine ⟨μ, ?_, hc, hK, e, sh_fr.rf⟩
    rw [F_X11_chance]
    simp (disch := omega) only [↓reduceIte, ↓shl_ap, shb_ap, shv_ap, zI_lit, zL_lit, nI_z, lN_z, ofN_z, zI_add, zI_sub, zI_mul, zI_neg, zL_add, zL_sub, zL_mul, zL_neg, zI_l, zI_cl, zI_le_t, zI_le_f, zI_lt_t, zI_lt_f, zI_eq_t, zI_eq_f, zI_in_t, zz_isIn_t, zz_isIn_f, not_true_eq_false, not_false_eq_true, true_or, or_true, false_or, or_false, true_and, and_true, false_and, and_false, Nat.reduceLeDiff, Int.reduceAdd, Int.reduceSub, Int.reduceMul, Int.reduceNeg, Int.reduceToNat, Nat.reduceAdd, Nat.reduceMul, Nat.reduceSub, Int.toNat_natCast, zN_le_t, zN_le_f]
    rfl
  | succ g ih =>
    intro f i c z L K μ hi hf hc0 hr hw hc hl hd hK hz e
    obtain ⟨f, rfl⟩ : ∃ q, f = q + 1 := ⟨f - 1, by omega⟩
    obtain ⟨m, a1, a2, a3, a4, a5⟩ := cl_crowd hr hw hc hl (by omega) hK hz e
    have hW := crW_le (P := P) (z := z) (L := L)
    have hrm : sh_r m 0 7 = some t := by rw [a5.1]; exact hr
    obtain ⟨m2, b1, b2, b3, b4⟩ := cl_dayNow hrm (nE_cw a5 hw) a2 (crL_in hl) (by rw [crL_d]; omega) a3
    have f2 : sh_fr (nE t) m m2 := b4.mono (fun a k z => Or.inl z)
    obtain ⟨μ', c1, c2, c3, c4, c5⟩ := ih f (i + 1) (c + crW P z L) (crZ P z) (dP P 0 (crL P z L)) (dK P 0 (crL P z L) (crK P z L K)) m2 (by omega) (by omega) (by omega) (by rw [f2.1]; exact hrm) (nE_cw f2 (nE_cw a5 hw)) b2 (dP_in (crL_in hl)) (by rw [dP_d, crL_d]; omega) b3 crZ_lt (by rw [(b4.2 0 16 (fun z => by unfold nC at z; omega)).2]; exact a4)
    refine ⟨μ', ?_, c2, c3, c4, a5.trans (f2.trans c5)⟩
    rw [F_X11_chance]
    simp (disch := omega) only [↓reduceIte, ↓shl_ap, shb_ap, shv_ap, zI_lit, zL_lit, nI_z, lN_z, ofN_z, zI_add, zI_sub, zI_mul, zI_neg, zL_add, zL_sub, zL_mul, zL_neg, zI_l, zI_cl, zI_le_t, zI_le_f, zI_lt_t, zI_lt_f, zI_eq_t, zI_eq_f, zI_in_t, zz_isIn_t, zz_isIn_f, not_true_eq_false, not_false_eq_true, true_or, or_true, false_or, or_false, true_and, and_true, false_and, and_false, Nat.reduceLeDiff, Int.reduceAdd, Int.reduceSub, Int.reduceMul, Int.reduceNeg, Int.reduceToNat, Nat.reduceAdd, Nat.reduceMul, Nat.reduceSub, Int.toNat_natCast, a1, b1, zN_le_t, zN_le_f]
    rw [chW, ← Nat.add_assoc, ← c1]
    rfl
def rNC (r k : Nat) : Prop := rN5 r k ∨ (r = 291 ∧ k = 78)
theorem rNC_mP {μ' : sh_Mem} (hf : sh_fr rNC μ μ') (hM : sm_mP μ P) : sm_mP μ' P := hM.f3 (fun r k z => hf.i r k (fun w => by unfold rNC rN5 at w; omega)) (hf.lrow _ (fun k w => by unfold rNC rN5 at w; omega))
theorem rf_chance {n : Nat} (hk : sp_ok P) (hn : n ≤ 1000) : ∀ (g f i c z : Nat) (L : sl_T) (K : kS) (μ : sh_Mem), i + g = n → g < f → c ≤ i → sh_i μ 291 57 = 0 → sm_mP μ P → sm_mL (sh_i μ 330) 0 P L → sl_in P L → sl_d L + g ≤ 99999 → sh_i μ 291 60 = 0 → mkp μ K → z < 2147483648 → sh_l μ 291 78 = zL z → ∃ μ', F_X12_chance f 1 (zI n) (zI c) (zI i) μ = some (zI (c + chW P g z L : Nat), μ') ∧ sm_mL (sh_i μ' 330) 0 P (chL P g z L) ∧ mkp μ' (chK P g z L K) ∧ sh_l μ' 291 78 = zL (chZ P g z) ∧ sh_fr rNC μ μ' := by
  have hb := sp_bd hk
  intro g
  induction g with
  | zero =>
    intro f i c z L K μ hi hf hc0 e57 hM hm hl hd e60 hK hz e
    obtain ⟨f, rfl⟩ : ∃ q, f = q + 1 := ⟨f - 1, by omega⟩
    refine ⟨μ, ?_, hm, hK, e, sh_fr.rf⟩
    rw [F_X12_chance]
    simp (disch := omega) only [↓reduceIte, ↓shl_ap, shb_ap, shv_ap, zI_lit, zL_lit, nI_z, lN_z, ofN_z, zI_add, zI_sub, zI_mul, zI_neg, zL_add, zL_sub, zL_mul, zL_neg, zI_l, zI_cl, zI_le_t, zI_le_f, zI_lt_t, zI_lt_f, zI_eq_t, zI_eq_f, zI_in_t, zz_isIn_t, zz_isIn_f, not_true_eq_false, not_false_eq_true, true_or, or_true, false_or, or_false, true_and, and_true, false_and, and_false, Nat.reduceLeDiff, Int.reduceAdd, Int.reduceSub, Int.reduceMul, Int.reduceNeg, Int.reduceToNat, Nat.reduceAdd, Nat.reduceMul, Nat.reduceSub, Int.toNat_natCast, zN_le_t, zN_le_f]
    rfl
  | succ g ih =>
    intro f i c z L K μ hi hf hc0 e57 hM hm hl hd e60 hK hz e
    obtain ⟨f, rfl⟩ : ∃ q, f = q + 1 := ⟨f - 1, by omega⟩
    -- the rest of the day, behind the crowd's asking
    have rest : ∀ (m : sh_Mem), sh_fr rNC μ m → sm_mL (sh_i m 330) 0 P (crL P z L) → mkp m (crK P z L K) → sh_l m 291 78 = zL (crZ P z) → (∀ m2 : sh_Mem, f_X12_dayGoes m = some m2 → F_X12_chance (f + 1) 1 (zI n) (zI c) (zI i) μ = F_X12_chance f 1 (zI n) (zI (c + crW P z L : Nat)) (zI (i + 1 : Nat)) m2) → ∃ μ', F_X12_chance (f + 1) 1 (zI n) (zI c) (zI i) μ = some (zI (c + chW P (g + 1) z L : Nat), μ') ∧ sm_mL (sh_i μ' 330) 0 P (chL P (g + 1) z L) ∧ mkp μ' (chK P (g + 1) z L K) ∧ sh_l μ' 291 78 = zL (chZ P (g + 1) z) ∧ sh_fr rNC μ μ' := by
      intro m f1 hm1 hK1 hz1 he
      have hW := crW_le (P := P) (z := z) (L := L)
      have k57 : sh_i m 291 57 = 0 := by rw [f1.i _ _ (fun w => by unfold rNC rN5 at w; omega)]; exact e57
      have k60 : sh_i m 291 60 = 0 := by rw [f1.i _ _ (fun w => by unfold rNC rN5 at w; omega)]; exact e60
      obtain ⟨m2, b1, b2, b3, b4, b5, b6⟩ := rf_day (s := 0) (rNC_mP f1 hM) hm1 hk (crL_in hl) (by rw [crL_d]; omega) (by omega) k60 hK1
      have f2 : sh_fr rNC m m2 := b4.mono (fun a k z => Or.inl z)
      obtain ⟨μ', c1, c2, c3, c4, c5⟩ := ih f (i + 1) (c + crW P z L) (crZ P z) (dP P 0 (crL P z L)) (dK P 0 (crL P z L) (crK P z L K)) m2 (by omega) (by omega) (by omega) (by rw [b4.i _ _ (fun w => by unfold rN5 at w; omega)]; exact k57) (rNC_mP f2 (rNC_mP f1 hM)) b2 (dP_in (crL_in hl)) (by rw [dP_d, crL_d]; omega) (by rw [b4.i _ _ (fun w => by unfold rN5 at w; omega)]; exact k60) (b5 k57) crZ_lt (by rw [(b4.2 291 78 (fun w => by unfold rN5 at w; omega)).2]; exact hz1)
      refine ⟨μ', ?_, c2, c3, c4, f1.trans (f2.trans c5)⟩
      rw [he m2 b1, c1, chW, Nat.add_assoc]
    obtain ⟨m1, hm1⟩ : ∃ m, m = sh_setL μ 291 78 (zL (zs z)) := ⟨_, rfl⟩
    have i1 : sh_i m1 = sh_i μ := by rw [hm1]; rfl
    have d1 : f_X12_drawOf (zI 100) μ = some (zI ((zs z / 64 % 100 : Nat) : Int), m1) := by rw [hm1]; exact rf_draw (m := 100) hz e (by omega)
    have hz1 := zs_lt z
    have f1 : sh_fr rNC μ m1 := by rw [hm1]; exact sh_fr_L sh_fr.rf (by unfold rNC; omega)
    have hM1 : sm_mP m1 P := rNC_mP f1 hM
    have q5 : sh_i m1 321 (Int32.toNatClampNeg 5) = zI (sp_cr P) := by rw [← nI_z]; exact hM1.2.2.1
    have q5' : sh_i m1 321 5 = zI (sp_cr P) := q5
    have hmod : zs z / 64 % 100 < 100 := Nat.mod_lt _ (by omega)
    have skip : ¬ (zs z / 64 % 100 < sp_cr P ∧ 0 < sp_np P ∧ 0 < sp_nt P) → (∀ m2 : sh_Mem, f_X12_dayGoes m1 = some m2 → F_X12_chance (f + 1) 1 (zI n) (zI c) (zI i) μ = F_X12_chance f 1 (zI n) (zI c) (zI (i + 1 : Nat)) m2) → ∃ μ', F_X12_chance (f + 1) 1 (zI n) (zI c) (zI i) μ = some (zI (c + chW P (g + 1) z L : Nat), μ') ∧ sm_mL (sh_i μ' 330) 0 P (chL P (g + 1) z L) ∧ mkp μ' (chK P (g + 1) z L K) ∧ sh_l μ' 291 78 = zL (chZ P (g + 1) z) ∧ sh_fr rNC μ μ' := by
      intro cc he
      have e1 : crW P z L = 0 := if_neg cc
      have e2 : crL P z L = L := if_neg cc
      have e3 : crK P z L K = K := if_neg cc
      have e4 : crZ P z = zs z := if_neg cc
      refine rest m1 f1 (by rw [e2, i1]; exact hm) (by rw [e3]; exact hK.cg (by rw [i1])) (by rw [e4, hm1, lr_set]) (fun m2 hm2 => ?_)
      rw [e1, Nat.add_zero]
      exact he m2 hm2
    have h0 : ¬ zI n ≤ zI i := fun w => by
      have := (zI_le (by omega) (by omega) (by omega) (by omega)).mp w
      omega
    have hb := sp_bd hk
    have d1' : f_X12_drawOf 100 μ = some (zI ((zs z / 64 % 100 : Nat) : Int), m1) := d1
    have hcr : zs z / 64 % 100 < sp_cr P → ¬ sh_i m1 321 (Int32.toNatClampNeg 5) ≤ zI ((zs z / 64 % 100 : Nat) : Int) := fun q w => by
      rw [q5] at w
      have := (zI_le (by omega) (by omega) (by omega) (by omega)).mp w
      omega
    have hcr1 : ¬ zs z / 64 % 100 < sp_cr P → sh_i m1 321 (Int32.toNatClampNeg 5) ≤ zI ((zs z / 64 % 100 : Nat) : Int) := fun q => by
      rw [q5]
      exact (zI_le (by omega) (by omega) (by omega) (by omega)).mpr (by omega)
    have hp0 : 0 < sp_np P → ¬ zI (sp_np P) ≤ 0 := fun q w => by
      have := (zI_le (b := 0) (by omega) (by omega) (by omega) (by omega)).mp w
      omega
    have hp1 : ¬ 0 < sp_np P → zI (sp_np P) ≤ 0 := fun q => (zI_le (b := 0) (by omega) (by omega) (by omega) (by omega)).mpr (by omega)
    have ht0 : 0 < sp_nt P → ¬ zI (sp_nt P) ≤ 0 := fun q w => by
      have := (zI_le (b := 0) (by omega) (by omega) (by omega) (by omega)).mp w
      omega
    have ht1 : ¬ 0 < sp_nt P → zI (sp_nt P) ≤ 0 := fun q => (zI_le (b := 0) (by omega) (by omega) (by omega) (by omega)).mpr (by omega)
    by_cases c1 : zs z / 64 % 100 < sp_cr P
    · by_cases c2 : 0 < sp_np P
      · by_cases c3 : 0 < sp_nt P
        · have cc : zs z / 64 % 100 < sp_cr P ∧ 0 < sp_np P ∧ 0 < sp_nt P := ⟨c1, c2, c3⟩
          have e1 : crW P z L = if wd P L (crp P z) (crq P z) = 2 then 1 else 0 := if_pos cc
          have e2 : crL P z L = aL P L (crp P z) (crq P z) := if_pos cc
          have e3 : crK P z L K = aK P L K (crp P z) (crq P z) := if_pos cc
          have e4 : crZ P z = zs (zs (zs z)) := if_pos cc
          obtain ⟨m2, hm2⟩ : ∃ m, m = sh_setL m1 291 78 (zL (zs (zs z))) := ⟨_, rfl⟩
          have d2 : f_X12_drawOf (zI (sp_np P)) m1 = some (zI (crp P z : Nat), m2) := by rw [hm2]; exact rf_draw hz1 (by rw [hm1, lr_set]) (by omega)
          obtain ⟨m3, hm3⟩ : ∃ m, m = sh_setL m2 291 78 (zL (zs (zs (zs z)))) := ⟨_, rfl⟩
          have d3 : f_X12_drawOf (zI (sp_nt P)) m2 = some (zI (crq P z : Nat), m3) := by rw [hm3]; exact rf_draw (zs_lt _) (by rw [hm2, lr_set]) (by omega)
          have i3 : sh_i m3 = sh_i μ := by rw [hm3, hm2]; exact i1
          have f2 : sh_fr rNC μ m2 := by rw [hm2]; exact sh_fr_L f1 (by unfold rNC; omega)
          have f3 : sh_fr rNC μ m3 := by rw [hm3]; exact sh_fr_L f2 (by unfold rNC; omega)
          have hp : crp P z < sp_np P := Nat.mod_lt _ c2
          have hq : crq P z < sp_nt P := Nat.mod_lt _ c3
          obtain ⟨m4, a1, a2, a3, a4, a5, a6, -⟩ := rf_askK (μ := m3) (L := L) (s := 0) (rNC_mP f3 hM) (by rw [i3]; exact hm) hk hl (by omega) hp hq (by omega) (by rw [i3, e60]; rfl) (by rw [Nat.zero_div]) (hK.cg (by rw [i3]))
          have hwl := wd_le (P := P) (L := L) (p := crp P z) (q := crq P z)
          refine rest m4 (f3.trans (a5.mono (fun a k z => Or.inl z))) (by rw [e2]; exact a2) (by rw [e3]; exact a6 (by rw [i3]; exact e57)) (by rw [e4, (a5.2 291 78 (fun w => by unfold rN5 at w; omega)).2, hm3, lr_set]) (fun m5 hm5 => ?_)
          rw [e1, F_X12_chance, if_neg h0, d1', shb_ap, if_neg (hcr c1), rf_personMany hM1, shb_ap, if_neg (hp0 c2), rf_topicMany hM1, shb_ap, if_neg (ht0 c3), rf_personMany hM1, shb_ap, d2, shb_ap, rf_topicMany (rNC_mP f2 hM), shb_ap, d3, shb_ap, a1, shb_ap]
          by_cases c4 : wd P L (crp P z) (crq P z) = 2
          · rw [if_pos c4, c4, if_pos (show zI ((2 : Nat) : Int) = 2 from rfl), hm5, shv_ap, zI_s1, zI_s1]
          · rw [if_neg c4, Nat.add_zero, if_neg (fun w => by
              have := (zI_eq (a := (wd P L (crp P z) (crq P z) : Int)) (b := 2) (by omega) (by omega) (by omega) (by omega)).mp w
              omega), hm5, shv_ap, zI_s1]
        · refine skip (fun z => c3 z.2.2) (fun m2 hm2 => ?_)
          rw [F_X12_chance, if_neg h0, d1', shb_ap, if_neg (hcr c1), rf_personMany hM1, shb_ap, if_neg (hp0 c2), rf_topicMany hM1, shb_ap, if_pos (ht1 c3), hm2, shv_ap, zI_s1]
      · refine skip (fun z => c2 z.2.1) (fun m2 hm2 => ?_)
        rw [F_X12_chance, if_neg h0, d1', shb_ap, if_neg (hcr c1), rf_personMany hM1, shb_ap, if_pos (hp1 c2), hm2, shv_ap, zI_s1]
    · refine skip (fun z => c1 z.1) (fun m2 hm2 => ?_)
      rw [F_X12_chance, if_neg h0, d1', shb_ap, if_pos (hcr1 c1), hm2, shv_ap, zI_s1]
end Chs
theorem pr_27 : ∀ (μ : sh_Mem) (b1 : Int32), Sim μ → ∃ (v : Int32) (μ1 μ2 : sh_Mem), f_X11_chance b1 μ = some (v, μ1) ∧ f_X12_chance b1 μ1 = some (v, μ2) ∧ Sim μ2 := by
  intro μ b1 h
  obtain ⟨-, -, -, -, ⟨z, hz, s1, s2⟩, -, t, P, L, hR⟩ := id h
  obtain ⟨hr, hk, hl, hP, hM, hc, hm, hkp, hu, hs, z1, z2, -⟩ := id hR
  obtain ⟨a, h1, h2, rfl⟩ := zI_of b1
  have hb := sp_bd hk
  have hd := hl.1
  rw [lN_z] at s1 s2
  have hz : z < 2147483648 := hz
  rcases cl_isAhead (lo := 1) (hi := 100) hr.2.1 hr.1 hP hk hc hd h1 h2 (by omega) with ⟨q1, q2⟩ | ⟨q1, q2⟩
  · obtain ⟨n, rfl⟩ := Int.eq_ofNat_of_zero_le (show 0 ≤ a by have := q1.2.1; omega)
    obtain ⟨-, n1, n2, n3⟩ := id q1
    obtain ⟨K, K1, K2⟩ := hkp.K
    obtain ⟨μr, x1, x2⟩ := rem_fr hu
    have ht := sh_isP_r hr.1
    have hwr : cw μr t P := cw.cg (μ := μ) ⟨hr.2.2.1, hr.1, hP, hk⟩ x2.1 (fun j _ _ _ => x2.row _ (fun k => by omega))
    have hcr : sm_cL μr 49 P L := hc.cg (fun j hj => x2.row _ (fun k => by omega))
    have hKr : ckp μr K := K1.cg (x2.i _ _ (by omega)) (x2.row _ (fun k => by omega))
    obtain ⟨μ1, a1, a2, a3, a4', a4⟩ := cl_chance (n := n) (t := t) (P := P) (by omega) n sh_fuel 0 0 z L K μr (by omega) (by rw [sh_fuel_eq]; omega) (by omega) (by rw [x2.1]; exact hr.2.1) hwr hcr hl.2 (by omega) hKr hz (by rw [(x2.2 0 16 (by omega)).2]; exact s1)
    rw [Nat.zero_add] at a1
    have q2' : f_X11_isAhead (zI n) 1 100 μ = some (1, μ) := q2
    have c1 : f_X11_chance (zI n) μ = some (zI (chW P n z L), μ1) := by
      unfold f_X11_chance
      rw [q2', shb_ap, if_neg (by decide), x1, shv_ap]
      exact a1
    have hof : sh_offM μ μ1 := fp_X11_chance h.1 c1
    have nh : ∀ r, 291 ≤ r → sh_i μ1 r = sh_i μ r := fun r z => (hof r z).1
    obtain ⟨μs, y1, y2⟩ := sto_fr (μ1 := μ1) hu (by rw [nh _ (by omega)]) (by rw [nh _ (by omega)])
    have hM1 := hM.off hof
    have hMs : sm_mP μs P := hM1.f3 (fun r k z => y2.i _ _ (by omega)) (y2.lrow _ (fun k => by omega))
    have r330 : sh_i μs 330 = sh_i μ 330 := (y2.row _ (fun k => by omega)).trans (nh _ (by omega))
    have e57 : sh_i μs 291 57 = 0 := by rw [y2.i _ _ (by omega), nh _ (by omega), z1]
    have e60 : sh_i μs 291 60 = 0 := by rw [y2.i _ _ (by omega), nh _ (by omega), z2]
    obtain ⟨μ2, w1, w2, w3, w4, w5⟩ := rf_chance (n := n) (P := P) hk (by omega) n sh_fuel 0 0 z L K μs (by omega) (by rw [sh_fuel_eq]; omega) (by omega) e57 hMs (by rw [r330]; exact hm) hl.2 (by omega) e60 (K2.cg r330) hz (by rw [(y2.2 291 78 (by omega)).2, (hof 291 (by omega)).2.1]; exact s2)
    rw [Nat.zero_add] at w1
    have hm1 : sm_mL (sh_i μ1 330) 0 P L := by rw [nh _ (by omega)]; exact hm
    rcases rf_isAhead (lo := 1) (hi := 100) hM1 hk hm1 hd h1 h2 (by omega) with ⟨r1, r2⟩ | ⟨r1, r2⟩
    · have r2' : f_X12_isAhead (zI n) 1 100 μ1 = some (1, μ1) := r2
      have c2 : f_X12_chance (zI n) μ1 = some (zI (chW P n z L), μ2) := by
        unfold f_X12_chance
        rw [r2', shb_ap, if_neg (by decide), y1, shv_ap]
        exact w1
      refine ⟨_, _, _, c1, c2, ?_⟩
      have f0 : sh_fr sm_NB μs μ2 := w5.mono (fun r k z => by
        rcases z with z | z
        · exact rN5_NB z
        · exact ⟨by omega, Or.inr (Or.inr (by omega))⟩)
      have fa0 : sh_fr sm_NA μr μ1 := a4.mono (fun r k z => by
        rcases z with z | z
        · exact nC_NA hr.1 z
        · exact ⟨by omega, Or.inr (Or.inr (Or.inr (Or.inr z)))⟩)
      have low : ∀ r, r < 291 → sh_i μ2 r = sh_i μ1 r := fun r z => by rw [w5.row r (fun k z => by unfold rNC rN5 at z; omega), y2.row r (fun k => by omega)]
      refine Sim.act (L' := chL P n z L) h (gp_X12_chance (gp_X11_chance h.1 c1) c2) hR x1 fa0 y1 f0 ⟨by rw [chL_d]; omega, chL_in n z L hl.2⟩ (a2.cg (fun j hj => low _ (by omega))) w2 (kept_of (a3.cg (by rw [low _ (by omega)]) (low _ (by omega))) w3) ?_ ?_ ?_
      · rw [w5.i _ _ (fun z => by unfold rNC rN5 at z; omega)]; exact e57
      · rw [w5.i _ _ (fun z => by unfold rNC rN5 at z; omega)]; exact e60
      · refine ⟨chZ P n z, chZ_lt n z hz, ?_, ?_⟩
        · rw [(w5.2 0 16 (fun z => by unfold rNC rN5 at z; omega)).2, (y2.2 0 16 (by omega)).2, a4', lN_z]
        · rw [w4, lN_z]
    · exact absurd q1 r1
  · have e : f_X11_refuseNumber 3 μ = some (zI (-1), sh_setI μ 290 3 (sh_i μ 290 3 + 1)) := cl_refuseN (k := 3) (by omega)
    have e' : f_X12_refuses 3 (sh_setI μ 290 3 (sh_i μ 290 3 + 1)) = some (zI (-1), sh_setI (sh_setI μ 290 3 (sh_i μ 290 3 + 1)) 293 3 (sh_i μ 293 3 + 1)) := rf_refuses (k := 3) (by omega)
    have hMb := hM.off (off290 (μ := μ) (k := 3) (x := sh_i μ 290 3 + 1))
    have hmb : sm_mL (sh_i (sh_setI μ 290 3 (sh_i μ 290 3 + 1)) 330) 0 P L := by rw [ir_set_r (by omega)]; exact hm
    refine ⟨zI (-1), sh_setI μ 290 3 (sh_i μ 290 3 + 1), _, ?_, ?_, h.bump (k := 3) (by omega)⟩
    · unfold f_X11_chance
      have q2' : f_X11_isAhead (zI a) 1 100 μ = some (0, μ) := q2
      rw [q2', shb_ap, if_pos rfl, e]
      rfl
    · rcases rf_isAhead (lo := 1) (hi := 100) hMb hk hmb hd h1 h2 (by omega) with ⟨r1, r2⟩ | ⟨r1, r2⟩
      · exact absurd r1 q1
      · unfold f_X12_chance
        have r2' : f_X12_isAhead (zI a) 1 100 (sh_setI μ 290 3 (sh_i μ 290 3 + 1)) = some (0, _) := r2
        rw [r2', shb_ap, if_pos rfl, e']
        rfl
