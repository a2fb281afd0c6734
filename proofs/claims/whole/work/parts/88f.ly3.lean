/-! words, numbers and names that the reference takes -/
section Mb
variable {T : Nat → Nat} {n : Nat}
theorem mA {μ μ' : sh_Mem} {s : xs} (h : mN μ T n s) (hK : xK T n s.1 s.2 = -2 ∨ xK T n s.1 s.2 = -3) (e : sh_i μ' 292 = sh_i μ 292) (e3 : sh_i μ' 291 3 = sh_i μ 291 3) (e5 : sh_i μ' 291 5 = 0) (e2 : sh_i μ' 291 2 = zI (xE T n s.1)) (e4 : sh_i μ' 291 4 = zI (xE T n s.1)) : mS μ' T n (xA T n s) := by
  obtain ⟨hT, h3, h5, ha, h2, hb, -⟩ := h
  refine ⟨hT.cg e, e3.trans h3, e5, xE T n s.1, (xE T n s.1 : Int), xE_le ha, e2, rfl, e4, by omega, by omega, ?_⟩
  show ((decide (xK T n s.1 s.2 = -2 ∨ xK T n s.1 s.2 = -3) && decide (xS T n (xE T n s.1) = xE T n s.1)) = true) ↔ (xE T n s.1 : Int) = (xS T n (xE T n s.1) : Int)
  rw [Bool.and_eq_true, decide_eq_true_iff, decide_eq_true_iff]
  exact ⟨fun z => by rw [z.2], fun z => ⟨hK, by omega⟩⟩
theorem xw_2 {s : xs} {w : Nat} (h : xw T n s = (w : Int)) : xK T n s.1 s.2 = -2 := by
  apply Classical.byContradiction
  intro z
  unfold xw at h
  rw [if_neg z] at h
  omega
theorem xw_len {s : xs} {w : Nat} (hw : w < 33) (h : xw T n s = (w : Int)) : xE T n s.1 - s.1 = (WD.getD w []).length := by
  have hK := xw_2 h
  unfold xw at h
  rw [if_pos hK] at h
  by_cases c : xE T n s.1 - s.1 ≤ 6
  · rw [if_pos c] at h
    have := congrArg List.length ((wN_iff hw).mp h)
    rw [xW_len] at this
    exact this
  · rw [if_neg c] at h
    omega
theorem rf_takes {μ : sh_Mem} {s : xs} {r w : Nat} (h : mS μ T n s) (hw : w < 33) (hc : hW μ r w) (hr : ¬ r = 291) : ∃ μ', f_X12_takes r (WD.getD w []).length μ = some (zI (bI (decide (xw T n s = (w : Int)))), μ') ∧ sh_fr nM μ μ' ∧ (xw T n s = (w : Int) → mS μ' T n (xA T n s)) ∧ (¬ xw T n s = (w : Int) → mN μ' T n s ∧ sh_fr nLk μ μ') := by
  obtain ⟨m1, k1, k2, k3⟩ := rf_isHere h hw hc hr
  obtain ⟨hT, h3, h5, ha, h2, -⟩ := id k3
  have hn := hT.1
  unfold f_X12_takes
  rw [k1, shb_ap]
  by_cases q : xw T n s = (w : Int)
  · have hl := xw_len hw q
    have hK := xw_2 q
    have hlt := xE_lt (T := T) (xK_2 hK).1
    have hwl := WD_len w hw
    have e2 : zI (s.1 : Int) + zI ((WD.getD w []).length : Int) = zI (xE T n s.1 : Int) := by
      rw [zI_add]
      congr 1
      omega
    refine ⟨sh_setI (sh_setI m1 291 2 (zI (xE T n s.1))) 291 4 (zI (xE T n s.1)), ?_, (k2.mono (fun r k z => nLk_M z)).trans (sh_fr_I (sh_fr_I sh_fr.rf (by unfold nM; omega)) (by unfold nM; omega)), fun _ => mA k3 (Or.inl hK) (by rw [ir_set_r (by omega), ir_set_r (by omega)]) (by rw [ir_set_k (by omega), ir_set_k (by omega)]) (by rw [ir_set_k (by omega), ir_set_k (by omega)]; exact h5) (by rw [ir_set_k (by omega), ir_set]) (by rw [ir_set]), fun z => absurd q z⟩
    rw [decide_eq_true q, if_neg (show ¬ zI (bI true) = 0 by decide), h2, ofN_z, e2, shl_ap, ir_set, shl_ap]
    rfl
  · refine ⟨m1, ?_, k2.mono (fun r k z => nLk_M z), fun z => absurd z q, fun _ => ⟨k3, k2⟩⟩
    rw [decide_eq_false q, if_pos (show zI (bI false) = 0 from rfl)]
    rfl
theorem rf_word {μ : sh_Mem} {s : xs} {r w : Nat} (h : mS μ T n s) (hw : w < 33) (hc : hW μ r w) (hr : ¬ r = 291) : ∃ μ', f_X12_needs r (WD.getD w []).length μ = some μ' ∧ sh_fr nM μ μ' ∧ mO μ' T n (x_word T n w s) := by
  obtain ⟨m1, k1, k2, k3, k4⟩ := rf_takes h hw hc hr
  unfold f_X12_needs x_word
  rw [h.2.2.1, if_pos rfl, k1, shb_ap]
  by_cases q : xw T n s = (w : Int)
  · refine ⟨m1, ?_, k2, by rw [if_pos q]; exact k3 q⟩
    rw [decide_eq_true q, if_neg (show ¬ zI (bI true) = 0 by decide)]
  · have hN := (k4 q).1
    obtain ⟨m2, r1, r2, r3⟩ := rf_fail (T := T) (n := n) (μ := m1) (k := 1) (p := s.1) hN.2.2.1
    have r1' : f_X12_fail 1 (zI (s.1 : Int)) m1 = some m2 := r1
    refine ⟨m2, ?_, k2.trans r2, by rw [if_neg q]; exact r3⟩
    rw [decide_eq_false q, if_pos (show zI (bI false) = 0 from rfl), hN.2.2.2.2.1, r1', shv_ap]
/-- behind a number: the place E behind its digits -/
def nO (T : Nat → Nat) (lo hi a E : Nat) (v : Int32) (μ' : sh_Mem) : Prop := (E - a ≤ 4 → v = zI (xV T a (E - a)) ∧ ((xV T a (E - a) < lo ∨ hi < xV T a (E - a)) → sh_i μ' 291 5 = zI 2 ∧ sh_i μ' 291 6 = zI a) ∧ (¬ (xV T a (E - a) < lo ∨ hi < xV T a (E - a)) → sh_i μ' 291 2 = zI E ∧ sh_i μ' 291 4 = zI E ∧ sh_i μ' 291 10 = zI a ∧ sh_i μ' 291 5 = 0)) ∧ (¬ E - a ≤ 4 → sh_i μ' 291 5 = zI 1 ∧ sh_i μ' 291 6 = zI ((a + 4 : Nat) : Int))
theorem rf_num1 {a lo hi : Nat} (ha : a ≤ n) (hlo : lo < 20000) (hhi : hi < 20000) : ∀ (g f i : Nat) (μ : sh_Mem), a + i + g = n → g < f → i ≤ 4 → xT μ 292 T n → sh_i μ 291 3 = zI n → sh_i μ 291 2 = zI ((a + i : Nat) : Int) → sh_i μ 291 5 = 0 → (∀ j, j < i → xD T (a + j) = true) → ∃ v μ', F_X12_number f 1 (zI lo) (zI hi) (zI a) (zI (xV T a i)) μ = some (v, μ') ∧ sh_fr nM μ μ' ∧ nO T lo hi a (xR (xD T) g (a + i)) v μ' := by
  intro g
  have stop : ∀ (f i : Nat) (μ : sh_Mem), i ≤ 4 → a + i ≤ n → xT μ 292 T n → sh_i μ 291 2 = zI ((a + i : Nat) : Int) → sh_i μ 291 5 = 0 → (∀ j, j < i → xD T (a + j) = true) → ∃ v μ', (sh_let (sh_setI μ 291 4 (zI ((a + i : Nat) : Int))) (fun μ37 => sh_let (sh_setI μ37 291 10 (zI a)) (fun μ38 => (if (f_X12_isIn μ38 (zI (xV T a i)).toInt64 (zI (lo : Int)).toInt64 (zI (hi : Int)).toInt64) = 0 then sh_bindv (f_X12_fail 2 (sh_i μ38 291 10) μ38) (fun μ40 => some (zI (xV T a i), μ40)) else some (zI (xV T a i), μ38))))) = some (v, μ') ∧ sh_fr nM μ μ' ∧ nO T lo hi a (a + i) v μ' := by
    intro f i μ hi4 hin hT h2 h5 hD
    have hv := xV_lt (a := a) (fun j hj => (hT.2 j hj).1) i (by have := hT.1; omega) hD
    have hv4 : 10 ^ i ≤ 10000 := Nat.le_trans (Nat.pow_le_pow_right (by omega) hi4) (by decide)
    have ei : a + i - a = i := by omega
    obtain ⟨m1, hm1⟩ : ∃ m, m = sh_setI (sh_setI μ 291 4 (zI ((a + i : Nat) : Int))) 291 10 (zI a) := ⟨_, rfl⟩
    have f1 : sh_fr nM μ m1 := by rw [hm1]; exact sh_fr_I (sh_fr_I sh_fr.rf (by unfold nM; omega)) (by unfold nM; omega)
    have h51 : sh_i m1 291 5 = 0 := by rw [hm1, ir_set_k (by omega), ir_set_k (by omega), h5]
    have h101 : sh_i m1 291 10 = zI a := by rw [hm1, ir_set]
    rw [shl_ap, ← hm1, shl_ap, zI_l (by omega) (by omega), zI_l (by omega) (by omega), zI_l (by omega) (by omega)]
    by_cases c : xV T a i < lo ∨ hi < xV T a i
    · rw [zz_isIn_f (by omega), if_pos rfl, h101]
      obtain ⟨m2, r1, r2, r3, r4⟩ := rf_fail (T := T) (n := n) (μ := m1) (k := 2) (p := a) h51
      have r1' : f_X12_fail 2 (zI (a : Int)) m1 = some m2 := r1
      rw [r1', shv_ap]
      refine ⟨_, m2, rfl, f1.trans r2, fun _ => ?_, fun z => absurd (by omega) z⟩
      rw [ei]
      exact ⟨rfl, fun _ => ⟨r3, r4⟩, fun z => absurd c z⟩
    · rw [zz_isIn_t (by omega), if_neg (by decide)]
      refine ⟨_, m1, rfl, f1, fun _ => ?_, fun z => absurd (by omega) z⟩
      rw [ei]
      exact ⟨rfl, fun z => absurd z c, fun _ => ⟨by rw [hm1, ir_set_k (by omega), ir_set_k (by omega), h2], by rw [hm1, ir_set_k (by omega), ir_set], h101, h51⟩⟩
  induction g with
  | zero =>
    intro f i μ hi hf hi4 hT h3 h2 h5 hD
    obtain ⟨f, rfl⟩ : ∃ q, f = q + 1 := ⟨f - 1, by omega⟩
    have hn := hT.1
    obtain ⟨v, μ', s1, s2, s3⟩ := stop f i μ hi4 (by omega) hT h2 h5 hD
    refine ⟨v, μ', ?_, s2, s3⟩
    rw [← s1, F_X12_number, h3, h2, if_pos (zI_yes (by omega) (by omega))]
  | succ g ih =>
    intro f i μ hi hf hi4 hT h3 h2 h5 hD
    obtain ⟨f, rfl⟩ : ∃ q, f = q + 1 := ⟨f - 1, by omega⟩
    have hn := hT.1
    obtain ⟨t1, t2⟩ := hT.2 (a + i) (by omega)
    have t2 : sh_i μ 292 (zI ((a + i : Nat) : Int)).toNatClampNeg = zI (T (a + i)) := by rw [tcN (by omega)]; exact t2
    have i16 : sh_in (zI ((a + i : Nat) : Int)) 1600 := (zI_in (by omega)).mpr (by omega)
    have n1 : ¬ zI (n : Int) ≤ zI ((a + i : Nat) : Int) := zI_not (by omega) (by omega)
    have eD := rf_isDigit (μ := μ) (c := T (a + i)) t1
    have es : zI ((a + i : Nat) : Int) - zI (a : Int) = zI (i : Int) := by
      rw [zI_sub]
      congr 1
      omega
    by_cases c : xD T (a + i) = true
    · rw [xR_s c]
      have ea : a + i + 1 = a + (i + 1) := by omega
      have dd := xD_t.mp c
      by_cases c4 : i = 4
      · obtain ⟨m2, r1, r2, r3, r4⟩ := rf_fail (T := T) (n := n) (μ := μ) (k := 1) (p := a + i) h5
        have r1' : f_X12_fail 1 (zI ((a + i : Nat) : Int)) μ = some m2 := r1
        have hE := xR_le (xD T) g (a + i + 1)
        refine ⟨0, m2, ?_, r2, fun z => absurd z (by omega), fun _ => ⟨r3, by rw [c4] at r4; exact r4⟩⟩
        rw [F_X12_number, h3, h2, if_neg n1, if_pos i16, t2, eD, if_pos dd, if_neg (by decide), es, if_pos (show zI (i : Int) = 4 by rw [c4]; rfl), r1', shv_ap]
      · have e7 : 10 * zI (xV T a i : Int) + zI (T (a + i) : Int) - 48 = zI (xV T a (i + 1)) := by
          rw [show (10 : Int32) = zI 10 from rfl, show (48 : Int32) = zI 48 from rfl, zI_mul, zI_add, zI_sub]
          congr 1
          show _ = ((xV T a i * 10 + (T (a + i) - 48) : Nat) : Int)
          omega
        obtain ⟨m1, hm1⟩ : ∃ m, m = sh_setI μ 291 2 (zI ((a + i : Nat) : Int) + 1) := ⟨_, rfl⟩
        have f1 : sh_fr nM μ m1 := by rw [hm1]; exact sh_fr_I sh_fr.rf (by unfold nM; omega)
        obtain ⟨v, μ', s1, s2, s3⟩ := ih f (i + 1) m1 (by omega) (by omega) (by omega) (hT.cg (f1.row _ (fun k => by unfold nM; omega))) (by rw [f1.i _ _ (by unfold nM; omega)]; exact h3) (by rw [hm1, ir_set, zI_s1, ea]) (by rw [hm1, ir_set_k (by omega), h5]) (fun j hj => by
          by_cases z : j = i
          · rw [z]; exact c
          · exact hD j (by omega))
        rw [ea]
        refine ⟨v, μ', ?_, f1.trans s2, s3⟩
        rw [← s1, F_X12_number, h3, h2, if_neg n1, if_pos i16, t2, eD, if_pos dd, if_neg (by decide), es, if_neg (show ¬ zI (i : Int) = 4 from fun z => c4 (by have := (zI_eq (b := 4) (by omega) (by omega) (by omega) (by omega)).mp z; omega)), if_pos i16, e7, shl_ap, ← hm1, shl_ap]
    · rw [xR_n c]
      obtain ⟨v, μ', s1, s2, s3⟩ := stop f i μ hi4 (by omega) hT h2 h5 hD
      refine ⟨v, μ', ?_, s2, s3⟩
      rw [← s1, F_X12_number, h3, h2, if_neg n1, if_pos i16, t2, eD, if_neg (fun z => c (xD_t.mpr z)), if_pos rfl]
theorem rf_num {μ : sh_Mem} {s : xs} {lo hi : Nat} (h : mS μ T n s) (h1 : lo < 20000) (h2 : hi < 20000) : ∃ v μ', f_X12_number (zI lo) (zI hi) μ = some (v, μ') ∧ sh_fr nM μ μ' ∧ mO μ' T n (xr (x_num T n lo hi s)) ∧ ((x_num T n lo hi s).isRight = true → v = zI (xv (x_num T n lo hi s)) ∧ sh_i μ' 291 10 = zI s.1) := by
  obtain ⟨m1, k1, k2, k3⟩ := rf_look h
  obtain ⟨hT, h3, h5, ha, h2', hb, d, d1, d2, d3, d4⟩ := id k3
  have hn := hT.1
  have k2' : sh_fr nM μ m1 := k2.mono (fun r k z => nLk_M z)
  have bad : ¬ xK T n s.1 s.2 = -3 → f_X12_number (zI lo) (zI hi) μ = sh_bindv (f_X12_fail 1 (zI (s.1 : Int)) m1) (fun μ63 => some (0, μ63)) → ∃ v μ', f_X12_number (zI lo) (zI hi) μ = some (v, μ') ∧ sh_fr nM μ μ' ∧ mO μ' T n (xr (x_num T n lo hi s)) ∧ ((x_num T n lo hi s).isRight = true → v = zI (xv (x_num T n lo hi s)) ∧ sh_i μ' 291 10 = zI s.1) := by
    intro hK e0
    obtain ⟨m2, r1, r2, r3⟩ := rf_fail (T := T) (n := n) (μ := m1) (k := 1) (p := s.1) h5
    have r1' : f_X12_fail 1 (zI (s.1 : Int)) m1 = some m2 := r1
    unfold x_num
    rw [if_neg hK]
    refine ⟨0, m2, by rw [e0, r1', shv_ap], k2'.trans r2, r3, fun z => by cases z⟩
  have e0 : f_X12_number (zI lo) (zI hi) μ = (if (f_X12_isDigit m1 (zI (xc T n s))) = 0 then sh_bindv (f_X12_fail 1 (zI (s.1 : Int)) m1) (fun μ63 => some (0, μ63)) else (if (zI (s.1 : Int)) = (zI d) then sh_bindv (f_X12_fail 1 (zI (s.1 : Int)) m1) (fun μ68 => some (0, μ68)) else sh_let (zI (s.1 : Int)) (fun x67 => F_X12_number sh_fuel 1 (zI lo) (zI hi) x67 0 m1))) := by
    unfold f_X12_number
    rw [h.2.2.1, if_pos rfl, k1, shb_ap, h2', d1]
  by_cases hl : s.1 < n
  · obtain ⟨t1, -⟩ := hT.2 s.1 (by omega)
    have exc : xc T n s = (T s.1 : Int) := if_pos hl
    rw [exc, rf_isDigit t1] at e0
    by_cases c : xD T s.1 = true
    · have dd := xD_t.mp c
      have nl : ¬ xL T s.1 = true := fun z => by
        have := xL_t.mp z
        omega
      rw [if_pos dd, if_neg (by decide)] at e0
      cases hg : s.2 with
      | true =>
        rw [if_pos (show zI (s.1 : Int) = zI d by rw [d4.mp hg])] at e0
        exact bad (fun z => by have := (xK_3 z).2.2.2; rw [hg] at this; cases this) e0
      | false =>
        have hd : ¬ d = s.1 := fun z => by
          have := d4.mpr z
          rw [hg] at this
          cases this
        have hK : xK T n s.1 s.2 = -3 := by
          unfold xK
          rw [if_neg (show ¬ n ≤ s.1 by omega), if_neg nl, if_pos c, hg, if_neg (by decide)]
        have hE : xE T n s.1 = xR (xD T) (n - s.1) s.1 := by unfold xE; rw [if_neg (show ¬ n ≤ s.1 by omega), if_neg nl, if_pos c]
        rw [if_neg (fun z => hd (by have := (zI_eq (a := (s.1 : Int)) (b := d) (by omega) (by omega) (by omega) (by omega)).mp z; omega)), shl_ap] at e0
        obtain ⟨v, μ', s1, s2, s3⟩ := rf_num1 (T := T) (n := n) (a := s.1) (lo := lo) (hi := hi) ha h1 h2 (n - s.1) sh_fuel 0 m1 (by omega) (by rw [sh_fuel_eq]; omega) (by omega) hT h3 (by rw [h2']; rfl) h5 (fun j hj => by omega)
        rw [Nat.add_zero, ← hE] at s3
        have s1' : F_X12_number sh_fuel 1 (zI lo) (zI hi) (zI (s.1 : Int)) 0 m1 = some (v, μ') := s1
        obtain ⟨o1, o2⟩ := s3
        refine ⟨v, μ', by rw [e0, s1'], k2'.trans s2, ?_⟩
        unfold x_num
        rw [if_pos hK]
        by_cases c4 : xE T n s.1 - s.1 ≤ 4
        · obtain ⟨p1, p2, p3⟩ := o1 c4
          rw [if_pos c4]
          by_cases cr : xV T s.1 (xE T n s.1 - s.1) < lo ∨ hi < xV T s.1 (xE T n s.1 - s.1)
          · rw [if_pos cr]
            exact ⟨p2 cr, fun z => by cases z⟩
          · obtain ⟨q1, q2, q3, q4⟩ := p3 cr
            rw [if_neg cr]
            exact ⟨mA k3 (Or.inr hK) (s2.row _ (fun k => by unfold nM; omega)) (s2.i _ _ (by unfold nM; omega)) q4 q1 q2, fun _ => ⟨p1, q3⟩⟩
        · rw [if_neg c4]
          exact ⟨o2 c4, fun z => by cases z⟩
    · rw [if_neg (fun z => c (xD_t.mpr z)), if_pos rfl] at e0
      exact bad (fun z => c (xK_3 z).2.2.1) e0
  · have exc : xc T n s = -1 := if_neg hl
    rw [exc, show f_X12_isDigit m1 (zI (-1)) = 0 from rfl, if_pos rfl] at e0
    exact bad (fun z => hl (xK_3 z).1) e0
theorem own1 {m : sh_Mem} : ∀ L, L < 5 → F_X12_isOwnHere sh_fuel (L + 1) 0 m = some (1, m) := by
  intro L hL
  obtain ⟨f, hf⟩ : ∃ f, sh_fuel = f + 1 + 1 + 1 + 1 + 1 := ⟨sh_fuel - 5, by have := sh_fuel_eq; omega⟩
  rw [hf]
  match L, hL with
  | 0, _ => rfl
  | 1, _ => rfl
  | 2, _ => rfl
  | 3, _ => rfl
  | 4, _ => rfl
/-- the reference's cells of words -/
def hA (μ : sh_Mem) : Prop := ∀ w, w < 27 → hW μ (294 + w) w
theorem rf_own {μ : sh_Mem} {s : xs} (h : mS μ T n s) (hw : hA μ) : ∃ μ', f_X12_isOwnHere μ = some (zI (bI (decide (0 ≤ xw T n s ∧ xw T n s < 27))), μ') ∧ sh_fr nLk μ μ' ∧ mN μ' T n s := by
  have hWf : ∀ (m : sh_Mem) (w : Nat), w < 27 → sh_fr nLk μ m → hW m (294 + w) w := fun m w h1 h2 j hj => by
    rw [h2.i _ _ (by unfold nLk; omega)]
    exact hw w h1 j hj
  have st : ∀ (m : sh_Mem) (w : Nat), w < 27 → mS m T n s → sh_fr nLk μ m → ∃ m', f_X12_isHere (294 + w) (WD.getD w []).length m = some (zI (bI (decide (xw T n s = (w : Int)))), m') ∧ sh_fr nLk μ m' ∧ mN m' T n s := fun m w h1 h2 h3 => by
    obtain ⟨m', a, b, c⟩ := rf_isHere h2 (show w < 33 by omega) (hWf m w h1 h3) (by omega)
    exact ⟨m', a, h3.trans b, c⟩
  have yes : ∀ w : Nat, w < 27 → xw T n s = (w : Int) → decide (0 ≤ xw T n s ∧ xw T n s < 27) = true := fun w h1 h2 => decide_eq_true (by omega)
  unfold f_X12_isOwnHere
  obtain ⟨m0, k0, f0, n0⟩ := st μ 0 (by omega) h sh_fr.rf
  have k0' : f_X12_isHere 294 5 μ = some (zI (bI (decide (xw T n s = (0 : Int)))), m0) := k0
  rw [k0', shb_ap]
  by_cases c0 : xw T n s = (0 : Int)
  · rw [decide_eq_true c0, if_neg (show ¬ zI (bI true) = 0 by decide), yes 0 (by omega) c0]
    exact ⟨m0, own1 0 (by omega), f0, n0⟩
  rw [decide_eq_false c0, if_pos (show zI (bI false) = 0 from rfl)]
  obtain ⟨m1, k1, f1, n1⟩ := st m0 1 (by omega) n0.S f0
  have k1' : f_X12_isHere 295 2 m0 = some (zI (bI (decide (xw T n s = (1 : Int)))), m1) := k1
  rw [k1', shb_ap]
  by_cases c1 : xw T n s = (1 : Int)
  · rw [decide_eq_true c1, if_neg (show ¬ zI (bI true) = 0 by decide), yes 1 (by omega) c1]
    exact ⟨m1, own1 0 (by omega), f1, n1⟩
  rw [decide_eq_false c1, if_pos (show zI (bI false) = 0 from rfl)]
  obtain ⟨m2, k2, f2, n2⟩ := st m1 2 (by omega) n1.S f1
  have k2' : f_X12_isHere 296 4 m1 = some (zI (bI (decide (xw T n s = (2 : Int)))), m2) := k2
  rw [k2', shb_ap]
  by_cases c2 : xw T n s = (2 : Int)
  · rw [decide_eq_true c2, if_neg (show ¬ zI (bI true) = 0 by decide), yes 2 (by omega) c2]
    exact ⟨m2, own1 0 (by omega), f2, n2⟩
  rw [decide_eq_false c2, if_pos (show zI (bI false) = 0 from rfl)]
  obtain ⟨m3, k3, f3, n3⟩ := st m2 3 (by omega) n2.S f2
  have k3' : f_X12_isHere 297 5 m2 = some (zI (bI (decide (xw T n s = (3 : Int)))), m3) := k3
  rw [k3', shb_ap]
  by_cases c3 : xw T n s = (3 : Int)
  · rw [decide_eq_true c3, if_neg (show ¬ zI (bI true) = 0 by decide), yes 3 (by omega) c3]
    exact ⟨m3, own1 0 (by omega), f3, n3⟩
  rw [decide_eq_false c3, if_pos (show zI (bI false) = 0 from rfl)]
  obtain ⟨m4, k4, f4, n4⟩ := st m3 4 (by omega) n3.S f3
  have k4' : f_X12_isHere 298 6 m3 = some (zI (bI (decide (xw T n s = (4 : Int)))), m4) := k4
  rw [k4', shb_ap]
  by_cases c4 : xw T n s = (4 : Int)
  · rw [decide_eq_true c4, if_neg (show ¬ zI (bI true) = 0 by decide), yes 4 (by omega) c4]
    exact ⟨m4, own1 0 (by omega), f4, n4⟩
  rw [decide_eq_false c4, if_pos (show zI (bI false) = 0 from rfl)]
  obtain ⟨m5, k5, f5, n5⟩ := st m4 5 (by omega) n4.S f4
  have k5' : f_X12_isHere 299 2 m4 = some (zI (bI (decide (xw T n s = (5 : Int)))), m5) := k5
  rw [k5', shb_ap]
  by_cases c5 : xw T n s = (5 : Int)
  · rw [decide_eq_true c5, if_neg (show ¬ zI (bI true) = 0 by decide), yes 5 (by omega) c5]
    exact ⟨m5, own1 0 (by omega), f5, n5⟩
  rw [decide_eq_false c5, if_pos (show zI (bI false) = 0 from rfl)]
  obtain ⟨m6, k6, f6, n6⟩ := st m5 6 (by omega) n5.S f5
  have k6' : f_X12_isHere 300 5 m5 = some (zI (bI (decide (xw T n s = (6 : Int)))), m6) := k6
  rw [k6', shb_ap]
  by_cases c6 : xw T n s = (6 : Int)
  · rw [decide_eq_true c6, if_neg (show ¬ zI (bI true) = 0 by decide), yes 6 (by omega) c6]
    exact ⟨m6, own1 1 (by omega), f6, n6⟩
  rw [decide_eq_false c6, if_pos (show zI (bI false) = 0 from rfl)]
  obtain ⟨m7, k7, f7, n7⟩ := st m6 7 (by omega) n6.S f6
  have k7' : f_X12_isHere 301 5 m6 = some (zI (bI (decide (xw T n s = (7 : Int)))), m7) := k7
  rw [k7', shb_ap]
  by_cases c7 : xw T n s = (7 : Int)
  · rw [decide_eq_true c7, if_neg (show ¬ zI (bI true) = 0 by decide), yes 7 (by omega) c7]
    exact ⟨m7, own1 1 (by omega), f7, n7⟩
  rw [decide_eq_false c7, if_pos (show zI (bI false) = 0 from rfl)]
  obtain ⟨m8, k8, f8, n8⟩ := st m7 8 (by omega) n7.S f7
  have k8' : f_X12_isHere 302 2 m7 = some (zI (bI (decide (xw T n s = (8 : Int)))), m8) := k8
  rw [k8', shb_ap]
  by_cases c8 : xw T n s = (8 : Int)
  · rw [decide_eq_true c8, if_neg (show ¬ zI (bI true) = 0 by decide), yes 8 (by omega) c8]
    exact ⟨m8, own1 1 (by omega), f8, n8⟩
  rw [decide_eq_false c8, if_pos (show zI (bI false) = 0 from rfl)]
  obtain ⟨m9, k9, f9, n9⟩ := st m8 9 (by omega) n8.S f8
  have k9' : f_X12_isHere 303 4 m8 = some (zI (bI (decide (xw T n s = (9 : Int)))), m9) := k9
  rw [k9', shb_ap]
  by_cases c9 : xw T n s = (9 : Int)
  · rw [decide_eq_true c9, if_neg (show ¬ zI (bI true) = 0 by decide), yes 9 (by omega) c9]
    exact ⟨m9, own1 1 (by omega), f9, n9⟩
  rw [decide_eq_false c9, if_pos (show zI (bI false) = 0 from rfl)]
  obtain ⟨m10, k10, f10, n10⟩ := st m9 10 (by omega) n9.S f9
  have k10' : f_X12_isHere 304 5 m9 = some (zI (bI (decide (xw T n s = (10 : Int)))), m10) := k10
  rw [k10', shb_ap]
  by_cases c10 : xw T n s = (10 : Int)
  · rw [decide_eq_true c10, if_neg (show ¬ zI (bI true) = 0 by decide), yes 10 (by omega) c10]
    exact ⟨m10, own1 1 (by omega), f10, n10⟩
  rw [decide_eq_false c10, if_pos (show zI (bI false) = 0 from rfl)]
  obtain ⟨m11, k11, f11, n11⟩ := st m10 11 (by omega) n10.S f10
  have k11' : f_X12_isHere 305 5 m10 = some (zI (bI (decide (xw T n s = (11 : Int)))), m11) := k11
  rw [k11', shb_ap]
  by_cases c11 : xw T n s = (11 : Int)
  · rw [decide_eq_true c11, if_neg (show ¬ zI (bI true) = 0 by decide), yes 11 (by omega) c11]
    exact ⟨m11, own1 1 (by omega), f11, n11⟩
  rw [decide_eq_false c11, if_pos (show zI (bI false) = 0 from rfl)]
  obtain ⟨m12, k12, f12, n12⟩ := st m11 12 (by omega) n11.S f11
  have k12' : f_X12_isHere 306 5 m11 = some (zI (bI (decide (xw T n s = (12 : Int)))), m12) := k12
  rw [k12', shb_ap]
  by_cases c12 : xw T n s = (12 : Int)
  · rw [decide_eq_true c12, if_neg (show ¬ zI (bI true) = 0 by decide), yes 12 (by omega) c12]
    exact ⟨m12, own1 2 (by omega), f12, n12⟩
  rw [decide_eq_false c12, if_pos (show zI (bI false) = 0 from rfl)]
  obtain ⟨m13, k13, f13, n13⟩ := st m12 13 (by omega) n12.S f12
  have k13' : f_X12_isHere 307 5 m12 = some (zI (bI (decide (xw T n s = (13 : Int)))), m13) := k13
  rw [k13', shb_ap]
  by_cases c13 : xw T n s = (13 : Int)
  · rw [decide_eq_true c13, if_neg (show ¬ zI (bI true) = 0 by decide), yes 13 (by omega) c13]
    exact ⟨m13, own1 2 (by omega), f13, n13⟩
  rw [decide_eq_false c13, if_pos (show zI (bI false) = 0 from rfl)]
  obtain ⟨m14, k14, f14, n14⟩ := st m13 14 (by omega) n13.S f13
  have k14' : f_X12_isHere 308 6 m13 = some (zI (bI (decide (xw T n s = (14 : Int)))), m14) := k14
  rw [k14', shb_ap]
  by_cases c14 : xw T n s = (14 : Int)
  · rw [decide_eq_true c14, if_neg (show ¬ zI (bI true) = 0 by decide), yes 14 (by omega) c14]
    exact ⟨m14, own1 2 (by omega), f14, n14⟩
  rw [decide_eq_false c14, if_pos (show zI (bI false) = 0 from rfl)]
  obtain ⟨m15, k15, f15, n15⟩ := st m14 15 (by omega) n14.S f14
  have k15' : f_X12_isHere 309 5 m14 = some (zI (bI (decide (xw T n s = (15 : Int)))), m15) := k15
  rw [k15', shb_ap]
  by_cases c15 : xw T n s = (15 : Int)
  · rw [decide_eq_true c15, if_neg (show ¬ zI (bI true) = 0 by decide), yes 15 (by omega) c15]
    exact ⟨m15, own1 2 (by omega), f15, n15⟩
  rw [decide_eq_false c15, if_pos (show zI (bI false) = 0 from rfl)]
  obtain ⟨m16, k16, f16, n16⟩ := st m15 16 (by omega) n15.S f15
  have k16' : f_X12_isHere 310 3 m15 = some (zI (bI (decide (xw T n s = (16 : Int)))), m16) := k16
  rw [k16', shb_ap]
  by_cases c16 : xw T n s = (16 : Int)
  · rw [decide_eq_true c16, if_neg (show ¬ zI (bI true) = 0 by decide), yes 16 (by omega) c16]
    exact ⟨m16, own1 2 (by omega), f16, n16⟩
  rw [decide_eq_false c16, if_pos (show zI (bI false) = 0 from rfl)]
  obtain ⟨m17, k17, f17, n17⟩ := st m16 17 (by omega) n16.S f16
  have k17' : f_X12_isHere 311 4 m16 = some (zI (bI (decide (xw T n s = (17 : Int)))), m17) := k17
  rw [k17', shb_ap]
  by_cases c17 : xw T n s = (17 : Int)
  · rw [decide_eq_true c17, if_neg (show ¬ zI (bI true) = 0 by decide), yes 17 (by omega) c17]
    exact ⟨m17, own1 2 (by omega), f17, n17⟩
  rw [decide_eq_false c17, if_pos (show zI (bI false) = 0 from rfl)]
  obtain ⟨m18, k18, f18, n18⟩ := st m17 18 (by omega) n17.S f17
  have k18' : f_X12_isHere 312 6 m17 = some (zI (bI (decide (xw T n s = (18 : Int)))), m18) := k18
  rw [k18', shb_ap]
  by_cases c18 : xw T n s = (18 : Int)
  · rw [decide_eq_true c18, if_neg (show ¬ zI (bI true) = 0 by decide), yes 18 (by omega) c18]
    exact ⟨m18, own1 3 (by omega), f18, n18⟩
  rw [decide_eq_false c18, if_pos (show zI (bI false) = 0 from rfl)]
  obtain ⟨m19, k19, f19, n19⟩ := st m18 19 (by omega) n18.S f18
  have k19' : f_X12_isHere 313 6 m18 = some (zI (bI (decide (xw T n s = (19 : Int)))), m19) := k19
  rw [k19', shb_ap]
  by_cases c19 : xw T n s = (19 : Int)
  · rw [decide_eq_true c19, if_neg (show ¬ zI (bI true) = 0 by decide), yes 19 (by omega) c19]
    exact ⟨m19, own1 3 (by omega), f19, n19⟩
  rw [decide_eq_false c19, if_pos (show zI (bI false) = 0 from rfl)]
  obtain ⟨m20, k20, f20, n20⟩ := st m19 20 (by omega) n19.S f19
  have k20' : f_X12_isHere 314 3 m19 = some (zI (bI (decide (xw T n s = (20 : Int)))), m20) := k20
  rw [k20', shb_ap]
  by_cases c20 : xw T n s = (20 : Int)
  · rw [decide_eq_true c20, if_neg (show ¬ zI (bI true) = 0 by decide), yes 20 (by omega) c20]
    exact ⟨m20, own1 3 (by omega), f20, n20⟩
  rw [decide_eq_false c20, if_pos (show zI (bI false) = 0 from rfl)]
  obtain ⟨m21, k21, f21, n21⟩ := st m20 21 (by omega) n20.S f20
  have k21' : f_X12_isHere 315 2 m20 = some (zI (bI (decide (xw T n s = (21 : Int)))), m21) := k21
  rw [k21', shb_ap]
  by_cases c21 : xw T n s = (21 : Int)
  · rw [decide_eq_true c21, if_neg (show ¬ zI (bI true) = 0 by decide), yes 21 (by omega) c21]
    exact ⟨m21, own1 3 (by omega), f21, n21⟩
  rw [decide_eq_false c21, if_pos (show zI (bI false) = 0 from rfl)]
  obtain ⟨m22, k22, f22, n22⟩ := st m21 22 (by omega) n21.S f21
  have k22' : f_X12_isHere 316 3 m21 = some (zI (bI (decide (xw T n s = (22 : Int)))), m22) := k22
  rw [k22', shb_ap]
  by_cases c22 : xw T n s = (22 : Int)
  · rw [decide_eq_true c22, if_neg (show ¬ zI (bI true) = 0 by decide), yes 22 (by omega) c22]
    exact ⟨m22, own1 3 (by omega), f22, n22⟩
  rw [decide_eq_false c22, if_pos (show zI (bI false) = 0 from rfl)]
  obtain ⟨m23, k23, f23, n23⟩ := st m22 23 (by omega) n22.S f22
  have k23' : f_X12_isHere 317 3 m22 = some (zI (bI (decide (xw T n s = (23 : Int)))), m23) := k23
  rw [k23', shb_ap]
  by_cases c23 : xw T n s = (23 : Int)
  · rw [decide_eq_true c23, if_neg (show ¬ zI (bI true) = 0 by decide), yes 23 (by omega) c23]
    exact ⟨m23, own1 3 (by omega), f23, n23⟩
  rw [decide_eq_false c23, if_pos (show zI (bI false) = 0 from rfl)]
  obtain ⟨m24, k24, f24, n24⟩ := st m23 24 (by omega) n23.S f23
  have k24' : f_X12_isHere 318 3 m23 = some (zI (bI (decide (xw T n s = (24 : Int)))), m24) := k24
  rw [k24', shb_ap]
  by_cases c24 : xw T n s = (24 : Int)
  · rw [decide_eq_true c24, if_neg (show ¬ zI (bI true) = 0 by decide), yes 24 (by omega) c24]
    exact ⟨m24, own1 4 (by omega), f24, n24⟩
  rw [decide_eq_false c24, if_pos (show zI (bI false) = 0 from rfl)]
  obtain ⟨m25, k25, f25, n25⟩ := st m24 25 (by omega) n24.S f24
  have k25' : f_X12_isHere 319 3 m24 = some (zI (bI (decide (xw T n s = (25 : Int)))), m25) := k25
  rw [k25', shb_ap]
  by_cases c25 : xw T n s = (25 : Int)
  · rw [decide_eq_true c25, if_neg (show ¬ zI (bI true) = 0 by decide), yes 25 (by omega) c25]
    exact ⟨m25, own1 4 (by omega), f25, n25⟩
  rw [decide_eq_false c25, if_pos (show zI (bI false) = 0 from rfl)]
  obtain ⟨m26, k26, f26, n26⟩ := st m25 26 (by omega) n25.S f25
  have k26' : f_X12_isHere 320 3 m25 = some (zI (bI (decide (xw T n s = (26 : Int)))), m26) := k26
  rw [k26', shb_ap]
  by_cases c26 : xw T n s = (26 : Int)
  · rw [decide_eq_true c26, if_neg (show ¬ zI (bI true) = 0 by decide), yes 26 (by omega) c26]
    exact ⟨m26, own1 4 (by omega), f26, n26⟩
  rw [decide_eq_false c26, if_pos (show zI (bI false) = 0 from rfl)]
  rw [decide_eq_false (show ¬ (0 ≤ xw T n s ∧ xw T n s < 27) by omega)]
  exact ⟨m26, rfl, f26, n26⟩
end Mb
