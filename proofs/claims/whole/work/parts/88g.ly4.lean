/-! names that the reference takes -/
section Mc
variable {T : Nat → Nat} {n : Nat}
theorem rf_name1 {a : Nat} (ha : a ≤ n) : ∀ (g f i : Nat) (μ : sh_Mem), a + i + g = n → g < f → i ≤ 6 → xT μ 292 T n → sh_i μ 291 3 = zI n → sh_i μ 291 2 = zI ((a + i : Nat) : Int) → sh_i μ 291 38 = zI a → sh_i μ 291 5 = 0 → ∃ v μ', F_X12_name f 1 (zL (sn_m (xW T a i))) μ = some (v, μ') ∧ sh_fr nM μ μ' ∧ sh_i μ' 291 38 = zI a ∧ (xR (xL T) g (a + i) - a ≤ 6 → v = zL (sn_m (xW T a (xR (xL T) g (a + i) - a))) ∧ sh_i μ' 291 2 = zI (xR (xL T) g (a + i)) ∧ sh_i μ' 291 4 = zI (xR (xL T) g (a + i)) ∧ sh_i μ' 291 5 = 0) ∧ (¬ xR (xL T) g (a + i) - a ≤ 6 → v = 0 ∧ sh_i μ' 291 5 = zI 1 ∧ sh_i μ' 291 6 = zI ((a + 6 : Nat) : Int)) := by
  intro g
  induction g with
  | zero =>
    intro f i μ hi hf hi6 hT h3 h2 h38 h5
    obtain ⟨f, rfl⟩ : ∃ q, f = q + 1 := ⟨f - 1, by omega⟩
    have hn := hT.1
    have ex : xR (xL T) 0 (a + i) = a + i := rfl
    have ei : a + i - a = i := by omega
    rw [ex, ei]
    refine ⟨zL (sn_m (xW T a i)), sh_setI μ 291 4 (zI ((a + i : Nat) : Int)), ?_, sh_fr_I sh_fr.rf (by unfold nM; omega), by rw [ir_set_k (by omega)]; exact h38, fun _ => ⟨rfl, by rw [ir_set_k (by omega)]; exact h2, by rw [ir_set], by rw [ir_set_k (by omega)]; exact h5⟩, fun z => absurd hi6 z⟩
    rw [F_X12_name, h3, h2, if_pos (zI_yes (by omega) (by omega)), shl_ap]
  | succ g ih =>
    intro f i μ hi hf hi6 hT h3 h2 h38 h5
    obtain ⟨f, rfl⟩ : ∃ q, f = q + 1 := ⟨f - 1, by omega⟩
    have hn := hT.1
    obtain ⟨t1, t2⟩ := hT.2 (a + i) (by omega)
    have t2 : sh_i μ 292 (zI ((a + i : Nat) : Int)).toNatClampNeg = zI (T (a + i)) := by rw [tcN (by omega)]; exact t2
    have i16 : sh_in (zI ((a + i : Nat) : Int)) 1600 := (zI_in (by omega)).mpr (by omega)
    have n1 : ¬ zI (n : Int) ≤ zI ((a + i : Nat) : Int) := zI_not (by omega) (by omega)
    have eL := rf_isLetter (μ := μ) (c := T (a + i)) t1
    have es : zI ((a + i : Nat) : Int) - zI (a : Int) = zI (i : Int) := by
      rw [zI_sub]
      congr 1
      omega
    by_cases c : xL T (a + i) = true
    · rw [xR_s c]
      have ea : a + i + 1 = a + (i + 1) := by omega
      have dd := xL_t.mp c
      by_cases c6 : i = 6
      · obtain ⟨m2, r1, r2, r3, r4⟩ := rf_fail (T := T) (n := n) (μ := μ) (k := 1) (p := a + i) h5
        have r1' : f_X12_fail 1 (zI ((a + i : Nat) : Int)) μ = some m2 := r1
        have hE := xR_le (xL T) g (a + i + 1)
        have h38' : sh_i m2 291 38 = zI a := by
          have : m2 = sh_setI (sh_setI μ 291 5 1) 291 6 (zI ((a + i : Nat) : Int)) := by
            unfold f_X12_fail at r1'
            rw [h5, if_pos rfl, shl_ap, shl_ap] at r1'
            exact (Option.some.inj r1').symm
          rw [this, ir_set_k (by omega), ir_set_k (by omega)]
          exact h38
        refine ⟨0, m2, ?_, r2, h38', fun z => absurd z (by omega), fun _ => ⟨rfl, r3, by rw [c6] at r4; exact r4⟩⟩
        rw [F_X12_name, h3, h2, if_neg n1, if_pos i16, t2, eL, if_pos dd, if_neg (by decide), h38, es, if_pos (show zI (i : Int) = 6 by rw [c6]; rfl), r1', shv_ap]
      · have e7 : 27 * zL (sn_m (xW T a i) : Int) + (zI (T (a + i) : Int)).toInt64 - 97 + 1 = zL (sn_m (xW T a (i + 1))) := by
          rw [zI_l (by omega) (by omega), show (27 : Int64) = zL 27 from rfl, show (97 : Int64) = zL 97 from rfl, show (1 : Int64) = zL 1 from rfl, zL_mul, zL_add, zL_sub, zL_add, xW_s, sn_m_app]
          congr 1
          omega
        obtain ⟨m1, hm1⟩ : ∃ m, m = sh_setI μ 291 2 (zI ((a + i : Nat) : Int) + 1) := ⟨_, rfl⟩
        have f1 : sh_fr nM μ m1 := by rw [hm1]; exact sh_fr_I sh_fr.rf (by unfold nM; omega)
        obtain ⟨v, μ', s1, s2, s3⟩ := ih f (i + 1) m1 (by omega) (by omega) (by omega) (hT.cg (f1.row _ (fun k => by unfold nM; omega))) (by rw [f1.i _ _ (by unfold nM; omega)]; exact h3) (by rw [hm1, ir_set, zI_s1, ea]) (by rw [hm1, ir_set_k (by omega), h38]) (by rw [hm1, ir_set_k (by omega), h5])
        rw [ea]
        refine ⟨v, μ', ?_, f1.trans s2, s3⟩
        rw [← s1, F_X12_name, h3, h2, if_neg n1, if_pos i16, t2, eL, if_pos dd, if_neg (by decide), h38, es, if_neg (show ¬ zI (i : Int) = 6 from fun z => c6 (by have := (zI_eq (b := 6) (by omega) (by omega) (by omega) (by omega)).mp z; omega)), if_pos i16, e7, shl_ap, ← hm1, shl_ap]
    · rw [xR_n c]
      have ei : a + i - a = i := by omega
      rw [ei]
      refine ⟨zL (sn_m (xW T a i)), sh_setI μ 291 4 (zI ((a + i : Nat) : Int)), ?_, sh_fr_I sh_fr.rf (by unfold nM; omega), by rw [ir_set_k (by omega)]; exact h38, fun _ => ⟨rfl, by rw [ir_set_k (by omega)]; exact h2, by rw [ir_set], by rw [ir_set_k (by omega)]; exact h5⟩, fun z => absurd hi6 z⟩
      rw [F_X12_name, h3, h2, if_neg n1, if_pos i16, t2, eL, if_neg (fun z => c (xL_t.mpr z)), if_pos rfl, shl_ap]
/-- a name as the reference has it; none: 0 -/
def xmm : xo (List Nat × xs) → Int
  | .inl _ => 0
  | .inr q => (sn_m q.1 : Int)
theorem rf_name {μ : sh_Mem} {s : xs} (h : mS μ T n s) (hw : hA μ) : ∃ μ', f_X12_name μ = some (zL (xmm (x_name T n s)), μ') ∧ sh_fr nM μ μ' ∧ mO μ' T n (xr (x_name T n s)) ∧ ((x_name T n s).isRight = true → sh_i μ' 291 38 = zI s.1) := by
  obtain ⟨m1, k1, k2, k3⟩ := rf_look h
  obtain ⟨hT, h3, h5, ha, h2', hb, d, d1, d2, d3, d4⟩ := id k3
  have hn := hT.1
  have k2' : sh_fr nM μ m1 := k2.mono (fun r k z => nLk_M z)
  have bad : ∀ m : sh_Mem, sh_fr nM μ m → sh_i m 291 5 = 0 → (x_name T n s = .inl (1, s.1)) → f_X12_name μ = sh_bindv (f_X12_fail 1 (zI (s.1 : Int)) m) (fun μ63 => some (0, μ63)) → ∃ μ', f_X12_name μ = some (zL (xmm (x_name T n s)), μ') ∧ sh_fr nM μ μ' ∧ mO μ' T n (xr (x_name T n s)) ∧ ((x_name T n s).isRight = true → sh_i μ' 291 38 = zI s.1) := by
    intro m fm h5m hx e0
    obtain ⟨m2, r1, r2, r3⟩ := rf_fail (T := T) (n := n) (μ := m) (k := 1) (p := s.1) h5m
    have r1' : f_X12_fail 1 (zI (s.1 : Int)) m = some m2 := r1
    rw [hx]
    exact ⟨m2, by rw [e0, r1', shv_ap]; rfl, fm.trans r2, r3, fun z => by cases z⟩
  have hx0 : ¬ xK T n s.1 s.2 = -2 → x_name T n s = .inl (1, s.1) := fun z => if_neg z
  have e0 : f_X12_name μ = (if (f_X12_isLetter m1 (zI (xc T n s))) = 0 then sh_bindv (f_X12_fail 1 (zI (s.1 : Int)) m1) (fun μ50 => some (0, μ50)) else (if (zI (s.1 : Int)) = (zI d) then sh_bindv (f_X12_fail 1 (zI (s.1 : Int)) m1) (fun μ54 => some (0, μ54)) else sh_bind (f_X12_isOwnHere m1) (fun y59 μ57 => (if y59 = 0 then sh_let (sh_setI μ57 291 38 (sh_i μ57 291 2)) (fun μ61 => F_X12_name sh_fuel 1 0 μ61) else sh_bindv (f_X12_fail 1 (sh_i μ57 291 2) μ57) (fun μ62 => some (0, μ62)))))) := by
    unfold f_X12_name
    rw [h.2.2.1, if_pos rfl, k1, shb_ap, h2', d1]
  by_cases hl : s.1 < n
  · obtain ⟨t1, -⟩ := hT.2 s.1 (by omega)
    have exc : xc T n s = (T s.1 : Int) := if_pos hl
    rw [exc, rf_isLetter t1] at e0
    by_cases c : xL T s.1 = true
    · have dd := xL_t.mp c
      rw [if_pos dd, if_neg (by decide)] at e0
      cases hg : s.2 with
      | true =>
        rw [if_pos (show zI (s.1 : Int) = zI d by rw [d4.mp hg])] at e0
        exact bad m1 k2' h5 (hx0 (fun z => by have := (xK_2 z).2.2; rw [hg] at this; cases this)) e0
      | false =>
        have hd : ¬ d = s.1 := fun z => by
          have := d4.mpr z
          rw [hg] at this
          cases this
        have hK : xK T n s.1 s.2 = -2 := by
          unfold xK
          rw [if_neg (show ¬ n ≤ s.1 by omega), if_pos c, hg, if_neg (by decide)]
        have hE : xE T n s.1 = xR (xL T) (n - s.1) s.1 := by unfold xE; rw [if_neg (show ¬ n ≤ s.1 by omega), if_pos c]
        rw [if_neg (fun z => hd (by have := (zI_eq (a := (s.1 : Int)) (b := d) (by omega) (by omega) (by omega) (by omega)).mp z; omega))] at e0
        obtain ⟨m2, q1, q2, q3⟩ := rf_own k3.S (fun w h1 j hj => by rw [k2.i _ _ (by unfold nLk; omega)]; exact hw w h1 j hj)
        have f2 : sh_fr nM μ m2 := k2'.trans (q2.mono (fun r k z => nLk_M z))
        obtain ⟨hT2, h32, h52, -, h22, -, -⟩ := id q3
        rw [q1, shb_ap, h22] at e0
        have hwb := wN_le (xW T s.1 (xE T n s.1 - s.1))
        by_cases co : 0 ≤ xw T n s ∧ xw T n s < 27
        · rw [decide_eq_true co, if_neg (show ¬ zI (bI true) = 0 by decide)] at e0
          refine bad m2 f2 h52 ?_ e0
          unfold x_name
          unfold xw at co
          rw [if_pos hK] at co ⊢
          by_cases c6 : xE T n s.1 - s.1 ≤ 6
          · rw [if_pos c6] at co ⊢
            rw [if_neg (by omega)]
          · rw [if_neg c6] at co
            omega
        · rw [decide_eq_false co, if_pos (show zI (bI false) = 0 from rfl), shl_ap] at e0
          obtain ⟨m3, hm3⟩ : ∃ m, m = sh_setI m2 291 38 (zI (s.1 : Int)) := ⟨_, rfl⟩
          rw [← hm3] at e0
          have f3 : sh_fr nM m2 m3 := by rw [hm3]; exact sh_fr_I sh_fr.rf (by unfold nM; omega)
          obtain ⟨v, μ', s1, s2, s3, s4, s5⟩ := rf_name1 (T := T) (n := n) (a := s.1) ha (n - s.1) sh_fuel 0 m3 (by omega) (by rw [sh_fuel_eq]; omega) (by omega) (hT2.cg (f3.row _ (fun k => by unfold nM; omega))) (by rw [f3.i _ _ (by unfold nM; omega)]; exact h32) (by rw [hm3, ir_set_k (by omega), h22]; rfl) (by rw [hm3, ir_set]) (by rw [hm3, ir_set_k (by omega), h52])
          rw [Nat.add_zero, ← hE] at s4 s5
          have s1' : F_X12_name sh_fuel 1 0 m3 = some (v, μ') := s1
          unfold x_name
          rw [if_pos hK]
          by_cases c6 : xE T n s.1 - s.1 ≤ 6
          · obtain ⟨p1, p2, p3, p4⟩ := s4 c6
            have hx : wN (xW T s.1 (xE T n s.1 - s.1)) = -1 ∨ 27 ≤ wN (xW T s.1 (xE T n s.1 - s.1)) := by
              unfold xw at co
              rw [if_pos hK, if_pos c6] at co
              omega
            rw [if_pos c6, if_pos hx]
            exact ⟨μ', by rw [e0, s1', p1]; rfl, (f2.trans f3).trans s2, mA k3 (Or.inl hK) (((q2.mono (fun r k z => nLk_M z)).trans (f3.trans s2)).row _ (fun k => by unfold nM; omega)) (((q2.mono (fun r k z => nLk_M z)).trans (f3.trans s2)).i _ _ (by unfold nM; omega)) p4 p2 p3, fun _ => s3⟩
          · obtain ⟨p1, p2, p3⟩ := s5 c6
            rw [if_neg c6]
            exact ⟨μ', by rw [e0, s1', p1]; rfl, (f2.trans f3).trans s2, ⟨p2, p3⟩, fun z => by cases z⟩
    · rw [if_neg (fun z => c (xL_t.mpr z)), if_pos rfl] at e0
      exact bad m1 k2' h5 (hx0 (fun z => c (xK_2 z).2.1)) e0
  · have exc : xc T n s = -1 := if_neg hl
    rw [exc, show f_X12_isLetter m1 (zI (-1)) = 0 from rfl, if_pos rfl] at e0
    exact bad m1 k2' h5 (hx0 (fun z => hl (xK_2 z).1)) e0
end Mc
