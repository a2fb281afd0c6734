/-! ASK: the reference reads a question -/
theorem ri_X12_qKind {μ μ' : sh_Mem} {v : Int32} (hG : sh_G μ) (h : f_X12_qKind μ = some (v, μ')) : rI μ μ' := by
  have hF : rI μ μ := rI.rf
  unfold f_X12_qKind at h
  obtain ⟨y3, μ1, hr2, h⟩ := sh_bind_e h
  have hG1 := gp_X12_takes hG (sh_LAYat_341) hr2
  have hF1 := hF.trans (ri_X12_takes hG (sh_LAYat_341) (by decide) hr2)
  by_cases c4 : y3 = 0
  · rw [if_pos c4] at h
    obtain ⟨y7, μ5, hr6, h⟩ := sh_bind_e h
    have hG5 := gp_X12_takes hG1 (sh_LAYat_342) hr6
    have hF5 := hF1.trans (ri_X12_takes hG1 (sh_LAYat_342) (by decide) hr6)
    by_cases c8 : y7 = 0
    · rw [if_pos c8] at h
      obtain ⟨y11, μ9, hr10, h⟩ := sh_bind_e h
      have hG9 := gp_X12_takes hG5 (sh_LAYat_343) hr10
      have hF9 := hF5.trans (ri_X12_takes hG5 (sh_LAYat_343) (by decide) hr10)
      by_cases c12 : y11 = 0
      · rw [if_pos c12] at h
        obtain ⟨y15, μ13, hr14, h⟩ := sh_bind_e h
        have hG13 := gp_X12_takes hG9 (sh_LAYat_344) hr14
        have hF13 := hF9.trans (ri_X12_takes hG9 (sh_LAYat_344) (by decide) hr14)
        by_cases c16 : y15 = 0
        · rw [if_pos c16] at h
          obtain ⟨y19, μ17, hr18, h⟩ := sh_bind_e h
          have hG17 := gp_X12_takes hG13 (sh_LAYat_345) hr18
          have hF17 := hF13.trans (ri_X12_takes hG13 (sh_LAYat_345) (by decide) hr18)
          by_cases c20 : y19 = 0
          · rw [if_pos c20] at h
            obtain ⟨μ21, hr22, h⟩ := sh_bindv_e h
            have hG21 := gp_X12_needs hG17 (sh_LAYat_346) hr22
            have hF21 := hF17.trans (ri_X12_needs hG17 (sh_LAYat_346) (by decide) hr22)
            obtain ⟨e1, e2⟩ := sh_some2 h
            exact e2 ▸ hF21
          · rw [if_neg c20] at h
            obtain ⟨e1, e2⟩ := sh_some2 h
            exact e2 ▸ hF17
        · rw [if_neg c16] at h
          obtain ⟨e1, e2⟩ := sh_some2 h
          exact e2 ▸ hF13
      · rw [if_neg c12] at h
        obtain ⟨e1, e2⟩ := sh_some2 h
        exact e2 ▸ hF9
    · rw [if_neg c8] at h
      obtain ⟨e1, e2⟩ := sh_some2 h
      exact e2 ▸ hF5
  · rw [if_neg c4] at h
    obtain ⟨e1, e2⟩ := sh_some2 h
    exact e2 ▸ hF1
theorem ci_X2_readQuestion {f1 : Nat} {μ μ' : sh_Mem} {v : Int32} (hG : sh_G μ) (hf1 : sh_isF f1) (h : f_X2_readQuestion f1 μ = some (v, μ')) : cI μ μ' := by
  have hF : cI μ μ := cI.rf
  unfold f_X2_readQuestion at h
  by_cases c1 : (sh_i μ 2 3) = (-2)
  · rw [if_pos c1] at h
    obtain ⟨x5, ex5⟩ : ∃ y : Int32, y = (sh_i μ 2 6) := ⟨_, rfl⟩
    rw [sh_let_eq ex5] at h
    by_cases c6 : x5 < 27
    · rw [if_pos c6] at h
      obtain ⟨y9, μ7, hr8, h⟩ := sh_bind_e h
      have hG7 := gp_X8_fails hG hr8
      have hF7 := hF.trans (ci_X8_fails hr8 (by decide))
      obtain ⟨e1, e2⟩ := sh_some2 h
      exact e2 ▸ hF7
    · rw [if_neg c6] at h
      by_cases c10 : x5 ≤ 32
      · rw [if_pos c10] at h
        obtain ⟨μ11, hr12, h⟩ := sh_bindv_e h
        have hG11 := gp_X8_advance hG hr12
        have hF11 := hF.trans (ci_X8_advance hG hr12)
        obtain ⟨μ14, hr15, h⟩ := sh_bindv_e h
        have hG14 := gp_X2_begin hG11 hf1 hr15
        have hF14 := hF11.trans (ci_X2_begin hG11 hf1 hr15)
        by_cases c17 : 29 < x5
        · rw [if_pos c17] at h
          obtain ⟨y20, μ18, hr19, h⟩ := sh_bind_e h
          have hG18 := gp_X2_sum_top hG14 hr19
          have hF18 := hF14.trans (ci_X2_sum_top hG14 hr19)
          by_cases c21 : y20 = 0
          · rw [if_pos c21] at h
            obtain ⟨e1, e2⟩ := sh_some2 h
            exact e2 ▸ hF18
          · rw [if_neg c21] at h
            obtain ⟨y24, μ22, hr23, h⟩ := sh_bind_e h
            have hG22 := gp_X8_takesMark hG18 hr23
            have hF22 := hF18.trans (ci_X8_takesMark hG18 hr23)
            by_cases c25 : y24 = 0
            · rw [if_pos c25] at h
              obtain ⟨e1, e2⟩ := sh_some2 h
              exact e2 ▸ hF22
            · rw [if_neg c25] at h
              obtain ⟨e1, e2⟩ := sh_some2 h
              exact e2 ▸ hF22
        · rw [if_neg c17] at h
          obtain ⟨y28, μ26, hr27, h⟩ := sh_bind_e h
          have hG26 := gp_X2_test_top hG14 hr27
          have hF26 := hF14.trans (ci_X2_test_top hG14 hr27)
          by_cases c29 : y28 = 0
          · rw [if_pos c29] at h
            obtain ⟨e1, e2⟩ := sh_some2 h
            exact e2 ▸ hF26
          · rw [if_neg c29] at h
            obtain ⟨y32, μ30, hr31, h⟩ := sh_bind_e h
            have hG30 := gp_X8_takesMark hG26 hr31
            have hF30 := hF26.trans (ci_X8_takesMark hG26 hr31)
            by_cases c33 : y32 = 0
            · rw [if_pos c33] at h
              obtain ⟨e1, e2⟩ := sh_some2 h
              exact e2 ▸ hF30
            · rw [if_neg c33] at h
              obtain ⟨e1, e2⟩ := sh_some2 h
              exact e2 ▸ hF30
      · rw [if_neg c10] at h
        obtain ⟨y36, μ34, hr35, h⟩ := sh_bind_e h
        have hG34 := gp_X8_fails hG hr35
        have hF34 := hF.trans (ci_X8_fails hr35 (by decide))
        obtain ⟨e1, e2⟩ := sh_some2 h
        exact e2 ▸ hF34
  · rw [if_neg c1] at h
    obtain ⟨y4, μ2, hr3, h⟩ := sh_bind_e h
    have hG2 := gp_X8_fails hG hr3
    have hF2 := hF.trans (ci_X8_fails hr3 (by decide))
    obtain ⟨e1, e2⟩ := sh_some2 h
    exact e2 ▸ hF2
section Aq7
variable {T : Nat → Nat} {n : Nat} {μ μ' : sh_Mem} {s : xs}
def hQ (μ : sh_Mem) : Prop := ∀ j, j < 6 → hW μ (341 + j) (27 + j)
theorem sw_C : ∀ j, j < 6 → ∃ q ∈ sw_T, q.1 = 341 + j ∧ q.2 = (WD.getD (27 + j) []).map (fun x => x + 96) := by decide +kernel
theorem sw_hQ (h : sm_W μ) : hQ μ := fun j hj => sw_h h (sw_C j hj)
theorem hQ.fr (h : hQ μ) (f : sh_fr nLk μ μ') : hQ μ' := fun j hj k hk => by
  rw [f.i _ _ (by unfold nLk; omega)]
  exact h j hj k hk
theorem rf_qKind (h : mS μ T n s) (hw : hQ μ) : ∃ (v : Int32) (m : sh_Mem), f_X12_qKind μ = some (v, m) ∧ sh_fr nM μ m ∧ (27 ≤ xw T n s → v = zI (xw T n s - 27) ∧ mS m T n (xA T n s)) ∧ (¬ 27 ≤ xw T n s → mO m T n (.inl (1, s.1))) := by
  have hxb := xw_b (T := T) (n := n) (s := s)
  have L : ∀ a b, sh_fr nLk a b → sh_fr nM a b := fun a b z => z.mono (fun _ _ q => nLk_M q)
  obtain ⟨m1, a0, b0, c0, d0⟩ := rf_takes (r := 341) (w := 27) h (by omega) (hw 0 (by omega)) (by omega)
  by_cases e0 : xw T n s = ((27 : Nat) : Int)
  · refine ⟨0, m1, ?_, b0, fun _ => ⟨by rw [e0]; rfl, c0 e0⟩, fun z => absurd (show 27 ≤ xw T n s by omega) z⟩
    unfold f_X12_qKind
    rw [show f_X12_takes 341 5 μ = _ from a0, shb_ap, decide_eq_true e0, if_neg (show ¬ zI (bI true) = 0 by decide)]
  have w1 : hQ m1 := hQ.fr hw (d0 e0).2
  obtain ⟨m2, a1, b1, c1, d1⟩ := rf_takes (r := 342) (w := 28) (d0 e0).1.S (by omega) (w1 1 (by omega)) (by omega)
  by_cases e1 : xw T n s = ((28 : Nat) : Int)
  · refine ⟨1, m2, ?_, (L _ _ (d0 e0).2).trans b1, fun _ => ⟨by rw [e1]; rfl, c1 e1⟩, fun z => absurd (show 27 ≤ xw T n s by omega) z⟩
    unfold f_X12_qKind
    rw [show f_X12_takes 341 5 μ = _ from a0, shb_ap, decide_eq_false e0, if_pos (show zI (bI false) = 0 from rfl), show f_X12_takes 342 4 m1 = _ from a1, shb_ap, decide_eq_true e1, if_neg (show ¬ zI (bI true) = 0 by decide)]
  have w2 : hQ m2 := hQ.fr w1 (d1 e1).2
  obtain ⟨m3, a2, b2, c2, d2⟩ := rf_takes (r := 343) (w := 29) (d1 e1).1.S (by omega) (w2 2 (by omega)) (by omega)
  by_cases e2 : xw T n s = ((29 : Nat) : Int)
  · refine ⟨2, m3, ?_, ((L _ _ (d0 e0).2).trans (L _ _ (d1 e1).2)).trans b2, fun _ => ⟨by rw [e2]; rfl, c2 e2⟩, fun z => absurd (show 27 ≤ xw T n s by omega) z⟩
    unfold f_X12_qKind
    rw [show f_X12_takes 341 5 μ = _ from a0, shb_ap, decide_eq_false e0, if_pos (show zI (bI false) = 0 from rfl), show f_X12_takes 342 4 m1 = _ from a1, shb_ap, decide_eq_false e1, if_pos (show zI (bI false) = 0 from rfl), show f_X12_takes 343 5 m2 = _ from a2, shb_ap, decide_eq_true e2, if_neg (show ¬ zI (bI true) = 0 by decide)]
  have w3 : hQ m3 := hQ.fr w2 (d2 e2).2
  obtain ⟨m4, a3, b3, c3, d3⟩ := rf_takes (r := 344) (w := 30) (d2 e2).1.S (by omega) (w3 3 (by omega)) (by omega)
  by_cases e3 : xw T n s = ((30 : Nat) : Int)
  · refine ⟨3, m4, ?_, (((L _ _ (d0 e0).2).trans (L _ _ (d1 e1).2)).trans (L _ _ (d2 e2).2)).trans b3, fun _ => ⟨by rw [e3]; rfl, c3 e3⟩, fun z => absurd (show 27 ≤ xw T n s by omega) z⟩
    unfold f_X12_qKind
    rw [show f_X12_takes 341 5 μ = _ from a0, shb_ap, decide_eq_false e0, if_pos (show zI (bI false) = 0 from rfl), show f_X12_takes 342 4 m1 = _ from a1, shb_ap, decide_eq_false e1, if_pos (show zI (bI false) = 0 from rfl), show f_X12_takes 343 5 m2 = _ from a2, shb_ap, decide_eq_false e2, if_pos (show zI (bI false) = 0 from rfl), show f_X12_takes 344 5 m3 = _ from a3, shb_ap, decide_eq_true e3, if_neg (show ¬ zI (bI true) = 0 by decide)]
  have w4 : hQ m4 := hQ.fr w3 (d3 e3).2
  obtain ⟨m5, a4, b4, c4, d4⟩ := rf_takes (r := 345) (w := 31) (d3 e3).1.S (by omega) (w4 4 (by omega)) (by omega)
  by_cases e4 : xw T n s = ((31 : Nat) : Int)
  · refine ⟨4, m5, ?_, ((((L _ _ (d0 e0).2).trans (L _ _ (d1 e1).2)).trans (L _ _ (d2 e2).2)).trans (L _ _ (d3 e3).2)).trans b4, fun _ => ⟨by rw [e4]; rfl, c4 e4⟩, fun z => absurd (show 27 ≤ xw T n s by omega) z⟩
    unfold f_X12_qKind
    rw [show f_X12_takes 341 5 μ = _ from a0, shb_ap, decide_eq_false e0, if_pos (show zI (bI false) = 0 from rfl), show f_X12_takes 342 4 m1 = _ from a1, shb_ap, decide_eq_false e1, if_pos (show zI (bI false) = 0 from rfl), show f_X12_takes 343 5 m2 = _ from a2, shb_ap, decide_eq_false e2, if_pos (show zI (bI false) = 0 from rfl), show f_X12_takes 344 5 m3 = _ from a3, shb_ap, decide_eq_false e3, if_pos (show zI (bI false) = 0 from rfl), show f_X12_takes 345 4 m4 = _ from a4, shb_ap, decide_eq_true e4, if_neg (show ¬ zI (bI true) = 0 by decide)]
  have w5 : hQ m5 := hQ.fr w4 (d4 e4).2
  obtain ⟨m6, a5, b5, c5⟩ := rf_word (r := 346) (w := 32) (d4 e4).1.S (by omega) (w5 5 (by omega)) (by omega)
  refine ⟨5, m6, ?_, (((((L _ _ (d0 e0).2).trans (L _ _ (d1 e1).2)).trans (L _ _ (d2 e2).2)).trans (L _ _ (d3 e3).2)).trans (L _ _ (d4 e4).2)).trans b5, fun z => ?_, fun z => ?_⟩
  · unfold f_X12_qKind
    rw [show f_X12_takes 341 5 μ = _ from a0, shb_ap, decide_eq_false e0, if_pos (show zI (bI false) = 0 from rfl), show f_X12_takes 342 4 m1 = _ from a1, shb_ap, decide_eq_false e1, if_pos (show zI (bI false) = 0 from rfl), show f_X12_takes 343 5 m2 = _ from a2, shb_ap, decide_eq_false e2, if_pos (show zI (bI false) = 0 from rfl), show f_X12_takes 344 5 m3 = _ from a3, shb_ap, decide_eq_false e3, if_pos (show zI (bI false) = 0 from rfl), show f_X12_takes 345 4 m4 = _ from a4, shb_ap, decide_eq_false e4, if_pos (show zI (bI false) = 0 from rfl), show f_X12_needs 346 5 m5 = _ from a5, shv_ap]
  · have e : xw T n s = ((32 : Nat) : Int) := by omega
    unfold x_word at c5
    rw [if_pos e] at c5
    exact ⟨by rw [e]; rfl, c5⟩
  · unfold x_word at c5
    rw [if_neg (fun q => z (by rw [q]; omega))] at c5
    exact c5
def nQr (r k : Nat) : Prop := nZq r k ∨ (r = 291 ∧ (k = 1 ∨ k = 3 ∨ k = 51))
theorem zIn0 {e : Nat} (h : 1 ≤ e ∧ e < 10) : ¬ zI (e : Int) = 0 := fun z => by
  have := (zI_eq (b := 0) (by omega) (by omega) (by omega) (by omega)).mp z
  omega
def qOut (μ m : sh_Mem) (k : Int32) (r : xo (Nat × List Nat)) : Prop := sh_fr nQr μ m ∧ sh_i m 291 1 = 0 ∧ (∀ e, r = .inl e → sh_i m 291 5 = zI e.1 ∧ sh_i m 291 6 = zI e.2 ∧ 1 ≤ e.1 ∧ e.1 < 10) ∧ (∀ q, r = .inr q → k = zI ((q.1 : Int) - 27) ∧ sh_i m 291 5 = 0 ∧ sh_i m 291 6 = -1 ∧ sh_i m 291 103 = zI (q.2.length : Nat) ∧ ∀ j, j < q.2.length → sh_i m 364 j = zI (sg_m (q.2.getD j 0)))
/-- the end of a question -/
theorem rf_qEnd {m1 m3 : sh_Mem} {q : xp} {k : Int32} {w f : Nat} (G3 : sh_G m3) (h6 : sh_i m3 291 5 = 0 → sh_i m3 291 6 = -1) (F1 : sh_fr nQr μ m1) (z1 : sh_i m1 291 1 = 0) (hk : k = zI ((w : Int) - 27)) (hT : ∀ j, j < 1600 → T j < 256) (hn : n ≤ 1600) (h : rfT T n m1 m3 [] [] 0 0 q) : ∃ m, F_X12_ask (f + 1) 2 k 0 m3 = F_X12_ask f 3 k 0 m ∧ qOut μ m k (xb q fun a => xb (x_mark T n (-1) a.1) fun _ => .inr (w, a.2)) := by
  have nz1 : ¬ nZq 291 1 := by unfold nZq nM nWq; omega
  cases q with
  | inl e =>
    have hF : mFu m1 m3 e := h
    refine ⟨m3, ?_, F1.trans (hF.1.mono (fun _ _ z => Or.inl z)), by rw [hF.1.i _ _ nz1]; exact z1, fun e' he => ?_, fun q hq => (by cases hq)⟩
    · rw [F_X12_ask, if_neg (show ¬ sh_i m3 291 5 = 0 by rw [hF.2.1]; exact zIn0 hF.2.2.2)]
    · cases he
      exact ⟨hF.2.1, hF.2.2.1, hF.2.2.2⟩
  | inr a =>
    obtain ⟨f3, S3, W3, -⟩ : mRd m1 m3 T n a.1 ([] ++ a.2.map gm) [] 0 0 := h
    rw [List.nil_append] at W3
    obtain ⟨m4, a1, a2, a3⟩ := rf_look S3
    have h5 : sh_i m3 291 5 = 0 := S3.2.2.1
    have xk := xK_c (T := T) (n := n) (s := a.1) hT hn (c := -1) (Or.inr rfl)
    have xcb : -1 ≤ xc T n a.1 ∧ xc T n a.1 < 256 := by
      unfold xc
      split
      · have := hT a.1.1 (by omega)
        omega
      · omega
    by_cases c : xK T n a.1.1 a.1.2 = -1
    · have ec : xc T n a.1 = -1 := xk.mp c
      have ex : x_mark T n (-1) a.1 = .inr (xA T n a.1) := if_pos c
      refine ⟨m4, ?_, F1.trans ((f3.mono (fun _ _ z => Or.inl z)).trans (a2.mono (fun _ _ z => Or.inl (nZq_L z)))), by rw [a2.i _ _ (by unfold nLk; omega), f3.i _ _ nz1]; exact z1, fun e' he => ?_, fun q hq => ?_⟩
      · rw [F_X12_ask, if_pos h5, a1, shb_ap, ec, if_pos (show zI (-1) = -1 from rfl)]
      · have he2 : xb (x_mark T n (-1) a.1) (fun _ => (.inr (w, a.2) : xo (Nat × List Nat))) = .inl e' := he
        rw [ex] at he2
        cases he2
      · have he2 : xb (x_mark T n (-1) a.1) (fun _ => (.inr (w, a.2) : xo (Nat × List Nat))) = .inr q := hq
        rw [ex] at he2
        cases he2
        have ww := W3.fL a2
        refine ⟨hk, a3.2.2.1, ?_, ?_, fun j hj => ?_⟩
        · rw [a2.i _ _ (by unfold nLk; omega)]; exact h6 h5
        · have := ww.1
          rw [List.length_map] at this
          exact this
        · have := ww.2.1 j (by rw [List.length_map]; exact hj)
          rw [this, ← gm_z]
          congr 1
          congr 1
          have hj' : j < a.2.length := hj
          rw [List.getD_eq_getElem?_getD, List.getElem?_map, List.getElem?_eq_getElem hj', List.getD_eq_getElem?_getD, List.getElem?_eq_getElem hj']
          rfl
    · have ec : ¬ xc T n a.1 = -1 := fun z => c (xk.mpr z)
      have ex : x_mark T n (-1) a.1 = .inl (1, a.1.1) := if_neg c
      obtain ⟨m5, b1, b2, b3⟩ := rf_fail (T := T) (n := n) (k := 1) (p := a.1.1) a3.2.2.1
      refine ⟨m5, ?_, F1.trans ((f3.mono (fun _ _ z => Or.inl z)).trans ((a2.mono (fun _ _ z => Or.inl (nZq_L z))).trans (b2.mono (fun _ _ z => Or.inl (nZq_M z))))), by rw [b2.i _ _ (by unfold nM; omega), a2.i _ _ (by unfold nLk; omega), f3.i _ _ nz1]; exact z1, fun e' he => ?_, fun q hq => ?_⟩
      · have nn : ¬ zI (xc T n a.1) = -1 := fun z => ec ((zI_eq (b := -1) (by omega) (by omega) (by omega) (by omega)).mp z)
        rw [F_X12_ask, if_pos h5, a1, shb_ap, if_neg nn, a3.2.2.2.2.1, show f_X12_fail 1 (zI (a.1.1 : Int)) m4 = some m5 from b1, shv_ap]
      · have he2 : xb (x_mark T n (-1) a.1) (fun _ => (.inr (w, a.2) : xo (Nat × List Nat))) = .inl e' := he
        rw [ex] at he2
        cases he2
        exact ⟨b3.1, b3.2, by simp, by simp⟩
      · have he2 : xb (x_mark T n (-1) a.1) (fun _ => (.inr (w, a.2) : xo (Nat × List Nat))) = .inr q := hq
        rw [ex] at he2
        cases he2
/-- the reference reads a question -/
theorem rf_questR {r : xo (Nat × List Nat)} (hG : sh_G μ) (hT : xT μ 292 T n) (h1 : sh_i μ 291 1 = zI n) (h50 : ¬ sh_i μ 291 50 = 0) (hb : hB μ) (hq : hQ μ) (hr : QRt T n (s00 T n) r) : ∃ (k : Int32) (f : Nat) (m : sh_Mem), 100 ≤ f ∧ f_X12_ask μ = F_X12_ask f 3 k 0 m ∧ qOut μ m k r := by
  obtain ⟨f, hf⟩ : ∃ f, sh_fuel = f + 1 + 1 := ⟨sh_fuel - 2, by have := sh_fuel_eq; omega⟩
  have hf1 : 100 ≤ f := by have := sh_fuel_eq; omega
  obtain ⟨m1, hm1⟩ : ∃ m, m = sh_setI (sh_setI (sh_setI (sh_setI (sh_setI (sh_setI (sh_setI (sh_setI (sh_setI (sh_setI (sh_setI μ 291 3 (zI n)) 291 1 0) 291 2 0) 291 4 (-1)) 291 5 0) 291 6 (-1)) 291 51 2) 291 103 0) 291 105 0) 291 106 0) 291 107 0 := ⟨_, rfl⟩
  have F1 : sh_fr nQr μ m1 := by
    rw [hm1]
    have q : ∀ k, (k = 1 ∨ k = 3 ∨ k = 51 ∨ k = 2 ∨ k = 4 ∨ k = 5 ∨ k = 6 ∨ k = 103 ∨ k = 105 ∨ k = 106 ∨ k = 107) → nQr 291 k := fun k hk => by unfold nQr nZq nM nWq; omega
    exact sh_fr_I (sh_fr_I (sh_fr_I (sh_fr_I (sh_fr_I (sh_fr_I (sh_fr_I (sh_fr_I (sh_fr_I (sh_fr_I (sh_fr_I sh_fr.rf (q _ (by omega))) (q _ (by omega))) (q _ (by omega))) (q _ (by omega))) (q _ (by omega))) (q _ (by omega))) (q _ (by omega))) (q _ (by omega))) (q _ (by omega))) (q _ (by omega))) (q _ (by omega))
  have nq : ∀ r k, ¬ r = 291 → ¬ r = 364 → ¬ r = 365 → ¬ nQr r k := fun r k z1 z2 z3 z => by unfold nQr nZq nM nWq at z; omega
  have G1 : sh_G m1 := by rw [hm1]; exact hG
  have v3 : sh_i m1 291 3 = zI n := by rw [hm1, ir_set_k (by omega), ir_set_k (by omega), ir_set_k (by omega), ir_set_k (by omega), ir_set_k (by omega), ir_set_k (by omega), ir_set_k (by omega), ir_set_k (by omega), ir_set_k (by omega), ir_set_k (by omega), ir_set]
  have v1 : sh_i m1 291 1 = 0 := by rw [hm1, ir_set_k (by omega), ir_set_k (by omega), ir_set_k (by omega), ir_set_k (by omega), ir_set_k (by omega), ir_set_k (by omega), ir_set_k (by omega), ir_set_k (by omega), ir_set_k (by omega), ir_set]
  have v2 : sh_i m1 291 2 = 0 := by rw [hm1, ir_set_k (by omega), ir_set_k (by omega), ir_set_k (by omega), ir_set_k (by omega), ir_set_k (by omega), ir_set_k (by omega), ir_set_k (by omega), ir_set_k (by omega), ir_set]
  have v4 : sh_i m1 291 4 = zI (-1) := by rw [hm1, ir_set_k (by omega), ir_set_k (by omega), ir_set_k (by omega), ir_set_k (by omega), ir_set_k (by omega), ir_set_k (by omega), ir_set_k (by omega), ir_set]; rfl
  have v5 : sh_i m1 291 5 = 0 := by rw [hm1, ir_set_k (by omega), ir_set_k (by omega), ir_set_k (by omega), ir_set_k (by omega), ir_set_k (by omega), ir_set_k (by omega), ir_set]
  have v6 : sh_i m1 291 6 = -1 := by rw [hm1, ir_set_k (by omega), ir_set_k (by omega), ir_set_k (by omega), ir_set_k (by omega), ir_set_k (by omega), ir_set]
  have v51 : sh_i m1 291 51 = zI (kM 2) := by rw [hm1, ir_set_k (by omega), ir_set_k (by omega), ir_set_k (by omega), ir_set_k (by omega), ir_set]; rfl
  have v103 : sh_i m1 291 103 = 0 := by rw [hm1, ir_set_k (by omega), ir_set_k (by omega), ir_set_k (by omega), ir_set]
  have v105 : sh_i m1 291 105 = 0 := by rw [hm1, ir_set_k (by omega), ir_set_k (by omega), ir_set]
  have v106 : sh_i m1 291 106 = 0 := by rw [hm1, ir_set_k (by omega), ir_set]
  have v107 : sh_i m1 291 107 = 0 := by rw [hm1, ir_set]
  have S1 : mS m1 T n (s00 T n) := by
    refine ⟨hT.cg (F1.row 292 (fun k => nq _ _ (by omega) (by omega) (by omega))), v3, v5, 0, -1, Nat.zero_le n, by rw [v2]; rfl, rfl, v4, by omega, by omega, ?_⟩
    constructor
    · intro z; cases z
    · intro z
      exact absurd z (by show ¬ (-1 : Int) = ((xS T n 0 : Nat) : Int); omega)
  have B1 : hB m1 := fun j hj x hx => by
    rw [F1.i _ _ (nq _ _ (by omega) (by omega) (by omega))]
    exact hb j hj x hx
  have Q1 : hQ m1 := fun j hj x hx => by
    rw [F1.i _ _ (nq _ _ (by omega) (by omega) (by omega))]
    exact hq j hj x hx
  obtain ⟨v, m2, a1, a2, a3, a4⟩ := rf_qKind S1 Q1
  have e0 : f_X12_ask μ = (if (sh_i m2 291 5) = 0 then (if 3 ≤ v then F_X12_ask sh_fuel 1 v 0 m2 else sh_bindv (f_X12_qTest m2) (fun μ156 => F_X12_ask sh_fuel 2 v 0 μ156)) else F_X12_ask sh_fuel 1 v 0 m2) := by
    unfold f_X12_ask
    rw [if_neg h50, h1, shl_ap, shl_ap, shl_ap, shl_ap, shl_ap, shl_ap, shl_ap, shl_ap, shl_ap, shl_ap, shl_ap, ← hm1, a1, shb_ap]
  have G2 : sh_G m2 := gp_X12_qKind G1 a1
  have I2 : sh_i m2 291 5 = 0 → sh_i m2 291 6 = -1 := ri_X12_qKind G1 a1 (fun _ => v6)
  have hxb := xw_b (T := T) (n := n) (s := s00 T n)
  have hT8 : ∀ j, j < 1600 → T j < 256 := fun j hj => (hT.2 j hj).1
  unfold QRt at hr
  by_cases h27 : 27 ≤ xw T n (s00 T n)
  rotate_left
  · rw [if_neg h27] at hr
    have o2 := a4 h27
    have n5 : ¬ sh_i m2 291 5 = 0 := by rw [o2.1]; exact zIn0 (e := 1) (by omega)
    refine ⟨v, f, m2, hf1, ?_, F1.trans (a2.mono (fun _ _ z => Or.inl (nZq_M z))), by rw [a2.i _ _ (by unfold nM; omega)]; exact v1, fun e he => ?_, fun q hq => ?_⟩
    · rw [e0, if_neg n5, hf, F_X12_ask, if_neg n5, F_X12_ask, if_neg n5]
    · rw [hr] at he
      cases he
      exact ⟨o2.1, o2.2, by simp, by simp⟩
    · rw [hr] at hq
      cases hq
  rw [if_pos h27] at hr
  obtain ⟨q, hq1, hq2⟩ := hr
  obtain ⟨ev, S2⟩ := a3 h27
  obtain ⟨w, hw⟩ : ∃ w : Nat, xw T n (s00 T n) = (w : Int) := ⟨(xw T n (s00 T n)).toNat, by omega⟩
  have hw2 : 27 ≤ w ∧ w ≤ 32 := by omega
  rw [hw] at ev hq1
  have h5 : sh_i m2 291 5 = 0 := S2.2.2.1
  have R2 : mRd m1 m2 T n (xA T n (s00 T n)) [] [] 0 0 := by
    refine ⟨a2.mono (fun _ _ z => nZq_M z), S2, ⟨?_, fun j hj => absurd hj (Nat.not_lt_zero _), ?_, fun j hj => absurd hj (Nat.not_lt_zero _), ?_, ?_⟩, Nat.zero_le _, Nat.zero_le _, fun y hy => (by cases hy), by omega⟩
    · rw [a2.i _ _ (by unfold nM; omega)]; exact v103
    · rw [a2.i _ _ (by unfold nM; omega)]; exact v105
    · rw [a2.i _ _ (by unfold nM; omega)]; exact v106
    · rw [a2.i _ _ (by unfold nM; omega)]; exact v107
  have hr2 : r = xb q fun a => xb (x_mark T n (-1) a.1) fun _ => .inr (w, a.2) := by
    rw [hq2, hw]
    rfl
  by_cases c29 : w ≤ 29
  · rw [if_pos (by omega)] at hq1
    obtain ⟨m3, b1, b2⟩ := rf_qTest (kd := 2) (by omega) B1 v51 R2 hq1
    obtain ⟨m, c1, c2⟩ := rf_qEnd (f := f + 1) (w := w) (gp_X12_qTest G2 b1) (ri_X12_qTest G2 b1 I2) F1 v1 ev hT8 hT.1 b2
    refine ⟨v, f + 1, m, by omega, ?_, by rw [hr2]; exact c2⟩
    have lt : ¬ (3 : Int32) ≤ v := by rw [ev]; exact zI_not (b := 3) (by omega) (by omega)
    rw [e0, if_pos h5, if_neg lt, b1, shv_ap, hf]
    exact c1
  · rw [if_neg (by omega)] at hq1
    obtain ⟨m3, b1, b2⟩ := rf_qSums (kd := 2) (by omega) B1 v51 R2 (by decide) hq1
    have b3 : rfT T n m1 m3 [] [] 0 0 q := by
      cases q with
      | inl e => exact mFt.u b2
      | inr a => exact b2
    obtain ⟨m, c1, c2⟩ := rf_qEnd (f := f) (w := w) (gp_X12_qSums G2 b1) (ri_X12_qSums G2 b1 I2) F1 v1 ev hT8 hT.1 b3
    refine ⟨v, f, m, by omega, ?_, by rw [hr2]; exact c2⟩
    have lt : (3 : Int32) ≤ v := by rw [ev]; exact zI_yes (a := 3) (by omega) (by omega)
    rw [e0, if_pos h5, if_pos lt, hf, F_X12_ask, if_pos h5, b1, shv_ap]
    exact c1
end Aq7
