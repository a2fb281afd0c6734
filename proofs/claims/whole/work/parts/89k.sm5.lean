/-! THE REFERENCE: any statement -/
section Sm5
variable {T : Nat → Nat} {n : Nat} {μ0 μ μ' : sh_Mem} {s s' : xs} {P : sp_T} {L : sl_T} {cod stt : Nat}
/-- behind a statement and its mark -/
def mOQ (μ0 m : sh_Mem) (T : Nat → Nat) (n stt : Nat) (r : xd) : Prop := (∀ e, r = .inl e → mXf μ0 m e) ∧ (∀ q, r = .inr q → (∀ e, x_mark T n 59 q.1 = .inl e → mXf μ0 m e) ∧ (∀ s2, x_mark T n 59 q.1 = .inr s2 → ∃ cod', mD μ0 m T n s2 q.2.1 q.2.2 cod' (stt + 1)))
noncomputable def tlT (x : Option sh_Mem) : Option sh_Mem := sh_bindv x (fun μ46 => sh_bindv (f_X12_asksSign 59 μ46) (fun μ49 => sh_let (sh_setI μ49 291 49 ((sh_i μ49 291 49) + 1)) (fun μ52 => some μ52)))
theorem mXf.st {e : Nat × Nat} {v : Int32} (h : mXf μ0 μ e) : mXf μ0 (sh_setI μ 291 49 v) e := ⟨h.1.trans (sh_fr_I sh_fr.rf (by unfold nDm; omega)), by rw [ir_set_k (by omega)]; exact h.2.1, by rw [ir_set_k (by omega)]; exact h.2.2.1, h.2.2.2⟩
theorem rf_tlX {e : Nat × Nat} {r : xd} {m : sh_Mem} (h : mXf μ0 m e) (hr : r = .inl e) : ∃ m', tlT (some m) = some m' ∧ mOQ μ0 m' T n stt r := by
  refine ⟨sh_setI m 291 49 (sh_i m 291 49 + 1), ?_, fun e' he => by rw [hr] at he; cases he; exact h.st, fun q hq => by rw [hr] at hq; cases hq⟩
  unfold tlT
  rw [shv_ap, as_X h.ne, shv_ap, shl_ap]
theorem rf_tl {c : sh_Mem → Option sh_Mem} {r : xd} (h : mSst T n μ0 stt cod c r μ) : ∃ m, tlT (c μ) = some m ∧ mOQ μ0 m T n stt r := by
  obtain ⟨m1, h1, h2⟩ := h
  rw [h1]
  cases r with
  | inl e => exact rf_tlX h2 rfl
  | inr q =>
    obtain ⟨cod', -, h3⟩ := h2
    rcases h3.mark (c := 59) (by omega) with ⟨e, m2, q1, q2, q3⟩ | ⟨s2, m2, q1, q2, q3⟩
    · refine ⟨sh_setI m2 291 49 (sh_i m2 291 49 + 1), ?_, fun e' he => (by cases he), fun q' hq => ?_⟩
      · unfold tlT
        rw [shv_ap, show f_X12_asksSign 59 m1 = some m2 from q2, shv_ap, shl_ap]
      · cases hq
        exact ⟨fun e' he => by rw [q1] at he; cases he; exact q3.st, fun s2 hs => by rw [q1] at hs; cases hs⟩
    · refine ⟨sh_setI m2 291 49 (sh_i m2 291 49 + 1), ?_, fun e' he => (by cases he), fun q' hq => ?_⟩
      · unfold tlT
        rw [shv_ap, show f_X12_asksSign 59 m1 = some m2 from q2, shv_ap, shl_ap]
      · cases hq
        refine ⟨fun e' he => (by rw [q1] at he; cases he), fun s3 hs => ?_⟩
        rw [q1] at hs
        cases hs
        obtain ⟨a1, a2, a3, a4, a5⟩ := q3
        have f : sh_fr (fun r k => r = 291 ∧ k = 49) m2 (sh_setI m2 291 49 (sh_i m2 291 49 + 1)) := sh_fr_I sh_fr.rf ⟨rfl, rfl⟩
        refine ⟨cod', a1.trans (f.mono (fun r k z => by unfold nDm; omega)), ?_, a3.cg (fun r z1 z2 => f.row r (fun k => by omega)) (f.lrow 323 (fun k => by omega)) (f.i 291 48 (by omega)), a4, by rw [ir_set, a5, zI_s1]⟩
        obtain ⟨h1, h2, h3, e, d, d1, d2, d3, d4, d5⟩ := a2
        exact ⟨h1.cg (f.row 292 (fun k => by omega)), by rw [f.i 291 3 (by omega)]; exact h2, by rw [f.i 291 5 (by omega)]; exact h3, e, d, d1, by rw [f.i 291 2 (by omega)]; exact d2, d3, by rw [f.i 291 4 (by omega)]; exact d4, d5⟩
theorem mD.tk {w : Nat} (h : mD μ0 μ T n s P L cod stt) (hw : hA μ0) (hw2 : w < 27) : ∃ m, f_X12_takes (294 + w) (WD.getD w []).length μ = some (zI (bI (decide (xw T n s = (w : Int)))), m) ∧ (xw T n s = (w : Int) → mD μ0 m T n (xA T n s) P L cod stt) ∧ (¬ xw T n s = (w : Int) → mD μ0 m T n s P L cod stt) := by
  obtain ⟨m, a1, a2, a3, a4⟩ := rf_takes h.2.1 (show w < 33 by omega) (h.A hw w hw2) (show ¬ 294 + w = 291 by omega)
  have hle := xA_le (T := T) h.2.1.le.1
  exact ⟨m, a1, fun z => h.lex a2 (a3 z) (by omega), fun z => h.lex a2 (a4 z).1.S (Nat.le_refl _)⟩
theorem rf_stmt {r : xd} (hw : hA μ0) (hb0 : hB μ0) (h : mD μ0 μ T n s P L cod stt) (hN : mN μ T n s) (hd : dOK P L) (hst : stt < 80) (hr : SRt T n s P L r) : ∃ m, f_X12_statementTold μ = some m ∧ mOQ μ0 m T n stt r := by
  have hb := sp_bd hd.1
  have x1 : sh_i μ 291 2 = zI s.1 := hN.2.2.2.2.1
  have n80 : ¬ sh_i μ 291 49 = 80 := fun z => by
    rw [h.2.2.2.2] at z
    have := (zI_eq (b := 80) (by omega) (by omega) (by omega) (by omega)).mp z
    omega
  have full : ∀ (m : sh_Mem) (c : sh_Mem → Option sh_Mem), mD μ0 m T n (xA T n s) P L cod stt → (∃ m2, c m = some m2 ∧ sh_fr nM m m2 ∧ sh_i m2 291 5 = zI 5 ∧ sh_i m2 291 6 = zI s.1) → r = .inl (5, s.1) → ∃ m', tlT (c m) = some m' ∧ mOQ μ0 m' T n stt r := fun m c hm ⟨m2, z1, z2, z3, z4⟩ he => by
    rw [z1]
    exact rf_tlX (e := (5, s.1)) ⟨hm.1.trans (z2.mono (fun _ _ z => nD_M z)), z3, z4, by simp, by simp⟩ he
  unfold SRt at hr
  unfold f_X12_statementTold
  rw [x1, shl_ap, if_neg n80]
  obtain ⟨m2, k2, y2, z2⟩ := mD.tk (w := 2) h hw (by omega)
  have k2' : f_X12_takes 296 4 μ = some (zI (bI (decide (xw T n s = (2 : Int)))), m2) := k2
  rw [k2', shb_ap]
  by_cases c2 : xw T n s = (2 : Int)
  · rw [decide_eq_true c2, if_neg (show ¬ zI (bI true) = 0 by decide)]
    have hm := y2 c2
    rw [if_pos c2] at hr
    rw [hr]
    exact rf_tl (rf_highS hm hd)
  rw [decide_eq_false c2, if_pos (show zI (bI false) = 0 from rfl)]
  rw [if_neg c2] at hr
  obtain ⟨m3, k3, y3, z3⟩ := mD.tk (w := 3) (z2 c2) hw (by omega)
  have k3' : f_X12_takes 297 5 m2 = some (zI (bI (decide (xw T n s = (3 : Int)))), m3) := k3
  rw [k3', shb_ap]
  by_cases c3 : xw T n s = (3 : Int)
  · rw [decide_eq_true c3, if_neg (show ¬ zI (bI true) = 0 by decide)]
    have hm := y3 c3
    rw [if_pos c3] at hr
    by_cases f : 5 ≤ sp_nt P
    · rw [if_pos f] at hr
      obtain ⟨m2, g1, g2, g3, g4⟩ := rf_fullX (k := 0) (room := 5) (p := s.1) hm.2.1.2.2.1 (by omega) (by rw [hm.2.2.1.2.1.1, show sp_nt P = 5 by omega])
      refine full m3 (f_X12_topicTold (zI s.1)) hm ⟨m2, ?_, g2, g3, g4⟩ hr
      unfold f_X12_topicTold
      rw [show f_X12_isFull 0 5 (zI (s.1 : Int)) m3 = some (1, m2) from g1, shb_ap, if_neg (show ¬ (1 : Int32) = 0 by decide)]
    · rw [if_neg f] at hr
      rw [hr]
      exact rf_tl (rf_topicS (p := s.1) hm hd hw f)
  rw [decide_eq_false c3, if_pos (show zI (bI false) = 0 from rfl)]
  rw [if_neg c3] at hr
  obtain ⟨m4, k4, y4, z4⟩ := mD.tk (w := 4) (z3 c3) hw (by omega)
  have k4' : f_X12_takes 298 6 m3 = some (zI (bI (decide (xw T n s = (4 : Int)))), m4) := k4
  rw [k4', shb_ap]
  by_cases c4 : xw T n s = (4 : Int)
  · rw [decide_eq_true c4, if_neg (show ¬ zI (bI true) = 0 by decide)]
    have hm := y4 c4
    rw [if_pos c4] at hr
    by_cases f : 7 ≤ sp_np P
    · rw [if_pos f] at hr
      obtain ⟨m2, g1, g2, g3, g4⟩ := rf_fullX (k := 1) (room := 7) (p := s.1) hm.2.1.2.2.1 (by omega) (by rw [hm.2.2.1.2.1.2.1, show sp_np P = 7 by omega])
      refine full m4 (f_X12_personTold (zI s.1)) hm ⟨m2, ?_, g2, g3, g4⟩ hr
      unfold f_X12_personTold
      rw [show f_X12_isFull 1 7 (zI (s.1 : Int)) m4 = some (1, m2) from g1, shb_ap, if_neg (show ¬ (1 : Int32) = 0 by decide)]
    · rw [if_neg f] at hr
      rw [hr]
      exact rf_tl (rf_personS (x0 := s.1) hm hd hw f)
  rw [decide_eq_false c4, if_pos (show zI (bI false) = 0 from rfl)]
  rw [if_neg c4] at hr
  obtain ⟨m7, k7, y7, z7⟩ := mD.tk (w := 7) (z4 c4) hw (by omega)
  have k7' : f_X12_takes 301 5 m4 = some (zI (bI (decide (xw T n s = (7 : Int)))), m7) := k7
  rw [k7', shb_ap]
  by_cases c7 : xw T n s = (7 : Int)
  · rw [decide_eq_true c7, if_neg (show ¬ zI (bI true) = 0 by decide)]
    have hm := y7 c7
    rw [if_pos c7] at hr
    rw [hr]
    exact rf_tl (rf_knowsS hm hd hw)
  rw [decide_eq_false c7, if_pos (show zI (bI false) = 0 from rfl)]
  rw [if_neg c7] at hr
  obtain ⟨m9, k9, y9, z9⟩ := mD.tk (w := 9) (z7 c7) hw (by omega)
  have k9' : f_X12_takes 303 4 m7 = some (zI (bI (decide (xw T n s = (9 : Int)))), m9) := k9
  rw [k9', shb_ap]
  by_cases c9 : xw T n s = (9 : Int)
  · rw [decide_eq_true c9, if_neg (show ¬ zI (bI true) = 0 by decide)]
    have hm := y9 c9
    rw [if_pos c9] at hr
    by_cases f : 12 ≤ (sp_li P).length
    · rw [if_pos f] at hr
      obtain ⟨m2, g1, g2, g3, g4⟩ := rf_fullX (k := 2) (room := 12) (p := s.1) hm.2.1.2.2.1 (by omega) (by rw [hm.2.2.1.2.1.2.2, show (sp_li P).length = 12 by omega])
      refine full m9 (f_X12_listTold (zI s.1)) hm ⟨m2, ?_, g2, g3, g4⟩ hr
      unfold f_X12_listTold
      rw [show f_X12_isFull 2 12 (zI (s.1 : Int)) m9 = some (1, m2) from g1, shb_ap, if_neg (show ¬ (1 : Int32) = 0 by decide)]
    · rw [if_neg f] at hr
      rw [hr]
      exact rf_tl (rf_listS (x := s.1) hm hd hw f)
  rw [decide_eq_false c9, if_pos (show zI (bI false) = 0 from rfl)]
  rw [if_neg c9] at hr
  obtain ⟨m10, k10, y10, z10⟩ := mD.tk (w := 10) (z9 c9) hw (by omega)
  have k10' : f_X12_takes 304 5 m9 = some (zI (bI (decide (xw T n s = (10 : Int)))), m10) := k10
  rw [k10', shb_ap]
  by_cases c10 : xw T n s = (10 : Int)
  · rw [decide_eq_true c10, if_neg (show ¬ zI (bI true) = 0 by decide)]
    have hm := y10 c10
    rw [if_pos c10] at hr
    by_cases f : (sp_told P).1 = true
    · rw [if_pos f] at hr
      refine full m10 (f_X12_codesTold 0 (zI s.1)) hm (rl_X0 hm.2.1.2.2.1 ?_) hr
      have := hm.2.2.1.2.2.2.2.2.2.1.1
      unfold mF0 at this
      rw [if_neg (by rw [f]; decide)] at this
      obtain ⟨a, b, a1, a2, -, a4, -⟩ := this
      have hcod := hm.2.2.2.1
      have hle := hm.2.1.le
      rw [a4]
      exact ofN (p := a) (by omega)
    · rw [if_neg f] at hr
      obtain ⟨q, q1, q2⟩ := hr
      rw [q2]
      exact rf_tl (rf_rule0 (p := s.1) q1 hm hb0 (Bool.eq_false_iff.mpr f))
  rw [decide_eq_false c10, if_pos (show zI (bI false) = 0 from rfl)]
  rw [if_neg c10] at hr
  obtain ⟨m11, k11, y11, z11⟩ := mD.tk (w := 11) (z10 c10) hw (by omega)
  have k11' : f_X12_takes 305 5 m10 = some (zI (bI (decide (xw T n s = (11 : Int)))), m11) := k11
  rw [k11', shb_ap]
  by_cases c11 : xw T n s = (11 : Int)
  · rw [decide_eq_true c11, if_neg (show ¬ zI (bI true) = 0 by decide)]
    have hm := y11 c11
    rw [if_pos c11] at hr
    by_cases f : (sp_told P).2.1 = true
    · rw [if_pos f] at hr
      refine full m11 (f_X12_codesTold 1 (zI s.1)) hm (rl_X1 hm.2.1.2.2.1 ?_) hr
      have := hm.2.2.1.2.2.2.2.2.2.1.2.1
      unfold mF0 at this
      rw [if_neg (by rw [f]; decide)] at this
      obtain ⟨a, b, a1, a2, -, a4, -⟩ := this
      have hcod := hm.2.2.2.1
      have hle := hm.2.1.le
      rw [a4]
      exact ofN (p := a) (by omega)
    · rw [if_neg f] at hr
      obtain ⟨q, q1, q2⟩ := hr
      rw [q2]
      exact rf_tl (rf_rule1 (p := s.1) q1 hm hb0 (Bool.eq_false_iff.mpr f))
  rw [decide_eq_false c11, if_pos (show zI (bI false) = 0 from rfl)]
  rw [if_neg c11] at hr
  obtain ⟨m12, k12, y12, z12⟩ := mD.tk (w := 12) (z11 c11) hw (by omega)
  have k12' : f_X12_takes 306 5 m11 = some (zI (bI (decide (xw T n s = (12 : Int)))), m12) := k12
  rw [k12', shb_ap]
  by_cases c12 : xw T n s = (12 : Int)
  · rw [decide_eq_true c12, if_neg (show ¬ zI (bI true) = 0 by decide)]
    have hm := y12 c12
    rw [if_pos c12] at hr
    by_cases f : (sp_told P).2.2 = true
    · rw [if_pos f] at hr
      refine full m12 (f_X12_codesTold 2 (zI s.1)) hm (rl_X2 hm.2.1.2.2.1 ?_) hr
      have := hm.2.2.1.2.2.2.2.2.2.1.2.2
      unfold mF0 at this
      rw [if_neg (by rw [f]; decide)] at this
      obtain ⟨a, b, a1, a2, -, a4, -⟩ := this
      have hcod := hm.2.2.2.1
      have hle := hm.2.1.le
      rw [a4]
      exact ofN (p := a) (by omega)
    · rw [if_neg f] at hr
      obtain ⟨q, q1, q2⟩ := hr
      rw [q2]
      exact rf_tl (rf_rule2 (p := s.1) q1 hm hb0 (Bool.eq_false_iff.mpr f))
  rw [decide_eq_false c12, if_pos (show zI (bI false) = 0 from rfl)]
  rw [if_neg c12] at hr
  have h13 := z12 c12
  rcases h13.word (w := 13) (r := 307) (by omega) (h13.A hw 13 (by omega)) (by omega) with ⟨e, m13, u1, u2, u3, u4⟩ | ⟨s2, m13, u1, u2, u3⟩
  · have c13 : ¬ xw T n s = 13 := fun z => by
      rw [show x_word T n ((13 : Nat) : Int) s = .inr (xA T n s) from if_pos z] at u1
      cases u1
    rw [if_neg c13] at hr
    rw [show x_word T n ((13 : Nat) : Int) s = .inl (1, s.1) from if_neg c13] at u1
    cases u1
    rw [show f_X12_needs 307 5 m12 = some m13 from u2, shv_ap, nu_X u3.ne, shb_ap]
    refine rf_tlX (e := (1, s.1)) (m := sh_setI m13 321 (Int32.toNatClampNeg 2) 0) ⟨u3.1.trans (sh_fr_I sh_fr.rf ?_), by rw [ir_set_r (by omega)]; exact u3.2.1, by rw [ir_set_r (by omega)]; exact u3.2.2.1, u3.2.2.2⟩ hr
    exact Or.inr (Or.inr (Or.inl ⟨rfl, by decide⟩))
  · obtain ⟨c13, e2⟩ := x_word_r u1
    have c13' : xw T n s = 13 := c13
    rw [if_pos c13'] at hr
    rw [e2] at u3
    rw [hr, show f_X12_needs 307 5 m12 = some m13 from u2, shv_ap]
    have R := rf_tl (rf_crowdS (m0 := m13) (c := fun m => sh_bind (f_X12_number 0 100 m) (fun y40 μ38 => some (sh_setI μ38 321 (Int32.toNatClampNeg 2) y40))) u3 rfl)
    obtain ⟨m, r1, r2⟩ := R
    refine ⟨m, ?_, r2⟩
    rw [← r1]
    unfold tlT
    show sh_bind (f_X12_number 0 100 m13) _ = sh_bindv (sh_bind (f_X12_number 0 100 m13) _) _
    cases f_X12_number 0 100 m13 with
    | none => rfl
    | some q => rfl
end Sm5
