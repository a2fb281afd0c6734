/-! THE CLASS: a text from its head on -/
section Sc6
variable {T : Nat → Nat} {n t : Nat} {μ μ' : sh_Mem} {s s' : xs} {P : sp_T} {L : sl_T}
theorem cl_clear (ht : sh_isP t) : ∃ m, f_X5_clear t μ = some m ∧ sh_fr (fun r _ => t ≤ r ∧ r < t + 20 ∧ ¬ r = t + 14) μ m ∧ (sh_i m t 2 = 0 ∧ sh_i m t 3 = 0 ∧ sh_i m t 4 = 0 ∧ sh_i m t 5 = 0) ∧ (∀ j, j < 49 → sh_i m (t + 15) j = zI 50) ∧ (sh_i m t 13 = 0 ∧ sh_i m t 14 = 0 ∧ sh_i m t 15 = 0) ∧ sm_form m (t + 5) [103] ∧ sm_form m (t + 8) [0, 101, 11] ∧ sm_form m (t + 11) [100] := by
  have hb := isP_b ht
  have F5 : t + 5 ∈ sh_FORMS := by rcases ht with z | z <;> rw [z] <;> decide
  have F8 : t + 8 ∈ sh_FORMS := by rcases ht with z | z <;> rw [z] <;> decide
  have F11 : t + 11 ∈ sh_FORMS := by rcases ht with z | z <;> rw [z] <;> decide
  obtain ⟨m6, hm6⟩ : ∃ m, m = sh_setI (sh_setI (sh_setI (sh_setI (sh_setI (sh_setI μ t 0 0) t 1 0) t 2 0) t 3 0) t 4 0) t 5 0 := ⟨_, rfl⟩
  have f6 : sh_fr (fun r _ => r = t) μ m6 := by
    rw [hm6]
    exact sh_fr_I (sh_fr_I (sh_fr_I (sh_fr_I (sh_fr_I (sh_fr_I sh_fr.rf rfl) rfl) rfl) rfl) rfl) rfl
  obtain ⟨m7, a1, a2, a3, -⟩ := cl_fill (x := t + 14 + 1) (m := 49) (v := zI 50) (by omega) 49 sh_fuel 0 m6 (by omega) (by rw [sh_fuel_eq]; omega)
  have a1' : f_J7_fill_53178 (t + 14 + 1) 49 50 m6 = some m7 := a1
  obtain ⟨m8, hm8⟩ : ∃ m, m = sh_setI (sh_setI (sh_setI (sh_setI m7 t 13 0) t 14 0) t 15 0) (t + 5) 1 0 := ⟨_, rfl⟩
  have f8 : sh_fr (fun r _ => r = t ∨ r = t + 5) m7 m8 := by
    rw [hm8]
    exact sh_fr_I (sh_fr_I (sh_fr_I (sh_fr_I sh_fr.rf (Or.inl rfl)) (Or.inl rfl)) (Or.inl rfl)) (Or.inr rfl)
  have g8 : sm_form m8 (t + 5) [] := ⟨by rw [hm8, ir_set]; rfl, fun j hj => absurd hj (Nat.not_lt_zero j)⟩
  obtain ⟨m9, b1, b2, b3⟩ := cl_add (t := 103) F5 (by decide) g8
  have b1' : f_X1_add (t + 5) 3 m8 = some m9 := b1
  obtain ⟨m10, hm10⟩ : ∃ m, m = sh_setI m9 (t + 8) 1 0 := ⟨_, rfl⟩
  have f10 : sh_fr (fun r _ => r = t + 8) m9 m10 := by rw [hm10]; exact sh_fr_I sh_fr.rf rfl
  have g10 : sm_form m10 (t + 8) [] := ⟨by rw [hm10, ir_set]; rfl, fun j hj => absurd hj (Nat.not_lt_zero j)⟩
  obtain ⟨m11, c1, c2, c3⟩ := cl_add (t := 0) F8 (by decide) g10
  have c1' : f_X1_addWord (t + 8) 6 m10 = some m11 := by
    unfold f_X1_addWord
    rw [show f_X1_add (t + 8) (-1 - 6) m10 = some m11 from c1, shv_ap]
  obtain ⟨m12, d1, d2, d3⟩ := cl_add (t := 101) F8 (by decide) c3
  have d1' : f_X1_add (t + 8) 1 m11 = some m12 := d1
  obtain ⟨m13, e1, e2, e3⟩ := cl_add (t := 11) F8 (by decide) d3
  have e1' : f_X1_addMark (t + 8) 43 m12 = some m13 := by
    unfold f_X1_addMark
    rw [show f_X1_add (t + 8) (-100 - 43) m12 = some m13 from e1, shv_ap]
  obtain ⟨m14, hm14⟩ : ∃ m, m = sh_setI m13 (t + 11) 1 0 := ⟨_, rfl⟩
  have f14 : sh_fr (fun r _ => r = t + 11) m13 m14 := by rw [hm14]; exact sh_fr_I sh_fr.rf rfl
  have g14 : sm_form m14 (t + 11) [] := ⟨by rw [hm14, ir_set]; rfl, fun j hj => absurd hj (Nat.not_lt_zero j)⟩
  obtain ⟨m15, i1, i2, i3⟩ := cl_add (t := 100) F11 (by decide) g14
  have i1' : f_X1_add (t + 11) 0 m14 = some m15 := i1
  have fB : sh_fr (fun r _ => t + 5 ≤ r ∧ r ≤ t + 12) m8 m15 := (((((b2.mono (fun r k z => by omega)).trans (f10.mono (fun r k z => by omega))).trans (c2.mono (fun r k z => by omega))).trans (d2.mono (fun r k z => by omega))).trans (e2.mono (fun r k z => by omega))).trans ((f14.mono (fun r k z => by omega)).trans (i2.mono (fun r k z => by omega)))
  have fE : sh_fr (fun r _ => t + 11 ≤ r ∧ r ≤ t + 12) m13 m15 := (f14.mono (fun r k z => by omega)).trans (i2.mono (fun r k z => by omega))
  have fD : sh_fr (fun r _ => t + 8 ≤ r ∧ r ≤ t + 12) m9 m15 := ((((f10.mono (fun r k z => by omega)).trans (c2.mono (fun r k z => by omega))).trans (d2.mono (fun r k z => by omega))).trans (e2.mono (fun r k z => by omega))).trans (fE.mono (fun r k z => by omega))
  have rT : sh_i m15 t = sh_i m8 t := fB.row t (fun k => by omega)
  have v7 : ∀ k, sh_i m7 t k = sh_i m6 t k := fun k => a2.i t k (by omega)
  refine ⟨m15, ?_, (((f6.mono (fun r k z => by omega)).trans (a2.mono (fun r k z => by omega))).trans (f8.mono (fun r k z => by omega))).trans (fB.mono (fun r k z => by omega)), ?_, fun j hj => ?_, ?_, b3.cg (fD.row _ (fun k => by omega)) (fD.row _ (fun k => by omega)), e3.cg (fE.row _ (fun k => by omega)) (fE.row _ (fun k => by omega)), i3⟩
  · unfold f_X5_clear
    rw [shl_ap, shl_ap, shl_ap, shl_ap, shl_ap, shl_ap, ← hm6, a1', shv_ap, shl_ap, shl_ap, shl_ap, shl_ap, ← hm8, b1', shv_ap, shl_ap, ← hm10, c1', shv_ap, d1', shv_ap, e1', shv_ap, shl_ap, ← hm14, i1', shv_ap]
  · have w : ∀ k, 2 ≤ k → k ≤ 5 → sh_i m15 t k = 0 := fun k h1 h2 => by
      rw [rT, hm8, ir_set_r (by omega), ir_set_k (by omega), ir_set_k (by omega), ir_set_k (by omega), v7, hm6]
      by_cases k5 : k = 5
      · rw [k5, ir_set]
      rw [ir_set_k k5]
      by_cases k4 : k = 4
      · rw [k4, ir_set]
      rw [ir_set_k k4]
      by_cases k3 : k = 3
      · rw [k3, ir_set]
      rw [ir_set_k k3, show k = 2 by omega, ir_set]
    exact ⟨w 2 (by omega) (by omega), w 3 (by omega) (by omega), w 4 (by omega) (by omega), w 5 (by omega) (by omega)⟩
  · rw [fB.i _ _ (by omega), f8.i _ _ (by omega)]
    exact a3 j (by omega) hj
  · rw [rT, hm8, ir_set_r (by omega)]
    exact ⟨by rw [ir_set_k (by omega), ir_set_k (by omega), ir_set], by rw [ir_set_k (by omega), ir_set], by rw [ir_set]⟩
/-- the head of a text -/
theorem cl_head (hS : cS μ T n s) (hr : sh_r μ 7 2 = some t) (ht : sh_isP t) : ∃ m, (∀ e, st_plain T n s = .inl e → f_X6_readPlain μ = some (0, m) ∧ sh_fr nV μ m ∧ sh_i m 2 10 = zI e.1 ∧ sh_i m 2 11 = zI e.2 ∧ 1 ≤ e.1 ∧ e.1 < 10) ∧ (∀ q, st_plain T n s = .inr q → f_X6_readPlain μ = some (1, m) ∧ sh_fr (fun r k => nV r k ∨ (r = t ∧ k < 2)) μ m ∧ cS m T n q.2.2 ∧ sh_i m t 0 = zI q.1 ∧ sh_i m t 1 = zI q.2.1 ∧ (3 ≤ q.1 ∧ q.1 ≤ 7) ∧ (3 ≤ q.2.1 ∧ q.2.1 ≤ 7)) := by
  have hb := isP_b ht
  obtain ⟨m1, a1, a2, a3⟩ := cl_word (w := 0) hS (by omega)
  have bad : ∀ (m : sh_Mem) (e : Nat × Nat), st_plain T n s = .inl e → f_X6_readPlain μ = some (0, m) → sh_fr nV μ m → sh_i m 2 10 = zI e.1 ∧ sh_i m 2 11 = zI e.2 → 1 ≤ e.1 ∧ e.1 < 10 → ∃ m, (∀ e, st_plain T n s = .inl e → f_X6_readPlain μ = some (0, m) ∧ sh_fr nV μ m ∧ sh_i m 2 10 = zI e.1 ∧ sh_i m 2 11 = zI e.2 ∧ 1 ≤ e.1 ∧ e.1 < 10) ∧ (∀ q, st_plain T n s = .inr q → f_X6_readPlain μ = some (1, m) ∧ sh_fr (fun r k => nV r k ∨ (r = t ∧ k < 2)) μ m ∧ cS m T n q.2.2 ∧ sh_i m t 0 = zI q.1 ∧ sh_i m t 1 = zI q.2.1 ∧ (3 ≤ q.1 ∧ q.1 ≤ 7) ∧ (3 ≤ q.2.1 ∧ q.2.1 ≤ 7)) := fun m e z1 z2 z3 z4 z5 => ⟨m, fun e' z => by rw [z1] at z; cases z; exact ⟨z2, z3, z4.1, z4.2, z5.1, z5.2⟩, fun q z => by rw [z1] at z; cases z⟩
  cases h1 : x_word T n ((0 : Nat) : Int) s with
  | inl e =>
    rw [h1] at a1 a3
    refine bad m1 e (by unfold st_plain; rw [show x_word T n 0 s = .inl e from h1]; rfl) ?_ a2 a3 (x_word_e h1)
    unfold f_X6_readPlain
    rw [show f_X8_takesWord 0 μ = some (0, m1) from a1, shb_ap, if_pos rfl]
  | inr s1 =>
  rw [h1] at a1 a3
  have a1' : f_X8_takesWord 0 μ = some (1, m1) := a1
  have S1 : cS m1 T n s1 := a3
  obtain ⟨m2, b1, b2, b3, -⟩ := cl_num (lo := 3) (hi := 7) S1 (by omega) (by omega)
  cases h2 : x_num T n 3 7 s1 with
  | inl e =>
    rw [h2] at b1 b3
    refine bad m2 e (by unfold st_plain; rw [show x_word T n 0 s = .inr s1 from h1]; show xb (x_num T n 3 7 s1) _ = _; rw [h2]; rfl) ?_ (a2.trans b2) b3 (x_num_e h2)
    unfold f_X6_readPlain
    rw [a1', shb_ap, if_neg (show ¬ (1 : Int32) = 0 by decide), show f_X8_takeNumber 3 7 m1 = some (-1, m2) from b1, shb_ap, if_pos rfl]
  | inr x =>
  have x7 := x_num_v h2
  have x3 : 3 ≤ x.1 := by
    have h2' := h2
    unfold x_num at h2'
    split at h2'
    · split at h2'
      · split at h2'
        · cases h2'
        · rename_i c
          cases h2'
          show 3 ≤ xV T s1.1 (xE T n s1.1 - s1.1)
          omega
      · cases h2'
    · cases h2'
  rw [h2] at b1 b3
  have b1' : f_X8_takeNumber 3 7 m1 = some (zI (x.1 : Int), m2) := b1
  have S2 : cS m2 T n x.2 := b3
  obtain ⟨m3, c1, c2, c3⟩ := cl_word (w := 1) S2 (by omega)
  cases h3 : x_word T n ((1 : Nat) : Int) x.2 with
  | inl e =>
    rw [h3] at c1 c3
    refine bad m3 e (by unfold st_plain; rw [show x_word T n 0 s = .inr s1 from h1]; show xb (x_num T n 3 7 s1) _ = _; rw [h2]; show xb (x_word T n 1 x.2) _ = _; rw [show x_word T n 1 x.2 = .inl e from h3]; rfl) ?_ (a2.trans (b2.trans c2)) c3 (x_word_e h3)
    unfold f_X6_readPlain
    rw [a1', shb_ap, if_neg (show ¬ (1 : Int32) = 0 by decide), b1', shb_ap, if_neg (ofN (by omega)), show f_X8_takesWord 1 m2 = some (0, m3) from c1, shb_ap, if_pos rfl]
  | inr s3 =>
  rw [h3] at c1 c3
  have c1' : f_X8_takesWord 1 m2 = some (1, m3) := c1
  have S3 : cS m3 T n s3 := c3
  obtain ⟨m4, d1, d2, d3, -⟩ := cl_num (lo := 3) (hi := 7) S3 (by omega) (by omega)
  cases h4 : x_num T n 3 7 s3 with
  | inl e =>
    rw [h4] at d1 d3
    refine bad m4 e (by unfold st_plain; rw [show x_word T n 0 s = .inr s1 from h1]; show xb (x_num T n 3 7 s1) _ = _; rw [h2]; show xb (x_word T n 1 x.2) _ = _; rw [show x_word T n 1 x.2 = .inr s3 from h3]; show xb (x_num T n 3 7 s3) _ = _; rw [h4]; rfl) ?_ (a2.trans (b2.trans (c2.trans d2))) d3 (x_num_e h4)
    unfold f_X6_readPlain
    rw [a1', shb_ap, if_neg (show ¬ (1 : Int32) = 0 by decide), b1', shb_ap, if_neg (ofN (by omega)), c1', shb_ap, if_neg (show ¬ (1 : Int32) = 0 by decide), show f_X8_takeNumber 3 7 m3 = some (-1, m4) from d1, shb_ap, if_pos rfl]
  | inr y =>
  have y7 := x_num_v h4
  have y3 : 3 ≤ y.1 := by
    have h2' := h4
    unfold x_num at h2'
    split at h2'
    · split at h2'
      · split at h2'
        · cases h2'
        · rename_i c
          cases h2'
          show 3 ≤ xV T s3.1 (xE T n s3.1 - s3.1)
          omega
      · cases h2'
    · cases h2'
  rw [h4] at d1 d3
  have d1' : f_X8_takeNumber 3 7 m3 = some (zI (y.1 : Int), m4) := d1
  have S4 : cS m4 T n y.2 := d3
  obtain ⟨m5, e1, e2, e3⟩ := cl_mark (c := 59) S4 (by omega)
  have fr5 := a2.trans (b2.trans (c2.trans (d2.trans e2)))
  cases h5 : x_mark T n 59 y.2 with
  | inl e =>
    rw [h5] at e1 e3
    refine bad m5 e (by unfold st_plain; rw [show x_word T n 0 s = .inr s1 from h1]; show xb (x_num T n 3 7 s1) _ = _; rw [h2]; show xb (x_word T n 1 x.2) _ = _; rw [show x_word T n 1 x.2 = .inr s3 from h3]; show xb (x_num T n 3 7 s3) _ = _; rw [h4]; show xb (x_mark T n 59 y.2) _ = _; rw [h5]; rfl) ?_ fr5 e3 (x_mark_e h5)
    unfold f_X6_readPlain
    rw [a1', shb_ap, if_neg (show ¬ (1 : Int32) = 0 by decide), b1', shb_ap, if_neg (ofN (by omega)), c1', shb_ap, if_neg (show ¬ (1 : Int32) = 0 by decide), d1', shb_ap, if_neg (ofN (by omega)), show f_X8_takesMark 59 m4 = some (0, m5) from e1, shb_ap, if_pos rfl]
  | inr s5 =>
  rw [h5] at e1 e3
  have S5 : cS m5 T n s5 := e3
  have er : st_plain T n s = .inr (x.1, y.1, s5) := by
    unfold st_plain
    rw [show x_word T n 0 s = .inr s1 from h1]
    show xb (x_num T n 3 7 s1) _ = _
    rw [h2]
    show xb (x_word T n 1 x.2) _ = _
    rw [show x_word T n 1 x.2 = .inr s3 from h3]
    show xb (x_num T n 3 7 s3) _ = _
    rw [h4]
    show xb (x_mark T n 59 y.2) _ = _
    rw [h5]
    rfl
  have r5 : sh_r m5 7 2 = some t := by rw [fr5.1]; exact hr
  obtain ⟨k0, k1⟩ := dck r5 ht
  obtain ⟨m6, hm6⟩ : ∃ m, m = sh_setI m5 t 0 (zI x.1) := ⟨_, rfl⟩
  have r6 : sh_r m6 7 2 = some t := by rw [hm6]; exact r5
  obtain ⟨k2, k3⟩ := dck r6 ht
  have fs : sh_fr (fun r k => r = t ∧ k < 2) m5 (sh_setI m6 t 1 (zI y.1)) := by
    refine sh_fr_I ?_ ⟨rfl, by omega⟩
    rw [hm6]
    exact sh_fr_I sh_fr.rf ⟨rfl, by omega⟩
  refine ⟨sh_setI m6 t 1 (zI y.1), fun e z => (by rw [er] at z; cases z), fun q z => ?_⟩
  rw [er] at z
  cases z
  refine ⟨?_, (fr5.mono (fun _ _ z => Or.inl z)).trans (fs.mono (fun _ _ z => Or.inr z)), S5.cg (fs.row 1 (fun k => by omega)) (fs.row 2 (fun k => by omega)), by rw [ir_set_k (by omega), hm6, ir_set], by rw [ir_set], ⟨x3, x7⟩, y3, y7⟩
  unfold f_X6_readPlain
  rw [a1', shb_ap, if_neg (show ¬ (1 : Int32) = 0 by decide), b1', shb_ap, if_neg (ofN (by omega)), c1', shb_ap, if_neg (show ¬ (1 : Int32) = 0 by decide), d1', shb_ap, if_neg (ofN (by omega)), show f_X8_takesMark 59 m4 = some (1, m5) from e1, shb_ap, if_neg (show ¬ (1 : Int32) = 0 by decide), k0, if_pos k1, shl_ap, ← hm6, shl_ap, k2, if_pos k3, shl_ap, shl_ap]
/-- a whole text -/
theorem cl_read (hS : cS μ T n s) (hr : sh_r μ 7 2 = some t) (ht : sh_isP t) (h14 : sh_i μ (t + 14) 0 = 0) (hf : fO μ) : ∃ (r : xo (Nat × dT)) (v : Int32) (μ' : sh_Mem), TRt T n s r ∧ f_X6_read μ = some (v, μ') ∧ (r.isRight = true → v = zI (vT r)) ∧ cFr t μ μ' ∧ cOT μ' T n t r := by
  have hb := isP_b ht
  obtain ⟨k0, k1⟩ := dck hr ht
  obtain ⟨m1, a1, a2, a3, a4, a5, a6, a7, a8⟩ := cl_clear (μ := μ) ht
  have S1 : cS m1 T n s := hS.cg (a2.row 1 (fun k => by omega)) (a2.row 2 (fun k => by omega))
  have r1 : sh_r m1 7 2 = some t := by rw [a2.1]; exact hr
  obtain ⟨m2, b1, b2⟩ := cl_head S1 r1 ht
  have f1 : cFr t μ m1 := cFr.of a2 (fun r k z => Or.inr (Or.inl (by omega)))
  have st : f_X6_read μ = sh_bind (f_X6_readPlain m1) (fun y53 μ51 => (if y53 = 0 then some ((-1), μ51) else F_X6_read sh_fuel 1 1 μ51)) := by
    unfold f_X6_read
    rw [k0, if_pos k1, shl_ap, a1, shv_ap]
  cases hp : st_plain T n s with
  | inl e =>
    obtain ⟨c1, c2, c3, c4, c5, c6⟩ := b1 e hp
    refine ⟨.inl e, -1, m2, by unfold TRt; rw [hp], ?_, fun z => (by cases z), f1.trans (cFr.of c2 (fun _ _ z => nV_C z)), c3, c4, hf.cg (by rw [c2.1, a2.1]), c5, c6⟩
    rw [st, c1, shb_ap, if_pos rfl]
  | inr q =>
    obtain ⟨c1, c2, c3, c4, c5, c6, c7⟩ := b2 q hp
    have hd : dOK (dp_n q.1 q.2.1) dl_n := dOK.n0 c6 c7
    have et : ∀ k, 2 ≤ k → sh_i m2 t k = sh_i m1 t k := fun k hk => c2.i t k (by unfold nV; omega)
    have er : ∀ j, 0 < j → sh_i m2 (t + j) = sh_i m1 (t + j) := fun j hj => c2.row (t + j) (fun k => by unfold nV; omega)
    have hD : cD m2 T n t q.2.2 (dp_n q.1 q.2.1) dl_n := by
      refine ⟨c3, ⟨⟨by rw [c4, ← nI_z]; rfl, by rw [c5, ← nI_z]; rfl, ?_, ?_, ?_, ?_, fun j hj => absurd hj (Nat.not_lt_zero j), fun j hj => absurd hj (Nat.not_lt_zero j), fun j hj => absurd hj (Nat.not_lt_zero j), a6.cg (er 5 (by omega)) (er 6 (by omega)), a7.cg (er 8 (by omega)) (er 9 (by omega)), a8.cg (er 11 (by omega)) (er 12 (by omega))⟩, ⟨?_, fun j hj => ?_, fun p hp => absurd hp (Nat.not_lt_zero p)⟩, ?_, ?_, ?_⟩, by rw [c2.1]; exact r1, ht, hf.cg (by rw [c2.1, a2.1])⟩
      · rw [et 2 (by omega), a3.1]; rfl
      · rw [et 3 (by omega), a3.2.1]; rfl
      · rw [et 4 (by omega), a3.2.2.1]; rfl
      · rw [et 5 (by omega), a3.2.2.2]; rfl
      · rw [er 14 (by omega), a2.i _ _ (by omega), h14]; rfl
      · have hj2 : q.1 * q.2.1 ≤ 7 * 7 := Nat.mul_le_mul c6.2 c7.2
        have hj3 : j < q.1 * q.2.1 := hj
        rw [show t + 14 + 1 = t + 15 by omega, er 15 (by omega), a4 j (by omega)]
        rfl
      · rw [et 13 (by omega), a5.1]; rfl
      · rw [et 14 (by omega), a5.2.1]; rfl
      · rw [et 15 (by omega), a5.2.2]; rfl
    obtain ⟨r, v, m3, d1, d2, d3, d4, d5⟩ := cl_loop 79 sh_fuel q.2.2 _ _ m2 (by omega) (by rw [sh_fuel_eq]; omega) hD hd
    refine ⟨r, v, m3, by unfold TRt; rw [hp]; exact d1, ?_, d3, f1.trans ((cFr.of c2 (fun r k z => by rcases z with z | z; exact nV_C z; exact Or.inr (Or.inl (by omega)))).trans d4), d5⟩
    rw [st, c1, shb_ap, if_neg (show ¬ (1 : Int32) = 0 by decide)]
    exact d2
end Sc6
