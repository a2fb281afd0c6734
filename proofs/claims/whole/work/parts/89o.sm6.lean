/-! THE REFERENCE: a whole text -/
section Sm6
variable {T : Nat → Nat} {n : Nat} {μ0 μ μ' : sh_Mem} {s s' : xs} {P : sp_T} {L : sl_T} {cod stt : Nat}
/-- the end of it -/
noncomputable def endT (m : sh_Mem) : Option (Int32 × sh_Mem) := sh_let (sh_setI m 291 7 (sh_i m 291 5)) (fun μ90 => sh_let (sh_setI μ90 291 8 (sh_i μ90 291 6)) (fun μ91 => (if (sh_i μ91 291 5) = 0 then sh_bindv (f_X12_stands μ91) (fun μ93 => some ((sh_i μ93 291 49), μ93)) else sh_let (sh_setI μ91 293 (Int32.toNatClampNeg 1) ((sh_i μ91 293 (Int32.toNatClampNeg 1)) + 1)) (fun μ96 => some ((-1), μ96)))))
theorem endX {f : Nat} {i1 : Int32} {e : Nat × Nat} (h : mXf μ0 μ e) : F_X12_plain (f + 1) 3 i1 μ = endT μ := by
  rw [F_X12_plain, if_neg h.ne]
  rfl
/-- what it leaves -/
def mOT (μ0 m : sh_Mem) (r : xo (Nat × dT)) : Prop := (∀ e, r = .inl e → mXf μ0 m e) ∧ (∀ q, r = .inr q → sh_fr nDm μ0 m ∧ sh_i m 291 5 = 0 ∧ sh_i m 291 49 = zI (q.1 : Nat) ∧ ∃ cod, cod ≤ 1600 ∧ mDr m q.2.1 q.2.2 cod)
theorem rf_loop (hw : hA μ0) (hb0 : hB μ0) {i1 : Int32} : ∀ (k f : Nat) (s : xs) (P : sp_T) (L : sl_T) (cod : Nat) (μ : sh_Mem) (r : xo (Nat × dT)), k ≤ 79 → k + 3 ≤ f → LRt T n k s P L r → mD μ0 μ T n s P L cod (80 - k) → dOK P L → (sh_i μ 291 6 = -1 ∧ sh_G μ) → ∃ m, F_X12_plain f 3 i1 μ = endT m ∧ mOT μ0 m r ∧ (sh_i m 291 5 = 0 → sh_i m 291 6 = -1) := by
  have goodE : ∀ (f : Nat) (s : xs) (P : sp_T) (L : sl_T) (cod st : Nat) (μ : sh_Mem), xK T n s.1 s.2 = -1 → mD μ0 μ T n s P L cod st → dOK P L → sh_i μ 291 6 = -1 → ∃ m, F_X12_plain (f + 1) 3 i1 μ = endT m ∧ mOT μ0 m (.inr (st, P, L)) ∧ (sh_i m 291 5 = 0 → sh_i m 291 6 = -1) := fun f s P L cod st μ hK h hd h6 => by
    obtain ⟨m1, a1, a2, a3⟩ := rf_look h.2.1
    have h1 := h.lex (a2.mono (fun _ _ z => nLk_M z)) a3.S (Nat.le_refl _)
    refine ⟨m1, ?_, ⟨fun e he => (by cases he), fun q hq => ?_⟩, fun _ => by rw [a2.i 291 6 (by unfold nLk; omega)]; exact h6⟩
    · rw [F_X12_plain, h.2.1.2.2.1, if_pos rfl, a1, shb_ap, xc_eq h.2.1 (Or.inr rfl) hK, if_pos (show zI (-1) = -1 from rfl)]
      rfl
    · cases hq
      have hle := h1.2.1.le
      exact ⟨h1.1, h1.2.1.2.2.1, h1.2.2.2.2, cod, by have := h1.2.2.2.1; omega, h1.2.2.1⟩
  intro k
  induction k with
  | zero =>
    intro f s P L cod μ r hk hf hr h hd h6
    obtain ⟨f, rfl⟩ : ∃ f', f = f' + 1 + 1 := ⟨f - 2, by omega⟩
    unfold LRt at hr
    by_cases c : xK T n s.1 s.2 = -1
    · rw [if_pos c] at hr
      rw [hr]
      exact goodE (f + 1) s P L cod 80 μ c h hd h6.1
    · rw [if_neg c] at hr
      obtain ⟨m1, a1, a2, a3⟩ := rf_look h.2.1
      have h1 := h.lex (a2.mono (fun _ _ z => nLk_M z)) a3.S (Nat.le_refl _)
      obtain ⟨m2, r1, r2, r3⟩ := rf_fail (T := fun _ => 0) (n := 0) (μ := m1) (k := 5) (p := s.1) a3.2.2.1
      have F : mXf μ0 m2 (5, s.1) := ⟨h1.1.trans (r2.mono (fun _ _ z => nD_M z)), r3.1, r3.2, by simp, by simp⟩
      refine ⟨m2, ?_, ⟨fun e he => by rw [hr] at he; cases he; exact F, fun q hq => by rw [hr] at hq; cases hq⟩, fun z => absurd z F.ne⟩
      have e1 : f_X12_statementTold m1 = some m2 := by
        unfold f_X12_statementTold
        rw [a3.2.2.2.2.1, shl_ap, if_pos (show sh_i m1 291 49 = 80 by rw [h1.2.2.2.2]; rfl), show f_X12_fail 5 (zI (s.1 : Int)) m1 = some m2 from r1, shv_ap]
      rw [F_X12_plain, h.2.1.2.2.1, if_pos rfl, a1, shb_ap, if_neg (show ¬ zI (xc T n s) = -1 from xc_ne (c := -1) h.2.1 (Or.inr rfl) c), e1, shv_ap]
      exact endX F
  | succ k ih =>
    intro f s P L cod μ r hk hf hr h hd h6
    obtain ⟨f, rfl⟩ : ∃ f', f = f' + 1 + 1 := ⟨f - 2, by omega⟩
    unfold LRt at hr
    by_cases c : xK T n s.1 s.2 = -1
    · rw [if_pos c] at hr
      rw [hr]
      exact goodE (f + 1) s P L cod (80 - (k + 1)) μ c h hd h6.1
    rw [if_neg c] at hr
    obtain ⟨rs, q1, q2⟩ := hr
    have hle := h.2.1.le
    have hok := q1.ok hd hle.1 hle.2
    obtain ⟨m1, a1, a2, a3⟩ := rf_look h.2.1
    have h1 := h.lex (a2.mono (fun _ _ z => nLk_M z)) a3.S (Nat.le_refl _)
    have G1 := gp_X12_look h6.2 a1
    have I1 : rI μ m1 := ri_X12_look h6.2 a1
    obtain ⟨m2, e1, e2, e3⟩ := rf_stmt hw hb0 h1 a3 hd (by omega) q1
    have G2 := gp_X12_statementTold G1 e1
    have I2 : rI m1 m2 := ri_X12_statementTold G1 e1
    have i6 := (I1.trans I2) (fun _ => h6.1)
    have st : F_X12_plain (f + 1 + 1) 3 i1 μ = F_X12_plain (f + 1) 3 i1 m2 := by
      rw [F_X12_plain, h.2.1.2.2.1, if_pos rfl, a1, shb_ap, if_neg (show ¬ zI (xc T n s) = -1 from xc_ne (c := -1) h.2.1 (Or.inr rfl) c), e1, shv_ap]
    have bad : ∀ e, mXf μ0 m2 e → r = .inl e → ∃ m, F_X12_plain (f + 1 + 1) 3 i1 μ = endT m ∧ mOT μ0 m r ∧ (sh_i m 291 5 = 0 → sh_i m 291 6 = -1) := fun e F he => ⟨m2, by rw [st]; exact endX F, ⟨fun e' z => by rw [he] at z; cases z; exact F, fun q z => by rw [he] at z; cases z⟩, fun z => absurd z F.ne⟩
    cases rs with
    | inl e => exact bad e (e2 e rfl) q2
    | inr q =>
      obtain ⟨hd1, -, -⟩ := hok
      obtain ⟨g1, g2⟩ := e3 q rfl
      have q2' : (match x_mark T n 59 q.1 with | .inl e => r = .inl e | .inr s2 => LRt T n k s2 q.2.1 q.2.2 r) := q2
      cases hx : x_mark T n 59 q.1 with
      | inl e =>
        rw [hx] at q2'
        exact bad e (g1 e hx) q2'
      | inr s2 =>
        rw [hx] at q2'
        obtain ⟨cod', D⟩ := g2 s2 hx
        rw [show 80 - (k + 1) + 1 = 80 - k by omega] at D
        rw [st]
        exact ih (f + 1) s2 q.2.1 q.2.2 cod' m2 r (by omega) (by omega) q2' D hd1 ⟨i6 D.2.1.2.2.1, G2⟩
/-- the head of a text -/
theorem rf_head (hS : mS μ T n s) (hw : hA μ) : ∃ m, f_X12_plainTold μ = some m ∧ sh_fr (fun r k => nM r k ∨ (r = 321 ∧ k < 2)) μ m ∧ (∀ e, st_plain T n s = .inl e → sh_i m 291 5 = zI e.1 ∧ sh_i m 291 6 = zI e.2 ∧ 1 ≤ e.1 ∧ e.1 < 10) ∧ (∀ q, st_plain T n s = .inr q → mS m T n q.2.2 ∧ sh_i m 321 0 = zI (q.1 : Nat) ∧ sh_i m 321 1 = zI (q.2.1 : Nat)) := by
  have hwf : ∀ m : sh_Mem, sh_fr (fun r k => nM r k ∨ (r = 321 ∧ k < 2)) μ m → hA m := fun m f w h1 j hj => by
    rw [f.i _ _ (by unfold nM; omega)]
    exact hw w h1 j hj
  have S321 : ∀ (m : sh_Mem) (k : Nat) (v : Int32) (s : xs), mS m T n s → mS (sh_setI m 321 k v) T n s := fun m k v s h => by
    obtain ⟨h1, h2, h3, e, d, d1, d2, d3, d4, d5⟩ := h
    exact ⟨h1.cg (ir_set_r (by omega)), by rw [ir_set_r (by omega)]; exact h2, by rw [ir_set_r (by omega)]; exact h3, e, d, d1, by rw [ir_set_r (by omega)]; exact d2, d3, by rw [ir_set_r (by omega)]; exact d4, d5⟩
  have X5 : ∀ (m : sh_Mem) (e : Nat × Nat), sh_i m 291 5 = zI e.1 → 1 ≤ e.1 ∧ e.1 < 10 → ¬ sh_i m 291 5 = 0 := fun m e h he z => by
    rw [h] at z
    have := (zI_eq (b := 0) (by omega) (by omega) (by omega) (by omega)).mp z
    omega
  obtain ⟨m1, a1, a2, a3⟩ := rf_word (w := 0) (r := 294) hS (by omega) (hw 0 (by omega)) (by omega)
  have a1' : f_X12_needs 294 5 μ = some m1 := a1
  have F1 : sh_fr (fun r k => nM r k ∨ (r = 321 ∧ k < 2)) μ m1 := a2.mono (fun _ _ z => Or.inl z)
  have fin1 : ∀ (m : sh_Mem) (e : Nat × Nat) (y : Int32), st_plain T n s = .inl e → sh_fr (fun r k => nM r k ∨ (r = 321 ∧ k < 2)) μ m → sh_i m 291 5 = zI e.1 → sh_i m 291 6 = zI e.2 → 1 ≤ e.1 ∧ e.1 < 10 → f_X12_plainTold μ = some m → ∃ m, f_X12_plainTold μ = some m ∧ sh_fr (fun r k => nM r k ∨ (r = 321 ∧ k < 2)) μ m ∧ (∀ e, st_plain T n s = .inl e → sh_i m 291 5 = zI e.1 ∧ sh_i m 291 6 = zI e.2 ∧ 1 ≤ e.1 ∧ e.1 < 10) ∧ (∀ q, st_plain T n s = .inr q → mS m T n q.2.2 ∧ sh_i m 321 0 = zI (q.1 : Nat) ∧ sh_i m 321 1 = zI (q.2.1 : Nat)) := fun m e y z1 z2 z3 z4 z5 z6 => ⟨m, z6, z2, fun e' z => by rw [z1] at z; cases z; exact ⟨z3, z4, z5.1, z5.2⟩, fun q z => by rw [z1] at z; cases z⟩
  have st1 : f_X12_plainTold μ = sh_bind (f_X12_number 3 7 m1) (fun y6 μ4 => sh_let (sh_setI μ4 321 (Int32.toNatClampNeg 0) y6) (fun μ7 => sh_bindv (f_X12_needs 295 2 μ7) (fun μ8 => sh_bind (f_X12_number 3 7 μ8) (fun y13 μ11 => sh_let (sh_setI μ11 321 (Int32.toNatClampNeg 1) y13) (fun μ14 => sh_bindv (f_X12_asksSign 59 μ14) (fun μ15 => some μ15)))))) := by
    unfold f_X12_plainTold
    rw [a1', shv_ap]
  cases h1 : x_word T n ((0 : Nat) : Int) s with
  | inl e =>
    rw [h1] at a3
    have a3' : sh_i m1 291 5 = zI e.1 ∧ sh_i m1 291 6 = zI e.2 := a3
    have he := x_word_e h1
    have n1 := X5 m1 e a3'.1 he
    have n2 : ¬ sh_i (sh_setI m1 321 0 0) 291 5 = 0 := by rw [ir_set_r (by omega)]; exact n1
    have n3 : ¬ sh_i (sh_setI (sh_setI m1 321 0 0) 321 1 0) 291 5 = 0 := by rw [ir_set_r (by omega)]; exact n2
    refine fin1 (sh_setI (sh_setI m1 321 0 0) 321 1 0) e 0 (by unfold st_plain; rw [show x_word T n 0 s = .inl e from h1]; rfl) (sh_fr_I (sh_fr_I F1 (Or.inr ⟨rfl, by omega⟩)) (Or.inr ⟨rfl, by omega⟩)) (by rw [ir_set_r (by omega), ir_set_r (by omega)]; exact a3'.1) (by rw [ir_set_r (by omega), ir_set_r (by omega)]; exact a3'.2) he ?_
    rw [st1, nu_X n1, shb_ap, shl_ap]
    show sh_bindv (f_X12_needs 295 2 (sh_setI m1 321 0 0)) _ = _
    rw [ne_X n2, shv_ap, nu_X n2, shb_ap, shl_ap]
    show sh_bindv (f_X12_asksSign 59 (sh_setI (sh_setI m1 321 0 0) 321 1 0)) _ = _
    rw [as_X n3, shv_ap]
  | inr s1 =>
  rw [h1] at a3
  have S1 : mS m1 T n s1 := a3
  obtain ⟨v, m2, b1, b2, b3, b4⟩ := rf_num (lo := 3) (hi := 7) S1 (by omega) (by omega)
  have b1' : f_X12_number 3 7 m1 = some (v, m2) := b1
  have F2 := F1.trans (b2.mono (fun _ _ z => Or.inl z))
  obtain ⟨m3, hm3⟩ : ∃ m, m = sh_setI m2 321 0 v := ⟨_, rfl⟩
  have F3 : sh_fr (fun r k => nM r k ∨ (r = 321 ∧ k < 2)) μ m3 := by rw [hm3]; exact sh_fr_I F2 (Or.inr ⟨rfl, by omega⟩)
  have st2 : f_X12_plainTold μ = sh_bindv (f_X12_needs 295 2 m3) (fun μ8 => sh_bind (f_X12_number 3 7 μ8) (fun y13 μ11 => sh_let (sh_setI μ11 321 (Int32.toNatClampNeg 1) y13) (fun μ14 => sh_bindv (f_X12_asksSign 59 μ14) (fun μ15 => some μ15)))) := by
    rw [st1, b1', shb_ap, show sh_setI m2 321 (Int32.toNatClampNeg 0) v = m3 from hm3.symm, shl_ap]
  cases h2 : x_num T n 3 7 s1 with
  | inl e =>
    rw [h2] at b3
    have b3' : sh_i m2 291 5 = zI e.1 ∧ sh_i m2 291 6 = zI e.2 := b3
    have he := x_num_e h2
    have n2 : ¬ sh_i m3 291 5 = 0 := by rw [hm3, ir_set_r (by omega)]; exact X5 m2 e b3'.1 he
    have n3 : ¬ sh_i (sh_setI m3 321 1 0) 291 5 = 0 := by rw [ir_set_r (by omega)]; exact n2
    refine fin1 (sh_setI m3 321 1 0) e 0 (by unfold st_plain; rw [show x_word T n 0 s = .inr s1 from h1]; show xb (x_num T n 3 7 s1) _ = _; rw [h2]; rfl) (sh_fr_I F3 (Or.inr ⟨rfl, by omega⟩)) (by rw [ir_set_r (by omega), hm3, ir_set_r (by omega)]; exact b3'.1) (by rw [ir_set_r (by omega), hm3, ir_set_r (by omega)]; exact b3'.2) he ?_
    rw [st2, ne_X n2, shv_ap, nu_X n2, shb_ap, shl_ap]
    show sh_bindv (f_X12_asksSign 59 (sh_setI m3 321 1 0)) _ = _
    rw [as_X n3, shv_ap]
  | inr x =>
  rw [h2] at b3 b4
  have hv : v = zI (x.1 : Int) := (b4 rfl).1
  have S3 : mS m3 T n x.2 := by rw [hm3]; exact S321 m2 0 v x.2 b3
  obtain ⟨m4, c1, c2, c3⟩ := rf_word (w := 1) (r := 295) S3 (by omega) (hwf m3 F3 1 (by omega)) (by omega)
  have c1' : f_X12_needs 295 2 m3 = some m4 := c1
  have F4 := F3.trans (c2.mono (fun _ _ z => Or.inl z))
  cases h3 : x_word T n ((1 : Nat) : Int) x.2 with
  | inl e =>
    rw [h3] at c3
    have c3' : sh_i m4 291 5 = zI e.1 ∧ sh_i m4 291 6 = zI e.2 := c3
    have he := x_word_e h3
    have n2 : ¬ sh_i m4 291 5 = 0 := X5 m4 e c3'.1 he
    have n3 : ¬ sh_i (sh_setI m4 321 1 0) 291 5 = 0 := by rw [ir_set_r (by omega)]; exact n2
    refine fin1 (sh_setI m4 321 1 0) e 0 (by unfold st_plain; rw [show x_word T n 0 s = .inr s1 from h1]; show xb (x_num T n 3 7 s1) _ = _; rw [h2]; show xb (x_word T n 1 x.2) _ = _; rw [show x_word T n 1 x.2 = .inl e from h3]; rfl) (sh_fr_I F4 (Or.inr ⟨rfl, by omega⟩)) (by rw [ir_set_r (by omega)]; exact c3'.1) (by rw [ir_set_r (by omega)]; exact c3'.2) he ?_
    rw [st2, c1', shv_ap, nu_X n2, shb_ap, shl_ap]
    show sh_bindv (f_X12_asksSign 59 (sh_setI m4 321 1 0)) _ = _
    rw [as_X n3, shv_ap]
  | inr s3 =>
  rw [h3] at c3
  have S4 : mS m4 T n s3 := c3
  obtain ⟨v2, m5, d1, d2, d3, d4⟩ := rf_num (lo := 3) (hi := 7) S4 (by omega) (by omega)
  have d1' : f_X12_number 3 7 m4 = some (v2, m5) := d1
  have F5 := F4.trans (d2.mono (fun _ _ z => Or.inl z))
  obtain ⟨m6, hm6⟩ : ∃ m, m = sh_setI m5 321 1 v2 := ⟨_, rfl⟩
  have F6 : sh_fr (fun r k => nM r k ∨ (r = 321 ∧ k < 2)) μ m6 := by rw [hm6]; exact sh_fr_I F5 (Or.inr ⟨rfl, by omega⟩)
  have st3 : f_X12_plainTold μ = sh_bindv (f_X12_asksSign 59 m6) (fun μ15 => some μ15) := by
    rw [st2, c1', shv_ap, d1', shb_ap, show sh_setI m5 321 (Int32.toNatClampNeg 1) v2 = m6 from hm6.symm, shl_ap]
  cases h4 : x_num T n 3 7 s3 with
  | inl e =>
    rw [h4] at d3
    have d3' : sh_i m5 291 5 = zI e.1 ∧ sh_i m5 291 6 = zI e.2 := d3
    have he := x_num_e h4
    have n2 : ¬ sh_i m6 291 5 = 0 := by rw [hm6, ir_set_r (by omega)]; exact X5 m5 e d3'.1 he
    refine fin1 m6 e 0 (by unfold st_plain; rw [show x_word T n 0 s = .inr s1 from h1]; show xb (x_num T n 3 7 s1) _ = _; rw [h2]; show xb (x_word T n 1 x.2) _ = _; rw [show x_word T n 1 x.2 = .inr s3 from h3]; show xb (x_num T n 3 7 s3) _ = _; rw [h4]; rfl) F6 (by rw [hm6, ir_set_r (by omega)]; exact d3'.1) (by rw [hm6, ir_set_r (by omega)]; exact d3'.2) he ?_
    rw [st3, as_X n2, shv_ap]
  | inr y =>
  rw [h4] at d3 d4
  have hv2 : v2 = zI (y.1 : Int) := (d4 rfl).1
  have S6 : mS m6 T n y.2 := by rw [hm6]; exact S321 m5 1 v2 y.2 d3
  obtain ⟨m7, e1, e2, e3⟩ := rf_mark (c := 59) S6 (by omega)
  have e1' : f_X12_asksSign 59 m6 = some m7 := e1
  have F7 := F6.trans (e2.mono (fun _ _ z => Or.inl z))
  have er : st_plain T n s = xb (x_mark T n 59 y.2) fun s5 => .inr (x.1, y.1, s5) := by
    unfold st_plain
    rw [show x_word T n 0 s = .inr s1 from h1]
    show xb (x_num T n 3 7 s1) _ = _
    rw [h2]
    show xb (x_word T n 1 x.2) _ = _
    rw [show x_word T n 1 x.2 = .inr s3 from h3]
    show xb (x_num T n 3 7 s3) _ = _
    rw [h4]
    rfl
  have st4 : f_X12_plainTold μ = some m7 := by rw [st3, e1', shv_ap]
  cases h5 : x_mark T n 59 y.2 with
  | inl e =>
    rw [h5] at e3 er
    have e3' : sh_i m7 291 5 = zI e.1 ∧ sh_i m7 291 6 = zI e.2 := e3
    exact fin1 m7 e 0 er F7 e3'.1 e3'.2 (x_mark_e h5) st4
  | inr s5 =>
    rw [h5] at e3 er
    refine ⟨m7, st4, F7, fun e z => (by rw [er] at z; cases z), fun q z => ?_⟩
    rw [er] at z
    cases z
    refine ⟨e3, ?_, ?_⟩
    · show sh_i m7 321 0 = zI (x.1 : Nat)
      rw [e2.i 321 0 (by unfold nM; omega), hm6, ir_set_k (by omega), d2.i 321 0 (by unfold nM; omega), c2.i 321 0 (by unfold nM; omega), hm3, ir_set, hv]
    · show sh_i m7 321 1 = zI (y.1 : Nat)
      rw [e2.i 321 1 (by unfold nM; omega), hm6, ir_set, hv2]
end Sm6
