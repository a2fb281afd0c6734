/-! THE REFERENCE: how a part begins -/
/-- amid a sum or a test -/
def mRd (μ0 μ : sh_Mem) (T : Nat → Nat) (n : Nat) (s : xs) (C W : List Nat) (o b : Nat) : Prop := sh_fr nZq μ0 μ ∧ mS μ T n s ∧ mW μ C W o b ∧ C.length + W.length ≤ s.1 ∧ b ≤ W.length ∧ (∀ y ∈ W, y < 100) ∧ o ≤ 6
/-- a fault -/
def mFt (μ0 μ : sh_Mem) (e : Nat × Nat) : Prop := sh_fr nZq μ0 μ ∧ sh_i μ 291 5 = zI e.1 ∧ sh_i μ 291 6 = zI e.2 ∧ 1 ≤ e.1 ∧ e.1 < 10 ∧ ∃ c : Nat, c < 1650 ∧ sh_i μ 291 103 = zI c
theorem all1 {W : List Nat} {x m : Nat} (h : ∀ y ∈ W, y < m) (hx : x < m) : ∀ y ∈ W ++ [x], y < m := fun y hy => by
  rcases List.mem_append.mp hy with h1 | h1
  · exact h y h1
  · rw [List.mem_singleton.mp h1]
    exact hx
theorem ofN {p : Nat} (hp : p < 2000000000) : ¬ zI (p : Int) = -1 := fun z => by
  have := (zI_eq (b := -1) (by omega) (by omega) (by omega) (by omega)).mp z
  omega
section Gm3
variable {T : Nat → Nat} {n kd : Nat} {μ0 μ μ' : sh_Mem} {s : xs} {C W : List Nat} {o b : Nat} {e : Nat × Nat}
theorem mFt.ne (h : mFt μ0 μ e) : ¬ sh_i μ 291 5 = 0 := by
  rw [h.2.1]
  intro z
  have := (zI_eq (b := 0) (by have := h.2.2.2.2.1; omega) (by have := h.2.2.2.2.1; omega) (by omega) (by omega)).mp z
  have := h.2.2.2.1
  omega
theorem PT_X (g : Nat) (h : ¬ sh_i μ 291 5 = 0) : F_X12_qPartTold (g + 1) 1 1 μ = some μ := by
  rw [F_X12_qPartTold, if_neg (show ¬ (1 : Int32) = 0 by decide), if_neg h, if_neg h]
theorem xc_ne {c : Int} (h : mS μ T n s) (hc : 0 ≤ c ∧ c < 256 ∧ ¬ (97 ≤ c ∧ c ≤ 122) ∧ ¬ (48 ≤ c ∧ c ≤ 57) ∨ c = -1) (hK : ¬ xK T n s.1 s.2 = c) : ¬ zI (xc T n s) = zI c := fun z => by
  have hT := h.1
  have hkc := xK_c (s := s) (fun j hj => (hT.2 j hj).1) hT.1 hc
  have hxb : -1 ≤ xc T n s ∧ xc T n s < 256 := by
    unfold xc
    split
    · have := (hT.2 s.1 (by have := hT.1; omega)).1
      omega
    · omega
  exact hK (hkc.mpr ((zI_eq (by omega) (by omega) (by omega) (by omega)).mp z))
theorem xc_eq {c : Int} (h : mS μ T n s) (hc : 0 ≤ c ∧ c < 256 ∧ ¬ (97 ≤ c ∧ c ≤ 122) ∧ ¬ (48 ≤ c ∧ c ≤ 57) ∨ c = -1) (hK : xK T n s.1 s.2 = c) : xc T n s = c := by
  have hT := h.1
  exact (xK_c (s := s) (fun j hj => (hT.2 j hj).1) hT.1 hc).mp hK
theorem mRd.B (h : mRd μ0 μ T n s C W o b) (hw : hB μ0) : hB μ := hw.fr h.1
theorem mRd.k (h : mRd μ0 μ T n s C W o b) (h51 : sh_i μ0 291 51 = zI (kM kd)) : sh_i μ 291 51 = zI (kM kd) := by
  rw [h.1.i 291 51 (by unfold nZq nM nWq; omega)]
  exact h51
theorem k51 (h51 : sh_i μ 291 51 = zI (kM kd)) (f : sh_fr nZq μ μ') : sh_i μ' 291 51 = zI (kM kd) := by
  rw [f.i 291 51 (by unfold nZq nM nWq; omega)]
  exact h51
theorem mF_1 {p : Nat} (f : sh_fr nZq μ0 μ') (h : mW μ C W o b) (hc : C.length < 1650) (f1 : sh_fr nM μ μ') {k : Nat} (hk : 1 ≤ k ∧ k < 10) (h5 : sh_i μ' 291 5 = zI k) (h6 : sh_i μ' 291 6 = zI p) : mFt μ0 μ' (k, p) := ⟨f, h5, h6, hk.1, hk.2, C.length, hc, by rw [f1.i 291 103 (by unfold nM; omega)]; exact h.1⟩
theorem A_open (hk : kd < 3) (hw : hB μ0) (h51 : sh_i μ0 291 51 = zI (kM kd)) (h : mRd μ0 μ T n s C W o b) (hK : xK T n s.1 s.2 = 40) (ho : o < 6) (g : Nat) : ∃ μ', F_X12_qPartTold (g + 1) 1 1 μ = F_X12_qPartTold g 1 1 μ' ∧ mRd μ0 μ' T n (xA T n s) C (W ++ [20]) (o + 1) b := by
  have hwm := h.B hw
  have hkm := h.k h51
  obtain ⟨hf, hS, hM, hl, hb, hy, ho6⟩ := h
  have hle := hS.le
  obtain ⟨m1, a1, a2, a3⟩ := rf_look hS
  have fa := a2.mono (fun _ _ z => nZq_L z)
  obtain ⟨v, m2, b1, b2, b3, -, -⟩ := rf_word11 hk a3.S (hwm.fr fa) (k51 hkm fa)
  have fb := fa.trans (b2.mono (fun _ _ z => nZq_L z))
  have M2 : mW m2 C W o b := (hM.fL a2).fL b2
  obtain ⟨m3, c1, c2, c3⟩ := rf_qOpens (x := 20) (p := s.1) b3.2.2.1 M2 (by omega) ho
  have N3 := b3.fW c2
  have hlt : s.1 < n := xK_lt (T := T) (g := s.2) (by omega)
  have hA := xA_lt (T := T) hlt
  have fm : sh_fr nM m3 (sh_setI m3 291 2 (zI (s.1 : Int) + 1)) := sh_fr_I sh_fr.rf (by unfold nM; omega)
  refine ⟨sh_setI m3 291 2 (zI (s.1 : Int) + 1), ?_, (hf.trans fb).trans ((c2.mono (fun _ _ z => nZq_W z)).trans (fm.mono (fun _ _ z => nZq_M z))), N3.mark hlt (by omega), c3.fM fm, by rw [len1]; omega, by rw [len1]; omega, all1 hy (by omega), by omega⟩
  have c1' : f_X12_qOpens 20 (zI (s.1 : Int)) m2 = some m3 := c1
  rw [F_X12_qPartTold, if_neg (show ¬ (1 : Int32) = 0 by decide), hS.2.2.1, if_pos rfl, a1, shb_ap, b1, shb_ap, xc_eq hS (by omega) hK, if_pos (show zI 40 = 40 from rfl), b3.2.2.2.2.1, c1', shv_ap, N3.2.2.2.2.1, shl_ap]
theorem A_openX (hk : kd < 3) (hw : hB μ0) (h51 : sh_i μ0 291 51 = zI (kM kd)) (h : mRd μ0 μ T n s C W o b) (hK : xK T n s.1 s.2 = 40) (ho : 6 ≤ o) (g : Nat) : ∃ μ', F_X12_qPartTold (g + 1 + 1) 1 1 μ = some μ' ∧ mFt μ0 μ' (4, s.1) := by
  have hwm := h.B hw
  have hkm := h.k h51
  obtain ⟨hf, hS, hM, hl, hb, hy, ho6⟩ := h
  have hle := hS.le
  obtain ⟨m1, a1, a2, a3⟩ := rf_look hS
  have fa := a2.mono (fun _ _ z => nZq_L z)
  obtain ⟨v, m2, b1, b2, b3, -, -⟩ := rf_word11 hk a3.S (hwm.fr fa) (k51 hkm fa)
  have fb := fa.trans (b2.mono (fun _ _ z => nZq_L z))
  have M2 : mW m2 C W o b := (hM.fL a2).fL b2
  obtain ⟨m3, c1, c2, c3, c4⟩ := rf_qOpensX (x := 20) (p := s.1) b3.2.2.1 M2 (by omega)
  have fm : sh_fr nM m3 (sh_setI m3 291 2 (sh_i m3 291 2 + 1)) := sh_fr_I sh_fr.rf (by unfold nM; omega)
  have F : mFt μ0 (sh_setI m3 291 2 (sh_i m3 291 2 + 1)) (4, s.1) := mF_1 ((hf.trans fb).trans ((c2.trans fm).mono (fun _ _ z => nZq_M z))) M2 (by omega) (c2.trans fm) (by omega) (by rw [ir_set_k (by omega)]; exact c3) (by rw [ir_set_k (by omega)]; exact c4)
  refine ⟨_, ?_, F⟩
  have c1' : f_X12_qOpens 20 (zI (s.1 : Int)) m2 = some m3 := c1
  rw [F_X12_qPartTold, if_neg (show ¬ (1 : Int32) = 0 by decide), hS.2.2.1, if_pos rfl, a1, shb_ap, b1, shb_ap, xc_eq hS (by omega) hK, if_pos (show zI 40 = 40 from rfl), b3.2.2.2.2.1, c1', shv_ap, shl_ap]
  exact PT_X g F.ne
/-- behind `min` or `max` -/
noncomputable def twT (g : Nat) (c p v : Int32) (m : sh_Mem) : Option sh_Mem := if c = 40 then sh_bindv (f_X12_qOpens v p m) (fun m1 => sh_bindv (f_X12_asksSign 40 m1) (fun m2 => F_X12_qPartTold g 1 1 m2)) else sh_bindv (f_X12_asksSign 40 m) (fun m2 => F_X12_qPartTold g 1 1 m2)
theorem A_two0 (hk : kd < 3) (hw : hB μ0) (h51 : sh_i μ0 291 51 = zI (kM kd)) (h : mRd μ0 μ T n s C W o b) (hx : xw T n s = 25 ∨ xw T n s = 26) (g : Nat) : ∃ m, F_X12_qPartTold (g + 1) 1 1 μ = twT g (zI (xc T n (xA T n s))) (zI ((xA T n s).1 : Int)) (zI ((if xw T n s = 25 then 21 else 22 : Nat) : Int)) m ∧ mN m T n (xA T n s) ∧ sh_fr nM μ m := by
  have hwm := h.B hw
  have hkm := h.k h51
  obtain ⟨hf, hS, hM, hl, hb, hy, ho6⟩ := h
  have hle := hS.le
  have hK : xK T n s.1 s.2 = -2 := by
    rcases hx with z | z
    · exact xw_2 (w := 25) z
    · exact xw_2 (w := 26) z
  have hA := xA_le (T := T) hle.1
  obtain ⟨m1, a1, a2, a3⟩ := rf_look hS
  have fa := a2.mono (fun _ _ z => nZq_L z)
  obtain ⟨v, m2, b1, b2, b3, -, -⟩ := rf_word11 hk a3.S (hwm.fr fa) (k51 hkm fa)
  have fb := a2.trans b2
  have n40 : ¬ zI (xc T n s) = 40 := xc_ne (c := 40) hS (by omega) (by omega)
  obtain ⟨m3, c1, c2, c3⟩ := rf_isHere (w := 25) (r := 351) b3.S (by omega) (hwm.fr (fb.mono (fun _ _ z => nZq_L z)) 4 (by omega)) (by omega)
  have c1' : f_X12_isHere 351 3 m2 = some (zI (bI (decide (xw T n s = (25 : Int)))), m3) := c1
  have fc := fb.trans c2
  by_cases q : xw T n s = 25
  · obtain ⟨m4, d1, d2, d3, -⟩ := rf_takes (w := 25) (r := 351) c3.S (by omega) (hwm.fr (fc.mono (fun _ _ z => nZq_L z)) 4 (by omega)) (by omega)
    have d1' : f_X12_takes 351 3 m3 = some (zI (bI (decide (xw T n s = (25 : Int)))), m4) := d1
    obtain ⟨m5, e1, e2, e3⟩ := rf_look (d3 q)
    refine ⟨m5, ?_, e3, ((fc.mono (fun _ _ z => nLk_M z)).trans d2).trans (e2.mono (fun _ _ z => nLk_M z))⟩
    rw [F_X12_qPartTold, if_neg (show ¬ (1 : Int32) = 0 by decide), hS.2.2.1, if_pos rfl, a1, shb_ap, b1, shb_ap, if_neg n40, c1', shb_ap, decide_eq_true q, if_neg (show ¬ zI (bI true) = 0 by decide), d1', shb_ap, decide_eq_true q, if_neg (show ¬ zI (bI true) = 0 by decide), e1, shb_ap, e3.2.2.2.2.1, shl_ap, if_neg (ofN (by omega)), if_neg (show ¬ zI (bI true) = 0 by decide), if_pos q]
    rfl
  · have q2 : xw T n s = 26 := by omega
    obtain ⟨m4, d1, d2, d3⟩ := rf_isHere (w := 26) (r := 352) c3.S (by omega) (hwm.fr (fc.mono (fun _ _ z => nZq_L z)) 5 (by omega)) (by omega)
    have d1' : f_X12_isHere 352 3 m3 = some (zI (bI (decide (xw T n s = (26 : Int)))), m4) := d1
    have fd := fc.trans d2
    obtain ⟨m5, e1, -, -, e4⟩ := rf_takes (w := 25) (r := 351) d3.S (by omega) (hwm.fr (fd.mono (fun _ _ z => nZq_L z)) 4 (by omega)) (by omega)
    have e1' : f_X12_takes 351 3 m4 = some (zI (bI (decide (xw T n s = (25 : Int)))), m5) := e1
    obtain ⟨e5, e6⟩ := e4 q
    have fe := fd.trans e6
    obtain ⟨m6, g1, g2, g3⟩ := rf_word (w := 26) (r := 352) e5.S (by omega) (hwm.fr (fe.mono (fun _ _ z => nZq_L z)) 5 (by omega)) (by omega)
    have g1' : f_X12_needs 352 3 m5 = some m6 := g1
    rw [show x_word T n ((26 : Nat) : Int) s = .inr (xA T n s) from if_pos q2] at g3
    obtain ⟨m7, i1, i2, i3⟩ := rf_look (show mS m6 T n (xA T n s) from g3)
    refine ⟨m7, ?_, i3, ((fe.mono (fun _ _ z => nLk_M z)).trans g2).trans (i2.mono (fun _ _ z => nLk_M z))⟩
    rw [F_X12_qPartTold, if_neg (show ¬ (1 : Int32) = 0 by decide), hS.2.2.1, if_pos rfl, a1, shb_ap, b1, shb_ap, if_neg n40, c1', shb_ap, decide_eq_false q, if_pos (show zI (bI false) = 0 from rfl), d1', shb_ap, decide_eq_true q2, if_neg (show ¬ zI (bI true) = 0 by decide), e1', shb_ap, decide_eq_false q, if_pos (show zI (bI false) = 0 from rfl), g1', shv_ap, i1, shb_ap, i3.2.2.2.2.1, shl_ap, if_neg (ofN (by omega)), if_pos (show zI (bI false) = 0 from rfl), if_neg q]
    rfl
theorem A_two (hk : kd < 3) (hw : hB μ0) (h51 : sh_i μ0 291 51 = zI (kM kd)) (h : mRd μ0 μ T n s C W o b) (hx : xw T n s = 25 ∨ xw T n s = 26) (hK : xK T n (xA T n s).1 (xA T n s).2 = 40) (ho : o < 6) (g : Nat) : ∃ μ', F_X12_qPartTold (g + 1) 1 1 μ = F_X12_qPartTold g 1 1 μ' ∧ mRd μ0 μ' T n (xA T n (xA T n s)) C (W ++ [if xw T n s = 25 then 21 else 22]) (o + 1) b := by
  obtain ⟨m, a1, a2, a3⟩ := A_two0 hk hw h51 h hx g
  obtain ⟨hf, hS, hM, hl, hb, hy, ho6⟩ := h
  have hle := hS.le
  have hK2 : xK T n s.1 s.2 = -2 := by
    rcases hx with z | z
    · exact xw_2 (w := 25) z
    · exact xw_2 (w := 26) z
  have hA := xA_lt (T := T) (xK_2 hK2).1
  have hlt : (xA T n s).1 < n := xK_lt (T := T) (g := (xA T n s).2) (by omega)
  have hA2 := xA_lt (T := T) hlt
  have M1 := hM.fM a3
  obtain ⟨m3, c1, c2, c3⟩ := rf_qOpens (x := if xw T n s = 25 then 21 else 22) (p := (xA T n s).1) a2.2.2.1 M1 (by omega) ho
  obtain ⟨m4, d1, d2, d3⟩ := rf_mark (c := 40) (a2.fW c2).S (by omega)
  have d1' : f_X12_asksSign 40 m3 = some m4 := d1
  rw [show x_mark T n 40 (xA T n s) = .inr (xA T n (xA T n s)) from if_pos hK] at d3
  refine ⟨m4, ?_, (hf.trans (a3.mono (fun _ _ z => nZq_M z))).trans ((c2.mono (fun _ _ z => nZq_W z)).trans (d2.mono (fun _ _ z => nZq_M z))), d3, c3.fM d2, by rw [len1]; omega, by rw [len1]; omega, all1 hy (by split <;> omega), by omega⟩
  rw [a1, twT, xc_eq a2.S (by omega) hK, if_pos (show zI 40 = 40 from rfl), c1, shv_ap, d1', shv_ap]
theorem A_twoX (hk : kd < 3) (hw : hB μ0) (h51 : sh_i μ0 291 51 = zI (kM kd)) (h : mRd μ0 μ T n s C W o b) (hx : xw T n s = 25 ∨ xw T n s = 26) (hK : xK T n (xA T n s).1 (xA T n s).2 = 40) (ho : 6 ≤ o) (g : Nat) : ∃ μ', F_X12_qPartTold (g + 1 + 1) 1 1 μ = some μ' ∧ mFt μ0 μ' (4, (xA T n s).1) := by
  obtain ⟨m, a1, a2, a3⟩ := A_two0 hk hw h51 h hx (g + 1)
  obtain ⟨hf, hS, hM, hl, hb, hy, ho6⟩ := h
  have hle := hS.le
  have M1 := hM.fM a3
  obtain ⟨m3, c1, c2, c3, c4⟩ := rf_qOpensX (x := if xw T n s = 25 then 21 else 22) (p := (xA T n s).1) a2.2.2.1 M1 (by omega)
  have F : mFt μ0 m3 (4, (xA T n s).1) := mF_1 ((hf.trans (a3.mono (fun _ _ z => nZq_M z))).trans (c2.mono (fun _ _ z => nZq_M z))) M1 (by omega) c2 (by omega) c3 c4
  refine ⟨m3, ?_, F⟩
  rw [a1, twT, xc_eq a2.S (by omega) hK, if_pos (show zI 40 = 40 from rfl), c1, shv_ap, show f_X12_asksSign 40 m3 = some m3 from if_neg F.ne, shv_ap]
  exact PT_X g F.ne
theorem A_twoN (hk : kd < 3) (hw : hB μ0) (h51 : sh_i μ0 291 51 = zI (kM kd)) (h : mRd μ0 μ T n s C W o b) (hx : xw T n s = 25 ∨ xw T n s = 26) (hK : ¬ xK T n (xA T n s).1 (xA T n s).2 = 40) (g : Nat) : ∃ μ', F_X12_qPartTold (g + 1 + 1) 1 1 μ = some μ' ∧ mFt μ0 μ' (1, (xA T n s).1) := by
  obtain ⟨m, a1, a2, a3⟩ := A_two0 hk hw h51 h hx (g + 1)
  obtain ⟨hf, hS, hM, hl, hb, hy, ho6⟩ := h
  have hle := hS.le
  have M1 := hM.fM a3
  obtain ⟨m3, c1, c2, c3⟩ := rf_mark (c := 40) a2.S (by omega)
  have c1' : f_X12_asksSign 40 m = some m3 := c1
  rw [show x_mark T n 40 (xA T n s) = .inl (1, (xA T n s).1) from if_neg hK] at c3
  have F : mFt μ0 m3 (1, (xA T n s).1) := mF_1 ((hf.trans (a3.mono (fun _ _ z => nZq_M z))).trans (c2.mono (fun _ _ z => nZq_M z))) M1 (by omega) c2 (by omega) c3.1 c3.2
  refine ⟨m3, ?_, F⟩
  rw [a1, twT, if_neg (show ¬ zI (xc T n (xA T n s)) = 40 from xc_ne (c := 40) a2.S (by omega) hK), c1', shv_ap]
  exact PT_X g F.ne
/-- neither a bracket nor `min` nor `max` -/
theorem A_no (hk : kd < 3) (hw : hB μ0) (h51 : sh_i μ0 291 51 = zI (kM kd)) (h : mRd μ0 μ T n s C W o b) (hK : ¬ xK T n s.1 s.2 = 40) (hx : ¬ (xw T n s = 25 ∨ xw T n s = 26)) (g : Nat) : ∃ v m, F_X12_qPartTold (g + 1) 1 1 μ = (if v = -1 then F_X12_qPartTold g 1 0 m else sh_bindv (f_X12_qOpens ((60 + v) - 9) (zI (s.1 : Int)) m) (fun m1 => sh_bindv (f_X12_qAsksWord v m1) (fun m2 => F_X12_qPartTold g 1 1 m2))) ∧ mN m T n s ∧ sh_fr nLk μ m ∧ (kd = 2 ∧ (xw T n s = 7 ∨ xw T n s = 10) → v = if xw T n s = 7 then 9 else 10) ∧ (¬ (kd = 2 ∧ (xw T n s = 7 ∨ xw T n s = 10)) → v = -1) := by
  have hwm := h.B hw
  have hkm := h.k h51
  obtain ⟨hf, hS, hM, hl, hb, hy, ho6⟩ := h
  have hle := hS.le
  obtain ⟨m1, a1, a2, a3⟩ := rf_look hS
  have fa := a2.mono (fun _ _ z => nZq_L z)
  obtain ⟨v, m2, b1, b2, b3, b4, b5⟩ := rf_word11 hk a3.S (hwm.fr fa) (k51 hkm fa)
  have fb := a2.trans b2
  have n40 : ¬ zI (xc T n s) = 40 := xc_ne (c := 40) hS (by omega) hK
  obtain ⟨m3, c1, c2, c3⟩ := rf_isHere (w := 25) (r := 351) b3.S (by omega) (hwm.fr (fb.mono (fun _ _ z => nZq_L z)) 4 (by omega)) (by omega)
  have c1' : f_X12_isHere 351 3 m2 = some (zI (bI (decide (xw T n s = (25 : Int)))), m3) := c1
  have fc := fb.trans c2
  obtain ⟨m4, d1, d2, d3⟩ := rf_isHere (w := 26) (r := 352) c3.S (by omega) (hwm.fr (fc.mono (fun _ _ z => nZq_L z)) 5 (by omega)) (by omega)
  have d1' : f_X12_isHere 352 3 m3 = some (zI (bI (decide (xw T n s = (26 : Int)))), m4) := d1
  refine ⟨v, m4, ?_, d3, fc.trans d2, b4, b5⟩
  rw [F_X12_qPartTold, if_neg (show ¬ (1 : Int32) = 0 by decide), hS.2.2.1, if_pos rfl, a1, shb_ap, b1, shb_ap, if_neg n40, c1', shb_ap, decide_eq_false (fun z => hx (Or.inl z)), if_pos (show zI (bI false) = 0 from rfl), d1', shb_ap, decide_eq_false (fun z => hx (Or.inr z)), if_pos (show zI (bI false) = 0 from rfl), d3.2.2.2.2.1]
theorem A_of (hk : kd < 3) (hw : hB μ0) (h51 : sh_i μ0 291 51 = zI (kM kd)) (h : mRd μ0 μ T n s C W o b) (h2 : kd = 2) (hx : xw T n s = 7 ∨ xw T n s = 10) (ho : o < 6) (g : Nat) : ∃ μ', F_X12_qPartTold (g + 1) 1 1 μ = F_X12_qPartTold g 1 1 μ' ∧ mRd μ0 μ' T n (xA T n s) C (W ++ [if xw T n s = 7 then 60 else 61]) (o + 1) b := by
  have hK2 : xK T n s.1 s.2 = -2 := by
    rcases hx with z | z
    · exact xw_2 (w := 7) z
    · exact xw_2 (w := 10) z
  obtain ⟨v, m, a1, a2, a3, a4, -⟩ := A_no hk hw h51 h (by omega) (by omega) g
  have hwm := h.B hw
  obtain ⟨hf, hS, hM, hl, hb, hy, ho6⟩ := h
  have hle := hS.le
  have hA := xA_lt (T := T) (xK_2 hK2).1
  have hv := a4 ⟨h2, hx⟩
  have M1 := hM.fL a3
  obtain ⟨m3, c1, c2, c3⟩ := rf_qOpens (x := if xw T n s = 7 then 60 else 61) (p := s.1) a2.2.2.1 M1 (by omega) ho
  have fc := (a3.mono (fun _ _ z => nZq_L z)).trans (c2.mono (fun _ _ z => nZq_W z))
  obtain ⟨m4, d1, d2, d3⟩ := rf_qAsks (k := if xw T n s = 7 then 9 else 10) (a2.fW c2).S (hwm.fr fc) (by split <;> omega)
  have e3 : x_word T n (qw (6 + if xw T n s = 7 then 9 else 10)) s = .inr (xA T n s) := by
    apply if_pos
    rcases hx with z | z
    · rw [z]; rfl
    · rw [z]; rfl
  rw [e3] at d3
  refine ⟨m4, ?_, (hf.trans fc).trans (d2.mono (fun _ _ z => nZq_M z)), d3, c3.fM d2, by rw [len1]; omega, by rw [len1]; omega, all1 hy (by split <;> omega), by omega⟩
  have c1' : f_X12_qOpens ((60 + v) - 9) (zI (s.1 : Int)) m = some m3 := by
    rw [hv, ← c1]
    rcases hx with z | z
    · rw [z]; rfl
    · rw [z]; rfl
  have d1' : f_X12_qAsksWord v m3 = some m4 := by
    rw [hv, ← d1]
    rcases hx with z | z
    · rw [z]; rfl
    · rw [z]; rfl
  have hv1 : ¬ v = -1 := by
    rw [hv]
    split <;> decide
  rw [a1, if_neg hv1, c1', shv_ap, d1', shv_ap]
theorem A_ofX (hk : kd < 3) (hw : hB μ0) (h51 : sh_i μ0 291 51 = zI (kM kd)) (h : mRd μ0 μ T n s C W o b) (h2 : kd = 2) (hx : xw T n s = 7 ∨ xw T n s = 10) (ho : 6 ≤ o) (g : Nat) : ∃ μ', F_X12_qPartTold (g + 1 + 1) 1 1 μ = some μ' ∧ mFt μ0 μ' (4, s.1) := by
  have hK2 : xK T n s.1 s.2 = -2 := by
    rcases hx with z | z
    · exact xw_2 (w := 7) z
    · exact xw_2 (w := 10) z
  obtain ⟨v, m, a1, a2, a3, a4, -⟩ := A_no hk hw h51 h (by omega) (by omega) (g + 1)
  obtain ⟨hf, hS, hM, hl, hb, hy, ho6⟩ := h
  have hle := hS.le
  have hv := a4 ⟨h2, hx⟩
  have M1 := hM.fL a3
  obtain ⟨m3, c1, c2, c3, c4⟩ := rf_qOpensX (x := if xw T n s = 7 then 60 else 61) (p := s.1) a2.2.2.1 M1 (by omega)
  have F : mFt μ0 m3 (4, s.1) := mF_1 ((hf.trans (a3.mono (fun _ _ z => nZq_L z))).trans (c2.mono (fun _ _ z => nZq_M z))) M1 (by omega) c2 (by omega) c3 c4
  refine ⟨m3, ?_, F⟩
  have c1' : f_X12_qOpens ((60 + v) - 9) (zI (s.1 : Int)) m = some m3 := by
    rw [hv, ← c1]
    rcases hx with z | z
    · rw [z]; rfl
    · rw [z]; rfl
  have hv1 : ¬ v = -1 := by
    rw [hv]
    split <;> decide
  rw [a1, if_neg hv1, c1', shv_ap, rf_asksX F.ne, shv_ap]
  exact PT_X g F.ne
theorem qEnds_X {f : Nat} (h : ¬ sh_i μ 291 5 = 0) : F_X12_qEndsPart (f + 1) 1 μ = some μ := by
  rw [F_X12_qEndsPart, if_neg h]
/-- a fact -/
theorem A_fact (hk : kd < 3) (hw : hB μ0) (h51 : sh_i μ0 291 51 = zI (kM kd)) (h : mRd μ0 μ T n s C W o b) (hx : gW (xw T n s) < 9) (hm : sg_may kd (gW (xw T n s))) (g : Nat) : ∃ μ', F_X12_qPartTold (g + 1 + 1) 1 1 μ = sh_bindv (f_X12_qEndsPart μ') (fun m => some m) ∧ mRd μ0 μ' T n (xA T n s) (C ++ [gm (gW (xw T n s))]) W o b := by
  have hgx : xw T n s = 6 ∨ xw T n s = 14 ∨ xw T n s = 15 ∨ xw T n s = 16 ∨ xw T n s = 3 ∨ xw T n s = 17 ∨ xw T n s = 18 ∨ xw T n s = 19 ∨ xw T n s = 20 := by
    unfold gW at hx
    repeat' split at hx
    all_goals omega
  have hq : xw T n s = ((qw (6 + gW (xw T n s)) : Nat) : Int) := by
    rcases hgx with z | z | z | z | z | z | z | z | z <;> rw [z] <;> rfl
  have hK2 : xK T n s.1 s.2 = -2 := xw_2 hq
  obtain ⟨v, m, a1, a2, a3, -, a5⟩ := A_no hk hw h51 h (by omega) (by omega) (g + 1)
  have hwm := h.B hw
  have hkm := h.k h51
  obtain ⟨hf, hS, hM, hl, hb, hy, ho6⟩ := h
  have hle := hS.le
  have hA := xA_lt (T := T) (xK_2 hK2).1
  have hv := a5 (by omega)
  have fa := a3.mono (fun _ _ z => nZq_L z)
  obtain ⟨u, m2, b1, b2, b3, b4, -⟩ := rf_word9 hk a2.S (hwm.fr fa) (k51 hkm fa)
  have hu := b4 ⟨hx, hm⟩
  have fb := fa.trans (b2.mono (fun _ _ z => nZq_L z))
  obtain ⟨m4, d1, d2, d3⟩ := rf_qAsks (k := gW (xw T n s)) b3.S (hwm.fr fb) (by omega)
  rw [show x_word T n ((qw (6 + gW (xw T n s)) : Nat) : Int) s = .inr (xA T n s) from if_pos hq] at d3
  have M4 := ((hM.fL a3).fL b2).fM d2
  obtain ⟨m5, e1, e2, e3⟩ := rf_qCode (x := gm (gW (xw T n s))) M4 (by omega)
  refine ⟨m5, ?_, ((hf.trans fb).trans (d2.mono (fun _ _ z => nZq_M z))).trans (e2.mono (fun _ _ z => nZq_W z)), mS.fW d3 e2, e3, by rw [len1]; omega, hb, hy, ho6⟩
  have e1' : f_X12_qCode (40 + zI (gW (xw T n s) : Int)) m4 = some m5 := by
    rw [← e1]
    rcases hgx with z | z | z | z | z | z | z | z | z <;> rw [z] <;> rfl
  have u1 : ¬ zI (gW (xw T n s) : Int) = -1 := ofN (by omega)
  have h5 : sh_i m 291 5 = 0 := a2.2.2.1
  rw [a1, hv, if_pos rfl, F_X12_qPartTold, if_pos rfl, h5, if_pos rfl, b1, shb_ap, hu, if_neg u1, d1, shv_ap, if_neg u1, e1', shv_ap]
/-- a number, or nothing that may stand here -/
theorem A_num (hk : kd < 3) (hw : hB μ0) (h51 : sh_i μ0 291 51 = zI (kM kd)) (h : mRd μ0 μ T n s C W o b) (hK : ¬ xK T n s.1 s.2 = 40) (hx : ¬ (xw T n s = 25 ∨ xw T n s = 26)) (h2 : ¬ (kd = 2 ∧ (xw T n s = 7 ∨ xw T n s = 10))) (h9 : ¬ (gW (xw T n s) < 9 ∧ sg_may kd (gW (xw T n s)))) (g : Nat) : (∀ v s', x_num T n 0 9999 s = .inr (v, s') → ∃ μ', F_X12_qPartTold (g + 1 + 1) 1 1 μ = sh_bindv (f_X12_qEndsPart μ') (fun m => some m) ∧ mRd μ0 μ' T n s' (C ++ [gm (100 + v)]) W o b) ∧ (∀ e, x_num T n 0 9999 s = .inl e → ∃ μ', F_X12_qPartTold (g + 1 + 1) 1 1 μ = some μ' ∧ mFt μ0 μ' e) := by
  obtain ⟨v0, m, a1, a2, a3, -, a5⟩ := A_no hk hw h51 h hK hx (g + 1)
  have hwm := h.B hw
  have hkm := h.k h51
  obtain ⟨hf, hS, hM, hl, hb, hy, ho6⟩ := h
  have hle := hS.le
  have hv := a5 h2
  have fa := a3.mono (fun _ _ z => nZq_L z)
  obtain ⟨u, m2, b1, b2, b3, -, b5⟩ := rf_word9 hk a2.S (hwm.fr fa) (k51 hkm fa)
  have hu := b5 h9
  have fb := fa.trans (b2.mono (fun _ _ z => nZq_L z))
  obtain ⟨w, m4, d1, d2, d3, d4⟩ := rf_num (lo := 0) (hi := 9999) b3.S (by omega) (by omega)
  have d1' : f_X12_number 0 9999 m2 = some (w, m4) := d1
  have M4 := ((hM.fL a3).fL b2).fM d2
  have h5 : sh_i m 291 5 = 0 := a2.2.2.1
  have st : F_X12_qPartTold (g + 1 + 1) 1 1 μ = sh_bindv (f_X12_qCode (1000 + w) m4) (fun m5 => sh_bindv (f_X12_qEndsPart m5) (fun m6 => some m6)) := by
    rw [a1, hv, if_pos rfl, F_X12_qPartTold, if_pos rfl, h5, if_pos rfl, b1, shb_ap, hu, if_pos rfl, if_pos rfl, d1', shb_ap]
  constructor
  · intro v s' e
    rw [e] at d3 d4
    have hpos := x_num_r e
    have hA := xA_lt (T := T) (xK_3 hpos.1).1
    have hs : s' = xA T n s := hpos.2
    obtain ⟨m5, e1, e2, e3⟩ := rf_qCode (x := gm (100 + v)) M4 (by omega)
    have ev : gm (100 + v) = 1000 + v := by
      unfold gm sg_m
      rw [if_pos (by omega)]
      omega
    have e1' : f_X12_qCode (1000 + w) m4 = some m5 := by
      rw [(d4 rfl).1, ← e1, show (1000 : Int32) = zI 1000 from rfl, show xv (.inr (v, s')) = (v : Int) from rfl, zI_add, ev]
      rfl
    refine ⟨m5, by rw [st, e1', shv_ap], ((hf.trans fb).trans (d2.mono (fun _ _ z => nZq_M z))).trans (e2.mono (fun _ _ z => nZq_W z)), mS.fW d3 e2, e3, by rw [len1, hs]; omega, hb, hy, ho6⟩
  · intro e he
    rw [he] at d3
    have hke : 1 ≤ e.1 ∧ e.1 < 10 := by
      unfold x_num at he
      repeat' split at he
      all_goals first | (cases he; exact ⟨by simp, by simp⟩) | cases he
    obtain ⟨m5, e1, e2, e3⟩ := rf_qCodeA (v := 1000 + w) M4.1 (by omega)
    have f4 : sh_fr nZq μ0 m5 := ((hf.trans fb).trans (d2.mono (fun _ _ z => nZq_M z))).trans (e2.mono (fun _ _ z => nZq_W z))
    have F : mFt μ0 m5 e := ⟨f4, by rw [e2.i 291 5 (by unfold nWq; omega)]; exact d3.1, by rw [e2.i 291 6 (by unfold nWq; omega)]; exact d3.2, hke.1, hke.2, C.length + 1, by omega, e3⟩
    refine ⟨m5, ?_, F⟩
    obtain ⟨f, hfu⟩ : ∃ f, sh_fuel = f + 1 := ⟨sh_fuel - 1, by have := sh_fuel_eq; omega⟩
    rw [st, e1, shv_ap, f_X12_qEndsPart, hfu, qEnds_X F.ne, shv_ap]
end Gm3
