/-! THE REFERENCE reads a test as the rules say -/
def mFu (μ0 μ : sh_Mem) (e : Nat × Nat) : Prop := sh_fr nZq μ0 μ ∧ sh_i μ 291 5 = zI e.1 ∧ sh_i μ 291 6 = zI e.2 ∧ 1 ≤ e.1 ∧ e.1 < 10
noncomputable def KTB (f u : Nat) (m : sh_Mem) : Option sh_Mem := sh_bind (F_X12_qGoesOnTest u 1 m) (fun y m1 => if y = 0 then F_X12_qTest f 1 0 m1 else F_X12_qTest f 1 1 m1)
noncomputable def KTP (f : Nat) (m : sh_Mem) : Option sh_Mem := if (sh_i m 291 5) = 0 then sh_bind (f_X12_qGoesOnTest m) (fun y m1 => if y = 0 then F_X12_qTest f 1 0 m1 else F_X12_qTest f 1 1 m1) else F_X12_qTest f 1 0 m
section Gm7
variable {T : Nat → Nat} {n b kd : Nat} {μ0 μ μ' : sh_Mem} {s : xs} {C W : List Nat} {o : Nat} {e : Nat × Nat}
theorem mFu.ne (h : mFu μ0 μ e) : ¬ sh_i μ 291 5 = 0 := by
  rw [h.2.1]
  intro z
  have := (zI_eq (b := 0) (by have := h.2.2.2.2; omega) (by have := h.2.2.2.2; omega) (by omega) (by omega)).mp z
  have := h.2.2.2.1
  omega
theorem mFt.u (h : mFt μ0 μ e) : mFu μ0 μ e := ⟨h.1, h.2.1, h.2.2.1, h.2.2.2.1, h.2.2.2.2.1⟩
theorem mFu_1 {p k : Nat} (f : sh_fr nZq μ0 μ') (hk : 1 ≤ k ∧ k < 10) (h5 : sh_i μ' 291 5 = zI k) (h6 : sh_i μ' 291 6 = zI p) : mFu μ0 μ' (k, p) := ⟨f, h5, h6, hk.1, hk.2⟩
theorem qT_X {f : Nat} (h : ¬ sh_i μ 291 5 = 0) : F_X12_qTest (f + 1 + 1) 1 1 μ = some μ := by
  rw [F_X12_qTest, if_neg (show ¬ (1 : Int32) = 0 by decide), if_neg h, F_X12_qTest, if_neg h]
theorem qT_X0 {f : Nat} (h : ¬ sh_i μ 291 5 = 0) : F_X12_qTest (f + 1 + 1) 1 0 μ = some μ := by
  rw [F_X12_qTest, if_pos rfl, F_X12_qTest, if_neg h]
theorem TA_sq (h : mRd μ0 μ T n s C W o b) (hK : xK T n s.1 s.2 = 91) (ho : o < 6) (f : Nat) : ∃ μ', F_X12_qTest (f + 1) 1 1 μ = F_X12_qTest f 1 1 μ' ∧ mRd μ0 μ' T n (xA T n s) C (W ++ [25]) (o + 1) b := by
  obtain ⟨hf, hS, hM, hl, hb, hy, ho6⟩ := h
  have hle := hS.le
  obtain ⟨m1, a1, a2, a3⟩ := rf_look hS
  have M2 : mW m1 C W o b := hM.fL a2
  obtain ⟨m3, c1, c2, c3⟩ := rf_qOpens (x := 25) (p := s.1) a3.2.2.1 M2 (by omega) ho
  have N3 := a3.fW c2
  have hlt : s.1 < n := xK_lt (T := T) (g := s.2) (by omega)
  have hA := xA_lt (T := T) hlt
  have fm : sh_fr nM m3 (sh_setI m3 291 2 (zI (s.1 : Int) + 1)) := sh_fr_I sh_fr.rf (by unfold nM; omega)
  refine ⟨sh_setI m3 291 2 (zI (s.1 : Int) + 1), ?_, (hf.trans (a2.mono (fun _ _ z => nZq_L z))).trans ((c2.mono (fun _ _ z => nZq_W z)).trans (fm.mono (fun _ _ z => nZq_M z))), N3.mark hlt (by omega), c3.fM fm, by rw [len1]; omega, by rw [len1]; omega, all1 hy (by omega), by omega⟩
  have c1' : f_X12_qOpens 25 (zI (s.1 : Int)) m1 = some m3 := c1
  rw [F_X12_qTest, if_neg (show ¬ (1 : Int32) = 0 by decide), hS.2.2.1, if_pos rfl, a1, shb_ap, xc_eq hS (by omega) hK, if_pos (show zI 91 = 91 from rfl), a3.2.2.2.2.1, c1', shv_ap, N3.2.2.2.2.1, shl_ap]
theorem TA_sqX (h : mRd μ0 μ T n s C W o b) (hK : xK T n s.1 s.2 = 91) (ho : 6 ≤ o) (f : Nat) : ∃ μ', F_X12_qTest (f + 1 + 1 + 1) 1 1 μ = some μ' ∧ mFu μ0 μ' (4, s.1) := by
  obtain ⟨hf, hS, hM, hl, hb, hy, ho6⟩ := h
  have hle := hS.le
  obtain ⟨m1, a1, a2, a3⟩ := rf_look hS
  have M2 : mW m1 C W o b := hM.fL a2
  obtain ⟨m3, c1, c2, c3, c4⟩ := rf_qOpensX (x := 25) (p := s.1) a3.2.2.1 M2 (by omega)
  have fm : sh_fr nM m3 (sh_setI m3 291 2 (sh_i m3 291 2 + 1)) := sh_fr_I sh_fr.rf (by unfold nM; omega)
  have F : mFu μ0 (sh_setI m3 291 2 (sh_i m3 291 2 + 1)) (4, s.1) := mFu_1 ((hf.trans (a2.mono (fun _ _ z => nZq_L z))).trans ((c2.trans fm).mono (fun _ _ z => nZq_M z))) (by omega) (by rw [ir_set_k (by omega)]; exact c3) (by rw [ir_set_k (by omega)]; exact c4)
  refine ⟨_, ?_, F⟩
  have c1' : f_X12_qOpens 25 (zI (s.1 : Int)) m1 = some m3 := c1
  rw [F_X12_qTest, if_neg (show ¬ (1 : Int32) = 0 by decide), hS.2.2.1, if_pos rfl, a1, shb_ap, xc_eq hS (by omega) hK, if_pos (show zI 91 = 91 from rfl), a3.2.2.2.2.1, c1', shv_ap, shl_ap]
  exact qT_X F.ne
theorem TA_0 (hw : hB μ0) (h : mRd μ0 μ T n s C W o b) (hK : ¬ xK T n s.1 s.2 = 91) (f : Nat) : ∃ m, mN m T n s ∧ mRd μ0 m T n s C W o b ∧ F_X12_qTest (f + 1) 1 1 μ = (if zI (bI (decide (xw T n s = 23))) = 0 then sh_bindv (f_X12_qFact m) (fun m1 => sh_bindv (f_X12_qDropsNots m1) (KTP f)) else sh_bindv (f_X12_qOpens 12 (zI (s.1 : Int)) m) (fun m1 => sh_bindv (f_X12_needs 347 3 m1) (fun m2 => F_X12_qTest f 1 1 m2))) := by
  have hwm := h.B hw
  have hS := h.2.1
  obtain ⟨m1, a1, a2, a3⟩ := rf_look hS
  have h1 := h.nL a2 a3
  obtain ⟨m2, b1, b2, b3⟩ := rf_isHere (w := 23) (r := 347) a3.S (by omega) (h1.B hw 0 (by omega)) (by omega)
  have b1' : f_X12_isHere 347 3 m1 = some (zI (bI (decide (xw T n s = (23 : Int)))), m2) := b1
  refine ⟨m2, b3, h1.nL b2 b3, ?_⟩
  rw [F_X12_qTest, if_neg (show ¬ (1 : Int32) = 0 by decide), hS.2.2.1, if_pos rfl, a1, shb_ap, if_neg (show ¬ zI (xc T n s) = 91 from xc_ne (c := 91) hS (by omega) hK), b1', shb_ap, b3.2.2.2.2.1]
  rfl
theorem TA_not (hw : hB μ0) (h : mRd μ0 μ T n s C W o b) (hx : xw T n s = 23) (ho : o < 6) (f : Nat) : ∃ μ', F_X12_qTest (f + 1) 1 1 μ = F_X12_qTest f 1 1 μ' ∧ mRd μ0 μ' T n (xA T n s) C (W ++ [12]) (o + 1) b := by
  have hK2 : xK T n s.1 s.2 = -2 := xw_2 (w := 23) hx
  obtain ⟨m, a1, a2, a3⟩ := TA_0 hw h (by omega) f
  have hwm := a2.B hw
  obtain ⟨hf, hS, hM, hl, hb, hy, ho6⟩ := a2
  have hle := hS.le
  have hA := xA_lt (T := T) (xK_2 hK2).1
  obtain ⟨m3, c1, c2, c3⟩ := rf_qOpens (x := 12) (p := s.1) a1.2.2.1 hM (by omega) ho
  have c1' : f_X12_qOpens 12 (zI (s.1 : Int)) m = some m3 := c1
  obtain ⟨m4, d1, d2, d3⟩ := rf_word (w := 23) (r := 347) (a1.fW c2).S (by omega) (hwm.fr (c2.mono (fun _ _ z => nZq_W z)) 0 (by omega)) (by omega)
  have d1' : f_X12_needs 347 3 m3 = some m4 := d1
  rw [show x_word T n ((23 : Nat) : Int) s = .inr (xA T n s) from if_pos hx] at d3
  refine ⟨m4, ?_, hf.trans ((c2.mono (fun _ _ z => nZq_W z)).trans (d2.mono (fun _ _ z => nZq_M z))), d3, c3.fM d2, by rw [len1]; omega, by rw [len1]; omega, all1 hy (by omega), by omega⟩
  rw [a3, decide_eq_true hx, if_neg (show ¬ zI (bI true) = 0 by decide), c1', shv_ap, d1', shv_ap]
theorem TA_notX (hw : hB μ0) (h : mRd μ0 μ T n s C W o b) (hx : xw T n s = 23) (ho : 6 ≤ o) (f : Nat) : ∃ μ', F_X12_qTest (f + 1 + 1 + 1) 1 1 μ = some μ' ∧ mFu μ0 μ' (4, s.1) := by
  have hK2 : xK T n s.1 s.2 = -2 := xw_2 (w := 23) hx
  obtain ⟨m, a1, a2, a3⟩ := TA_0 hw h (by omega) (f + 1 + 1)
  obtain ⟨hf, hS, hM, hl, hb, hy, ho6⟩ := a2
  obtain ⟨m3, c1, c2, c3, c4⟩ := rf_qOpensX (x := 12) (p := s.1) a1.2.2.1 hM (by omega)
  have c1' : f_X12_qOpens 12 (zI (s.1 : Int)) m = some m3 := c1
  have F : mFu μ0 m3 (4, s.1) := mFu_1 (hf.trans (c2.mono (fun _ _ z => nZq_M z))) (by omega) c3 c4
  refine ⟨m3, ?_, F⟩
  rw [a3, decide_eq_true hx, if_neg (show ¬ zI (bI true) = 0 by decide), c1', shv_ap, show f_X12_needs 347 3 m3 = some m3 from if_neg F.ne, shv_ap]
  exact qT_X F.ne
theorem TA_fact (hw : hB μ0) (h : mRd μ0 μ T n s C W o b) (hK : ¬ xK T n s.1 s.2 = 91) (hx : ¬ xw T n s = 23) (f : Nat) : ∃ m, mRd μ0 m T n s C W o b ∧ F_X12_qTest (f + 1) 1 1 μ = sh_bindv (f_X12_qFact m) (fun m1 => sh_bindv (f_X12_qDropsNots m1) (KTP f)) := by
  obtain ⟨m, a1, a2, a3⟩ := TA_0 hw h hK f
  refine ⟨m, a2, ?_⟩
  rw [a3, decide_eq_false hx, if_pos (show zI (bI false) = 0 from rfl)]
theorem qF_all (hw : hB μ0) (h : mRd μ0 μ T n s C W o b) (hx : xw T n s = 24) : ∃ m, f_X12_qFact μ = some m ∧ mRd μ0 m T n (xA T n s) (C ++ [gm 23]) W o b := by
  have hK2 : xK T n s.1 s.2 = -2 := xw_2 (w := 24) hx
  have hwm := h.B hw
  obtain ⟨hf, hS, hM, hl, hb, hy, ho6⟩ := h
  have hle := hS.le
  have hA := xA_lt (T := T) (xK_2 hK2).1
  obtain ⟨m1, a1, a2, a3, -⟩ := rf_takes (w := 24) (r := 350) hS (by omega) (hwm 3 (by omega)) (by omega)
  have a1' : f_X12_takes 350 3 μ = some (zI (bI (decide (xw T n s = (24 : Int)))), m1) := a1
  obtain ⟨m2, c1, c2, c3⟩ := rf_qCode (x := gm 23) (hM.fM a2) (by omega)
  have c1' : f_X12_qCode 13 m1 = some m2 := c1
  refine ⟨m2, ?_, (hf.trans (a2.mono (fun _ _ z => nZq_M z))).trans (c2.mono (fun _ _ z => nZq_W z)), (a3 hx).fW c2, c3, by rw [len1]; omega, hb, hy, ho6⟩
  unfold f_X12_qFact
  rw [a1', shb_ap, decide_eq_true hx, if_neg (show ¬ zI (bI true) = 0 by decide), c1', shv_ap]
/-- two sums held against each other: what the first leaves -/
theorem qF_1 {r : xp} (hk : kd < 3) (hw : hB μ0) (h51 : sh_i μ0 291 51 = zI (kM kd)) (h : mRd μ0 μ T n s C W o b) (ht : ¬ tp W = 1 ∧ ¬ tp W = 2 ∧ ¬ tp W = 3 ∧ ¬ tp W = 4 ∧ tp W < 60) (hx : ¬ xw T n s = 24) (hr : PT T n kd 7 o s r) : ∃ m1 m2, f_X12_takes 350 3 μ = some (0, m1) ∧ f_X12_qSums m1 = some m2 ∧ rfS T n μ0 m2 C W o b r := by
  have hwm := h.B hw
  obtain ⟨m1, a1, -, -, a4⟩ := rf_takes (w := 24) (r := 350) h.2.1 (by omega) (hwm 3 (by omega)) (by omega)
  have a1' : f_X12_takes 350 3 μ = some (zI (bI (decide (xw T n s = (24 : Int)))), m1) := a1
  obtain ⟨a5, a6⟩ := a4 hx
  obtain ⟨m2, c1, c2⟩ := rf_qSums hk hw h51 (h.nL a6 a5) ht hr
  rw [decide_eq_false hx] at a1'
  exact ⟨m1, m2, a1', c1, c2⟩
theorem qF_X (hk : kd < 3) (hw : hB μ0) (h51 : sh_i μ0 291 51 = zI (kM kd)) (h : mRd μ0 μ T n s C W o b) (ht : ¬ tp W = 1 ∧ ¬ tp W = 2 ∧ ¬ tp W = 3 ∧ ¬ tp W = 4 ∧ tp W < 60) (hx : ¬ xw T n s = 24) (hr : PT T n kd 7 o s (.inl e)) : ∃ m, f_X12_qFact μ = some m ∧ mFu μ0 m e := by
  obtain ⟨m1, m2, a1, a2, a3⟩ := qF_1 hk hw h51 h ht hx hr
  have F : mFt μ0 m2 e := a3
  refine ⟨m2, ?_, F.u⟩
  unfold f_X12_qFact
  rw [a1, shb_ap, if_pos rfl, a2, shv_ap, if_neg F.ne]
theorem qF_N {s1 : xs} {l1 : List Nat} (hk : kd < 3) (hw : hB μ0) (h51 : sh_i μ0 291 51 = zI (kM kd)) (h : mRd μ0 μ T n s C W o b) (ht : ¬ tp W = 1 ∧ ¬ tp W = 2 ∧ ¬ tp W = 3 ∧ ¬ tp W = 4 ∧ tp W < 60) (hx : ¬ xw T n s = 24) (hr : PT T n kd 7 o s (.inr (s1, l1))) (hK : ¬ (xK T n s1.1 s1.2 = 60 ∨ xK T n s1.1 s1.2 = 62 ∨ xK T n s1.1 s1.2 = 61)) : ∃ m, f_X12_qFact μ = some m ∧ mFu μ0 m (1, s1.1) := by
  obtain ⟨m1, m2, a1, a2, a3⟩ := qF_1 hk hw h51 h ht hx hr
  have R : mRd μ0 m2 T n s1 (C ++ l1.map gm) W o b := a3
  obtain ⟨m3, c1, c2, c3⟩ := rf_look R.2.1
  obtain ⟨m4, r1, r2, r3⟩ := rf_fail (T := T) (n := n) (μ := m3) (k := 1) (p := s1.1) c3.2.2.1
  have r1' : f_X12_fail 1 (zI (s1.1 : Int)) m3 = some m4 := r1
  refine ⟨m4, ?_, mFu_1 ((R.1.trans (c2.mono (fun _ _ z => nZq_L z))).trans (r2.mono (fun _ _ z => nZq_M z))) (by omega) r3.1 r3.2⟩
  unfold f_X12_qFact
  rw [a1, shb_ap, if_pos rfl, a2, shv_ap, R.2.1.2.2.1, if_pos rfl, c1, shb_ap, if_neg (show ¬ zI (xc T n s1) = 60 from xc_ne (c := 60) R.2.1 (by omega) (by omega)), if_neg (show ¬ zI (xc T n s1) = 62 from xc_ne (c := 62) R.2.1 (by omega) (by omega)), if_neg (show ¬ zI (xc T n s1) = 61 from xc_ne (c := 61) R.2.1 (by omega) (by omega)), c3.2.2.2.2.1, r1', shv_ap]
theorem qF_G {s1 : xs} {l1 : List Nat} {r : xp} (hk : kd < 3) (hw : hB μ0) (h51 : sh_i μ0 291 51 = zI (kM kd)) (h : mRd μ0 μ T n s C W o b) (ht : ¬ tp W = 1 ∧ ¬ tp W = 2 ∧ ¬ tp W = 3 ∧ ¬ tp W = 4 ∧ tp W < 60) (hx : ¬ xw T n s = 24) (hr : PT T n kd 7 o s (.inr (s1, l1))) (hK : xK T n s1.1 s1.2 = 60 ∨ xK T n s1.1 s1.2 = 62 ∨ xK T n s1.1 s1.2 = 61) (hr2 : PT T n kd 7 o (xA T n s1) r) : (∀ e, r = .inl e → ∃ m, f_X12_qFact μ = some m ∧ mFu μ0 m e) ∧ (∀ q, r = .inr q → ∃ m, f_X12_qFact μ = some m ∧ mRd μ0 m T n q.1 (C ++ (l1 ++ (q.2 ++ [gK (xK T n s1.1 s1.2)])).map gm) W o b) := by
  obtain ⟨m1, m2, a1, a2, a3⟩ := qF_1 hk hw h51 h ht hx hr
  have R : mRd μ0 m2 T n s1 (C ++ l1.map gm) W o b := a3
  obtain ⟨m3, c1, c2, c3⟩ := rf_look R.2.1
  have R3 := R.nL c2 c3
  have hlt : s1.1 < n := xK_lt (T := T) (g := s1.2) (by omega)
  have hA := xA_lt (T := T) hlt
  obtain ⟨m4, hm4⟩ : ∃ m, m = sh_setI m3 291 2 (zI (s1.1 : Int) + 1) := ⟨_, rfl⟩
  have fm : sh_fr nM m3 m4 := by rw [hm4]; exact sh_fr_I sh_fr.rf (by unfold nM; omega)
  have S4 : mS m4 T n (xA T n s1) := by rw [hm4]; exact c3.mark hlt (by omega)
  have hl3 := R3.2.2.2.1
  have R4 : mRd μ0 m4 T n (xA T n s1) (C ++ l1.map gm) W o b := ⟨R3.1.trans (fm.mono (fun _ _ z => nZq_M z)), S4, R3.2.2.1.fM fm, by omega, R3.2.2.2.2⟩
  obtain ⟨m5, d1, d2⟩ := rf_qSums hk hw h51 R4 ht hr2
  have st : f_X12_qFact μ = sh_bindv (f_X12_qCode (zI (gm (gK (xK T n s1.1 s1.2)) : Nat)) m5) (fun m6 => some m6) := by
    unfold f_X12_qFact
    rw [a1, shb_ap, if_pos rfl, a2, shv_ap, R.2.1.2.2.1, if_pos rfl, c1, shb_ap]
    rcases hK with z | z | z
    · rw [z, xc_eq R.2.1 (by omega) z, if_pos (show zI 60 = 60 from rfl), c3.2.2.2.2.1, ← hm4, shl_ap, d1, shv_ap, if_pos (show zI 60 = 60 from rfl)]
      rfl
    · rw [z, xc_eq R.2.1 (by omega) z, if_neg (show ¬ zI 62 = 60 by decide), if_pos (show zI 62 = 62 from rfl), c3.2.2.2.2.1, ← hm4, shl_ap, d1, shv_ap, if_neg (show ¬ zI 62 = 60 by decide), if_pos (show zI 62 = 62 from rfl)]
      rfl
    · rw [z, xc_eq R.2.1 (by omega) z, if_neg (show ¬ zI 61 = 60 by decide), if_neg (show ¬ zI 61 = 62 by decide), if_pos (show zI 61 = 61 from rfl), c3.2.2.2.2.1, ← hm4, shl_ap, d1, shv_ap, if_neg (show ¬ zI 61 = 60 by decide), if_neg (show ¬ zI 61 = 62 by decide)]
      rfl
  constructor
  · intro e he
    rw [he] at d2
    have F : mFt μ0 m5 e := d2
    obtain ⟨c, g1, g2⟩ := F.2.2.2.2.2
    obtain ⟨m6, k1, k2, k3⟩ := rf_qCodeA (v := zI (gm (gK (xK T n s1.1 s1.2)) : Nat)) g2 (by omega)
    refine ⟨m6, by rw [st, k1, shv_ap], F.1.trans (k2.mono (fun _ _ z => nZq_W z)), by rw [k2.i 291 5 (by unfold nWq; omega)]; exact F.2.1, by rw [k2.i 291 6 (by unfold nWq; omega)]; exact F.2.2.1, F.2.2.2.1, F.2.2.2.2.1⟩
  · intro q hq
    have hgp := hr2.pos (by have := R4.2.1.le; omega)
    rw [hq] at d2 hgp
    have R5 : mRd μ0 m5 T n q.1 (C ++ l1.map gm ++ q.2.map gm) W o b := d2
    have hle5 := R5.2.1.le
    have hl5 := R5.2.2.2.1
    obtain ⟨m6, k1, k2, k3⟩ := rf_qCode (x := gm (gK (xK T n s1.1 s1.2))) R5.2.2.1 (by omega)
    refine ⟨m6, by rw [st, k1, shv_ap], R5.1.trans (k2.mono (fun _ _ z => nZq_W z)), R5.2.1.fW k2, ?_, ?_, R5.2.2.2.2⟩
    · rw [List.map_append, List.map_append, ← List.append_assoc, ← List.append_assoc]
      exact k3
    · have hg2 : (xA T n s1).1 + q.2.length ≤ q.1.1 := hgp.2.2.1
      rw [List.length_append, List.length_map, List.length_append, List.length_append]
      rw [List.length_append, List.length_map] at hl3
      show _ + (_ + (_ + 1)) + _ ≤ _
      omega
/-- whether a square bracket waits -/
theorem rf_sq (h : mW μ C W o b) (hl : W.length < 1700) (hy : ∀ y ∈ W, y < 100) : ∀ (g f j : Nat), j + g = W.length → g < f → F_X12_qHasSquare f 1 (zI j) μ = some (zI (bI (decide (25 ∈ W.drop j))), μ) := by
  obtain ⟨h1, h2, h3, h4, h6, h7⟩ := h
  intro g
  induction g with
  | zero =>
    intro f j hj hf
    obtain ⟨f, rfl⟩ : ∃ f', f = f' + 1 := ⟨f - 1, by omega⟩
    rw [F_X12_qHasSquare, h3, if_pos (zI_yes (by omega) (by omega)), List.drop_eq_nil_of_le (by omega), decide_eq_false (fun z => (by cases z))]
    rfl
  | succ g ih =>
    intro f j hj hf
    obtain ⟨f, rfl⟩ : ∃ f', f = f' + 1 := ⟨f - 1, by omega⟩
    have hd : W.drop j = W.getD j 0 :: W.drop (j + 1) := by
      rw [List.drop_eq_getElem_cons (show j < W.length by omega), List.getD_eq_getElem?_getD, List.getElem?_eq_getElem (show j < W.length by omega)]
      rfl
    have hyj := hy _ (gD_m (l := W) (j := j) (by omega))
    rw [F_X12_qHasSquare, h3, if_neg (zI_not (by omega) (by omega)), if_pos ((zI_in (by omega)).mpr (by omega)), tcN (by omega), h4 j (by omega), hd]
    by_cases c : W.getD j 0 = 25
    · rw [if_pos (show zI (W.getD j 0 : Nat) = 25 by rw [c]; rfl), decide_eq_true (List.mem_cons.mpr (Or.inl c.symm))]
      rfl
    · rw [if_neg (show ¬ zI (W.getD j 0 : Nat) = 25 from fun z => by have := (zI_eq (b := 25) (by omega) (by omega) (by omega) (by omega)).mp z; omega), zI_s1, ih f (j + 1) (by omega) (by omega)]
      by_cases c2 : 25 ∈ W.drop (j + 1)
      · rw [decide_eq_true c2, decide_eq_true (List.mem_cons.mpr (Or.inr c2))]
      · rw [decide_eq_false c2, decide_eq_false (fun z => by
          rcases List.mem_cons.mp z with z | z
          · exact c z.symm
          · exact c2 z)]
theorem rf_hasSq (h : mRd μ0 μ T n s C W o b) : f_X12_qHasSquare μ = some (zI (bI (decide (25 ∈ W))), μ) := by
  have hle := h.2.1.le
  have hl := h.2.2.2.1
  have := rf_sq h.2.2.1 (by omega) h.2.2.2.2.2.1 W.length sh_fuel 0 (by omega) (by rw [sh_fuel_eq]; omega)
  rw [List.drop_zero] at this
  exact this
/-- behind a word taken -/
theorem rf_tk {w r : Nat} (h : mRd μ0 μ T n s C W o b) (hw : w < 33) (hc : hW μ r w) (hr : ¬ r = 291) : ∃ m, f_X12_takes r (WD.getD w []).length μ = some (zI (bI (decide (xw T n s = (w : Int)))), m) ∧ (xw T n s = (w : Int) → mRd μ0 m T n (xA T n s) C W o b ∧ C.length + W.length + 1 ≤ (xA T n s).1) ∧ (¬ xw T n s = (w : Int) → mN m T n s ∧ mRd μ0 m T n s C W o b) := by
  obtain ⟨m, a1, a2, a3, a4⟩ := rf_takes h.2.1 hw hc hr
  refine ⟨m, a1, fun z => ?_, fun z => ⟨(a4 z).1, h.nL (a4 z).2 (a4 z).1⟩⟩
  have hA := xA_lt (T := T) (xK_2 (xw_2 z)).1
  have hl := h.2.2.2.1
  exact ⟨⟨h.1.trans (a2.mono (fun _ _ z => nZq_M z)), a3 z, h.2.2.1.fM a2, by omega, h.2.2.2.2⟩, by omega⟩
theorem D_3 (h10 : ¬ tp W = 10) : ∀ (k f : Nat) (P C : List Nat) (μ : sh_Mem), P.length = k → k + 1 ≤ f → mW μ C (W ++ P) o b → (W ++ P).length + C.length < 1690 → (∀ y ∈ W ++ P, y < 100) → (∀ y ∈ P, y = 10) → ∃ μ', F_X12_qGoesOnTest f 3 μ = some (1, μ') ∧ sh_fr nWq μ μ' ∧ mW μ' (C ++ P.reverse) (W ++ [10]) o b := by
  intro k
  induction k with
  | zero =>
    intro f P C μ hk hf h hl hy hP
    have : P = [] := List.eq_nil_of_length_eq_zero hk
    subst this
    rw [List.append_nil] at h hl hy
    obtain ⟨f, rfl⟩ : ∃ f', f = f' + 1 := ⟨f - 1, by omega⟩
    obtain ⟨p1, p2⟩ := rf_push (x := 10) h (by omega)
    refine ⟨_, ?_, p2, by rw [List.reverse_nil, List.append_nil]; exact p1⟩
    have o3 : f_X12_qIsOn 10 μ = some (zI (bI (decide (tp W = 10))), μ) := rf_isOnW h (by omega) hy (x := 10) (by omega)
    rw [F_X12_qGoesOnTest, o3, shb_ap, decide_eq_false h10, if_pos (show zI (bI false) = 0 from rfl), h.2.2.1, if_pos ((zI_in (by omega)).mpr (by omega)), tcN (by omega), shl_ap, show sh_i (sh_setI μ 365 W.length 10) 291 105 = zI W.length by rw [ir_set_r (by omega), h.2.2.1], shl_ap]
    rfl
  | succ k ih =>
    intro f P C μ hk hf h hl hy hP
    rcases List.eq_nil_or_concat P with rfl | ⟨P', y, rfl⟩
    · cases hk
    rw [List.concat_eq_append] at *
    rw [len1] at hk
    have hy1 := hP y (by rw [List.mem_append]; exact Or.inr (List.mem_singleton.mpr rfl))
    rw [← List.append_assoc] at h hl hy
    rw [len1] at hl
    obtain ⟨f, rfl⟩ : ∃ f', f = f' + 1 := ⟨f - 1, by omega⟩
    obtain ⟨m1, k1, k2, k3⟩ := rf_qDrops h (by omega) (by omega)
    obtain ⟨m2, r1, r2, r3⟩ := ih f P' (C ++ [y]) m1 (by omega) (by omega) k3 (by rw [len1]; omega) (fun z hz => hy z (by rw [List.mem_append]; exact Or.inl hz)) (fun z hz => hP z (by rw [List.mem_append]; exact Or.inl hz))
    refine ⟨m2, ?_, k2.trans r2, by rw [List.reverse_append, List.reverse_singleton, ← List.append_assoc]; exact r3⟩
    have o3 : f_X12_qIsOn 10 μ = some (zI (bI (decide (y = 10))), μ) := by
      have := rf_isOnW h (by rw [len1]; omega) hy (x := 10) (by omega)
      rw [tp_e] at this
      exact this
    rw [F_X12_qGoesOnTest, o3, shb_ap, decide_eq_true hy1, if_neg (show ¬ zI (bI true) = 0 by decide), k1, shv_ap]
    exact r1
theorem D_4 (h10 : ¬ tp W = 10) (h11 : ¬ tp W = 11) : ∀ (k f : Nat) (P C : List Nat) (μ : sh_Mem), P.length = k → k + 1 ≤ f → mW μ C (W ++ P) o b → (W ++ P).length + C.length < 1690 → (∀ y ∈ W ++ P, y < 100) → (∀ y ∈ P, y = 10 ∨ y = 11) → ∃ μ', F_X12_qGoesOnTest f 4 μ = some (1, μ') ∧ sh_fr nWq μ μ' ∧ mW μ' (C ++ P.reverse) (W ++ [11]) o b := by
  intro k
  induction k with
  | zero =>
    intro f P C μ hk hf h hl hy hP
    have : P = [] := List.eq_nil_of_length_eq_zero hk
    subst this
    rw [List.append_nil] at h hl hy
    obtain ⟨f, rfl⟩ : ∃ f', f = f' + 1 := ⟨f - 1, by omega⟩
    obtain ⟨p1, p2⟩ := rf_push (x := 11) h (by omega)
    refine ⟨_, ?_, p2, by rw [List.reverse_nil, List.append_nil]; exact p1⟩
    have o3 : f_X12_qIsOn 10 μ = some (zI (bI (decide (tp W = 10))), μ) := rf_isOnW h (by omega) hy (x := 10) (by omega)
    have o4 : f_X12_qIsOn 11 μ = some (zI (bI (decide (tp W = 11))), μ) := rf_isOnW h (by omega) hy (x := 11) (by omega)
    rw [F_X12_qGoesOnTest, o3, shb_ap, decide_eq_false h10, if_pos (show zI (bI false) = 0 from rfl), o4, shb_ap, decide_eq_false h11, if_pos (show zI (bI false) = 0 from rfl), h.2.2.1, if_pos ((zI_in (by omega)).mpr (by omega)), tcN (by omega), shl_ap, show sh_i (sh_setI μ 365 W.length 11) 291 105 = zI W.length by rw [ir_set_r (by omega), h.2.2.1], shl_ap]
    rfl
  | succ k ih =>
    intro f P C μ hk hf h hl hy hP
    rcases List.eq_nil_or_concat P with rfl | ⟨P', y, rfl⟩
    · cases hk
    rw [List.concat_eq_append] at *
    rw [len1] at hk
    have hy1 := hP y (by rw [List.mem_append]; exact Or.inr (List.mem_singleton.mpr rfl))
    rw [← List.append_assoc] at h hl hy
    rw [len1] at hl
    obtain ⟨f, rfl⟩ : ∃ f', f = f' + 1 := ⟨f - 1, by omega⟩
    obtain ⟨m1, k1, k2, k3⟩ := rf_qDrops h (by omega) (by omega)
    obtain ⟨m2, r1, r2, r3⟩ := ih f P' (C ++ [y]) m1 (by omega) (by omega) k3 (by rw [len1]; omega) (fun z hz => hy z (by rw [List.mem_append]; exact Or.inl hz)) (fun z hz => hP z (by rw [List.mem_append]; exact Or.inl hz))
    refine ⟨m2, ?_, k2.trans r2, by rw [List.reverse_append, List.reverse_singleton, ← List.append_assoc]; exact r3⟩
    have oN : ∀ z : Nat, 0 < z ∧ z < 100 → f_X12_qIsOn (zI z) μ = some (zI (bI (decide (y = z))), μ) := fun z hz => by
      have := rf_isOnW h (by rw [len1]; omega) hy (x := z) hz
      rw [tp_e] at this
      exact this
    have o3 : f_X12_qIsOn 10 μ = some (zI (bI (decide (y = 10))), μ) := oN 10 (by omega)
    have o4 : f_X12_qIsOn 11 μ = some (zI (bI (decide (y = 11))), μ) := oN 11 (by omega)
    rw [F_X12_qGoesOnTest, o3, shb_ap]
    by_cases c : y = 10
    · rw [decide_eq_true c, if_neg (show ¬ zI (bI true) = 0 by decide), k1, shv_ap]
      exact r1
    · rw [decide_eq_false c, if_pos (show zI (bI false) = 0 from rfl), o4, shb_ap, decide_eq_true (show y = 11 by omega), if_neg (show ¬ zI (bI true) = 0 by decide), k1, shv_ap]
      exact r1
theorem TB_and {P : List Nat} (hw : hB μ0) (h : mRd μ0 μ T n s C (W ++ P) o b) (hb : b ≤ W.length) (hP : P.length ≤ 1 ∧ ∀ y ∈ P, y = 10) (h10 : ¬ tp W = 10) (hx : xw T n s = 22) {f : Nat} (hf : 10 ≤ f) : ∃ μ', F_X12_qGoesOnTest f 1 μ = some (1, μ') ∧ mRd μ0 μ' T n (xA T n s) (C ++ P.reverse) (W ++ [10]) o b := by
  obtain ⟨f, rfl⟩ : ∃ f', f = f' + 1 := ⟨f - 1, by omega⟩
  have hK2 : xK T n s.1 s.2 = -2 := xw_2 (w := 22) hx
  have hS := h.2.1
  obtain ⟨m1, a1, a2, a3⟩ := rf_look hS
  have h1 := h.nL a2 a3
  obtain ⟨m2, b1, b2, -⟩ := rf_tk (w := 22) (r := 348) h1 (by omega) (h1.B hw 1 (by omega)) (by omega)
  have b1' : f_X12_takes 348 3 m1 = some (zI (bI (decide (xw T n s = (22 : Int)))), m2) := b1
  obtain ⟨c1, c2⟩ := b2 hx
  have hle := c1.2.1.le
  obtain ⟨m3, d1, d2, d3⟩ := D_3 h10 P.length f P C m2 rfl (by omega) c1.2.2.1 (by omega) c1.2.2.2.2.2.1 hP.2
  rw [List.length_append] at c2
  refine ⟨m3, ?_, c1.1.trans (d2.mono (fun _ _ z => nZq_W z)), c1.2.1.fW d2, d3, by rw [List.length_append, List.length_reverse, len1]; omega, by rw [len1]; omega, all1 (fun y hy => c1.2.2.2.2.2.1 y (List.mem_append.mpr (Or.inl hy))) (by omega), c1.2.2.2.2.2.2⟩
  rw [F_X12_qGoesOnTest, hS.2.2.1, if_pos rfl, a1, shb_ap, if_neg (show ¬ zI (xc T n s) = 93 from xc_ne (c := 93) hS (by omega) (by omega)), b1', shb_ap, decide_eq_true hx, if_neg (show ¬ zI (bI true) = 0 by decide), d1]
theorem TB_or {P : List Nat} (hw : hB μ0) (h : mRd μ0 μ T n s C (W ++ P) o b) (hb : b ≤ W.length) (hP : P.length ≤ 2 ∧ ∀ y ∈ P, y = 10 ∨ y = 11) (h10 : ¬ tp W = 10) (h11 : ¬ tp W = 11) (hx : xw T n s = 21) {f : Nat} (hf : 10 ≤ f) : ∃ μ', F_X12_qGoesOnTest f 1 μ = some (1, μ') ∧ mRd μ0 μ' T n (xA T n s) (C ++ P.reverse) (W ++ [11]) o b := by
  obtain ⟨f, rfl⟩ : ∃ f', f = f' + 1 := ⟨f - 1, by omega⟩
  have hK2 : xK T n s.1 s.2 = -2 := xw_2 (w := 21) hx
  have hS := h.2.1
  obtain ⟨m1, a1, a2, a3⟩ := rf_look hS
  have h1 := h.nL a2 a3
  obtain ⟨m2, b1, -, b3⟩ := rf_tk (w := 22) (r := 348) h1 (by omega) (h1.B hw 1 (by omega)) (by omega)
  have b1' : f_X12_takes 348 3 m1 = some (zI (bI (decide (xw T n s = (22 : Int)))), m2) := b1
  obtain ⟨-, h2⟩ := b3 (by omega)
  obtain ⟨m3, q1, q2, -⟩ := rf_tk (w := 21) (r := 349) h2 (by omega) (h2.B hw 2 (by omega)) (by omega)
  have q1' : f_X12_takes 349 2 m2 = some (zI (bI (decide (xw T n s = (21 : Int)))), m3) := q1
  obtain ⟨c1, c2⟩ := q2 hx
  have hle := c1.2.1.le
  obtain ⟨m4, d1, d2, d3⟩ := D_4 h10 h11 P.length f P C m3 rfl (by omega) c1.2.2.1 (by omega) c1.2.2.2.2.2.1 hP.2
  rw [List.length_append] at c2
  refine ⟨m4, ?_, c1.1.trans (d2.mono (fun _ _ z => nZq_W z)), c1.2.1.fW d2, d3, by rw [List.length_append, List.length_reverse, len1]; omega, by rw [len1]; omega, all1 (fun y hy => c1.2.2.2.2.2.1 y (List.mem_append.mpr (Or.inl hy))) (by omega), c1.2.2.2.2.2.2⟩
  rw [F_X12_qGoesOnTest, hS.2.2.1, if_pos rfl, a1, shb_ap, if_neg (show ¬ zI (xc T n s) = 93 from xc_ne (c := 93) hS (by omega) (by omega)), b1', shb_ap, decide_eq_false (by omega), if_pos (show zI (bI false) = 0 from rfl), q1', shb_ap, decide_eq_true hx, if_neg (show ¬ zI (bI true) = 0 by decide), d1]
/-- neither `and` nor `or`, and no closing mark that could close -/
theorem TB_n (hw : hB μ0) (h : mRd μ0 μ T n s C W o b) (hx : ¬ xw T n s = 22 ∧ ¬ xw T n s = 21) (hK : xK T n s.1 s.2 = 93 → ¬ 25 ∈ W) (f : Nat) : ∃ m, mN m T n s ∧ mRd μ0 m T n s C W o b ∧ F_X12_qGoesOnTest (f + 1) 1 μ = (if 25 ∈ W then sh_bindv (f_X12_fail 1 (zI (s.1 : Int)) m) (fun m1 => some (0, m1)) else some (0, m)) := by
  have hS := h.2.1
  obtain ⟨m1, a1, a2, a3⟩ := rf_look hS
  have h1 := h.nL a2 a3
  obtain ⟨m2, b1, -, b3⟩ := rf_tk (w := 22) (r := 348) h1 (by omega) (h1.B hw 1 (by omega)) (by omega)
  have b1' : f_X12_takes 348 3 m1 = some (zI (bI (decide (xw T n s = (22 : Int)))), m2) := b1
  obtain ⟨-, h2⟩ := b3 hx.1
  obtain ⟨m3, q1, -, q3⟩ := rf_tk (w := 21) (r := 349) h2 (by omega) (h2.B hw 2 (by omega)) (by omega)
  have q1' : f_X12_takes 349 2 m2 = some (zI (bI (decide (xw T n s = (21 : Int)))), m3) := q1
  obtain ⟨q4, q5⟩ := q3 hx.2
  refine ⟨m3, q4, q5, ?_⟩
  have sq1 := rf_hasSq h1
  have sq3 := rf_hasSq q5
  have tail : (sh_bind (f_X12_qHasSquare m3) (fun y227 μ225 => (if y227 = 0 then some ((0 : Int32), μ225) else sh_bindv (f_X12_fail 1 (sh_i μ225 291 2) μ225) (fun μ229 => some (0, μ229))))) = (if 25 ∈ W then sh_bindv (f_X12_fail 1 (zI (s.1 : Int)) m3) (fun m1 => some (0, m1)) else some (0, m3)) := by
    rw [sq3, shb_ap]
    by_cases c : 25 ∈ W
    · rw [decide_eq_true c, if_neg (show ¬ zI (bI true) = 0 by decide), if_pos c, q4.2.2.2.2.1]
    · rw [decide_eq_false c, if_pos (show zI (bI false) = 0 from rfl), if_neg c]
  rw [F_X12_qGoesOnTest, hS.2.2.1, if_pos rfl, a1, shb_ap]
  by_cases c : xK T n s.1 s.2 = 93
  · rw [xc_eq hS (by omega) c, if_pos (show zI 93 = 93 from rfl), sq1, shb_ap, decide_eq_false (hK c), if_pos (show zI (bI false) = 0 from rfl), b1', shb_ap, decide_eq_false hx.1, if_pos (show zI (bI false) = 0 from rfl), q1', shb_ap, decide_eq_false hx.2, if_pos (show zI (bI false) = 0 from rfl), q4.2.2.1, if_pos rfl]
    exact tail
  · rw [if_neg (show ¬ zI (xc T n s) = 93 from xc_ne (c := 93) hS (by omega) c), b1', shb_ap, decide_eq_false hx.1, if_pos (show zI (bI false) = 0 from rfl), q1', shb_ap, decide_eq_false hx.2, if_pos (show zI (bI false) = 0 from rfl), q4.2.2.1, if_pos rfl]
    exact tail
/-- all behind the latest square bracket is written -/
theorem D_2 {A : List Nat} : ∀ (k f : Nat) (P C : List Nat) (μ : sh_Mem), P.length = k → k < f → mW μ C (A ++ [25] ++ P) (o + 1) b → (A ++ [25] ++ P).length + C.length < 1690 → (∀ y ∈ A ++ [25] ++ P, y < 100) → (∀ y ∈ P, y = 10 ∨ y = 11) → ∃ (m : sh_Mem) (f' : Nat), f ≤ f' + k + 1 ∧ F_X12_qGoesOnTest f 2 μ = sh_bindv (f_X12_qDropsNots m) (fun m' => F_X12_qGoesOnTest f' 1 m') ∧ sh_fr nWq μ m ∧ mW m (C ++ P.reverse) A o b := by
  intro k
  induction k with
  | zero =>
    intro f P C μ hk hf h hl hy hP
    have : P = [] := List.eq_nil_of_length_eq_zero hk
    subst this
    rw [List.append_nil] at h hl hy
    obtain ⟨f, rfl⟩ : ∃ f', f = f' + 1 := ⟨f - 1, by omega⟩
    obtain ⟨m4, u1, u2, u3, u4⟩ := rf_pop h (by rw [len1] at hl; omega)
    refine ⟨m4, f, by omega, ?_, u3, by rw [List.reverse_nil, List.append_nil]; exact u2⟩
    have o3 : f_X12_qIsOn 25 μ = some (zI (bI (decide (tp (A ++ [25]) = 25))), μ) := rf_isOnW h (by omega) hy (x := 25) (by omega)
    rw [F_X12_qGoesOnTest, o3, shb_ap, decide_eq_true tp_e, if_neg (show ¬ zI (bI true) = 0 by decide), shl_ap, shl_ap, ← u1]
  | succ k ih =>
    intro f P C μ hk hf h hl hy hP
    rcases List.eq_nil_or_concat P with rfl | ⟨P', y, rfl⟩
    · cases hk
    rw [List.concat_eq_append] at *
    rw [len1] at hk
    have hy1 := hP y (by rw [List.mem_append]; exact Or.inr (List.mem_singleton.mpr rfl))
    rw [← List.append_assoc] at h hl hy
    rw [len1] at hl
    obtain ⟨f, rfl⟩ : ∃ f', f = f' + 1 := ⟨f - 1, by omega⟩
    obtain ⟨m1, k1, k2, k3⟩ := rf_qDrops h (by omega) (by omega)
    obtain ⟨m2, f2, r0, r1, r2, r3⟩ := ih f P' (C ++ [y]) m1 (by omega) (by omega) k3 (by rw [len1]; omega) (fun z hz => hy z (by rw [List.mem_append]; exact Or.inl hz)) (fun z hz => hP z (by rw [List.mem_append]; exact Or.inl hz))
    refine ⟨m2, f2, by omega, ?_, k2.trans r2, by rw [List.reverse_append, List.reverse_singleton, ← List.append_assoc]; exact r3⟩
    have o3 : f_X12_qIsOn 25 μ = some (zI (bI (decide (y = 25))), μ) := by
      have := rf_isOnW h (by rw [len1]; omega) hy (x := 25) (by omega)
      rw [tp_e] at this
      exact this
    rw [F_X12_qGoesOnTest, o3, shb_ap, decide_eq_false (show ¬ y = 25 by omega), if_pos (show zI (bI false) = 0 from rfl), k1, shv_ap]
    exact r1
theorem TB_close {A P : List Nat} (h : mRd μ0 μ T n s C (A ++ [25] ++ P) (o + 1) b) (hb : b ≤ A.length) (hP : P.length ≤ 2 ∧ ∀ y ∈ P, y = 10 ∨ y = 11) (hK : xK T n s.1 s.2 = 93) {f : Nat} (hf : 10 ≤ f) : ∃ m f', f ≤ f' + 5 ∧ F_X12_qGoesOnTest f 1 μ = sh_bindv (f_X12_qDropsNots m) (fun m' => F_X12_qGoesOnTest f' 1 m') ∧ mRd μ0 m T n (xA T n s) (C ++ P.reverse) A o b := by
  obtain ⟨f, rfl⟩ : ∃ f', f = f' + 1 := ⟨f - 1, by omega⟩
  have hS := h.2.1
  have hle := hS.le
  have hl := h.2.2.2.1
  obtain ⟨m1, a1, a2, a3⟩ := rf_look hS
  have h1 := h.nL a2 a3
  have sq1 := rf_hasSq h1
  have hin : 25 ∈ A ++ [25] ++ P := List.mem_append.mpr (Or.inl (List.mem_append.mpr (Or.inr (List.mem_singleton.mpr rfl))))
  have hlt : s.1 < n := xK_lt (T := T) (g := s.2) (by omega)
  have hA := xA_lt (T := T) hlt
  obtain ⟨m2, hm2⟩ : ∃ m, m = sh_setI m1 291 2 (zI (s.1 : Int) + 1) := ⟨_, rfl⟩
  have S2 : mS m2 T n (xA T n s) := by rw [hm2]; exact a3.mark hlt (by omega)
  have f2 : sh_fr nM m1 m2 := by rw [hm2]; exact sh_fr_I sh_fr.rf (by unfold nM; omega)
  obtain ⟨m3, f3, r0, r1, r2, r3⟩ := D_2 P.length f P C m2 rfl (by omega) (h1.2.2.1.fM f2) (by omega) h1.2.2.2.2.2.1 hP.2
  rw [List.length_append, len1] at hl
  refine ⟨m3, f3, by omega, ?_, (h1.1.trans (f2.mono (fun _ _ z => nZq_M z))).trans (r2.mono (fun _ _ z => nZq_W z)), S2.fW r2, r3, by rw [List.length_append, List.length_reverse]; omega, hb, fun y hy => h1.2.2.2.2.2.1 y (List.mem_append.mpr (Or.inl (List.mem_append.mpr (Or.inl hy)))), by have := h1.2.2.2.2.2.2; omega⟩
  rw [F_X12_qGoesOnTest, hS.2.2.1, if_pos rfl, a1, shb_ap, xc_eq hS (by omega) hK, if_pos (show zI 93 = 93 from rfl), sq1, shb_ap, decide_eq_true hin, if_neg (show ¬ zI (bI true) = 0 by decide), a3.2.2.2.2.1, ← hm2, shl_ap]
  exact r1
theorem TE_0 (h : mRd μ0 μ T n s C W o b) (ht : ¬ tp W = 12) (f : Nat) : F_X12_qDropsNots (f + 1) 1 μ = some μ := by
  have hle := h.2.1.le
  have hl := h.2.2.2.1
  have o3 : f_X12_qIsOn 12 μ = some (zI (bI (decide (tp W = 12))), μ) := rf_isOnW h.2.2.1 (by omega) h.2.2.2.2.2.1 (x := 12) (by omega)
  rw [F_X12_qDropsNots, h.2.1.2.2.1, if_pos rfl, o3, shb_ap, decide_eq_false ht, if_pos (show zI (bI false) = 0 from rfl)]
theorem TE_1 (h : mRd μ0 μ T n s C (W ++ [12]) (o + 1) b) (hb : b ≤ W.length) (f : Nat) : ∃ m, F_X12_qDropsNots (f + 1) 1 μ = F_X12_qDropsNots f 1 m ∧ mRd μ0 m T n s (C ++ [12]) W o b := by
  have hle := h.2.1.le
  obtain ⟨hf, hS, hM, hl, -, hy, ho6⟩ := h
  have o3 : f_X12_qIsOn 12 μ = some (zI (bI (decide (tp (W ++ [12]) = 12))), μ) := rf_isOnW hM (by omega) hy (x := 12) (by omega)
  rw [len1] at hl
  obtain ⟨m1, hm1⟩ : ∃ m, m = sh_setI μ 291 106 (zI o) := ⟨_, rfl⟩
  have f1 : sh_fr nWq μ m1 := by rw [hm1]; exact sh_fr_I sh_fr.rf (by unfold nWq; omega)
  have M1 : mW m1 C (W ++ [12]) o b := by
    obtain ⟨h1, h2, h3, h4, h6, h7⟩ := hM
    exact ⟨by rw [hm1, ir_set_k (by omega), h1], fun j hj => by rw [hm1, ir_set_r (by omega)]; exact h2 j hj, by rw [hm1, ir_set_k (by omega), h3], fun j hj => by rw [hm1, ir_set_r (by omega)]; exact h4 j hj, by rw [hm1, ir_set], by rw [hm1, ir_set_k (by omega), h7]⟩
  obtain ⟨m2, k1, k2, k3⟩ := rf_qDrops M1 (by omega) (by omega)
  refine ⟨m2, ?_, hf.trans ((f1.trans k2).mono (fun _ _ z => nZq_W z)), hS.fW (f1.trans k2), k3, by rw [len1]; omega, hb, fun y hz => hy y (List.mem_append.mpr (Or.inl hz)), by omega⟩
  have e2 : zI ((o + 1 : Nat) : Int) - 1 = zI (o : Int) := by
    rw [show (1 : Int32) = zI 1 from rfl, zI_sub]
    congr 1
    omega
  rw [F_X12_qDropsNots, hS.2.2.1, if_pos rfl, o3, shb_ap, decide_eq_true tp_e, if_neg (show ¬ zI (bI true) = 0 by decide), hM.2.2.2.2.1, e2, ← hm1, shl_ap, k1, shv_ap]
theorem TE_X {f : Nat} (h : ¬ sh_i μ 291 5 = 0) : F_X12_qDropsNots (f + 1) 1 μ = some μ := by
  rw [F_X12_qDropsNots, if_neg h]
end Gm7
