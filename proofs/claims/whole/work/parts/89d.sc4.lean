/-! THE CLASS: rules, any statement, a whole text -/
theorem sh_r_set {μ : sh_Mem} {r k r' k' : Nat} {x : Option Nat} : sh_r (sh_setR μ r k x) r' k' = if r' = r ∧ k' = k then x else sh_r μ r' k' := by
  show sh_row _ r _ r' k' = _
  by_cases h : r' = r
  · subst h
    rw [sh_row_s]
    by_cases h2 : k' = k
    · subst h2; simp [va_up]
    · simp [va_up, h2]
  · rw [sh_row_n h, if_neg (fun q => h q.1)]
section Sc4
variable {T : Nat → Nat} {n t : Nat} {μ μ' : sh_Mem} {s s' : xs} {P : sp_T} {L : sl_T}
theorem b01 (b : Bool) : zI (bI b) = 0 ∨ zI (bI b) = 1 := by
  cases b
  · exact Or.inl rfl
  · exact Or.inr rfl
theorem cl_rule {k off kd g : Nat} {c : sh_Mem → Option (Int32 × sh_Mem)} (hR : cR T n kd (t + off) g 0 c) (hF : t + off ∈ sh_FORMS) (ho : off = 5 ∨ off = 8 ∨ off = 11) (h : cD μ T n t s P L) : ∃ (q : xp) (m : sh_Mem), PT T n kd g 0 (xA T n s) q ∧ (sh_let (sh_setI μ t k 1) (fun μ62 => (if (sh_r μ62 7 2 = some (sh_ref μ62 7 2) ∧ ((sh_ref μ62 7 2) = 8 ∨ (sh_ref μ62 7 2) = 29)) then sh_let (sh_ref μ62 7 2) (fun r64 => sh_bindv (f_X6_beginRule (r64 + off) (zI kd) μ62) (fun μ65 => sh_bind (c μ65) (fun y70 μ68 => (if y70 = 0 ∨ y70 = 1 then some (y70, μ68) else none)))) else none))) = some (zI (bI q.isRight), m) ∧ cFr t μ m ∧ cQ m T n (t + off) [] q ∧ fO m ∧ sh_r m 7 2 = some t ∧ (∀ r, t ≤ r → r < t + 20 → ¬ r = t → ¬ r = t + off → ¬ r = t + off + 1 → sh_i m r = sh_i μ r) ∧ (∀ j, ¬ j = k → sh_i m t j = sh_i μ t j) ∧ sh_i m t k = 1 := by
  have hpb := isP_b h.2.2.2.1
  have ht := h.2.2.2.1
  obtain ⟨m1, hm1⟩ : ∃ m, m = sh_setI μ t k 1 := ⟨_, rfl⟩
  have f1 : sh_fr (fun r j => r = t ∧ j = k) μ m1 := by rw [hm1]; exact sh_fr_I sh_fr.rf ⟨rfl, rfl⟩
  have S1 : cS m1 T n s := h.1.cg (f1.row 1 (fun j => by omega)) (f1.row 2 (fun j => by omega))
  have r1 : sh_r m1 7 2 = some t := by rw [f1.1]; exact h.2.2.1
  obtain ⟨k0, k1⟩ := dck r1 ht
  obtain ⟨m2, a1, a2, a3, -⟩ := cl_adv S1
  obtain ⟨m3, hm3⟩ : ∃ m, m = sh_setI (sh_setI (sh_setR m2 6 1 (some (t + off))) (t + off) 1 0) 6 2 (zI kd) := ⟨_, rfl⟩
  have i3 : ∀ r j, ¬ (r = t + off ∧ j = 1) → ¬ (r = 6 ∧ j = 2) → sh_i m3 r j = sh_i m2 r j := fun r j z1 z2 => by
    rw [hm3, sh_i_set, if_neg (fun q => z2 ⟨q.1, q.2⟩), sh_i_set, if_neg (fun q => z1 ⟨q.1, q.2⟩)]
    rfl
  have row3 : ∀ r, ¬ r = t + off → ¬ r = 6 → sh_i m3 r = sh_i m2 r := fun r z1 z2 => funext fun j => i3 r j (fun q => z1 q.1) (fun q => z2 q.1)
  have S3 : cS m3 T n (xA T n s) := a3.cg (row3 1 (by omega) (by omega)) (row3 2 (by omega) (by omega))
  have ref3 : sh_r m3 6 1 = some (t + off) := by
    rw [hm3]
    show sh_r (sh_setR m2 6 1 (some (t + off))) 6 1 = _
    rw [sh_r_set, if_pos ⟨rfl, rfl⟩]
  have ref3' : ∀ r j, ¬ (r = 6 ∧ j = 1) → sh_r m3 r j = sh_r m2 r j := fun r j z => by
    rw [hm3]
    show sh_r (sh_setR m2 6 1 (some (t + off))) r j = _
    rw [sh_r_set, if_neg (fun q => z ⟨q.1, q.2⟩)]
  have Y3 : cY m3 (t + off) kd := ⟨ref3, hF, by rw [hm3, ir_set]⟩
  have F3 : sm_form m3 (t + off) [] := by
    refine ⟨?_, fun j hj => absurd hj (Nat.not_lt_zero j)⟩
    rw [hm3, ir_set_r (by omega), ir_set]
    rfl
  obtain ⟨q, m4, c1, c2, c3, c4⟩ := hR (xA T n s) [] m3 S3 Y3 F3 (Nat.zero_le _)
  have hbr : f_X6_beginRule (t + off) (zI kd) m1 = some m3 := by
    unfold f_X6_beginRule f_X2_begin
    have rs : sh_r (sh_setR m2 6 1 (some (t + off))) 6 1 = some (t + off) := by rw [sh_r_set, if_pos ⟨rfl, rfl⟩]
    have rf : sh_ref (sh_setR m2 6 1 (some (t + off))) 6 1 = t + off := by unfold sh_ref; rw [rs]; rfl
    rw [a1, shv_ap, shl_ap, rf, if_pos ⟨rs, hF⟩, shl_ap, shl_ap, shl_ap, ← hm3, shv_ap]
  refine ⟨q, m4, c1, ?_, ⟨fun r j z => ?_, fun r j z => ?_⟩, c4, ?_, ?_, ?_, ?_, ?_⟩
  · rw [← hm1, shl_ap, k0, if_pos k1, shl_ap, hbr, shv_ap, c2, shb_ap, if_pos (b01 _)]
  · have z2 : ¬ nV r j := fun q => z (nV_C q)
    have e4 := c3.2 r j (by unfold nFm; rintro (q | q | q) <;> first | exact z2 q | exact z (Or.inr (Or.inl (by omega))))
    have e2 := a2.2 r j z2
    have e1 := f1.2 r j (fun q => z (Or.inr (Or.inl (by omega))))
    refine ⟨e4.1.trans ((i3 r j (fun q => z (Or.inr (Or.inl (by omega)))) (fun q => z (Or.inr (Or.inr q)))).trans (e2.1.trans e1.1)), e4.2.trans (Eq.trans ?_ (e2.2.trans e1.2))⟩
    rw [hm3]
    rfl
  · rw [c3.1, ref3' r j z, a2.1, f1.1]
  · exact ⟨t + off, hF, by rw [c3.1]; exact ref3⟩
  · rw [c3.1, ref3' 7 2 (by omega), a2.1]
    exact r1
  · intro r h1 h2 h3 h4 h5
    rw [c3.row r (fun j => by unfold nFm nV; omega), row3 r h4 (by omega), a2.row r (fun j => by unfold nV; omega), f1.row r (fun j => by omega)]
  · intro j hj
    rw [c3.i t j (by unfold nFm nV; omega), i3 t j (by omega) (by omega), a2.i t j (by unfold nV; omega), f1.i t j (by omega)]
  · rw [c3.i t k (by unfold nFm nV; omega), i3 t k (by omega) (by omega), a2.i t k (by unfold nV; omega), hm1, ir_set]
theorem cl_rule0 (h : cD μ T n t s P L) : ∃ q, PT T n 0 7 0 (xA T n s) q ∧ cSst T n t (fun μ => sh_let (sh_setI μ t 13 1) (fun μ62 => (if (sh_r μ62 7 2 = some (sh_ref μ62 7 2) ∧ ((sh_ref μ62 7 2) = 8 ∨ (sh_ref μ62 7 2) = 29)) then sh_let (sh_ref μ62 7 2) (fun r64 => sh_bindv (f_X6_beginRule (r64 + 5) 0 μ62) (fun μ65 => sh_bind (f_X2_sum_top 0 μ65) (fun y70 μ68 => (if y70 = 0 ∨ y70 = 1 then some (y70, μ68) else none)))) else none))) (st_f (dp_0 P) L q) μ := by
  have hpb := isP_b h.2.2.2.1
  have hF : t + 5 ∈ sh_FORMS := by
    rcases h.2.2.2.1 with z | z <;> rw [z] <;> decide
  obtain ⟨q, m, c1, c2, c3, c4, c5, c6, c7, c8, c9⟩ := cl_rule (k := 13) (off := 5) (kd := 0) (g := 7) (c := f_X2_sum_top 0) (cl_sumTop (T := T) (n := n) (kd := 0) (F := t + 5) (by omega)) hF (by omega) h
  refine ⟨q, c1, m, ?_, c3, ?_⟩
  · refine Eq.trans c2 ?_
    cases q with
    | inl e => rfl
    | inr q => rfl
  · cases q with
    | inl e =>
      have e1 : sh_i m 2 10 = zI e.1 ∧ sh_i m 2 11 = zI e.2 ∧ _ := c4
      exact ⟨e1.1, e1.2.1, c5⟩
    | inr q =>
      have e1 : cS m T n q.1 ∧ sm_form m (t + 5) ([] ++ q.2) := c4
      obtain ⟨d1, ⟨d2, d3, d4, d5, d6⟩, d7, d8, d9⟩ := h
      obtain ⟨b1, b2, b3, b4, b5, b6, b7, b8, b9, b10, b11, b12⟩ := d2
      refine ⟨e1.1, ⟨⟨?_, ?_, ?_, ?_, ?_, ?_, ?_, ?_, ?_, (show sm_form m (t + 5) ([] ++ q.2) from e1.2), b11.cg (c7 (t + 8) (by omega) (by omega) (by omega) (by omega) (by omega)) (c7 (t + 8 + 1) (by omega) (by omega) (by omega) (by omega) (by omega)), b12.cg (c7 (t + 11) (by omega) (by omega) (by omega) (by omega) (by omega)) (c7 (t + 11 + 1) (by omega) (by omega) (by omega) (by omega) (by omega))⟩, d3.cg (fun j hj => c7 _ (by omega) (by omega) (by omega) (by omega) (by omega)), by rw [c9]; rfl, by rw [c8 14 (by omega)]; exact d5, by rw [c8 15 (by omega)]; exact d6⟩, c6, d8, c5⟩
      · rw [c8 0 (by omega)]; exact b1
      · rw [c8 1 (by omega)]; exact b2
      · rw [c8 2 (by omega)]; exact b3
      · rw [c8 3 (by omega)]; exact b4
      · rw [c8 4 (by omega)]; exact b5
      · rw [c8 5 (by omega)]; exact b6
      · rw [c7 (t + 1) (by omega) (by omega) (by omega) (by omega) (by omega)]; exact b7
      · rw [c7 (t + 2) (by omega) (by omega) (by omega) (by omega) (by omega)]; exact b8
      · rw [c7 (t + 3) (by omega) (by omega) (by omega) (by omega) (by omega), c7 (t + 4) (by omega) (by omega) (by omega) (by omega) (by omega)]; exact b9
theorem cl_rule1 (h : cD μ T n t s P L) : ∃ q, PT T n 1 7 0 (xA T n s) q ∧ cSst T n t (fun μ => sh_let (sh_setI μ t 14 1) (fun μ62 => (if (sh_r μ62 7 2 = some (sh_ref μ62 7 2) ∧ ((sh_ref μ62 7 2) = 8 ∨ (sh_ref μ62 7 2) = 29)) then sh_let (sh_ref μ62 7 2) (fun r64 => sh_bindv (f_X6_beginRule (r64 + 8) 1 μ62) (fun μ65 => sh_bind (f_X2_sum_top 0 μ65) (fun y70 μ68 => (if y70 = 0 ∨ y70 = 1 then some (y70, μ68) else none)))) else none))) (st_f (dp_1 P) L q) μ := by
  have hpb := isP_b h.2.2.2.1
  have hF : t + 8 ∈ sh_FORMS := by
    rcases h.2.2.2.1 with z | z <;> rw [z] <;> decide
  obtain ⟨q, m, c1, c2, c3, c4, c5, c6, c7, c8, c9⟩ := cl_rule (k := 14) (off := 8) (kd := 1) (g := 7) (c := f_X2_sum_top 0) (cl_sumTop (T := T) (n := n) (kd := 1) (F := t + 8) (by omega)) hF (by omega) h
  refine ⟨q, c1, m, ?_, c3, ?_⟩
  · refine Eq.trans c2 ?_
    cases q with
    | inl e => rfl
    | inr q => rfl
  · cases q with
    | inl e =>
      have e1 : sh_i m 2 10 = zI e.1 ∧ sh_i m 2 11 = zI e.2 ∧ _ := c4
      exact ⟨e1.1, e1.2.1, c5⟩
    | inr q =>
      have e1 : cS m T n q.1 ∧ sm_form m (t + 8) ([] ++ q.2) := c4
      obtain ⟨d1, ⟨d2, d3, d4, d5, d6⟩, d7, d8, d9⟩ := h
      obtain ⟨b1, b2, b3, b4, b5, b6, b7, b8, b9, b10, b11, b12⟩ := d2
      refine ⟨e1.1, ⟨⟨?_, ?_, ?_, ?_, ?_, ?_, ?_, ?_, ?_, b10.cg (c7 (t + 5) (by omega) (by omega) (by omega) (by omega) (by omega)) (c7 (t + 5 + 1) (by omega) (by omega) (by omega) (by omega) (by omega)), (show sm_form m (t + 8) ([] ++ q.2) from e1.2), b12.cg (c7 (t + 11) (by omega) (by omega) (by omega) (by omega) (by omega)) (c7 (t + 11 + 1) (by omega) (by omega) (by omega) (by omega) (by omega))⟩, d3.cg (fun j hj => c7 _ (by omega) (by omega) (by omega) (by omega) (by omega)), by rw [c8 13 (by omega)]; exact d4, by rw [c9]; rfl, by rw [c8 15 (by omega)]; exact d6⟩, c6, d8, c5⟩
      · rw [c8 0 (by omega)]; exact b1
      · rw [c8 1 (by omega)]; exact b2
      · rw [c8 2 (by omega)]; exact b3
      · rw [c8 3 (by omega)]; exact b4
      · rw [c8 4 (by omega)]; exact b5
      · rw [c8 5 (by omega)]; exact b6
      · rw [c7 (t + 1) (by omega) (by omega) (by omega) (by omega) (by omega)]; exact b7
      · rw [c7 (t + 2) (by omega) (by omega) (by omega) (by omega) (by omega)]; exact b8
      · rw [c7 (t + 3) (by omega) (by omega) (by omega) (by omega) (by omega), c7 (t + 4) (by omega) (by omega) (by omega) (by omega) (by omega)]; exact b9
theorem cl_rule2 (h : cD μ T n t s P L) : ∃ q, PT T n 1 9 0 (xA T n s) q ∧ cSst T n t (fun μ => sh_let (sh_setI μ t 15 1) (fun μ62 => (if (sh_r μ62 7 2 = some (sh_ref μ62 7 2) ∧ ((sh_ref μ62 7 2) = 8 ∨ (sh_ref μ62 7 2) = 29)) then sh_let (sh_ref μ62 7 2) (fun r64 => sh_bindv (f_X6_beginRule (r64 + 11) 1 μ62) (fun μ65 => sh_bind (f_X2_test_top 0 μ65) (fun y70 μ68 => (if y70 = 0 ∨ y70 = 1 then some (y70, μ68) else none)))) else none))) (st_f (dp_2 P) L q) μ := by
  have hpb := isP_b h.2.2.2.1
  have hF : t + 11 ∈ sh_FORMS := by
    rcases h.2.2.2.1 with z | z <;> rw [z] <;> decide
  obtain ⟨q, m, c1, c2, c3, c4, c5, c6, c7, c8, c9⟩ := cl_rule (k := 15) (off := 11) (kd := 1) (g := 9) (c := f_X2_test_top 0) (cl_testTop (T := T) (n := n) (kd := 1) (F := t + 11) (by omega)) hF (by omega) h
  refine ⟨q, c1, m, ?_, c3, ?_⟩
  · refine Eq.trans c2 ?_
    cases q with
    | inl e => rfl
    | inr q => rfl
  · cases q with
    | inl e =>
      have e1 : sh_i m 2 10 = zI e.1 ∧ sh_i m 2 11 = zI e.2 ∧ _ := c4
      exact ⟨e1.1, e1.2.1, c5⟩
    | inr q =>
      have e1 : cS m T n q.1 ∧ sm_form m (t + 11) ([] ++ q.2) := c4
      obtain ⟨d1, ⟨d2, d3, d4, d5, d6⟩, d7, d8, d9⟩ := h
      obtain ⟨b1, b2, b3, b4, b5, b6, b7, b8, b9, b10, b11, b12⟩ := d2
      refine ⟨e1.1, ⟨⟨?_, ?_, ?_, ?_, ?_, ?_, ?_, ?_, ?_, b10.cg (c7 (t + 5) (by omega) (by omega) (by omega) (by omega) (by omega)) (c7 (t + 5 + 1) (by omega) (by omega) (by omega) (by omega) (by omega)), b11.cg (c7 (t + 8) (by omega) (by omega) (by omega) (by omega) (by omega)) (c7 (t + 8 + 1) (by omega) (by omega) (by omega) (by omega) (by omega)), (show sm_form m (t + 11) ([] ++ q.2) from e1.2)⟩, d3.cg (fun j hj => c7 _ (by omega) (by omega) (by omega) (by omega) (by omega)), by rw [c8 13 (by omega)]; exact d4, by rw [c8 14 (by omega)]; exact d5, by rw [c9]; rfl⟩, c6, d8, c5⟩
      · rw [c8 0 (by omega)]; exact b1
      · rw [c8 1 (by omega)]; exact b2
      · rw [c8 2 (by omega)]; exact b3
      · rw [c8 3 (by omega)]; exact b4
      · rw [c8 4 (by omega)]; exact b5
      · rw [c8 5 (by omega)]; exact b6
      · rw [c7 (t + 1) (by omega) (by omega) (by omega) (by omega) (by omega)]; exact b7
      · rw [c7 (t + 2) (by omega) (by omega) (by omega) (by omega) (by omega)]; exact b8
      · rw [c7 (t + 3) (by omega) (by omega) (by omega) (by omega) (by omega), c7 (t + 4) (by omega) (by omega) (by omega) (by omega) (by omega)]; exact b9
theorem cl_kw (h : cS μ T n s) : (xK T n s.1 s.2 = -2 → sh_i μ 2 3 = -2 ∧ sh_i μ 2 6 = zI (xw T n s)) ∧ (¬ xK T n s.1 s.2 = -2 → ¬ sh_i μ 2 3 = -2) ∧ sh_i μ 2 4 = zI s.1 ∧ (sh_i μ 2 3 = -1 ↔ xK T n s.1 s.2 = -1) := by
  obtain ⟨hT, ⟨c1, c2, c3, c4, c5, c6⟩, h3, h4⟩ := h
  have hb := xK_b (T := T) (n := n) (a := s.1) (g := s.2) (fun j hj => (hT.2 j hj).1) hT.1
  refine ⟨fun z => ?_, fun z q => z ?_, c4, ?_⟩
  · obtain ⟨k1, k2, k3⟩ := xK_2 z
    refine ⟨by rw [c3, z]; rfl, ?_⟩
    rw [(c5 k1 k2).2.1]
    unfold xw
    rw [if_pos z]
  · rw [c3] at q
    exact (zI_eq (b := -2) (by omega) (by omega) (by omega) (by omega)).mp q
  · rw [c3]
    exact zI_eq (a := xK T n s.1 s.2) (b := -1) (by omega) (by omega) (by omega) (by omega)
theorem e01 {r : xd} {m : sh_Mem} {c : sh_Mem → Option (Int32 × sh_Mem)} (h : c μ = some (zI (bI r.isRight), m)) : sh_bind (c μ) (fun y m => (if y = 0 ∨ y = 1 then some (y, m) else none)) = some (zI (bI r.isRight), m) := by
  rw [h, shb_ap, if_pos (b01 _)]
theorem cSst.b {r : xd} {c : sh_Mem → Option (Int32 × sh_Mem)} (h : cSst T n t c r μ) : cSst T n t (fun μ => sh_bind (c μ) (fun y m => (if y = 0 ∨ y = 1 then some (y, m) else none))) r μ := by
  obtain ⟨m, h1, h2, h3⟩ := h
  exact ⟨m, e01 h1, h2, h3⟩
theorem cSst.to {r : xd} {c c' : sh_Mem → Option (Int32 × sh_Mem)} (h : cSst T n t c r μ) (e : c' μ = c μ) : cSst T n t c' r μ := by
  obtain ⟨m, h1, h2, h3⟩ := h
  exact ⟨m, e.trans h1, h2, h3⟩
theorem cl_bad {k : Nat} (h : cD μ T n t s P L) : cSst T n t (fun μ => sh_bind (f_X8_fails (zI k) (sh_i μ 2 4) μ) (fun y m => (if y = 0 ∨ y = 1 then some (y, m) else none))) (.inl (k, s.1)) μ := by
  obtain ⟨m, f1, f2, f3⟩ := h.fails (k := k) (p := s.1)
  refine ⟨m, ?_, f2, f3⟩
  show sh_bind (f_X8_fails (zI k) (sh_i μ 2 4) μ) _ = _
  rw [(cl_kw h.1).2.2.1, f1, shb_ap, if_pos (Or.inl rfl)]
  rfl
/-- whether there are too many already -/
theorem cl_many (h : cD μ T n t s P L) (hd : dOK P L) {x : Int} (hx : -1 ≤ x ∧ x < 33) : f_X6_isOneTooMany (zI x) μ = some (zI (bI (decide ((x = 3 ∧ 5 ≤ sp_nt P) ∨ (x = 4 ∧ 7 ≤ sp_np P) ∨ (x = 9 ∧ 12 ≤ (sp_li P).length) ∨ (x = 10 ∧ (sp_told P).1 = true) ∨ (x = 11 ∧ (sp_told P).2.1 = true) ∨ (x = 12 ∧ (sp_told P).2.2 = true)))), μ) := by
  have hb := sp_bd hd.1
  obtain ⟨k0, k1⟩ := dck h.2.2.1 h.2.2.2.1
  have nx : ∀ c : Int, c < 100 → 0 ≤ c → ¬ x = c → ¬ zI x = zI c := fun c h1 h2 h3 z => h3 ((zI_eq (by omega) (by omega) (by omega) (by omega)).mp z)
  obtain ⟨b1, b2, b3, b4, b5, b6, -⟩ := h.2.1.1
  rw [nI_z] at b3 b4 b5
  have lt : ∀ a c : Nat, a < 1000 → c < 1000 → (zI (a : Int) < zI (c : Int) ↔ a < c) := fun a c h1 h2 => by
    rw [zI_lt (by omega) (by omega) (by omega) (by omega)]
    omega
  unfold f_X6_isOneTooMany
  by_cases c3 : x = 3
  · rw [if_pos (show zI x = 3 by rw [c3]; rfl), k0, if_pos k1, shl_ap, b3]
    by_cases c : 5 ≤ sp_nt P
    · rw [if_neg (show ¬ zI (sp_nt P : Nat) < 5 from fun z => by have := (lt (sp_nt P) 5 (by omega) (by omega)).mp z; omega), decide_eq_true (by omega)]
      rfl
    · rw [if_pos (show zI (sp_nt P : Nat) < 5 from (lt (sp_nt P) 5 (by omega) (by omega)).mpr (by omega)), decide_eq_false (by omega)]
      rfl
  rw [if_neg (show ¬ zI x = 3 from nx 3 (by omega) (by omega) c3)]
  by_cases c4 : x = 4
  · rw [if_pos (show zI x = 4 by rw [c4]; rfl), k0, if_pos k1, shl_ap, b4]
    by_cases c : 7 ≤ sp_np P
    · rw [if_neg (show ¬ zI (sp_np P : Nat) < 7 from fun z => by have := (lt (sp_np P) 7 (by omega) (by omega)).mp z; omega), decide_eq_true (by omega)]
      rfl
    · rw [if_pos (show zI (sp_np P : Nat) < 7 from (lt (sp_np P) 7 (by omega) (by omega)).mpr (by omega)), decide_eq_false (by omega)]
      rfl
  rw [if_neg (show ¬ zI x = 4 from nx 4 (by omega) (by omega) c4)]
  by_cases c5 : x = 5
  · rw [if_pos (show zI x = 5 by rw [c5]; rfl), decide_eq_false (by omega)]
    rfl
  rw [if_neg (show ¬ zI x = 5 from nx 5 (by omega) (by omega) c5)]
  by_cases c6 : x = 6
  · rw [if_pos (show zI x = 6 by rw [c6]; rfl), decide_eq_false (by omega)]
    rfl
  rw [if_neg (show ¬ zI x = 6 from nx 6 (by omega) (by omega) c6)]
  by_cases c7 : x = 7
  · rw [if_pos (show zI x = 7 by rw [c7]; rfl), decide_eq_false (by omega)]
    rfl
  rw [if_neg (show ¬ zI x = 7 from nx 7 (by omega) (by omega) c7)]
  by_cases c8 : x = 8
  · rw [if_pos (show zI x = 8 by rw [c8]; rfl), decide_eq_false (by omega)]
    rfl
  rw [if_neg (show ¬ zI x = 8 from nx 8 (by omega) (by omega) c8)]
  by_cases c9 : x = 9
  · rw [if_pos (show zI x = 9 by rw [c9]; rfl), k0, if_pos k1, shl_ap, b5]
    by_cases c : 12 ≤ (sp_li P).length
    · rw [if_neg (show ¬ zI ((sp_li P).length : Nat) < 12 from fun z => by have := (lt (sp_li P).length 12 (by omega) (by omega)).mp z; omega), decide_eq_true (by omega)]
      rfl
    · rw [if_pos (show zI ((sp_li P).length : Nat) < 12 from (lt (sp_li P).length 12 (by omega) (by omega)).mpr (by omega)), decide_eq_false (by omega)]
      rfl
  rw [if_neg (show ¬ zI x = 9 from nx 9 (by omega) (by omega) c9)]
  by_cases c10 : x = 10
  · rw [if_pos (show zI x = 10 by rw [c10]; rfl), k0, if_pos k1, shl_ap, h.2.1.2.2.1, if_pos (b01 _)]
    cases hb : (sp_told P).1 with
    | true =>
      rw [decide_eq_true (Or.inr (Or.inr (Or.inr (Or.inl ⟨c10, rfl⟩))))]
    | false =>
      rw [decide_eq_false (by rintro (z | z | z | z | z | z) <;> first | omega | (cases z.2))]
  rw [if_neg (show ¬ zI x = 10 from nx 10 (by omega) (by omega) c10)]
  by_cases c11 : x = 11
  · rw [if_pos (show zI x = 11 by rw [c11]; rfl), k0, if_pos k1, shl_ap, h.2.1.2.2.2.1, if_pos (b01 _)]
    cases hb : (sp_told P).2.1 with
    | true =>
      rw [decide_eq_true (Or.inr (Or.inr (Or.inr (Or.inr (Or.inl ⟨c11, rfl⟩)))))]
    | false =>
      rw [decide_eq_false (by rintro (z | z | z | z | z | z) <;> first | omega | (cases z.2))]
  rw [if_neg (show ¬ zI x = 11 from nx 11 (by omega) (by omega) c11)]
  by_cases c12 : x = 12
  · rw [if_pos (show zI x = 12 by rw [c12]; rfl), k0, if_pos k1, shl_ap, h.2.1.2.2.2.2, if_pos (b01 _)]
    cases hb : (sp_told P).2.2 with
    | true =>
      rw [decide_eq_true (Or.inr (Or.inr (Or.inr (Or.inr (Or.inr ⟨c12, rfl⟩)))))]
    | false =>
      rw [decide_eq_false (by rintro (z | z | z | z | z | z) <;> first | omega | (cases z.2))]
  rw [if_neg (show ¬ zI x = 12 from nx 12 (by omega) (by omega) c12)]
  rw [decide_eq_false (by omega)]
  rfl
theorem cl_stmt (h : cD μ T n t s P L) (hd : dOK P L) : ∃ r, SRt T n s P L r ∧ cSst T n t f_X6_readStatement r μ := by
  obtain ⟨w1, w2, w3, -⟩ := cl_kw h.1
  have hxb := xw_b (T := T) (n := n) (s := s)
  have nx : ∀ c : Int, c < 100 → 0 ≤ c → ¬ xw T n s = c → ¬ zI (xw T n s) = zI c := fun c h1 h2 h3 z => h3 ((zI_eq (by omega) (by omega) (by omega) (by omega)).mp z)
  obtain ⟨k0, k1⟩ := dck h.2.2.1 h.2.2.2.1
  by_cases hK : xK T n s.1 s.2 = -2
  rotate_left
  · have hx : xw T n s = -1 := if_neg hK
    refine ⟨.inl (1, s.1), ?_, (cl_bad (k := 1) h).to ?_⟩
    · unfold SRt
      rw [hx]
      rfl
    · have hm := cl_many h hd (x := -1) (by omega)
      rw [decide_eq_false (by omega)] at hm
      unfold f_X6_readStatement
      rw [if_neg (w2 hK), show f_X6_isOneTooMany (-1) μ = some (0, μ) from hm, shb_ap, if_pos rfl]
      rfl
  obtain ⟨w4, w5⟩ := w1 hK
  have hm := cl_many h hd hxb
  have many : ((xw T n s = 3 ∧ 5 ≤ sp_nt P) ∨ (xw T n s = 4 ∧ 7 ≤ sp_np P) ∨ (xw T n s = 9 ∧ 12 ≤ (sp_li P).length) ∨ (xw T n s = 10 ∧ (sp_told P).1 = true) ∨ (xw T n s = 11 ∧ (sp_told P).2.1 = true) ∨ (xw T n s = 12 ∧ (sp_told P).2.2 = true)) → cSst T n t f_X6_readStatement (.inl (5, s.1)) μ := fun z => by
    rw [decide_eq_true z] at hm
    refine (cl_bad (k := 5) h).to ?_
    unfold f_X6_readStatement
    rw [w4, if_pos rfl, w5, shl_ap, hm, shb_ap, if_neg (show ¬ zI (bI true) = 0 by decide)]
    rfl
  have few : ¬ ((xw T n s = 3 ∧ 5 ≤ sp_nt P) ∨ (xw T n s = 4 ∧ 7 ≤ sp_np P) ∨ (xw T n s = 9 ∧ 12 ≤ (sp_li P).length) ∨ (xw T n s = 10 ∧ (sp_told P).1 = true) ∨ (xw T n s = 11 ∧ (sp_told P).2.1 = true) ∨ (xw T n s = 12 ∧ (sp_told P).2.2 = true)) → f_X6_isOneTooMany (zI (xw T n s)) μ = some (0, μ) := fun z => by
    rw [decide_eq_false z] at hm
    exact hm
  by_cases c2 : xw T n s = 2
  · refine ⟨st_high T n P L s, by unfold SRt; rw [if_pos c2], (cl_high h hd).b.to ?_⟩
    · unfold f_X6_readStatement
      rw [w4, if_pos rfl, w5, shl_ap, few (by omega), shb_ap, if_pos rfl, if_pos (show zI (xw T n s) = 2 by rw [c2]; rfl)]
  by_cases c3 : xw T n s = 3
  · by_cases z : 5 ≤ sp_nt P
    · exact ⟨.inl (5, s.1), by unfold SRt; rw [if_neg (show ¬ xw T n s = 2 by omega), if_pos c3, if_pos z], many (by omega)⟩
    · refine ⟨st_topic T n P L s, by unfold SRt; rw [if_neg (show ¬ xw T n s = 2 by omega), if_pos c3, if_neg z], (cl_topic h hd z).b.to ?_⟩
      unfold f_X6_readStatement
      rw [w4, if_pos rfl, w5, shl_ap, few (by omega), shb_ap, if_pos rfl, if_neg (show ¬ zI (xw T n s) = 2 from nx 2 (by omega) (by omega) (by omega)), if_pos (show zI (xw T n s) = 3 by rw [c3]; rfl)]
  by_cases c4 : xw T n s = 4
  · by_cases z : 7 ≤ sp_np P
    · exact ⟨.inl (5, s.1), by unfold SRt; rw [if_neg (show ¬ xw T n s = 2 by omega), if_neg (show ¬ xw T n s = 3 by omega), if_pos c4, if_pos z], many (by omega)⟩
    · refine ⟨st_person T n P L s, by unfold SRt; rw [if_neg (show ¬ xw T n s = 2 by omega), if_neg (show ¬ xw T n s = 3 by omega), if_pos c4, if_neg z], (cl_personS h hd z).b.to ?_⟩
      unfold f_X6_readStatement
      rw [w4, if_pos rfl, w5, shl_ap, few (by omega), shb_ap, if_pos rfl, if_neg (show ¬ zI (xw T n s) = 2 from nx 2 (by omega) (by omega) (by omega)), if_neg (show ¬ zI (xw T n s) = 3 from nx 3 (by omega) (by omega) (by omega)), if_pos (show zI (xw T n s) = 4 by rw [c4]; rfl)]
  by_cases c7 : xw T n s = 7
  · refine ⟨st_knows T n P L s, by unfold SRt; rw [if_neg (show ¬ xw T n s = 2 by omega), if_neg (show ¬ xw T n s = 3 by omega), if_neg (show ¬ xw T n s = 4 by omega), if_pos c7], (cl_knowsS h hd).b.to ?_⟩
    · unfold f_X6_readStatement
      rw [w4, if_pos rfl, w5, shl_ap, few (by omega), shb_ap, if_pos rfl, if_neg (show ¬ zI (xw T n s) = 2 from nx 2 (by omega) (by omega) (by omega)), if_neg (show ¬ zI (xw T n s) = 3 from nx 3 (by omega) (by omega) (by omega)), if_neg (show ¬ zI (xw T n s) = 4 from nx 4 (by omega) (by omega) (by omega)), if_neg (show ¬ zI (xw T n s) = 5 from nx 5 (by omega) (by omega) (by omega)), if_neg (show ¬ zI (xw T n s) = 6 from nx 6 (by omega) (by omega) (by omega)), if_pos (show zI (xw T n s) = 7 by rw [c7]; rfl)]
  by_cases c9 : xw T n s = 9
  · by_cases z : 12 ≤ (sp_li P).length
    · exact ⟨.inl (5, s.1), by unfold SRt; rw [if_neg (show ¬ xw T n s = 2 by omega), if_neg (show ¬ xw T n s = 3 by omega), if_neg (show ¬ xw T n s = 4 by omega), if_neg (show ¬ xw T n s = 7 by omega), if_pos c9, if_pos z], many (by omega)⟩
    · refine ⟨st_asks T n P L s, by unfold SRt; rw [if_neg (show ¬ xw T n s = 2 by omega), if_neg (show ¬ xw T n s = 3 by omega), if_neg (show ¬ xw T n s = 4 by omega), if_neg (show ¬ xw T n s = 7 by omega), if_pos c9, if_neg z], (cl_asksS h hd z).b.to ?_⟩
      unfold f_X6_readStatement
      rw [w4, if_pos rfl, w5, shl_ap, few (by omega), shb_ap, if_pos rfl, if_neg (show ¬ zI (xw T n s) = 2 from nx 2 (by omega) (by omega) (by omega)), if_neg (show ¬ zI (xw T n s) = 3 from nx 3 (by omega) (by omega) (by omega)), if_neg (show ¬ zI (xw T n s) = 4 from nx 4 (by omega) (by omega) (by omega)), if_neg (show ¬ zI (xw T n s) = 5 from nx 5 (by omega) (by omega) (by omega)), if_neg (show ¬ zI (xw T n s) = 6 from nx 6 (by omega) (by omega) (by omega)), if_neg (show ¬ zI (xw T n s) = 7 from nx 7 (by omega) (by omega) (by omega)), if_neg (show ¬ zI (xw T n s) = 8 from nx 8 (by omega) (by omega) (by omega)), if_pos (show zI (xw T n s) = 9 by rw [c9]; rfl)]
  by_cases c10 : xw T n s = 10
  · by_cases z : (sp_told P).1 = true
    · exact ⟨.inl (5, s.1), by unfold SRt; rw [if_neg (show ¬ xw T n s = 2 by omega), if_neg (show ¬ xw T n s = 3 by omega), if_neg (show ¬ xw T n s = 4 by omega), if_neg (show ¬ xw T n s = 7 by omega), if_neg (show ¬ xw T n s = 9 by omega), if_pos c10, if_pos z], many (Or.inr (Or.inr (Or.inr (Or.inl ⟨c10, z⟩))))⟩
    · obtain ⟨q, q1, q2⟩ := cl_rule0 h
      refine ⟨_, by unfold SRt; rw [if_neg (show ¬ xw T n s = 2 by omega), if_neg (show ¬ xw T n s = 3 by omega), if_neg (show ¬ xw T n s = 4 by omega), if_neg (show ¬ xw T n s = 7 by omega), if_neg (show ¬ xw T n s = 9 by omega), if_pos c10, if_neg z]; exact ⟨q, q1, rfl⟩, q2.to ?_⟩
      unfold f_X6_readStatement
      rw [w4, if_pos rfl, w5, shl_ap, few (by rintro (y | y | y | y | y | y) <;> first | omega | exact z y.2), shb_ap, if_pos rfl, if_neg (show ¬ zI (xw T n s) = 2 from nx 2 (by omega) (by omega) (by omega)), if_neg (show ¬ zI (xw T n s) = 3 from nx 3 (by omega) (by omega) (by omega)), if_neg (show ¬ zI (xw T n s) = 4 from nx 4 (by omega) (by omega) (by omega)), if_neg (show ¬ zI (xw T n s) = 5 from nx 5 (by omega) (by omega) (by omega)), if_neg (show ¬ zI (xw T n s) = 6 from nx 6 (by omega) (by omega) (by omega)), if_neg (show ¬ zI (xw T n s) = 7 from nx 7 (by omega) (by omega) (by omega)), if_neg (show ¬ zI (xw T n s) = 8 from nx 8 (by omega) (by omega) (by omega)), if_neg (show ¬ zI (xw T n s) = 9 from nx 9 (by omega) (by omega) (by omega)), if_pos (show zI (xw T n s) = 10 by rw [c10]; rfl), k0, if_pos k1, shl_ap]
  by_cases c11 : xw T n s = 11
  · by_cases z : (sp_told P).2.1 = true
    · exact ⟨.inl (5, s.1), by unfold SRt; rw [if_neg (show ¬ xw T n s = 2 by omega), if_neg (show ¬ xw T n s = 3 by omega), if_neg (show ¬ xw T n s = 4 by omega), if_neg (show ¬ xw T n s = 7 by omega), if_neg (show ¬ xw T n s = 9 by omega), if_neg (show ¬ xw T n s = 10 by omega), if_pos c11, if_pos z], many (Or.inr (Or.inr (Or.inr (Or.inr (Or.inl ⟨c11, z⟩)))))⟩
    · obtain ⟨q, q1, q2⟩ := cl_rule1 h
      refine ⟨_, by unfold SRt; rw [if_neg (show ¬ xw T n s = 2 by omega), if_neg (show ¬ xw T n s = 3 by omega), if_neg (show ¬ xw T n s = 4 by omega), if_neg (show ¬ xw T n s = 7 by omega), if_neg (show ¬ xw T n s = 9 by omega), if_neg (show ¬ xw T n s = 10 by omega), if_pos c11, if_neg z]; exact ⟨q, q1, rfl⟩, q2.to ?_⟩
      unfold f_X6_readStatement
      rw [w4, if_pos rfl, w5, shl_ap, few (by rintro (y | y | y | y | y | y) <;> first | omega | exact z y.2), shb_ap, if_pos rfl, if_neg (show ¬ zI (xw T n s) = 2 from nx 2 (by omega) (by omega) (by omega)), if_neg (show ¬ zI (xw T n s) = 3 from nx 3 (by omega) (by omega) (by omega)), if_neg (show ¬ zI (xw T n s) = 4 from nx 4 (by omega) (by omega) (by omega)), if_neg (show ¬ zI (xw T n s) = 5 from nx 5 (by omega) (by omega) (by omega)), if_neg (show ¬ zI (xw T n s) = 6 from nx 6 (by omega) (by omega) (by omega)), if_neg (show ¬ zI (xw T n s) = 7 from nx 7 (by omega) (by omega) (by omega)), if_neg (show ¬ zI (xw T n s) = 8 from nx 8 (by omega) (by omega) (by omega)), if_neg (show ¬ zI (xw T n s) = 9 from nx 9 (by omega) (by omega) (by omega)), if_neg (show ¬ zI (xw T n s) = 10 from nx 10 (by omega) (by omega) (by omega)), if_pos (show zI (xw T n s) = 11 by rw [c11]; rfl), k0, if_pos k1, shl_ap]
  by_cases c12 : xw T n s = 12
  · by_cases z : (sp_told P).2.2 = true
    · exact ⟨.inl (5, s.1), by unfold SRt; rw [if_neg (show ¬ xw T n s = 2 by omega), if_neg (show ¬ xw T n s = 3 by omega), if_neg (show ¬ xw T n s = 4 by omega), if_neg (show ¬ xw T n s = 7 by omega), if_neg (show ¬ xw T n s = 9 by omega), if_neg (show ¬ xw T n s = 10 by omega), if_neg (show ¬ xw T n s = 11 by omega), if_pos c12, if_pos z], many (Or.inr (Or.inr (Or.inr (Or.inr (Or.inr ⟨c12, z⟩)))))⟩
    · obtain ⟨q, q1, q2⟩ := cl_rule2 h
      refine ⟨_, by unfold SRt; rw [if_neg (show ¬ xw T n s = 2 by omega), if_neg (show ¬ xw T n s = 3 by omega), if_neg (show ¬ xw T n s = 4 by omega), if_neg (show ¬ xw T n s = 7 by omega), if_neg (show ¬ xw T n s = 9 by omega), if_neg (show ¬ xw T n s = 10 by omega), if_neg (show ¬ xw T n s = 11 by omega), if_pos c12, if_neg z]; exact ⟨q, q1, rfl⟩, q2.to ?_⟩
      unfold f_X6_readStatement
      rw [w4, if_pos rfl, w5, shl_ap, few (by rintro (y | y | y | y | y | y) <;> first | omega | exact z y.2), shb_ap, if_pos rfl, if_neg (show ¬ zI (xw T n s) = 2 from nx 2 (by omega) (by omega) (by omega)), if_neg (show ¬ zI (xw T n s) = 3 from nx 3 (by omega) (by omega) (by omega)), if_neg (show ¬ zI (xw T n s) = 4 from nx 4 (by omega) (by omega) (by omega)), if_neg (show ¬ zI (xw T n s) = 5 from nx 5 (by omega) (by omega) (by omega)), if_neg (show ¬ zI (xw T n s) = 6 from nx 6 (by omega) (by omega) (by omega)), if_neg (show ¬ zI (xw T n s) = 7 from nx 7 (by omega) (by omega) (by omega)), if_neg (show ¬ zI (xw T n s) = 8 from nx 8 (by omega) (by omega) (by omega)), if_neg (show ¬ zI (xw T n s) = 9 from nx 9 (by omega) (by omega) (by omega)), if_neg (show ¬ zI (xw T n s) = 10 from nx 10 (by omega) (by omega) (by omega)), if_neg (show ¬ zI (xw T n s) = 11 from nx 11 (by omega) (by omega) (by omega)), if_pos (show zI (xw T n s) = 12 by rw [c12]; rfl), k0, if_pos k1, shl_ap]
  by_cases c13 : xw T n s = 13
  · refine ⟨st_crowd T n P L s, by unfold SRt; rw [if_neg (show ¬ xw T n s = 2 by omega), if_neg (show ¬ xw T n s = 3 by omega), if_neg (show ¬ xw T n s = 4 by omega), if_neg (show ¬ xw T n s = 7 by omega), if_neg (show ¬ xw T n s = 9 by omega), if_neg (show ¬ xw T n s = 10 by omega), if_neg (show ¬ xw T n s = 11 by omega), if_neg (show ¬ xw T n s = 12 by omega), if_pos c13], (cl_crowdS h).b.to ?_⟩
    · unfold f_X6_readStatement
      rw [w4, if_pos rfl, w5, shl_ap, few (by omega), shb_ap, if_pos rfl, if_neg (show ¬ zI (xw T n s) = 2 from nx 2 (by omega) (by omega) (by omega)), if_neg (show ¬ zI (xw T n s) = 3 from nx 3 (by omega) (by omega) (by omega)), if_neg (show ¬ zI (xw T n s) = 4 from nx 4 (by omega) (by omega) (by omega)), if_neg (show ¬ zI (xw T n s) = 5 from nx 5 (by omega) (by omega) (by omega)), if_neg (show ¬ zI (xw T n s) = 6 from nx 6 (by omega) (by omega) (by omega)), if_neg (show ¬ zI (xw T n s) = 7 from nx 7 (by omega) (by omega) (by omega)), if_neg (show ¬ zI (xw T n s) = 8 from nx 8 (by omega) (by omega) (by omega)), if_neg (show ¬ zI (xw T n s) = 9 from nx 9 (by omega) (by omega) (by omega)), if_neg (show ¬ zI (xw T n s) = 10 from nx 10 (by omega) (by omega) (by omega)), if_neg (show ¬ zI (xw T n s) = 11 from nx 11 (by omega) (by omega) (by omega)), if_neg (show ¬ zI (xw T n s) = 12 from nx 12 (by omega) (by omega) (by omega)), if_pos (show zI (xw T n s) = 13 by rw [c13]; rfl)]
  refine ⟨.inl (1, s.1), by unfold SRt; rw [if_neg c2, if_neg c3, if_neg c4, if_neg c7, if_neg c9, if_neg c10, if_neg c11, if_neg c12, if_neg c13], (cl_bad (k := 1) h).to ?_⟩
  unfold f_X6_readStatement
  rw [w4, if_pos rfl, w5, shl_ap, few (by omega), shb_ap, if_pos rfl, if_neg (show ¬ zI (xw T n s) = 2 from nx 2 (by omega) (by omega) (by omega)), if_neg (show ¬ zI (xw T n s) = 3 from nx 3 (by omega) (by omega) (by omega)), if_neg (show ¬ zI (xw T n s) = 4 from nx 4 (by omega) (by omega) (by omega))]
  by_cases c5 : zI (xw T n s) = 5
  · rw [if_pos c5]
    rfl
  rw [if_neg c5]
  by_cases c6 : zI (xw T n s) = 6
  · rw [if_pos c6]
    rfl
  rw [if_neg c6, if_neg (show ¬ zI (xw T n s) = 7 from nx 7 (by omega) (by omega) (by omega))]
  by_cases c8 : zI (xw T n s) = 8
  · rw [if_pos c8]
    rfl
  rw [if_neg c8, if_neg (show ¬ zI (xw T n s) = 9 from nx 9 (by omega) (by omega) (by omega)), if_neg (show ¬ zI (xw T n s) = 10 from nx 10 (by omega) (by omega) (by omega)), if_neg (show ¬ zI (xw T n s) = 11 from nx 11 (by omega) (by omega) (by omega)), if_neg (show ¬ zI (xw T n s) = 12 from nx 12 (by omega) (by omega) (by omega)), if_neg (show ¬ zI (xw T n s) = 13 from nx 13 (by omega) (by omega) (by omega))]
  rfl
end Sc4
