/-! THE CLASS: each statement -/
section Sc2
variable {T : Nat → Nat} {n t : Nat} {μ μ' : sh_Mem} {s s' : xs} {P : sp_T} {L : sl_T}
theorem m1N {c : Nat} (h : 3 ≤ c) : zI (c : Int) - 1 = zI ((c - 1 : Nat) : Int) := by
  rw [show (1 : Int32) = zI 1 from rfl, zI_sub]
  congr 1
  omega
theorem cO_e {m : sh_Mem} {e : Nat × Nat} {r : xd} {c : sh_Mem → Option (Int32 × sh_Mem)} (h1 : c μ = some (0, m)) (h2 : cFr t μ m) (h3 : cOD m T n t (.inl e)) (hr : r = .inl e) : cSst T n t c r μ := by
  subst hr
  exact ⟨m, h1, h2, h3⟩
theorem cl_high (h : cD μ T n t s P L) (hd : dOK P L) : cSst T n t f_X6_readHigh (st_high T n P L s) μ := by
  obtain ⟨m1, a1, a2, a3⟩ := h.adv
  have hb := sp_bd hd.1
  have hc3 := hd.2.1
  have hr3 : 3 ≤ sp_r P := by
    rcases hd.1.1 with z | z
    · omega
    · exact z.2.2.1
  obtain ⟨k0, k1⟩ := dck a3.2.2.1 a3.2.2.2.1
  have e0 : sh_i m1 t 0 = zI (sp_c P) := by rw [a3.2.1.1.1, nI_z]
  have st0 : f_X6_readHigh μ = sh_bind (f_X8_takeNumber 0 (zI ((sp_c P - 1 : Nat) : Int)) m1) (fun y8 μ6 => (if y8 = (-1) then some (0, μ6) else (if (sh_r μ6 7 2 = some (sh_ref μ6 7 2) ∧ ((sh_ref μ6 7 2) = 8 ∨ (sh_ref μ6 7 2) = 29)) then sh_let (sh_ref μ6 7 2) (fun r11 => sh_bind (f_X8_takeNumber 0 ((sh_i μ6 r11 1) - 1) μ6) (fun y14 μ12 => (if y14 = (-1) then some (0, μ12) else sh_bind (f_X8_takeNumber 0 99 μ12) (fun y18 μ16 => (if (sh_r μ16 7 2 = some (sh_ref μ16 7 2) ∧ ((sh_ref μ16 7 2) = 8 ∨ (sh_ref μ16 7 2) = 29)) then sh_let (sh_ref μ16 7 2) (fun r20 => sh_let ((f_X5_cellAt μ16 r20 y8 y14) : Int32) (fun x21 => (if y18 = (-1) then some (0, μ16) else (if x21 = (-1) then some (0, μ16) else (if (sh_r μ16 7 2 = some (sh_ref μ16 7 2) ∧ ((sh_ref μ16 7 2) = 8 ∨ (sh_ref μ16 7 2) = 29)) then sh_let (sh_ref μ16 7 2) (fun r25 => (if sh_in x21 49 then sh_let (sh_setI μ16 ((r25 + 14) + 1) x21.toNatClampNeg y18) (fun μ27 => some (1, μ27)) else none)) else none))))) else none))))) else none))) := by
    unfold f_X6_readHigh
    rw [a1, shv_ap, k0, if_pos k1, shl_ap, e0, m1N hc3]
  rcases a3.num (lo := 0) (hi := sp_c P - 1) (by omega) (by omega) with ⟨e, m2, q1, q2, q3, q4⟩ | ⟨x, s2, m2, q1, q2, q3, q4, q5, q6, -⟩
  · refine cO_e ?_ (a2.trans q3) q4 (by unfold st_high; rw [q1]; rfl)
    rw [st0]
    rw [show f_X8_takeNumber 0 (zI ((sp_c P - 1 : Nat) : Int)) m1 = some (-1, m2) from q2, shb_ap, if_pos rfl]
  have q3' : f_X8_takeNumber 0 (zI ((sp_c P - 1 : Nat) : Int)) m1 = some (zI x, m2) := q3
  obtain ⟨k2, k3⟩ := dck q6.2.2.1 q6.2.2.2.1
  have e1 : sh_i m2 t 1 = zI (sp_r P) := by rw [q6.2.1.1.2.1, nI_z]
  rw [q3', shb_ap, if_neg q4, k2, if_pos k3, shl_ap, e1, m1N hr3] at st0
  rcases q6.num (lo := 0) (hi := sp_r P - 1) (by omega) (by omega) with ⟨e, m3, p1, p2, p3, p4⟩ | ⟨y, s3, m3, p1, p2, p3, p4, p5, p6, -⟩
  · refine cO_e ?_ (a2.trans (q5.trans p3)) p4 (by unfold st_high; rw [q1]; show xb (x_num T n 0 (sp_r P - 1) s2) _ = _; rw [p1]; rfl)
    rw [st0, show f_X8_takeNumber 0 (zI ((sp_r P - 1 : Nat) : Int)) m2 = some (-1, m3) from p2, shb_ap, if_pos rfl]
  have p3' : f_X8_takeNumber 0 (zI ((sp_r P - 1 : Nat) : Int)) m2 = some (zI y, m3) := p3
  rw [p3', shb_ap, if_neg p4] at st0
  obtain ⟨g0, g1⟩ := dck p6.2.2.1 p6.2.2.2.1
  rcases p6.num (lo := 0) (hi := 99) (by omega) (by omega) with ⟨e, m4, u1, u2, u3, u4⟩ | ⟨v, s4, m4, u1, u2, u3, u4, u5, u6, -⟩
  · refine cO_e ?_ (a2.trans (q5.trans (p5.trans u3))) u4 (by unfold st_high; rw [q1]; show xb (x_num T n 0 (sp_r P - 1) s2) _ = _; rw [p1]; show xb (x_num T n 0 99 s3) _ = _; rw [u1]; rfl)
    have hr4 : sh_r m4 7 2 = some t := by rw [u3.2 7 2 (by omega)]; exact p6.2.2.1
    obtain ⟨g2, g3⟩ := dck hr4 p6.2.2.2.1
    rw [st0, show f_X8_takeNumber 0 99 m3 = some (-1, m4) from u2, shb_ap, g2, if_pos g3, shl_ap, shl_ap, if_pos rfl]
  obtain ⟨g2, g3⟩ := dck u6.2.2.1 u6.2.2.2.1
  have f0 : sh_i m4 t 0 = zI (sp_c P) := by rw [u6.2.1.1.1, nI_z]
  have f1 : sh_i m4 t 1 = zI (sp_r P) := by rw [u6.2.1.1.2.1, nI_z]
  have hcell : f_X5_cellAt m4 t (zI x) (zI y) = zI ((y * sp_c P + x : Nat) : Int) := by
    unfold f_X5_cellAt
    rw [f0, f1, if_neg (show ¬ zI (x : Int) < 0 from fun z => by have := (zI_lt (b := 0) (by omega) (by omega) (by omega) (by omega)).mp z; omega), if_neg (zI_not (by omega) (by omega)), if_neg (show ¬ zI (y : Int) < 0 from fun z => by have := (zI_lt (b := 0) (by omega) (by omega) (by omega) (by omega)).mp z; omega), if_pos ((zI_lt (by omega) (by omega) (by omega) (by omega)).mpr (by omega)), zI_mul, zI_add]
    congr 1
  have hy : y * sp_c P ≤ 6 * 7 := Nat.mul_le_mul (by omega) (by omega)
  have hj : y * sp_c P + x < 49 := by omega
  have hpb := isP_b u6.2.2.2.1
  refine ⟨sh_setI m4 (t + 14 + 1) (y * sp_c P + x) (zI v), ?_, (a2.trans (q5.trans (p5.trans u5))).trans (cFr.of (N := fun r k => r = t + 14 + 1) (sh_fr_I sh_fr.rf rfl) (fun r k z => Or.inr (Or.inl (by omega)))), ?_⟩
  · rw [st0, show f_X8_takeNumber 0 99 m3 = some (zI v, m4) from u3, shb_ap, g2, if_pos g3, shl_ap, hcell, shl_ap, if_neg u4, if_neg (ofN (by omega)), if_pos g3, shl_ap, if_pos ((zI_in (by omega)).mpr (by omega)), tcN (by omega), shl_ap]
    unfold st_high
    rw [q1]
    show _ = some (zI (bI (xb (x_num T n 0 (sp_r P - 1) s2) _).isRight), _)
    rw [p1]
    show _ = some (zI (bI (xb (x_num T n 0 99 s3) _).isRight), _)
    rw [u1]
    rfl
  · have er : st_high T n P L s = .inr (s4, P, dl_h L (y * sp_c P + x) v) := by
      unfold st_high
      rw [q1]
      show xb (x_num T n 0 (sp_r P - 1) s2) _ = _
      rw [p1]
      show xb (x_num T n 0 99 s3) _ = _
      rw [u1]
      rfl
    rw [er]
    obtain ⟨c1, ⟨c2, c3, c4, c5, c6⟩, c7, c8, c9⟩ := u6
    refine ⟨c1.cg (ir_set_r (by omega)) (ir_set_r (by omega)), ⟨c2.cg (fun j hj _ _ => ir_set_r (by omega)), ⟨?_, fun j hj => ?_, fun p hp => ?_⟩, ?_, ?_, ?_⟩, c7, c8, c9⟩
    · rw [ir_set_r (by omega)]; exact c3.1
    · show sh_i (sh_setI m4 (t + 14 + 1) (y * sp_c P + x) (zI v)) (t + 14 + 1) j = nI (if j = y * sp_c P + x then v else sl_h L j)
      by_cases z : j = y * sp_c P + x
      · rw [if_pos z, z, ir_set, nI_z]
      · rw [if_neg z, ir_set_k z]
        exact c3.2.1 j hj
    · rw [ir_set_r (by omega), ir_set_r (by omega), ir_set_r (by omega), ir_set_r (by omega)]
      exact c3.2.2 p hp
    · rw [ir_set_r (by omega)]; exact c4
    · rw [ir_set_r (by omega)]; exact c5
    · rw [ir_set_r (by omega)]; exact c6
theorem cl_crowdS (h : cD μ T n t s P L) : cSst T n t f_X6_readCrowd (st_crowd T n P L s) μ := by
  obtain ⟨m1, a1, a2, a3⟩ := h.adv
  rcases a3.num (lo := 0) (hi := 100) (by omega) (by omega) with ⟨e, m2, q1, q2, q3, q4⟩ | ⟨x, s2, m2, q1, q2, q3, q4, q5, q6, -⟩
  · refine cO_e ?_ (a2.trans q3) q4 (by unfold st_crowd; rw [q1]; rfl)
    unfold f_X6_readCrowd
    rw [a1, shv_ap, show f_X8_takeNumber 0 100 m1 = some (-1, m2) from q2, shb_ap, if_pos rfl]
  obtain ⟨k2, k3⟩ := dck q6.2.2.1 q6.2.2.2.1
  have hpb := isP_b q6.2.2.2.1
  have er : st_crowd T n P L s = .inr (s2, dp_c P x, L) := by
    unfold st_crowd
    rw [q1]
    rfl
  rw [er]
  refine ⟨sh_setI m2 t 5 (zI x), ?_, (a2.trans q5).trans (cFr.of (N := fun r k => r = t) (sh_fr_I sh_fr.rf rfl) (fun r k z => Or.inr (Or.inl (by omega)))), ?_⟩
  · unfold f_X6_readCrowd
    rw [a1, shv_ap, show f_X8_takeNumber 0 100 m1 = some (zI x, m2) from q3, shb_ap, if_neg q4, k2, if_pos k3, shl_ap, shl_ap]
    rfl
  · obtain ⟨c1, ⟨c2, c3, c4, c5, c6⟩, c7, c8, c9⟩ := q6
    obtain ⟨b1, b2, b3, b4, b5, b6, b7, b8, b9, b10, b11, b12⟩ := c2
    have er : ∀ j, 0 < j → sh_i (sh_setI m2 t 5 (zI x)) (t + j) = sh_i m2 (t + j) := fun j hj => ir_set_r (by omega)
    refine ⟨c1.cg (ir_set_r (by omega)) (ir_set_r (by omega)), ⟨⟨?_, ?_, ?_, ?_, ?_, ?_, ?_, ?_, ?_, b10.cg (er 5 (by omega)) (er 6 (by omega)), b11.cg (er 8 (by omega)) (er 9 (by omega)), b12.cg (er 11 (by omega)) (er 12 (by omega))⟩, c3.cg (fun j hj => ir_set_r (by omega)), ?_, ?_, ?_⟩, c7, c8, c9⟩
    · rw [ir_set_k (by omega)]; exact b1
    · rw [ir_set_k (by omega)]; exact b2
    · rw [ir_set_k (by omega)]; exact b3
    · rw [ir_set_k (by omega)]; exact b4
    · rw [ir_set_k (by omega)]; exact b5
    · rw [ir_set, ← nI_z]; rfl
    · rw [er 1 (by omega)]; exact b7
    · rw [er 2 (by omega)]; exact b8
    · rw [er 3 (by omega), er 4 (by omega)]; exact b9
    · rw [ir_set_k (by omega)]; exact c4
    · rw [ir_set_k (by omega)]; exact c5
    · rw [ir_set_k (by omega)]; exact c6
/-- whether a name is new -/
theorem cl_isNew {w : List Nat} {p : Nat} (h : cD μ T n t s P L) (hd : dOK P L) (hw : sn_ok w) (h9 : sh_i μ 2 9 = zI p) : (wIx w (sp_tn P) 0 = -1 ∧ wIx w (sp_pn P) 0 = -1 ∧ f_X6_isNew (zI (sn_c w : Nat)) μ = some (1, μ)) ∨ (¬ (wIx w (sp_tn P) 0 = -1 ∧ wIx w (sp_pn P) 0 = -1) ∧ ∃ m, f_X6_isNew (zI (sn_c w : Nat)) μ = some (0, m) ∧ cFr t μ m ∧ cOD m T n t (.inl (3, p))) := by
  have hb := sp_bd hd.1
  have hwb := sn_c_b hw
  have n1 : ¬ zI (sn_c w : Nat) = -1 := fun z => by have := (zI_eq (b := -1) (by omega) (by omega) (by omega) (by omega)).mp z; omega
  obtain ⟨k0, k1⟩ := dck h.2.2.1 h.2.2.2.1
  obtain ⟨m, f1, f2, f3⟩ := h.fails (k := 3) (p := p)
  have f1' : f_X8_fails 3 (zI p) μ = some (0, m) := f1
  by_cases c1 : wIx w (sp_tn P) 0 = -1
  · by_cases c2 : wIx w (sp_pn P) 0 = -1
    · refine Or.inl ⟨c1, c2, ?_⟩
      unfold f_X6_isNew
      rw [if_neg n1, k0, if_pos k1, shl_ap, cl_topicOf hw hd.1 h.2.1.1, shb_ap, c1, if_pos (show zI (-1) = -1 from rfl), k0, if_pos k1, shl_ap, cl_personOf hw hd.1 h.2.1.1, shb_ap, c2, if_pos (show zI (-1) = -1 from rfl)]
    · refine Or.inr ⟨fun z => c2 z.2, m, ?_, f2, f3⟩
      obtain ⟨k, -, -, z⟩ := wIx_n1 (show (sp_pn P).length < 100 by have : (sp_pn P).length ≤ 7 := hb.2.2.2.1; omega) c2
      unfold f_X6_isNew
      rw [if_neg n1, k0, if_pos k1, shl_ap, cl_topicOf hw hd.1 h.2.1.1, shb_ap, c1, if_pos (show zI (-1) = -1 from rfl), k0, if_pos k1, shl_ap, cl_personOf hw hd.1 h.2.1.1, shb_ap, if_neg z, h9, f1', shb_ap, if_pos (Or.inl rfl)]
  · refine Or.inr ⟨fun z => c1 z.1, m, ?_, f2, f3⟩
    obtain ⟨k, -, -, z⟩ := wIx_n1 (show (sp_tn P).length < 100 by have : (sp_tn P).length ≤ 5 := hb.2.2.1; omega) c1
    unfold f_X6_isNew
    rw [if_neg n1, k0, if_pos k1, shl_ap, cl_topicOf hw hd.1 h.2.1.1, shb_ap, if_neg z, h9, f1', shb_ap, if_pos (Or.inl rfl)]
theorem gDl {α : Type} {l : List α} {x d : α} {j : Nat} (h : j < l.length) : (l ++ [x]).getD j d = l.getD j d := by
  rw [List.getD_eq_getElem?_getD, List.getD_eq_getElem?_getD, List.getElem?_append_left h]
theorem gDe {α : Type} {l : List α} {x d : α} : (l ++ [x]).getD l.length d = x := by
  rw [List.getD_eq_getElem?_getD, List.getElem?_append_right (Nat.le_refl _), Nat.sub_self]
  rfl
theorem ln1 {α : Type} {l : List α} {x : α} : (l ++ [x]).length = l.length + 1 := List.length_append
theorem cl_topic (h : cD μ T n t s P L) (hd : dOK P L) (h5 : ¬ 5 ≤ sp_nt P) : cSst T n t f_X6_readTopic (st_topic T n P L s) μ := by
  obtain ⟨m1, a1, a2, a3⟩ := h.adv
  have hb := sp_bd hd.1
  rcases a3.name with ⟨e, m2, q1, q2, q3, q4⟩ | ⟨w, s2, m2, q1, hw, q3, q4, q5, q6, q7⟩
  · refine cO_e ?_ (a2.trans q3) q4 (by unfold st_topic; rw [q1]; rfl)
    unfold f_X6_readTopic
    rw [a1, shv_ap, q2, shb_ap, show f_X6_isNew (-1) m2 = some (0, m2) from if_pos rfl, shb_ap, if_pos rfl]
  rcases cl_isNew q6 hd hw q7 with ⟨c1, c2, c3⟩ | ⟨c1, m3, c2, c3, c4⟩
  · obtain ⟨k2, k3⟩ := dck q6.2.2.1 q6.2.2.2.1
    have hpb := isP_b q6.2.2.2.1
    have er : st_topic T n P L s = .inr (s2, dp_t P w, L) := by
      unfold st_topic
      rw [q1]
      exact if_pos ⟨c1, c2⟩
    rw [er]
    obtain ⟨m3, hm3⟩ : ∃ m, m = sh_setI m2 (t + 1) (sp_nt P) (zI (sn_c w : Nat)) := ⟨_, rfl⟩
    have f2 : sh_i m2 t 2 = zI (sp_nt P) := by rw [q6.2.1.1.2.2.1, nI_z]
    have f3 : sh_i m3 t 2 = zI (sp_nt P) := by rw [hm3, ir_set_r (by omega), f2]
    have r3 : sh_r m3 7 2 = some t := by rw [hm3]; exact q6.2.2.1
    obtain ⟨k4, k5⟩ := dck r3 q6.2.2.2.1
    refine ⟨sh_setI m3 t 2 (zI (sp_nt P) + 1), ?_, (a2.trans q5).trans (cFr.of (N := fun r k => r = t ∨ r = t + 1) (sh_fr_I (by rw [hm3]; exact sh_fr_I sh_fr.rf (Or.inr rfl)) (Or.inl rfl)) (fun r k z => Or.inr (Or.inl (by omega)))), ?_⟩
    · unfold f_X6_readTopic
      rw [a1, shv_ap, q3, shb_ap, c3, shb_ap, if_neg (show ¬ (1 : Int32) = 0 by decide), k2, if_pos k3, shl_ap, if_pos k3, shl_ap, f2, if_pos ((zI_in (by omega)).mpr (by omega)), tcN (by omega), ← hm3, shl_ap, k4, if_pos k5, shl_ap, f3, shl_ap]
      rfl
    · obtain ⟨d1, ⟨d2, d3, d4, d5, d6⟩, d7, d8, d9⟩ := q6
      obtain ⟨b1, b2, b3, b4, b5, b6, b7, b8, b9, b10, b11, b12⟩ := d2
      have er : ∀ j, 1 < j → sh_i (sh_setI m3 t 2 (zI (sp_nt P) + 1)) (t + j) = sh_i m2 (t + j) := fun j hj => by rw [ir_set_r (by omega), hm3, ir_set_r (by omega)]
      have et : ∀ k, ¬ k = 2 → sh_i (sh_setI m3 t 2 (zI (sp_nt P) + 1)) t k = sh_i m2 t k := fun k hk => by rw [ir_set_k hk, hm3, ir_set_r (by omega)]
      refine ⟨d1.cg (by rw [ir_set_r (by omega), hm3, ir_set_r (by omega)]) (by rw [ir_set_r (by omega), hm3, ir_set_r (by omega)]), ⟨⟨?_, ?_, ?_, ?_, ?_, ?_, fun j hj => ?_, ?_, ?_, b10.cg (er 5 (by omega)) (er 6 (by omega)), b11.cg (er 8 (by omega)) (er 9 (by omega)), b12.cg (er 11 (by omega)) (er 12 (by omega))⟩, d3.cg (fun j hj => by rw [show t + 14 + j = t + (14 + j) by omega]; exact er _ (by omega)), ?_, ?_, ?_⟩, by show sh_r m3 7 2 = some t; exact r3, d8, d9.cg (by show sh_r m3 6 1 = _; rw [hm3]; rfl)⟩
      · rw [et _ (by omega)]; exact b1
      · rw [et _ (by omega)]; exact b2
      · rw [ir_set, zI_s1, nI_z]; show _ = zI (((sp_tn P ++ [w]).length : Nat) : Int); rw [ln1]
      · rw [et _ (by omega)]; exact b4
      · rw [et _ (by omega)]; exact b5
      · rw [et _ (by omega)]; exact b6
      · have hj' : j < (sp_tn P ++ [w]).length := hj
        rw [ln1] at hj'
        show sh_i (sh_setI m3 t 2 (zI (sp_nt P) + 1)) (t + 1) j = nI (sn_c ((sp_tn P ++ [w]).getD j []))
        rw [ir_set_r (by omega), hm3]
        by_cases z : j = sp_nt P
        · rw [z, ir_set, gDe, nI_z]
        · have z' : ¬ j = (sp_tn P).length := z
          rw [ir_set_k z, gDl (by omega)]
          exact b7 j (show j < (sp_tn P).length by omega)
      · rw [er 2 (by omega)]; exact b8
      · rw [er 3 (by omega), er 4 (by omega)]; exact b9
      · rw [et _ (by omega)]; exact d4
      · rw [et _ (by omega)]; exact d5
      · rw [et _ (by omega)]; exact d6
  · refine cO_e ?_ (a2.trans (q5.trans c3)) c4 (by unfold st_topic; rw [q1]; exact if_neg c1)
    unfold f_X6_readTopic
    rw [a1, shv_ap, q3, shb_ap, c2, shb_ap, if_pos rfl]
/-- a person named, a topic named -/
theorem cl_asP {w : List Nat} {p : Nat} (h : cD μ T n t s P L) (hd : dOK P L) (hw : sn_ok w) (h9 : sh_i μ 2 9 = zI p) : (∃ k : Nat, wIx w (sp_pn P) 0 = (k : Int) ∧ k < sp_np P ∧ f_X6_asPerson (zI (sn_c w : Nat)) μ = some (zI k, μ)) ∨ (wIx w (sp_pn P) 0 = -1 ∧ ∃ m, f_X6_asPerson (zI (sn_c w : Nat)) μ = some (-1, m) ∧ cFr t μ m ∧ cOD m T n t (.inl (3, p))) := by
  have hb := sp_bd hd.1
  obtain ⟨k0, k1⟩ := dck h.2.2.1 h.2.2.2.1
  obtain ⟨m, f1, f2, f3⟩ := h.fails (k := 3) (p := p)
  have f1' : f_X8_fails 3 (zI p) μ = some (0, m) := f1
  by_cases c : wIx w (sp_pn P) 0 = -1
  · refine Or.inr ⟨c, m, ?_, f2, f3⟩
    unfold f_X6_asPerson
    rw [k0, if_pos k1, shl_ap, cl_personOf hw hd.1 h.2.1.1, shb_ap, c, if_pos (show zI (-1) = -1 from rfl), h9, f1', shb_ap]
    rfl
  · obtain ⟨k, z1, z2, z3⟩ := wIx_n1 (show (sp_pn P).length < 100 by have : (sp_pn P).length ≤ 7 := hb.2.2.2.1; omega) c
    refine Or.inl ⟨k, z1, z2, ?_⟩
    unfold f_X6_asPerson
    rw [k0, if_pos k1, shl_ap, cl_personOf hw hd.1 h.2.1.1, shb_ap, if_neg z3, z1]
theorem cl_asT {w : List Nat} {p : Nat} (h : cD μ T n t s P L) (hd : dOK P L) (hw : sn_ok w) (h9 : sh_i μ 2 9 = zI p) : (∃ k : Nat, wIx w (sp_tn P) 0 = (k : Int) ∧ k < sp_nt P ∧ f_X6_asTopic (zI (sn_c w : Nat)) μ = some (zI k, μ)) ∨ (wIx w (sp_tn P) 0 = -1 ∧ ∃ m, f_X6_asTopic (zI (sn_c w : Nat)) μ = some (-1, m) ∧ cFr t μ m ∧ cOD m T n t (.inl (3, p))) := by
  have hb := sp_bd hd.1
  obtain ⟨k0, k1⟩ := dck h.2.2.1 h.2.2.2.1
  obtain ⟨m, f1, f2, f3⟩ := h.fails (k := 3) (p := p)
  have f1' : f_X8_fails 3 (zI p) μ = some (0, m) := f1
  by_cases c : wIx w (sp_tn P) 0 = -1
  · refine Or.inr ⟨c, m, ?_, f2, f3⟩
    unfold f_X6_asTopic
    rw [k0, if_pos k1, shl_ap, cl_topicOf hw hd.1 h.2.1.1, shb_ap, c, if_pos (show zI (-1) = -1 from rfl), h9, f1', shb_ap]
    rfl
  · obtain ⟨k, z1, z2, z3⟩ := wIx_n1 (show (sp_tn P).length < 100 by have : (sp_tn P).length ≤ 5 := hb.2.2.1; omega) c
    refine Or.inl ⟨k, z1, z2, ?_⟩
    unfold f_X6_asTopic
    rw [k0, if_pos k1, shl_ap, cl_topicOf hw hd.1 h.2.1.1, shb_ap, if_neg z3, z1]
/-- where no name was taken -/
theorem cl_asPN {e : Nat × Nat} (hP : sm_cP μ t P) (hk : sp_ok P) (hr : sh_r μ 7 2 = some t) (ht : sh_isP t) (he : 1 ≤ e.1 ∧ e.1 < 10) (h : sh_i μ 2 10 = zI e.1) : f_X6_asPerson (-1) μ = some (-1, μ) := by
  obtain ⟨k0, k1⟩ := dck hr ht
  have n0 : ¬ sh_i μ 2 10 = 0 := by
    rw [h]
    intro z
    have := (zI_eq (b := 0) (by omega) (by omega) (by omega) (by omega)).mp z
    omega
  unfold f_X6_asPerson
  rw [k0, if_pos k1, shl_ap, cl_personOfN hk hP, shb_ap, if_pos rfl, show f_X8_fails 3 (sh_i μ 2 9) μ = some (0, μ) from if_neg n0, shb_ap]
theorem cl_asTN {e : Nat × Nat} (hP : sm_cP μ t P) (hk : sp_ok P) (hr : sh_r μ 7 2 = some t) (ht : sh_isP t) (he : 1 ≤ e.1 ∧ e.1 < 10) (h : sh_i μ 2 10 = zI e.1) : f_X6_asTopic (-1) μ = some (-1, μ) := by
  obtain ⟨k0, k1⟩ := dck hr ht
  have n0 : ¬ sh_i μ 2 10 = 0 := by
    rw [h]
    intro z
    have := (zI_eq (b := 0) (by omega) (by omega) (by omega) (by omega)).mp z
    omega
  unfold f_X6_asTopic
  rw [k0, if_pos k1, shl_ap, cl_topicOfN hk hP, shb_ap, if_pos rfl, show f_X8_fails 3 (sh_i μ 2 9) μ = some (0, μ) from if_neg n0, shb_ap]
theorem x_name_e {e : Nat × Nat} (h : x_name T n s = .inl e) : 1 ≤ e.1 ∧ e.1 < 10 := by
  unfold x_name at h
  repeat' split at h
  all_goals first | (cases h; exact ⟨by simp, by simp⟩) | cases h
/-- a name taken, or a fault; a fault leaves the draft -/
theorem cD.name2 (h : cD μ T n t s P L) : (∃ e μ', x_name T n s = .inl e ∧ f_X8_takeName μ = some (-1, μ') ∧ cFr t μ μ' ∧ cOD μ' T n t (.inl e) ∧ sm_cP μ' t P ∧ sh_r μ' 7 2 = some t) ∨ (∃ w s' μ', x_name T n s = .inr (w, s') ∧ sn_ok w ∧ f_X8_takeName μ = some (zI (sn_c w : Nat), μ') ∧ ¬ zI (sn_c w : Nat) = -1 ∧ cFr t μ μ' ∧ cD μ' T n t s' P L ∧ sh_i μ' 2 9 = zI s.1) := by
  obtain ⟨m, a1, a2, a3, a4⟩ := cl_name h.1
  have hb := isP_b h.2.2.2.1
  cases hn : x_name T n s with
  | inl e =>
    rw [hn] at a1 a3
    obtain ⟨q1, q2⟩ := cDf h a2 a3
    exact Or.inl ⟨e, m, rfl, a1, q1, q2, h.2.1.1.cg (fun j hj _ _ => a2.row _ (fun k => by unfold nV; omega)), by rw [a2.1]; exact h.2.2.1⟩
  | inr q =>
    rcases h.name with ⟨e, m2, q1, -⟩ | ⟨w, s', m2, q1, q2⟩
    · rw [hn] at q1
      cases q1
    · rw [hn] at q1
      cases q1
      exact Or.inr ⟨_, _, m2, rfl, q2⟩
end Sc2
