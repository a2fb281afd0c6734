/-! THE REFERENCE: each statement -/
section Sm2
variable {T : Nat → Nat} {n : Nat} {μ0 μ μ' : sh_Mem} {s s' : xs} {P : sp_T} {L : sl_T} {cod stt : Nat}
theorem mO_e {m : sh_Mem} {e : Nat × Nat} {r : xd} {c : sh_Mem → Option sh_Mem} (h1 : c μ = some m) (h2 : mXf μ0 m e) (hr : r = .inl e) : mSst T n μ0 stt cod c r μ := by
  subst hr
  exact ⟨m, h1, h2⟩
/-- changes of the draft -/
theorem mD.ch {P' : sp_T} {L' : sl_T} {N : Nat → Nat → Prop} (h : mD μ0 μ T n s P L cod stt) (f : sh_fr N μ μ') (hN : ∀ r k, N r k → nDm r k ∧ 321 ≤ r) (hD : mDr μ' P' L' cod) : mD μ0 μ' T n s P' L' cod stt := by
  have ht := h.2.1
  have f291 : ∀ k, sh_i μ' 291 k = sh_i μ 291 k := fun k => f.i 291 k (fun z => by have := (hN _ _ z).2; omega)
  have f292 : sh_i μ' 292 = sh_i μ 292 := f.row 292 (fun k z => by have := (hN _ _ z).2; omega)
  obtain ⟨h1, h2, h3, e, d, d1, d2, d3, d4, d5⟩ := ht
  exact ⟨h.1.trans (f.mono (fun r k z => (hN r k z).1)), ⟨h1.cg f292, by rw [f291]; exact h2, by rw [f291]; exact h3, e, d, d1, by rw [f291]; exact d2, d3, by rw [f291]; exact d4, d5⟩, hD, h.2.2.2.1, by rw [f291]; exact h.2.2.2.2⟩
/-- a cell told: column, row -/
theorem rf_cellT (h : mD μ0 μ T n s P L cod stt) (hd : dOK P L) : (∃ e m, x_num T n 0 (sp_c P - 1) s = .inl e ∧ f_X12_cellTold μ = some (0, m) ∧ mXf μ0 m e ∧ mDr m P L cod) ∨ (∃ x sx e m, x_num T n 0 (sp_c P - 1) s = .inr (x, sx) ∧ x_num T n 0 (sp_r P - 1) sx = .inl e ∧ f_X12_cellTold μ = some (0, m) ∧ mXf μ0 m e ∧ mDr m P L cod) ∨ (∃ x sx y sy m, x_num T n 0 (sp_c P - 1) s = .inr (x, sx) ∧ x_num T n 0 (sp_r P - 1) sx = .inr (y, sy) ∧ x < sp_c P ∧ y < sp_r P ∧ f_X12_cellTold μ = some (zI ((x + 7 * y : Nat) : Int), m) ∧ mD μ0 m T n sy P L cod stt ∧ sh_i m 291 10 = zI sx.1) := by
  have hrr := hd.r
  have e0 : sh_i μ 321 (Int32.toNatClampNeg 0) = zI (sp_c P : Nat) := h.2.2.1.1.1
  have st : f_X12_cellTold μ = sh_bind (f_X12_number 0 (zI ((sp_c P - 1 : Nat) : Int)) μ) (fun y3 μ1 => sh_bind (f_X12_number 0 ((sh_i μ1 321 (Int32.toNatClampNeg 1)) - 1) μ1) (fun y6 μ4 => (if (sh_i μ4 291 5) = 0 then some ((y3 + (7 * y6)), μ4) else some (0, μ4)))) := by
    unfold f_X12_cellTold
    rw [e0, m1N hrr.1]
  rcases h.num (lo := 0) (hi := sp_c P - 1) (by omega) (by omega) with ⟨e, v, m, q1, q2, q3, q4⟩ | ⟨x, sx, m, q1, q2, q3, q4, -⟩
  · refine Or.inl ⟨e, m, q1, ?_, q3, q4⟩
    rw [st, show f_X12_number 0 (zI ((sp_c P - 1 : Nat) : Int)) μ = some (v, m) from q2, shb_ap, nu_X q3.ne, shb_ap, if_neg q3.ne]
  have e1 : sh_i m 321 (Int32.toNatClampNeg 1) = zI (sp_r P : Nat) := q4.2.2.1.1.2.1
  rw [show f_X12_number 0 (zI ((sp_c P - 1 : Nat) : Int)) μ = some (zI x, m) from q3, shb_ap, e1, m1N hrr.2.2.1] at st
  rcases q4.num (lo := 0) (hi := sp_r P - 1) (by omega) (by omega) with ⟨e, v, m2, p1, p2, p3, p4⟩ | ⟨y, sy, m2, p1, p2, p3, p4, p5⟩
  · refine Or.inr (Or.inl ⟨x, sx, e, m2, q1, p1, ?_, p3, p4⟩)
    rw [st, show f_X12_number 0 (zI ((sp_r P - 1 : Nat) : Int)) m = some (v, m2) from p2, shb_ap, if_neg p3.ne]
  · refine Or.inr (Or.inr ⟨x, sx, y, sy, m2, q1, p1, by omega, by omega, ?_, p4, p5⟩)
    rw [st, show f_X12_number 0 (zI ((sp_r P - 1 : Nat) : Int)) m = some (zI y, m2) from p3, shb_ap, p4.2.1.2.2.1, if_pos rfl, show (7 : Int32) = zI 7 from rfl, zI_mul, zI_add]
    rfl
theorem rf_highS (h : mD μ0 μ T n (xA T n s) P L cod stt) (hd : dOK P L) : mSst T n μ0 stt cod f_X12_highTold (st_high T n P L s) μ := by
  have hrr := hd.r
  rcases rf_cellT h hd with ⟨e, m, q1, q2, q3, q4⟩ | ⟨x, sx, e, m, q1, q2, q3, q4, q5⟩ | ⟨x, sx, y, sy, m, q1, q2, hx, hy, q3, q4, -⟩
  · refine mO_e ?_ q3 (by unfold st_high; rw [q1]; rfl)
    unfold f_X12_highTold
    rw [q2, shb_ap, nu_X q3.ne, shb_ap, if_neg q3.ne]
  · refine mO_e ?_ q4 (by unfold st_high; rw [q1]; show xb (x_num T n 0 (sp_r P - 1) sx) _ = _; rw [q2]; rfl)
    unfold f_X12_highTold
    rw [q3, shb_ap, nu_X q4.ne, shb_ap, if_neg q4.ne]
  have er : st_high T n P L s = xb (x_num T n 0 99 sy) fun h => .inr (h.2, P, dl_h L (y * sp_c P + x) h.1) := by
    unfold st_high
    rw [q1]
    show xb (x_num T n 0 (sp_r P - 1) sx) _ = _
    rw [q2]
    rfl
  rcases q4.num (lo := 0) (hi := 99) (by omega) (by omega) with ⟨e, v, m2, p1, p2, p3, p4⟩ | ⟨v, sv, m2, p1, p2, p3, p4, -⟩
  · refine mO_e ?_ p3 (by rw [er, p1]; rfl)
    unfold f_X12_highTold
    rw [q3, shb_ap, show f_X12_number 0 99 m = some (v, m2) from p2, shb_ap, if_neg p3.ne]
  rw [p1] at er
  rw [show st_high T n P L s = .inr (sv, P, dl_h L (y * sp_c P + x) v) from er]
  refine ⟨sh_setI m2 324 (x + 7 * y) (zI v), ?_, cod, Nat.le_refl _, p4.ch (N := fun r k => r = 324) (sh_fr_I sh_fr.rf rfl) (fun r k z => ⟨by unfold nDm; omega, by omega⟩) ?_⟩
  · unfold f_X12_highTold
    rw [q3, shb_ap, show f_X12_number 0 99 m = some (zI v, m2) from p3, shb_ap, p4.2.1.2.2.1, if_pos rfl, if_pos ((zI_in (by omega)).mpr (by omega)), tcN (by omega), shl_ap]
  · obtain ⟨a1, a2, a3, a4, a5, a6, a7, a8⟩ := p4.2.2.1
    have er : ∀ r, ¬ r = 324 → sh_i (sh_setI m2 324 (x + 7 * y) (zI v)) r = sh_i m2 r := fun r hr => ir_set_r hr
    refine ⟨by rw [er 321 (by omega)]; exact a1, by rw [er 322 (by omega)]; exact a2, a3, fun x' y' hx' hy' => ?_, by rw [er 325 (by omega)]; exact a5, by rw [er 326 (by omega)]; exact a6, ⟨a7.1.cg (er _ (by omega)) (er _ (by omega)) (er _ (by omega)), a7.2.1.cg (er _ (by omega)) (er _ (by omega)) (er _ (by omega)), a7.2.2.cg (er _ (by omega)) (er _ (by omega)) (er _ (by omega))⟩, by rw [er 291 (by omega)]; exact a8⟩
    show _ = zI ((if y' * sp_c P + x' = y * sp_c P + x then v else sl_h L (y' * sp_c P + x') : Nat) : Int)
    by_cases z : x' = x ∧ y' = y
    · rw [if_pos (by rw [z.1, z.2]), z.1, z.2, ir_set]
    · have hx7 : x' < 7 := Nat.lt_of_lt_of_le hx' hrr.2.1
      have hx8 : x < 7 := Nat.lt_of_lt_of_le hx hrr.2.1
      have nk : ¬ x' + 7 * y' = x + 7 * y := fun q => z (by omega)
      have nj : ¬ y' * sp_c P + x' = y * sp_c P + x := fun q => by
        have e1 : (y' * sp_c P + x') % sp_c P = x' := by rw [Nat.mul_comm, Nat.mul_add_mod]; exact Nat.mod_eq_of_lt hx'
        have e2 : (y * sp_c P + x) % sp_c P = x := by rw [Nat.mul_comm, Nat.mul_add_mod]; exact Nat.mod_eq_of_lt hx
        have e3 : x' = x := by rw [← e1, ← e2, q]
        have e4 : y' * sp_c P = y * sp_c P := by omega
        exact z ⟨e3, Nat.eq_of_mul_eq_mul_right (by omega) e4⟩
      rw [if_neg nj, ir_set_k nk]
      exact a4 x' y' hx' hy'
theorem rf_crowdS {m0 : sh_Mem} {c : sh_Mem → Option sh_Mem} (h : mD μ0 μ T n (xA T n s) P L cod stt) (hc : c m0 = sh_bind (f_X12_number 0 100 μ) (fun y40 μ38 => some (sh_setI μ38 321 (Int32.toNatClampNeg 2) y40))) : mSst T n μ0 stt cod c (st_crowd T n P L s) m0 := by
  rcases h.num (lo := 0) (hi := 100) (by omega) (by omega) with ⟨e, v, m, q1, q2, q3, q4⟩ | ⟨x, sx, m, q1, q2, q3, q4, -⟩
  · refine mO_e (m := sh_setI m 321 2 v) ?_ ⟨q3.1.trans (sh_fr_I sh_fr.rf (by unfold nDm; omega)), by rw [ir_set_r (by omega)]; exact q3.2.1, by rw [ir_set_r (by omega)]; exact q3.2.2.1, q3.2.2.2⟩ (by unfold st_crowd; rw [q1]; rfl)
    rw [hc, show f_X12_number 0 100 μ = some (v, m) from q2, shb_ap]
    rfl
  · rw [show st_crowd T n P L s = .inr (sx, dp_c P x, L) by unfold st_crowd; rw [q1]; rfl]
    refine ⟨sh_setI m 321 2 (zI x), ?_, cod, Nat.le_refl _, q4.ch (N := fun r k => r = 321 ∧ k = 2) (sh_fr_I sh_fr.rf ⟨rfl, rfl⟩) (fun r k z => ⟨by unfold nDm; omega, by omega⟩) ?_⟩
    · rw [hc, show f_X12_number 0 100 μ = some (zI x, m) from q3, shb_ap]
      rfl
    · obtain ⟨a1, a2, a3, a4, a5, a6, a7, a8⟩ := q4.2.2.1
      have er : ∀ r, ¬ r = 321 → sh_i (sh_setI m 321 2 (zI x)) r = sh_i m r := fun r hr => ir_set_r hr
      exact ⟨⟨by rw [ir_set_k (by omega)]; exact a1.1, by rw [ir_set_k (by omega)]; exact a1.2.1, by rw [ir_set]; rfl⟩, by rw [er 322 (by omega)]; exact a2, a3, by rw [er 324 (by omega)]; exact a4, by rw [er 325 (by omega)]; exact a5, by rw [er 326 (by omega)]; exact a6, ⟨a7.1.cg (er _ (by omega)) (er _ (by omega)) (er _ (by omega)), a7.2.1.cg (er _ (by omega)) (er _ (by omega)) (er _ (by omega)), a7.2.2.cg (er _ (by omega)) (er _ (by omega)) (er _ (by omega))⟩, by rw [er 291 (by omega)]; exact a8⟩
/-- a name that is to be new -/
theorem rf_newN (h : mD μ0 μ T n s P L cod stt) (hd : dOK P L) (hw : hA μ0) : (∃ e v m, x_name T n s = .inl e ∧ f_X12_newName μ = some (v, m) ∧ mXf μ0 m e ∧ mDr m P L cod) ∨ (∃ w s' m, x_name T n s = .inr (w, s') ∧ sn_ok w ∧ wIx w (sp_tn P) 0 = -1 ∧ wIx w (sp_pn P) 0 = -1 ∧ f_X12_newName μ = some (zL (sn_m w : Nat), m) ∧ mD μ0 m T n s' P L cod stt) ∨ (∃ w s' v m, x_name T n s = .inr (w, s') ∧ ¬ (wIx w (sp_tn P) 0 = -1 ∧ wIx w (sp_pn P) 0 = -1) ∧ f_X12_newName μ = some (v, m) ∧ mXf μ0 m (3, s.1) ∧ mDr m P L cod) := by
  have hb := sp_bd hd.1
  have b5 : (sp_tn P).length ≤ 7 := by have := hb.2.2.1; show sp_nt P ≤ 7; omega
  have b7 : (sp_pn P).length ≤ 7 := hb.2.2.2.1
  obtain ⟨fu, hfu⟩ : ∃ f, sh_fuel = f + 1 := ⟨sh_fuel - 1, by have := sh_fuel_eq; omega⟩
  have hfu2 := sh_fuel_eq
  rcases h.name hw with ⟨e, v, m, q1, q2, q3, q4⟩ | ⟨w, s', m, q1, hk, q2, q3, q4⟩
  · refine Or.inl ⟨e, v, m, q1, ?_, q3, q4⟩
    unfold f_X12_newName
    rw [q2, shb_ap, hfu, F_X12_newName, if_neg (show ¬ (2 : Int32) ≤ 0 by decide)]
    exact rf_nwX b5 b7 q3.ne q4.2.1.1 q4.2.1.2.1 0 (by omega) (sp_tn P).length fu 0 (by rw [if_pos rfl]; omega) (by omega)
  have m5 := q3.2.1.2.2.1
  have D := q3.2.2.1
  have t0 : ∀ j, j < (sp_tn P).length → sh_l m 323 (8 * 0 + j) = zL (sn_m ((sp_tn P).getD j []) : Nat) := fun j hj => by rw [show 8 * 0 + j = j by omega]; exact D.2.2.1.1 j hj
  have p0 : ∀ j, j < (sp_pn P).length → sh_l m 323 (8 * 1 + j) = zL (sn_m ((sp_pn P).getD j []) : Nat) := fun j hj => by rw [show 8 * 1 + j = 8 + j by omega]; exact D.2.2.1.2 j hj
  have st : f_X12_newName μ = F_X12_newName fu 2 (zL (sn_m w : Nat)) (zI ((0 : Nat) : Int)) (zI ((0 : Nat) : Int)) m := by
    unfold f_X12_newName
    rw [q2, shb_ap, hfu, F_X12_newName, if_neg (show ¬ (2 : Int32) ≤ 0 by decide)]
    rfl
  by_cases c1 : wIx w (sp_tn P) 0 = -1
  · obtain ⟨f', g1, g2⟩ := rf_nw1 (k := 0) (by omega) hk hd.1.2.2.2.2.2.2.1 b5 m5 D.2.1.1 t0 (sp_tn P).length fu 0 (by omega) (by rw [List.drop_zero]; exact c1) (by omega)
    obtain ⟨f', rfl⟩ : ∃ f, f' = f + 1 := ⟨f' - 1, by omega⟩
    rw [g2, F_X12_newName, if_neg (show ¬ (2 : Int32) ≤ zI ((0 + 1 : Nat) : Int) by decide)] at st
    by_cases c2 : wIx w (sp_pn P) 0 = -1
    · refine Or.inr (Or.inl ⟨w, s', m, q1, hk, c1, c2, ?_, q3⟩)
      obtain ⟨f2, g3, g4⟩ := rf_nw1 (k := 1) (by omega) hk hd.1.2.2.2.2.2.2.2.1 b7 m5 D.2.1.2.1 p0 (sp_pn P).length f' 0 (by omega) (by rw [List.drop_zero]; exact c2) (by omega)
      obtain ⟨f2, rfl⟩ : ∃ f, f2 = f + 1 := ⟨f2 - 1, by omega⟩
      rw [st]
      refine Eq.trans (show F_X12_newName f' 2 (zL (sn_m w : Nat)) (zI ((0 + 1 : Nat) : Int)) 0 m = F_X12_newName (f2 + 1) 1 (zL (sn_m w : Nat)) (zI ((1 + 1 : Nat) : Int)) 0 m from g4) ?_
      rw [F_X12_newName, if_pos (show (2 : Int32) ≤ zI ((1 + 1 : Nat) : Int) by decide)]
    · obtain ⟨m2, g3, g4, g5, g6⟩ := rf_nw2 (k := 1) (p := s.1) (by omega) hk hd.1.2.2.2.2.2.2.2.1 b7 b5 b7 D.2.1.1 D.2.1.2.1 (by rw [if_neg (by omega)]) m5 q4 D.2.1.2.1 p0 (sp_pn P).length f' 0 (by omega) (by rw [List.drop_zero]; exact c2) (by omega)
      refine Or.inr (Or.inr ⟨w, s', zL (sn_m w : Nat), m2, q1, fun z => c2 z.2, ?_, ⟨q3.1.trans (g4.mono (fun _ _ z => nD_M z)), g5, g6, by simp, by simp⟩, D.fM g4⟩)
      rw [st]
      exact g3
  · obtain ⟨m2, g3, g4, g5, g6⟩ := rf_nw2 (k := 0) (p := s.1) (by omega) hk hd.1.2.2.2.2.2.2.1 b5 b5 b7 D.2.1.1 D.2.1.2.1 (by rw [if_pos rfl]) m5 q4 D.2.1.1 t0 (sp_tn P).length fu 0 (by omega) (by rw [List.drop_zero]; exact c1) (by omega)
    refine Or.inr (Or.inr ⟨w, s', zL (sn_m w : Nat), m2, q1, fun z => c1 z.1, ?_, ⟨q3.1.trans (g4.mono (fun _ _ z => nD_M z)), g5, g6, by simp, by simp⟩, D.fM g4⟩)
    rw [st]
    exact g3
/-- whether there is room -/
theorem rf_full {k room p a : Nat} (h5 : sh_i μ 291 5 = 0) (hk : k < 3) (ha : a ≤ 12) (hr : room ≤ 12) (hm : sh_i μ 322 k = zI (a : Nat)) (hne : ¬ a = room) : f_X12_isFull (zI k) (zI room) (zI p) μ = some (0, μ) := by
  have hm' : sh_i μ 322 (zI (k : Int)).toNatClampNeg = zI (a : Nat) := by rw [tcN (by omega), hm]
  unfold f_X12_isFull
  rw [h5, if_pos rfl, if_pos ((zI_in (by omega)).mpr (by omega)), hm', if_neg (fun z => hne (by have := (zI_eq (by omega) (by omega) (by omega) (by omega)).mp z; omega)), if_pos rfl]
theorem rf_fullX {k room p : Nat} (h5 : sh_i μ 291 5 = 0) (hk : k < 3) (hm : sh_i μ 322 k = zI (room : Nat)) : ∃ m, f_X12_isFull (zI k) (zI room) (zI p) μ = some (1, m) ∧ sh_fr nM μ m ∧ sh_i m 291 5 = zI 5 ∧ sh_i m 291 6 = zI p := by
  have hm' : sh_i μ 322 (zI (k : Int)).toNatClampNeg = zI (room : Nat) := by rw [tcN (by omega), hm]
  obtain ⟨m, r1, r2, r3⟩ := rf_fail (T := fun _ => 0) (n := 0) (μ := μ) (k := 5) (p := p) h5
  have n5 : ¬ sh_i m 291 5 = 0 := by
    rw [r3.1]
    show ¬ zI ((5 : Nat) : Int) = 0
    decide
  refine ⟨m, ?_, r2, r3.1, r3.2⟩
  unfold f_X12_isFull
  rw [h5, if_pos rfl, if_pos ((zI_in (by omega)).mpr (by omega)), hm', if_pos rfl, show f_X12_fail 5 (zI (p : Int)) μ = some m from r1, shv_ap, if_neg n5]
theorem rf_topicS {p : Nat} (h : mD μ0 μ T n (xA T n s) P L cod stt) (hd : dOK P L) (hw : hA μ0) (h5 : ¬ 5 ≤ sp_nt P) : mSst T n μ0 stt cod (f_X12_topicTold (zI p)) (st_topic T n P L s) μ := by
  have hb := sp_bd hd.1
  have fu : f_X12_isFull 0 5 (zI p) μ = some (0, μ) := rf_full (k := 0) (room := 5) (a := sp_nt P) h.2.1.2.2.1 (by omega) (by omega) (by omega) h.2.2.1.2.1.1 (by omega)
  rcases rf_newN h hd hw with ⟨e, v, m, q1, q2, q3, q4⟩ | ⟨w, s', m, q1, hk, c1, c2, q2, q3⟩ | ⟨w, s', v, m, q1, c, q2, q3, q4⟩
  · refine mO_e ?_ q3 (by unfold st_topic; rw [q1]; rfl)
    unfold f_X12_topicTold
    rw [fu, shb_ap, if_pos rfl, q2, shb_ap, if_neg q3.ne]
  · rw [show st_topic T n P L s = .inr (s', dp_t P w, L) by unfold st_topic; rw [q1]; exact if_pos ⟨c1, c2⟩]
    have e0 : sh_i m 322 (Int32.toNatClampNeg 0) = zI (sp_nt P : Nat) := q3.2.2.1.2.1.1
    obtain ⟨m1, hm1⟩ : ∃ m', m' = sh_setL m 323 (sp_nt P) (zL (sn_m w : Nat)) := ⟨_, rfl⟩
    have e1 : sh_i m1 322 (Int32.toNatClampNeg 0) = zI (sp_nt P : Nat) := by rw [hm1]; exact e0
    have f2 : sh_fr (fun r k => (r = 322 ∧ k < 3) ∨ (r = 323 ∧ k < 16)) m (sh_setI m1 322 0 (zI (sp_nt P : Nat) + 1)) := by
      refine sh_fr_I ?_ (Or.inl ⟨rfl, by omega⟩)
      rw [hm1]
      exact sh_fr_L sh_fr.rf (Or.inr ⟨rfl, by omega⟩)
    refine ⟨sh_setI m1 322 0 (zI (sp_nt P : Nat) + 1), ?_, cod, Nat.le_refl _, q3.ch f2 (fun r k z => ⟨by unfold nDm; omega, by omega⟩) ?_⟩
    · unfold f_X12_topicTold
      rw [fu, shb_ap, if_pos rfl, q2, shb_ap, q3.2.1.2.2.1, if_pos rfl, e0, if_pos ((zI_in (by omega)).mpr (by omega)), tcN (by omega), ← hm1, shl_ap, e1, shl_ap]
      rfl
    · obtain ⟨a1, a2, a3, a4, a5, a6, a7, a8⟩ := q3.2.2.1
      have er : ∀ r, ¬ r = 322 → sh_i (sh_setI m1 322 0 (zI (sp_nt P : Nat) + 1)) r = sh_i m r := fun r hr => by rw [ir_set_r hr, hm1]; rfl
      have el : ∀ k, ¬ k = sp_nt P → sh_l (sh_setI m1 322 0 (zI (sp_nt P : Nat) + 1)) 323 k = sh_l m 323 k := fun k hk => by
        show sh_l m1 323 k = _
        rw [hm1, lr_set_k hk]
      refine ⟨by rw [er 321 (by omega)]; exact a1, ⟨?_, ?_, ?_⟩, ⟨fun j hj => ?_, fun j hj => by rw [el _ (by omega)]; exact a3.2 j hj⟩, by rw [er 324 (by omega)]; exact a4, by rw [er 325 (by omega)]; exact a5, by rw [er 326 (by omega)]; exact a6, ⟨a7.1.cg (er _ (by omega)) (er _ (by omega)) (er _ (by omega)), a7.2.1.cg (er _ (by omega)) (er _ (by omega)) (er _ (by omega)), a7.2.2.cg (er _ (by omega)) (er _ (by omega)) (er _ (by omega))⟩, by rw [er 291 (by omega)]; exact a8⟩
      · rw [ir_set, zI_s1]
        show _ = zI (((sp_tn P ++ [w]).length : Nat) : Int)
        rw [ln1]
      · rw [ir_set_k (by omega), hm1]; exact a2.2.1
      · rw [ir_set_k (by omega), hm1]; exact a2.2.2
      · have hj' : j < (sp_tn P ++ [w]).length := hj
        rw [ln1] at hj'
        show _ = zL (sn_m ((sp_tn P ++ [w]).getD j []) : Nat)
        by_cases z : j = sp_nt P
        · rw [z, gDe]
          show sh_l m1 323 (sp_nt P) = _
          rw [hm1, lr_set]
        · have z' : ¬ j = (sp_tn P).length := z
          rw [el j z, gDl (by omega)]
          exact a3.1 j (show j < (sp_tn P).length by omega)
  · refine mO_e ?_ q3 (by unfold st_topic; rw [q1]; exact if_neg c)
    unfold f_X12_topicTold
    rw [fu, shb_ap, if_pos rfl, q2, shb_ap, if_neg q3.ne]
/-- one who is named, a topic that is named -/
theorem rf_named {k : Nat} {N : List (List Nat)} (hN : (k = 1 ∧ N = sp_pn P) ∨ (k = 0 ∧ N = sp_tn P)) (h : mD μ0 μ T n s P L cod stt) (hd : dOK P L) (hw : hA μ0) : (∃ e v m, x_name T n s = .inl e ∧ f_X12_named (zI k) μ = some (v, m) ∧ mXf μ0 m e ∧ mDr m P L cod) ∨ (∃ w s' m, x_name T n s = .inr (w, s') ∧ wIx w N 0 = -1 ∧ f_X12_named (zI k) μ = some (0, m) ∧ mXf μ0 m (3, s.1) ∧ mDr m P L cod) ∨ (∃ w s' j m, x_name T n s = .inr (w, s') ∧ wIx w N 0 = ((j : Nat) : Int) ∧ j < N.length ∧ f_X12_named (zI k) μ = some (zI (j : Nat), m) ∧ mD μ0 m T n s' P L cod stt ∧ sh_i m 291 38 = zI s.1) := by
  have hb := sp_bd hd.1
  have b5 : (sp_tn P).length ≤ 7 := by have := hb.2.2.1; show sp_nt P ≤ 7; omega
  have b7 : (sp_pn P).length ≤ 7 := hb.2.2.2.1
  have hfu2 := sh_fuel_eq
  have hl : N.length ≤ 7 := by
    rcases hN with ⟨-, z⟩ | ⟨-, z⟩ <;> rw [z]
    · exact b7
    · exact b5
  have hk : k < 2 := by omega
  have hok : ∀ v ∈ N, sn_ok v := by
    rcases hN with ⟨-, z⟩ | ⟨-, z⟩ <;> rw [z]
    · exact hd.1.2.2.2.2.2.2.2.1
    · exact hd.1.2.2.2.2.2.2.1
  have cnt : ∀ m, mDr m P L cod → sh_i m 322 k = zI (N.length : Nat) := fun m D => by
    rcases hN with ⟨z1, z⟩ | ⟨z1, z⟩ <;> rw [z, z1]
    · exact D.2.1.2.1
    · exact D.2.1.1
  have nms : ∀ m, mDr m P L cod → ∀ j, j < N.length → sh_l m 323 (8 * k + j) = zL (sn_m (N.getD j []) : Nat) := fun m D j hj => by
    rcases hN with ⟨z1, z⟩ | ⟨z1, z⟩
    · rw [z] at hj ⊢
      rw [z1, show 8 * 1 + j = 8 + j by omega]
      exact D.2.2.1.2 j hj
    · rw [z] at hj ⊢
      rw [z1, show 8 * 0 + j = j by omega]
      exact D.2.2.1.1 j hj
  rcases h.name hw with ⟨e, v, m, q1, q2, q3, q4⟩ | ⟨w, s', m, q1, hk2, q2, q3, q4⟩
  · obtain ⟨u, hu⟩ := rf_nmdX (v := v) hk hl q3.ne (cnt m q4) N.length sh_fuel 0 (by omega) (by omega)
    refine Or.inl ⟨e, u, m, q1, ?_, q3, q4⟩
    unfold f_X12_named
    rw [q2, shb_ap]
    exact hu
  · have R := rf_nmd (p := s.1) hk hk2 hok hl q3.2.1.2.2.1 q4 (cnt m q3.2.2.1) (nms m q3.2.2.1) N.length sh_fuel 0 (by omega) (by omega)
    rw [List.drop_zero] at R
    have st : f_X12_named (zI k) μ = F_X12_named sh_fuel 1 (zI k) (zL (sn_m w : Nat)) (zI ((0 : Nat) : Int)) m := by
      unfold f_X12_named
      rw [q2, shb_ap]
      rfl
    rcases R with ⟨j, g1, g2, g3⟩ | ⟨g1, m2, g2, g3, g4, g5⟩
    · exact Or.inr (Or.inr ⟨w, s', j, m, q1, g1, g2, by rw [st]; exact g3, q3, q4⟩)
    · exact Or.inr (Or.inl ⟨w, s', m2, q1, g1, by rw [st]; exact g2, ⟨q3.1.trans (g3.mono (fun _ _ z => nD_M z)), g4, g5, by simp, by simp⟩, q3.2.2.1.fM g3⟩)
/-- a person, then a topic -/
theorem rf_two {G : Int32 → Int32 → sh_Mem → Option sh_Mem} {F : Nat → Nat → xs → xs → xd} (h : mD μ0 μ T n (xA T n s) P L cod stt) (hd : dOK P L) (hw : hA μ0) (hX : ∀ v u m, ¬ sh_i m 291 5 = 0 → G v u m = some m) (hG : ∀ (p q : Nat) (s2 s3 : xs) (m : sh_Mem), p < sp_np P → q < sp_nt P → mD μ0 m T n s3 P L cod stt → sh_i m 291 38 = zI s2.1 → mSst T n μ0 stt cod (G (zI p) (zI q)) (F p q s2 s3) m) : mSst T n μ0 stt cod (fun μ => sh_bind (f_X12_named 1 μ) (fun y7 μ5 => sh_bindv (f_X12_needs 302 2 μ5) (fun μ8 => sh_bind (f_X12_named 0 μ8) (fun y13 μ11 => G y7 y13 μ11)))) (st_two T n P s F) μ := by
  have hb := sp_bd hd.1
  have b5 : (sp_tn P).length ≤ 7 := by have := hb.2.2.1; show sp_nt P ≤ 7; omega
  have bad : ∀ (e : Nat × Nat) (v : Int32) (m : sh_Mem), mXf μ0 m e → mDr m P L cod → f_X12_named 1 μ = some (v, m) → st_two T n P s F = .inl e → mSst T n μ0 stt cod (fun μ => sh_bind (f_X12_named 1 μ) (fun y7 μ5 => sh_bindv (f_X12_needs 302 2 μ5) (fun μ8 => sh_bind (f_X12_named 0 μ8) (fun y13 μ11 => G y7 y13 μ11)))) (st_two T n P s F) μ := fun e v m hm hD hn he => by
    obtain ⟨u, hu⟩ := named_X (k := 0) (by omega) b5 hm.ne hD.2.1.1
    refine mO_e ?_ hm he
    show sh_bind (f_X12_named 1 μ) _ = _
    rw [hn, shb_ap, ne_X hm.ne, shv_ap, show f_X12_named 0 m = some (u, m) from hu, shb_ap]
    exact hX _ _ m hm.ne
  rcases rf_named (k := 1) (Or.inl ⟨rfl, rfl⟩) h hd hw with ⟨e, v, m, q1, q2, q3, q4⟩ | ⟨w, s1, m, q1, c1, q2, q3, q4⟩ | ⟨w, s1, p, m, q1, c1, hp, q2, q3, -⟩
  · exact bad e v m q3 q4 q2 (by unfold st_two; rw [q1]; rfl)
  · exact bad _ 0 m q3 q4 q2 (by unfold st_two; rw [q1]; exact if_pos c1)
  have q2' : f_X12_named 1 μ = some (zI (p : Nat), m) := q2
  have er1 : st_two T n P s F = (xb (x_word T n 8 s1) fun s2 => xb (x_name T n s2) fun c => if wIx c.1 (sp_tn P) 0 = -1 then .inl (3, s2.1) else F p (wIx c.1 (sp_tn P) 0).toNat s2 c.2) := by
    unfold st_two
    rw [q1]
    show (if wIx w (sp_pn P) 0 = -1 then _ else _) = _
    rw [if_neg (by omega), c1]
    rfl
  rcases q3.word (w := 8) (r := 302) (by omega) (q3.A hw 8 (by omega)) (by omega) with ⟨e, m2, u1, u2, u3, u4⟩ | ⟨s2, m2, u1, u2, u3⟩
  · obtain ⟨u, hu⟩ := named_X (k := 0) (by omega) b5 u3.ne u4.2.1.1
    refine mO_e ?_ u3 (by rw [er1, show x_word T n 8 s1 = .inl e from u1]; rfl)
    show sh_bind (f_X12_named 1 μ) _ = _
    rw [q2', shb_ap, show f_X12_needs 302 2 m = some m2 from u2, shv_ap, show f_X12_named 0 m2 = some (u, m2) from hu, shb_ap]
    exact hX _ _ m2 u3.ne
  have u2' : f_X12_needs 302 2 m = some m2 := u2
  rw [show x_word T n 8 s1 = .inr s2 from u1] at er1
  rcases rf_named (k := 0) (Or.inr ⟨rfl, rfl⟩) u3 hd hw with ⟨e, v, m3, v1, v2, v3, v4⟩ | ⟨w2, s3, m3, v1, d1, v2, v3, v4⟩ | ⟨w2, s3, q, m3, v1, d1, hq, v2, v3, v4⟩
  · refine mO_e ?_ v3 (by rw [er1]; show xb (x_name T n s2) _ = _; rw [v1]; rfl)
    show sh_bind (f_X12_named 1 μ) _ = _
    rw [q2', shb_ap, u2', shv_ap, show f_X12_named 0 m2 = some (v, m3) from v2, shb_ap]
    exact hX _ _ m3 v3.ne
  · refine mO_e ?_ v3 (by rw [er1]; show xb (x_name T n s2) _ = _; rw [v1]; exact if_pos d1)
    show sh_bind (f_X12_named 1 μ) _ = _
    rw [q2', shb_ap, u2', shv_ap, show f_X12_named 0 m2 = some (0, m3) from v2, shb_ap]
    exact hX _ _ m3 v3.ne
  have er2 : st_two T n P s F = F p q s2 s3 := by
    rw [er1]
    show xb (x_name T n s2) _ = _
    rw [v1]
    show (if wIx w2 (sp_tn P) 0 = -1 then _ else _) = _
    rw [if_neg (by omega), d1]
    rfl
  rw [er2]
  obtain ⟨m4, o1, o2⟩ := hG p q s2 s3 m3 hp hq v3 v4
  refine ⟨m4, ?_, o2⟩
  show sh_bind (f_X12_named 1 μ) _ = _
  rw [q2', shb_ap, u2', shv_ap, show f_X12_named 0 m2 = some (zI (q : Nat), m3) from v2, shb_ap]
  exact o1
end Sm2
