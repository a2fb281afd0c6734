/-! THE CLASS: people, what they know, the list, the rules -/
section Sc3
variable {T : Nat → Nat} {n t : Nat} {μ μ' : sh_Mem} {s s' : xs} {P : sp_T} {L : sl_T}
theorem cl_someone {x y : Nat} (hp : sp_np P ≤ 7) (hx : x < 100) (hy : y < 100) (hin : ∀ p, p < sp_np P → sl_x L p < 100 ∧ sl_y L p < 100) (h : sm_cL μ (t + 14) P L) : ∀ (g f i : Nat), i + g = sp_np P → g < f → ((∀ p, i ≤ p → p < sp_np P → ¬ (sl_x L p = x ∧ sl_y L p = y)) ∧ F_X3_isSomeoneAt f 1 (t + 14) (zI x) (zI y) (zI (sp_np P)) (zI i) μ = some (0, μ)) ∨ (¬ (∀ p, i ≤ p → p < sp_np P → ¬ (sl_x L p = x ∧ sl_y L p = y)) ∧ F_X3_isSomeoneAt f 1 (t + 14) (zI x) (zI y) (zI (sp_np P)) (zI i) μ = some (1, μ)) := by
  intro g
  induction g with
  | zero =>
    intro f i hi hf
    obtain ⟨f, rfl⟩ : ∃ f', f = f' + 1 := ⟨f - 1, by omega⟩
    exact Or.inl ⟨fun p h1 h2 => by omega, by rw [F_X3_isSomeoneAt, if_pos (zI_yes (by omega) (by omega))]⟩
  | succ g ih =>
    intro f i hi hf
    obtain ⟨f, rfl⟩ : ∃ f', f = f' + 1 := ⟨f - 1, by omega⟩
    obtain ⟨p1, p2, -, -⟩ := h.2.2 i (by omega)
    have tc : (zI (i : Int)).toNatClampNeg = i := tcN (by omega)
    obtain ⟨b1, b2⟩ := hin i (by omega)
    have p1' : sh_i μ (t + 14 + 2) (zI (i : Int)).toNatClampNeg = zI (sl_x L i : Nat) := by rw [tc, p1, nI_z]
    have p2' : sh_i μ (t + 14 + 3) (zI (i : Int)).toNatClampNeg = zI (sl_y L i : Nat) := by rw [tc, p2, nI_z]
    have st : F_X3_isSomeoneAt (f + 1) 1 (t + 14) (zI x) (zI y) (zI (sp_np P)) (zI i) μ = (if zI (sl_x L i : Nat) = zI x then (if zI (sl_y L i : Nat) = zI y then some (1, μ) else F_X3_isSomeoneAt f 1 (t + 14) (zI x) (zI y) (zI (sp_np P)) (zI ((i + 1 : Nat) : Int)) μ) else F_X3_isSomeoneAt f 1 (t + 14) (zI x) (zI y) (zI (sp_np P)) (zI ((i + 1 : Nat) : Int)) μ) := by
      rw [F_X3_isSomeoneAt, if_neg (zI_not (by omega) (by omega)), if_neg (show ¬ (7 : Int32) ≤ zI (i : Int) from zI_not (b := 7) (by omega) (by omega)), if_pos ((zI_in (by omega)).mpr (by omega)), p1', p2', zI_s1]
      by_cases c : zI (sl_x L i : Nat) = zI x
      · rw [if_pos c, if_pos c, if_pos ((zI_in (by omega)).mpr (by omega))]
      · rw [if_neg c, if_neg c]
    have nx : ∀ p : Nat, p = i → (i ≤ p → p < sp_np P → ¬ (sl_x L p = x ∧ sl_y L p = y)) → ¬ (sl_x L i = x ∧ sl_y L i = y) := fun p hp' q => by
      rw [hp'] at q
      exact q (Nat.le_refl _) (by omega)
    by_cases c : sl_x L i = x ∧ sl_y L i = y
    · refine Or.inr ⟨fun z => z i (Nat.le_refl _) (by omega) c, ?_⟩
      rw [st, if_pos (by rw [c.1]), if_pos (by rw [c.2])]
    · have st2 : F_X3_isSomeoneAt (f + 1) 1 (t + 14) (zI x) (zI y) (zI (sp_np P)) (zI i) μ = F_X3_isSomeoneAt f 1 (t + 14) (zI x) (zI y) (zI (sp_np P)) (zI ((i + 1 : Nat) : Int)) μ := by
        rw [st]
        by_cases cx : sl_x L i = x
        · rw [if_pos (by rw [cx]), if_neg (fun z => c ⟨cx, by have := (zI_eq (by omega) (by omega) (by omega) (by omega)).mp z; omega⟩)]
        · rw [if_neg (fun z => cx (by have := (zI_eq (by omega) (by omega) (by omega) (by omega)).mp z; omega))]
      rw [st2]
      rcases ih f (i + 1) (by omega) (by omega) with ⟨q1, q2⟩ | ⟨q1, q2⟩
      · refine Or.inl ⟨fun p h1 h2 => ?_, q2⟩
        by_cases e : p = i
        · rw [e]; exact c
        · exact q1 p (by omega) h2
      · exact Or.inr ⟨fun z => q1 (fun p h1 h2 => z p (by omega) h2), q2⟩
theorem cl_personS (h : cD μ T n t s P L) (hd : dOK P L) (h7 : ¬ 7 ≤ sp_np P) : cSst T n t f_X6_readPerson (st_person T n P L s) μ := by
  obtain ⟨m1, a1, a2, a3⟩ := h.adv
  have hb := sp_bd hd.1
  have hc3 := hd.2.1
  have hr3 : 3 ≤ sp_r P := by
    rcases hd.1.1 with z | z
    · omega
    · exact z.2.2.1
  rcases a3.name with ⟨e, m2, q1, q2, q3, q4⟩ | ⟨w, s2, m2, q1, hw, q3, q4, q5, q6, q7⟩
  · refine cO_e ?_ (a2.trans q3) q4 (by unfold st_person; rw [q1]; rfl)
    unfold f_X6_readPerson
    rw [a1, shv_ap, q2, shb_ap, show f_X6_isNew (-1) m2 = some (0, m2) from if_pos rfl, shb_ap, if_pos rfl]
  rcases cl_isNew q6 hd hw q7 with ⟨c1, c2, c3⟩ | ⟨c1, m3, c2, c3, c4⟩
  rotate_left
  · refine cO_e ?_ (a2.trans (q5.trans c3)) c4 (by unfold st_person; rw [q1]; exact if_neg c1)
    unfold f_X6_readPerson
    rw [a1, shv_ap, q3, shb_ap, c2, shb_ap, if_pos rfl]
  have er1 : st_person T n P L s = (xb (x_word T n 5 s2) fun s2 => xb (x_num T n 0 (sp_c P - 1) s2) fun x => xb (x_num T n 0 (sp_r P - 1) x.2) fun y => if ∀ p, p < sp_np P → ¬ (sl_x L p = x.1 ∧ sl_y L p = y.1) then (xb (x_word T n 6 y.2) fun s5 => xb (x_num T n 0 9 s5) fun t => .inr (t.2, dp_p P w, dl_p L (sp_np P) x.1 y.1 t.1)) else .inl (2, x.2.1)) := by
    unfold st_person
    rw [q1]
    exact if_pos ⟨c1, c2⟩
  have fr0 := a2.trans q5
  rcases q6.word (w := 5) (by omega) with ⟨e, m3, u1, u2, u3, u4⟩ | ⟨s3, m3, u1, u2, u3, u4⟩
  · refine cO_e ?_ (fr0.trans u3) u4 (by rw [er1]; rw [show x_word T n 5 s2 = .inl e from u1]; rfl)
    unfold f_X6_readPerson
    rw [a1, shv_ap, q3, shb_ap, c3, shb_ap, if_neg (show ¬ (1 : Int32) = 0 by decide), show f_X8_takesWord 5 m2 = some (0, m3) from u2, shb_ap, if_pos rfl]
  rw [show x_word T n 5 s2 = .inr s3 from u1] at er1
  obtain ⟨k0, k1⟩ := dck u4.2.2.1 u4.2.2.2.1
  have e0 : sh_i m3 t 0 = zI (sp_c P) := by rw [u4.2.1.1.1, nI_z]
  rcases u4.num (lo := 0) (hi := sp_c P - 1) (by omega) (by omega) with ⟨e, m4, v1, v2, v3, v4⟩ | ⟨x, s4, m4, v1, v2, v3, v4, v5, v6, -⟩
  · refine cO_e ?_ (fr0.trans (u3.trans v3)) v4 (by rw [er1]; show xb (x_num T n 0 (sp_c P - 1) s3) _ = _; rw [v1]; rfl)
    unfold f_X6_readPerson
    rw [a1, shv_ap, q3, shb_ap, c3, shb_ap, if_neg (show ¬ (1 : Int32) = 0 by decide), show f_X8_takesWord 5 m2 = some (1, m3) from u2, shb_ap, if_neg (show ¬ (1 : Int32) = 0 by decide), k0, if_pos k1, shl_ap, e0, m1N hc3, show f_X8_takeNumber 0 (zI ((sp_c P - 1 : Nat) : Int)) m3 = some (-1, m4) from v2, shb_ap, if_pos rfl]
  obtain ⟨k2, k3⟩ := dck v6.2.2.1 v6.2.2.2.1
  have e1 : sh_i m4 t 1 = zI (sp_r P) := by rw [v6.2.1.1.2.1, nI_z]
  rcases v6.num (lo := 0) (hi := sp_r P - 1) (by omega) (by omega) with ⟨e, m5, p1, p2, p3, p4⟩ | ⟨y, s5, m5, p1, p2, p3, p4, p5, p6, p7⟩
  · refine cO_e ?_ (fr0.trans (u3.trans (v5.trans p3))) p4 (by rw [er1]; show xb (x_num T n 0 (sp_c P - 1) s3) _ = _; rw [v1]; show xb (x_num T n 0 (sp_r P - 1) s4) _ = _; rw [p1]; rfl)
    unfold f_X6_readPerson
    rw [a1, shv_ap, q3, shb_ap, c3, shb_ap, if_neg (show ¬ (1 : Int32) = 0 by decide), show f_X8_takesWord 5 m2 = some (1, m3) from u2, shb_ap, if_neg (show ¬ (1 : Int32) = 0 by decide), k0, if_pos k1, shl_ap, e0, m1N hc3, show f_X8_takeNumber 0 (zI ((sp_c P - 1 : Nat) : Int)) m3 = some (zI x, m4) from v3, shb_ap, if_neg v4, k2, if_pos k3, shl_ap, e1, m1N hr3, show f_X8_takeNumber 0 (zI ((sp_r P - 1 : Nat) : Int)) m4 = some (-1, m5) from p2, shb_ap, if_pos rfl]
  obtain ⟨g0, g1⟩ := dck p6.2.2.1 p6.2.2.2.1
  have e3 : sh_i m5 t 3 = zI (sp_np P) := by rw [p6.2.1.1.2.2.2.1, nI_z]
  have er2 : st_person T n P L s = (if ∀ p, p < sp_np P → ¬ (sl_x L p = x ∧ sl_y L p = y) then (xb (x_word T n 6 s5) fun s5 => xb (x_num T n 0 9 s5) fun t => .inr (t.2, dp_p P w, dl_p L (sp_np P) x y t.1)) else .inl (2, s4.1)) := by
    rw [er1]
    show xb (x_num T n 0 (sp_c P - 1) s3) _ = _
    rw [v1]
    show xb (x_num T n 0 (sp_r P - 1) s4) _ = _
    rw [p1]
    rfl
  have hcl := cl_someone (x := x) (y := y) hb.2.2.2.1 (by omega) (by omega) (fun p hp => by have := hd.2.2.1.2.2 p hp; omega) p6.2.1.2.1 (sp_np P) sh_fuel 0 (by omega) (by rw [sh_fuel_eq]; have : (sp_pn P).length ≤ 7 := hb.2.2.2.1; omega)
  have hall : (∀ p, 0 ≤ p → p < sp_np P → ¬ (sl_x L p = x ∧ sl_y L p = y)) ↔ (∀ p, p < sp_np P → ¬ (sl_x L p = x ∧ sl_y L p = y)) := ⟨fun z p hp => z p (Nat.zero_le _) hp, fun z p _ hp => z p hp⟩
  rw [hall] at hcl
  rcases hcl with ⟨z1, z2⟩ | ⟨z1, z2⟩
  rotate_left
  · obtain ⟨m6, f1, f2, f3⟩ := p6.fails (k := 2) (p := s4.1)
    refine cO_e ?_ (fr0.trans (u3.trans (v5.trans (p5.trans f2)))) f3 (by rw [er2]; exact if_neg z1)
    unfold f_X6_readPerson
    rw [a1, shv_ap, q3, shb_ap, c3, shb_ap, if_neg (show ¬ (1 : Int32) = 0 by decide), show f_X8_takesWord 5 m2 = some (1, m3) from u2, shb_ap, if_neg (show ¬ (1 : Int32) = 0 by decide), k0, if_pos k1, shl_ap, e0, m1N hc3, show f_X8_takeNumber 0 (zI ((sp_c P - 1 : Nat) : Int)) m3 = some (zI x, m4) from v3, shb_ap, if_neg v4, k2, if_pos k3, shl_ap, e1, m1N hr3, show f_X8_takeNumber 0 (zI ((sp_r P - 1 : Nat) : Int)) m4 = some (zI y, m5) from p3, shb_ap, if_neg p4, g0, if_pos g1, shl_ap, if_pos g1, shl_ap, e3, show f_X3_isSomeoneAt (t + 14) (zI x) (zI y) (zI (sp_np P)) m5 = some (1, m5) from z2, shb_ap, if_neg (show ¬ (1 : Int32) = 0 by decide), p7, show f_X8_fails 2 (zI (s4.1 : Int)) m5 = some (0, m6) from f1, shb_ap, if_pos (Or.inl rfl)]
  rw [if_pos z1] at er2
  have st1 : f_X6_readPerson μ = sh_bind (f_X8_takesWord 6 m5) (fun y37 μ35 => (if y37 = 0 then some (0, μ35) else sh_bind (f_X8_takeNumber 0 9 μ35) (fun y41 μ39 => (if y41 = (-1) then some (0, μ39) else (if (sh_r μ39 7 2 = some (sh_ref μ39 7 2) ∧ ((sh_ref μ39 7 2) = 8 ∨ (sh_ref μ39 7 2) = 29)) then sh_let (sh_ref μ39 7 2) (fun r44 => (if (sh_r μ39 7 2 = some (sh_ref μ39 7 2) ∧ ((sh_ref μ39 7 2) = 8 ∨ (sh_ref μ39 7 2) = 29)) then sh_let (sh_ref μ39 7 2) (fun r46 => (if sh_in (sh_i μ39 r46 3) 7 then sh_let (sh_setI μ39 (r44 + 2) ((sh_i μ39 r46 3)).toNatClampNeg (zI (sn_c w : Nat))) (fun μ48 => (if (sh_r μ48 7 2 = some (sh_ref μ48 7 2) ∧ ((sh_ref μ48 7 2) = 8 ∨ (sh_ref μ48 7 2) = 29)) then sh_let (sh_ref μ48 7 2) (fun r50 => (if (sh_r μ48 7 2 = some (sh_ref μ48 7 2) ∧ ((sh_ref μ48 7 2) = 8 ∨ (sh_ref μ48 7 2) = 29)) then sh_let (sh_ref μ48 7 2) (fun r52 => (if sh_in (sh_i μ48 r52 3) 7 then sh_let (sh_setI μ48 ((r50 + 14) + 2) ((sh_i μ48 r52 3)).toNatClampNeg (zI x)) (fun μ54 => (if (sh_r μ54 7 2 = some (sh_ref μ54 7 2) ∧ ((sh_ref μ54 7 2) = 8 ∨ (sh_ref μ54 7 2) = 29)) then sh_let (sh_ref μ54 7 2) (fun r56 => (if (sh_r μ54 7 2 = some (sh_ref μ54 7 2) ∧ ((sh_ref μ54 7 2) = 8 ∨ (sh_ref μ54 7 2) = 29)) then sh_let (sh_ref μ54 7 2) (fun r58 => (if sh_in (sh_i μ54 r58 3) 7 then sh_let (sh_setI μ54 ((r56 + 14) + 3) ((sh_i μ54 r58 3)).toNatClampNeg (zI y)) (fun μ60 => (if (sh_r μ60 7 2 = some (sh_ref μ60 7 2) ∧ ((sh_ref μ60 7 2) = 8 ∨ (sh_ref μ60 7 2) = 29)) then sh_let (sh_ref μ60 7 2) (fun r62 => (if (sh_r μ60 7 2 = some (sh_ref μ60 7 2) ∧ ((sh_ref μ60 7 2) = 8 ∨ (sh_ref μ60 7 2) = 29)) then sh_let (sh_ref μ60 7 2) (fun r64 => (if sh_in (sh_i μ60 r64 3) 7 then sh_let (sh_setI μ60 ((r62 + 14) + 4) ((sh_i μ60 r64 3)).toNatClampNeg y41) (fun μ66 => (if (sh_r μ66 7 2 = some (sh_ref μ66 7 2) ∧ ((sh_ref μ66 7 2) = 8 ∨ (sh_ref μ66 7 2) = 29)) then sh_let (sh_ref μ66 7 2) (fun r68 => (if (sh_r μ66 7 2 = some (sh_ref μ66 7 2) ∧ ((sh_ref μ66 7 2) = 8 ∨ (sh_ref μ66 7 2) = 29)) then sh_let (sh_ref μ66 7 2) (fun r70 => (if sh_in (sh_i μ66 r70 3) 7 then sh_let (sh_setI μ66 ((r68 + 14) + 5) ((sh_i μ66 r70 3)).toNatClampNeg 0) (fun μ72 => (if (sh_r μ72 7 2 = some (sh_ref μ72 7 2) ∧ ((sh_ref μ72 7 2) = 8 ∨ (sh_ref μ72 7 2) = 29)) then sh_let (sh_ref μ72 7 2) (fun r74 => sh_let (sh_setI μ72 r74 3 ((sh_i μ72 r74 3) + 1)) (fun μ75 => some (1, μ75))) else none)) else none)) else none)) else none)) else none)) else none)) else none)) else none)) else none)) else none)) else none)) else none)) else none)) else none)) else none)) else none))))) := by
    unfold f_X6_readPerson
    rw [a1, shv_ap, q3, shb_ap, c3, shb_ap, if_neg (show ¬ (1 : Int32) = 0 by decide), show f_X8_takesWord 5 m2 = some (1, m3) from u2, shb_ap, if_neg (show ¬ (1 : Int32) = 0 by decide), k0, if_pos k1, shl_ap, e0, m1N hc3, show f_X8_takeNumber 0 (zI ((sp_c P - 1 : Nat) : Int)) m3 = some (zI x, m4) from v3, shb_ap, if_neg v4, k2, if_pos k3, shl_ap, e1, m1N hr3, show f_X8_takeNumber 0 (zI ((sp_r P - 1 : Nat) : Int)) m4 = some (zI y, m5) from p3, shb_ap, if_neg p4, g0, if_pos g1, shl_ap, if_pos g1, shl_ap, e3, show f_X3_isSomeoneAt (t + 14) (zI x) (zI y) (zI (sp_np P)) m5 = some (0, m5) from z2, shb_ap, if_pos rfl]
  have fr1 := fr0.trans (u3.trans (v5.trans p5))
  rcases p6.word (w := 6) (by omega) with ⟨e, m6, o1, o2, o3, o4⟩ | ⟨s6, m6, o1, o2, o3, o4⟩
  · refine cO_e ?_ (fr1.trans o3) o4 (by rw [er2, show x_word T n 6 s5 = .inl e from o1]; rfl)
    rw [st1, show f_X8_takesWord 6 m5 = some (0, m6) from o2, shb_ap, if_pos rfl]
  rw [show x_word T n 6 s5 = .inr s6 from o1] at er2
  rcases o4.num (lo := 0) (hi := 9) (by omega) (by omega) with ⟨e, m7, i1, i2, i3, i4⟩ | ⟨ti, s7, m7, i1, i2, i3, i4, i5, i6, -⟩
  · refine cO_e ?_ (fr1.trans (o3.trans i3)) i4 (by rw [er2]; show xb (x_num T n 0 9 s6) _ = _; rw [i1]; rfl)
    rw [st1, show f_X8_takesWord 6 m5 = some (1, m6) from o2, shb_ap, if_neg (show ¬ (1 : Int32) = 0 by decide), show f_X8_takeNumber 0 9 m6 = some (-1, m7) from i2, shb_ap, if_pos rfl]
  have er3 : st_person T n P L s = .inr (s7, dp_p P w, dl_p L (sp_np P) x y ti) := by
    rw [er2]
    show xb (x_num T n 0 9 s6) _ = _
    rw [i1]
    rfl
  rw [er3]
  have ht := i6.2.2.2.1
  have hpb := isP_b ht
  have hnp : sp_np P < 7 := by omega
  have w7 : sh_i m7 t 3 = zI (sp_np P) := by rw [i6.2.1.1.2.2.2.1, nI_z]
  obtain ⟨n1, hn1⟩ : ∃ m, m = sh_setI m7 (t + 2) (sp_np P) (zI (sn_c w : Nat)) := ⟨_, rfl⟩
  obtain ⟨n2, hn2⟩ : ∃ m, m = sh_setI n1 (t + 14 + 2) (sp_np P) (zI x) := ⟨_, rfl⟩
  obtain ⟨n3, hn3⟩ : ∃ m, m = sh_setI n2 (t + 14 + 3) (sp_np P) (zI y) := ⟨_, rfl⟩
  obtain ⟨n4, hn4⟩ : ∃ m, m = sh_setI n3 (t + 14 + 4) (sp_np P) (zI ti) := ⟨_, rfl⟩
  obtain ⟨n5, hn5⟩ : ∃ m, m = sh_setI n4 (t + 14 + 5) (sp_np P) 0 := ⟨_, rfl⟩
  have w1 : sh_i n1 t 3 = zI (sp_np P) := by rw [hn1, ir_set_r (by omega), w7]
  have w2 : sh_i n2 t 3 = zI (sp_np P) := by rw [hn2, ir_set_r (by omega), w1]
  have w3 : sh_i n3 t 3 = zI (sp_np P) := by rw [hn3, ir_set_r (by omega), w2]
  have w4 : sh_i n4 t 3 = zI (sp_np P) := by rw [hn4, ir_set_r (by omega), w3]
  have w5 : sh_i n5 t 3 = zI (sp_np P) := by rw [hn5, ir_set_r (by omega), w4]
  have rr1 : sh_r n1 = sh_r m7 := by rw [hn1]; rfl
  have rr2 : sh_r n2 = sh_r m7 := by rw [hn2, ← rr1]; rfl
  have rr3 : sh_r n3 = sh_r m7 := by rw [hn3, ← rr2]; rfl
  have rr4 : sh_r n4 = sh_r m7 := by rw [hn4, ← rr3]; rfl
  have rr5 : sh_r n5 = sh_r m7 := by rw [hn5, ← rr4]; rfl
  obtain ⟨h70, h71⟩ := dck i6.2.2.1 ht
  obtain ⟨h10, h11⟩ := dck (μ := n1) (by rw [rr1]; exact i6.2.2.1) ht
  obtain ⟨h20, h21⟩ := dck (μ := n2) (by rw [rr2]; exact i6.2.2.1) ht
  obtain ⟨h30, h31⟩ := dck (μ := n3) (by rw [rr3]; exact i6.2.2.1) ht
  obtain ⟨h40, h41⟩ := dck (μ := n4) (by rw [rr4]; exact i6.2.2.1) ht
  obtain ⟨h50, h51⟩ := dck (μ := n5) (by rw [rr5]; exact i6.2.2.1) ht
  have hin : sh_in (zI (sp_np P : Nat)) 7 := (zI_in (by omega)).mpr (by omega)
  have tc : (zI (sp_np P : Nat)).toNatClampNeg = sp_np P := tcN (by omega)
  have fN : sh_fr (fun r k => t ≤ r ∧ r < t + 20 ∧ ¬ r = t + 14) m7 (sh_setI n5 t 3 (zI (sp_np P) + 1)) := by
    refine sh_fr_I ?_ (by omega)
    rw [hn5]; refine sh_fr_I ?_ (by omega)
    rw [hn4]; refine sh_fr_I ?_ (by omega)
    rw [hn3]; refine sh_fr_I ?_ (by omega)
    rw [hn2]; refine sh_fr_I ?_ (by omega)
    rw [hn1]; exact sh_fr_I sh_fr.rf (by omega)
  refine ⟨sh_setI n5 t 3 (zI (sp_np P) + 1), ?_, (fr1.trans (o3.trans i5)).trans (cFr.of fN (fun r k z => Or.inr (Or.inl z))), ?_⟩
  · rw [st1, show f_X8_takesWord 6 m5 = some (1, m6) from o2, shb_ap, if_neg (show ¬ (1 : Int32) = 0 by decide), show f_X8_takeNumber 0 9 m6 = some (zI ti, m7) from i3, shb_ap, if_neg i4, h70, if_pos h71, shl_ap, if_pos h71, shl_ap, w7, if_pos hin, tc, ← hn1, shl_ap, h10, if_pos h11, shl_ap, if_pos h11, shl_ap, w1, if_pos hin, tc, ← hn2, shl_ap, h20, if_pos h21, shl_ap, if_pos h21, shl_ap, w2, if_pos hin, tc, ← hn3, shl_ap, h30, if_pos h31, shl_ap, if_pos h31, shl_ap, w3, if_pos hin, tc, ← hn4, shl_ap, h40, if_pos h41, shl_ap, if_pos h41, shl_ap, w4, if_pos hin, tc, ← hn5, shl_ap, h50, if_pos h51, shl_ap, w5, shl_ap]
    rfl
  · obtain ⟨d1, ⟨d2, d3, d4, d5, d6⟩, d7, d8, d9⟩ := i6
    obtain ⟨b1, b2, b3, b4, b5, b6, b7, b8, b9, b10, b11, b12⟩ := d2
    have eo : ∀ r, ¬ r = t → ¬ r = t + 2 → ¬ r = t + 14 + 2 → ¬ r = t + 14 + 3 → ¬ r = t + 14 + 4 → ¬ r = t + 14 + 5 → sh_i (sh_setI n5 t 3 (zI (sp_np P) + 1)) r = sh_i m7 r := fun r z0 z1 z2 z3 z4 z5 => by
      rw [ir_set_r z0, hn5, ir_set_r z5, hn4, ir_set_r z4, hn3, ir_set_r z3, hn2, ir_set_r z2, hn1, ir_set_r z1]
    have et : ∀ k, ¬ k = 3 → sh_i (sh_setI n5 t 3 (zI (sp_np P) + 1)) t k = sh_i m7 t k := fun k hk => by
      rw [ir_set_k hk, hn5, ir_set_r (by omega), hn4, ir_set_r (by omega), hn3, ir_set_r (by omega), hn2, ir_set_r (by omega), hn1, ir_set_r (by omega)]
    have r2 : sh_i (sh_setI n5 t 3 (zI (sp_np P) + 1)) (t + 2) = sh_i n1 (t + 2) := by
      rw [ir_set_r (by omega), hn5, ir_set_r (by omega), hn4, ir_set_r (by omega), hn3, ir_set_r (by omega), hn2, ir_set_r (by omega)]
    have r16 : sh_i (sh_setI n5 t 3 (zI (sp_np P) + 1)) (t + 14 + 2) = sh_i n2 (t + 14 + 2) := by
      rw [ir_set_r (by omega), hn5, ir_set_r (by omega), hn4, ir_set_r (by omega), hn3, ir_set_r (by omega)]
    have r17 : sh_i (sh_setI n5 t 3 (zI (sp_np P) + 1)) (t + 14 + 3) = sh_i n3 (t + 14 + 3) := by
      rw [ir_set_r (by omega), hn5, ir_set_r (by omega), hn4, ir_set_r (by omega)]
    have r18 : sh_i (sh_setI n5 t 3 (zI (sp_np P) + 1)) (t + 14 + 4) = sh_i n4 (t + 14 + 4) := by
      rw [ir_set_r (by omega), hn5, ir_set_r (by omega)]
    have r19 : sh_i (sh_setI n5 t 3 (zI (sp_np P) + 1)) (t + 14 + 5) = sh_i n5 (t + 14 + 5) := by
      rw [ir_set_r (by omega)]
    refine ⟨d1.cg (eo 1 (by omega) (by omega) (by omega) (by omega) (by omega) (by omega)) (eo 2 (by omega) (by omega) (by omega) (by omega) (by omega) (by omega)), ⟨⟨?_, ?_, ?_, ?_, ?_, ?_, ?_, fun j hj => ?_, ?_, b10.cg (eo _ (by omega) (by omega) (by omega) (by omega) (by omega) (by omega)) (eo _ (by omega) (by omega) (by omega) (by omega) (by omega) (by omega)), b11.cg (eo _ (by omega) (by omega) (by omega) (by omega) (by omega) (by omega)) (eo _ (by omega) (by omega) (by omega) (by omega) (by omega) (by omega)), b12.cg (eo _ (by omega) (by omega) (by omega) (by omega) (by omega) (by omega)) (eo _ (by omega) (by omega) (by omega) (by omega) (by omega) (by omega))⟩, ⟨?_, fun j hj => ?_, fun p hp => ?_⟩, ?_, ?_, ?_⟩, by show sh_r n5 7 2 = some t; rw [rr5]; exact d7, d8, d9.cg (by show sh_r n5 6 1 = _; rw [rr5])⟩
    · rw [et _ (by omega)]; exact b1
    · rw [et _ (by omega)]; exact b2
    · rw [et _ (by omega)]; exact b3
    · rw [ir_set, zI_s1, nI_z]; show _ = zI (((sp_pn P ++ [w]).length : Nat) : Int); rw [ln1]
    · rw [et _ (by omega)]; exact b5
    · rw [et _ (by omega)]; exact b6
    · rw [eo _ (by omega) (by omega) (by omega) (by omega) (by omega) (by omega)]; exact b7
    · have hj' : j < (sp_pn P ++ [w]).length := hj
      rw [ln1] at hj'
      show _ = nI (sn_c ((sp_pn P ++ [w]).getD j []))
      rw [r2, hn1]
      by_cases z : j = sp_np P
      · rw [z, ir_set, gDe, nI_z]
      · have z' : ¬ j = (sp_pn P).length := z
        rw [ir_set_k z, gDl (by omega)]
        exact b8 j (show j < (sp_pn P).length by omega)
    · rw [eo (t + 3) (by omega) (by omega) (by omega) (by omega) (by omega) (by omega), eo (t + 4) (by omega) (by omega) (by omega) (by omega) (by omega) (by omega)]; exact b9
    · rw [eo _ (by omega) (by omega) (by omega) (by omega) (by omega) (by omega)]; exact d3.1
    · rw [eo _ (by omega) (by omega) (by omega) (by omega) (by omega) (by omega)]; exact d3.2.1 j hj
    · have hp' : p < (sp_pn P ++ [w]).length := hp
      rw [ln1] at hp'
      show _ = nI (if p = sp_np P then x else sl_x L p) ∧ _ = nI (if p = sp_np P then y else sl_y L p) ∧ _ = nI (if p = sp_np P then ti else sl_t L p) ∧ _ = nI (if p = sp_np P then 0 else sl_k L p)
      rw [r16, r17, r18, r19]
      by_cases z : p = sp_np P
      · rw [if_pos z, if_pos z, if_pos z, if_pos z, z, hn2, ir_set, hn3, ir_set, hn4, ir_set, hn5, ir_set, nI_z, nI_z, nI_z]
        exact ⟨rfl, rfl, rfl, rfl⟩
      · have z' : ¬ p = (sp_pn P).length := z
        have hq := d3.2.2 p (show p < (sp_pn P).length by omega)
        rw [if_neg z, if_neg z, if_neg z, if_neg z, hn5, ir_set_k z, hn4, ir_set_k z, ir_set_r (by omega), hn3, ir_set_k z, ir_set_r (by omega), ir_set_r (by omega), hn2, ir_set_k z, ir_set_r (by omega), ir_set_r (by omega), ir_set_r (by omega), hn1, ir_set_r (by omega), ir_set_r (by omega), ir_set_r (by omega), ir_set_r (by omega)]
        exact hq
    · rw [et _ (by omega)]; exact d4
    · rw [et _ (by omega)]; exact d5
    · rw [et _ (by omega)]; exact d6
/-- a person, then a topic: up to where they are known -/
theorem cl_two0 (h : cD μ T n t s P L) (hd : dOK P L) (G : Int32 → Int32 → sh_Mem → Option (Int32 × sh_Mem)) (F : Nat → Nat → xs → xs → xd) (hG : ∀ (p q : Nat) (s2 s3 : xs) (m : sh_Mem), p < sp_np P → q < sp_nt P → cD m T n t s3 P L → sh_i m 2 9 = zI s2.1 → cSst T n t (G (zI p) (zI q)) (F p q s2 s3) m) : cSst T n t (fun μ => sh_bindv (f_X8_advance μ) (fun μ1 => sh_bind (f_X8_takeName μ1) (fun y6 μ4 => sh_bind (f_X6_asPerson y6 μ4) (fun y9 μ7 => (if y9 = (-1) then some (0, μ7) else sh_bind (f_X8_takesWord 8 μ7) (fun y13 μ11 => (if y13 = 0 then some (0, μ11) else sh_bind (f_X8_takeName μ11) (fun y17 μ15 => sh_bind (f_X6_asTopic y17 μ15) (fun y20 μ18 => (if y20 = (-1) then some (0, μ18) else G y9 y20 μ18)))))))))) (st_two T n P s F) μ := by
  obtain ⟨m1, a1, a2, a3⟩ := h.adv
  have hb := sp_bd hd.1
  rcases a3.name2 with ⟨e, m2, q1, q2, q3, q4, q5, q6⟩ | ⟨w, s2, m2, q1, hw, q3, q4, q5, q6, q7⟩
  · refine cO_e ?_ (a2.trans q3) q4 (by unfold st_two; rw [q1]; rfl)
    show sh_bindv (f_X8_advance μ) _ = _
    rw [a1, shv_ap, q2, shb_ap, cl_asPN q5 hd.1 q6 a3.2.2.2.1 (x_name_e q1) q4.1, shb_ap, if_pos rfl]
  rcases cl_asP q6 hd hw q7 with ⟨p, c1, c2, c3⟩ | ⟨c1, m3, c2, c3, c4⟩
  rotate_left
  · refine cO_e ?_ (a2.trans (q5.trans c3)) c4 (by unfold st_two; rw [q1]; exact if_pos c1)
    show sh_bindv (f_X8_advance μ) _ = _
    rw [a1, shv_ap, q3, shb_ap, c2, shb_ap, if_pos rfl]
  have er1 : st_two T n P s F = (xb (x_word T n 8 s2) fun s2 => xb (x_name T n s2) fun c => if wIx c.1 (sp_tn P) 0 = -1 then .inl (3, s2.1) else F p (wIx c.1 (sp_tn P) 0).toNat s2 c.2) := by
    unfold st_two
    rw [q1]
    show (if wIx w (sp_pn P) 0 = -1 then _ else _) = _
    rw [if_neg (by omega), c1]
    rfl
  have np : ¬ zI (p : Int) = -1 := ofN (by have : (sp_pn P).length ≤ 7 := hb.2.2.2.1; omega)
  rcases q6.word (w := 8) (by omega) with ⟨e, m3, u1, u2, u3, u4⟩ | ⟨s3, m3, u1, u2, u3, u4⟩
  · refine cO_e ?_ (a2.trans (q5.trans u3)) u4 (by rw [er1]; rw [show x_word T n 8 s2 = .inl e from u1]; rfl)
    show sh_bindv (f_X8_advance μ) _ = _
    rw [a1, shv_ap, q3, shb_ap, c3, shb_ap, if_neg np, show f_X8_takesWord 8 m2 = some (0, m3) from u2, shb_ap, if_pos rfl]
  rw [show x_word T n 8 s2 = .inr s3 from u1] at er1
  rcases u4.name2 with ⟨e, m4, v1, v2, v3, v4, v5, v6⟩ | ⟨w2, s4, m4, v1, hw2, v3, v4, v5, v6, v7⟩
  · refine cO_e ?_ (a2.trans (q5.trans (u3.trans v3))) v4 (by rw [er1]; show xb (x_name T n s3) _ = _; rw [v1]; rfl)
    show sh_bindv (f_X8_advance μ) _ = _
    rw [a1, shv_ap, q3, shb_ap, c3, shb_ap, if_neg np, show f_X8_takesWord 8 m2 = some (1, m3) from u2, shb_ap, if_neg (show ¬ (1 : Int32) = 0 by decide), v2, shb_ap, cl_asTN v5 hd.1 v6 u4.2.2.2.1 (x_name_e v1) v4.1, shb_ap, if_pos rfl]
  have er2 : st_two T n P s F = (if wIx w2 (sp_tn P) 0 = -1 then .inl (3, s3.1) else F p (wIx w2 (sp_tn P) 0).toNat s3 s4) := by
    rw [er1]
    show xb (x_name T n s3) _ = _
    rw [v1]
    rfl
  have fr := a2.trans (q5.trans (u3.trans v5))
  rcases cl_asT v6 hd hw2 v7 with ⟨q, g1, g2, g3⟩ | ⟨g1, m5, g2, g3, g4⟩
  rotate_left
  · refine cO_e ?_ (fr.trans g3) g4 (by rw [er2]; exact if_pos g1)
    show sh_bindv (f_X8_advance μ) _ = _
    rw [a1, shv_ap, q3, shb_ap, c3, shb_ap, if_neg np, show f_X8_takesWord 8 m2 = some (1, m3) from u2, shb_ap, if_neg (show ¬ (1 : Int32) = 0 by decide), v3, shb_ap, g2, shb_ap, if_pos rfl]
  have nq : ¬ zI (q : Int) = -1 := ofN (by have : (sp_tn P).length ≤ 5 := hb.2.2.1; omega)
  have er3 : st_two T n P s F = F p q s3 s4 := by
    rw [er2, if_neg (by omega), g1]
    rfl
  rw [er3]
  obtain ⟨m5, o1, o2, o3⟩ := hG p q s3 s4 m4 c2 g2 v6 v7
  refine ⟨m5, ?_, fr.trans o2, o3⟩
  show sh_bindv (f_X8_advance μ) _ = _
  rw [a1, shv_ap, q3, shb_ap, c3, shb_ap, if_neg np, show f_X8_takesWord 8 m2 = some (1, m3) from u2, shb_ap, if_neg (show ¬ (1 : Int32) = 0 by decide), v3, shb_ap, g3, shb_ap, if_neg nq]
  exact o1
theorem bitL : ∀ k : Nat, k < 32 → ∀ q : Nat, q < 5 → (((zI k) >>> (zI q &&& 31)) &&& 1) = zI ((k / 2 ^ q % 2 : Nat) : Int) := by decide +kernel
theorem orL : ∀ k : Nat, k < 32 → ∀ q : Nat, q < 5 → (zI k ||| ((1 : Int32) <<< (zI q &&& 31))) = zI ((k ||| 2 ^ q : Nat) : Int) := by decide +kernel
theorem kn32 (hd : dOK P L) {p : Nat} (hp : p < sp_np P) : sl_k L p < 32 := by
  have h1 := (hd.2.2.1.2.2 p hp).2.2.2
  have h2 : 2 ^ sp_nt P ≤ 2 ^ 5 := Nat.pow_le_pow_right (by omega) (sp_bd hd.1).2.2.1
  have h3 : 2 ^ 5 = 32 := by decide
  omega
theorem cl_knowsS (h : cD μ T n t s P L) (hd : dOK P L) : cSst T n t f_X6_readKnows (st_knows T n P L s) μ := by
  refine cl_two0 h hd (fun y9 y20 μ18 => (if (sh_r μ18 7 2 = some (sh_ref μ18 7 2) ∧ ((sh_ref μ18 7 2) = 8 ∨ (sh_ref μ18 7 2) = 29)) then sh_let (sh_ref μ18 7 2) (fun r23 => (if sh_in y9 7 then (if (((sh_i μ18 ((r23 + 14) + 5) y9.toNatClampNeg) >>> (y20 &&& 31)) &&& 1) = 1 then sh_bind (f_X8_fails 3 (sh_i μ18 2 9) μ18) (fun y33 μ31 => (if y33 = 0 ∨ y33 = 1 then some (y33, μ31) else none)) else (if (sh_r μ18 7 2 = some (sh_ref μ18 7 2) ∧ ((sh_ref μ18 7 2) = 8 ∨ (sh_ref μ18 7 2) = 29)) then sh_let (sh_ref μ18 7 2) (fun r27 => (if sh_in y9 7 then (if sh_in y9 7 then sh_let (sh_setI μ18 ((r27 + 14) + 5) y9.toNatClampNeg ((sh_i μ18 ((r27 + 14) + 5) y9.toNatClampNeg) ||| ((1 : Int32) <<< (y20 &&& 31)))) (fun μ30 => some (1, μ30)) else none) else none)) else none)) else none)) else none)) _ ?_
  intro p q s2 s3 m hp hq hm h9
  have hb := sp_bd hd.1
  obtain ⟨k0, k1⟩ := dck hm.2.2.1 hm.2.2.2.1
  have hpb := isP_b hm.2.2.2.1
  have hk := kn32 hd hp
  have hp7 : p < 7 := by have : (sp_pn P).length ≤ 7 := hb.2.2.2.1; omega
  have hq5 : q < 5 := by have : (sp_tn P).length ≤ 5 := hb.2.2.1; omega
  have hin : sh_in (zI (p : Int)) 7 := (zI_in (by omega)).mpr (by omega)
  have hv : sh_i m (t + 14 + 5) (zI (p : Int)).toNatClampNeg = zI (sl_k L p : Nat) := by rw [tcN (by omega), (hm.2.1.2.1.2.2 p hp).2.2.2, nI_z]
  show cSst T n t _ (if sl_k L p / 2 ^ q % 2 = 1 then .inl (3, s2.1) else .inr (s3, P, dl_k L p q)) m
  by_cases c : sl_k L p / 2 ^ q % 2 = 1
  · rw [if_pos c]
    obtain ⟨m2, f1, f2, f3⟩ := hm.fails (k := 3) (p := s2.1)
    refine ⟨m2, ?_, f2, f3⟩
    show (if _ then _ else _) = _
    rw [k0, if_pos k1, shl_ap, if_pos hin, hv, bitL _ hk q hq5, c, if_pos (show zI ((1 : Nat) : Int) = 1 from rfl), h9, show f_X8_fails 3 (zI (s2.1 : Int)) m = some (0, m2) from f1, shb_ap, if_pos (Or.inl rfl)]
    rfl
  · rw [if_neg c]
    have c0 : sl_k L p / 2 ^ q % 2 = 0 := by omega
    refine ⟨sh_setI m (t + 14 + 5) p (zI ((sl_k L p ||| 2 ^ q : Nat) : Int)), ?_, cFr.of (N := fun r k => r = t + 14 + 5) (sh_fr_I sh_fr.rf rfl) (fun r k z => Or.inr (Or.inl (by omega))), ?_⟩
    · show (if _ then _ else _) = _
      rw [k0, if_pos k1, shl_ap, if_pos hin, hv, bitL _ hk q hq5, c0, if_neg (show ¬ zI ((0 : Nat) : Int) = 1 by decide), if_pos k1, shl_ap, if_pos hin, if_pos hin, hv, orL _ hk q hq5, tcN (by omega), shl_ap]
      rfl
    · obtain ⟨d1, ⟨d2, d3, d4, d5, d6⟩, d7, d8, d9⟩ := hm
      refine ⟨d1.cg (ir_set_r (by omega)) (ir_set_r (by omega)), ⟨d2.cg (fun j hj _ _ => ir_set_r (by omega)), ⟨?_, fun j hj => ?_, fun p' hp' => ?_⟩, ?_, ?_, ?_⟩, d7, d8, d9⟩
      · rw [ir_set_r (by omega)]; exact d3.1
      · rw [ir_set_r (by omega)]; exact d3.2.1 j hj
      · obtain ⟨z1, z2, z3, z4⟩ := d3.2.2 p' hp'
        refine ⟨by rw [ir_set_r (by omega)]; exact z1, by rw [ir_set_r (by omega)]; exact z2, by rw [ir_set_r (by omega)]; exact z3, ?_⟩
        show _ = nI (if p' = p then sl_k L p ||| 2 ^ q else sl_k L p')
        by_cases e : p' = p
        · rw [if_pos e, e, ir_set, nI_z]
        · rw [if_neg e, ir_set_k e]
          exact z4
      · rw [ir_set_r (by omega)]; exact d4
      · rw [ir_set_r (by omega)]; exact d5
      · rw [ir_set_r (by omega)]; exact d6
theorem cl_asksS (h : cD μ T n t s P L) (hd : dOK P L) (h12 : ¬ 12 ≤ (sp_li P).length) : cSst T n t f_X6_readAsks (st_asks T n P L s) μ := by
  refine cl_two0 h hd (fun y9 y20 μ18 => (if (sh_r μ18 7 2 = some (sh_ref μ18 7 2) ∧ ((sh_ref μ18 7 2) = 8 ∨ (sh_ref μ18 7 2) = 29)) then sh_let (sh_ref μ18 7 2) (fun r23 => (if (sh_r μ18 7 2 = some (sh_ref μ18 7 2) ∧ ((sh_ref μ18 7 2) = 8 ∨ (sh_ref μ18 7 2) = 29)) then sh_let (sh_ref μ18 7 2) (fun r25 => (if sh_in (sh_i μ18 r25 4) 12 then sh_let (sh_setI μ18 (r23 + 3) ((sh_i μ18 r25 4)).toNatClampNeg y9) (fun μ27 => (if (sh_r μ27 7 2 = some (sh_ref μ27 7 2) ∧ ((sh_ref μ27 7 2) = 8 ∨ (sh_ref μ27 7 2) = 29)) then sh_let (sh_ref μ27 7 2) (fun r29 => (if (sh_r μ27 7 2 = some (sh_ref μ27 7 2) ∧ ((sh_ref μ27 7 2) = 8 ∨ (sh_ref μ27 7 2) = 29)) then sh_let (sh_ref μ27 7 2) (fun r31 => (if sh_in (sh_i μ27 r31 4) 12 then sh_let (sh_setI μ27 (r29 + 4) ((sh_i μ27 r31 4)).toNatClampNeg y20) (fun μ33 => (if (sh_r μ33 7 2 = some (sh_ref μ33 7 2) ∧ ((sh_ref μ33 7 2) = 8 ∨ (sh_ref μ33 7 2) = 29)) then sh_let (sh_ref μ33 7 2) (fun r35 => sh_let (sh_setI μ33 r35 4 ((sh_i μ33 r35 4) + 1)) (fun μ36 => some (1, μ36))) else none)) else none)) else none)) else none)) else none)) else none)) else none)) _ ?_
  intro p q s2 s3 m hp hq hm h9
  have ht := hm.2.2.2.1
  have hpb := isP_b ht
  have hl : (sp_li P).length < 12 := by omega
  have w0 : sh_i m t 4 = zI ((sp_li P).length : Nat) := by rw [hm.2.1.1.2.2.2.2.1, nI_z]
  obtain ⟨n1, hn1⟩ : ∃ m', m' = sh_setI m (t + 3) (sp_li P).length (zI p) := ⟨_, rfl⟩
  obtain ⟨n2, hn2⟩ : ∃ m', m' = sh_setI n1 (t + 4) (sp_li P).length (zI q) := ⟨_, rfl⟩
  have w1 : sh_i n1 t 4 = zI ((sp_li P).length : Nat) := by rw [hn1, ir_set_r (by omega), w0]
  have w2 : sh_i n2 t 4 = zI ((sp_li P).length : Nat) := by rw [hn2, ir_set_r (by omega), w1]
  have rr1 : sh_r n1 = sh_r m := by rw [hn1]; rfl
  have rr2 : sh_r n2 = sh_r m := by rw [hn2, ← rr1]; rfl
  obtain ⟨h00, h01⟩ := dck hm.2.2.1 ht
  obtain ⟨h10, h11⟩ := dck (μ := n1) (by rw [rr1]; exact hm.2.2.1) ht
  obtain ⟨h20, h21⟩ := dck (μ := n2) (by rw [rr2]; exact hm.2.2.1) ht
  have hin : sh_in (zI ((sp_li P).length : Nat)) 12 := (zI_in (by omega)).mpr (by omega)
  have tc : (zI ((sp_li P).length : Nat)).toNatClampNeg = (sp_li P).length := tcN (by omega)
  have fN : sh_fr (fun r k => t ≤ r ∧ r < t + 20 ∧ ¬ r = t + 14) m (sh_setI n2 t 4 (zI ((sp_li P).length : Nat) + 1)) := by
    refine sh_fr_I ?_ (by omega)
    rw [hn2]; refine sh_fr_I ?_ (by omega)
    rw [hn1]; exact sh_fr_I sh_fr.rf (by omega)
  refine ⟨sh_setI n2 t 4 (zI ((sp_li P).length : Nat) + 1), ?_, cFr.of fN (fun r k z => Or.inr (Or.inl z)), ?_⟩
  · show (if _ then _ else _) = _
    rw [h00, if_pos h01, shl_ap, if_pos h01, shl_ap, w0, if_pos hin, tc, ← hn1, shl_ap, h10, if_pos h11, shl_ap, if_pos h11, shl_ap, w1, if_pos hin, tc, ← hn2, shl_ap, h20, if_pos h21, shl_ap, w2, shl_ap]
    rfl
  · obtain ⟨d1, ⟨d2, d3, d4, d5, d6⟩, d7, d8, d9⟩ := hm
    obtain ⟨b1, b2, b3, b4, b5, b6, b7, b8, b9, b10, b11, b12⟩ := d2
    have eo : ∀ r, ¬ r = t → ¬ r = t + 3 → ¬ r = t + 4 → sh_i (sh_setI n2 t 4 (zI ((sp_li P).length : Nat) + 1)) r = sh_i m r := fun r z0 z1 z2 => by
      rw [ir_set_r z0, hn2, ir_set_r z2, hn1, ir_set_r z1]
    have et : ∀ k, ¬ k = 4 → sh_i (sh_setI n2 t 4 (zI ((sp_li P).length : Nat) + 1)) t k = sh_i m t k := fun k hk => by
      rw [ir_set_k hk, hn2, ir_set_r (by omega), hn1, ir_set_r (by omega)]
    refine ⟨d1.cg (eo 1 (by omega) (by omega) (by omega)) (eo 2 (by omega) (by omega) (by omega)), ⟨⟨?_, ?_, ?_, ?_, ?_, ?_, ?_, ?_, fun j hj => ?_, b10.cg (eo _ (by omega) (by omega) (by omega)) (eo _ (by omega) (by omega) (by omega)), b11.cg (eo _ (by omega) (by omega) (by omega)) (eo _ (by omega) (by omega) (by omega)), b12.cg (eo _ (by omega) (by omega) (by omega)) (eo _ (by omega) (by omega) (by omega))⟩, d3.cg (fun j hj => eo _ (by omega) (by omega) (by omega)), ?_, ?_, ?_⟩, by show sh_r n2 7 2 = some t; rw [rr2]; exact d7, d8, d9.cg (by show sh_r n2 6 1 = _; rw [rr2])⟩
    · rw [et _ (by omega)]; exact b1
    · rw [et _ (by omega)]; exact b2
    · rw [et _ (by omega)]; exact b3
    · rw [et _ (by omega)]; exact b4
    · rw [ir_set, zI_s1, nI_z]; show _ = zI (((sp_li P ++ [(p, q)]).length : Nat) : Int); rw [ln1]
    · rw [et _ (by omega)]; exact b6
    · rw [eo _ (by omega) (by omega) (by omega)]; exact b7
    · rw [eo _ (by omega) (by omega) (by omega)]; exact b8
    · have hj' : j < (sp_li P ++ [(p, q)]).length := hj
      rw [ln1] at hj'
      show _ = nI ((sp_li P ++ [(p, q)]).getD j (0, 0)).1 ∧ _ = nI ((sp_li P ++ [(p, q)]).getD j (0, 0)).2
      rw [ir_set_r (by omega), ir_set_r (by omega), hn2, ir_set_r (show ¬ t + 3 = t + 4 by omega), hn1]
      by_cases z : j = (sp_li P).length
      · rw [z, ir_set, ir_set, gDe, nI_z, nI_z]
        exact ⟨rfl, rfl⟩
      · rw [ir_set_k z, ir_set_k z, ir_set_r (by omega), gDl (by omega)]
        exact b9 j (by omega)
    · rw [et _ (by omega)]; exact d4
    · rw [et _ (by omega)]; exact d5
    · rw [et _ (by omega)]; exact d6
end Sc3
