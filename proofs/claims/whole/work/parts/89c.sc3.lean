/-! THE CLASS: people, what they know, the list, the rules -/
section Sc3
variable {T : Nat → Nat} {n t : Nat} {μ μ' : sh_Mem} {s s' : xs} {P : sp_T} {L : sl_T}
theorem cl_someone {x y : Nat} (hp : sp_np P ≤ 7) (hx : x < 100) (hy : y < 100) (hin : ∀ p, p < sp_np P → sl_x L p < 100 ∧ sl_y L p < 100) (h : sm_cL μ (t + 14) P L) : ∀ (g f i : Nat), i + g = sp_np P → g < f → ((∀ p, i ≤ p → p < sp_np P → ¬ (sl_x L p = x ∧ sl_y L p = y)) ∧ F_X3_isSomeoneAt f 1 (t + 14) (zI x) (zI y) (zI (sp_np P)) (zI i) μ = some (0, μ)) ∨ (¬ (∀ p, i ≤ p → p < sp_np P → ¬ (sl_x L p = x ∧ sl_y L p = y)) ∧ F_X3_isSomeoneAt f 1 (t + 14) (zI x) (zI y) (zI (sp_np P)) (zI i) μ = some (1, μ)) := sorry
theorem cl_personS (h : cD μ T n t s P L) (hd : dOK P L) (h7 : ¬ 7 ≤ sp_np P) : cSst T n t f_X6_readPerson (st_person T n P L s) μ := sorry
/-- a person, then a topic: up to where they are known -/
theorem cl_two0 (h : cD μ T n t s P L) (hd : dOK P L) (G : Int32 → Int32 → sh_Mem → Option (Int32 × sh_Mem)) (F : Nat → Nat → xs → xs → xd) (hG : ∀ (p q : Nat) (s2 s3 : xs) (m : sh_Mem), p < sp_np P → q < sp_nt P → cD m T n t s3 P L → sh_i m 2 9 = zI s2.1 → cSst T n t (G (zI p) (zI q)) (F p q s2 s3) m) : cSst T n t (fun μ => sh_bindv (f_X8_advance μ) (fun μ1 => sh_bind (f_X8_takeName μ1) (fun y6 μ4 => sh_bind (f_X6_asPerson y6 μ4) (fun y9 μ7 => (if y9 = (-1) then some (0, μ7) else sh_bind (f_X8_takesWord 8 μ7) (fun y13 μ11 => (if y13 = 0 then some (0, μ11) else sh_bind (f_X8_takeName μ11) (fun y17 μ15 => sh_bind (f_X6_asTopic y17 μ15) (fun y20 μ18 => (if y20 = (-1) then some (0, μ18) else G y9 y20 μ18)))))))))) (st_two T n P s F) μ := by
  obtain ⟨m1, a1, a2, a3⟩ := h.adv
  have hb := sp_bd hd.1
  rcases a3.name2 with ⟨e, m2, q1, q2, q3, q4, q5, q6⟩ | ⟨w, s2, m2, q1, hw, q3, q4, q5, q6, q7⟩
  · refine cO_e ?_ (a2.trans q3) q4 (by unfold st_two; rw [q1]; rfl)
    show sh_bindv (f_X8_advance μ) _ = _
    rw [a1, shv_ap, q2, shb_ap, cl_asPN q5 hd.1 q6 a3.2.2.2.1 (x_name_e q1) q4.1, shb_ap, if_pos rfl]
  rcases cl_asP q6 hd hw q7 with ⟨p, c1, c2, c3⟩ | ⟨c1, m3, c2, c3, c4⟩
  rotate_left
  · refine cO_e ?_ (a2.trans (q5.trans c3)) c4 (by unfold st_two; rw [q1]; exact if_pos c1)
    show sh_bindv (f_X8_advance μ) _ = _
    rw [a1, shv_ap, q3, shb_ap, c2, shb_ap, if_pos rfl]
  have er1 : st_two T n P s F = (xb (x_word T n 8 s2) fun s2 => xb (x_name T n s2) fun c => if wIx c.1 (sp_tn P) 0 = -1 then .inl (3, s2.1) else F p (wIx c.1 (sp_tn P) 0).toNat s2 c.2) := by
    unfold st_two
    rw [q1]
    show (if wIx w (sp_pn P) 0 = -1 then _ else _) = _
    rw [if_neg (by omega), c1]
    rfl
  have np : ¬ zI (p : Int) = -1 := ofN (by have := hb.2.2.2.1; omega)
  rcases q6.word (w := 8) (by omega) with ⟨e, m3, u1, u2, u3, u4⟩ | ⟨s3, m3, u1, u2, u3, u4⟩
  · refine cO_e ?_ (a2.trans (q5.trans u3)) u4 (by rw [er1]; rw [show x_word T n 8 s2 = .inl e from u1]; rfl)
    show sh_bindv (f_X8_advance μ) _ = _
    rw [a1, shv_ap, q3, shb_ap, c3, shb_ap, if_neg np, show f_X8_takesWord 8 m2 = some (0, m3) from u2, shb_ap, if_pos rfl]
  rw [show x_word T n 8 s2 = .inr s3 from u1] at er1
  rcases u4.name2 with ⟨e, m4, v1, v2, v3, v4, v5, v6⟩ | ⟨w2, s4, m4, v1, hw2, v3, v4, v5, v6, v7⟩
  · refine cO_e ?_ (a2.trans (q5.trans (u3.trans v3))) v4 (by rw [er1]; show xb (x_name T n s3) _ = _; rw [v1]; rfl)
    show sh_bindv (f_X8_advance μ) _ = _
    rw [a1, shv_ap, q3, shb_ap, c3, shb_ap, if_neg np, show f_X8_takesWord 8 m2 = some (1, m3) from u2, shb_ap, if_neg (show ¬ (1 : Int32) = 0 by decide), v2, shb_ap, cl_asTN v5 hd.1 v6 u4.2.2.2.1 (x_name_e v1) v4.1, shb_ap, if_pos rfl]
  have er2 : st_two T n P s F = (if wIx w2 (sp_tn P) 0 = -1 then .inl (3, s3.1) else F p (wIx w2 (sp_tn P) 0).toNat s3 s4) := by
    rw [er1]
    show xb (x_name T n s3) _ = _
    rw [v1]
    rfl
  have fr := a2.trans (q5.trans (u3.trans v5))
  rcases cl_asT v6 hd hw2 v7 with ⟨q, g1, g2, g3⟩ | ⟨g1, m5, g2, g3, g4⟩
  rotate_left
  · refine cO_e ?_ (fr.trans g3) g4 (by rw [er2]; exact if_pos g1)
    show sh_bindv (f_X8_advance μ) _ = _
    rw [a1, shv_ap, q3, shb_ap, c3, shb_ap, if_neg np, show f_X8_takesWord 8 m2 = some (1, m3) from u2, shb_ap, if_neg (show ¬ (1 : Int32) = 0 by decide), v3, shb_ap, g2, shb_ap, if_pos rfl]
  have nq : ¬ zI (q : Int) = -1 := ofN (by have := hb.2.2.1; omega)
  have er3 : st_two T n P s F = F p q s3 s4 := by
    rw [er2, if_neg (by omega), g1]
    rfl
  rw [er3]
  obtain ⟨m5, o1, o2, o3⟩ := hG p q s3 s4 m4 c2 g2 v6 v7
  refine ⟨m5, ?_, fr.trans o2, o3⟩
  show sh_bindv (f_X8_advance μ) _ = _
  rw [a1, shv_ap, q3, shb_ap, c3, shb_ap, if_neg np, show f_X8_takesWord 8 m2 = some (1, m3) from u2, shb_ap, if_neg (show ¬ (1 : Int32) = 0 by decide), v3, shb_ap, g3, shb_ap, if_neg nq]
  exact o1
theorem bitL : ∀ k : Nat, k < 32 → ∀ q : Nat, q < 5 → (((zI k) >>> (zI q &&& 31)) &&& 1) = zI ((k / 2 ^ q % 2 : Nat) : Int) := by decide +kernel
theorem orL : ∀ k : Nat, k < 32 → ∀ q : Nat, q < 5 → (zI k ||| ((1 : Int32) <<< (zI q &&& 31))) = zI ((k ||| 2 ^ q : Nat) : Int) := by decide +kernel
theorem kn32 (hd : dOK P L) {p : Nat} (hp : p < sp_np P) : sl_k L p < 32 := by
  have h1 := (hd.2.2.1.2.2 p hp).2.2.2
  have h2 : 2 ^ sp_nt P ≤ 2 ^ 5 := Nat.pow_le_pow_right (by omega) (sp_bd hd.1).2.2.1
  have h3 : 2 ^ 5 = 32 := by decide
  omega
theorem cl_knowsS (h : cD μ T n t s P L) (hd : dOK P L) : cSst T n t f_X6_readKnows (st_knows T n P L s) μ := sorry
theorem cl_asksS (h : cD μ T n t s P L) (hd : dOK P L) (h12 : ¬ 12 ≤ (sp_li P).length) : cSst T n t f_X6_readAsks (st_asks T n P L s) μ := by
  refine cl_two0 h hd (fun y9 y20 μ18 => (if (sh_r μ18 7 2 = some (sh_ref μ18 7 2) ∧ ((sh_ref μ18 7 2) = 8 ∨ (sh_ref μ18 7 2) = 29)) then sh_let (sh_ref μ18 7 2) (fun r23 => (if (sh_r μ18 7 2 = some (sh_ref μ18 7 2) ∧ ((sh_ref μ18 7 2) = 8 ∨ (sh_ref μ18 7 2) = 29)) then sh_let (sh_ref μ18 7 2) (fun r25 => (if sh_in (sh_i μ18 r25 4) 12 then sh_let (sh_setI μ18 (r23 + 3) ((sh_i μ18 r25 4)).toNatClampNeg y9) (fun μ27 => (if (sh_r μ27 7 2 = some (sh_ref μ27 7 2) ∧ ((sh_ref μ27 7 2) = 8 ∨ (sh_ref μ27 7 2) = 29)) then sh_let (sh_ref μ27 7 2) (fun r29 => (if (sh_r μ27 7 2 = some (sh_ref μ27 7 2) ∧ ((sh_ref μ27 7 2) = 8 ∨ (sh_ref μ27 7 2) = 29)) then sh_let (sh_ref μ27 7 2) (fun r31 => (if sh_in (sh_i μ27 r31 4) 12 then sh_let (sh_setI μ27 (r29 + 4) ((sh_i μ27 r31 4)).toNatClampNeg y20) (fun μ33 => (if (sh_r μ33 7 2 = some (sh_ref μ33 7 2) ∧ ((sh_ref μ33 7 2) = 8 ∨ (sh_ref μ33 7 2) = 29)) then sh_let (sh_ref μ33 7 2) (fun r35 => sh_let (sh_setI μ33 r35 4 ((sh_i μ33 r35 4) + 1)) (fun μ36 => some (1, μ36))) else none)) else none)) else none)) else none)) else none)) else none)) else none)) _ ?_
  intro p q s2 s3 m hp hq hm h9
  have ht := hm.2.2.2.1
  have hpb := isP_b ht
  have hl : (sp_li P).length < 12 := by omega
  have w0 : sh_i m t 4 = zI ((sp_li P).length : Nat) := by rw [hm.2.1.1.2.2.2.2.1, nI_z]
  obtain ⟨n1, hn1⟩ : ∃ m', m' = sh_setI m (t + 3) (sp_li P).length (zI p) := ⟨_, rfl⟩
  obtain ⟨n2, hn2⟩ : ∃ m', m' = sh_setI n1 (t + 4) (sp_li P).length (zI q) := ⟨_, rfl⟩
  have w1 : sh_i n1 t 4 = zI ((sp_li P).length : Nat) := by rw [hn1, ir_set_r (by omega), w0]
  have w2 : sh_i n2 t 4 = zI ((sp_li P).length : Nat) := by rw [hn2, ir_set_r (by omega), w1]
  have rr1 : sh_r n1 = sh_r m := by rw [hn1]; rfl
  have rr2 : sh_r n2 = sh_r m := by rw [hn2, ← rr1]; rfl
  obtain ⟨h00, h01⟩ := dck hm.2.2.1 ht
  obtain ⟨h10, h11⟩ := dck (μ := n1) (by rw [rr1]; exact hm.2.2.1) ht
  obtain ⟨h20, h21⟩ := dck (μ := n2) (by rw [rr2]; exact hm.2.2.1) ht
  have hin : sh_in (zI ((sp_li P).length : Nat)) 12 := (zI_in (by omega)).mpr (by omega)
  have tc : (zI ((sp_li P).length : Nat)).toNatClampNeg = (sp_li P).length := tcN (by omega)
  have fN : sh_fr (fun r k => t ≤ r ∧ r < t + 20) m (sh_setI n2 t 4 (zI ((sp_li P).length : Nat) + 1)) := by
    refine sh_fr_I ?_ (by omega)
    rw [hn2]; refine sh_fr_I ?_ (by omega)
    rw [hn1]; exact sh_fr_I sh_fr.rf (by omega)
  refine ⟨sh_setI n2 t 4 (zI ((sp_li P).length : Nat) + 1), ?_, cFr.of fN (fun r k z => Or.inr (Or.inl z)), ?_⟩
  · show (if _ then _ else _) = _
    rw [h00, if_pos h01, shl_ap, if_pos h01, shl_ap, w0, if_pos hin, tc, ← hn1, shl_ap, h10, if_pos h11, shl_ap, if_pos h11, shl_ap, w1, if_pos hin, tc, ← hn2, shl_ap, h20, if_pos h21, shl_ap, w2, shl_ap]
    rfl
  · obtain ⟨d1, ⟨d2, d3, d4, d5, d6⟩, d7, d8, d9⟩ := hm
    obtain ⟨b1, b2, b3, b4, b5, b6, b7, b8, b9, b10, b11, b12⟩ := d2
    have eo : ∀ r, ¬ r = t → ¬ r = t + 3 → ¬ r = t + 4 → sh_i (sh_setI n2 t 4 (zI ((sp_li P).length : Nat) + 1)) r = sh_i m r := fun r z0 z1 z2 => by
      rw [ir_set_r z0, hn2, ir_set_r z2, hn1, ir_set_r z1]
    have et : ∀ k, ¬ k = 4 → sh_i (sh_setI n2 t 4 (zI ((sp_li P).length : Nat) + 1)) t k = sh_i m t k := fun k hk => by
      rw [ir_set_k hk, hn2, ir_set_r (by omega), hn1, ir_set_r (by omega)]
    refine ⟨d1.cg (eo 1 (by omega) (by omega) (by omega)) (eo 2 (by omega) (by omega) (by omega)), ⟨⟨?_, ?_, ?_, ?_, ?_, ?_, ?_, ?_, fun j hj => ?_, b10.cg (eo _ (by omega) (by omega) (by omega)) (eo _ (by omega) (by omega) (by omega)), b11.cg (eo _ (by omega) (by omega) (by omega)) (eo _ (by omega) (by omega) (by omega)), b12.cg (eo _ (by omega) (by omega) (by omega)) (eo _ (by omega) (by omega) (by omega))⟩, d3.cg (fun j hj => eo _ (by omega) (by omega) (by omega)), ?_, ?_, ?_⟩, by show sh_r n2 7 2 = some t; rw [rr2]; exact d7, d8, d9.cg (by show sh_r n2 6 1 = _; rw [rr2])⟩
    · rw [et _ (by omega)]; exact b1
    · rw [et _ (by omega)]; exact b2
    · rw [et _ (by omega)]; exact b3
    · rw [et _ (by omega)]; exact b4
    · rw [ir_set, zI_s1, nI_z]; show _ = zI (((sp_li P ++ [(p, q)]).length : Nat) : Int); rw [ln1]
    · rw [et _ (by omega)]; exact b6
    · rw [eo _ (by omega) (by omega) (by omega)]; exact b7
    · rw [eo _ (by omega) (by omega) (by omega)]; exact b8
    · have hj' : j < (sp_li P ++ [(p, q)]).length := hj
      rw [ln1] at hj'
      show _ = nI ((sp_li P ++ [(p, q)]).getD j (0, 0)).1 ∧ _ = nI ((sp_li P ++ [(p, q)]).getD j (0, 0)).2
      rw [ir_set_r (by omega), ir_set_r (by omega), hn2, ir_set_r (show ¬ t + 3 = t + 4 by omega), hn1]
      by_cases z : j = (sp_li P).length
      · rw [z, ir_set, ir_set, gDe, nI_z, nI_z]
        exact ⟨rfl, rfl⟩
      · rw [ir_set_k z, ir_set_k z, ir_set_r (by omega), gDl (by omega)]
        exact b9 j (by omega)
    · rw [et _ (by omega)]; exact d4
    · rw [et _ (by omega)]; exact d5
    · rw [et _ (by omega)]; exact d6
end Sc3
