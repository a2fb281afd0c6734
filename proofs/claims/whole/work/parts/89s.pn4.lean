/-! PLAIN: where the text tells a plain -/
section Pn4
variable {T : Nat → Nat} {n t t2 : Nat} {μ μ' : sh_Mem} {P P2 : sp_T} {L L2 : sl_T}
def nU1 (r k : Nat) : Prop := (49 ≤ r ∧ r ≤ 54) ∨ (r = 63 ∧ (k = 1 ∨ k = 2)) ∨ (r = 208 ∧ k = 4)
theorem nSd_n {r k : Nat} (z : r < 291 ∨ (r = 291 ∧ (k = 57 ∨ k = 60 ∨ k = 77 ∨ k = 78 ∨ k = 113 ∨ k = 1 ∨ k = 7 ∨ k = 8)) ∨ r = 292 ∨ r = 293 ∨ (294 ≤ r ∧ r ≤ 320) ∨ (331 ≤ r ∧ r ≤ 363) ∨ 366 ≤ r) : ¬ nSd r k := fun q => by
  rcases q with ⟨q1, q2⟩ | q | q | q | q | q
  all_goals omega
theorem plS {m m1 m2 m3 μ2 : sh_Mem} (h : Sim μ) (hR : sm_rest μ t P L) (ht2 : sh_isP t2) (hne : ¬ t2 = t) (hG2 : sh_G μ2) (c1 : ∀ r k, ¬ nKp t2 r k → sh_i m r k = sh_i μ r k ∧ sh_l m r k = sh_l μ r k) (c3 : fO m) (c4 : sh_i m 0 1 = 0) (c5 : sh_i m 0 14 = 0) (c6 : sh_i m 0 15 = -1) (hD : cDr m t2 P2 L2) (hd : dOK P2 L2)
    (s1 : ∀ r k, ¬ nU1 r k → sh_i m1 r k = sh_i m r k ∧ sh_l m1 r k = sh_l m r k) (s2 : sm_cL m1 49 P2 L2) (s3 : sh_i m1 63 1 = 0 ∧ sh_i m1 63 2 = 0 ∧ sh_i m1 208 4 = 0) (s4 : sh_r m1 0 7 = some t2 ∧ sh_r m1 55 0 = some t2 ∧ sh_r m1 7 2 = some t ∧ sh_r m1 6 1 = sh_r m 6 1)
    (r1 : sh_fr nPl m1 m2) (r2 : sh_i m2 291 1 = 0) (e2 : m3 = sh_setI (sh_setI m2 291 7 0) 291 8 (-1)) (r5 : sh_fr nSd m3 μ2) (r6 : sm_mP μ2 P2) (r7 : sm_mL (sh_i μ2 330) 0 P2 L2) (r8 : sh_i μ2 330 71 = 0) (r9 : sh_i μ2 291 76 = 0) (r10 : sh_i μ2 291 71 = 0) : Sim μ2 := by
  have hf2 : sh_fr (fun r k => r = 291 ∧ (k = 7 ∨ k = 8)) m2 m3 := by
    rw [e2]
    exact sh_fr_I (sh_fr_I sh_fr.rf (by omega)) (by omega)
  have rest : ∀ r k, (r < 291 ∨ (r = 291 ∧ (k = 57 ∨ k = 60 ∨ k = 77 ∨ k = 78 ∨ k = 113)) ∨ r = 292 ∨ r = 293 ∨ (294 ≤ r ∧ r ≤ 320) ∨ (331 ≤ r ∧ r ≤ 363) ∨ 366 ≤ r) → sh_i μ2 r k = sh_i m1 r k ∧ sh_l μ2 r k = sh_l m1 r k := fun r k z => by
    have y1 := r5.2 r k (nSd_n (by omega))
    have y2 := hf2.2 r k (by omega)
    have y3 := r1.2 r k (nP_n (by omega))
    exact ⟨y1.1.trans (y2.1.trans y3.1), y1.2.trans (y2.2.trans y3.2)⟩
  have toM : ∀ r k, (r < 291 ∨ (r = 291 ∧ (k = 57 ∨ k = 60 ∨ k = 77 ∨ k = 78 ∨ k = 113)) ∨ r = 292 ∨ r = 293 ∨ (294 ≤ r ∧ r ≤ 320) ∨ (331 ≤ r ∧ r ≤ 363) ∨ 366 ≤ r) → ¬ nU1 r k → sh_i μ2 r k = sh_i m r k ∧ sh_l μ2 r k = sh_l m r k := fun r k z z1 => by
    have y1 := rest r k z
    have y2 := s1 r k z1
    exact ⟨y1.1.trans y2.1, y1.2.trans y2.2⟩
  have hpb := isP_b ht2
  have nK : ∀ r k, ¬ (r = 0 ∧ (k = 1 ∨ k = 14 ∨ k = 15)) → ¬ r = 2 → ¬ r = 6 → ¬ (t2 ≤ r ∧ r < t2 + 20) → ¬ nKp t2 r k := fun r k z1 z2 z3 z4 q => by
    unfold nKp nCt at q
    omega
  have nU : ∀ r k, ¬ (49 ≤ r ∧ r ≤ 54) → ¬ r = 63 → ¬ r = 208 → ¬ nU1 r k := fun r k z1 z2 z3 q => by
    unfold nU1 at q
    omega
  have all : ∀ r k, (r < 291 ∨ (r = 291 ∧ (k = 57 ∨ k = 60 ∨ k = 77 ∨ k = 78 ∨ k = 113)) ∨ r = 292 ∨ r = 293 ∨ (294 ≤ r ∧ r ≤ 320) ∨ (331 ≤ r ∧ r ≤ 363) ∨ 366 ≤ r) → ¬ nU1 r k → ¬ nKp t2 r k → sh_i μ2 r k = sh_i μ r k ∧ sh_l μ2 r k = sh_l μ r k := fun r k z z1 z5 => by
    have y1 := toM r k z z1
    have y2 := c1 r k z5
    exact ⟨y1.1.trans y2.1, y1.2.trans y2.2⟩
  obtain ⟨a1, a2, a3, a4, a5, a6, -⟩ := h
  obtain ⟨b1, b2, b3, b4, b5, b6, b7, b8, b9, b10, b11, b12, b13, b14, b15⟩ := hR
  have h2P := ht2
  unfold sh_isP at h2P
  have lowR : ∀ r, r < 291 → ¬ r = 0 → ¬ r = 2 → ¬ r = 6 → ¬ (t2 ≤ r ∧ r < t2 + 20) → ¬ (49 ≤ r ∧ r ≤ 54) → ¬ r = 63 → ¬ r = 208 → sh_i μ2 r = sh_i μ r := fun r z1 z2 z3 z4 z5 z6 z7 z8 => funext fun k => (all r k (by omega) (nU r k z6 z7 z8) (nK r k (by omega) z3 z4 z5)).1
  have hiR : ∀ r, r = 292 ∨ r = 293 ∨ (294 ≤ r ∧ r ≤ 320) ∨ (331 ≤ r ∧ r ≤ 363) ∨ 366 ≤ r → sh_i μ2 r = sh_i μ r := fun r z => funext fun k => (all r k (by omega) (nU r k (by omega) (by omega) (by omega)) (nK r k (by omega) (by omega) (by omega) (by omega))).1
  have h291 : ∀ k, (k = 57 ∨ k = 60 ∨ k = 77 ∨ k = 78 ∨ k = 113) → sh_i μ2 291 k = sh_i μ 291 k ∧ sh_l μ2 291 k = sh_l μ 291 k := fun k z => all 291 k (by omega) (nU 291 k (by omega) (by omega) (by omega)) (nK 291 k (by omega) (by omega) (by omega) (by omega))
  have rr : sh_r μ2 = sh_r m1 := by rw [r5.1, hf2.1, r1.1]
  have d0 : ∀ j, j < 20 → sh_i μ2 (t2 + j) = sh_i m (t2 + j) := fun j hj => funext fun k => (toM _ k (by omega) (nU _ k (by omega) (by omega) (by omega))).1
  have hD2 : cDr μ2 t2 P2 L2 := hD.cg d0
  have u1 : ∀ r k, r < 291 → sh_i μ2 r k = sh_i m1 r k := fun r k z => (rest r k (Or.inl z)).1
  obtain ⟨ua, uo, uw, u2, u3, u4, u5, u6, u7, u8, -⟩ := b9
  refine ⟨hG2, ?_, ⟨?_, ?_⟩, ?_, a5.cg (all 0 16 (by omega) (nU 0 16 (by omega) (by omega) (by omega)) (nK 0 16 (by omega) (by omega) (by omega) (by omega))).2 (h291 78 (by omega)).2, a6.cg (all 0 18 (by omega) (nU 0 18 (by omega) (by omega) (by omega)) (nK 0 18 (by omega) (by omega) (by omega) (by omega))).1 (h291 113 (by omega)).1 (lowR 289 (by omega) (by omega) (by omega) (by omega) (by omega) (by omega) (by omega) (by omega)) (hiR 367 (by omega)), t2, P2, L2, ⟨ht2, ?_, ?_, ⟨t, b1.1, fun z => hne z.symm, ?_⟩, ?_⟩, hd.1, hd.2.2.1, hD2.1, r6, ?_, r7, ?_, ?_, ?_, ?_, ?_, ?_, ?_, fun q hq j hj => ?_⟩
  · obtain ⟨n', -, -, -, b⟩ := a2
    refine ⟨0, by omega, ?_, ?_, ?_⟩
    · rw [(toM 0 1 (by omega) (nU 0 1 (by omega) (by omega) (by omega))).1, c4]; rfl
    · rw [r5.i 291 1 (nSd_n (by omega)), hf2.i 291 1 (by omega), r2]; rfl
    · rw [lowR 1 (by omega) (by omega) (by omega) (by omega) (by omega) (by omega) (by omega) (by omega), hiR 292 (by omega)]
      exact b
  · rw [(toM 0 14 (by omega) (nU 0 14 (by omega) (by omega) (by omega))).1, c5, r5.i 291 7 (nSd_n (by omega)), e2, ir_set_k (by omega), ir_set]
  · rw [(toM 0 15 (by omega) (nU 0 15 (by omega) (by omega) (by omega))).1, c6, r5.i 291 8 (nSd_n (by omega)), e2, ir_set]
  · intro k hk
    rw [lowR 290 (by omega) (by omega) (by omega) (by omega) (by omega) (by omega) (by omega) (by omega), hiR 293 (by omega)]
    exact a4 k hk
  · rw [rr]; exact s4.1
  · rw [rr]; exact s4.2.1
  · rw [rr]; exact s4.2.2.1
  · obtain ⟨f, f1, f2⟩ := c3
    exact ⟨f, f1, by rw [rr, s4.2.2.2]; exact f2⟩
  · exact s2.cg (fun j hj => funext fun k => u1 _ k (by omega))
  · exact ⟨0, by omega, by rw [u1 _ _ (by omega), s3.1]; rfl, by rw [r8]; rfl, fun j hj => absurd hj (by omega)⟩
  · exact ⟨0, uo, uw, by omega, u3, u4, by rw [u1 _ _ (by omega), s3.2.1]; rfl, by rw [u1 _ _ (by omega), (s1 63 3 (by unfold nU1; omega)).1, (c1 63 3 (nK 63 3 (by omega) (by omega) (by omega) (by omega))).1]; exact u6, by rw [r9]; rfl, by rw [(h291 77 (by omega)).1]; exact u8, fun i hi => absurd hi (by omega)⟩
  · exact ⟨0, by omega, by rw [u1 _ _ (by omega), s3.2.2]; rfl, by rw [r10]; rfl, fun j hj => absurd hj (by omega)⟩
  · rw [(h291 57 (by omega)).1]; exact b11
  · rw [(h291 60 (by omega)).1]; exact b12
  · rcases h2P with z | z
    · have := hD2.2.1.1
      rw [z, show sl_d L2 = 0 from hd.2.2.2] at this
      exact this
    · rw [lowR 22 (by omega) (by omega) (by omega) (by omega) (by omega) (by omega) (by omega) (by omega)]; exact b13
  · rcases h2P with z | z
    · rw [lowR 43 (by omega) (by omega) (by omega) (by omega) (by omega) (by omega) (by omega) (by omega)]; exact b14
    · have := hD2.2.1.1
      rw [z, show sl_d L2 = 0 from hd.2.2.2] at this
      exact this
  · have := sw_rng q hq
    rw [hiR q.1 (by omega)]
    exact b15 q hq j hj
end Pn4
theorem pr_2 : ∀ (μ : sh_Mem), Sim μ → ∃ (v : Int32) (μ1 μ2 : sh_Mem), f_X11_plain μ = some (v, μ1) ∧ f_X12_plain μ1 = some (v, μ2) ∧ Sim μ2 := by
  intro μ h
  obtain ⟨hG, htp, -, -, -, -, t, P, L, hR⟩ := id h
  obtain ⟨⟨ht, rt, r55, ⟨t2, ht2, hne, r72⟩, hfo⟩, hk, hl, hP, hM, hc, hm, hkp, hu, hse, h57, h60, h22, h43, hW⟩ := id hR
  obtain ⟨n, T, hn, e0, e1, eT⟩ := htp.T
  have hT1 : xT μ 1 T n := ⟨hn, fun j hj => ⟨(eT j hj).1, (eT j hj).2.1⟩⟩
  have hT2 : xT μ 292 T n := ⟨hn, fun j hj => ⟨(eT j hj).1, (eT j hj).2.2⟩⟩
  have h14 : sh_i μ (t2 + 14) 0 = 0 := by
    rcases ht2 with z | z <;> rw [z]
    · exact h22
    · exact h43
  have hpb := isP_b ht2
  obtain ⟨r, v, m, a1, a2, a3, a4, a5, a6, a7, a8, a9, a10, a11⟩ := cl_plainR hG hn e0 hT1 r72 ht2 h14 hfo
  have run := a2 (fun y9 μ10 => (if (sh_i μ10 2 10) = 0 then (if (sh_r μ10 0 7 = some (sh_ref μ10 0 7) ∧ ((sh_ref μ10 0 7) = 8 ∨ (sh_ref μ10 0 7) = 29)) then sh_let (sh_ref μ10 0 7) (fun r15 => (if (sh_r μ10 7 2 = some (sh_ref μ10 7 2) ∧ ((sh_ref μ10 7 2) = 8 ∨ (sh_ref μ10 7 2) = 29)) then sh_let (sh_ref μ10 7 2) (fun r17 => sh_let (sh_setR μ10 0 7 (some r17)) (fun μ18 => sh_let (sh_setR μ18 7 2 (some r15)) (fun μ19 => (if (sh_r μ19 0 7 = some (sh_ref μ19 0 7) ∧ ((sh_ref μ19 0 7) = 8 ∨ (sh_ref μ19 0 7) = 29)) then sh_let (sh_ref μ19 0 7) (fun r21 => sh_let (sh_setR μ19 55 0 (some r21)) (fun μ22 => (if (sh_r μ22 0 7 = some (sh_ref μ22 0 7) ∧ ((sh_ref μ22 0 7) = 8 ∨ (sh_ref μ22 0 7) = 29)) then sh_let (sh_ref μ22 0 7) (fun r24 => sh_bindv (f_X3_copyFrom 49 (r24 + 14) μ22) (fun μ25 => sh_bindv (f_X4_forget μ25) (fun μ28 => sh_let (sh_setI μ28 208 4 0) (fun μ31 => some (y9, μ31))))) else none))) else none)))) else none)) else none) else sh_bind (f_X11_refuseNumber 1 μ10) (fun y34 μ32 => some (y34, μ32))))
  have run' : f_X11_plain μ = _ := run
  cases r with
  | inl e =>
    obtain ⟨p1, p2, p3, p4⟩ := a10 e rfl
    have n10 : ¬ sh_i m 2 10 = 0 := by
      rw [p1]
      intro z
      have := (zI_eq (b := 0) (by omega) (by omega) (by omega) (by omega)).mp z
      omega
    have in6 : sh_in (1 : Int32) 6 := (zI_in (a := 1) (by omega)).mpr (by omega)
    have cr : f_X11_plain μ = some (-1, sh_setI m 290 1 (sh_i m 290 1 + 1)) := by
      rw [run', if_neg n10]
      unfold f_X11_refuseNumber
      rw [if_pos in6, if_pos in6, shl_ap, shb_ap]
      rfl
    have G1 := gp_X11_plain hG cr
    have off := fp_X11_plain hG cr
    obtain ⟨m2, b1, b2, b3, b4, -⟩ := rf_plainR G1 (hT2.cg (off 292 (by omega)).1) (by rw [(off 291 (by omega)).1]; exact e1) (sw_hA (fun q hq j hj => by have := sw_rng q hq; rw [(off q.1 (by omega)).1]; exact hW q hq j hj)) (sw_hB (fun q hq j hj => by have := sw_rng q hq; rw [(off q.1 (by omega)).1]; exact hW q hq j hj)) a1
    obtain ⟨q1, q2, -, -⟩ := b4 e rfl
    have n5 : ¬ sh_i (sh_setI (sh_setI m2 291 7 (zI e.1)) 291 8 (zI e.2)) 291 5 = 0 := by
      rw [ir_set_k (by omega), ir_set_k (by omega), q1]
      intro z
      have := (zI_eq (b := 0) (by omega) (by omega) (by omega) (by omega)).mp z
      omega
    have rr : f_X12_plain (sh_setI m 290 1 (sh_i m 290 1 + 1)) = some (-1, sh_setI (sh_setI (sh_setI m2 291 7 (zI e.1)) 291 8 (zI e.2)) 293 1 (sh_i m2 293 1 + 1)) := by
      rw [b1]
      unfold endT
      rw [q1, shl_ap, show sh_i (sh_setI m2 291 7 (zI e.1)) 291 6 = zI e.2 by rw [ir_set_k (by omega), q2], shl_ap, if_neg n5, shl_ap]
      rw [show sh_i (sh_setI (sh_setI m2 291 7 (zI e.1)) 291 8 (zI e.2)) 293 (Int32.toNatClampNeg 1) = sh_i m2 293 1 by rw [ir_set_r (by omega), ir_set_r (by omega)]; rfl]
      rfl
    exact ⟨-1, _, _, cr, rr, plF h hR ht2 hne r72 (gp_X12_plain G1 rr) a4 a5 a6 a7 (by rw [a8, p1]) (by rw [a9, p2]) b2 b3 q1 q2 rfl⟩
  | inr q =>
    obtain ⟨p1, p2, p3, p4, p5⟩ := a11 q rfl
    have hv : v = zI (q.1 : Nat) := a3 rfl
    have rm07 : sh_r m 0 7 = some t := by rw [a5 0 7 (by omega)]; exact rt
    have rm72 : sh_r m 7 2 = some t2 := by rw [a5 7 2 (by omega)]; exact r72
    have k1 : sh_ref m 0 7 = t := by unfold sh_ref; rw [rm07]; rfl
    have k2 : sh_ref m 7 2 = t2 := by unfold sh_ref; rw [rm72]; rfl
    obtain ⟨ma, hma⟩ : ∃ m', m' = sh_setR (sh_setR m 0 7 (some t2)) 7 2 (some t) := ⟨_, rfl⟩
    have ra07 : sh_r ma 0 7 = some t2 := by rw [hma, sh_r_set, if_neg (by omega), sh_r_set, if_pos ⟨rfl, rfl⟩]
    have k3 : sh_ref ma 0 7 = t2 := by unfold sh_ref; rw [ra07]; rfl
    obtain ⟨mb, hmb⟩ : ∃ m', m' = sh_setR ma 55 0 (some t2) := ⟨_, rfl⟩
    have rb07 : sh_r mb 0 7 = some t2 := by rw [hmb, sh_r_set, if_neg (by omega)]; exact ra07
    have k4 : sh_ref mb 0 7 = t2 := by unfold sh_ref; rw [rb07]; rfl
    have ib : sh_i mb = sh_i m := by rw [hmb, hma]; rfl
    have lb : sh_l mb = sh_l m := by rw [hmb, hma]; rfl
    obtain ⟨mc, d1, d2, d3, d4, d5⟩ := cl_copy (μ := mb) (r := 49) (q := t2 + 14) (by have h2 := ht2; unfold sh_isP at h2; omega)
    obtain ⟨md, hmd⟩ : ∃ m', m' = sh_setI (sh_setI (sh_setI mc 63 1 0) 63 2 0) 208 4 0 := ⟨_, rfl⟩
    have fd : sh_fr (fun r k => (r = 63 ∧ (k = 1 ∨ k = 2)) ∨ (r = 208 ∧ k = 4)) mc md := by
      rw [hmd]
      exact sh_fr_I (sh_fr_I (sh_fr_I sh_fr.rf (by omega)) (by omega)) (by omega)
    have cr : f_X11_plain μ = some (v, md) := by
      rw [run', if_pos p1, k1, if_pos ⟨rm07, ht⟩, shl_ap, k2, if_pos ⟨rm72, ht2⟩, shl_ap, shl_ap, ← hma, shl_ap, k3, if_pos ⟨ra07, ht2⟩, shl_ap, ← hmb, shl_ap, k4, if_pos ⟨rb07, ht2⟩, shl_ap, d1, shv_ap]
      unfold f_X4_forget
      rw [shl_ap, shl_ap, shv_ap, ← hmd, shl_ap]
    have G1 := gp_X11_plain hG cr
    have off := fp_X11_plain hG cr
    obtain ⟨m2, b1, b2, b3, -, b5⟩ := rf_plainR G1 (hT2.cg (off 292 (by omega)).1) (by rw [(off 291 (by omega)).1]; exact e1) (sw_hA (fun q hq j hj => by have := sw_rng q hq; rw [(off q.1 (by omega)).1]; exact hW q hq j hj)) (sw_hB (fun q hq j hj => by have := sw_rng q hq; rw [(off q.1 (by omega)).1]; exact hW q hq j hj)) a1
    obtain ⟨q1, q2, q3, cod, q4, q5⟩ := b5 q rfl
    obtain ⟨m3, hm3⟩ : ∃ m', m' = sh_setI (sh_setI m2 291 7 0) 291 8 (-1) := ⟨_, rfl⟩
    have f3 : sh_fr (fun r k => r = 291 ∧ (k = 7 ∨ k = 8)) m2 m3 := by
      rw [hm3]
      exact sh_fr_I (sh_fr_I sh_fr.rf (by omega)) (by omega)
    have D3 : mDr m3 q.2.1 q.2.2 cod := q5.cg (fun r h1 h2 => f3.row r (fun k => by omega)) (f3.lrow 323 (fun k => by omega)) (f3.i 291 48 (by omega))
    obtain ⟨m4, g1, g2, g3, g4, g5, g6, g7⟩ := rf_stands D3 p4 q4
    have rr : f_X12_plain md = some (v, m4) := by
      rw [b1]
      unfold endT
      rw [q1, shl_ap, show sh_i (sh_setI m2 291 7 0) 291 6 = -1 by rw [ir_set_k (by omega), q2], ← hm3, shl_ap, if_pos (show sh_i m3 291 5 = 0 by rw [f3.i 291 5 (by omega)]; exact q1), g1, shv_ap, g2.i 291 49 (by unfold nSd; omega), f3.i 291 49 (by omega), q3, hv]
    refine ⟨v, md, m4, cr, rr, plS (m := m) (m1 := md) (m2 := m2) (m3 := m3) h hR ht2 hne (gp_X12_plain G1 rr) a4 a6 a7 (by rw [a8, p1]) (by rw [a9, p2]) p3 p4 (fun r k z => ?_) ?_ ⟨?_, ?_, ?_⟩ ⟨?_, ?_, ?_, ?_⟩ b2 b3 hm3 g2 g3 g4 g5 g6 g7⟩
    · unfold nU1 at z
      have y1 := fd.2 r k (by omega)
      have y2 := d2.2 r k (by omega)
      rw [ib, lb] at y2
      exact ⟨y1.1.trans y2.1, y1.2.trans y2.2⟩
    · have s0 : sm_cL mb (t2 + 14) q.2.1 q.2.2 := p3.2.1.cg (fun j hj => by rw [ib])
      exact (sm_cL.of p4.1 s0 d3 d4 d5).cg (fun j hj => fd.row _ (fun k => by omega))
    · rw [hmd, ir_set_r (by omega), ir_set_k (by omega), ir_set]
    · rw [hmd, ir_set_r (by omega), ir_set]
    · rw [hmd, ir_set]
    · rw [fd.1, d2.1]; exact rb07
    · rw [fd.1, d2.1, hmb, sh_r_set, if_pos ⟨rfl, rfl⟩]
    · rw [fd.1, d2.1, hmb, sh_r_set, if_neg (by omega), hma, sh_r_set, if_pos ⟨rfl, rfl⟩]
    · rw [fd.1, d2.1, hmb, sh_r_set, if_neg (by omega), hma, sh_r_set, if_neg (by omega), sh_r_set, if_neg (by omega)]
