/-! ASK -/
theorem pr_30 : ∀ (μ : sh_Mem), Sim μ → ∃ (v : Int64) (μ1 μ2 : sh_Mem), f_X11_ask μ = some (v, μ1) ∧ f_X12_ask μ1 = some (v, μ2) ∧ Sim μ2 := by
  intro μ h
  obtain ⟨hG, htp, hft, -, -, -, t, P, L, hR⟩ := id h
  obtain ⟨⟨ht, rt, r55, -, hfo⟩, hk, hl, hP, hM, hc, hm, hkp, hu, hse, h57, h60, h22, h43, hW⟩ := id hR
  obtain ⟨n, T, hn, e0, e1, eT⟩ := htp.T
  have hT1 : xT μ 1 T n := ⟨hn, fun j hj => ⟨(eT j hj).1, (eT j hj).2.1⟩⟩
  have hT2 : xT μ 292 T n := ⟨hn, fun j hj => ⟨(eT j hj).1, (eT j hj).2.2⟩⟩
  have hb := sp_bd hk
  have hpb := isP_b ht
  have ht2 := ht
  unfold sh_isP at ht2
  have et : sh_i μ t 0 = zI (sp_c P : Nat) := by rw [hP.1, nI_z]
  by_cases c0 : sp_c P = 0
  · obtain ⟨m0, hm0⟩ : ∃ m, m = sh_setI μ 0 1 0 := ⟨_, rfl⟩
    have r0 : sh_r m0 0 7 = some t := by rw [hm0]; exact rt
    have k0 : sh_ref m0 0 7 = t := by unfold sh_ref; rw [r0]; rfl
    have cr : f_X11_ask μ = some (-1000000000000000, m0) := by
      have x1 : f_X11_takeTape μ = some (zI n, m0) := by
        unfold f_X11_takeTape
        rw [e0, shl_ap, ← hm0, shl_ap]
      have x2 : f_X11_isPlain m0 = some (0, m0) := by
        unfold f_X11_isPlain
        rw [k0, if_pos (show sh_r m0 0 7 = some t ∧ (t = 8 ∨ t = 29) from ⟨r0, ht⟩), shl_ap, if_pos (by rw [hm0, ir_set_r (by omega), et, c0]; decide)]
      unfold f_X11_ask
      rw [x1, shb_ap, x2, shb_ap, if_pos rfl]
    have h50 : sh_i m0 291 50 = 0 := by
      rw [hm0, ir_set_r (by omega), hM.2.2.2.2.2.2.1, if_neg (by omega)]
    have rr : f_X12_ask m0 = some (-1000000000000000, sh_setI m0 291 1 0) := by
      unfold f_X12_ask
      rw [if_pos h50, shl_ap]
    have G1 := gp_X11_ask hG cr
    refine ⟨_, _, _, cr, rr, askSim h ht (gp_X12_ask G1 rr) (m := m0) (fun r k z => ?_) (fun r k _ => by rw [hm0]; rfl) (Or.inl (by rw [hm0]; rfl)) (by rw [hm0, ir_set]) (sh_fr_I sh_fr.rf (Or.inl (Or.inr ⟨rfl, Or.inl rfl⟩))) (by rw [ir_set]) (by rw [ir_set_r (by omega)]) (by rw [ir_set_k (by omega)]) (by rw [ir_set_k (by omega)]) ?_ ?_⟩
    · have z1 : ¬ (r = 0 ∧ k = 1) := fun q => z (Or.inl (Or.inr (Or.inl ⟨q.1, Or.inl q.2⟩)))
      rw [hm0]
      exact ⟨by rw [sh_i_set, if_neg z1], rfl⟩
    · rw [ir_set_k (by omega), hm0, ir_set_k (by omega), ir_set_r (by omega)]; exact hft.1
    · rw [ir_set_k (by omega), hm0, ir_set_k (by omega), ir_set_r (by omega)]; exact hft.2
  have hp : ¬ sh_i μ t 0 ≤ 0 := by
    rw [et]
    intro z
    have := (zI_le (b := 0) (by omega) (by omega) (by omega) (by omega)).mp z
    omega
  obtain ⟨r, v, m, a1, a2, a3, a4, a5, a6, a7, a8, a9, a10⟩ := cl_askQ hG hn e0 hT1 rt ht hp
  have lowC : ∀ r, (r < 2 ∨ 7 ≤ r) → ¬ r = 0 → sh_i m r = sh_i μ r := fun r z z0 => funext fun k => (a3 r k (fun q => by unfold nQa nQc nV at q; omega)).1
  have after : ∀ m', sh_offM μ m' → xT m' 292 T n ∧ sh_i m' 291 1 = zI n ∧ ¬ sh_i m' 291 50 = 0 ∧ hB m' ∧ hQ m' := fun m' off => by
    have W' : sm_W m' := fun q hq j hj => by have := sw_rng q hq; rw [(off q.1 (by omega)).1]; exact hW q hq j hj
    refine ⟨hT2.cg (off 292 (by omega)).1, by rw [(off 291 (by omega)).1]; exact e1, ?_, sw_hB W', sw_hQ W'⟩
    rw [(off 291 (by omega)).1, hM.2.2.2.2.2.2.1, if_pos (by omega)]
    decide
  cases r with
  | inl e =>
    obtain ⟨p1, p2, p3, p4⟩ := a9 e rfl
    have cr : f_X11_ask μ = some (-1000000000000000, m) := by
      rw [a2, if_neg (show ¬ sh_i m 2 10 = 0 by rw [p1]; exact zIn0 ⟨p3, p4⟩)]
    have G1 := gp_X11_ask hG cr
    have off := fp_X11_ask hG cr
    obtain ⟨q1, q2, q3, q4, q5⟩ := after m off
    obtain ⟨k, f, m2, b1, b2, b3, b4, b5, -⟩ := rf_questR G1 q1 q2 q3 q4 q5 a1
    obtain ⟨d1, d2, -, -⟩ := b5 e rfl
    obtain ⟨f, rfl⟩ : ∃ f', f = f' + 1 := ⟨f - 1, by omega⟩
    have rr : f_X12_ask m = some (-1000000000000000, sh_setI (sh_setI m2 291 7 (zI e.1)) 291 8 (zI e.2)) := by
      rw [b2, F_X12_ask, d1, shl_ap, show sh_i (sh_setI m2 291 7 (zI e.1)) 291 6 = zI e.2 by rw [ir_set_k (by omega), d2], shl_ap, if_neg (show ¬ sh_i (sh_setI (sh_setI m2 291 7 (zI e.1)) 291 8 (zI e.2)) 291 5 = 0 by rw [ir_set_k (by omega), ir_set_k (by omega), d1]; exact zIn0 ⟨p3, p4⟩)]
    have fz : sh_fr nAr m (sh_setI (sh_setI m2 291 7 (zI e.1)) 291 8 (zI e.2)) := sh_fr_I (sh_fr_I (b3.mono (fun _ _ z => Or.inl z)) (Or.inr (Or.inl ⟨rfl, by omega⟩))) (Or.inr (Or.inl ⟨rfl, by omega⟩))
    have nq : ∀ r k, (r = 330 ∨ (r = 291 ∧ (k = 57 ∨ k = 60))) → ¬ nQr r k := fun r k z q => by
      unfold nQr nZq nM nWq at q
      omega
    refine ⟨_, _, _, cr, rr, askSim h ht (gp_X12_ask G1 rr) (m := m) (fun r k z => a3 r k (fun q => z (Or.inl q))) a4 a5 a6 fz ?_ ?_ ?_ ?_ ?_ ?_⟩
    · rw [ir_set_k (by omega), ir_set_k (by omega)]; exact b4
    · rw [ir_set_r (by omega), ir_set_r (by omega)]; exact b3.row 330 (fun k => nq 330 k (by omega))
    · rw [ir_set_k (by omega), ir_set_k (by omega)]; exact b3.i 291 57 (nq 291 57 (by omega))
    · rw [ir_set_k (by omega), ir_set_k (by omega)]; exact b3.i 291 60 (nq 291 60 (by omega))
    · rw [a7, p1, ir_set_k (by omega), ir_set]
    · rw [a8, p2, ir_set]
  | inr q =>
    obtain ⟨p1, p2, p3, p4, p5, p6, p7, p8⟩ := a10 q rfl
    have cP : sm_cP m t P := hP.cg (fun j hj _ _ => lowC _ (by omega) (by omega))
    have cL : sm_cL m 49 P L := hc.cg (fun j hj => lowC _ (by omega) (by omega))
    obtain ⟨m', g1, g2⟩ := cl_answer (P := P) (L := L) (t := t) ⟨p5, p6⟩ (by rw [a4 0 7 (by omega)]; exact rt) (by rw [a4 55 0 (by omega)]; exact r55) ht hk hl.2 hl.1 p7 p8 cP cL p2
    have cr : f_X11_ask μ = some (zL (jnA q.1 (qV P L q.2 true) (sp_np P)), m') := by
      rw [a2, if_pos p3, p1, g1, shb_ap]
    have G1 := gp_X11_ask hG cr
    have off := fp_X11_ask hG cr
    obtain ⟨q1, q2, q3, q4, q5⟩ := after m' off
    obtain ⟨k, f, m2, b1, b2, b3, b4, -, b6⟩ := rf_questR G1 q1 q2 q3 q4 q5 a1
    obtain ⟨d1, d2, d3, d4, d5⟩ := b6 q rfl
    have nq : ∀ r k, (¬ r = 291 ∧ ¬ r = 364 ∧ ¬ r = 365) ∨ (r = 291 ∧ (k = 50 ∨ k = 57 ∨ k = 60)) → ¬ nQr r k := fun r k z q => by
      unfold nQr nZq nM nWq at q
      omega
    have s330 : sh_i m2 330 = sh_i μ 330 := by rw [b3.row 330 (fun k => nq 330 k (by omega)), (off 330 (by omega)).1]
    have M1 : sm_mP m' P := hM.off off
    have M2 : sm_mP m2 P := M1.f3 (fun r k z => b3.i r k (nq r k (by omega))) (b3.lrow 323 (fun k => nq 323 k (by omega)))
    obtain ⟨K, -, K2⟩ := hkp.K
    obtain ⟨m3, u1, u2, u3, u4, u5, u6, u7, u8⟩ := rf_askA (m := m2) (P := P) (L := L) (K := K) (l := q.2) (w := q.1) (f := f) (by omega) ⟨p5, p6⟩ rfl hk hl.2 hl.1 p7 p8 M2 (by rw [s330]; exact hm) ⟨K2.1, by rw [s330]; exact K2.2.1, fun j hj => by rw [s330]; exact K2.2.2 j hj⟩ (by rw [b3.i 291 60 (nq 291 60 (by omega)), (off 291 (by omega)).1]; exact h60) d2 d3 d4 d5
    have rr : f_X12_ask m' = some (zL (jnA q.1 (qV P L q.2 true) (sp_np P)), m3) := by
      rw [b2, d1]
      exact u1
    refine ⟨_, _, _, cr, rr, askSim h ht (gp_X12_ask G1 rr) (m := m') (fun r k z => ?_) (fun r k z => by rw [g2.1]; exact a4 r k z) (by rw [g2.1]; exact a5) ?_ ((b3.mono (fun _ _ z => Or.inl z)).trans u2) ?_ ?_ ?_ ?_ ?_ ?_⟩
    · have y1 := g2.2 r k (fun q => z (Or.inr q))
      have y2 := a3 r k (fun q => z (Or.inl q))
      exact ⟨y1.1.trans y2.1, y1.2.trans y2.2⟩
    · rw [g2.i 0 1 (by unfold anN dsN; omega)]; exact a6
    · rw [u8]; exact b4
    · rw [u3, s330, (off 330 (by omega)).1]
    · rw [u4, (off 291 (by omega)).1, h57]
    · rw [u5, (off 291 (by omega)).1, h60]
    · rw [g2.i 0 14 (by unfold anN dsN; omega), a7, p3, u6]
    · rw [g2.i 0 15 (by unfold anN dsN; omega), a8, p4, u7]
