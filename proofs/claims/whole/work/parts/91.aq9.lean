/-! ASK: the reference's answer, and both -/
section Aq9
variable {T : Nat → Nat} {n t : Nat} {μ : sh_Mem} {P : sp_T} {L : sl_T}
def nAr (r k : Nat) : Prop := nQr r k ∨ (r = 291 ∧ (k = 7 ∨ k = 8 ∨ k = 51 ∨ k = 54 ∨ k = 110 ∨ k = 111)) ∨ rN6 r k ∨ r = 332 ∨ rN r k
theorem nAr_r {r k : Nat} (h : nAr r k) : (r = 291 ∧ ¬ (k = 50 ∨ k = 71 ∨ k = 76 ∨ k = 77 ∨ k = 78 ∨ k = 113)) ∨ r = 330 ∨ r = 331 ∨ r = 332 ∨ r = 364 ∨ r = 365 ∨ r = 366 := by
  rcases h with ((h | h) | h) | h | h | h | h
  · unfold nM at h; omega
  · unfold nWq at h; omega
  · omega
  · omega
  · unfold rN6 rN5 at h; omega
  · omega
  · unfold rN at h; omega
/-- the reference answers -/
theorem rf_askA {l : List Nat} {res : Bool} {w f : Nat} {m : sh_Mem} {K : kS} (hf : 20 ≤ f) (hw : 27 ≤ w ∧ w ≤ 32) (hres : res = decide (w < 30)) (hk : sp_ok P) (hl : sl_in P L) (hd : sl_d L ≤ 999) (hn : l.length ≤ 1600) (hok : sg_ok 2 res l []) (hM : sm_mP m P) (hm : sm_mL (sh_i m 330) 0 P L) (hK : mkp m K) (h60 : sh_i m 291 60 = 0) (h5 : sh_i m 291 5 = 0) (h6 : sh_i m 291 6 = -1) (h103 : sh_i m 291 103 = zI (l.length : Nat)) (h364 : ∀ j, j < l.length → sh_i m 364 j = zI (sg_m (l.getD j 0))) : ∃ m', F_X12_ask f 3 (zI ((w : Int) - 27)) 0 m = some (zL (jnA w (qV P L l true) (sp_np P)), m') ∧ sh_fr nAr m m' ∧ sh_i m' 330 = sh_i m 330 ∧ sh_i m' 291 57 = 0 ∧ sh_i m' 291 60 = 0 ∧ sh_i m' 291 7 = 0 ∧ sh_i m' 291 8 = -1 ∧ sh_i m' 291 1 = sh_i m 291 1 := by
  have hb := sp_bd hk
  have hnp : sp_np P ≤ 7 := hb.2.2.2.1
  obtain ⟨f, rfl⟩ : ∃ f', f = f' + 1 := ⟨f - 1, by omega⟩
  obtain ⟨ma, hma⟩ : ∃ m', m' = sh_setI (sh_setI m 291 7 0) 291 8 (-1) := ⟨_, rfl⟩
  obtain ⟨mb, hmb⟩ : ∃ m', m' = sh_setI (sh_setL ma 291 110 (zL (jnA w (qV P L l true) 0))) 291 111 1 := ⟨_, rfl⟩
  have fa : sh_fr (fun r k => r = 291 ∧ (k = 7 ∨ k = 8)) m ma := by rw [hma]; exact sh_fr_I (sh_fr_I sh_fr.rf (by omega)) (by omega)
  have fb : sh_fr (fun r k => r = 291 ∧ (k = 7 ∨ k = 8 ∨ k = 110 ∨ k = 111)) m mb := by rw [hmb]; exact sh_fr_I (sh_fr_L (fa.mono (fun r k z => by omega)) (by omega)) (by omega)
  have Mb : sm_mP mb P := hM.f3 (fun r k z => fb.i r k (by omega)) (fb.lrow 323 (fun k => by omega))
  have r330 : sh_i mb 330 = sh_i m 330 := fb.row 330 (fun k => by omega)
  obtain ⟨mc, c1, c2, c3, c4, c5, c6⟩ := rf_lays hk hl hd Mb (by rw [r330]; exact hm) (K := K) ⟨hK.1, by rw [r330]; exact hK.2.1, fun j hj => by rw [r330]; exact hK.2.2 j hj⟩ (by rw [fb.i _ _ (by omega)]; exact h60)
  obtain ⟨md, hmd⟩ : ∃ m', m' = sh_setI mc 291 51 2 := ⟨_, rfl⟩
  have fd : sh_fr (fun r k => r = 291 ∧ k = 51) mc md := by rw [hmd]; exact sh_fr_I sh_fr.rf (by omega)
  have fbd : sh_fr (fun r k => (rN6 r k ∨ r = 332) ∨ (r = 291 ∧ k = 51)) mb md := (c5.mono (fun r k z => Or.inl z)).trans (fd.mono (fun r k z => Or.inr z))
  have d330 : sh_i md 330 = sh_i m 330 := by rw [fd.row 330 (fun k => by omega), c2, r330]
  have Md : sm_mP md P := Mb.f3 (fun r k z => fbd.i r k (by unfold rN6 rN5; omega)) (fbd.lrow 323 (fun k => by unfold rN6 rN5; omega))
  obtain ⟨m', a1, a2⟩ := rf_askL (μ1 := md) hw hres hk hl hd hn hok Md (by rw [d330]; exact hm) (fun p q h1 h2 => by rw [fd.i _ _ (by omega)]; exact c6 p q h1 h2) (by rw [fbd.i _ _ (by unfold rN6 rN5; omega), fb.i _ _ (by omega)]; exact h103) (fun j hj => by rw [fbd.i _ _ (by unfold rN6 rN5; omega), fb.i _ _ (by omega)]; exact h364 j hj) (sp_np P) f 0 md (by omega) (by omega) sh_fr.rf (by rw [(fbd.2 291 110 (by unfold rN6 rN5; omega)).2, hmb]; exact lr_set) (by rw [fbd.i _ _ (by unfold rN6 rN5; omega), hmb, ir_set, if_pos rfl]) (fun p' h' => absurd h' (Nat.not_lt_zero _))
  have n2 : ∀ k, ¬ (k = 54 ∨ k = 109 ∨ k = 110 ∨ k = 111) → sh_i m' 291 k = sh_i md 291 k := fun k hk => a2.i 291 k (by unfold rN; omega)
  refine ⟨m', ?_, ?_, ?_, ?_, ?_, ?_, ?_, ?_⟩
  · have j0 : jnA w (qV P L l true) 0 = if w = 27 ∨ w = 28 then -1 else 0 := rfl
    have neg : (-1 : Int64) = zL (-1) := by
      rw [show (-1 : Int64) = -(1 : Int64) from rfl, show (1 : Int64) = zL 1 from rfl, zL_neg]
    have i5 : sh_i ma 291 5 = 0 := by rw [fa.i _ _ (by omega)]; exact h5
    rw [F_X12_ask, h5, shl_ap, show sh_i (sh_setI m 291 7 0) 291 6 = -1 by rw [ir_set_k (by omega), h6], ← hma, shl_ap, if_pos i5]
    by_cases c : w = 27 ∨ w = 28
    · rw [j0, if_pos c] at hmb
      rw [if_neg (show ¬ (2 : Int32) ≤ zI ((w : Int) - 27) from zI_not (b := 2) (by omega) (by omega)), neg, shl_ap, ← hmb, shl_ap, c1, shv_ap, ← hmd, shl_ap]
      exact a1
    · rw [j0, if_neg c] at hmb
      rw [if_pos (show (2 : Int32) ≤ zI ((w : Int) - 27) from zI_yes (a := 2) (by omega) (by omega)), show (0 : Int64) = zL 0 from rfl, shl_ap, ← hmb, shl_ap, c1, shv_ap, ← hmd, shl_ap]
      exact a1
  · refine ((fb.mono (fun r k z => ?_)).trans (fbd.mono (fun r k z => ?_))).trans (a2.mono (fun r k z => ?_))
    · exact Or.inr (Or.inl (by omega))
    · rcases z with (z | z) | z
      · exact Or.inr (Or.inr (Or.inl z))
      · exact Or.inr (Or.inr (Or.inr (Or.inl z)))
      · exact Or.inr (Or.inl (by omega))
    · rcases z with z | z
      · exact Or.inr (Or.inr (Or.inr (Or.inr z)))
      · exact Or.inr (Or.inl (by omega))
  · rw [a2.row 330 (fun k => by unfold rN; omega), d330]
  · rw [n2 57 (by omega), fd.i _ _ (by omega)]; exact c3
  · rw [n2 60 (by omega), fd.i _ _ (by omega)]; exact c4
  · rw [n2 7 (by omega), fbd.i _ _ (by unfold rN6 rN5; omega), hmb, ir_set_k (by omega)]
    show sh_i ma 291 7 = 0
    rw [hma, ir_set_k (by omega), ir_set]
  · rw [n2 8 (by omega), fbd.i _ _ (by unfold rN6 rN5; omega), hmb, ir_set_k (by omega)]
    show sh_i ma 291 8 = -1
    rw [hma, ir_set]
  · rw [n2 1 (by omega), fbd.i _ _ (by unfold rN6 rN5; omega), fb.i _ _ (by omega)]
theorem nCl {r k : Nat} (ht : sh_isP t) (h : nQa r k ∨ anN t r k) : tkN r k := by
  have key : ∀ r k, (r = 2 ∨ r = 3 ∨ r = 4 ∨ r = 5 ∨ r = 6 ∨ r = 28 ∨ (55 ≤ r ∧ r ≤ 62) ∨ r = 15 ∨ r = 18 ∨ r = 21 ∨ r = 36 ∨ r = 39 ∨ r = 42) → tkN r k := fun r k h => by
    refine Or.inr (Or.inr (Or.inr (Or.inr (fun q => ?_))))
    unfold sm_A sm_S at q
    omega
  rcases h with (h | h | h) | h | h
  · unfold nQc nV at h
    exact key r k (by omega)
  · exact Or.inl h
  · exact key r k (by omega)
  · unfold dsN at h
    rcases ht with rfl | rfl
    · exact key r k (by omega)
    · exact key r k (by omega)
  · exact key r k (by omega)
theorem nRf {r k : Nat} (h : nAr r k) : tkN r k ∨ r = 330 ∨ (r = 291 ∧ (k = 57 ∨ k = 60)) := by
  have q := nAr_r h
  by_cases c1 : r = 330
  · exact Or.inr (Or.inl c1)
  by_cases c2 : r = 291 ∧ (k = 57 ∨ k = 60)
  · exact Or.inr (Or.inr c2)
  refine Or.inl ?_
  by_cases c3 : r = 291 ∧ (k = 1 ∨ k = 7 ∨ k = 8)
  · exact Or.inr (Or.inl c3)
  refine Or.inr (Or.inr (Or.inr (Or.inr (fun z => ?_))))
  unfold sm_A sm_S at z
  omega
/-- both, after a question -/
theorem askSim {m m2 : sh_Mem} (h : Sim μ) (ht : sh_isP t) (G2 : sh_G m2) (c1 : ∀ r k, ¬ (nQa r k ∨ anN t r k) → sh_i m r k = sh_i μ r k ∧ sh_l m r k = sh_l μ r k) (c2 : ∀ r k, ¬ (r = 6 ∧ k = 1) → sh_r m r k = sh_r μ r k) (c3 : sh_r m 6 1 = sh_r μ 6 1 ∨ sh_r m 6 1 = some 3) (c4 : sh_i m 0 1 = 0) (r1 : sh_fr nAr m m2) (r2 : sh_i m2 291 1 = 0) (r3 : sh_i m2 330 = sh_i m 330) (r4 : sh_i m2 291 57 = sh_i m 291 57) (r5 : sh_i m2 291 60 = sh_i m 291 60) (e1 : sh_i m 0 14 = sh_i m2 291 7) (e2 : sh_i m 0 15 = sh_i m2 291 8) : Sim m2 := by
  have lo : ∀ r k, r < 291 → ¬ nAr r k := fun r k z q => by have := nAr_r q; omega
  have nc : ∀ r k, 63 ≤ r → ¬ (nQa r k ∨ anN t r k) := fun r k z q => by
    have hpb := isP_b ht
    rcases q with (q | q | q) | q | q
    · unfold nQc nV at q; omega
    · omega
    · omega
    · unfold dsN at q; omega
    · omega
  have n0 : ∀ k, k = 16 ∨ k = 18 → ¬ (nQa 0 k ∨ anN t 0 k) := fun k z q => by
    rcases q with (q | q | q) | q | q
    · unfold nQc nV at q; omega
    · omega
    · omega
    · unfold dsN at q; omega
    · omega
  refine Sim.tk2 h G2 (fun r k z => ?_) ?_ ?_ ?_ (fun t' ht' => ?_) ?_ ?_ ?_ ⟨?_, ?_⟩
  · have y1 : sh_i m r k = sh_i μ r k := (c1 r k (fun q => z (nCl ht q))).1
    rw [← y1]
    by_cases c : nAr r k
    · rcases nRf c with q | q | ⟨q1, q2⟩
      · exact absurd q z
      · rw [q, r3]
      · rw [q1]
        rcases q2 with q2 | q2 <;> rw [q2]
        · exact r4
        · exact r5
    · exact r1.i r k c
  · rw [(r1.2 0 16 (lo 0 16 (by omega))).2, (c1 0 16 (n0 16 (by omega))).2]
  · rw [(r1.2 291 78 (fun q => by have := nAr_r q; omega)).2, (c1 291 78 (nc 291 78 (by omega))).2]
  · funext k
    rw [(r1.2 323 k (fun q => by have := nAr_r q; omega)).2, (c1 323 k (nc 323 k (by omega))).2]
  · obtain ⟨b1, b2, b3, ⟨t2, b4, b5, b6⟩, ⟨fo, b7, b8⟩⟩ := ht'
    refine ⟨b1, by rw [r1.1, c2 0 7 (by omega)]; exact b2, by rw [r1.1, c2 55 0 (by omega)]; exact b3, ⟨t2, b4, b5, by rw [r1.1, c2 7 2 (by omega)]; exact b6⟩, ?_⟩
    rcases c3 with c3 | c3
    · exact ⟨fo, b7, by rw [r1.1, c3]; exact b8⟩
    · exact ⟨3, (show 3 ∈ sh_FORMS by decide), by rw [r1.1, c3]⟩
  · rw [r1.i 0 1 (lo 0 1 (by omega)), c4]; rfl
  · rw [r2]; rfl
  · intro k hk
    have q := h.2.2.2.1 k hk
    rw [r1.i 290 k (lo 290 k (by omega)), r1.i 293 k (fun q => by have := nAr_r q; omega), (c1 290 k (nc 290 k (by omega))).1, (c1 293 k (nc 293 k (by omega))).1]
    exact q
  · rw [r1.i 0 14 (lo 0 14 (by omega))]; exact e1
  · rw [r1.i 0 15 (lo 0 15 (by omega))]; exact e2
end Aq9
