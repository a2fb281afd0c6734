/-! PLAIN: the class, and both -/
section Pn2
variable {T : Nat → Nat} {n t t2 : Nat} {μ μ' : sh_Mem} {P : sp_T} {L : sl_T}
def nKp (t r k : Nat) : Prop := nCt t r k ∨ (r = 0 ∧ (k = 1 ∨ k = 14 ∨ k = 15))
/-- the class reads a whole text -/
theorem cl_plainR (hG : sh_G μ) (hn : n ≤ 1600) (h0 : sh_i μ 0 1 = zI n) (hT : xT μ 1 T n) (hr : sh_r μ 7 2 = some t) (ht : sh_isP t) (h14 : sh_i μ (t + 14) 0 = 0) (hf : fO μ) : ∃ (r : xo (Nat × dT)) (v : Int32) (m : sh_Mem), TRt T n (s00 T n) r ∧ (∀ K : Int32 → sh_Mem → Option (Int32 × sh_Mem), sh_bind (f_X11_takeTape μ) (fun y3 μ1 => sh_bindv (f_X8_begin y3 μ1) (fun μ4 => sh_bind (f_X6_read μ4) (fun y9 μ7 => sh_bindv (f_X11_noteFault μ7) (fun μ10 => K y9 μ10)))) = K v m) ∧ (r.isRight = true → v = zI (vT r)) ∧ (∀ r k, ¬ nKp t r k → sh_i m r k = sh_i μ r k ∧ sh_l m r k = sh_l μ r k) ∧ (∀ r k, ¬ (r = 6 ∧ k = 1) → sh_r m r k = sh_r μ r k) ∧ fO m ∧ sh_i m 0 1 = 0 ∧ sh_i m 0 14 = sh_i m 2 10 ∧ sh_i m 0 15 = sh_i m 2 11 ∧ (∀ e, r = .inl e → sh_i m 2 10 = zI e.1 ∧ sh_i m 2 11 = zI e.2 ∧ 1 ≤ e.1 ∧ e.1 < 10) ∧ (∀ q, r = .inr q → sh_i m 2 10 = 0 ∧ sh_i m 2 11 = -1 ∧ cDr m t q.2.1 q.2.2 ∧ dOK q.2.1 q.2.2 ∧ q.1 ≤ 80) := by
  have hpb := isP_b ht
  obtain ⟨m0, hm0⟩ : ∃ m, m = sh_setI μ 0 1 0 := ⟨_, rfl⟩
  obtain ⟨m1, hm1⟩ : ∃ m, m = sh_setI (sh_setI (sh_setI (sh_setI (sh_setI (sh_setI m0 2 1 (zI n)) 2 2 0) 2 3 (-1)) 2 4 0) 2 10 0) 2 11 (-1) := ⟨_, rfl⟩
  have F1 : sh_fr (fun r k => (r = 0 ∧ k = 1) ∨ (r = 2 ∧ 1 ≤ k)) μ m1 := by
    rw [hm1]
    refine sh_fr_I (sh_fr_I (sh_fr_I (sh_fr_I (sh_fr_I (sh_fr_I ?_ (by omega)) (by omega)) (by omega)) (by omega)) (by omega)) (by omega)
    rw [hm0]
    exact sh_fr_I sh_fr.rf (by omega)
  have G1 : sh_G m1 := by rw [hm1, hm0]; exact hG
  have q1 : sh_i m1 2 1 = zI n := by rw [hm1, ir_set_k (by omega), ir_set_k (by omega), ir_set_k (by omega), ir_set_k (by omega), ir_set_k (by omega), ir_set]
  have q2 : sh_i m1 2 2 = zI ((0 : Nat) : Int) := by rw [hm1, ir_set_k (by omega), ir_set_k (by omega), ir_set_k (by omega), ir_set_k (by omega), ir_set]; rfl
  have q3 : sh_i m1 2 3 = zI (-1) := by rw [hm1, ir_set_k (by omega), ir_set_k (by omega), ir_set_k (by omega), ir_set]; rfl
  have q4 : sh_i m1 2 4 = zI ((0 : Nat) : Int) := by rw [hm1, ir_set_k (by omega), ir_set_k (by omega), ir_set]; rfl
  have q10 : sh_i m1 2 10 = 0 := by rw [hm1, ir_set_k (by omega), ir_set]
  have q11 : sh_i m1 2 11 = -1 := by rw [hm1, ir_set]
  have T1 : xT m1 1 T n := hT.cg (F1.row 1 (fun k => by omega))
  obtain ⟨m2, a1, a2, a3, -⟩ := cl_adv0 (T := T) (n := n) (K := -1) (e := 0) (a0 := 0) T1 q1 q2 (Nat.zero_le n) q3 (by omega) q4
  have S2 : cS m2 T n (s00 T n) := by
    refine ⟨T1.cg (a2.row _ (fun k => by omega)), a3, (xS_le (T := T) (Nat.zero_le n)).2, by rw [a2.i _ _ (by omega)]; exact q10⟩
  have G2 : sh_G m2 := gp_X8_advance G1 a1
  have r2 : sh_r m2 7 2 = some t := by rw [a2.1, F1.1]; exact hr
  have i14 : sh_i m2 (t + 14) 0 = 0 := by rw [a2.i _ _ (by omega), F1.i _ _ (by omega)]; exact h14
  obtain ⟨r, v, m3, b1, b2, b3, b4, b5⟩ := cl_read S2 r2 ht i14 (hf.cg (by rw [a2.1, F1.1]))
  have I3 : cI m2 m3 := ci_X6_read G2 b2
  have I2 : sh_i m2 2 10 = 0 → sh_i m2 2 11 = -1 := fun _ => by rw [a2.i _ _ (by omega)]; exact q11
  obtain ⟨m4, hm4⟩ : ∃ m, m = sh_setI (sh_setI m3 0 14 (sh_i m3 2 10)) 0 15 (sh_i m3 2 11) := ⟨_, rfl⟩
  have F4 : sh_fr (fun r k => r = 0 ∧ (k = 14 ∨ k = 15)) m3 m4 := by rw [hm4]; exact sh_fr_I (sh_fr_I sh_fr.rf (by omega)) (by omega)
  have row4 : ∀ r, ¬ r = 0 → sh_i m4 r = sh_i m3 r := fun r hr => F4.row r (fun k => by omega)
  have hbeg : f_X8_begin (zI n) m0 = some m2 := by
    unfold f_X8_begin
    have emin : f_J9_min_7cf53 m0 (zI n) (Int32.ofNat 1600) = zI n := by
      unfold f_J9_min_7cf53
      rw [ofN_z, if_neg (show ¬ zI ((1600 : Nat) : Int) < zI (n : Int) from fun z => by have := (zI_lt (by omega) (by omega) (by omega) (by omega)).mp z; omega)]
    rw [emin, shl_ap, shl_ap, shl_ap, shl_ap, shl_ap, shl_ap, ← hm1, a1, shv_ap]
  have fT : cFr t m2 m3 := b4
  refine ⟨r, v, m4, b1, ?_, b3, fun x k z => ?_, fun x k z => ?_, ?_, ?_, ?_, ?_, fun e he => ?_, fun q hq => ?_⟩
  · intro K
    unfold f_X11_takeTape f_X11_noteFault
    rw [h0, shl_ap, ← hm0, shl_ap, shb_ap, hbeg, shv_ap, b2, shb_ap, shl_ap]
    rw [show sh_i (sh_setI m3 0 14 (sh_i m3 2 10)) 2 11 = sh_i m3 2 11 by rw [ir_set_r (by omega)], shl_ap, ← hm4, shv_ap]
  · unfold nKp nCt at z
    have y4 := F4.2 x k (by omega)
    have y3 := fT.1 x k (by unfold nCt; omega)
    have y2 := a2.2 x k (by omega)
    have y1 := F1.2 x k (by omega)
    exact ⟨y4.1.trans (y3.1.trans (y2.1.trans y1.1)), y4.2.trans (y3.2.trans (y2.2.trans y1.2))⟩
  · rw [F4.1, fT.2 x k z, a2.1, F1.1]
  · cases r with
    | inl e => exact b5.2.2.1.cg (by rw [F4.1])
    | inr q => exact b5.2.2.2.2.1.cg (by rw [F4.1])
  · rw [F4.i 0 1 (by omega), (fT.1 0 1 (by unfold nCt; omega)).1, a2.i 0 1 (by omega), hm1, ir_set_r (by omega), ir_set_r (by omega), ir_set_r (by omega), ir_set_r (by omega), ir_set_r (by omega), ir_set_r (by omega), hm0, ir_set]
  · rw [row4 2 (by omega), hm4, ir_set_k (by omega), ir_set]
  · rw [row4 2 (by omega), hm4, ir_set]
  · rw [he] at b5
    rw [row4 2 (by omega)]
    exact ⟨b5.1, b5.2.1, b5.2.2.2.1, b5.2.2.2.2⟩
  · rw [hq] at b5
    obtain ⟨d1, d2, d3, d4, d5, d6⟩ := b5
    rw [row4 2 (by omega)]
    exact ⟨d4, I3 I2 d4, d1.cg (fun j hj => row4 _ (by omega)), d2, d3⟩
/-- the reference's plain that stands is left as it was -/
theorem sm_mP.hi (h : sm_mP μ P) (hk : sp_ok P) (h50 : sh_i μ' 291 50 = sh_i μ 291 50) (hi : ∀ r k, (r = 321 ∨ r = 322 ∨ r = 327 ∨ r = 328) → 3 ≤ k → sh_i μ' r k = sh_i μ r k) (h6 : ∀ k, 24 ≤ k → sh_i μ' 326 k = sh_i μ 326 k) (h9 : ∀ k, 1600 ≤ k → sh_i μ' 329 k = sh_i μ 329 k) (hl : ∀ k, 16 ≤ k → sh_l μ' 323 k = sh_l μ 323 k) : sm_mP μ' P := by
  obtain ⟨a1, a2, a3, a4, a5, a6, a7, a8, a9, a10, a11, a12, a13⟩ := h
  have mf : ∀ (k : Nat) (b : Bool) (l : List Nat), sm_mF μ k b l → sm_mF μ' k b l := fun k b l z => by
    unfold sm_mF at z ⊢
    by_cases c : b = false
    · rw [if_pos c] at z ⊢
      rw [hi _ _ (by omega) (by omega)]
      exact z
    · rw [if_neg c] at z ⊢
      obtain ⟨a, b', z1, z2, z3, z4, z5, z6⟩ := z
      exact ⟨a, b', z1, z2, z3, by rw [hi _ _ (by omega) (by omega)]; exact z4, by rw [hi _ _ (by omega) (by omega)]; exact z5, fun j hj => by rw [h9 _ (by omega)]; exact z6 j hj⟩
  refine ⟨by rw [hi _ _ (by omega) (by omega)]; exact a1, by rw [hi _ _ (by omega) (by omega)]; exact a2, by rw [hi _ _ (by omega) (by omega)]; exact a3, by rw [hi _ _ (by omega) (by omega)]; exact a4, by rw [hi _ _ (by omega) (by omega)]; exact a5, by rw [hi _ _ (by omega) (by omega)]; exact a6, by rw [h50]; exact a7, fun j hj => by rw [hl _ (by omega)]; exact a8 j hj, fun j hj => by rw [hl _ (by omega)]; exact a9 j hj, fun j hj => by rw [h6 _ (by omega), h6 _ (by omega)]; exact a10 j hj, mf _ _ _ a11, mf _ _ _ a12, mf _ _ _ a13⟩
theorem sw_A : ∀ w, w < 27 → ∃ q ∈ sw_T, q.1 = 294 + w ∧ q.2 = (WD.getD w []).map (fun x => x + 96) := by decide +kernel
theorem sw_B : ∀ j, j < 17 → ∃ q ∈ sw_T, q.1 = 347 + j ∧ q.2 = (WD.getD (qw j) []).map (fun x => x + 96) := by decide +kernel
theorem sw_h {r w : Nat} (h : sm_W μ) (hq : ∃ q ∈ sw_T, q.1 = r ∧ q.2 = (WD.getD w []).map (fun x => x + 96)) : hW μ r w := by
  obtain ⟨q, q1, q2, q3⟩ := hq
  intro j hj
  have := h q q1 j (by rw [q3, List.length_map]; exact hj)
  rw [q2, q3, nI_z] at this
  rw [this]
  congr 1
  generalize WD.getD w [] = l at hj
  rw [List.getD_eq_getElem?_getD, List.getElem?_map, List.getElem?_eq_getElem hj, List.getD_eq_getElem?_getD, List.getElem?_eq_getElem hj]
  rfl
theorem sw_hA (h : sm_W μ) : hA μ := fun w hw => sw_h h (sw_A w hw)
theorem sw_hB (h : sm_W μ) : hB μ := fun j hj => sw_h h (sw_B j hj)
end Pn2
