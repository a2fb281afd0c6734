/-! ASK -/
theorem Sim.tk2 {μ μ2 : sh_Mem} (h : Sim μ) (hG : sh_G μ2) (hf : ∀ r k, ¬ tkN r k → sh_i μ2 r k = sh_i μ r k) (l0 : sh_l μ2 0 16 = sh_l μ 0 16) (l1 : sh_l μ2 291 78 = sh_l μ 291 78) (l2 : sh_l μ2 323 = sh_l μ 323) (hR : ∀ t, sm_refs μ t → sm_refs μ2 t) (e1 : sh_i μ2 0 1 = nI 0) (e2 : sh_i μ2 291 1 = nI 0) (e3 : sm_ref μ2) (e4 : sm_fault μ2) : Sim μ2 := by
  obtain ⟨a1, a2, a3, a4, a5, a6, t, P, L, a7⟩ := h
  have z10 : ∀ r, r = 1 ∨ r = 289 ∨ r = 292 ∨ r = 367 → sh_i μ2 r = sh_i μ r := fun r q => funext fun k => hf r k (tkN_n (A10 (by omega)) (by omega) (by omega) (by omega) (by omega))
  refine ⟨hG, ?_, e4, e3, a5.cg l0 l1, a6.cg (hf 0 18 (tkN_n (A9 (by omega)) (by omega) (by omega) (by omega) (by omega))) (hf 291 113 (tkN_n (A11 (by omega)) (by omega) (by omega) (by omega) (by omega))) (z10 _ (by omega)) (z10 _ (by omega)), t, P, L, ?_⟩
  · obtain ⟨n, -, -, -, b⟩ := a2
    refine ⟨0, by omega, e1, e2, ?_⟩
    rw [z10 1 (by omega), z10 292 (by omega)]
    exact b
  · have h2 : ∀ r k, sm_S r k → sh_i μ2 r k = sh_i μ r k := fun r k q => hf r k (tkN_n (Or.inl q) (by unfold sm_S at q; omega) (by unfold sm_S at q; omega) (by unfold sm_S at q; omega) (by unfold sm_S at q; omega))
    have hrow : ∀ r, (∀ k, sm_S r k) → sh_i μ2 r = sh_i μ r := fun r q => funext fun k => h2 r k (q k)
    obtain ⟨a1, a2, a3, a4, a5, a6, a7, a8, a9, a10, a11, a12, a13, a14, a15⟩ := a7
    have ht : sh_isP t := a1.1
    have q330 := hrow 330 (fun k => by unfold sm_S; omega)
    refine ⟨hR t a1, a2, a3, a4.cg (fun j hj hj7 hj10 => hrow _ (fun k => ?_)), a5.cg (h2 _ _ (by unfold sm_S; omega)) (fun j hj hj2 => hrow _ (fun k => by unfold sm_S; omega)) l2, a6.cg (fun j hj => hrow _ (fun k => by unfold sm_S; omega)), by rw [q330]; exact a7, ?_, a9.cg (hrow _ (fun k => by unfold sm_S; omega)) (h2 _ _ (by unfold sm_S; omega)) (h2 _ _ (by unfold sm_S; omega)) (fun j hj hj2 => hrow _ (fun k => by unfold sm_S; omega)) (hrow _ (fun k => by unfold sm_S; omega)), a10.cg (h2 _ _ (by unfold sm_S; omega)) (h2 _ _ (by unfold sm_S; omega)) (hrow _ (fun k => by unfold sm_S; omega)) (hrow _ (fun k => by unfold sm_S; omega)), ?_, ?_, ?_, ?_, fun q hq j hj => (h2 _ _ ?_).trans (a15 q hq j hj)⟩
    · rcases ht with rfl | rfl <;> (unfold sm_S; omega)
    · rw [q330, hrow 64 (fun k => by unfold sm_S; omega), hrow 63 (fun k => by unfold sm_S; omega)]; exact a8
    · rw [h2 _ _ (by unfold sm_S; omega)]; exact a11
    · rw [h2 _ _ (by unfold sm_S; omega)]; exact a12
    · rw [h2 _ _ (by unfold sm_S; omega)]; exact a13
    · rw [h2 _ _ (by unfold sm_S; omega)]; exact a14
    · have := sw_rng q hq
      unfold sm_S; omega
section Aq8
variable {T : Nat → Nat} {n t : Nat} {μ : sh_Mem} {P : sp_T} {L : sl_T}
def nQa (r k : Nat) : Prop := nQc r k ∨ (r = 0 ∧ (k = 1 ∨ k = 14 ∨ k = 15)) ∨ (r = 2 ∧ 1 ≤ k)
/-- the class reads a question from the tape -/
theorem cl_askQ (hG : sh_G μ) (hn : n ≤ 1600) (h0 : sh_i μ 0 1 = zI n) (hT : xT μ 1 T n) (hr : sh_r μ 0 7 = some t) (ht : sh_isP t) (hp : ¬ sh_i μ t 0 ≤ 0) : ∃ (r : xo (Nat × List Nat)) (v : Int32) (m : sh_Mem), QRt T n (s00 T n) r ∧ f_X11_ask μ = (if (sh_i m 2 10) = 0 then sh_bind (f_X11_answer v m) (fun y20 μ18 => some (y20, μ18)) else some ((-1000000000000000), m)) ∧ (∀ x k, ¬ nQa x k → sh_i m x k = sh_i μ x k ∧ sh_l m x k = sh_l μ x k) ∧ (∀ x k, ¬ (x = 6 ∧ k = 1) → sh_r m x k = sh_r μ x k) ∧ (sh_r m 6 1 = sh_r μ 6 1 ∨ sh_r m 6 1 = some 3) ∧ sh_i m 0 1 = 0 ∧ sh_i m 0 14 = sh_i m 2 10 ∧ sh_i m 0 15 = sh_i m 2 11 ∧ (∀ e, r = .inl e → sh_i m 2 10 = zI e.1 ∧ sh_i m 2 11 = zI e.2 ∧ 1 ≤ e.1 ∧ e.1 < 10) ∧ (∀ q, r = .inr q → v = zI (q.1 : Nat) ∧ sm_form m 3 q.2 ∧ sh_i m 2 10 = 0 ∧ sh_i m 2 11 = -1 ∧ 27 ≤ q.1 ∧ q.1 ≤ 32 ∧ q.2.length ≤ 1600 ∧ sg_ok 2 (decide (q.1 < 30)) q.2 []) := by
  have hpb := isP_b ht
  have hP2 := ht
  unfold sh_isP at hP2
  obtain ⟨m0, hm0⟩ : ∃ m, m = sh_setI μ 0 1 0 := ⟨_, rfl⟩
  obtain ⟨m1, hm1⟩ : ∃ m, m = sh_setI (sh_setI (sh_setI (sh_setI (sh_setI (sh_setI m0 2 1 (zI n)) 2 2 0) 2 3 (-1)) 2 4 0) 2 10 0) 2 11 (-1) := ⟨_, rfl⟩
  have F1 : sh_fr (fun r k => (r = 0 ∧ k = 1) ∨ (r = 2 ∧ 1 ≤ k)) μ m1 := by
    rw [hm1]
    refine sh_fr_I (sh_fr_I (sh_fr_I (sh_fr_I (sh_fr_I (sh_fr_I ?_ (by omega)) (by omega)) (by omega)) (by omega)) (by omega)) (by omega)
    rw [hm0]
    exact sh_fr_I sh_fr.rf (by omega)
  have G1 : sh_G m1 := by rw [hm1, hm0]; exact hG
  have q1 : sh_i m1 2 1 = zI n := by rw [hm1, ir_set_k (by omega), ir_set_k (by omega), ir_set_k (by omega), ir_set_k (by omega), ir_set_k (by omega), ir_set]
  have q2 : sh_i m1 2 2 = zI ((0 : Nat) : Int) := by rw [hm1, ir_set_k (by omega), ir_set_k (by omega), ir_set_k (by omega), ir_set_k (by omega), ir_set]; rfl
  have q3 : sh_i m1 2 3 = zI (-1) := by rw [hm1, ir_set_k (by omega), ir_set_k (by omega), ir_set_k (by omega), ir_set]; rfl
  have q4 : sh_i m1 2 4 = zI ((0 : Nat) : Int) := by rw [hm1, ir_set_k (by omega), ir_set_k (by omega), ir_set]; rfl
  have q10 : sh_i m1 2 10 = 0 := by rw [hm1, ir_set_k (by omega), ir_set]
  have q11 : sh_i m1 2 11 = -1 := by rw [hm1, ir_set]
  have T1 : xT m1 1 T n := hT.cg (F1.row 1 (fun k => by omega))
  obtain ⟨m2, a1, a2, a3, -⟩ := cl_adv0 (T := T) (n := n) (K := -1) (e := 0) (a0 := 0) T1 q1 q2 (Nat.zero_le n) q3 (by omega) q4
  have S2 : cS m2 T n (s00 T n) := by
    refine ⟨T1.cg (a2.row _ (fun k => by omega)), a3, (xS_le (T := T) (Nat.zero_le n)).2, by rw [a2.i _ _ (by omega)]; exact q10⟩
  have G2 : sh_G m2 := gp_X8_advance G1 a1
  obtain ⟨r, v, m3, b1, b2, b3, b4, b5, b6, b7⟩ := cl_quest S2
  have I3 : cI m2 m3 := ci_X2_readQuestion G2 (show 3 ∈ sh_FORMS by decide) b2
  have I2 : sh_i m2 2 10 = 0 → sh_i m2 2 11 = -1 := fun _ => by rw [a2.i _ _ (by omega)]; exact q11
  obtain ⟨m4, hm4⟩ : ∃ m, m = sh_setI (sh_setI m3 0 14 (sh_i m3 2 10)) 0 15 (sh_i m3 2 11) := ⟨_, rfl⟩
  have F4 : sh_fr (fun r k => r = 0 ∧ (k = 14 ∨ k = 15)) m3 m4 := by rw [hm4]; exact sh_fr_I (sh_fr_I sh_fr.rf (by omega)) (by omega)
  have row4 : ∀ r, ¬ r = 0 → sh_i m4 r = sh_i m3 r := fun r hr => F4.row r (fun k => by omega)
  have e1 : f_X11_takeTape μ = some (zI n, m0) := by
    unfold f_X11_takeTape
    rw [h0, shl_ap, ← hm0, shl_ap]
  have r0 : sh_r m0 0 7 = some t := by rw [hm0]; exact hr
  have k0 : sh_ref m0 0 7 = t := by unfold sh_ref; rw [r0]; rfl
  have e2 : f_X11_isPlain m0 = some (1, m0) := by
    unfold f_X11_isPlain
    rw [k0, if_pos (show sh_r m0 0 7 = some t ∧ (t = 8 ∨ t = 29) from ⟨r0, ht⟩), shl_ap, if_neg (by rw [hm0, ir_set_r (by omega)]; exact hp)]
  have e3 : f_X8_begin (zI n) m0 = some m2 := by
    unfold f_X8_begin
    have emin : f_J9_min_7cf53 m0 (zI n) (Int32.ofNat 1600) = zI n := by
      unfold f_J9_min_7cf53
      rw [ofN_z, if_neg (show ¬ zI ((1600 : Nat) : Int) < zI (n : Int) from fun z => by have := (zI_lt (by omega) (by omega) (by omega) (by omega)).mp z; omega)]
    rw [emin, shl_ap, shl_ap, shl_ap, shl_ap, shl_ap, shl_ap, ← hm1, a1, shv_ap]
  have e5 : f_X11_noteFault m3 = some m4 := by
    unfold f_X11_noteFault
    rw [shl_ap, show sh_i (sh_setI m3 0 14 (sh_i m3 2 10)) 2 11 = sh_i m3 2 11 by rw [ir_set_r (by omega)], shl_ap, ← hm4]
  refine ⟨r, v, m4, b1, ?_, fun x k z => ?_, fun x k z => ?_, ?_, ?_, ?_, ?_, fun e he => ?_, fun q hq => ?_⟩
  · unfold f_X11_ask
    rw [e1, shb_ap, e2, shb_ap, if_neg (show ¬ (1 : Int32) = 0 by decide), e3, shv_ap, b2, shb_ap, e5, shv_ap]
  · unfold nQa at z
    have y4 := F4.2 x k (by omega)
    have y3 := b3 x k (fun q => z (Or.inl q))
    have y2 := a2.2 x k (by omega)
    have y1 := F1.2 x k (by omega)
    exact ⟨y4.1.trans (y3.1.trans (y2.1.trans y1.1)), y4.2.trans (y3.2.trans (y2.2.trans y1.2))⟩
  · rw [F4.1, b4 x k z, a2.1, F1.1]
  · rw [F4.1]
    rw [a2.1, F1.1] at b5
    exact b5
  · rw [F4.i 0 1 (by omega), (b3 0 1 (by unfold nQc nV; omega)).1, a2.i 0 1 (by omega), hm1, ir_set_r (by omega), ir_set_r (by omega), ir_set_r (by omega), ir_set_r (by omega), ir_set_r (by omega), ir_set_r (by omega), hm0, ir_set]
  · rw [row4 2 (by omega), hm4, ir_set_k (by omega), ir_set]
  · rw [row4 2 (by omega), hm4, ir_set]
  · rw [row4 2 (by omega)]
    exact b6 e he
  · obtain ⟨d1, d2, d3, d4, d5, d6, d7⟩ := b7 q hq
    rw [row4 2 (by omega)]
    exact ⟨d1, d2.cg (row4 3 (by omega)) (row4 (3 + 1) (by omega)), d3, I3 I2 d3, d4, d5, d6, d7⟩
theorem qV_b {l : List Nat} : qV P L l (decide (10 ∈ l)) = qV P L l true := by
  funext p
  by_cases c : 10 ∈ l
  · rw [decide_eq_true c]
  · unfold qV
    rw [ev_W l [] c]
/-- the class answers -/
theorem cl_answer {l : List Nat} {res : Bool} {w : Nat} (hw : 27 ≤ w ∧ w ≤ 32) (hr7 : sh_r μ 0 7 = some t) (hr0 : sh_r μ 55 0 = some t) (ht : sh_isP t) (hk : sp_ok P) (hl : sl_in P L) (hd : sl_d L ≤ 999) (hn : l.length ≤ 1600) (hok : sg_ok 2 res l []) (hP : sm_cP μ t P) (hL : sm_cL μ 49 P L) (hF : sm_form μ 3 l) : ∃ m', f_X11_answer (zI w) μ = some (zL (jnA w (qV P L l true) (sp_np P)), m') ∧ sh_fr (anN t) μ m' := by
  have hb := sp_bd hk
  have hnp : sp_np P ≤ 7 := hb.2.2.2.1
  obtain ⟨m', a1, a2⟩ := cl_ansL (b := decide (10 ∈ l)) hw hr7 hr0 ht hk hl hd hn hok hP hL hF (sp_np P) sh_fuel 0 μ (by omega) (by rw [sh_fuel_eq]; omega) sh_fr.rf (fun p' h' => absurd h' (Nat.not_lt_zero _))
  rw [qV_b] at a1
  refine ⟨m', ?_, a2⟩
  have nm : f_X1_names 3 10 μ = some (zI (bI (decide (10 ∈ l))), μ) := cl_namesQ hF hn (sg_okR l [] hok) l.length sh_fuel 0 (by omega) (by rw [sh_fuel_eq]; omega)
  have neg : (-1 : Int64) = zL (-1) := by
    rw [show (-1 : Int64) = -(1 : Int64) from rfl, show (1 : Int64) = zL 1 from rfl, zL_neg]
  unfold f_X11_answer
  rw [nm, shb_ap]
  have q27 : (zI (w : Int) = 27) ↔ w = 27 := by
    constructor
    · intro z
      have := (zI_eq (b := 27) (by omega) (by omega) (by omega) (by omega)).mp z
      omega
    · intro z
      rw [z]
      rfl
  have q28 : (zI (w : Int) = 28) ↔ w = 28 := by
    constructor
    · intro z
      have := (zI_eq (b := 28) (by omega) (by omega) (by omega) (by omega)).mp z
      omega
    · intro z
      rw [z]
      rfl
  have j0 : jnA w (qV P L l true) 0 = if w = 27 ∨ w = 28 then -1 else 0 := rfl
  rw [j0] at a1
  by_cases c1 : w = 27
  · rw [if_pos (q27.mpr c1), neg]
    rw [if_pos (Or.inl c1)] at a1
    exact a1
  · rw [if_neg (fun z => c1 (q27.mp z))]
    by_cases c2 : w = 28
    · rw [if_pos (q28.mpr c2), neg]
      rw [if_pos (Or.inr c2)] at a1
      exact a1
    · rw [if_neg (fun z => c2 (q28.mp z))]
      rw [if_neg (fun z => by omega)] at a1
      exact a1
end Aq8
