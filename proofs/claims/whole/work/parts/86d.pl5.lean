/-! plan, as a call -/
section Pq
theorem pN_len {P : sp_T} {up ht st S0 : Nat} {L : sl_T} : ∀ (g k : Nat) (x : Nat × List Nat), fs (pN P (pgl up ht st S0) L) g k = some x → x.2.length = x.1 ∧ x.1 < k + g := by
  intro g
  induction g with
  | zero => intro k x h; cases h
  | succ g ih =>
    intro k x h
    cases e : pN P (pgl up ht st S0) L k with
    | some y =>
      rw [fs_s e] at h
      cases h
      unfold pN at e
      cases e2 : prr P (pgl up ht st S0) k L with
      | none => rw [e2] at e; cases e
      | some r =>
        rw [e2] at e
        cases e
        exact ⟨(prr_up k _ r e2).2.2, by show k < k + (g + 1); omega⟩
    | none =>
      rw [fs_n e] at h
      have := ih (k + 1) x h
      exact ⟨this.1, by omega⟩
theorem n1_ne {k : Nat} (h : k < 1000) : ¬ zI (k : Int) = -1 := fun z => by
  have := (zI_eq (a := (k : Int)) (b := -1) (by omega) (by omega) (by omega) (by omega)).mp (show zI (k : Int) = zI (-1) from z)
  omega
theorem cl_pcall {μ : sh_Mem} {t : Nat} {P : sp_T} {a x b j A B : Int} (hr : sh_r μ 0 7 = some t) (ht : sh_isP t) (hP : sm_cP μ t P) (hk : sp_ok P) (h1 : -2147483648 ≤ a) (h2 : a < 2147483648) (h3 : -2147483648 ≤ b) (h4 : b < 2147483648) (eA : (if 0 ≤ a then kx P (a % 8) (a / 8) else -1) = A) (eB : (if 0 ≤ b then kx P (b % 8) (b / 8) else -1) = B) : f_X11_plan (zI a) (zI x) (zI b) (zI j) μ = (if zI A = -1 then some (-1, μ) else (if zI B = -1 then some (-1, μ) else (if zI x < 0 then some (-1, μ) else (if 99 < zI x then some (-1, μ) else (if (-1) ≤ zI j then sh_bind (f_X7_find 49 (zI A) (zI x) (zI B) μ) (fun y18 μ16 => (if zI j = (-1) then some (y18, μ16) else (if y18 ≤ zI j then some ((-1), μ16) else (if sh_in (zI j) 3 then some ((sh_i μ16 262 (zI j).toNatClampNeg), μ16) else none)))) else some (-1, μ)))))) := by
  have e1 := cl_cellOf (μ := μ) (t := t) hP hk h1 h2
  have e2 := cl_cellOf (μ := μ) (t := t) hP hk h3 h4
  rw [eA] at e1
  rw [eB] at e2
  unfold f_X11_plan
  rw [shr_ap hr, if_pos ⟨hr, ht⟩, shl_ap, e1, shb_ap, shr_ap hr, if_pos ⟨hr, ht⟩, shl_ap, e2, shb_ap]
def pM (m : sh_Mem) (A B : Int) : sh_Mem := sh_setI (sh_setI m 291 65 (zI A)) 291 67 (zI B)
theorem pM_fr {m : sh_Mem} {A B : Int} : sh_fr (fun r k => r = 291 ∧ 65 ≤ k ∧ k ≤ 68) m (pM m A B) := (sh_fr_I sh_fr.rf (by omega)).trans (sh_fr_I sh_fr.rf (by omega))
theorem pM_65 {m : sh_Mem} {A B : Int} : sh_i (pM m A B) 291 65 = zI A := by
  unfold pM
  rw [ir_set_k (by omega), ir_set]
theorem pM_67 {m : sh_Mem} {A B : Int} : sh_i (pM m A B) 291 67 = zI B := by
  unfold pM
  rw [ir_set]
theorem rf_pcall {m : sh_Mem} {P : sp_T} {a x b j A B : Int} (hM : sm_mP m P) (hk : sp_ok P) (h1 : -2147483648 ≤ a) (h2 : a < 2147483648) (h3 : -2147483648 ≤ b) (h4 : b < 2147483648) (eA : (if 0 ≤ a then km P (a % 8) (a / 8) else -1) = A) (eB : (if 0 ≤ b then km P (b % 8) (b / 8) else -1) = B) : f_X12_plan (zI a) (zI x) (zI b) (zI j) m = (if zI A = -1 then some (-1, pM m A B) else (if zI B = -1 then some (-1, pM m A B) else (if (f_X12_isIn (pM m A B) (zI x).toInt64 0 99) = 0 then some ((-1), pM m A B) else (if (-1) ≤ zI j then sh_let (sh_setI (pM m A B) 291 66 (zI x)) (fun μ13 => sh_bind (f_X12_heightOf (sh_i μ13 291 67) μ13) (fun y16 μ14 => sh_let (sh_setI μ14 291 68 y16) (fun μ17 => sh_bindv (f_X12_putsAside μ17) (fun μ18 => sh_bind (f_X12_planMany μ18) (fun y23 μ21 => sh_bindv (f_X12_takesBack μ21) (fun μ24 => (if zI j = (-1) then some (y23, μ24) else (if y23 = (-1) then some (y23, μ24) else (if y23 ≤ zI j then some ((-1), μ24) else (if sh_in (zI j) 3 then sh_bind (f_X12_topicMany μ24) (fun y33 μ31 => (if ¬ y33 = 0 then (if sh_in (zI j) 3 then sh_bind (f_X12_topicMany μ31) (fun y38 μ36 => (if ¬ y38 = 0 then some (((8 * ((sh_i μ24 333 (zI j).toNatClampNeg) / y33)) + ((sh_i μ31 333 (zI j).toNatClampNeg) - (sh_i μ31 333 (zI j).toNatClampNeg) / y38 * y38)), μ36) else none)) else none) else none)) else none)))))))))) else some ((-1), pM m A B))))) := by
  have e1 := rf_cellN (μ := m) hM hk h1 h2
  have f1 : sh_fr (fun r k => r = 291 ∧ 65 ≤ k ∧ k ≤ 68) m (sh_setI m 291 65 (zI A)) := sh_fr_I sh_fr.rf (by omega)
  have e2 := rf_cellN (μ := sh_setI m 291 65 (zI A)) (hM.f3 (fun r k z => f1.i r k (by omega)) (f1.lrow 323 (fun k => by omega))) hk h3 h4
  rw [eA] at e1
  rw [eB] at e2
  have hp : sh_setI (sh_setI m 291 65 (zI A)) 291 67 (zI B) = pM m A B := rfl
  unfold f_X12_plan
  rw [e1, shb_ap, shl_ap, e2, shb_ap, hp, shl_ap, pM_65, pM_67]
theorem pr_14 : ∀ (μ : sh_Mem) (b1 b2 b3 b4 : Int32), Sim μ → ∃ (v : Int32) (μ1 μ2 : sh_Mem), f_X11_plan b1 b2 b3 b4 μ = some (v, μ1) ∧ f_X12_plan b1 b2 b3 b4 μ1 = some (v, μ2) ∧ Sim μ2 := by
  intro μ b1 b2 b3 b4 h
  obtain ⟨-, -, -, -, -, -, t, P, L, hR⟩ := id h
  obtain ⟨hr, hk, hl, hP, hM, hc, hm, hkp, hu, hsn, z1, z2, -⟩ := id hR
  obtain ⟨a, h1, h2, rfl⟩ := zI_of b1
  obtain ⟨x, x1, x2, rfl⟩ := zI_of b2
  obtain ⟨b, h3, h4, rfl⟩ := zI_of b3
  obtain ⟨j, j1, j2, rfl⟩ := zI_of b4
  have hd := hl.1
  have hb := sp_bd hk
  have hcs := sp_cells hk
  have hw0 : cw μ t P := ⟨hr.2.2.1, hr.1, hP, hk⟩
  have simq : ∀ (μ1 μ2 : sh_Mem), sh_fr (nZ t) μ μ1 → sh_G μ2 → sh_i μ2 330 = sh_i μ1 330 → sh_i μ2 291 57 = 0 → sh_i μ2 291 60 = 0 → sh_fr (fun r k => rN6 r k ∨ nY r k ∨ (r = 291 ∧ 65 ≤ k ∧ k ≤ 68)) μ1 μ2 → Sim μ2 := by
    intro μ1 μ2 x1 x2 x3 x4 x5 x6
    refine h.q x2 (x1.mono (fun r k z => nZ_qA hr.1 z)) (x6.mono (fun r k z => ?_)) x3 x4 x5
    rcases z with z | z | z
    · exact rN6_qB z
    · unfold nY at z
      exact Or.inr (Or.inr ⟨by omega, by unfold sm_A sm_S; omega⟩)
    · exact Or.inr (Or.inr ⟨by omega, by unfold sm_A sm_S; omega⟩)
  have no : ∀ (mm : sh_Mem), f_X11_plan (zI a) (zI x) (zI b) (zI j) μ = some (-1, μ) → f_X12_plan (zI a) (zI x) (zI b) (zI j) μ = some (-1, mm) → sh_fr (fun r k => r = 291 ∧ 65 ≤ k ∧ k ≤ 68) μ mm → ∃ (v : Int32) (μ1 μ2 : sh_Mem), f_X11_plan (zI a) (zI x) (zI b) (zI j) μ = some (v, μ1) ∧ f_X12_plan (zI a) (zI x) (zI b) (zI j) μ1 = some (v, μ2) ∧ Sim μ2 := by
    intro mm c1 c2 hf
    exact ⟨-1, μ, mm, c1, c2, simq μ mm sh_fr.rf (gp_X12_plan (gp_X11_plan h.1 c1) c2) (hf.row _ (fun k => by omega)) ((hf.i _ _ (by omega)).trans z1) ((hf.i _ _ (by omega)).trans z2) (hf.mono (fun r k z => Or.inr (Or.inr z)))⟩
  rcases cell_both hk a with ⟨A1, A2⟩ | ⟨up, hup, A1, A2⟩
  · refine no (pM μ (-1) (if 0 ≤ b then km P (b % 8) (b / 8) else -1)) ?_ ?_ pM_fr
    · rw [cl_pcall hr.2.1 hr.1 hP hk h1 h2 h3 h4 A1 rfl, if_pos (by decide)]
    · rw [rf_pcall hM hk h1 h2 h3 h4 A2 rfl, if_pos (by decide)]
  have hup49 : up < 1000 := by omega
  have hro : ∀ k, k < sp_c P * sp_r P → ro P k < 1000 := fun k hk2 => Nat.lt_trans (ro_lt hk hk2) (by omega)
  rcases cell_both hk b with ⟨B1, B2⟩ | ⟨st, hst, B1, B2⟩
  · refine no _ ?_ ?_ (pM_fr (A := ro P up) (B := -1))
    · rw [cl_pcall hr.2.1 hr.1 hP hk h1 h2 h3 h4 A1 B1, if_neg (n1_ne hup49), if_pos (by decide)]
    · rw [rf_pcall hM hk h1 h2 h3 h4 A2 B2, if_neg (n1_ne (hro up hup)), if_pos (by decide)]
  have hC := cl_pcall (x := x) (j := j) hr.2.1 hr.1 hP hk h1 h2 h3 h4 A1 B1
  rw [if_neg (n1_ne hup49), if_neg (n1_ne (show st < 1000 by omega))] at hC
  have hRf : ∀ m, sm_mP m P → _ := fun m hM => rf_pcall (x := x) (j := j) hM hk h1 h2 h3 h4 A2 B2
  by_cases cx : 0 ≤ x ∧ x ≤ 99
  · rw [if_neg (fun z => by have := (zI_lt (b := 0) (by omega) (by omega) (by omega) (by omega)).mp z; omega), if_neg (fun z => by have := (zI_lt (a := 99) (by omega) (by omega) (by omega) (by omega)).mp z; omega)] at hC
    have eI : ∀ m : sh_Mem, ¬ f_X12_isIn m (zI x).toInt64 0 99 = 0 := fun m => by
      rw [zI_l x1 x2, show f_X12_isIn m (zL x) 0 99 = 1 from zz_isIn_t (b := 0) (c := 99) (by omega)]
      decide
    by_cases cj : -1 ≤ j
    · have hj1 : (-1 : Int32) ≤ zI j := (zI_le (a := -1) (by omega) (by omega) (by omega) (by omega)).mpr cj
      rw [if_pos hj1] at hC
      obtain ⟨ht, rfl⟩ := Int.eq_ofNat_of_zero_le cx.1
      obtain ⟨μ1, p1, p2, p3⟩ := cl_plan (t := t) (ht := ht) hw0 hc hl.2 hd hup hst (by omega)
      have p1' : f_X7_find 49 (zI ((up : Nat) : Int)) (zI ((ht : Nat) : Int)) (zI ((st : Nat) : Int)) μ = _ := p1
      rw [p1', shb_ap] at hC
      have hS := hl.2.1 st hst
      obtain ⟨K, K1, K2⟩ := hkp.K
      -- the reference, behind the class's memory
      have ref : ∀ m : sh_Mem, sh_offM μ m → ∃ m4, f_X12_plan (zI a) (zI (ht : Int)) (zI b) (zI j) m = (if zI j = (-1) then some (zI (pv (fs (pN P (pgl up ht st (sl_h L st)) L) 4 0)), m4) else (if zI (pv (fs (pN P (pgl up ht st (sl_h L st)) L) 4 0)) = (-1) then some (zI (pv (fs (pN P (pgl up ht st (sl_h L st)) L) 4 0)), m4) else (if zI (pv (fs (pN P (pgl up ht st (sl_h L st)) L) 4 0)) ≤ zI j then some ((-1), m4) else (if sh_in (zI j) 3 then sh_bind (f_X12_topicMany m4) (fun y33 μ31 => (if ¬ y33 = 0 then (if sh_in (zI j) 3 then sh_bind (f_X12_topicMany μ31) (fun y38 μ36 => (if ¬ y38 = 0 then some (((8 * ((sh_i m4 333 (zI j).toNatClampNeg) / y33)) + ((sh_i μ31 333 (zI j).toNatClampNeg) - (sh_i μ31 333 (zI j).toNatClampNeg) / y38 * y38)), μ36) else none)) else none) else none)) else none)))) ∧ sm_mP m4 P ∧ sh_i m4 330 = sh_i m 330 ∧ sh_i m4 291 57 = 0 ∧ sh_i m4 291 60 = 0 ∧ sh_fr (fun r k => rN6 r k ∨ nY r k ∨ (r = 291 ∧ 65 ≤ k ∧ k ≤ 68)) m m4 ∧ ∀ x, fs (pN P (pgl up ht st (sl_h L st)) L) 4 0 = some x → pQ P m4 0 (some x.2) := by
        intro m hof
        have nh : ∀ r, 291 ≤ r → sh_i m r = sh_i μ r := fun r z => (hof r z).1
        have hMm := hM.off hof
        have hmm : sm_mL (sh_i m 330) 0 P L := by rw [nh _ (by omega)]; exact hm
        obtain ⟨ma, hma⟩ : ∃ y, y = sh_setI (pM m (ro P up) (ro P st)) 291 66 (zI ((ht : Nat) : Int)) := ⟨_, rfl⟩
        obtain ⟨mb, hmb⟩ : ∃ y, y = sh_setI ma 291 68 (zI (sl_h L st)) := ⟨_, rfl⟩
        have fa : sh_fr (fun r k => r = 291 ∧ 65 ≤ k ∧ k ≤ 68) m ma := by rw [hma]; exact pM_fr.trans (sh_fr_I sh_fr.rf (by omega))
        have fb : sh_fr (fun r k => r = 291 ∧ 65 ≤ k ∧ k ≤ 68) m mb := by rw [hmb]; exact fa.trans (sh_fr_I sh_fr.rf (by omega))
        have b330 : sh_i mb 330 = sh_i m 330 := fb.row _ (fun k => by omega)
        have a330 : sh_i ma 330 = sh_i m 330 := fa.row _ (fun k => by omega)
        have a67 : sh_i ma 291 67 = zI (ro P st : Int) := by rw [hma, ir_set_k (by omega), pM_67]
        have eh : f_X12_heightOf (zI (ro P st : Int)) ma = some (zI (sl_h L st), ma) := rf_heightOrd (by rw [a330]; exact hmm) hk hst
        have hv : rV P up ht st (sl_h L st) mb := by
          refine ⟨?_, ?_, ?_, ?_⟩
          · rw [hmb, ir_set_k (by omega), hma, ir_set_k (by omega), pM_65]
          · rw [hmb, ir_set_k (by omega), hma, ir_set]
          · rw [hmb, ir_set_k (by omega), a67]
          · rw [hmb, ir_set]
        have hMb : sm_mP mb P := hMm.f3 (fun r k z => fb.i r k (by omega)) (fb.lrow 323 (fun k => by omega))
        obtain ⟨mc, q1, q2, q3, q4, q5⟩ := rf_aside (μ := mb)
        have b60 : sh_i mb 291 60 = zI 0 := by
          rw [fb.i _ _ (by omega), nh _ (by omega)]
          exact z2
        obtain ⟨md, s1, s2, s3⟩ := rf_planMany (μ1 := mb) (m := mc) (K := K) hk hl.2 hd hMb (by rw [b330]; exact hmm) (K2.cg (by rw [b330]; exact nh _ (by omega))) hv hup hst (by omega) hS ⟨mb, q2, sh_fr.rf⟩ q3 (by rw [q4]; exact b60)
        obtain ⟨me, v1, v2, v3, v4, v5, v6⟩ := s2.back
        have fe : sh_fr (fun r k => rN6 r k ∨ nY r k ∨ (r = 291 ∧ 65 ≤ k ∧ k ≤ 68)) m me := (fb.mono (fun r k z => Or.inr (Or.inr z))).trans (v5.mono (fun r k z => by rcases z with z | z; exact Or.inl z; exact Or.inr (Or.inl z)))
        have hMe : sm_mP me P := hMm.f3 (fun r k z => fe.i r k (by unfold rN6 rN5 nY; omega)) (fe.lrow 323 (fun k => by unfold rN6 rN5 nY; omega))
        refine ⟨me, ?_, hMe, by rw [v2, b330], v3, v4, fe, fun x hx r hr2 i hi => ?_⟩
        · rw [hRf m hMm, if_neg (n1_ne (hro up hup)), if_neg (n1_ne (hro st hst)), if_neg (eI _), if_pos hj1, ← hma, shl_ap, a67, eh, shb_ap, ← hmb, shl_ap, q1, shv_ap, s1, shb_ap, v1, shv_ap]
        · rw [v6]
          exact s3 x hx r hr2 i hi
      -- both memories at the end
      by_cases cj1 : j = -1
      · have c1 : f_X11_plan (zI a) (zI (ht : Int)) (zI b) (zI j) μ = some (zI (pv (fs (pN P (pgl up ht st (sl_h L st)) L) 4 0)), μ1) := by
          rw [hC, cj1, if_pos (by decide)]
        obtain ⟨m4, r1, r0, r2, r3, r4, r5, -⟩ := ref μ1 (fp_X11_plan h.1 c1)
        have c2 := r1
        rw [if_pos (show zI j = -1 by rw [cj1]; decide)] at c2
        exact ⟨_, μ1, m4, c1, c2, simq μ1 m4 p2 (gp_X12_plan (gp_X11_plan h.1 c1) c2) r2 r3 r4 r5⟩
      · obtain ⟨i, rfl⟩ := Int.eq_ofNat_of_zero_le (show 0 ≤ j by omega)
        have nj : ¬ zI ((i : Nat) : Int) = -1 := fun z => by
          have := (zI_eq (a := (i : Int)) (b := -1) (by omega) (by omega) (by omega) (by omega)).mp (show zI (i : Int) = zI (-1) from z)
          omega
        have nj' : ¬ zI (Int.ofNat i) = -1 := nj
        cases e : fs (pN P (pgl up ht st (sl_h L st)) L) 4 0 with
        | none =>
          rw [e] at hC
          have c1 : f_X11_plan (zI a) (zI (ht : Int)) (zI b) (zI (i : Int)) μ = some (-1, μ1) := by
            rw [hC, if_neg nj, if_pos (show zI (pv none) ≤ zI (i : Int) from (zI_le (a := -1) (by omega) (by omega) (by omega) (by omega)).mpr (by omega))]
          obtain ⟨m4, r1, r0, r2, r3, r4, r5, -⟩ := ref μ1 (fp_X11_plan h.1 c1)
          rw [e] at r1
          have c2 : f_X12_plan (zI a) (zI (ht : Int)) (zI b) (zI (i : Int)) μ1 = some (-1, m4) := by
            rw [r1, if_neg nj, if_pos (show zI (pv none) = -1 by decide)]
            rfl
          exact ⟨_, μ1, m4, c1, c2, simq μ1 m4 p2 (gp_X12_plan (gp_X11_plan h.1 c1) c2) r2 r3 r4 r5⟩
        | some y =>
          obtain ⟨yl, y4⟩ := pN_len 4 0 y e
          rw [e] at hC
          have hpv : pv (some y) = (y.1 : Int) := rfl
          rw [hpv] at hC
          by_cases ci : y.1 ≤ i
          · have hle : zI (y.1 : Int) ≤ zI (i : Int) := (zI_le (by omega) (by omega) (by omega) (by omega)).mpr (by omega)
            have c1 : f_X11_plan (zI a) (zI (ht : Int)) (zI b) (zI (i : Int)) μ = some (-1, μ1) := by
              rw [hC, if_neg nj, if_pos hle]
            obtain ⟨m4, r1, r0, r2, r3, r4, r5, -⟩ := ref μ1 (fp_X11_plan h.1 c1)
            rw [e, hpv] at r1
            have c2 : f_X12_plan (zI a) (zI (ht : Int)) (zI b) (zI (i : Int)) μ1 = some (-1, m4) := by
              rw [r1, if_neg nj, if_neg (n1_ne (by omega)), if_pos hle]
            exact ⟨_, μ1, m4, c1, c2, simq μ1 m4 p2 (gp_X12_plan (gp_X11_plan h.1 c1) c2) r2 r3 r4 r5⟩
          · have hle : ¬ zI (y.1 : Int) ≤ zI (i : Int) := fun z => by
              have := (zI_le (by omega) (by omega) (by omega) (by omega)).mp z
              omega
            have i3 : sh_in (zI (i : Int)) 3 := (zI_in (by omega)).mpr (by omega)
            have hv1 := p3 y e i (by omega)
            have c1 : f_X11_plan (zI a) (zI (ht : Int)) (zI b) (zI (i : Int)) μ = some (zI ((y.2.getD i 0 : Nat) : Int), μ1) := by
              rw [hC, if_neg nj, if_neg hle, if_pos i3, tcN (by omega), hv1]
            obtain ⟨m4, r1, r0, r2, r3, r4, r5, r6⟩ := ref μ1 (fp_X11_plan h.1 c1)
            rw [e, hpv] at r1
            obtain ⟨aa, w1, w2, w3⟩ := r6 y e y.2 rfl i (by omega)
            have h35 := pa_35 hk
            rw [Nat.zero_add] at w2
            obtain ⟨nt0, -, -⟩ := pa_pq w1
            have n0 : ¬ zI (sp_nt P) = 0 := fun z => by
              have := (zI_eq (b := 0) (by omega) (by omega) (by omega) (by omega)).mp z
              omega
            have ed : zI (aa : Int) / zI (sp_nt P) = zI ((aa / sp_nt P : Nat) : Int) := by rw [zI_div (by omega)]; rfl
            have em : zI (aa : Int) - zI (aa : Int) / zI (sp_nt P) * zI (sp_nt P) = zI ((aa % sp_nt P : Nat) : Int) := by
              rw [zI_div (by omega), zI_mul, zI_sub, zI_mod (by omega)]
              rfl
            have c2 : f_X12_plan (zI a) (zI (ht : Int)) (zI b) (zI (i : Int)) μ1 = some (zI ((y.2.getD i 0 : Nat) : Int), m4) := by
              rw [r1, if_neg nj, if_neg (n1_ne (by omega)), if_neg hle, if_pos i3, rf_topicMany r0, shb_ap, if_pos n0, if_pos i3, rf_topicMany r0, shb_ap, if_pos n0, tcN (by omega), w2, em, ed, show (8 : Int32) = zI 8 from rfl, zI_mul, zI_add, w3]
              rfl
            exact ⟨_, μ1, m4, c1, c2, simq μ1 m4 p2 (gp_X12_plan (gp_X11_plan h.1 c1) c2) r2 r3 r4 r5⟩
    · have hj1 : ¬ (-1 : Int32) ≤ zI j := fun z => cj ((zI_le (a := -1) (by omega) (by omega) (by omega) (by omega)).mp z)
      rw [if_neg hj1] at hC
      refine no _ hC ?_ (pM_fr (A := ro P up) (B := ro P st))
      rw [hRf μ hM, if_neg (n1_ne (hro up hup)), if_neg (n1_ne (hro st hst)), if_neg (eI _), if_neg hj1]
  · have eI : ∀ m : sh_Mem, f_X12_isIn m (zI x).toInt64 0 99 = 0 := fun m => by
      rw [zI_l x1 x2]
      exact zz_isIn_f (b := 0) (c := 99) (by omega)
    have c1 : f_X11_plan (zI a) (zI x) (zI b) (zI j) μ = some (-1, μ) := by
      rw [hC]
      by_cases z : x < 0
      · rw [if_pos (show zI x < 0 from (zI_lt (b := 0) (by omega) (by omega) (by omega) (by omega)).mpr z)]
      · rw [if_neg (fun y => by have := (zI_lt (b := 0) (by omega) (by omega) (by omega) (by omega)).mp y; omega), if_pos (show (99 : Int32) < zI x from (zI_lt (a := 99) (by omega) (by omega) (by omega) (by omega)).mpr (by omega))]
    refine no _ c1 ?_ (pM_fr (A := ro P up) (B := ro P st))
    rw [hRf μ hM, if_neg (n1_ne (hro up hup)), if_neg (n1_ne (hro st hst)), if_pos (eI _)]
end Pq
