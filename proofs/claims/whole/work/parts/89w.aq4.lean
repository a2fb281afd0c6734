/-! ASK: the class's answer -/
section Aq4
variable {μ : sh_Mem} {P : sp_T} {L : sl_T} {t : Nat}
theorem cl_namesQ {l : List Nat} (h : sm_form μ 3 l) (hl : l.length ≤ 1600) (hs : ∀ x ∈ l, (x < 24 ∨ 100 ≤ x) ∧ x ≤ 10099) : ∀ (g f i : Nat), i + g = l.length → g < f → F_X1_names f 1 3 10 (zI i) μ = some (zI (bI (decide (10 ∈ l.drop i))), μ) := by
  have h1 := h.1
  rw [nI_z] at h1
  have inj : ∀ x, ((x < 24 ∨ 100 ≤ x) ∧ x ≤ 10099) → (sg_c x = -11 ↔ x = 10) := fun x hx => by
    unfold sg_c
    by_cases c : 100 ≤ x
    · rw [if_pos c]; omega
    · rw [if_neg c]
      have : ∀ x : Nat, x < 24 → (([-7, -15, -16, -17, -4, -18, -19, -20, -21, -8, -11, -143, -145, -142, -147, -26, -27, -160, -162, -161, -23, -22, -24, 1] : List Int).getD x 0 = -11 ↔ x = 10) := by decide
      exact this x (by omega)
  have sb : ∀ x, ((x < 24 ∨ 100 ≤ x) ∧ x ≤ 10099) → -1000 ≤ sg_c x ∧ sg_c x ≤ 10000 := fun x hx => by
    unfold sg_c
    by_cases c : 100 ≤ x
    · rw [if_pos c]; omega
    · rw [if_neg c]
      have : ∀ x : Nat, x < 24 → (-1000 ≤ ([-7, -15, -16, -17, -4, -18, -19, -20, -21, -8, -11, -143, -145, -142, -147, -26, -27, -160, -162, -161, -23, -22, -24, 1] : List Int).getD x 0 ∧ ([-7, -15, -16, -17, -4, -18, -19, -20, -21, -8, -11, -143, -145, -142, -147, -26, -27, -160, -162, -161, -23, -22, -24, 1] : List Int).getD x 0 ≤ 10000) := by decide
      exact this x (by omega)
  intro g
  induction g with
  | zero =>
    intro f i hi hf
    obtain ⟨f, rfl⟩ : ∃ f', f = f' + 1 := ⟨f - 1, by omega⟩
    rw [F_X1_names, h1, if_pos (zI_yes (by omega) (by omega)), List.drop_eq_nil_of_le (by omega), decide_eq_false (fun z => (by cases z))]
    rfl
  | succ g ih =>
    intro f i hi hf
    obtain ⟨f, rfl⟩ : ∃ f', f = f' + 1 := ⟨f - 1, by omega⟩
    have hd : l.drop i = l.getD i 0 :: l.drop (i + 1) := by
      rw [List.drop_eq_getElem_cons (show i < l.length by omega), List.getD_eq_getElem?_getD, List.getElem?_eq_getElem (show i < l.length by omega)]
      rfl
    have hx := hs _ (gD_m (l := l) (j := i) (by omega))
    have hsb := sb _ hx
    have hv : sh_i μ (3 + 1) (zI (i : Int)).toNatClampNeg = zI (sg_c (l.getD i 0)) := by rw [tcN (by omega)]; exact h.2 i (by omega)
    rw [F_X1_names, h1, if_neg (zI_not (by omega) (by omega)), ofN_z, if_neg (zI_not (by omega) (by omega)), if_pos ((zI_in (by omega)).mpr (by omega)), hv, show ((-1 : Int32) - 10) = zI (-11) from rfl, hd]
    by_cases c : l.getD i 0 = 10
    · rw [if_pos (by rw [(inj _ hx).mpr c]), decide_eq_true (List.mem_cons.mpr (Or.inl c.symm))]
      rfl
    · rw [if_neg (fun z => c ((inj _ hx).mp ((zI_eq (by omega) (by omega) (by omega) (by omega)).mp z))), zI_s1, ih f (i + 1) (by omega) (by omega)]
      by_cases c2 : 10 ∈ l.drop (i + 1)
      · rw [decide_eq_true c2, decide_eq_true (List.mem_cons.mpr (Or.inr c2))]
      · rw [decide_eq_false c2, decide_eq_false (fun z => by
          rcases List.mem_cons.mp z with z | z
          · exact c z.symm
          · exact c2 z)]
/-- signs that stand as they must -/
theorem sg_okR {kd : Nat} {res : Bool} : ∀ (l : List Nat) (B : List Bool), sg_ok kd res l B → ∀ x ∈ l, (x < 24 ∨ 100 ≤ x) ∧ x ≤ 10099
  | [], _, _, x, hx => (by cases hx)
  | a :: l, B, ⟨B1, h1, _, h3⟩, x, hx => by
    rcases List.mem_cons.mp hx with z | z
    · rw [z]
      rcases sg_st_rng h1 with q | q | ⟨q, -⟩ | q | ⟨q, -⟩ | q <;> omega
    · exact sg_okR l B1 h3 x z
/-- the facts of one -/
def dsN (t r k : Nat) : Prop := r = 28 ∨ (r = 55 ∧ 1 ≤ k) ∨ (56 ≤ r ∧ r ≤ 62) ∨ r = t + 7 ∨ r = t + 10 ∨ r = t + 13
theorem cl_dsc {p : Nat} {b : Bool} (hr0 : sh_r μ 55 0 = some t) (ht : sh_isP t) (hk : sp_ok P) (hl : sl_in P L) (hd : sl_d L ≤ 999) (hp : p < sp_np P) : ∀ (g f q : Nat) (m : sh_Mem), q + g = 5 → g < f → sh_r m = sh_r μ → sm_cP m t P → sm_cL m 49 P L → (∀ q', q' < q → sh_i m 28 (33 + q') = zI (wQ P L p b (q' : Nat))) → ∃ m', F_X10_describe f 1 49 (zI p) 28 (zI (bI b)) (zI q) m = some m' ∧ sh_fr (dsN t) m m' ∧ (∀ k, k < 33 → sh_i m' 28 k = sh_i m 28 k) ∧ (∀ q', q' < 5 → sh_i m' 28 (33 + q') = zI (wQ P L p b (q' : Nat))) := by
  have hb := sp_bd hk
  have hnt : sp_nt P ≤ 5 := hb.2.2.1
  have hpb := isP_b ht
  have hq2 := ht
  unfold sh_isP at hq2
  intro g
  induction g with
  | zero =>
    intro f q m hq hf hr hP hL hE
    obtain ⟨f, rfl⟩ : ∃ f', f = f' + 1 := ⟨f - 1, by omega⟩
    exact ⟨m, by rw [F_X10_describe, if_pos (show (5 : Int32) ≤ zI (q : Int) from zI_yes (a := 5) (by omega) (by omega))], sh_fr.rf, fun _ _ => rfl, fun q' h' => hE q' (by omega)⟩
  | succ g ih =>
    intro f q m hq hf hr hP hL hE
    obtain ⟨f, rfl⟩ : ∃ f', f = f' + 1 := ⟨f - 1, by omega⟩
    have e33 : 33 + zI (q : Int) = zI ((33 + q : Nat) : Int) := by
      rw [show (33 : Int32) = zI 33 from rfl, zI_add]
      rfl
    have hin : sh_in (zI ((33 + q : Nat) : Int)) 38 := (zI_in (by omega)).mpr (by omega)
    obtain ⟨m1, hm1⟩ : ∃ m', m' = sh_setI m 28 (33 + q) 0 := ⟨_, rfl⟩
    have F1 : sh_fr (dsN t) m m1 := by rw [hm1]; exact sh_fr_I sh_fr.rf (Or.inl rfl)
    have row1 : ∀ r, ¬ r = 28 → sh_i m1 r = sh_i m r := fun r h => by rw [hm1, ir_set_r h]
    have r1 : sh_r m1 = sh_r μ := by rw [F1.1, hr]
    have P1 : sm_cP m1 t P := hP.cg (fun j hj _ _ => row1 _ (by omega))
    have L1 : sm_cL m1 49 P L := hL.cg (fun j hj => row1 _ (by omega))
    have tc : (zI ((33 + q : Nat) : Int)).toNatClampNeg = 33 + q := tcN (by omega)
    have hm1' : sh_setI m 28 (zI ((33 + q : Nat) : Int)).toNatClampNeg 0 = m1 := by rw [tc]; exact hm1.symm
    have st : F_X10_describe (f + 1) 1 49 (zI p) 28 (zI (bI b)) (zI q) m = (if zI (bI b) = 0 then F_X10_describe f 1 49 (zI p) 28 (zI (bI b)) (zI ((q + 1 : Nat) : Int)) m1 else (if (sh_i m1 t 2) ≤ zI (q : Int) then F_X10_describe f 1 49 (zI p) 28 (zI (bI b)) (zI ((q + 1 : Nat) : Int)) m1 else sh_bindv (f_X3_copyFrom 57 49 m1) (fun μ33 => sh_bind (f_X10_asked 57 (zI p) (zI q) μ33) (fun y38 μ36 => (if sh_in (zI ((33 + q : Nat) : Int)) 38 then sh_let (sh_setI μ36 28 (zI ((33 + q : Nat) : Int)).toNatClampNeg (sh_i μ36 55 1)) (fun μ40 => F_X10_describe f 1 49 (zI p) 28 (zI (bI b)) (zI ((q + 1 : Nat) : Int)) μ40) else none))))) := by
      have rr : sh_r m1 55 0 = some t := by rw [r1]; exact hr0
      have kr : sh_ref m1 55 0 = t := by unfold sh_ref; rw [rr]; rfl
      rw [F_X10_describe, if_neg (show ¬ (5 : Int32) ≤ zI (q : Int) from zI_not (b := 5) (by omega) (by omega)), e33, if_pos hin, hm1', shl_ap, zI_s1]
      by_cases cb : zI (bI b) = 0
      · rw [if_pos cb, if_pos cb]
      · rw [if_neg cb, if_neg cb, kr, if_pos (show sh_r m1 55 0 = some t ∧ (t = 8 ∨ t = 29) from ⟨rr, ht⟩), shl_ap]
    have z0 : wQ P L p b (q : Nat) = 0 → ∃ m', F_X10_describe f 1 49 (zI p) 28 (zI (bI b)) (zI ((q + 1 : Nat) : Int)) m1 = some m' ∧ sh_fr (dsN t) m m' ∧ (∀ k, k < 33 → sh_i m' 28 k = sh_i m 28 k) ∧ (∀ q', q' < 5 → sh_i m' 28 (33 + q') = zI (wQ P L p b (q' : Nat))) := fun hz => by
      obtain ⟨m', a1, a2, a3, a4⟩ := ih f (q + 1) m1 (by omega) (by omega) r1 P1 L1 (fun q' h' => by
        rw [hm1]
        by_cases e : q' = q
        · rw [e, ir_set, hz]; rfl
        · rw [ir_set_k (by omega)]; exact hE q' (by omega))
      exact ⟨m', a1, F1.trans a2, fun k hk2 => by rw [a3 k hk2, hm1, ir_set_k (by omega)], a4⟩
    rw [st]
    by_cases c : b = true
    rotate_left
    · have cb : b = false := Bool.eq_false_iff.mpr c
      rw [cb, if_pos (show zI (bI false) = 0 from rfl), ← cb]
      exact z0 (by unfold wQ; rw [if_neg (fun z => c z.1)])
    rw [if_neg (show ¬ zI (bI b) = 0 by rw [c]; decide), P1.2.2.1, nI_z]
    by_cases c2 : sp_nt P ≤ q
    · rw [if_pos (zI_yes (by omega) (by omega))]
      exact z0 (by unfold wQ; rw [if_neg (fun z => by omega)])
    rw [if_neg (zI_not (by omega) (by omega))]
    obtain ⟨m2, d1, d2, d3, d4, d5⟩ := cl_copy (μ := m1) (r := 57) (q := 49) (by omega)
    have P2 : sm_cP m2 t P := P1.cg (fun j hj _ _ => d2.row _ (fun k => by omega))
    have L2 : sm_cL m2 57 P L := sm_cL.of hk L1 d3 d4 d5
    have L49 : sm_cL m2 49 P L := L1.cg (fun j hj => d2.row _ (fun k => by omega))
    obtain ⟨m3, e1, e2, e3, e4, e5⟩ := cl_asked (μ := m2) (t := t) (P := P) (L := L) (p := p) (q := q) (r := 57) ⟨by rw [d2.1, r1]; exact hr0, ht, P2, hk⟩ L2 hl (by omega) hp (by omega) (Or.inr (by omega))
    obtain ⟨m4, hm4⟩ : ∃ m', m' = sh_setI m3 28 (33 + q) (zI (aM P L p q : Nat)) := ⟨_, rfl⟩
    have F4 : sh_fr (dsN t) m m4 := by
      rw [hm4]
      refine sh_fr_I ((F1.trans (d2.mono (fun r k z => by unfold dsN; omega))).trans (e4.mono (fun r k z => by unfold nA at z; unfold dsN; omega))) (Or.inl rfl)
    have row4 : ∀ r, ¬ r = 28 → ¬ (55 ≤ r ∧ r ≤ 62) → sh_i m4 r = sh_i m1 r := fun r h1 h2 => by
      rw [hm4, ir_set_r h1, e5 r (by omega) (by omega) (by omega) (by omega), d2.row r (fun k => by omega)]
    have eW : wQ P L p b (q : Nat) = ((aM P L p q : Nat) : Int) := by
      unfold wQ
      rw [if_pos ⟨c, by omega, by omega⟩, Int.toNat_natCast]
    have r28 : sh_i m3 28 = sh_i m1 28 := by rw [e5 28 (by omega) (by omega) (by omega) (by omega), d2.row 28 (fun k => by omega)]
    obtain ⟨m', a1, a2, a3, a4⟩ := ih f (q + 1) m4 (by omega) (by omega) (by rw [F4.1, hr]) (P1.cg (fun j hj _ _ => row4 _ (by omega) (by omega))) (L1.cg (fun j hj => row4 _ (by omega) (by omega))) (fun q' h' => by
      rw [hm4]
      by_cases e : q' = q
      · rw [e, ir_set, eW]
      · rw [ir_set_k (by omega), r28, hm1, ir_set_k (by omega)]; exact hE q' (by omega))
    refine ⟨m', ?_, F4.trans a2, fun k hk2 => by rw [a3 k hk2, hm4, ir_set_k (by omega), r28, hm1, ir_set_k (by omega)], a4⟩
    rw [d1, shv_ap, e1, shb_ap, if_pos hin, e3, tc, ← hm4, shl_ap]
    exact a1
end Aq4
