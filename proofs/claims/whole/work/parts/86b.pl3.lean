/-! plans: the class, on -/
section Pm
variable {t : Nat} {P : sp_T} {D : sl_T}
theorem cl_go1 {rec : Nat → Int32 → Int32 → Int32 → sh_Mem → Option (Int32 × sh_Mem)} {up ht st S0 d n ask : Nat} {tc : Bool} (hk : sp_ok P) (hd : d < 3) (hask : d + n + 1 = ask) (hask3 : ask ≤ 3) (hup : up < sp_c P * sp_r P) (hst : st < sp_c P * sp_r P) (hht : ht ≤ 99) (hS0 : S0 ≤ 99)
    (BY : ∀ (p : Nat) (μ : sh_Mem), p < sp_np P → pS t P up ht st S0 tc μ d D → ∃ μ', rec 1 (zI p) (zI d) (zI ask) μ = some (zI (bI (fs (pst P D (prr P (pgl up ht st S0) n)) (sp_nt P) (p * sp_nt P)).isSome), μ') ∧ sh_fr (nP t d) μ μ' ∧ pR μ' d (fs (pst P D (prr P (pgl up ht st S0) n)) (sp_nt P) (p * sp_nt P))) :
    ∀ (g f p : Nat) (μ : sh_Mem), p + g = sp_np P → g < f → pS t P up ht st S0 tc μ d D → ∃ μ', F_X7_goesOn rec f 1 (zI d) (zI ask) (263 + 6 * d) (zI p) μ = some (zI (bI (fs (fun p => fs (pst P D (prr P (pgl up ht st S0) n)) (sp_nt P) (p * sp_nt P)) g p).isSome), μ') ∧ sh_fr (nP t d) μ μ' ∧ pR μ' d (fs (fun p => fs (pst P D (prr P (pgl up ht st S0) n)) (sp_nt P) (p * sp_nt P)) g p) := by
  have hb := sp_bd hk
  have hcs := sp_cells hk
  have ex : (zI ask : Int32) - zI d - 1 = zI n := by
    rw [show (1 : Int32) = zI 1 from rfl, zI_sub, zI_sub]
    congr 1
    omega
  intro g
  induction g with
  | zero =>
    intro f p μ hp hf hS
    obtain ⟨f, rfl⟩ : ∃ q, f = q + 1 := ⟨f - 1, by omega⟩
    obtain ⟨⟨w1, w2, w3, w4⟩, -⟩ := id hS
    refine ⟨μ, ?_, sh_fr.rf, fun r h => by cases h⟩
    have a1 : sh_i μ t 3 ≤ zI p := by
      rw [w3.2.2.2.1, nI_z]
      exact (zI_le (by omega) (by omega) (by omega) (by omega)).mpr (by omega)
    rw [F_X7_goesOn, shr_ap w1, if_pos ⟨w1, w2⟩, shl_ap, if_pos a1]
    rfl
  | succ g ih =>
    intro f p μ hp hf hS
    obtain ⟨f, rfl⟩ : ∃ q, f = q + 1 := ⟨f - 1, by omega⟩
    obtain ⟨hw, hD, hl, hdd, u3, u4, u5, u6, s0⟩ := id hS
    obtain ⟨w1, w2, w3, w4⟩ := id hw
    have hpn : p < sp_np P := by omega
    have a1 : ¬ sh_i μ t 3 ≤ zI p := by
      rw [w3.2.2.2.1, nI_z]
      intro z
      have := (zI_le (by omega) (by omega) (by omega) (by omega)).mp z
      omega
    have ps1 : zI p + 1 = zI ((p + 1 : Nat) : Int) := zI_s1 p
    have e264 : sh_i μ ((263 + 6 * (Int32.toNatClampNeg 0)) + 1) (sh_i μ 260 5).toNatClampNeg = zI S0 := by
      rw [u5, tcN (by omega)]
      exact s0
    have in4 : sh_in (0 : Int32) 4 := by decide
    have in49 : sh_in (sh_i μ 260 5) 49 := by rw [u5]; exact pi_in (by omega) (by omega)
    have := Classical.propDecidable (bsd P D p up)
    have := Classical.propDecidable (bsd P D p st)
    have y1 : f_X7_mayRise (263 + 6 * d) (sh_i μ 260 3) (sh_i μ 260 4) (zI p) (zI ask - zI d - 1) μ = some (if sl_h D up + 9 * n + (if bsd P D p up then 9 else 0) < ht then 0 else 1, μ) := by
      rw [u3, u4, ex]
      exact cl_may hw hD hl hpn hup hht (by omega)
    have y2 : f_X7_mayRise (263 + 6 * d) (sh_i μ 260 5) (sh_i μ ((263 + 6 * (Int32.toNatClampNeg 0)) + 1) (sh_i μ 260 5).toNatClampNeg) (zI p) (zI ask - zI d - 1) μ = some (if sl_h D st + 9 * n + (if bsd P D p st then 9 else 0) < S0 then 0 else 1, μ) := by
      rw [e264, u5, ex]
      exact cl_may hw hD hl hpn hst hS0 (by omega)
    have skip : fs (pst P D (prr P (pgl up ht st S0) n)) (sp_nt P) (p * sp_nt P) = none → F_X7_goesOn rec (f + 1) 1 (zI d) (zI ask) (263 + 6 * d) (zI p) μ = F_X7_goesOn rec f 1 (zI d) (zI ask) (263 + 6 * d) (zI ((p + 1 : Nat) : Int)) μ → ∃ μ', F_X7_goesOn rec (f + 1) 1 (zI d) (zI ask) (263 + 6 * d) (zI p) μ = some (zI (bI (fs (fun p => fs (pst P D (prr P (pgl up ht st S0) n)) (sp_nt P) (p * sp_nt P)) (g + 1) p).isSome), μ') ∧ sh_fr (nP t d) μ μ' ∧ pR μ' d (fs (fun p => fs (pst P D (prr P (pgl up ht st S0) n)) (sp_nt P) (p * sp_nt P)) (g + 1) p) := by
      intro hno hst2
      obtain ⟨μ', k1, k2, k3⟩ := ih f (p + 1) μ (by omega) (by omega) hS
      rw [fs_n (f := fun p => fs (pst P D (prr P (pgl up ht st S0) n)) (sp_nt P) (p * sp_nt P)) hno]
      exact ⟨μ', hst2.trans k1, k2, k3⟩
    by_cases z1 : sl_h D up + 9 * n + (if bsd P D p up then 9 else 0) < ht
    · rw [if_pos z1] at y1
      refine skip (fs_none _ _ (fun j h1 h2 => ?_)) ?_
      · obtain ⟨q, rfl⟩ : ∃ q, j = p * sp_nt P + q := ⟨j - p * sp_nt P, by omega⟩
        exact pst_may (Or.inl ⟨rfl, rfl⟩) (by omega) z1
      · rw [F_X7_goesOn, shr_ap w1, if_pos ⟨w1, w2⟩, shl_ap, if_neg a1, shl_ap, y1, shb_ap, if_pos rfl, ps1]
    · rw [if_neg z1] at y1
      by_cases z2 : sl_h D st + 9 * n + (if bsd P D p st then 9 else 0) < S0
      · rw [if_pos z2] at y2
        refine skip (fs_none _ _ (fun j h1 h2 => ?_)) ?_
        · obtain ⟨q, rfl⟩ : ∃ q, j = p * sp_nt P + q := ⟨j - p * sp_nt P, by omega⟩
          exact pst_may (Or.inr ⟨rfl, rfl⟩) (by omega) z2
        · rw [F_X7_goesOn, shr_ap w1, if_pos ⟨w1, w2⟩, shl_ap, if_neg a1, shl_ap, y1, shb_ap, if_neg (by decide), if_pos in4, if_pos in49, y2, shb_ap, if_pos rfl, ps1]
      · rw [if_neg z2] at y2
        obtain ⟨m1, r1, r2, r3⟩ := BY p μ hpn hS
        cases e : fs (pst P D (prr P (pgl up ht st S0) n)) (sp_nt P) (p * sp_nt P) with
        | some r =>
          rw [e] at r1 r3
          have r1' : rec 1 (zI p) (zI d) (zI ask) μ = some (1, m1) := r1
          rw [fs_s (f := fun p => fs (pst P D (prr P (pgl up ht st S0) n)) (sp_nt P) (p * sp_nt P)) e]
          refine ⟨m1, ?_, r2, r3⟩
          rw [F_X7_goesOn, shr_ap w1, if_pos ⟨w1, w2⟩, shl_ap, if_neg a1, shl_ap, y1, shb_ap, if_neg (by decide), if_pos in4, if_pos in49, y2, shb_ap, if_neg (by decide), r1', shb_ap, if_neg (by decide)]
          rfl
        | none =>
          rw [e] at r1
          have r1' : rec 1 (zI p) (zI d) (zI ask) μ = some (0, m1) := r1
          rw [fs_n (f := fun p => fs (pst P D (prr P (pgl up ht st S0) n)) (sp_nt P) (p * sp_nt P)) e]
          obtain ⟨μ', k1, k2, k3⟩ := ih f (p + 1) m1 (by omega) (by omega) (hS.fr (by omega) r2)
          refine ⟨μ', ?_, r2.trans k2, k3⟩
          rw [← k1, F_X7_goesOn, shr_ap w1, if_pos ⟨w1, w2⟩, shl_ap, if_neg a1, shl_ap, y1, shb_ap, if_neg (by decide), if_pos in4, if_pos in49, y2, shb_ap, if_neg (by decide), r1', shb_ap, if_pos rfl, ps1]
theorem cl_goes {up ht st S0 ask : Nat} {tc : Bool} (hk : sp_ok P) (hask3 : ask ≤ 3) (hup : up < sp_c P * sp_r P) (hst : st < sp_c P * sp_r P) (hht : ht ≤ 99) (hS0 : S0 ≤ 99) (htc : tc = false → noT P) : ∀ (n d dd : Nat) (D : sl_T) (b3 : Int32) (μ : sh_Mem), d + n = ask → 2 * n + 1 ≤ dd → pS t P up ht st S0 tc μ d D → ∃ μ', G_X7 dd 0 (zI d) (zI ask) b3 μ = some (zI (bI (prr P (pgl up ht st S0) n D).isSome), μ') ∧ sh_fr (nP t d) μ μ' ∧ pR μ' d (prr P (pgl up ht st S0) n D) := by
  have hb := sp_bd hk
  have hcs := sp_cells hk
  intro n
  induction n with
  | zero =>
    intro d dd D b3 μ hd hdd hS
    obtain ⟨dd, rfl⟩ : ∃ q, dd = q + 1 := ⟨dd - 1, by omega⟩
    obtain ⟨hw, hD, hl, -, u3, u4, u5, u6, s0⟩ := id hS
    have in4 : sh_in (zI d) 4 := pi_in (by omega) (by omega)
    have n1 : ¬ zI d < zI ask := fun z => by
      have := (zI_lt (by omega) (by omega) (by omega) (by omega)).mp z
      omega
    have i3 : sh_in (zI up) 49 := pi_in (by omega) (by omega)
    have i5 : sh_in (zI st) 49 := pi_in (by omega) (by omega)
    have in0 : sh_in (0 : Int32) 4 := by decide
    have e1 : sh_i μ ((263 + 6 * (zI d).toNatClampNeg) + 1) (zI up).toNatClampNeg = zI (sl_h D up) := by rw [tcN (by omega), tcN (by omega), hD.2.1 up hup, nI_z]
    have e2 : sh_i μ ((263 + 6 * (zI d).toNatClampNeg) + 1) (zI st).toNatClampNeg = zI (sl_h D st) := by rw [tcN (by omega), tcN (by omega), hD.2.1 st hst, nI_z]
    have e3 : sh_i μ ((263 + 6 * (Int32.toNatClampNeg 0)) + 1) (zI st).toNatClampNeg = zI S0 := by rw [tcN (by omega)]; exact s0
    have h1 := hl.1 up hup
    have h2 := hl.1 st hst
    have hun : G_X7 (dd + 1) 0 (zI d) (zI ask) b3 μ = (if zI (sl_h D up) < zI ht then some (0, μ) else (if zI (sl_h D st) = zI S0 then some (1, μ) else some (0, μ))) := by
      show f_X7_goesOn (G_X7 dd) (zI d) (zI ask) μ = _
      unfold f_X7_goesOn
      rw [if_pos in4, if_neg n1, u3, if_pos i3, u4, e1, u5, if_pos i5, if_pos in0, if_pos i5, e2, e3]
    have hpr : prr P (pgl up ht st S0) 0 D = if pgl up ht st S0 D then some [] else none := rfl
    rw [hun, hpr]
    refine ⟨μ, ?_, sh_fr.rf, fun r h i hi => ?_⟩
    · by_cases c1 : ht ≤ sl_h D up
      · rw [if_neg (fun z => by have := (zI_lt (by omega) (by omega) (by omega) (by omega)).mp z; omega)]
        by_cases c2 : sl_h D st = S0
        · rw [if_pos (congrArg zI (by omega)), if_pos (show pgl up ht st S0 D = true from decide_eq_true ⟨c1, c2⟩)]
          rfl
        · rw [if_neg (fun z => by have := (zI_eq (by omega) (by omega) (by omega) (by omega)).mp z; omega), if_neg (show ¬ pgl up ht st S0 D = true from fun z => c2 (of_decide_eq_true z).2)]
          rfl
      · rw [if_pos ((zI_lt (by omega) (by omega) (by omega) (by omega)).mpr (by omega)), if_neg (show ¬ pgl up ht st S0 D = true from fun z => c1 (of_decide_eq_true z).1)]
        rfl
    · by_cases c : pgl up ht st S0 D = true
      · rw [if_pos c] at h
        cases h
        exact absurd hi (Nat.not_lt_zero _)
      · rw [if_neg c] at h
        cases h
  | succ n ih =>
    intro d dd D b3 μ hd hdd hS
    obtain ⟨dd, rfl⟩ : ∃ q, dd = q + 1 + 1 := ⟨dd - 2, by omega⟩
    obtain ⟨hw, hD, hl, hday, u3, u4, u5, u6, s0⟩ := id hS
    have in4 : sh_in (zI d) 4 := pi_in (by omega) (by omega)
    have n1 : zI d < zI ask := (zI_lt (by omega) (by omega) (by omega) (by omega)).mpr (by omega)
    have hpr : prr P (pgl up ht st S0) (n + 1) D = fs (fun p => fs (pst P D (prr P (pgl up ht st S0) n)) (sp_nt P) (p * sp_nt P)) (sp_np P) 0 := by
      show fs (pst P D (prr P (pgl up ht st S0) n)) (sp_np P * sp_nt P) 0 = _
      have := fs_blk (f := pst P D (prr P (pgl up ht st S0) n)) (m := sp_nt P) (sp_np P) 0
      rw [Nat.zero_mul] at this
      exact this
    have BY : ∀ (p : Nat) (μ : sh_Mem), p < sp_np P → pS t P up ht st S0 tc μ d D → ∃ μ', G_X7 (dd + 1) 1 (zI p) (zI d) (zI ask) μ = some (zI (bI (fs (pst P D (prr P (pgl up ht st S0) n)) (sp_nt P) (p * sp_nt P)).isSome), μ') ∧ sh_fr (nP t d) μ μ' ∧ pR μ' d (fs (pst P D (prr P (pgl up ht st S0) n)) (sp_nt P) (p * sp_nt P)) := by
      intro p μ hp hS'
      have := cl_by (rec := G_X7 dd) (t := t) (up := up) (ht := ht) (st := st) (S0 := S0) (d := d) (n := n) (ask := ask) (p := p) (tc := tc) (D := D) hk (by omega) (by omega) hask3 hp hl hday htc (fun D' μ hS'' => ih (d + 1) dd D' 0 μ (by omega) (by omega) hS'') (sp_nt P) sh_fuel 0 false μ (by omega) (by rw [sh_fuel_eq]; omega) hS' (fun z => by cases z)
      rw [Nat.add_zero] at this
      exact this
    obtain ⟨μ', k1, k2, k3⟩ := cl_go1 (rec := G_X7 (dd + 1)) (t := t) (up := up) (ht := ht) (st := st) (S0 := S0) (d := d) (n := n) (ask := ask) (tc := tc) (D := D) hk (by omega) (by omega) hask3 hup hst hht hS0 BY (sp_np P) sh_fuel 0 μ (by omega) (by rw [sh_fuel_eq]; omega) hS
    rw [hpr]
    refine ⟨μ', ?_, k2, k3⟩
    show f_X7_goesOn (G_X7 (dd + 1)) (zI d) (zI ask) μ = _
    unfold f_X7_goesOn
    rw [if_pos in4, if_pos n1, tcN (by omega)]
    exact k1
/-- the fewest, from k on -/
def pN (P : sp_T) (G : sl_T → Bool) (L : sl_T) (n : Nat) : Option (Nat × List Nat) := match prr P G n L with
  | some r => some (n, r)
  | none => none
def pv : Option (Nat × List Nat) → Int
  | none => -1
  | some x => (x.1 : Int)
theorem cl_find1 {up ht st S0 : Nat} {tc : Bool} {r1 : Nat} {i2 i3 i4 : Int32} (hk : sp_ok P) (hup : up < sp_c P * sp_r P) (hst : st < sp_c P * sp_r P) (hht : ht ≤ 99) (hS0 : S0 ≤ 99) (htc : tc = false → noT P) : ∀ (g f k : Nat) (μ : sh_Mem), k + g = 4 → g < f → pS t P up ht st S0 tc μ 0 D → ∃ μ', F_X7_find f 1 r1 i2 i3 i4 (zI k) μ = some (zI (pv (fs (pN P (pgl up ht st S0) D) g k)), μ') ∧ sh_fr (nP t 0) μ μ' ∧ ∀ x, fs (pN P (pgl up ht st S0) D) g k = some x → ∀ i, i < x.2.length → sh_i μ' 262 i = zI (x.2.getD i 0) := by
  intro g
  induction g with
  | zero =>
    intro f k μ hk4 hf hS
    obtain ⟨f, rfl⟩ : ∃ q, f = q + 1 := ⟨f - 1, by omega⟩
    refine ⟨μ, ?_, sh_fr.rf, fun x h => by cases h⟩
    rw [F_X7_find, if_pos (show (3 : Int32) < zI k from (zI_lt (a := 3) (by omega) (by omega) (by omega) (by omega)).mpr (by omega))]
    rfl
  | succ g ih =>
    intro f k μ hk4 hf hS
    obtain ⟨f, rfl⟩ : ∃ q, f = q + 1 := ⟨f - 1, by omega⟩
    have n3 : ¬ (3 : Int32) < zI k := fun z => by
      have := (zI_lt (a := 3) (by omega) (by omega) (by omega) (by omega)).mp z
      omega
    obtain ⟨m1, r1', r2, r3⟩ := cl_goes (t := t) (ask := k) (tc := tc) hk (by omega) hup hst hht hS0 htc k 0 16 D 0 μ (by omega) (by omega) hS
    have r0 : f_X7_goesOn_top 0 (zI k) μ = some (zI (bI (prr P (pgl up ht st S0) k D).isSome), m1) := r1'
    cases e : prr P (pgl up ht st S0) k D with
    | some r =>
      have hp : pN P (pgl up ht st S0) D k = some (k, r) := by unfold pN; rw [e]
      rw [e] at r0 r3
      have r0' : f_X7_goesOn_top 0 (zI k) μ = some (1, m1) := r0
      rw [fs_s hp]
      refine ⟨m1, ?_, r2, fun x h i hi => ?_⟩
      · rw [F_X7_find, if_neg n3, r0', shb_ap, if_neg (by decide)]
        rfl
      · cases h
        have := r3 r rfl i hi
        rw [Nat.zero_add] at this
        exact this
    | none =>
      have hp : pN P (pgl up ht st S0) D k = none := by unfold pN; rw [e]
      rw [e] at r0
      have r0' : f_X7_goesOn_top 0 (zI k) μ = some (0, m1) := r0
      rw [fs_n hp]
      obtain ⟨μ', k1, k2, k3⟩ := ih f (k + 1) m1 (by omega) (by omega) (hS.fr (by omega) r2)
      refine ⟨μ', ?_, r2.trans k2, k3⟩
      rw [← k1, F_X7_find, if_neg n3, r0', shb_ap, if_pos rfl, zI_s1]
def nZ (t a k : Nat) : Prop := nP t 0 a k ∨ (263 ≤ a ∧ a ≤ 268) ∨ a = 260
theorem nZ_qA {r k : Nat} (ht : sh_isP t) (h : nZ t r k) : qA r k := by
  rcases ht with rfl | rfl <;> (unfold nZ nP at h; refine ⟨by omega, ?_⟩; unfold sm_A sm_S; omega)
theorem cl_plan {μ : sh_Mem} {L : sl_T} {up ht st : Nat} (hw : cw μ t P) (hc : sm_cL μ 49 P L) (hl : sl_in P L) (hdd : sl_d L ≤ 999) (hup : up < sp_c P * sp_r P) (hst : st < sp_c P * sp_r P) (hht : ht ≤ 99) : ∃ μ', f_X7_find 49 (zI up) (zI ht) (zI st) μ = some (zI (pv (fs (pN P (pgl up ht st (sl_h L st)) L) 4 0)), μ') ∧ sh_fr (nZ t) μ μ' ∧ ∀ x, fs (pN P (pgl up ht st (sl_h L st)) L) 4 0 = some x → ∀ i, i < x.2.length → sh_i μ' 262 i = zI (x.2.getD i 0) := by
  obtain ⟨w1, w2, w3, w4⟩ := id hw
  have htt := sh_isP_r w2
  have hcs := sp_cells w4
  have hpos : 0 < sp_c P := Nat.pos_of_ne_zero (fun z => by rw [z, Nat.zero_mul] at hup; omega)
  obtain ⟨m1, c1, c2, c3, c4, c5⟩ := cl_copy (μ := μ) (r := 263) (q := 49) (by omega)
  have hD1 : sm_cL m1 263 P L := hc.of w4 c3 c4 c5
  have f1 : sh_fr (nZ t) μ m1 := c2.mono (fun r k z => by unfold nZ; omega)
  obtain ⟨m2, hm2⟩ : ∃ m, m = sh_setI (sh_setI (sh_setI m1 260 3 (zI up)) 260 4 (zI ht)) 260 5 (zI st) := ⟨_, rfl⟩
  have f2 : sh_fr (fun a _ => a = 260) m1 m2 := by rw [hm2]; exact sh_fr_I (sh_fr_I (sh_fr_I sh_fr.rf rfl) rfl) rfl
  have fz : ∀ {a b : sh_Mem}, sh_fr (fun a _ => a = 260) a b → sh_fr (nZ t) a b := fun h => h.mono (fun r k z => Or.inr (Or.inr z))
  have hw2 : cw m2 t P := (hw.cg f1.1 (fun j hj j7 j10 => f1.row _ (fun k => by unfold nZ nP; omega))).cg f2.1 (fun j hj j7 j10 => f2.row _ (fun k => by omega))
  have hD2 : sm_cL m2 263 P L := hD1.cg (fun j hj => f2.row _ (fun k => by omega))
  have go : ∀ tc : Bool, (tc = false → noT P) → f_X5_topicCounts t m2 = some (zI (bI tc), m2) → ∃ μ', f_X7_find 49 (zI up) (zI ht) (zI st) μ = some (zI (pv (fs (pN P (pgl up ht st (sl_h L st)) L) 4 0)), μ') ∧ sh_fr (nZ t) μ μ' ∧ ∀ x, fs (pN P (pgl up ht st (sl_h L st)) L) 4 0 = some x → ∀ i, i < x.2.length → sh_i μ' 262 i = zI (x.2.getD i 0) := by
    intro tc htc e
    obtain ⟨m3, hm3⟩ : ∃ m, m = sh_setI m2 260 6 (zI (bI tc)) := ⟨_, rfl⟩
    have f3 : sh_fr (fun a _ => a = 260) m2 m3 := by rw [hm3]; exact sh_fr_I sh_fr.rf rfl
    have hS : pS t P up ht st (sl_h L st) tc m3 0 L := by
      refine ⟨hw2.cg f3.1 (fun j hj j7 j10 => f3.row _ (fun k => by omega)), hD2.cg (fun j hj => f3.row _ (fun k => by omega)), hl, by omega, ?_, ?_, ?_, by rw [hm3, ir_set], ?_⟩
      · rw [hm3, hm2]; simp (disch := omega) only [↓reduceIte, ↓shl_ap, shb_ap, shv_ap, zI_lit, zL_lit, nI_z, lN_z, ofN_z, zI_add, zI_sub, zI_mul, zI_neg, zL_add, zL_sub, zL_mul, zL_neg, zI_l, zI_cl, zI_le_t, zI_le_f, zI_lt_t, zI_lt_f, zI_eq_t, zI_eq_f, zI_in_t, zz_isIn_t, zz_isIn_f, not_true_eq_false, not_false_eq_true, true_or, or_true, false_or, or_false, true_and, and_true, false_and, and_false, ir_set, ir_set_k, ir_set_r, ir_row, ir_row_r, sh_i_setL, sh_i_setR, sh_r_setI, sh_r_setL, sh_r_rowI, sh_l_setI, sh_l_rowI, lr_set, lr_set_k, lr_set_r, Nat.reduceLeDiff, Int.reduceAdd, Int.reduceSub, Int.reduceMul, Int.reduceNeg, Int.reduceToNat, Nat.reduceAdd, Nat.reduceMul, Nat.reduceSub, Int.toNat_natCast, zN_le_t, zN_le_f]
      · rw [hm3, hm2]; simp (disch := omega) only [↓reduceIte, ↓shl_ap, shb_ap, shv_ap, zI_lit, zL_lit, nI_z, lN_z, ofN_z, zI_add, zI_sub, zI_mul, zI_neg, zL_add, zL_sub, zL_mul, zL_neg, zI_l, zI_cl, zI_le_t, zI_le_f, zI_lt_t, zI_lt_f, zI_eq_t, zI_eq_f, zI_in_t, zz_isIn_t, zz_isIn_f, not_true_eq_false, not_false_eq_true, true_or, or_true, false_or, or_false, true_and, and_true, false_and, and_false, ir_set, ir_set_k, ir_set_r, ir_row, ir_row_r, sh_i_setL, sh_i_setR, sh_r_setI, sh_r_setL, sh_r_rowI, sh_l_setI, sh_l_rowI, lr_set, lr_set_k, lr_set_r, Nat.reduceLeDiff, Int.reduceAdd, Int.reduceSub, Int.reduceMul, Int.reduceNeg, Int.reduceToNat, Nat.reduceAdd, Nat.reduceMul, Nat.reduceSub, Int.toNat_natCast, zN_le_t, zN_le_f]
      · rw [hm3, hm2]; simp (disch := omega) only [↓reduceIte, ↓shl_ap, shb_ap, shv_ap, zI_lit, zL_lit, nI_z, lN_z, ofN_z, zI_add, zI_sub, zI_mul, zI_neg, zL_add, zL_sub, zL_mul, zL_neg, zI_l, zI_cl, zI_le_t, zI_le_f, zI_lt_t, zI_lt_f, zI_eq_t, zI_eq_f, zI_in_t, zz_isIn_t, zz_isIn_f, not_true_eq_false, not_false_eq_true, true_or, or_true, false_or, or_false, true_and, and_true, false_and, and_false, ir_set, ir_set_k, ir_set_r, ir_row, ir_row_r, sh_i_setL, sh_i_setR, sh_r_setI, sh_r_setL, sh_r_rowI, sh_l_setI, sh_l_rowI, lr_set, lr_set_k, lr_set_r, Nat.reduceLeDiff, Int.reduceAdd, Int.reduceSub, Int.reduceMul, Int.reduceNeg, Int.reduceToNat, Nat.reduceAdd, Nat.reduceMul, Nat.reduceSub, Int.toNat_natCast, zN_le_t, zN_le_f]
      · rw [f3.i _ _ (by omega), hD2.2.1 st hst, nI_z]
    obtain ⟨μ', k1, k2, k3⟩ := cl_find1 (t := t) (r1 := 49) (i2 := zI up) (i3 := zI ht) (i4 := zI st) w4 hup hst hht (hl.1 st hst) htc 4 sh_fuel 0 m3 (by omega) (by rw [sh_fuel_eq]; omega) hS
    refine ⟨μ', ?_, f1.trans ((fz f2).trans ((fz f3).trans (k2.mono (fun r k z => Or.inl z)))), k3⟩
    have hb01 : zI (bI tc) = 0 ∨ zI (bI tc) = 1 := by cases tc; exact Or.inl rfl; exact Or.inr rfl
    have c1' : f_X3_copyFrom (263 + 6 * (Int32.toNatClampNeg 0)) 49 μ = some m1 := c1
    have hr2 : sh_r m2 55 0 = some t := hw2.1
    unfold f_X7_find
    rw [if_pos (show sh_in (0 : Int32) 4 by decide), c1', shv_ap, shl_ap, shl_ap, shl_ap, ← hm2, shr_ap hr2, if_pos ⟨hr2, w2⟩, shl_ap, e, shb_ap, if_pos hb01, shl_ap, ← hm3]
    exact k1
  rcases cl_topics hw2.2.2.1 w4 hpos with ⟨q1, q2⟩ | ⟨q1, q2⟩
  · exact go false (fun _ => q1) q2
  · exact go true (fun z => by cases z) q2
end Pm
