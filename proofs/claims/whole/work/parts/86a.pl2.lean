/-! plans: the class -/
theorem sg_ok_rng {kd : Nat} {res : Bool} : ∀ (l : List Nat) (B : List Bool), sg_ok kd res l B → ∀ t ∈ l, t ≤ 23 ∨ (100 ≤ t ∧ t ≤ 10099)
  | [], _, _, t, ht => by cases ht
  | a :: l, B, h, t, ht => by
    obtain ⟨B', h1, -, h2⟩ := h
    rcases List.mem_cons.mp ht with rfl | ht
    · rcases sg_st_rng h1 with q | q | ⟨q, -⟩ | q | ⟨q, -⟩ | q
      · exact Or.inr q
      · exact Or.inl (by omega)
      · exact Or.inl (by omega)
      · exact Or.inl (by omega)
      · exact Or.inl (by omega)
      · exact Or.inl (by omega)
    · exact sg_ok_rng l B' h2 t ht
theorem sg_c4 {t : Nat} (h : t ≤ 23 ∨ (100 ≤ t ∧ t ≤ 10099)) : -1000 ≤ sg_c t ∧ sg_c t ≤ 10000 ∧ (sg_c t = -4 ↔ t = 4) := by
  rcases h with h | h
  · have : ∀ t : Nat, t < 24 → -1000 ≤ sg_c t ∧ sg_c t ≤ 10000 ∧ (sg_c t = -4 ↔ t = 4) := by decide +kernel
    exact this t (by omega)
  · rw [sg_num h.1]
    omega
theorem cl_names1 {μ : sh_Mem} {f : Nat} {l : List Nat} (hm : sm_form μ f l) (hl : l.length ≤ 1600) (hr : ∀ t ∈ l, t ≤ 23 ∨ (100 ≤ t ∧ t ≤ 10099)) : ∀ (g fu i : Nat), i + g = l.length → g < fu → ((∀ j, i ≤ j → j < l.length → ¬ l.getD j 0 = 4) ∧ F_X1_names fu 1 f 3 (zI i) μ = some (0, μ)) ∨ (¬ (∀ j, i ≤ j → j < l.length → ¬ l.getD j 0 = 4) ∧ F_X1_names fu 1 f 3 (zI i) μ = some (1, μ)) := by
  obtain ⟨m1, m2⟩ := hm
  rw [nI_z] at m1
  intro g
  induction g with
  | zero =>
    intro fu i hi hf
    obtain ⟨fu, rfl⟩ : ∃ q, fu = q + 1 := ⟨fu - 1, by omega⟩
    refine Or.inl ⟨fun j h1 h2 => by omega, ?_⟩
    have a1 : sh_i μ f 1 ≤ zI i := by
      rw [m1]
      exact (zI_le (by omega) (by omega) (by omega) (by omega)).mpr (by omega)
    rw [F_X1_names, if_pos a1]
  | succ g ih =>
    intro fu i hi hf
    obtain ⟨fu, rfl⟩ : ∃ q, fu = q + 1 := ⟨fu - 1, by omega⟩
    have a1 : ¬ sh_i μ f 1 ≤ zI i := by
      rw [m1]
      intro z
      have := (zI_le (by omega) (by omega) (by omega) (by omega)).mp z
      omega
    have a2 : ¬ Int32.ofNat 1600 ≤ zI i := by
      intro z
      rw [ofN_z] at z
      have := (zI_le (by omega) (by omega) (by omega) (by omega)).mp z
      omega
    have a4 : sh_in (zI i) 1600 := (zI_in (by omega)).mpr (by omega)
    have e : sh_i μ (f + 1) (zI i).toNatClampNeg = zI (sg_c (l.getD i 0)) := by rw [tcN (by omega)]; exact m2 i (by omega)
    have hmem : l.getD i 0 ∈ l := by
      rw [List.getD_eq_getElem?_getD, List.getElem?_eq_getElem (show i < l.length by omega)]
      exact List.getElem_mem _
    obtain ⟨s1, s2, s3⟩ := sg_c4 (hr _ hmem)
    have e4 : (-1 : Int32) - 3 = zI (-4) := by decide
    by_cases c : l.getD i 0 = 4
    · refine Or.inr ⟨fun z => z i (by omega) (by omega) c, ?_⟩
      have b : sh_i μ (f + 1) (zI i).toNatClampNeg = (-1) - 3 := by rw [e, e4, s3.mpr c]
      rw [F_X1_names, if_neg a1, if_neg a2, if_pos a4, if_pos b]
    · have b : ¬ sh_i μ (f + 1) (zI i).toNatClampNeg = (-1) - 3 := by
        rw [e, e4]
        intro z
        exact c (s3.mp ((zI_eq (by omega) (by omega) (by omega) (by omega)).mp z))
      rw [F_X1_names, if_neg a1, if_neg a2, if_pos a4, if_neg b, zI_s1]
      rcases ih fu (i + 1) (by omega) (by omega) with ⟨q1, q2⟩ | ⟨q1, q2⟩
      · refine Or.inl ⟨fun j h1 h2 => ?_, q2⟩
        by_cases z : j = i
        · subst z; exact c
        · exact q1 j (by omega) h2
      · exact Or.inr ⟨fun z => q1 (fun j h1 h2 => z j (by omega) h2), q2⟩
theorem cl_names {μ : sh_Mem} {f : Nat} {l : List Nat} (hm : sm_form μ f l) (hl : l.length ≤ 1600) (hr : ∀ t ∈ l, t ≤ 23 ∨ (100 ≤ t ∧ t ≤ 10099)) : ((∀ t ∈ l, ¬ t = 4) ∧ f_X1_names f 3 μ = some (0, μ)) ∨ (¬ (∀ t ∈ l, ¬ t = 4) ∧ f_X1_names f 3 μ = some (1, μ)) := by
  rcases cl_names1 hm hl hr l.length sh_fuel 0 (by omega) (by rw [sh_fuel_eq]; omega) with ⟨q1, q2⟩ | ⟨q1, q2⟩
  · refine Or.inl ⟨fun t ht z => ?_, q2⟩
    obtain ⟨i, hi, e⟩ := List.getElem_of_mem ht
    refine q1 i (by omega) hi ?_
    rw [List.getD_eq_getElem?_getD, List.getElem?_eq_getElem hi, ← z]
    exact e
  · refine Or.inr ⟨fun z => q1 (fun j h1 h2 => z _ ?_), q2⟩
    rw [List.getD_eq_getElem?_getD, List.getElem?_eq_getElem h2]
    exact List.getElem_mem _
section Pk
variable {t : Nat} {P : sp_T} {D : sl_T}
theorem cl_topics {μ : sh_Mem} (hP : sm_cP μ t P) (hk : sp_ok P) (hc : 0 < sp_c P) : (noT P ∧ f_X5_topicCounts t μ = some (0, μ)) ∨ (¬ noT P ∧ f_X5_topicCounts t μ = some (1, μ)) := by
  obtain ⟨⟨a1, a2⟩, ⟨b1, b2⟩, ⟨res, c1, -⟩, c2⟩ := sp_forms hk hc
  obtain ⟨-, -, -, -, -, -, -, -, -, f1, f2, f3⟩ := hP
  unfold f_X5_topicCounts
  rcases cl_names f1 a2 (sg_ok_rng _ _ a1) with ⟨x1, x2⟩ | ⟨x1, x2⟩
  · rcases cl_names f2 b2 (sg_ok_rng _ _ b1) with ⟨y1, y2⟩ | ⟨y1, y2⟩
    · rcases cl_names f3 c2 (sg_ok_rng _ _ c1) with ⟨z1, z2⟩ | ⟨z1, z2⟩
      · refine Or.inl ⟨⟨x1, y1, z1⟩, ?_⟩
        rw [x2, shb_ap, if_pos rfl, y2, shb_ap, if_pos rfl, z2, shb_ap, if_pos rfl]
      · refine Or.inr ⟨fun w => z1 w.2.2, ?_⟩
        rw [x2, shb_ap, if_pos rfl, y2, shb_ap, if_pos rfl, z2, shb_ap, if_neg (by decide)]
    · refine Or.inr ⟨fun w => y1 w.2.1, ?_⟩
      rw [x2, shb_ap, if_pos rfl, y2, shb_ap, if_neg (by decide)]
  · refine Or.inr ⟨fun w => x1 w.1, ?_⟩
    rw [x2, shb_ap, if_neg (by decide)]
theorem cl_may {μ : sh_Mem} {r p c w b : Nat} (hw : cw μ t P) (hD : sm_cL μ r P D) (hl : sl_in P D) (hp : p < sp_np P) (hc : c < sp_c P * sp_r P) (hwl : w ≤ 99) (hb : b ≤ 3) [Decidable (bsd P D p c)] : f_X7_mayRise r (zI c) (zI w) (zI p) (zI b) μ = some (if sl_h D c + 9 * b + (if bsd P D p c then 9 else 0) < w then 0 else 1, μ) := by
  obtain ⟨w1, w2, w3, w4⟩ := id hw
  have hbd := sp_bd w4
  have hcs := sp_cells w4
  obtain ⟨l1, l2, l3, l4⟩ := hl.2 p hp
  obtain ⟨c1, c2, c3, c4⟩ := hD.2.2 p hp
  have hh9 := hl.1 c hc
  have i7 : sh_in (zI p) 7 := (zI_in (by omega)).mpr (by omega)
  have i49 : sh_in (zI c) 49 := (zI_in (by omega)).mpr (by omega)
  have x1 : sh_i μ (r + 2) (zI p).toNatClampNeg = zI (sl_x D p) := by rw [tcN (by omega), c1, nI_z]
  have x2 : sh_i μ (r + 3) (zI p).toNatClampNeg = zI (sl_y D p) := by rw [tcN (by omega), c2, nI_z]
  have x3 : sh_i μ (r + 1) (zI c).toNatClampNeg = zI (sl_h D c) := by rw [tcN (by omega), hD.2.1 c hc, nI_z]
  have hcell := sp_cell w4 l1 l2
  have eL : f_X5_cellAt μ t (zI (sl_x D p) - 1) (zI (sl_y D p)) = zI (if 0 < sl_x D p then ((sl_y D p * sp_c P + sl_x D p : Nat) : Int) - 1 else -1) := by
    rw [show (1 : Int32) = zI 1 from rfl, zI_sub, cl_cellAt w3 w4 (by omega) (by omega) (by omega) (by omega), kx_l l1 l2]
  have eR : f_X5_cellAt μ t (zI (sl_x D p) + 1) (zI (sl_y D p)) = zI (if sl_x D p + 1 < sp_c P then ((sl_y D p * sp_c P + sl_x D p : Nat) : Int) + 1 else -1) := by
    rw [show (1 : Int32) = zI 1 from rfl, zI_add, cl_cellAt w3 w4 (by omega) (by omega) (by omega) (by omega), kx_r l1 l2]
  have s1 : zI (sl_h D c) + 9 * (zI b + 1) = zI ((sl_h D c + 9 * b + 9 : Nat) : Int) := by
    rw [show (1 : Int32) = zI 1 from rfl, show (9 : Int32) = zI 9 from rfl, zI_add, zI_mul, zI_add]
    congr 1
  have s0 : zI (sl_h D c) + 9 * zI b = zI ((sl_h D c + 9 * b + 0 : Nat) : Int) := by
    rw [show (9 : Int32) = zI 9 from rfl, zI_mul, zI_add]
    congr 1
  have fin : ∀ k : Nat, k ≤ 9 → (if zI ((sl_h D c + 9 * b + k : Nat) : Int) < zI w then some ((0 : Int32), μ) else some (1, μ)) = some (if sl_h D c + 9 * b + k < w then 0 else 1, μ) := by
    intro k hk
    by_cases z : sl_h D c + 9 * b + k < w
    · rw [if_pos z, if_pos ((zI_lt (by omega) (by omega) (by omega) (by omega)).mpr (by omega))]
    · rw [if_neg z, if_neg (fun q => by have := (zI_lt (by omega) (by omega) (by omega) (by omega)).mp q; omega)]
  unfold f_X7_mayRise
  rw [if_pos i7, shl_ap, if_pos i7, shl_ap, x1, x2, shr_ap w1, if_pos ⟨w1, w2⟩, shl_ap, eL]
  generalize hA : sl_y D p * sp_c P + sl_x D p = A at *
  by_cases z1 : 0 < sl_x D p ∧ c + 1 = A
  · have hbs : bsd P D p c := by unfold bsd; rw [hA]; exact Or.inl z1
    rw [if_pos hbs, if_pos z1.1, if_pos (show zI ((A : Int) - 1) = zI c from congrArg zI (by omega)), if_pos i49, x3, s1]
    exact fin 9 (by omega)
  · have n1 : ¬ zI (if 0 < sl_x D p then (A : Int) - 1 else -1) = zI c := by
      intro q
      by_cases y : 0 < sl_x D p
      · rw [if_pos y] at q
        have := (zI_eq (by omega) (by omega) (by omega) (by omega)).mp q
        omega
      · rw [if_neg y] at q
        have := (zI_eq (by omega) (by omega) (by omega) (by omega)).mp q
        omega
    rw [if_neg n1, if_pos ⟨w1, w2⟩, shl_ap, eR]
    by_cases z2 : sl_x D p + 1 < sp_c P ∧ c = A + 1
    · have hbs : bsd P D p c := by unfold bsd; rw [hA]; exact Or.inr z2
      rw [if_pos hbs, if_pos z2.1, if_pos (show zI ((A : Int) + 1) = zI c from congrArg zI (by omega)), if_pos i49, x3, s1]
      exact fin 9 (by omega)
    · have hbs : ¬ bsd P D p c := by
        unfold bsd
        rw [hA]
        rintro (q | q)
        · exact z1 q
        · exact z2 q
      have n2 : ¬ zI (if sl_x D p + 1 < sp_c P then (A : Int) + 1 else -1) = zI c := by
        intro q
        by_cases y : sl_x D p + 1 < sp_c P
        · rw [if_pos y] at q
          have := (zI_eq (by omega) (by omega) (by omega) (by omega)).mp q
          omega
        · rw [if_neg y] at q
          have := (zI_eq (by omega) (by omega) (by omega) (by omega)).mp q
          omega
      rw [if_neg hbs, if_neg n2, if_pos i49, x3, s0]
      exact fin 0 (by omega)
/-- what the planner holds: cells, heights; the land that so many askings have left -/
def pS (t : Nat) (P : sp_T) (up ht st S0 : Nat) (tc : Bool) (μ : sh_Mem) (d : Nat) (D : sl_T) : Prop := cw μ t P ∧ sm_cL μ (263 + 6 * d) P D ∧ sl_in P D ∧ sl_d D ≤ 1000 ∧ sh_i μ 260 3 = zI up ∧ sh_i μ 260 4 = zI ht ∧ sh_i μ 260 5 = zI st ∧ sh_i μ 260 6 = zI (bI tc) ∧ sh_i μ 264 st = zI S0
def nP (t d a k : Nat) : Prop := (269 + 6 * d ≤ a ∧ a ≤ 286) ∨ (a = 262 ∧ d ≤ k) ∨ (a = 55 ∧ 1 ≤ k) ∨ a = 56 ∨ a = t + 7 ∨ a = t + 10 ∨ a = t + 13
def pR (μ : sh_Mem) (d : Nat) (o : Option (List Nat)) : Prop := ∀ r, o = some r → ∀ i, i < r.length → sh_i μ 262 (d + i) = zI (r.getD i 0)
theorem pS.fr {up ht st S0 d : Nat} {tc : Bool} {μ μ' : sh_Mem} (h : pS t P up ht st S0 tc μ d D) (hd : d ≤ 3) (hf : sh_fr (nP t d) μ μ') : pS t P up ht st S0 tc μ' d D := by
  obtain ⟨h1, h2, h3, h4, h5, h6, h7, h8, h9⟩ := h
  have htt := sh_isP_r h1.2.1
  have e : ∀ k, sh_i μ' 260 k = sh_i μ 260 k := fun k => hf.i _ _ (by unfold nP; omega)
  exact ⟨h1.cg hf.1 (fun j hj j7 j10 => hf.row _ (fun k => by unfold nP; omega)), h2.cg (fun j hj => hf.row _ (fun k => by unfold nP; omega)), h3, h4, (e 3).trans h5, (e 4).trans h6, (e 5).trans h7, (e 6).trans h8, (hf.i _ _ (by unfold nP; omega)).trans h9⟩
theorem pi_in {d n : Nat} (hd : d < n) (hn : n ≤ 100) : sh_in (zI d) n := (zI_in (by omega)).mpr (by omega)
/-- one who is asked, topic by topic -/
theorem cl_by {rec : Nat → Int32 → Int32 → Int32 → sh_Mem → Option (Int32 × sh_Mem)} {up ht st S0 d n ask p : Nat} {tc : Bool} (hk : sp_ok P) (hd : d < 3) (hask : d + n + 1 = ask) (hask3 : ask ≤ 3) (hp : p < sp_np P) (hl : sl_in P D) (hdd : sl_d D ≤ 1000) (htc : tc = false → noT P)
    (IH : ∀ (D' : sl_T) (μ : sh_Mem), pS t P up ht st S0 tc μ (d + 1) D' → ∃ μ', rec 0 (zI ((d + 1 : Nat) : Int)) (zI ask) 0 μ = some (zI (bI (prr P (pgl up ht st S0) n D').isSome), μ') ∧ sh_fr (nP t (d + 1)) μ μ' ∧ pR μ' (d + 1) (prr P (pgl up ht st S0) n D')) :
    ∀ (g f q : Nat) (tr : Bool) (μ : sh_Mem), q + g = sp_nt P → g < f → pS t P up ht st S0 tc μ d D → (tr = true → ∃ q0, q0 < sp_nt P ∧ wd P D p q0 = 2 ∧ prr P (pgl up ht st S0) n (aL P D p q0) = none) → ∃ μ', F_X7_goesOnBy rec f 1 (zI p) (zI d) (zI ask) (zI (bI tr)) (zI q) μ = some (zI (bI (fs (pst P D (prr P (pgl up ht st S0) n)) g (p * sp_nt P + q)).isSome), μ') ∧ sh_fr (nP t d) μ μ' ∧ pR μ' d (fs (pst P D (prr P (pgl up ht st S0) n)) g (p * sp_nt P + q)) := by
  have hb := sp_bd hk
  intro g
  induction g with
  | zero =>
    intro f q tr μ hq hf hS htr
    obtain ⟨f, rfl⟩ : ∃ q, f = q + 1 := ⟨f - 1, by omega⟩
    obtain ⟨⟨w1, w2, w3, w4⟩, -⟩ := id hS
    refine ⟨μ, ?_, sh_fr.rf, fun r h => by cases h⟩
    have a1 : sh_i μ t 2 ≤ zI q := by
      rw [w3.2.2.1, nI_z]
      exact (zI_le (by omega) (by omega) (by omega) (by omega)).mpr (by omega)
    rw [F_X7_goesOnBy, shr_ap w1, if_pos ⟨w1, w2⟩, shl_ap, if_pos a1]
    rfl
  | succ g ih =>
    intro f q tr μ hq hf hS htr
    obtain ⟨f, rfl⟩ : ∃ q, f = q + 1 := ⟨f - 1, by omega⟩
    obtain ⟨hw, hD, -, -, u3, u4, u5, u6, s0⟩ := id hS
    obtain ⟨w1, w2, w3, w4⟩ := id hw
    have htt := sh_isP_r w2
    have hqn : q < sp_nt P := by omega
    have a1 : ¬ sh_i μ t 2 ≤ zI q := by
      rw [w3.2.2.1, nI_z]
      intro z
      have := (zI_le (by omega) (by omega) (by omega) (by omega)).mp z
      omega
    by_cases cs : tr = true ∧ tc = false
    · obtain ⟨rfl, rfl⟩ := cs
      obtain ⟨q0, z1, z2, z3⟩ := htr rfl
      have hno : fs (pst P D (prr P (pgl up ht st S0) n)) (g + 1) (p * sp_nt P + q) = none := by
        refine fs_none _ _ (fun j h1 h2 => ?_)
        obtain ⟨q', rfl⟩ : ∃ q', j = p * sp_nt P + q' := ⟨j - p * sp_nt P, by omega⟩
        exact pst_q (htc rfl) z1 (by omega) z2 z3
      rw [hno]
      refine ⟨μ, ?_, sh_fr.rf, fun r h => by cases h⟩
      rw [F_X7_goesOnBy, shr_ap w1, if_pos ⟨w1, w2⟩, shl_ap, if_neg a1, if_neg (by decide), if_pos (by rw [u6]; rfl)]
      rfl
    · -- he is asked on a copy
      obtain ⟨m1, c1, c2, c3, c4, c5⟩ := cl_copy (μ := μ) (r := 263 + 6 * (d + 1)) (q := 263 + 6 * d) (by omega)
      have f1 : sh_fr (nP t d) μ m1 := c2.mono (fun r k z => by unfold nP; omega)
      have hD1 : sm_cL m1 (263 + 6 * (d + 1)) P D := hD.of hk c3 c4 c5
      have hS1 := hS.fr (by omega) f1
      obtain ⟨m2, b1, b2, b3, b4, b5⟩ := cl_asked (r := 263 + 6 * (d + 1)) (p := p) (q := q) hS1.1 hD1 hl (by omega) hp hqn (by unfold ldr; omega)
      have f2 : sh_fr (nP t d) m1 m2 := b4.mono (fun r k z => by unfold nA at z; unfold nP; omega)
      have hS2 := hS1.fr (by omega) f2
      have i1 : (zI d : Int32) + 1 = zI ((d + 1 : Nat) : Int) := zI_s1 d
      have c1' : f_X3_copyFrom (263 + 6 * (zI d + 1).toNatClampNeg) (263 + 6 * (zI d).toNatClampNeg) μ = some m1 := by rw [i1, tcN (by omega), tcN (by omega)]; exact c1
      have b1' : f_X10_asked (263 + 6 * (zI d + 1).toNatClampNeg) (zI p) (zI q) m1 = some (zI (wd P D p q), m2) := by rw [i1, tcN (by omega)]; exact b1
      have in1 : sh_in (zI d + 1) 4 := by rw [i1]; exact pi_in (by omega) (by omega)
      have in0 : sh_in (zI d) 4 := pi_in (by omega) (by omega)
      have in3 : sh_in (zI d) 3 := pi_in (by omega) (by omega)
      have hwl := wd_le (P := P) (L := D) (p := p) (q := q)
      have pd1 := (pdm (P := P) (p := p) hqn).1
      have pd2 := (pdm (P := P) (p := p) hqn).2
      have hqs : zI q + 1 = zI ((q + 1 : Nat) : Int) := zI_s1 q
      have hhd : ∀ E : sh_Mem → Option (Int32 × sh_Mem), E m2 = E m2 := fun E => rfl
      by_cases cw2 : wd P D p q = 2
      · -- he shrugs
        have d2 : zI (wd P D p q) = 2 := by rw [cw2]; rfl
        obtain ⟨m3, hm3⟩ : ∃ m, m = sh_setI m2 262 d (zI ((8 * p + q : Nat) : Int)) := ⟨_, rfl⟩
        have f3 : sh_fr (nP t d) m2 m3 := by rw [hm3]; exact sh_fr_I sh_fr.rf (by unfold nP; omega)
        have hS3 := hS2.fr (by omega) f3
        have hD3 : sm_cL m3 (263 + 6 * (d + 1)) P (aL P D p q) := b2.cg (fun j hj => by rw [hm3, ir_set_r (by omega)])
        obtain ⟨m4, r1, r2, r3⟩ := IH (aL P D p q) m3 ⟨hS3.1, hD3, aL_in hl, by rw [aL_d]; exact hdd, hS3.2.2.2.2⟩
        have f4 : sh_fr (nP t d) m3 m4 := r2.mono (fun r k z => by unfold nP at z ⊢; omega)
        have hm3' : sh_setI m2 262 (zI d).toNatClampNeg (8 * zI p + zI q) = m3 := by
          rw [hm3, tcN (by omega), show (8 : Int32) = zI 8 from rfl, zI_mul, zI_add]
          congr 2
        have r1' : rec 0 (zI d + 1) (zI ask) 0 m3 = some (zI (bI (prr P (pgl up ht st S0) n (aL P D p q)).isSome), m4) := by rw [i1]; exact r1
        have h262 : sh_i m4 262 d = zI ((8 * p + q : Nat) : Int) := by rw [r2.i _ _ (by unfold nP; omega), hm3, ir_set]
        cases er : prr P (pgl up ht st S0) n (aL P D p q) with
        | some r =>
          rw [er] at r1' r3
          have hps : pst P D (prr P (pgl up ht st S0) n) (p * sp_nt P + q) = some ((8 * p + q) :: r) := by
            have := pst_s (P := P) (L := D) (R := prr P (pgl up ht st S0) n) (a := p * sp_nt P + q) (r := r) (by rw [pd1, pd2]; exact cw2) (by rw [pd1, pd2]; exact er)
            rw [pd1, pd2] at this
            exact this
          rw [fs_s hps]
          refine ⟨m4, ?_, f1.trans (f2.trans (f3.trans f4)), fun r' h i hi => ?_⟩
          · have r1'' : rec 0 (zI d + 1) (zI ask) 0 m3 = some (1, m4) := r1'
            rw [F_X7_goesOnBy, shr_ap w1, if_pos ⟨w1, w2⟩, shl_ap, if_neg a1]
            cases tr with
            | false => rw [if_pos (by rfl), if_pos in1, if_pos in0, c1', shv_ap, if_pos in1, b1', shb_ap, if_pos d2, if_pos in3, shl_ap, hm3', r1'', shb_ap, if_neg (by decide)]; rfl
            | true =>
              have ht1 : tc = true := by
                cases tc with
                | true => rfl
                | false => exact absurd ⟨rfl, rfl⟩ cs
              subst ht1
              rw [if_neg (by decide), if_neg (by rw [u6]; decide), if_pos in1, if_pos in0, c1', shv_ap, if_pos in1, b1', shb_ap, if_pos d2, if_pos in3, shl_ap, hm3', r1'', shb_ap, if_neg (by decide)]; rfl
          · cases h
            cases i with
            | zero => exact h262
            | succ i =>
              have := r3 r rfl i (by have : i + 1 < r.length + 1 := hi; omega)
              rw [show d + (i + 1) = d + 1 + i by omega]
              exact this
        | none =>
          rw [er] at r1'
          have hps : pst P D (prr P (pgl up ht st S0) n) (p * sp_nt P + q) = none := pst_n (by rw [pd1, pd2]; exact er)
          rw [fs_n hps, Nat.add_assoc]
          obtain ⟨μ', k1, k2, k3⟩ := ih f (q + 1) true m4 (by omega) (by omega) (hS3.fr (by omega) f4) (fun _ => ⟨q, hqn, cw2, er⟩)
          refine ⟨μ', ?_, f1.trans (f2.trans (f3.trans (f4.trans k2))), k3⟩
          have r1'' : rec 0 (zI d + 1) (zI ask) 0 m3 = some (0, m4) := r1'
          rw [← k1, F_X7_goesOnBy, shr_ap w1, if_pos ⟨w1, w2⟩, shl_ap, if_neg a1]
          cases tr with
          | false => rw [if_pos (by rfl), if_pos in1, if_pos in0, c1', shv_ap, if_pos in1, b1', shb_ap, if_pos d2, if_pos in3, shl_ap, hm3', r1'', shb_ap, if_pos rfl, hqs]; rfl
          | true =>
            have ht1 : tc = true := by
              cases tc with
              | true => rfl
              | false => exact absurd ⟨rfl, rfl⟩ cs
            subst ht1
            rw [if_neg (by decide), if_neg (by rw [u6]; decide), if_pos in1, if_pos in0, c1', shv_ap, if_pos in1, b1', shb_ap, if_pos d2, if_pos in3, shl_ap, hm3', r1'', shb_ap, if_pos rfl, hqs]; rfl
      · have d2 : ¬ zI (wd P D p q) = 2 := fun z => by
          have := (zI_eq (a := (wd P D p q : Int)) (b := 2) (by omega) (by omega) (by omega) (by omega)).mp z
          omega
        have hps : pst P D (prr P (pgl up ht st S0) n) (p * sp_nt P + q) = none := pst_no (by rw [pd1, pd2]; exact cw2)
        rw [fs_n hps, Nat.add_assoc]
        obtain ⟨μ', k1, k2, k3⟩ := ih f (q + 1) tr m2 (by omega) (by omega) hS2 htr
        refine ⟨μ', ?_, f1.trans (f2.trans k2), k3⟩
        rw [← k1, F_X7_goesOnBy, shr_ap w1, if_pos ⟨w1, w2⟩, shl_ap, if_neg a1]
        cases tr with
        | false => rw [if_pos (by rfl), if_pos in1, if_pos in0, c1', shv_ap, if_pos in1, b1', shb_ap, if_neg d2, hqs]
        | true =>
          have ht1 : tc = true := by
            cases tc with
            | true => rfl
            | false => exact absurd ⟨rfl, rfl⟩ cs
          subst ht1
          rw [if_neg (by decide), if_neg (by rw [u6]; decide), if_pos in1, if_pos in0, c1', shv_ap, if_pos in1, b1', shb_ap, if_neg d2, hqs]
end Pk
