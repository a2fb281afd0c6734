/-! plans: the class -/
theorem sg_ok_rng {kd : Nat} {res : Bool} : ∀ (l : List Nat) (B : List Bool), sg_ok kd res l B → ∀ t ∈ l, t ≤ 23 ∨ (100 ≤ t ∧ t ≤ 10099)
  | [], _, _, t, ht => by cases ht
  | a :: l, B, h, t, ht => by
    obtain ⟨B', h1, -, h2⟩ := h
    rcases List.mem_cons.mp ht with rfl | ht
    · rcases sg_st_rng h1 with q | q | ⟨q, -⟩ | q | ⟨q, -⟩ | q
      · exact Or.inr q
      · exact Or.inl (by omega)
      · exact Or.inl (by omega)
      · exact Or.inl (by omega)
      · exact Or.inl (by omega)
      · exact Or.inl (by omega)
    · exact sg_ok_rng l B' h2 t ht
theorem sg_c4 {t : Nat} (h : t ≤ 23 ∨ (100 ≤ t ∧ t ≤ 10099)) : -1000 ≤ sg_c t ∧ sg_c t ≤ 10000 ∧ (sg_c t = -4 ↔ t = 4) := by
  rcases h with h | h
  · have : ∀ t : Nat, t < 24 → -1000 ≤ sg_c t ∧ sg_c t ≤ 10000 ∧ (sg_c t = -4 ↔ t = 4) := by decide +kernel
    exact this t (by omega)
  · rw [sg_num h.1]
    omega
theorem cl_names1 {μ : sh_Mem} {f : Nat} {l : List Nat} (hm : sm_form μ f l) (hl : l.length ≤ 1600) (hr : ∀ t ∈ l, t ≤ 23 ∨ (100 ≤ t ∧ t ≤ 10099)) : ∀ (g fu i : Nat), i + g = l.length → g < fu → ((∀ j, i ≤ j → j < l.length → ¬ l.getD j 0 = 4) ∧ F_X1_names fu 1 f 3 (zI i) μ = some (0, μ)) ∨ (¬ (∀ j, i ≤ j → j < l.length → ¬ l.getD j 0 = 4) ∧ F_X1_names fu 1 f 3 (zI i) μ = some (1, μ)) := by
  obtain ⟨m1, m2⟩ := hm
  rw [nI_z] at m1
  intro g
  induction g with
  | zero =>
    intro fu i hi hf
    obtain ⟨fu, rfl⟩ : ∃ q, fu = q + 1 := ⟨fu - 1, by omega⟩
    refine Or.inl ⟨fun j h1 h2 => by omega, ?_⟩
    have a1 : sh_i μ f 1 ≤ zI i := by
      rw [m1]
      exact (zI_le (by omega) (by omega) (by omega) (by omega)).mpr (by omega)
    rw [F_X1_names, if_pos a1]
  | succ g ih =>
    intro fu i hi hf
    obtain ⟨fu, rfl⟩ : ∃ q, fu = q + 1 := ⟨fu - 1, by omega⟩
    have a1 : ¬ sh_i μ f 1 ≤ zI i := by
      rw [m1]
      intro z
      have := (zI_le (by omega) (by omega) (by omega) (by omega)).mp z
      omega
    have a2 : ¬ Int32.ofNat 1600 ≤ zI i := by
      intro z
      rw [ofN_z] at z
      have := (zI_le (by omega) (by omega) (by omega) (by omega)).mp z
      omega
    have a4 : sh_in (zI i) 1600 := (zI_in (by omega)).mpr (by omega)
    have e : sh_i μ (f + 1) (zI i).toNatClampNeg = zI (sg_c (l.getD i 0)) := by rw [tcN (by omega)]; exact m2 i (by omega)
    have hmem : l.getD i 0 ∈ l := by
      rw [List.getD_eq_getElem?_getD, List.getElem?_eq_getElem (show i < l.length by omega)]
      exact List.getElem_mem _
    obtain ⟨s1, s2, s3⟩ := sg_c4 (hr _ hmem)
    have e4 : (-1 : Int32) - 3 = zI (-4) := by decide
    by_cases c : l.getD i 0 = 4
    · refine Or.inr ⟨fun z => z i (by omega) (by omega) c, ?_⟩
      have b : sh_i μ (f + 1) (zI i).toNatClampNeg = (-1) - 3 := by rw [e, e4, s3.mpr c]
      rw [F_X1_names, if_neg a1, if_neg a2, if_pos a4, if_pos b]
    · have b : ¬ sh_i μ (f + 1) (zI i).toNatClampNeg = (-1) - 3 := by
        rw [e, e4]
        intro z
        exact c (s3.mp ((zI_eq (by omega) (by omega) (by omega) (by omega)).mp z))
      rw [F_X1_names, if_neg a1, if_neg a2, if_pos a4, if_neg b, zI_s1]
      rcases ih fu (i + 1) (by omega) (by omega) with ⟨q1, q2⟩ | ⟨q1, q2⟩
      · refine Or.inl ⟨fun j h1 h2 => ?_, q2⟩
        by_cases z : j = i
        · subst z; exact c
        · exact q1 j (by omega) h2
      · exact Or.inr ⟨fun z => q1 (fun j h1 h2 => z j (by omega) h2), q2⟩
theorem cl_names {μ : sh_Mem} {f : Nat} {l : List Nat} (hm : sm_form μ f l) (hl : l.length ≤ 1600) (hr : ∀ t ∈ l, t ≤ 23 ∨ (100 ≤ t ∧ t ≤ 10099)) : ((∀ t ∈ l, ¬ t = 4) ∧ f_X1_names f 3 μ = some (0, μ)) ∨ (¬ (∀ t ∈ l, ¬ t = 4) ∧ f_X1_names f 3 μ = some (1, μ)) := by
  rcases cl_names1 hm hl hr l.length sh_fuel 0 (by omega) (by rw [sh_fuel_eq]; omega) with ⟨q1, q2⟩ | ⟨q1, q2⟩
  · refine Or.inl ⟨fun t ht z => ?_, q2⟩
    obtain ⟨i, hi, e⟩ := List.getElem_of_mem ht
    refine q1 i (by omega) hi ?_
    rw [List.getD_eq_getElem?_getD, List.getElem?_eq_getElem hi, ← z]
    exact e
  · refine Or.inr ⟨fun z => q1 (fun j h1 h2 => z _ ?_), q2⟩
    rw [List.getD_eq_getElem?_getD, List.getElem?_eq_getElem h2]
    exact List.getElem_mem _
section Pk
variable {t : Nat} {P : sp_T} {D : sl_T}
theorem cl_topics {μ : sh_Mem} (hP : sm_cP μ t P) (hk : sp_ok P) (hc : 0 < sp_c P) : (noT P ∧ f_X5_topicCounts t μ = some (0, μ)) ∨ (¬ noT P ∧ f_X5_topicCounts t μ = some (1, μ)) := by
  obtain ⟨⟨a1, a2⟩, ⟨b1, b2⟩, ⟨res, c1, -⟩, c2⟩ := sp_forms hk hc
  obtain ⟨-, -, -, -, -, -, -, -, -, f1, f2, f3⟩ := hP
  unfold f_X5_topicCounts
  rcases cl_names f1 a2 (sg_ok_rng _ _ a1) with ⟨x1, x2⟩ | ⟨x1, x2⟩
  · rcases cl_names f2 b2 (sg_ok_rng _ _ b1) with ⟨y1, y2⟩ | ⟨y1, y2⟩
    · rcases cl_names f3 c2 (sg_ok_rng _ _ c1) with ⟨z1, z2⟩ | ⟨z1, z2⟩
      · refine Or.inl ⟨⟨x1, y1, z1⟩, ?_⟩
        rw [x2, shb_ap, if_pos rfl, y2, shb_ap, if_pos rfl, z2, shb_ap, if_pos rfl]
      · refine Or.inr ⟨fun w => z1 w.2.2, ?_⟩
        rw [x2, shb_ap, if_pos rfl, y2, shb_ap, if_pos rfl, z2, shb_ap, if_neg (by decide)]
    · refine Or.inr ⟨fun w => y1 w.2.1, ?_⟩
      rw [x2, shb_ap, if_pos rfl, y2, shb_ap, if_neg (by decide)]
  · refine Or.inr ⟨fun w => x1 w.1, ?_⟩
    rw [x2, shb_ap, if_neg (by decide)]
theorem cl_may {μ : sh_Mem} {r p c w b : Nat} (hw : cw μ t P) (hD : sm_cL μ r P D) (hl : sl_in P D) (hp : p < sp_np P) (hc : c < sp_c P * sp_r P) (hwl : w ≤ 99) (hb : b ≤ 3) [Decidable (bsd P D p c)] : f_X7_mayRise r (zI c) (zI w) (zI p) (zI b) μ = some (if sl_h D c + 9 * b + (if bsd P D p c then 9 else 0) < w then 0 else 1, μ) := sorry
/-- what the planner holds: cells, heights; the land that so many askings have left -/
def pS (t : Nat) (P : sp_T) (up ht st S0 : Nat) (tc : Bool) (μ : sh_Mem) (d : Nat) (D : sl_T) : Prop := cw μ t P ∧ sm_cL μ (263 + 6 * d) P D ∧ sl_in P D ∧ sl_d D ≤ 1000 ∧ sh_i μ 260 3 = zI up ∧ sh_i μ 260 4 = zI ht ∧ sh_i μ 260 5 = zI st ∧ sh_i μ 260 6 = zI (bI tc) ∧ sh_i μ 264 st = zI S0
def nP (t d a k : Nat) : Prop := (269 + 6 * d ≤ a ∧ a ≤ 286) ∨ (a = 262 ∧ d ≤ k) ∨ (a = 55 ∧ 1 ≤ k) ∨ a = 56 ∨ a = t + 7 ∨ a = t + 10 ∨ a = t + 13
def pR (μ : sh_Mem) (d : Nat) (o : Option (List Nat)) : Prop := ∀ r, o = some r → ∀ i, i < r.length → sh_i μ 262 (d + i) = zI (r.getD i 0)
theorem pS.fr {up ht st S0 d : Nat} {tc : Bool} {μ μ' : sh_Mem} (h : pS t P up ht st S0 tc μ d D) (hd : d ≤ 3) (hf : sh_fr (nP t d) μ μ') : pS t P up ht st S0 tc μ' d D := by
  obtain ⟨h1, h2, h3, h4, h5, h6, h7, h8, h9⟩ := h
  have htt := sh_isP_r h1.2.1
  have e : ∀ k, sh_i μ' 260 k = sh_i μ 260 k := fun k => hf.i _ _ (by unfold nP; omega)
  exact ⟨h1.cg hf.1 (fun j hj j7 j10 => hf.row _ (fun k => by unfold nP; omega)), h2.cg (fun j hj => hf.row _ (fun k => by unfold nP; omega)), h3, h4, (e 3).trans h5, (e 4).trans h6, (e 5).trans h7, (e 6).trans h8, (hf.i _ _ (by unfold nP; omega)).trans h9⟩
theorem pi_in {d n : Nat} (hd : d < n) (hn : n ≤ 100) : sh_in (zI d) n := (zI_in (by omega)).mpr (by omega)
/-- one who is asked, topic by topic -/
theorem cl_by {rec : Nat → Int32 → Int32 → Int32 → sh_Mem → Option (Int32 × sh_Mem)} {up ht st S0 d n ask p : Nat} {tc : Bool} (hk : sp_ok P) (hd : d < 3) (hask : d + n + 1 = ask) (hask3 : ask ≤ 3) (hp : p < sp_np P) (hl : sl_in P D) (hdd : sl_d D ≤ 1000) (htc : tc = false → noT P)
    (IH : ∀ (D' : sl_T) (μ : sh_Mem), pS t P up ht st S0 tc μ (d + 1) D' → ∃ μ', rec 0 (zI ((d + 1 : Nat) : Int)) (zI ask) 0 μ = some (zI (bI (prr P (pgl up ht st S0) n D').isSome), μ') ∧ sh_fr (nP t (d + 1)) μ μ' ∧ pR μ' (d + 1) (prr P (pgl up ht st S0) n D')) :
    ∀ (g f q : Nat) (tr : Bool) (μ : sh_Mem), q + g = sp_nt P → g < f → pS t P up ht st S0 tc μ d D → (tr = true → ∃ q0, q0 < sp_nt P ∧ wd P D p q0 = 2 ∧ prr P (pgl up ht st S0) n (aL P D p q0) = none) → ∃ μ', F_X7_goesOnBy rec f 1 (zI p) (zI d) (zI ask) (zI (bI tr)) (zI q) μ = some (zI (bI (fs (pst P D (prr P (pgl up ht st S0) n)) g (p * sp_nt P + q)).isSome), μ') ∧ sh_fr (nP t d) μ μ' ∧ pR μ' d (fs (pst P D (prr P (pgl up ht st S0) n)) g (p * sp_nt P + q)) := sorry
end Pk
