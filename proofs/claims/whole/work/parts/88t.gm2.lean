/-! THE REFERENCE: brackets, words -/
def nZq (r k : Nat) : Prop := nM r k ∨ nWq r k
theorem nZq_M {r k : Nat} (h : nM r k) : nZq r k := Or.inl h
theorem nZq_L {r k : Nat} (h : nLk r k) : nZq r k := Or.inl (nLk_M h)
theorem nZq_W {r k : Nat} (h : nWq r k) : nZq r k := Or.inr h
/-- the latest that waits -/
def tp (W : List Nat) : Nat := W.getLast?.getD 0
theorem tp_e {W : List Nat} {x : Nat} : tp (W ++ [x]) = x := by
  unfold tp
  rw [List.getLast?_append]
  rfl
theorem tp_iff {W : List Nat} {x : Nat} (hx : 0 < x) : (∃ W', W = W' ++ [x]) ↔ tp W = x := by
  constructor
  · rintro ⟨W', rfl⟩
    exact tp_e
  · intro h
    rcases List.eq_nil_or_concat W with rfl | ⟨W', y, rfl⟩
    · exact absurd (show 0 = x from h) (by omega)
    · rw [List.concat_eq_append] at *
      rw [tp_e] at h
      exact ⟨W', by rw [h]⟩
section Gm2
variable {T : Nat → Nat} {n : Nat} {μ μ' : sh_Mem} {s : xs} {C W : List Nat} {o b : Nat}
theorem mS.le (h : mS μ T n s) : s.1 ≤ n ∧ n ≤ 1600 := by
  obtain ⟨h1, h2, h3, e, d, d1, d2, d3, d4⟩ := h
  rw [← d3]
  exact ⟨(xS_le d1).2, h1.1⟩
theorem mS.fW (h : mS μ T n s) (f : sh_fr nWq μ μ') : mS μ' T n s := by
  obtain ⟨h1, h2, h3, e, d, d1, d2, d3, d4, d5⟩ := h
  exact ⟨h1.cg (f.row 292 (fun k => by unfold nWq; omega)), by rw [f.i 291 3 (by unfold nWq; omega)]; exact h2, by rw [f.i 291 5 (by unfold nWq; omega)]; exact h3, e, d, d1, by rw [f.i 291 2 (by unfold nWq; omega)]; exact d2, d3, by rw [f.i 291 4 (by unfold nWq; omega)]; exact d4, d5⟩
theorem mN.fW (h : mN μ T n s) (f : sh_fr nWq μ μ') : mN μ' T n s := by
  obtain ⟨h1, h2, h3, h4, h5, h6, d, d1, d2⟩ := h
  exact ⟨h1.cg (f.row 292 (fun k => by unfold nWq; omega)), by rw [f.i 291 3 (by unfold nWq; omega)]; exact h2, by rw [f.i 291 5 (by unfold nWq; omega)]; exact h3, h4, by rw [f.i 291 2 (by unfold nWq; omega)]; exact h5, h6, d, by rw [f.i 291 4 (by unfold nWq; omega)]; exact d1, d2⟩
theorem mW.fM (h : mW μ C W o b) (f : sh_fr nM μ μ') : mW μ' C W o b := h.cg (fun k hk => f.i 291 k (by unfold nM; omega)) (f.row 364 (fun k => by unfold nM; omega)) (f.row 365 (fun k => by unfold nM; omega))
theorem mW.fL (h : mW μ C W o b) (f : sh_fr nLk μ μ') : mW μ' C W o b := h.fM (f.mono (fun _ _ z => nLk_M z))
/-- the cells of words for questions -/
def qw (j : Nat) : Nat := ([23, 22, 21, 24, 25, 26, 6, 14, 15, 16, 3, 17, 18, 19, 20, 7, 10] : List Nat).getD j 0
theorem qw_lt : ∀ j, j < 17 → qw j < 33 := by decide
def hB (μ : sh_Mem) : Prop := ∀ j, j < 17 → hW μ (347 + j) (qw j)
theorem hB.fr (h : hB μ) (f : sh_fr nZq μ μ') : hB μ' := fun j hj k hk => by
  rw [f.i _ _ (by unfold nZq nM nWq; omega)]
  exact h j hj k hk
theorem rf_qOpens {x p : Nat} (h5 : sh_i μ 291 5 = 0) (h : mW μ C W o b) (hW : W.length < 1700) (ho : o < 6) : ∃ μ', f_X12_qOpens (zI x) (zI p) μ = some μ' ∧ sh_fr nWq μ μ' ∧ mW μ' C (W ++ [x]) (o + 1) b := by
  obtain ⟨h1, h2, h3, h4, h6, h7⟩ := h
  have tc : (zI (W.length : Int)).toNatClampNeg = W.length := tcN (by omega)
  refine ⟨sh_setI (sh_setI (sh_setI μ 291 106 (zI o + 1)) 365 W.length (zI x)) 291 105 (zI W.length + 1), ?_, sh_fr_I (sh_fr_I (sh_fr_I sh_fr.rf (by unfold nWq; omega)) (by unfold nWq; omega)) (by unfold nWq; omega), ?_, fun j hj => ?_, ?_, fun j hj => ?_, ?_, ?_⟩
  · unfold f_X12_qOpens
    have n6 : ¬ zI (o : Int) = 6 := fun z => by
      have := (zI_eq (b := 6) (by omega) (by omega) (by omega) (by omega)).mp z
      omega
    rw [h5, if_pos rfl, h6, if_neg n6, shl_ap, show sh_i (sh_setI μ 291 106 (zI (o : Int) + 1)) 291 105 = zI W.length by rw [ir_set_k (by omega), h3], if_pos ((zI_in (by omega)).mpr (by omega)), tc, shl_ap, show sh_i (sh_setI (sh_setI μ 291 106 (zI (o : Int) + 1)) 365 W.length (zI x)) 291 105 = zI W.length by rw [ir_set_r (by omega), ir_set_k (by omega), h3], shl_ap]
  · rw [ir_set_k (by omega), ir_set_r (by omega), ir_set_k (by omega), h1]
  · rw [ir_set_r (by omega), ir_set_r (by omega), ir_set_r (by omega)]
    exact h2 j hj
  · rw [ir_set, zI_s1, len1]
  · rw [len1] at hj
    rw [ir_set_r (by omega)]
    by_cases z : j = W.length
    · rw [z, ir_set, gD_e]
    · rw [ir_set_k z, ir_set_r (by omega), gD_l (by omega)]
      exact h4 j (by omega)
  · rw [ir_set_k (by omega), ir_set_r (by omega), ir_set, zI_s1]
  · rw [ir_set_k (by omega), ir_set_r (by omega), ir_set_k (by omega), h7]
theorem rf_qOpensX {x p : Nat} (h5 : sh_i μ 291 5 = 0) (h : mW μ C W o b) (ho : o = 6) : ∃ μ', f_X12_qOpens (zI x) (zI p) μ = some μ' ∧ sh_fr nM μ μ' ∧ sh_i μ' 291 5 = zI 4 ∧ sh_i μ' 291 6 = zI p := by
  obtain ⟨h1, h2, h3, h4, h6, h7⟩ := h
  obtain ⟨m, r1, r2, r3⟩ := rf_fail (T := fun _ => 0) (n := 0) (μ := μ) (k := 4) (p := p) h5
  have r1' : f_X12_fail 4 (zI (p : Int)) μ = some m := r1
  refine ⟨m, ?_, r2, r3⟩
  unfold f_X12_qOpens
  rw [h5, if_pos rfl, h6, ho, if_pos (show zI ((6 : Nat) : Int) = 6 from rfl), r1', shv_ap]
theorem rf_qCodeA {v : Int32} {c : Nat} (h : sh_i μ 291 103 = zI c) (hc : c < 1700) : ∃ μ', f_X12_qCode v μ = some μ' ∧ sh_fr nWq μ μ' ∧ sh_i μ' 291 103 = zI ((c + 1 : Nat) : Int) := by
  have tc : (zI (c : Int)).toNatClampNeg = c := tcN (by omega)
  refine ⟨sh_setI (sh_setI μ 364 c v) 291 103 (zI c + 1), ?_, sh_fr_I (sh_fr_I sh_fr.rf (by unfold nWq; omega)) (by unfold nWq; omega), ?_⟩
  · unfold f_X12_qCode
    rw [h, if_pos ((zI_in (by omega)).mpr (by omega)), tc, shl_ap, show sh_i (sh_setI μ 364 c v) 291 103 = zI c by rw [ir_set_r (by omega), h], shl_ap]
  · rw [ir_set, zI_s1]
theorem rf_isBr {x : Nat} (hx : x < 1000) : f_X12_qIsBracket μ (zI x) = if 20 ≤ x ∧ x ≤ 24 then 1 else 0 := by
  unfold f_X12_qIsBracket
  by_cases c : x < 20
  · rw [if_pos (show zI (x : Int) < 20 from (zI_lt (b := 20) (by omega) (by omega) (by omega) (by omega)).mpr (by omega)), if_neg (by omega)]
  · rw [if_neg (show ¬ zI (x : Int) < 20 from fun z => by have := (zI_lt (b := 20) (by omega) (by omega) (by omega) (by omega)).mp z; omega)]
    by_cases c2 : x ≤ 24
    · rw [if_neg (show ¬ (24 : Int32) < zI (x : Int) from fun z => by have := (zI_lt (a := 24) (by omega) (by omega) (by omega) (by omega)).mp z; omega), if_pos (by omega)]
    · rw [if_pos (show (24 : Int32) < zI (x : Int) from (zI_lt (a := 24) (by omega) (by omega) (by omega) (by omega)).mpr (by omega)), if_neg (by omega)]
/-- the latest bracket from b on -/
theorem gD_m {l : List Nat} {j : Nat} (h : j < l.length) : l.getD j 0 ∈ l := by
  rw [List.getD_eq_getElem?_getD, List.getElem?_eq_getElem h]
  exact List.getElem_mem h
theorem rf_br2 {x : Nat} {A P : List Nat} (h : mW μ C (A ++ [x] ++ P) o b) (hb : b ≤ A.length) (hW : (A ++ [x] ++ P).length < 1700) (hx : 20 ≤ x ∧ x ≤ 24) (hP : ∀ y ∈ P, y < 20) : ∀ (g f : Nat), g ≤ P.length → g < f → F_X12_qBracket f 1 (zI ((A.length + g : Nat) : Int)) μ = some (zI x, μ) := by
  have lW : (A ++ [x] ++ P).length = A.length + 1 + P.length := by rw [List.length_append, len1]
  rw [lW] at hW
  obtain ⟨h1, h2, h3, h4, h6, h7⟩ := h
  rw [lW] at h4
  intro g
  induction g with
  | zero =>
    intro f _ hf
    obtain ⟨f, rfl⟩ : ∃ f', f = f' + 1 := ⟨f - 1, by omega⟩
    have hv : sh_i μ 365 (zI ((A.length + 0 : Nat) : Int)).toNatClampNeg = zI x := by
      rw [tcN (by omega), h4 _ (by omega), List.getD_eq_getElem?_getD, List.getElem?_append_left (by rw [len1]; omega), ← List.getD_eq_getElem?_getD, Nat.add_zero, gD_e]
    have nb : ¬ zI ((A.length + 0 : Nat) : Int) < zI b := fun z => by
      have := (zI_lt (by omega) (by omega) (by omega) (by omega)).mp z
      omega
    rw [F_X12_qBracket, h7, if_neg nb, if_pos ((zI_in (by omega)).mpr (by omega)), hv, rf_isBr (by omega), if_pos hx, if_neg (by decide), if_neg nb, if_pos ((zI_in (by omega)).mpr (by omega))]
  | succ g ih =>
    intro f hg hf
    obtain ⟨f, rfl⟩ : ∃ f', f = f' + 1 := ⟨f - 1, by omega⟩
    have e1 : (A ++ [x] ++ P).getD (A.length + (g + 1)) 0 = P.getD g 0 := by
      rw [List.getD_eq_getElem?_getD, List.getElem?_append_right (by rw [len1]; omega), len1, List.getD_eq_getElem?_getD, show A.length + (g + 1) - (A.length + 1) = g by omega]
    have hv : sh_i μ 365 (zI ((A.length + (g + 1) : Nat) : Int)).toNatClampNeg = zI (P.getD g 0 : Nat) := by
      rw [tcN (by omega), h4 _ (by omega), e1]
    have hy := hP _ (gD_m (l := P) (j := g) (by omega))
    have nb : ¬ zI ((A.length + (g + 1) : Nat) : Int) < zI b := fun z => by
      have := (zI_lt (by omega) (by omega) (by omega) (by omega)).mp z
      omega
    have e2 : zI ((A.length + (g + 1) : Nat) : Int) + (-1) = zI ((A.length + g : Nat) : Int) := by
      rw [show (-1 : Int32) = zI (-1) from rfl, zI_add]
      congr 1
      omega
    rw [F_X12_qBracket, h7, if_neg nb, if_pos ((zI_in (by omega)).mpr (by omega)), hv, rf_isBr (by omega), if_neg (show ¬ (20 ≤ P.getD g 0 ∧ P.getD g 0 ≤ 24) by omega), if_pos rfl, e2]
    exact ih f (by omega) (by omega)
theorem rf_qBracket {x : Nat} {A P : List Nat} (h : mW μ C (A ++ [x] ++ P) o b) (hb : b ≤ A.length) (hW : (A ++ [x] ++ P).length < 1700) (hx : 20 ≤ x ∧ x ≤ 24) (hP : ∀ y ∈ P, y < 20) : f_X12_qBracket μ = some (zI x, μ) := by
  have h0 := rf_br2 h hb hW hx hP P.length sh_fuel (Nat.le_refl _) (by rw [List.length_append, len1] at hW; rw [sh_fuel_eq]; omega)
  unfold f_X12_qBracket
  have e : zI (((A ++ [x] ++ P).length : Nat) : Int) - 1 = zI ((A.length + P.length : Nat) : Int) := by
    rw [show (1 : Int32) = zI 1 from rfl, zI_sub, List.length_append, len1]
    congr 1
    omega
  rw [h.2.2.1, e, shl_ap]
  exact h0
theorem rf_br3 {P : List Nat} (h : mW μ C (W ++ P) o b) (hb : W.length = b) (hW : (W ++ P).length < 1700) (hP : ∀ y ∈ P, y < 20) : ∀ (g f : Nat), g ≤ P.length → g < f → F_X12_qBracket f 1 (zI ((b + g : Nat) : Int) - 1) μ = some (-1, μ) := by
  rw [List.length_append] at hW
  obtain ⟨h1, h2, h3, h4, h6, h7⟩ := h
  rw [List.length_append] at h4
  intro g
  induction g with
  | zero =>
    intro f _ hf
    obtain ⟨f, rfl⟩ : ∃ f', f = f' + 1 := ⟨f - 1, by omega⟩
    have yb : zI ((b + 0 : Nat) : Int) - 1 < zI b := by
      rw [show (1 : Int32) = zI 1 from rfl, zI_sub]
      exact (zI_lt (by omega) (by omega) (by omega) (by omega)).mpr (by omega)
    rw [F_X12_qBracket, h7, if_pos yb, if_pos yb]
  | succ g ih =>
    intro f hg hf
    obtain ⟨f, rfl⟩ : ∃ f', f = f' + 1 := ⟨f - 1, by omega⟩
    have e0 : zI ((b + (g + 1) : Nat) : Int) - 1 = zI ((b + g : Nat) : Int) := by
      rw [show (1 : Int32) = zI 1 from rfl, zI_sub]
      congr 1
      omega
    have e1 : (W ++ P).getD (b + g) 0 = P.getD g 0 := by
      rw [List.getD_eq_getElem?_getD, List.getElem?_append_right (by omega), List.getD_eq_getElem?_getD, show b + g - W.length = g by omega]
    have hv : sh_i μ 365 (zI ((b + g : Nat) : Int)).toNatClampNeg = zI (P.getD g 0 : Nat) := by
      rw [tcN (by omega), h4 _ (by omega), e1]
    have hy := hP _ (gD_m (l := P) (j := g) (by omega))
    have nb : ¬ zI ((b + g : Nat) : Int) < zI b := fun z => by
      have := (zI_lt (by omega) (by omega) (by omega) (by omega)).mp z
      omega
    have e2 : zI ((b + g : Nat) : Int) + (-1) = zI ((b + g : Nat) : Int) - 1 := by
      rw [show (-1 : Int32) = zI (-1) from rfl, show (1 : Int32) = zI 1 from rfl, zI_add, zI_sub]
      congr 1
    rw [e0, F_X12_qBracket, h7, if_neg nb, if_pos ((zI_in (by omega)).mpr (by omega)), hv, rf_isBr (by omega), if_neg (show ¬ (20 ≤ P.getD g 0 ∧ P.getD g 0 ≤ 24) by omega), if_pos rfl, e2]
    exact ih f (by omega) (by omega)
theorem rf_qBracketN {P : List Nat} (h : mW μ C (W ++ P) o b) (hb : W.length = b) (hW : (W ++ P).length < 1700) (hP : ∀ y ∈ P, y < 20) : f_X12_qBracket μ = some (-1, μ) := by
  have h0 := rf_br3 h hb hW hP P.length sh_fuel (Nat.le_refl _) (by rw [List.length_append] at hW; rw [sh_fuel_eq]; omega)
  unfold f_X12_qBracket
  rw [h.2.2.1, shl_ap, List.length_append, hb]
  exact h0
/-- all behind the latest bracket is written -/
theorem rf_toBr {x : Nat} {A : List Nat} (hb : b ≤ A.length) (hx : 20 ≤ x ∧ x ≤ 24) : ∀ (k f : Nat) (P C : List Nat) (μ : sh_Mem), P.length = k → k < f → mW μ C (A ++ [x] ++ P) o b → (A ++ [x] ++ P).length + C.length < 1700 → (∀ y ∈ P, y < 20) → ∃ μ', F_X12_qDropsToBracket f 1 μ = some μ' ∧ sh_fr nWq μ μ' ∧ mW μ' (C ++ P.reverse) (A ++ [x]) o b := by
  intro k
  induction k with
  | zero =>
    intro f P C μ hk hf h hl hP
    have : P = [] := List.eq_nil_of_length_eq_zero hk
    subst this
    rw [List.append_nil] at h hl
    obtain ⟨f, rfl⟩ : ∃ f', f = f' + 1 := ⟨f - 1, by omega⟩
    refine ⟨μ, ?_, sh_fr.rf, by rw [List.reverse_nil, List.append_nil]; exact h⟩
    obtain ⟨h1, h2, h3, h4, h6, h7⟩ := h
    rw [len1] at h3 h4 hl
    have e1 : zI ((A.length + 1 : Nat) : Int) - 1 = zI (A.length : Int) := by
      rw [show (1 : Int32) = zI 1 from rfl, zI_sub]
      congr 1
      omega
    rw [F_X12_qDropsToBracket, h3, h7, if_neg (zI_not (by omega) (by omega)), e1, if_pos ((zI_in (by omega)).mpr (by omega)), tcN (by omega), h4 _ (by omega), gD_e, rf_isBr (by omega), if_pos hx, if_neg (by decide)]
  | succ k ih =>
    intro f P C μ hk hf h hl hP
    rcases List.eq_nil_or_concat P with rfl | ⟨P', y, rfl⟩
    · cases hk
    rw [List.concat_eq_append] at *
    rw [len1] at hk
    have hy := hP y (by rw [List.mem_append]; exact Or.inr (List.mem_singleton.mpr rfl))
    rw [← List.append_assoc] at h hl
    rw [len1] at hl
    obtain ⟨f, rfl⟩ : ∃ f', f = f' + 1 := ⟨f - 1, by omega⟩
    obtain ⟨m1, k1, k2, k3⟩ := rf_qDrops h (by omega) (by omega)
    obtain ⟨m2, r1, r2, r3⟩ := ih f P' (C ++ [y]) m1 (by omega) (by omega) k3 (by rw [len1]; omega) (fun z hz => hP z (by rw [List.mem_append]; exact Or.inl hz))
    refine ⟨m2, ?_, k2.trans r2, ?_⟩
    · obtain ⟨h1, h2, h3, h4, h6, h7⟩ := h
      rw [len1] at h3 h4
      have lA : (A ++ [x] ++ P').length = A.length + 1 + P'.length := by rw [List.length_append, len1]
      have e1 : zI (((A ++ [x] ++ P').length + 1 : Nat) : Int) - 1 = zI ((A ++ [x] ++ P').length : Int) := by
        rw [show (1 : Int32) = zI 1 from rfl, zI_sub]
        congr 1
        omega
      rw [F_X12_qDropsToBracket, h3, h7, if_neg (zI_not (by omega) (by omega)), e1, if_pos ((zI_in (by omega)).mpr (by omega)), tcN (by omega), h4 _ (by omega), gD_e, rf_isBr (by omega), if_neg (show ¬ (20 ≤ y ∧ y ≤ 24) by omega), if_pos rfl, k1, shv_ap]
      exact r1
    · rw [List.reverse_append, List.reverse_singleton, ← List.append_assoc]
      exact r3
theorem rf_qToBr {x : Nat} {A P : List Nat} (h : mW μ C (A ++ [x] ++ P) o b) (hb : b ≤ A.length) (hx : 20 ≤ x ∧ x ≤ 24) (hl : (A ++ [x] ++ P).length + C.length < 1700) (hP : ∀ y ∈ P, y < 20) : ∃ μ', f_X12_qDropsToBracket μ = some μ' ∧ sh_fr nWq μ μ' ∧ mW μ' (C ++ P.reverse) (A ++ [x]) o b := rf_toBr hb hx P.length sh_fuel P C μ rfl (by rw [List.length_append, len1] at hl; rw [sh_fuel_eq]; omega) h hl hP
/-- words: which of those that parts begin with -/
def kq (x : Int) : Int := if x = 6 then 0 else if x = 14 then 1 else if x = 15 then 2 else if x = 16 then 3 else if x = 3 then 4 else if x = 17 then 5 else if x = 18 then 6 else if x = 19 then 7 else if x = 20 then 8 else if x = 7 then 9 else if x = 10 then 10 else -1
theorem rf_qWordHere (h : mS μ T n s) (hw : hB μ) : ∃ μ', f_X12_qWordHere μ = some (zI (kq (xw T n s)), μ') ∧ sh_fr nLk μ μ' ∧ mN μ' T n s := by
  have st : ∀ (m : sh_Mem) (j : Nat), j < 11 → mS m T n s → sh_fr nLk μ m → ∃ m', f_X12_isHere (347 + (6 + j)) (WD.getD (qw (6 + j)) []).length m = some (zI (bI (decide (xw T n s = (qw (6 + j) : Int)))), m') ∧ sh_fr nLk μ m' ∧ mN m' T n s := fun m j h1 h2 h3 => by
    obtain ⟨m', a, b, c⟩ := rf_isHere h2 (qw_lt (6 + j) (by omega)) (hw.fr (h3.mono (fun _ _ z => nZq_L z)) (6 + j) (by omega)) (by omega)
    exact ⟨m', a, h3.trans b, c⟩
  unfold f_X12_qWordHere kq
  obtain ⟨m0, k0, f0, n0⟩ := st μ 0 (by omega) h sh_fr.rf
  have k0' : f_X12_isHere 353 5 μ = some (zI (bI (decide (xw T n s = (6 : Int)))), m0) := k0
  rw [k0', shb_ap]
  by_cases c0 : xw T n s = (6 : Int)
  · rw [decide_eq_true c0, if_neg (show ¬ zI (bI true) = 0 by decide), if_pos c0]
    exact ⟨m0, rfl, f0, n0⟩
  rw [decide_eq_false c0, if_pos (show zI (bI false) = 0 from rfl), if_neg c0]
  obtain ⟨m1, k1, f1, n1⟩ := st m0 1 (by omega) n0.S f0
  have k1' : f_X12_isHere 354 6 m0 = some (zI (bI (decide (xw T n s = (14 : Int)))), m1) := k1
  rw [k1', shb_ap]
  by_cases c1 : xw T n s = (14 : Int)
  · rw [decide_eq_true c1, if_neg (show ¬ zI (bI true) = 0 by decide), if_pos c1]
    exact ⟨m1, rfl, f1, n1⟩
  rw [decide_eq_false c1, if_pos (show zI (bI false) = 0 from rfl), if_neg c1]
  obtain ⟨m2, k2, f2, n2⟩ := st m1 2 (by omega) n1.S f1
  have k2' : f_X12_isHere 355 5 m1 = some (zI (bI (decide (xw T n s = (15 : Int)))), m2) := k2
  rw [k2', shb_ap]
  by_cases c2 : xw T n s = (15 : Int)
  · rw [decide_eq_true c2, if_neg (show ¬ zI (bI true) = 0 by decide), if_pos c2]
    exact ⟨m2, rfl, f2, n2⟩
  rw [decide_eq_false c2, if_pos (show zI (bI false) = 0 from rfl), if_neg c2]
  obtain ⟨m3, k3, f3, n3⟩ := st m2 3 (by omega) n2.S f2
  have k3' : f_X12_isHere 356 3 m2 = some (zI (bI (decide (xw T n s = (16 : Int)))), m3) := k3
  rw [k3', shb_ap]
  by_cases c3 : xw T n s = (16 : Int)
  · rw [decide_eq_true c3, if_neg (show ¬ zI (bI true) = 0 by decide), if_pos c3]
    exact ⟨m3, rfl, f3, n3⟩
  rw [decide_eq_false c3, if_pos (show zI (bI false) = 0 from rfl), if_neg c3]
  obtain ⟨m4, k4, f4, n4⟩ := st m3 4 (by omega) n3.S f3
  have k4' : f_X12_isHere 357 5 m3 = some (zI (bI (decide (xw T n s = (3 : Int)))), m4) := k4
  rw [k4', shb_ap]
  by_cases c4 : xw T n s = (3 : Int)
  · rw [decide_eq_true c4, if_neg (show ¬ zI (bI true) = 0 by decide), if_pos c4]
    exact ⟨m4, rfl, f4, n4⟩
  rw [decide_eq_false c4, if_pos (show zI (bI false) = 0 from rfl), if_neg c4]
  obtain ⟨m5, k5, f5, n5⟩ := st m4 5 (by omega) n4.S f4
  have k5' : f_X12_isHere 358 4 m4 = some (zI (bI (decide (xw T n s = (17 : Int)))), m5) := k5
  rw [k5', shb_ap]
  by_cases c5 : xw T n s = (17 : Int)
  · rw [decide_eq_true c5, if_neg (show ¬ zI (bI true) = 0 by decide), if_pos c5]
    exact ⟨m5, rfl, f5, n5⟩
  rw [decide_eq_false c5, if_pos (show zI (bI false) = 0 from rfl), if_neg c5]
  obtain ⟨m6, k6, f6, n6⟩ := st m5 6 (by omega) n5.S f5
  have k6' : f_X12_isHere 359 6 m5 = some (zI (bI (decide (xw T n s = (18 : Int)))), m6) := k6
  rw [k6', shb_ap]
  by_cases c6 : xw T n s = (18 : Int)
  · rw [decide_eq_true c6, if_neg (show ¬ zI (bI true) = 0 by decide), if_pos c6]
    exact ⟨m6, rfl, f6, n6⟩
  rw [decide_eq_false c6, if_pos (show zI (bI false) = 0 from rfl), if_neg c6]
  obtain ⟨m7, k7, f7, n7⟩ := st m6 7 (by omega) n6.S f6
  have k7' : f_X12_isHere 360 6 m6 = some (zI (bI (decide (xw T n s = (19 : Int)))), m7) := k7
  rw [k7', shb_ap]
  by_cases c7 : xw T n s = (19 : Int)
  · rw [decide_eq_true c7, if_neg (show ¬ zI (bI true) = 0 by decide), if_pos c7]
    exact ⟨m7, rfl, f7, n7⟩
  rw [decide_eq_false c7, if_pos (show zI (bI false) = 0 from rfl), if_neg c7]
  obtain ⟨m8, k8, f8, n8⟩ := st m7 8 (by omega) n7.S f7
  have k8' : f_X12_isHere 361 3 m7 = some (zI (bI (decide (xw T n s = (20 : Int)))), m8) := k8
  rw [k8', shb_ap]
  by_cases c8 : xw T n s = (20 : Int)
  · rw [decide_eq_true c8, if_neg (show ¬ zI (bI true) = 0 by decide), if_pos c8]
    exact ⟨m8, rfl, f8, n8⟩
  rw [decide_eq_false c8, if_pos (show zI (bI false) = 0 from rfl), if_neg c8]
  obtain ⟨m9, k9, f9, n9⟩ := st m8 9 (by omega) n8.S f8
  have k9' : f_X12_isHere 362 5 m8 = some (zI (bI (decide (xw T n s = (7 : Int)))), m9) := k9
  rw [k9', shb_ap]
  by_cases c9 : xw T n s = (7 : Int)
  · rw [decide_eq_true c9, if_neg (show ¬ zI (bI true) = 0 by decide), if_pos c9]
    exact ⟨m9, rfl, f9, n9⟩
  rw [decide_eq_false c9, if_pos (show zI (bI false) = 0 from rfl), if_neg c9]
  obtain ⟨m10, k10, f10, n10⟩ := st m9 10 (by omega) n9.S f9
  have k10' : f_X12_isHere 363 5 m9 = some (zI (bI (decide (xw T n s = (10 : Int)))), m10) := k10
  rw [k10', shb_ap]
  by_cases c10 : xw T n s = (10 : Int)
  · rw [decide_eq_true c10, if_neg (show ¬ zI (bI true) = 0 by decide), if_pos c10]
    exact ⟨m10, rfl, f10, n10⟩
  rw [decide_eq_false c10, if_pos (show zI (bI false) = 0 from rfl), if_neg c10]
  exact ⟨m10, rfl, f10, n10⟩
theorem rf_qAsks {k : Nat} (h : mS μ T n s) (hw : hB μ) (hk : k < 11) : ∃ μ', f_X12_qAsksWord (zI k) μ = some μ' ∧ sh_fr nM μ μ' ∧ mO μ' T n (x_word T n (qw (6 + k)) s) := by
  obtain ⟨m, k1, k2, k3⟩ := rf_word h (qw_lt (6 + k) (by omega)) (hw (6 + k) (by omega)) (by omega)
  refine ⟨m, ?_, k2, k3⟩
  match k, hk with
  | 0, _ =>
    have k1' : f_X12_needs 353 5 μ = some m := k1
    unfold f_X12_qAsksWord
    rw [if_pos (show zI ((0 : Nat) : Int) = 0 from rfl), k1', shv_ap]
  | 1, _ =>
    have k1' : f_X12_needs 354 6 μ = some m := k1
    unfold f_X12_qAsksWord
    rw [if_neg (show ¬ zI ((1 : Nat) : Int) = 0 by decide), if_pos (show zI ((1 : Nat) : Int) = 1 from rfl), k1', shv_ap]
  | 2, _ =>
    have k1' : f_X12_needs 355 5 μ = some m := k1
    unfold f_X12_qAsksWord
    rw [if_neg (show ¬ zI ((2 : Nat) : Int) = 0 by decide), if_neg (show ¬ zI ((2 : Nat) : Int) = 1 by decide), if_pos (show zI ((2 : Nat) : Int) = 2 from rfl), k1', shv_ap]
  | 3, _ =>
    have k1' : f_X12_needs 356 3 μ = some m := k1
    unfold f_X12_qAsksWord
    rw [if_neg (show ¬ zI ((3 : Nat) : Int) = 0 by decide), if_neg (show ¬ zI ((3 : Nat) : Int) = 1 by decide), if_neg (show ¬ zI ((3 : Nat) : Int) = 2 by decide), if_pos (show zI ((3 : Nat) : Int) = 3 from rfl), k1', shv_ap]
  | 4, _ =>
    have k1' : f_X12_needs 357 5 μ = some m := k1
    unfold f_X12_qAsksWord
    rw [if_neg (show ¬ zI ((4 : Nat) : Int) = 0 by decide), if_neg (show ¬ zI ((4 : Nat) : Int) = 1 by decide), if_neg (show ¬ zI ((4 : Nat) : Int) = 2 by decide), if_neg (show ¬ zI ((4 : Nat) : Int) = 3 by decide), if_pos (show zI ((4 : Nat) : Int) = 4 from rfl), k1', shv_ap]
  | 5, _ =>
    have k1' : f_X12_needs 358 4 μ = some m := k1
    unfold f_X12_qAsksWord
    rw [if_neg (show ¬ zI ((5 : Nat) : Int) = 0 by decide), if_neg (show ¬ zI ((5 : Nat) : Int) = 1 by decide), if_neg (show ¬ zI ((5 : Nat) : Int) = 2 by decide), if_neg (show ¬ zI ((5 : Nat) : Int) = 3 by decide), if_neg (show ¬ zI ((5 : Nat) : Int) = 4 by decide), if_pos (show zI ((5 : Nat) : Int) = 5 from rfl), k1', shv_ap]
  | 6, _ =>
    have k1' : f_X12_needs 359 6 μ = some m := k1
    unfold f_X12_qAsksWord
    rw [if_neg (show ¬ zI ((6 : Nat) : Int) = 0 by decide), if_neg (show ¬ zI ((6 : Nat) : Int) = 1 by decide), if_neg (show ¬ zI ((6 : Nat) : Int) = 2 by decide), if_neg (show ¬ zI ((6 : Nat) : Int) = 3 by decide), if_neg (show ¬ zI ((6 : Nat) : Int) = 4 by decide), if_neg (show ¬ zI ((6 : Nat) : Int) = 5 by decide), if_pos (show zI ((6 : Nat) : Int) = 6 from rfl), k1', shv_ap]
  | 7, _ =>
    have k1' : f_X12_needs 360 6 μ = some m := k1
    unfold f_X12_qAsksWord
    rw [if_neg (show ¬ zI ((7 : Nat) : Int) = 0 by decide), if_neg (show ¬ zI ((7 : Nat) : Int) = 1 by decide), if_neg (show ¬ zI ((7 : Nat) : Int) = 2 by decide), if_neg (show ¬ zI ((7 : Nat) : Int) = 3 by decide), if_neg (show ¬ zI ((7 : Nat) : Int) = 4 by decide), if_neg (show ¬ zI ((7 : Nat) : Int) = 5 by decide), if_neg (show ¬ zI ((7 : Nat) : Int) = 6 by decide), if_pos (show zI ((7 : Nat) : Int) = 7 from rfl), k1', shv_ap]
  | 8, _ =>
    have k1' : f_X12_needs 361 3 μ = some m := k1
    unfold f_X12_qAsksWord
    rw [if_neg (show ¬ zI ((8 : Nat) : Int) = 0 by decide), if_neg (show ¬ zI ((8 : Nat) : Int) = 1 by decide), if_neg (show ¬ zI ((8 : Nat) : Int) = 2 by decide), if_neg (show ¬ zI ((8 : Nat) : Int) = 3 by decide), if_neg (show ¬ zI ((8 : Nat) : Int) = 4 by decide), if_neg (show ¬ zI ((8 : Nat) : Int) = 5 by decide), if_neg (show ¬ zI ((8 : Nat) : Int) = 6 by decide), if_neg (show ¬ zI ((8 : Nat) : Int) = 7 by decide), if_pos (show zI ((8 : Nat) : Int) = 8 from rfl), k1', shv_ap]
  | 9, _ =>
    have k1' : f_X12_needs 362 5 μ = some m := k1
    unfold f_X12_qAsksWord
    rw [if_neg (show ¬ zI ((9 : Nat) : Int) = 0 by decide), if_neg (show ¬ zI ((9 : Nat) : Int) = 1 by decide), if_neg (show ¬ zI ((9 : Nat) : Int) = 2 by decide), if_neg (show ¬ zI ((9 : Nat) : Int) = 3 by decide), if_neg (show ¬ zI ((9 : Nat) : Int) = 4 by decide), if_neg (show ¬ zI ((9 : Nat) : Int) = 5 by decide), if_neg (show ¬ zI ((9 : Nat) : Int) = 6 by decide), if_neg (show ¬ zI ((9 : Nat) : Int) = 7 by decide), if_neg (show ¬ zI ((9 : Nat) : Int) = 8 by decide), if_pos (show zI ((9 : Nat) : Int) = 9 from rfl), k1', shv_ap]
  | 10, _ =>
    have k1' : f_X12_needs 363 5 μ = some m := k1
    unfold f_X12_qAsksWord
    rw [if_neg (show ¬ zI ((10 : Nat) : Int) = 0 by decide), if_neg (show ¬ zI ((10 : Nat) : Int) = 1 by decide), if_neg (show ¬ zI ((10 : Nat) : Int) = 2 by decide), if_neg (show ¬ zI ((10 : Nat) : Int) = 3 by decide), if_neg (show ¬ zI ((10 : Nat) : Int) = 4 by decide), if_neg (show ¬ zI ((10 : Nat) : Int) = 5 by decide), if_neg (show ¬ zI ((10 : Nat) : Int) = 6 by decide), if_neg (show ¬ zI ((10 : Nat) : Int) = 7 by decide), if_neg (show ¬ zI ((10 : Nat) : Int) = 8 by decide), if_neg (show ¬ zI ((10 : Nat) : Int) = 9 by decide), k1', shv_ap]
theorem rf_asksX {v : Int32} (h : ¬ sh_i μ 291 5 = 0) : f_X12_qAsksWord v μ = some μ := by
  have e : ∀ g k, f_X12_needs g k μ = some μ := fun g k => if_neg h
  unfold f_X12_qAsksWord
  simp only [e, shv_ap, ite_self]
/-- what may stand where -/
def kM (kd : Nat) : Int := if kd = 0 then 1 else if kd = 1 then 0 else 2
def al (kd k : Nat) : Bool := if kd = 0 then decide (k < 6) else if kd = 1 then decide (k < 5) else decide (k < 4 ∨ 5 < k)
theorem al_iff {kd k : Nat} : al kd k = true ↔ sg_may kd k := by
  unfold al sg_may
  split
  · exact decide_eq_true_iff
  · split
    · exact decide_eq_true_iff
    · exact decide_eq_true_iff
def wf (kd : Nat) (lo hi y : Int32) : Int32 := if y < lo then -1 else if hi ≤ y then -1 else if (if zI (kM kd) = 0 then (if 5 ≤ y then (0 : Int32) else 1) else (if zI (kM kd) = 1 then (if 6 ≤ y then 0 else 1) else (if y < 4 then 1 else (if y ≤ 5 then 0 else 1)))) = 0 then -1 else y
theorem wf9 : ∀ kd, kd < 3 → ∀ j : Nat, j < 34 → wf kd 0 9 (zI (kq ((j : Int) - 1))) = if gW ((j : Int) - 1) < 9 ∧ al kd (gW ((j : Int) - 1)) = true then zI (gW ((j : Int) - 1)) else -1 := by decide +kernel
theorem wf11 : ∀ kd, kd < 3 → ∀ j : Nat, j < 34 → wf kd 9 11 (zI (kq ((j : Int) - 1))) = if kd = 2 ∧ ((j : Int) - 1 = 7 ∨ (j : Int) - 1 = 10) then (if (j : Int) - 1 = 7 then 9 else 10) else -1 := by decide +kernel
theorem rf_wordOf {kd : Nat} {lo hi : Int32} (h : mS μ T n s) (hw : hB μ) (h51 : sh_i μ 291 51 = zI (kM kd)) : ∃ μ', f_X12_qWordOf lo hi μ = some (wf kd lo hi (zI (kq (xw T n s))), μ') ∧ sh_fr nLk μ μ' ∧ mN μ' T n s := by
  obtain ⟨m, k1, k2, k3⟩ := rf_qWordHere h hw
  refine ⟨m, ?_, k2, k3⟩
  have h51' : sh_i m 291 51 = zI (kM kd) := by rw [k2.i 291 51 (by unfold nLk; omega)]; exact h51
  unfold f_X12_qWordOf f_X12_isAllowed wf
  rw [k1, shb_ap, h51']
  generalize zI (kq (xw T n s)) = y
  generalize (if zI (kM kd) = 0 then (if 5 ≤ y then (0 : Int32) else 1) else (if zI (kM kd) = 1 then (if 6 ≤ y then 0 else 1) else (if y < 4 then 1 else (if y ≤ 5 then 0 else 1)))) = z
  by_cases c1 : y < lo
  · rw [if_pos c1, if_pos c1]
  · rw [if_neg c1, if_neg c1]
    by_cases c2 : hi ≤ y
    · rw [if_pos c2, if_pos c2]
    · rw [if_neg c2, if_neg c2]
      by_cases c3 : z = 0
      · rw [if_pos c3, if_pos c3]
      · rw [if_neg c3, if_neg c3]
theorem rf_word9 {kd : Nat} (hk : kd < 3) (h : mS μ T n s) (hw : hB μ) (h51 : sh_i μ 291 51 = zI (kM kd)) : ∃ v μ', f_X12_qWordOf 0 9 μ = some (v, μ') ∧ sh_fr nLk μ μ' ∧ mN μ' T n s ∧ (gW (xw T n s) < 9 ∧ sg_may kd (gW (xw T n s)) → v = zI (gW (xw T n s))) ∧ (¬ (gW (xw T n s) < 9 ∧ sg_may kd (gW (xw T n s))) → v = -1) := by
  obtain ⟨m, k1, k2, k3⟩ := rf_wordOf (lo := 0) (hi := 9) h hw h51
  have hb := xw_b (T := T) (n := n) (s := s)
  have e := wf9 kd hk (xw T n s + 1).toNat (by omega)
  rw [show (((xw T n s + 1).toNat : Int) - 1) = xw T n s by omega] at e
  refine ⟨_, m, k1, k2, k3, fun z => ?_, fun z => ?_⟩
  · rw [e, if_pos ⟨z.1, al_iff.mpr z.2⟩]
  · rw [e, if_neg (fun q => z ⟨q.1, al_iff.mp q.2⟩)]
theorem rf_word11 {kd : Nat} (hk : kd < 3) (h : mS μ T n s) (hw : hB μ) (h51 : sh_i μ 291 51 = zI (kM kd)) : ∃ v μ', f_X12_qWordOf 9 11 μ = some (v, μ') ∧ sh_fr nLk μ μ' ∧ mN μ' T n s ∧ (kd = 2 ∧ (xw T n s = 7 ∨ xw T n s = 10) → v = if xw T n s = 7 then 9 else 10) ∧ (¬ (kd = 2 ∧ (xw T n s = 7 ∨ xw T n s = 10)) → v = -1) := by
  obtain ⟨m, k1, k2, k3⟩ := rf_wordOf (lo := 9) (hi := 11) h hw h51
  have hb := xw_b (T := T) (n := n) (s := s)
  have e := wf11 kd hk (xw T n s + 1).toNat (by omega)
  rw [show (((xw T n s + 1).toNat : Int) - 1) = xw T n s by omega] at e
  refine ⟨_, m, k1, k2, k3, fun z => ?_, fun z => ?_⟩
  · rw [e, if_pos z]
  · rw [e, if_neg z]
end Gm2
