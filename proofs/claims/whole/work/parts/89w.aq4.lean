/-! ASK: the class's answer -/
section Aq4
variable {μ : sh_Mem} {P : sp_T} {L : sl_T} {t : Nat}
theorem cl_namesQ {l : List Nat} (h : sm_form μ 3 l) (hl : l.length ≤ 1600) (hs : ∀ x ∈ l, (x < 24 ∨ 100 ≤ x) ∧ x ≤ 10099) : ∀ (g f i : Nat), i + g = l.length → g < f → F_X1_names f 1 3 10 (zI i) μ = some (zI (bI (decide (10 ∈ l.drop i))), μ) := by
  have h1 := h.1
  rw [nI_z] at h1
  have inj : ∀ x, ((x < 24 ∨ 100 ≤ x) ∧ x ≤ 10099) → (sg_c x = -11 ↔ x = 10) := fun x hx => by
    unfold sg_c
    by_cases c : 100 ≤ x
    · rw [if_pos c]; omega
    · rw [if_neg c]
      have : ∀ x : Nat, x < 24 → (([-7, -15, -16, -17, -4, -18, -19, -20, -21, -8, -11, -143, -145, -142, -147, -26, -27, -160, -162, -161, -23, -22, -24, 1] : List Int).getD x 0 = -11 ↔ x = 10) := by decide
      exact this x (by omega)
  have sb : ∀ x, ((x < 24 ∨ 100 ≤ x) ∧ x ≤ 10099) → -1000 ≤ sg_c x ∧ sg_c x ≤ 10000 := fun x hx => by
    unfold sg_c
    by_cases c : 100 ≤ x
    · rw [if_pos c]; omega
    · rw [if_neg c]
      have : ∀ x : Nat, x < 24 → (-1000 ≤ ([-7, -15, -16, -17, -4, -18, -19, -20, -21, -8, -11, -143, -145, -142, -147, -26, -27, -160, -162, -161, -23, -22, -24, 1] : List Int).getD x 0 ∧ ([-7, -15, -16, -17, -4, -18, -19, -20, -21, -8, -11, -143, -145, -142, -147, -26, -27, -160, -162, -161, -23, -22, -24, 1] : List Int).getD x 0 ≤ 10000) := by decide
      exact this x (by omega)
  intro g
  induction g with
  | zero =>
    intro f i hi hf
    obtain ⟨f, rfl⟩ : ∃ f', f = f' + 1 := ⟨f - 1, by omega⟩
    rw [F_X1_names, h1, if_pos (zI_yes (by omega) (by omega)), List.drop_eq_nil_of_le (by omega), decide_eq_false (fun z => (by cases z))]
    rfl
  | succ g ih =>
    intro f i hi hf
    obtain ⟨f, rfl⟩ : ∃ f', f = f' + 1 := ⟨f - 1, by omega⟩
    have hd : l.drop i = l.getD i 0 :: l.drop (i + 1) := by
      rw [List.drop_eq_getElem_cons (show i < l.length by omega), List.getD_eq_getElem?_getD, List.getElem?_eq_getElem (show i < l.length by omega)]
      rfl
    have hx := hs _ (gD_m (l := l) (j := i) (by omega))
    have hsb := sb _ hx
    have hv : sh_i μ (3 + 1) (zI (i : Int)).toNatClampNeg = zI (sg_c (l.getD i 0)) := by rw [tcN (by omega)]; exact h.2 i (by omega)
    rw [F_X1_names, h1, if_neg (zI_not (by omega) (by omega)), ofN_z, if_neg (zI_not (by omega) (by omega)), if_pos ((zI_in (by omega)).mpr (by omega)), hv, show ((-1 : Int32) - 10) = zI (-11) from rfl, hd]
    by_cases c : l.getD i 0 = 10
    · rw [if_pos (by rw [(inj _ hx).mpr c]), decide_eq_true (List.mem_cons.mpr (Or.inl c.symm))]
      rfl
    · rw [if_neg (fun z => c ((inj _ hx).mp ((zI_eq (by omega) (by omega) (by omega) (by omega)).mp z))), zI_s1, ih f (i + 1) (by omega) (by omega)]
      by_cases c2 : 10 ∈ l.drop (i + 1)
      · rw [decide_eq_true c2, decide_eq_true (List.mem_cons.mpr (Or.inr c2))]
      · rw [decide_eq_false c2, decide_eq_false (fun z => by
          rcases List.mem_cons.mp z with z | z
          · exact c z.symm
          · exact c2 z)]
/-- signs that stand as they must -/
theorem sg_okR {kd : Nat} {res : Bool} : ∀ (l : List Nat) (B : List Bool), sg_ok kd res l B → ∀ x ∈ l, (x < 24 ∨ 100 ≤ x) ∧ x ≤ 10099
  | [], _, _, x, hx => (by cases hx)
  | a :: l, B, ⟨B1, h1, _, h3⟩, x, hx => by
    rcases List.mem_cons.mp hx with z | z
    · rw [z]
      rcases sg_st_rng h1 with q | q | ⟨q, -⟩ | q | ⟨q, -⟩ | q <;> omega
    · exact sg_okR l B1 h3 x z
/-- the facts of one -/
def dsN (t r k : Nat) : Prop := r = 28 ∨ (r = 55 ∧ 1 ≤ k) ∨ (56 ≤ r ∧ r ≤ 62) ∨ r = t + 7 ∨ r = t + 10 ∨ r = t + 13
theorem cl_dsc {p : Nat} {b : Bool} (hr0 : sh_r μ 55 0 = some t) (ht : sh_isP t) (hk : sp_ok P) (hl : sl_in P L) (hd : sl_d L ≤ 999) (hp : p < sp_np P) : ∀ (g f q : Nat) (m : sh_Mem), q + g = 5 → g < f → sh_r m = sh_r μ → sm_cP m t P → sm_cL m 49 P L → (∀ q', q' < q → sh_i m 28 (33 + q') = zI (wQ P L p b (q' : Nat))) → ∃ m', F_X10_describe f 1 49 (zI p) 28 (zI (bI b)) (zI q) m = some m' ∧ sh_fr (dsN t) m m' ∧ (∀ k, k < 33 → sh_i m' 28 k = sh_i m 28 k) ∧ (∀ q', q' < 5 → sh_i m' 28 (33 + q') = zI (wQ P L p b (q' : Nat))) := sorry
end Aq4
