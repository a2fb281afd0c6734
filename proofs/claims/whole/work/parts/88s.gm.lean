/-! THE REFERENCE reads sums and tests: what it has written, what waits -/
/-- a sign as the reference writes it -/
def gm (t : Nat) : Nat := (sg_m t).toNat
/-- written C, waiting W (the latest last), o open, from b on -/
def mW (μ : sh_Mem) (C W : List Nat) (o b : Nat) : Prop := sh_i μ 291 103 = zI C.length ∧ (∀ j, j < C.length → sh_i μ 364 j = zI (C.getD j 0)) ∧ sh_i μ 291 105 = zI W.length ∧ (∀ j, j < W.length → sh_i μ 365 j = zI (W.getD j 0)) ∧ sh_i μ 291 106 = zI o ∧ sh_i μ 291 107 = zI b
def nWq (r k : Nat) : Prop := r = 364 ∨ r = 365 ∨ (r = 291 ∧ (k = 103 ∨ k = 105 ∨ k = 106 ∨ k = 107))
theorem gD_l {l : List Nat} {x j : Nat} (h : j < l.length) : (l ++ [x]).getD j 0 = l.getD j 0 := by
  rw [List.getD_eq_getElem?_getD, List.getD_eq_getElem?_getD, List.getElem?_append_left h]
theorem gD_e {l : List Nat} {x : Nat} : (l ++ [x]).getD l.length 0 = x := by
  rw [List.getD_eq_getElem?_getD, List.getElem?_append_right (Nat.le_refl _), Nat.sub_self]
  rfl
theorem len1 {l : List Nat} {x : Nat} : (l ++ [x]).length = l.length + 1 := List.length_append
section Gm
variable {μ : sh_Mem} {C W : List Nat} {o b : Nat}
theorem mW.cg {μ' : sh_Mem} (h : mW μ C W o b) (e1 : ∀ k, k = 103 ∨ k = 105 ∨ k = 106 ∨ k = 107 → sh_i μ' 291 k = sh_i μ 291 k) (e2 : sh_i μ' 364 = sh_i μ 364) (e3 : sh_i μ' 365 = sh_i μ 365) : mW μ' C W o b := by
  unfold mW at *
  rw [e1 103 (by omega), e1 105 (by omega), e1 106 (by omega), e1 107 (by omega), e2, e3]
  exact h
theorem rf_qCode {x : Nat} (h : mW μ C W o b) (hC : C.length < 1700) : ∃ μ', f_X12_qCode (zI x) μ = some μ' ∧ sh_fr nWq μ μ' ∧ mW μ' (C ++ [x]) W o b := by
  obtain ⟨h1, h2, h3, h4, h5, h6⟩ := h
  have tc : (zI (C.length : Int)).toNatClampNeg = C.length := tcN (by omega)
  refine ⟨sh_setI (sh_setI μ 364 C.length (zI x)) 291 103 (zI C.length + 1), ?_, sh_fr_I (sh_fr_I sh_fr.rf (by unfold nWq; omega)) (by unfold nWq; omega), ?_, fun j hj => ?_, ?_, fun j hj => ?_, ?_, ?_⟩
  · unfold f_X12_qCode
    rw [h1, if_pos ((zI_in (by omega)).mpr (by omega)), tc, shl_ap, show sh_i (sh_setI μ 364 C.length (zI x)) 291 103 = zI C.length by rw [ir_set_r (by omega), h1], shl_ap]
  · rw [ir_set, zI_s1, len1]
  · rw [len1] at hj
    rw [ir_set_r (by omega)]
    by_cases z : j = C.length
    · rw [z, ir_set, gD_e]
    · rw [ir_set_k z, gD_l (by omega)]
      exact h2 j (by omega)
  · rw [ir_set_k (by omega), ir_set_r (by omega), h3]
  · rw [ir_set_r (by omega), ir_set_r (by omega)]
    exact h4 j hj
  · rw [ir_set_k (by omega), ir_set_r (by omega), h5]
  · rw [ir_set_k (by omega), ir_set_r (by omega), h6]
theorem rf_qDrops {x : Nat} (h : mW μ C (W ++ [x]) o b) (hC : C.length < 1700) (hW : W.length < 1700) : ∃ μ', f_X12_qDrops μ = some μ' ∧ sh_fr nWq μ μ' ∧ mW μ' (C ++ [x]) W o b := by
  obtain ⟨h1, h2, h3, h4, h5, h6⟩ := h
  rw [len1] at h3 h4
  have e1 : zI ((W.length + 1 : Nat) : Int) - 1 = zI (W.length : Int) := by
    rw [show (1 : Int32) = zI 1 from rfl, zI_sub]
    congr 1
    omega
  obtain ⟨m1, hm1⟩ : ∃ m, m = sh_setI μ 291 105 (zI W.length) := ⟨_, rfl⟩
  have f1 : sh_fr nWq μ m1 := by rw [hm1]; exact sh_fr_I sh_fr.rf (by unfold nWq; omega)
  have h105 : sh_i m1 291 105 = zI W.length := by rw [hm1, ir_set]
  have hm : mW m1 C W o b := by
    refine ⟨by rw [hm1, ir_set_k (by omega), h1], fun j hj => by rw [hm1, ir_set_r (by omega)]; exact h2 j hj, h105, fun j hj => ?_, by rw [hm1, ir_set_k (by omega), h5], by rw [hm1, ir_set_k (by omega), h6]⟩
    rw [hm1, ir_set_r (by omega), h4 j (by omega), gD_l hj]
  have hx : sh_i m1 365 (zI (W.length : Int)).toNatClampNeg = zI x := by
    rw [tcN (by omega), hm1, ir_set_r (by omega), h4 _ (by omega), gD_e]
  obtain ⟨m2, k1, k2, k3⟩ := rf_qCode (x := x) hm hC
  refine ⟨m2, ?_, f1.trans k2, k3⟩
  unfold f_X12_qDrops
  rw [h3, e1, ← hm1, shl_ap, h105, if_pos ((zI_in (by omega)).mpr (by omega)), hx, k1, shv_ap]
/-- whether x waits last -/
theorem rf_qIsOn {x : Nat} (h : mW μ C W o b) (hW : W.length < 1700) (hx : x < 1000 ∧ ∀ y ∈ W, y < 1000) : ∃ q : Bool, f_X12_qIsOn (zI x) μ = some (zI (bI q), μ) ∧ (q = true ↔ ∃ W', W = W' ++ [x]) := by
  obtain ⟨h1, h2, h3, h4, h5, h6⟩ := h
  unfold f_X12_qIsOn
  rw [h3]
  rcases List.eq_nil_or_concat W with rfl | ⟨W', y, rfl⟩
  · refine ⟨false, ?_, fun z => (by cases z), fun ⟨W', z⟩ => ?_⟩
    · rw [if_pos (show zI (([] : List Nat).length : Int) ≤ 0 from zI_yes (b := 0) (by show (0 : Int) ≤ 0; omega) (by show -2147483648 ≤ (0 : Int) ∧ _; omega))]
      rfl
    · have := congrArg List.length z
      rw [len1] at this
      exact absurd this (by show ¬ 0 = _; omega)
  · rw [List.concat_eq_append] at *
    rw [len1] at h4 hW ⊢
    have e1 : zI ((W'.length + 1 : Nat) : Int) - 1 = zI (W'.length : Int) := by
      rw [show (1 : Int32) = zI 1 from rfl, zI_sub]
      congr 1
      omega
    have hy := hx.2 y (by rw [List.mem_append]; exact Or.inr (List.mem_singleton.mpr rfl))
    have hv : sh_i μ 365 (zI (W'.length : Int)).toNatClampNeg = zI y := by rw [tcN (by omega), h4 _ (by omega), gD_e]
    have np : ¬ zI ((W'.length + 1 : Nat) : Int) ≤ 0 := zI_not (a := 0) (by omega) (by omega)
    rw [if_neg np, e1, if_pos ((zI_in (by omega)).mpr (by omega)), hv]
    by_cases c : y = x
    · refine ⟨true, ?_, fun _ => ⟨W', by rw [c]⟩, fun _ => rfl⟩
      rw [if_pos (show zI (y : Int) = zI (x : Int) by rw [c])]
      rfl
    · refine ⟨false, ?_, fun z => (by cases z), fun ⟨W2, z⟩ => ?_⟩
      · rw [if_neg (fun z => c (by have := (zI_eq (by omega) (by omega) (by omega) (by omega)).mp z; omega))]
        rfl
      · have := (List.append_inj' z rfl).2
        exact absurd (List.head_eq_of_cons_eq this) c
end Gm
