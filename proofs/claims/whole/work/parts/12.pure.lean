/-! pure rows -/
theorem sh_ind {P : Nat → Prop} (h : ∀ k, (∀ j, j < k → P j) → P k) (k : Nat) : P k := Nat.strongRecOn k h
theorem nI_lt' {a b : Nat} (h : nI a < nI b) (ha : a < 2 ^ 31) (hb : b < 2 ^ 31) : a < b := (nI_ltI ha hb).mp h
theorem nI_le' {a b : Nat} (h : nI a ≤ nI b) (ha : a < 2 ^ 31) (hb : b < 2 ^ 31) : a ≤ b := (nI_leI ha hb).mp h
theorem nI_lit (n : Nat) : (OfNat.ofNat n : Int32) = nI n := rfl
theorem sh_x {a b : Nat} {p q : Prop} (h : p ↔ q) : p = q := propext h
theorem sh_i_set {μ : sh_Mem} {r k r' k' : Nat} {x : Int32} : sh_i (sh_setI μ r k x) r' k' = if r' = r ∧ k' = k then x else sh_i μ r' k' := by
  show sh_row _ r _ r' k' = _
  by_cases h : r' = r
  · subst h
    rw [sh_row_s]
    by_cases h2 : k' = k
    · subst h2; simp [va_up]
    · simp [va_up, h2]
  · rw [sh_row_n h]; simp [h]
theorem sh_i_row {μ : sh_Mem} {r r' : Nat} {g : Nat → Int32} : sh_i (sh_rowI μ r g) r' = if r' = r then g else sh_i μ r' := rfl
theorem sh_l_set {μ : sh_Mem} {r k r' k' : Nat} {x : Int64} : sh_l (sh_setL μ r k x) r' k' = if r' = r ∧ k' = k then x else sh_l μ r' k' := by
  show sh_row _ r _ r' k' = _
  by_cases h : r' = r
  · subst h
    rw [sh_row_s]
    by_cases h2 : k' = k
    · subst h2; simp [va_up]
    · simp [va_up, h2]
  · rw [sh_row_n h]; simp [h]
theorem sh_i_setL {μ : sh_Mem} {r k : Nat} {x : Int64} : sh_i (sh_setL μ r k x) = sh_i μ := rfl
theorem sh_i_setR {μ : sh_Mem} {r k : Nat} {x : Option Nat} : sh_i (sh_setR μ r k x) = sh_i μ := rfl
theorem sh_l_setI {μ : sh_Mem} {r k : Nat} {x : Int32} : sh_l (sh_setI μ r k x) = sh_l μ := rfl
theorem sh_r_setI {μ : sh_Mem} {r k : Nat} {x : Int32} : sh_r (sh_setI μ r k x) = sh_r μ := rfl
theorem sh_l_rowI {μ : sh_Mem} {r : Nat} {g : Nat → Int32} : sh_l (sh_rowI μ r g) = sh_l μ := rfl
theorem sh_r_rowI {μ : sh_Mem} {r : Nat} {g : Nat → Int32} : sh_r (sh_rowI μ r g) = sh_r μ := rfl

