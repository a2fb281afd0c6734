/-! NUMBERS AS INTEGERS: zI; what comes out of + - * comparisons, places -/
def zI (a : Int) : Int32 := Int32.ofInt a
def zL (a : Int) : Int64 := Int64.ofInt a
theorem zI_toInt {a : Int} (h1 : -2147483648 ≤ a) (h2 : a < 2147483648) : (zI a).toInt = a := Int32.toInt_ofInt_of_le (by omega) (by omega)
theorem zL_toInt {a : Int} (h1 : -9223372036854775808 ≤ a) (h2 : a < 9223372036854775808) : (zL a).toInt = a := Int64.toInt_ofInt_of_le (by omega) (by omega)
theorem zI_lit (n : Nat) : (OfNat.ofNat n : Int32) = zI (OfNat.ofNat n) := by
  show Int32.ofNat n = Int32.ofInt (n : Int)
  exact Int32.ofInt_eq_ofNat.symm
theorem zL_lit (n : Nat) : (OfNat.ofNat n : Int64) = zL (OfNat.ofNat n) := by
  show Int64.ofNat n = Int64.ofInt (n : Int)
  exact Int64.ofInt_eq_ofNat.symm
theorem nI_z (n : Nat) : nI n = zI n := Int32.ofInt_eq_ofNat.symm
theorem ofN_z (n : Nat) : Int32.ofNat n = zI n := Int32.ofInt_eq_ofNat.symm
theorem lN_z (n : Nat) : lN n = zL n := Int64.ofInt_eq_ofNat.symm
theorem zI_of (x : Int32) : ∃ a : Int, -2147483648 ≤ a ∧ a < 2147483648 ∧ x = zI a := ⟨x.toInt, Int32.le_toInt x, Int32.toInt_lt x, (Int32.ofInt_toInt x).symm⟩
theorem zL_of (x : Int64) : ∃ a : Int, -9223372036854775808 ≤ a ∧ a < 9223372036854775808 ∧ x = zL a := ⟨x.toInt, Int64.le_toInt x, Int64.toInt_lt x, (Int64.ofInt_toInt x).symm⟩
theorem zI_add (a b : Int) : zI a + zI b = zI (a + b) := (Int32.ofInt_add a b).symm
theorem zI_sub (a b : Int) : zI a - zI b = zI (a - b) := (Int32.ofInt_sub a b).symm
theorem zI_mul (a b : Int) : zI a * zI b = zI (a * b) := (Int32.ofInt_mul a b).symm
theorem zI_neg (a : Int) : - zI a = zI (- a) := (Int32.ofInt_neg a).symm
theorem zL_add (a b : Int) : zL a + zL b = zL (a + b) := (Int64.ofInt_add a b).symm
theorem zL_sub (a b : Int) : zL a - zL b = zL (a - b) := (Int64.ofInt_sub a b).symm
theorem zL_mul (a b : Int) : zL a * zL b = zL (a * b) := (Int64.ofInt_mul a b).symm
theorem zL_neg (a : Int) : - zL a = zL (- a) := (Int64.ofInt_neg a).symm
theorem zI_l {a : Int} (h1 : -2147483648 ≤ a) (h2 : a < 2147483648) : (zI a).toInt64 = zL a := Int64.toInt_inj.mp (by rw [Int32.toInt_toInt64, zI_toInt h1 h2, zL_toInt (by omega) (by omega)])
theorem zI_le {a b : Int} (h1 : -2147483648 ≤ a) (h2 : a < 2147483648) (h3 : -2147483648 ≤ b) (h4 : b < 2147483648) : zI a ≤ zI b ↔ a ≤ b := by rw [Int32.le_iff_toInt_le, zI_toInt h1 h2, zI_toInt h3 h4]
theorem zI_lt {a b : Int} (h1 : -2147483648 ≤ a) (h2 : a < 2147483648) (h3 : -2147483648 ≤ b) (h4 : b < 2147483648) : zI a < zI b ↔ a < b := by rw [Int32.lt_iff_toInt_lt, zI_toInt h1 h2, zI_toInt h3 h4]
theorem zI_eq {a b : Int} (h1 : -2147483648 ≤ a) (h2 : a < 2147483648) (h3 : -2147483648 ≤ b) (h4 : b < 2147483648) : zI a = zI b ↔ a = b := by rw [← Int32.toInt_inj, zI_toInt h1 h2, zI_toInt h3 h4]
theorem zI_le_t {a b : Int} (h : -2147483648 ≤ a ∧ a ≤ b ∧ b < 2147483648) : (zI a ≤ zI b) = True := eq_true ((zI_le (by omega) (by omega) (by omega) (by omega)).mpr h.2.1)
theorem zI_le_f {a b : Int} (h : -2147483648 ≤ b ∧ b < a ∧ a < 2147483648) : (zI a ≤ zI b) = False := eq_false (fun q => by have := (zI_le (by omega) (by omega) (by omega) (by omega)).mp q; omega)
theorem zI_lt_t {a b : Int} (h : -2147483648 ≤ a ∧ a < b ∧ b < 2147483648) : (zI a < zI b) = True := eq_true ((zI_lt (by omega) (by omega) (by omega) (by omega)).mpr h.2.1)
theorem zI_lt_f {a b : Int} (h : -2147483648 ≤ b ∧ b ≤ a ∧ a < 2147483648) : (zI a < zI b) = False := eq_false (fun q => by have := (zI_lt (by omega) (by omega) (by omega) (by omega)).mp q; omega)
theorem zI_eq_t {a b : Int} (h : a = b) : (zI a = zI b) = True := eq_true (by rw [h])
theorem zI_eq_f {a b : Int} (h : ¬ a = b ∧ -2147483648 ≤ a ∧ a < 2147483648 ∧ -2147483648 ≤ b ∧ b < 2147483648) : (zI a = zI b) = False := eq_false (fun q => h.1 ((zI_eq (by omega) (by omega) (by omega) (by omega)).mp q))
theorem zI_cl {a : Int} (h : -2147483648 ≤ a ∧ a < 2147483648) : (zI a).toNatClampNeg = a.toNat := by show (zI a).toInt.toNat = _; rw [zI_toInt h.1 h.2]
theorem zI_in {a : Int} {n : Nat} (h : -2147483648 ≤ a ∧ a < 2147483648) : sh_in (zI a) n ↔ 0 ≤ a ∧ a < n := by
  unfold sh_in
  rw [zI_cl h, show (0 : Int32) = zI 0 from rfl, zI_lt h.1 h.2 (by omega) (by omega)]
  omega
theorem zI_in_t {a : Int} {n : Nat} (h : 0 ≤ a ∧ a < n ∧ a < 2147483648) : sh_in (zI a) n = True := eq_true ((zI_in (by omega)).mpr (by omega))
theorem zI_div {a b : Int} (h : 0 ≤ a ∧ a < 2147483648 ∧ 0 < b ∧ b < 2147483648) : zI a / zI b = zI (a / b) := by
  unfold zI
  rw [← Int32.ofInt_tdiv (by rw [show Int32.minValue.toInt = -2147483648 by decide]; omega) (by rw [show Int32.maxValue.toInt = 2147483647 by decide]; omega) (by rw [show Int32.minValue.toInt = -2147483648 by decide]; omega) (by rw [show Int32.maxValue.toInt = 2147483647 by decide]; omega), Int.tdiv_eq_ediv_of_nonneg h.1]
theorem zI_mod {a b : Int} (h : 0 ≤ a ∧ a < 2147483648 ∧ 0 < b ∧ b < 2147483648) : zI (a - a / b * b) = zI (a % b) := by
  congr 1
  have := Int.emod_add_mul_ediv a b
  rw [Int.mul_comm b] at this
  omega
theorem zL_le {a b : Int} (h : -9223372036854775808 ≤ a ∧ a < 9223372036854775808 ∧ -9223372036854775808 ≤ b ∧ b < 9223372036854775808) : zL a ≤ zL b ↔ a ≤ b := by rw [Int64.le_iff_toInt_le, zL_toInt (by omega) (by omega), zL_toInt (by omega) (by omega)]
theorem zL_lt {a b : Int} (h : -9223372036854775808 ≤ a ∧ a < 9223372036854775808 ∧ -9223372036854775808 ≤ b ∧ b < 9223372036854775808) : zL a < zL b ↔ a < b := by rw [Int64.lt_iff_toInt_lt, zL_toInt (by omega) (by omega), zL_toInt (by omega) (by omega)]
theorem zL_eq {a b : Int} (h : -9223372036854775808 ≤ a ∧ a < 9223372036854775808 ∧ -9223372036854775808 ≤ b ∧ b < 9223372036854775808) : zL a = zL b ↔ a = b := by rw [← Int64.toInt_inj, zL_toInt (by omega) (by omega), zL_toInt (by omega) (by omega)]
theorem zL_cmp {a b : Int} (h : -9223372036854775808 ≤ a ∧ a < 9223372036854775808 ∧ -9223372036854775808 ≤ b ∧ b < 9223372036854775808) : lg_cmp (zL a) (zL b) = zI (if b < a then 1 else if a = b then 0 else -1) := by
  show (if zL b < zL a then (1 : Int32) else if zL a = zL b then 0 else -1) = _
  by_cases h1 : b < a
  · rw [if_pos ((zL_lt (by omega)).mpr h1), if_pos h1]; rfl
  · rw [if_neg (fun q => h1 ((zL_lt (by omega)).mp q)), if_neg h1]
    by_cases h2 : a = b
    · rw [if_pos ((zL_eq (by omega)).mpr h2), if_pos h2]; rfl
    · rw [if_neg (fun q => h2 ((zL_eq (by omega)).mp q)), if_neg h2]; rfl
/-- 'isIn' -/
theorem zz_isIn {μ : sh_Mem} {a b c : Int} (h : -9223372036854775808 ≤ a ∧ a < 9223372036854775808 ∧ -9223372036854775808 ≤ b ∧ b < 9223372036854775808 ∧ -9223372036854775808 ≤ c ∧ c < 9223372036854775808) : f_X12_isIn μ (zL a) (zL b) (zL c) = if b ≤ a ∧ a ≤ c then 1 else 0 := by
  unfold f_X12_isIn
  rw [zL_cmp (by omega), zL_cmp (by omega)]
  by_cases h1 : a < b
  · rw [if_neg (show ¬ b < a by omega), if_neg (show ¬ a = b by omega), if_pos (by decide), if_neg (by omega)]
  · rw [if_neg (by split; decide; split; decide; omega)]
    by_cases h2 : c < a
    · rw [if_pos h2, if_pos (by decide), if_neg (by omega)]
    · rw [if_neg h2, if_neg (by split <;> decide), if_pos (by omega)]
theorem zz_isIn_t {μ : sh_Mem} {a b c : Int} (h : -9223372036854775808 ≤ b ∧ b ≤ a ∧ a ≤ c ∧ c < 9223372036854775808) : f_X12_isIn μ (zL a) (zL b) (zL c) = 1 := by rw [zz_isIn (by omega), if_pos (by omega)]
theorem zz_isIn_f {μ : sh_Mem} {a b c : Int} (h : ¬ (b ≤ a ∧ a ≤ c) ∧ -9223372036854775808 ≤ a ∧ a < 9223372036854775808 ∧ -9223372036854775808 ≤ b ∧ b < 9223372036854775808 ∧ -9223372036854775808 ≤ c ∧ c < 9223372036854775808) : f_X12_isIn μ (zL a) (zL b) (zL c) = 0 := by rw [zz_isIn (by omega), if_neg h.1]
theorem shl_ap {α β : Type} (e : α) (f : α → β) : sh_let e f = f e := rfl
theorem shb_ap {α β : Type} (a : α) (μ : sh_Mem) (f : α → sh_Mem → Option β) : sh_bind (some (a, μ)) f = f a μ := rfl
theorem shv_ap {β : Type} (μ : sh_Mem) (f : sh_Mem → Option β) : sh_bindv (some μ) f = f μ := rfl
theorem shr_ap {μ : sh_Mem} {r k t : Nat} (h : sh_r μ r k = some t) : sh_ref μ r k = t := by unfold sh_ref; rw [h]; rfl
/-- the check of a reference to a plain -/
theorem shr_ck {μ : sh_Mem} {r k t : Nat} (h : sh_r μ r k = some t) (ht : sh_isP t) : (sh_r μ r k = some (sh_ref μ r k) ∧ (sh_ref μ r k = 8 ∨ sh_ref μ r k = 29)) = True := by rw [shr_ap h]; exact eq_true ⟨h, ht⟩
theorem ir_set {μ : sh_Mem} {r k : Nat} {x : Int32} : sh_i (sh_setI μ r k x) r k = x := by rw [sh_i_set, if_pos ⟨rfl, rfl⟩]
theorem ir_set_k {μ : sh_Mem} {r k k' : Nat} {x : Int32} (h : ¬ k' = k) : sh_i (sh_setI μ r k x) r k' = sh_i μ r k' := by rw [sh_i_set, if_neg (fun q => h q.2)]
theorem ir_set_r {μ : sh_Mem} {r k r' : Nat} {x : Int32} (h : ¬ r' = r) : sh_i (sh_setI μ r k x) r' = sh_i μ r' := by funext k'; rw [sh_i_set, if_neg (fun q => h q.1)]
theorem ir_row {μ : sh_Mem} {r : Nat} {g : Nat → Int32} : sh_i (sh_rowI μ r g) r = g := by rw [sh_i_row, if_pos rfl]
theorem ir_row_r {μ : sh_Mem} {r r' : Nat} {g : Nat → Int32} (h : ¬ r' = r) : sh_i (sh_rowI μ r g) r' = sh_i μ r' := by rw [sh_i_row, if_neg h]
theorem lr_set {μ : sh_Mem} {r k : Nat} {x : Int64} : sh_l (sh_setL μ r k x) r k = x := by rw [sh_l_set, if_pos ⟨rfl, rfl⟩]
theorem lr_set_k {μ : sh_Mem} {r k k' : Nat} {x : Int64} (h : ¬ k' = k) : sh_l (sh_setL μ r k x) r k' = sh_l μ r k' := by rw [sh_l_set, if_neg (fun q => h q.2)]
theorem lr_set_r {μ : sh_Mem} {r k r' : Nat} {x : Int64} (h : ¬ r' = r) : sh_l (sh_setL μ r k x) r' = sh_l μ r' := by funext k'; rw [sh_l_set, if_neg (fun q => h q.1)]
theorem sh_r_setL {μ : sh_Mem} {r k : Nat} {x : Int64} : sh_r (sh_setL μ r k x) = sh_r μ := rfl
