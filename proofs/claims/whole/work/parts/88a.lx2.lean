/-! the class looks at the next word, number or mark -/
def xT (μ : sh_Mem) (r : Nat) (T : Nat → Nat) (n : Nat) : Prop := n ≤ 1600 ∧ ∀ j, j < 1600 → T j < 256 ∧ sh_i μ r j = zI (T j)
theorem xT.cg {μ μ' : sh_Mem} {r : Nat} {T : Nat → Nat} {n : Nat} (h : xT μ r T n) (e : sh_i μ' r = sh_i μ r) : xT μ' r T n := ⟨h.1, fun j hj => ⟨(h.2 j hj).1, by rw [e]; exact (h.2 j hj).2⟩⟩
theorem zI_orN {x y : Nat} (hx : x < 2147483648) (hy : y < 2147483648) : zI x ||| zI y = zI ((x ||| y : Nat) : Int) := by
  rw [← nI_z, ← nI_z, ← nI_z]
  apply Int32.toBitVec_inj.mp
  apply BitVec.eq_of_toNat_eq
  show (BitVec.ofNat 32 x ||| BitVec.ofNat 32 y).toNat = (BitVec.ofNat 32 (x ||| y)).toNat
  have h : x ||| y < 2 ^ 31 := Nat.or_lt_two_pow (by omega) (by omega)
  rw [BitVec.toNat_or, BitVec.toNat_ofNat, BitVec.toNat_ofNat, BitVec.toNat_ofNat, Nat.mod_eq_of_lt (show x < 2 ^ 32 by omega), Nat.mod_eq_of_lt (show y < 2 ^ 32 by omega), Nat.mod_eq_of_lt (by omega)]
theorem or_pk {x w i : Nat} (hi : i < 6) (hx : x < 32 ^ i) (hw : w ≤ 26) : zI x ||| (zI w <<< ((5 * zI i) &&& 31)) = zI ((x + w * 32 ^ i : Nat) : Int) := by
  have sh : ∀ i : Nat, i < 6 → ∀ w : Nat, w < 27 → zI w <<< ((5 * zI i) &&& 31) = zI ((w * 32 ^ i : Nat) : Int) := by decide +kernel
  rw [sh i hi w (by omega)]
  have p32 : 32 ^ i = 2 ^ (5 * i) := by rw [Nat.pow_mul]
  have b : 32 ^ i ≤ 33554432 := Nat.le_trans (Nat.pow_le_pow_right (by omega) (show i ≤ 5 by omega)) (by decide)
  have wb : w * 32 ^ i ≤ 26 * 33554432 := Nat.mul_le_mul hw b
  have e : x ||| w * 32 ^ i = x + w * 32 ^ i := by
    rw [p32, Nat.or_comm, Nat.mul_comm w, ← Nat.two_pow_add_eq_or_of_lt (by rw [← p32]; exact hx) w, Nat.add_comm]
  rw [zI_orN (by omega) (by omega), e]
theorem xW_len {T : Nat → Nat} {a k : Nat} : (xW T a k).length = k := by
  unfold xW
  rw [List.length_map, List.length_range]
theorem xW_s {T : Nat → Nat} {a k : Nat} : xW T a (k + 1) = xW T a k ++ [T (a + k) - 96] := by
  unfold xW
  rw [List.range_succ, List.map_append]
  rfl
theorem xL_t {T : Nat → Nat} {j : Nat} : xL T j = true ↔ 97 ≤ T j ∧ T j ≤ 122 := by unfold xL; exact decide_eq_true_iff
theorem xD_t {T : Nat → Nat} {j : Nat} : xD T j = true ↔ 48 ≤ T j ∧ T j ≤ 57 := by unfold xD; exact decide_eq_true_iff
theorem xB_t {T : Nat → Nat} {j : Nat} : xB T j = true ↔ T j = 10 ∨ T j = 32 := by unfold xB; exact decide_eq_true_iff
theorem xW_ok {T : Nat → Nat} {a k : Nat} (h : ∀ j, j < k → xL T (a + j) = true) : ∀ w ∈ xW T a k, 1 ≤ w ∧ w ≤ 26 := by
  intro w hw
  obtain ⟨j, hj, rfl⟩ := List.mem_map.mp hw
  have := xL_t.mp (h j (List.mem_range.mp hj))
  omega
theorem xR_s {q : Nat → Bool} {g a : Nat} (h : q a = true) : xR q (g + 1) a = xR q g (a + 1) := if_pos h
theorem xR_n {q : Nat → Bool} {g a : Nat} (h : ¬ q a = true) : xR q (g + 1) a = a := if_neg h
def nX (r k : Nat) : Prop := r = 2 ∧ 2 ≤ k ∧ k ≤ 8
theorem cl_let1 {T : Nat → Nat} {n a : Nat} (ha : a ≤ 1600) : ∀ (g f i : Nat) (μ : sh_Mem), a + i + g = n → g < f → xT μ 1 T n → sh_i μ 2 1 = zI n → sh_i μ 2 2 = zI ((a + i : Nat) : Int) → sh_i μ 2 4 = zI a → sh_i μ 2 7 = zI (sn_c (xW T a (min i 6))) → (∀ j, j < i → xL T (a + j) = true) → ∃ μ', F_X8_takeLetters f 1 μ = some μ' ∧ sh_fr nX μ μ' ∧ sh_i μ' 2 4 = sh_i μ 2 4 ∧ sh_i μ' 2 2 = zI (xR (xL T) g (a + i)) ∧ sh_i μ' 2 3 = zI (-2) ∧ sh_i μ' 2 5 = zI ((xR (xL T) g (a + i) - a : Nat) : Int) ∧ sh_i μ' 2 7 = zI (sn_c (xW T a (min (xR (xL T) g (a + i) - a) 6))) := sorry
theorem cl_dig1 {T : Nat → Nat} {n a : Nat} (ha : a ≤ 1600) : ∀ (g f i : Nat) (μ : sh_Mem), a + i + g = n → g < f → xT μ 1 T n → sh_i μ 2 1 = zI n → sh_i μ 2 2 = zI ((a + i : Nat) : Int) → sh_i μ 2 4 = zI a → sh_i μ 2 8 = zI (xV T a (min i 4)) → (∀ j, j < i → xD T (a + j) = true) → ∃ μ', F_X8_takeDigits f 1 μ = some μ' ∧ sh_fr nX μ μ' ∧ sh_i μ' 2 4 = sh_i μ 2 4 ∧ sh_i μ' 2 2 = zI (xR (xD T) g (a + i)) ∧ sh_i μ' 2 3 = zI (-3) ∧ sh_i μ' 2 5 = zI ((xR (xD T) g (a + i) - a : Nat) : Int) ∧ sh_i μ' 2 8 = zI (xV T a (min (xR (xD T) g (a + i) - a) 4)) := sorry
