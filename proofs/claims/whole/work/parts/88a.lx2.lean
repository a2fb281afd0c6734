/-! the class looks at the next word, number or mark -/
def xT (μ : sh_Mem) (r : Nat) (T : Nat → Nat) (n : Nat) : Prop := n ≤ 1600 ∧ ∀ j, j < 1600 → T j < 256 ∧ sh_i μ r j = zI (T j)
theorem xT.cg {μ μ' : sh_Mem} {r : Nat} {T : Nat → Nat} {n : Nat} (h : xT μ r T n) (e : sh_i μ' r = sh_i μ r) : xT μ' r T n := ⟨h.1, fun j hj => ⟨(h.2 j hj).1, by rw [e]; exact (h.2 j hj).2⟩⟩
theorem zI_orN {x y : Nat} (hx : x < 2147483648) (hy : y < 2147483648) : zI x ||| zI y = zI ((x ||| y : Nat) : Int) := by
  rw [← nI_z, ← nI_z, ← nI_z]
  apply Int32.toBitVec_inj.mp
  apply BitVec.eq_of_toNat_eq
  show (BitVec.ofNat 32 x ||| BitVec.ofNat 32 y).toNat = (BitVec.ofNat 32 (x ||| y)).toNat
  have h : x ||| y < 2 ^ 31 := Nat.or_lt_two_pow (by omega) (by omega)
  rw [BitVec.toNat_or, BitVec.toNat_ofNat, BitVec.toNat_ofNat, BitVec.toNat_ofNat, Nat.mod_eq_of_lt (show x < 2 ^ 32 by omega), Nat.mod_eq_of_lt (show y < 2 ^ 32 by omega), Nat.mod_eq_of_lt (by omega)]
theorem or_pk {x w i : Nat} (hi : i < 6) (hx : x < 32 ^ i) (hw : w ≤ 26) : zI x ||| (zI w <<< ((5 * zI i) &&& 31)) = zI ((x + w * 32 ^ i : Nat) : Int) := by
  have sh : ∀ i : Nat, i < 6 → ∀ w : Nat, w < 27 → zI w <<< ((5 * zI i) &&& 31) = zI ((w * 32 ^ i : Nat) : Int) := by decide +kernel
  rw [sh i hi w (by omega)]
  have p32 : 32 ^ i = 2 ^ (5 * i) := by rw [Nat.pow_mul]
  have b : 32 ^ i ≤ 33554432 := Nat.le_trans (Nat.pow_le_pow_right (by omega) (show i ≤ 5 by omega)) (by decide)
  have wb : w * 32 ^ i ≤ 26 * 33554432 := Nat.mul_le_mul hw b
  have e : x ||| w * 32 ^ i = x + w * 32 ^ i := by
    rw [p32, Nat.or_comm, Nat.mul_comm w, ← Nat.two_pow_add_eq_or_of_lt (by rw [← p32]; exact hx) w, Nat.add_comm]
  rw [zI_orN (by omega) (by omega), e]
theorem xW_len {T : Nat → Nat} {a k : Nat} : (xW T a k).length = k := by
  unfold xW
  rw [List.length_map, List.length_range]
theorem xW_s {T : Nat → Nat} {a k : Nat} : xW T a (k + 1) = xW T a k ++ [T (a + k) - 96] := by
  unfold xW
  rw [List.range_succ, List.map_append]
  rfl
theorem xL_t {T : Nat → Nat} {j : Nat} : xL T j = true ↔ 97 ≤ T j ∧ T j ≤ 122 := by unfold xL; exact decide_eq_true_iff
theorem xD_t {T : Nat → Nat} {j : Nat} : xD T j = true ↔ 48 ≤ T j ∧ T j ≤ 57 := by unfold xD; exact decide_eq_true_iff
theorem xB_t {T : Nat → Nat} {j : Nat} : xB T j = true ↔ T j = 10 ∨ T j = 32 := by unfold xB; exact decide_eq_true_iff
theorem xW_ok {T : Nat → Nat} {a k : Nat} (h : ∀ j, j < k → xL T (a + j) = true) : ∀ w ∈ xW T a k, 1 ≤ w ∧ w ≤ 26 := by
  intro w hw
  obtain ⟨j, hj, rfl⟩ := List.mem_map.mp hw
  have := xL_t.mp (h j (List.mem_range.mp hj))
  omega
theorem xR_s {q : Nat → Bool} {g a : Nat} (h : q a = true) : xR q (g + 1) a = xR q g (a + 1) := if_pos h
theorem xR_n {q : Nat → Bool} {g a : Nat} (h : ¬ q a = true) : xR q (g + 1) a = a := if_neg h
def nX (r k : Nat) : Prop := r = 2 ∧ 2 ≤ k ∧ k ≤ 8
theorem cl_let1 {T : Nat → Nat} {n a : Nat} (ha : a ≤ 1600) : ∀ (g f i : Nat) (μ : sh_Mem), a + i + g = n → g < f → xT μ 1 T n → sh_i μ 2 1 = zI n → sh_i μ 2 2 = zI ((a + i : Nat) : Int) → sh_i μ 2 4 = zI a → sh_i μ 2 7 = zI (sn_c (xW T a (min i 6))) → (∀ j, j < i → xL T (a + j) = true) → ∃ μ', F_X8_takeLetters f 1 μ = some μ' ∧ sh_fr nX μ μ' ∧ sh_i μ' 2 4 = sh_i μ 2 4 ∧ sh_i μ' 2 2 = zI (xR (xL T) g (a + i)) ∧ sh_i μ' 2 3 = zI (-2) ∧ sh_i μ' 2 5 = zI ((xR (xL T) g (a + i) - a : Nat) : Int) ∧ sh_i μ' 2 7 = zI (sn_c (xW T a (min (xR (xL T) g (a + i) - a) 6))) := by
  intro g
  induction g with
  | zero =>
    intro f i μ hi hf hT h1 h2 h4 h7 hL
    obtain ⟨f, rfl⟩ : ∃ q, f = q + 1 := ⟨f - 1, by omega⟩
    have hn := hT.1
    refine ⟨sh_setI (sh_setI μ 2 5 (sh_i μ 2 2 - sh_i μ 2 4)) 2 3 (-2), ?_, sh_fr_I (sh_fr_I sh_fr.rf (by unfold nX; omega)) (by unfold nX; omega), ?_, ?_, ?_, ?_, ?_⟩
    · rw [F_X8_takeLetters, h1, h2, if_pos (zI_yes (by omega) (by omega)), shl_ap, shl_ap]
    · rw [ir_set_k (by omega), ir_set_k (by omega)]
    · rw [ir_set_k (by omega), ir_set_k (by omega), h2]; rfl
    · rw [ir_set]; rfl
    · rw [ir_set_k (by omega), ir_set, h2, h4, zI_sub]
      show _ = zI ((a + i - a : Nat) : Int)
      congr 1
      omega
    · rw [ir_set_k (by omega), ir_set_k (by omega), h7]
      show _ = zI (sn_c (xW T a (min (a + i - a) 6)))
      rw [Nat.add_sub_cancel_left]
  | succ g ih =>
    intro f i μ hi hf hT h1 h2 h4 h7 hL
    obtain ⟨f, rfl⟩ : ∃ q, f = q + 1 := ⟨f - 1, by omega⟩
    have hn := hT.1
    obtain ⟨t1, t2⟩ := hT.2 (a + i) (by omega)
    have t2 : sh_i μ 1 (zI ((a + i : Nat) : Int)).toNatClampNeg = zI (T (a + i)) := by rw [tcN (by omega)]; exact t2
    have i16 : sh_in (zI ((a + i : Nat) : Int)) 1600 := (zI_in (by omega)).mpr (by omega)
    have st : ¬ xL T (a + i) = true → F_X8_takeLetters (f + 1) 1 μ = some (sh_setI (sh_setI μ 2 5 (sh_i μ 2 2 - sh_i μ 2 4)) 2 3 (-2)) → ∃ μ', F_X8_takeLetters (f + 1) 1 μ = some μ' ∧ sh_fr nX μ μ' ∧ sh_i μ' 2 4 = sh_i μ 2 4 ∧ sh_i μ' 2 2 = zI (xR (xL T) (g + 1) (a + i)) ∧ sh_i μ' 2 3 = zI (-2) ∧ sh_i μ' 2 5 = zI ((xR (xL T) (g + 1) (a + i) - a : Nat) : Int) ∧ sh_i μ' 2 7 = zI (sn_c (xW T a (min (xR (xL T) (g + 1) (a + i) - a) 6))) := by
      intro c e
      rw [xR_n c]
      refine ⟨_, e, sh_fr_I (sh_fr_I sh_fr.rf (by unfold nX; omega)) (by unfold nX; omega), ?_, ?_, ?_, ?_, ?_⟩
      · rw [ir_set_k (by omega), ir_set_k (by omega)]
      · rw [ir_set_k (by omega), ir_set_k (by omega), h2]
      · rw [ir_set]; rfl
      · rw [ir_set_k (by omega), ir_set, h2, h4, zI_sub]
        congr 1
        omega
      · rw [ir_set_k (by omega), ir_set_k (by omega), h7, Nat.add_sub_cancel_left]
    have n1 : ¬ zI (n : Int) ≤ zI ((a + i : Nat) : Int) := zI_not (by omega) (by omega)
    by_cases c1 : T (a + i) < 97
    · refine st (fun z => by have := xL_t.mp z; omega) ?_
      rw [F_X8_takeLetters, h1, h2, if_neg n1, if_pos i16, t2, if_pos (show zI (T (a + i) : Int) < 97 from (zI_lt (b := 97) (by omega) (by omega) (by omega) (by omega)).mpr (by omega)), shl_ap, shl_ap]
    have m1 : ¬ zI (T (a + i) : Int) < 97 := fun z => by
      have := (zI_lt (b := 97) (by omega) (by omega) (by omega) (by omega)).mp z
      omega
    by_cases c2 : 122 < T (a + i)
    · refine st (fun z => by have := xL_t.mp z; omega) ?_
      rw [F_X8_takeLetters, h1, h2, if_neg n1, if_pos i16, t2, if_neg m1, if_pos i16, if_pos (show (122 : Int32) < zI (T (a + i) : Int) from (zI_lt (a := 122) (by omega) (by omega) (by omega) (by omega)).mpr (by omega)), shl_ap, shl_ap]
    have m2 : ¬ (122 : Int32) < zI (T (a + i) : Int) := fun z => by
      have := (zI_lt (a := 122) (by omega) (by omega) (by omega) (by omega)).mp z
      omega
    have hl : xL T (a + i) = true := xL_t.mpr (by omega)
    have hL' : ∀ j, j < i + 1 → xL T (a + j) = true := fun j hj => by
      by_cases z : j = i
      · rw [z]; exact hl
      · exact hL j (by omega)
    have es : zI ((a + i : Nat) : Int) - zI (a : Int) = zI (i : Int) := by
      rw [zI_sub]
      congr 1
      omega
    have ea : a + i + 1 = a + (i + 1) := by omega
    have go : ∀ μ1 : sh_Mem, F_X8_takeLetters (f + 1) 1 μ = F_X8_takeLetters f 1 μ1 → sh_fr nX μ μ1 → sh_i μ1 2 4 = sh_i μ 2 4 → sh_i μ1 2 2 = zI ((a + (i + 1) : Nat) : Int) → sh_i μ1 2 7 = zI (sn_c (xW T a (min (i + 1) 6))) → ∃ μ', F_X8_takeLetters (f + 1) 1 μ = some μ' ∧ sh_fr nX μ μ' ∧ sh_i μ' 2 4 = sh_i μ 2 4 ∧ sh_i μ' 2 2 = zI (xR (xL T) (g + 1) (a + i)) ∧ sh_i μ' 2 3 = zI (-2) ∧ sh_i μ' 2 5 = zI ((xR (xL T) (g + 1) (a + i) - a : Nat) : Int) ∧ sh_i μ' 2 7 = zI (sn_c (xW T a (min (xR (xL T) (g + 1) (a + i) - a) 6))) := by
      intro μ1 e f1 e4 e2 e7
      rw [xR_s hl, ea]
      obtain ⟨μ', k1, k2, k3, k4, k5, k6, k7⟩ := ih f (i + 1) μ1 (by omega) (by omega) (hT.cg (f1.row _ (fun k => by unfold nX; omega))) (by rw [f1.i _ _ (by unfold nX; omega)]; exact h1) e2 (by rw [e4]; exact h4) e7 hL'
      exact ⟨μ', by rw [e]; exact k1, f1.trans k2, k3.trans e4, k4, k5, k6, k7⟩
    by_cases c3 : 6 ≤ i
    · refine go (sh_setI μ 2 2 (zI ((a + i : Nat) : Int) + 1)) ?_ (sh_fr_I sh_fr.rf (by unfold nX; omega)) (by rw [ir_set_k (by omega)]) (by rw [ir_set, zI_s1, ea]) (by rw [ir_set_k (by omega), h7, Nat.min_eq_right c3, Nat.min_eq_right (by omega)])
      rw [F_X8_takeLetters, h1, h2, if_neg n1, if_pos i16, t2, if_neg m1, if_pos i16, if_neg m2, h4, es, if_pos (show (6 : Int32) ≤ zI (i : Int) from zI_yes (a := 6) (by omega) (by omega)), shl_ap]
    · have n6 : ¬ (6 : Int32) ≤ zI (i : Int) := zI_not (b := 6) (by omega) (by omega)
      have hx : sn_c (xW T a i) < 32 ^ i := by
        have := sn_c_lt (xW T a i) (xW_ok hL)
        rw [xW_len] at this
        exact this
      have ew : zI (T (a + i) : Int) - 97 + 1 = zI ((T (a + i) - 96 : Nat) : Int) := by
        rw [show (97 : Int32) = zI 97 from rfl, show (1 : Int32) = zI 1 from rfl, zI_sub, zI_add]
        congr 1
        omega
      have h7' : sh_i μ 2 7 = zI (sn_c (xW T a i)) := by rw [h7, Nat.min_eq_left (by omega)]
      have e7 : sh_i μ 2 7 ||| (zI (T (a + i) : Int) - 97 + 1) <<< (5 * zI (i : Int) &&& 31) = zI (sn_c (xW T a (i + 1))) := by
        rw [h7', ew, or_pk (by omega) hx (by omega), xW_s, sn_c_app, xW_len]
      refine go (sh_setI (sh_setI μ 2 7 (zI (sn_c (xW T a (i + 1))))) 2 2 (zI ((a + i : Nat) : Int) + 1)) ?_ (sh_fr_I (sh_fr_I sh_fr.rf (by unfold nX; omega)) (by unfold nX; omega)) (by rw [ir_set_k (by omega), ir_set_k (by omega)]) (by rw [ir_set, zI_s1, ea]) (by rw [ir_set_k (by omega), ir_set, Nat.min_eq_left (by omega)])
      have h2' : sh_i (sh_setI μ 2 7 (zI (sn_c (xW T a (i + 1))))) 2 2 = zI ((a + i : Nat) : Int) := by rw [ir_set_k (by omega), h2]
      rw [F_X8_takeLetters, h1, h2, if_neg n1, if_pos i16, t2, if_neg m1, if_pos i16, if_neg m2, h4, es, if_neg n6, if_pos i16, e7, shl_ap, h2', shl_ap]
theorem cl_dig1 {T : Nat → Nat} {n a : Nat} (ha : a ≤ 1600) : ∀ (g f i : Nat) (μ : sh_Mem), a + i + g = n → g < f → xT μ 1 T n → sh_i μ 2 1 = zI n → sh_i μ 2 2 = zI ((a + i : Nat) : Int) → sh_i μ 2 4 = zI a → sh_i μ 2 8 = zI (xV T a (min i 4)) → (∀ j, j < i → xD T (a + j) = true) → ∃ μ', F_X8_takeDigits f 1 μ = some μ' ∧ sh_fr nX μ μ' ∧ sh_i μ' 2 4 = sh_i μ 2 4 ∧ sh_i μ' 2 2 = zI (xR (xD T) g (a + i)) ∧ sh_i μ' 2 3 = zI (-3) ∧ sh_i μ' 2 5 = zI ((xR (xD T) g (a + i) - a : Nat) : Int) ∧ sh_i μ' 2 8 = zI (xV T a (min (xR (xD T) g (a + i) - a) 4)) := by
  intro g
  induction g with
  | zero =>
    intro f i μ hi hf hT h1 h2 h4 h7 hL
    obtain ⟨f, rfl⟩ : ∃ q, f = q + 1 := ⟨f - 1, by omega⟩
    have hn := hT.1
    refine ⟨sh_setI (sh_setI μ 2 5 (sh_i μ 2 2 - sh_i μ 2 4)) 2 3 (-3), ?_, sh_fr_I (sh_fr_I sh_fr.rf (by unfold nX; omega)) (by unfold nX; omega), ?_, ?_, ?_, ?_, ?_⟩
    · rw [F_X8_takeDigits, h1, h2, if_pos (zI_yes (by omega) (by omega)), shl_ap, shl_ap]
    · rw [ir_set_k (by omega), ir_set_k (by omega)]
    · rw [ir_set_k (by omega), ir_set_k (by omega), h2]; rfl
    · rw [ir_set]; rfl
    · rw [ir_set_k (by omega), ir_set, h2, h4, zI_sub]
      show _ = zI ((a + i - a : Nat) : Int)
      congr 1
      omega
    · rw [ir_set_k (by omega), ir_set_k (by omega), h7]
      show _ = zI (xV T a (min (a + i - a) 4))
      rw [Nat.add_sub_cancel_left]
  | succ g ih =>
    intro f i μ hi hf hT h1 h2 h4 h7 hL
    obtain ⟨f, rfl⟩ : ∃ q, f = q + 1 := ⟨f - 1, by omega⟩
    have hn := hT.1
    obtain ⟨t1, t2⟩ := hT.2 (a + i) (by omega)
    have t2 : sh_i μ 1 (zI ((a + i : Nat) : Int)).toNatClampNeg = zI (T (a + i)) := by rw [tcN (by omega)]; exact t2
    have i16 : sh_in (zI ((a + i : Nat) : Int)) 1600 := (zI_in (by omega)).mpr (by omega)
    have st : ¬ xD T (a + i) = true → F_X8_takeDigits (f + 1) 1 μ = some (sh_setI (sh_setI μ 2 5 (sh_i μ 2 2 - sh_i μ 2 4)) 2 3 (-3)) → ∃ μ', F_X8_takeDigits (f + 1) 1 μ = some μ' ∧ sh_fr nX μ μ' ∧ sh_i μ' 2 4 = sh_i μ 2 4 ∧ sh_i μ' 2 2 = zI (xR (xD T) (g + 1) (a + i)) ∧ sh_i μ' 2 3 = zI (-3) ∧ sh_i μ' 2 5 = zI ((xR (xD T) (g + 1) (a + i) - a : Nat) : Int) ∧ sh_i μ' 2 8 = zI (xV T a (min (xR (xD T) (g + 1) (a + i) - a) 4)) := by
      intro c e
      rw [xR_n c]
      refine ⟨_, e, sh_fr_I (sh_fr_I sh_fr.rf (by unfold nX; omega)) (by unfold nX; omega), ?_, ?_, ?_, ?_, ?_⟩
      · rw [ir_set_k (by omega), ir_set_k (by omega)]
      · rw [ir_set_k (by omega), ir_set_k (by omega), h2]
      · rw [ir_set]; rfl
      · rw [ir_set_k (by omega), ir_set, h2, h4, zI_sub]
        congr 1
        omega
      · rw [ir_set_k (by omega), ir_set_k (by omega), h7, Nat.add_sub_cancel_left]
    have n1 : ¬ zI (n : Int) ≤ zI ((a + i : Nat) : Int) := zI_not (by omega) (by omega)
    by_cases c1 : T (a + i) < 48
    · refine st (fun z => by have := xD_t.mp z; omega) ?_
      rw [F_X8_takeDigits, h1, h2, if_neg n1, if_pos i16, t2, if_pos (show zI (T (a + i) : Int) < 48 from (zI_lt (b := 48) (by omega) (by omega) (by omega) (by omega)).mpr (by omega)), shl_ap, shl_ap]
    have m1 : ¬ zI (T (a + i) : Int) < 48 := fun z => by
      have := (zI_lt (b := 48) (by omega) (by omega) (by omega) (by omega)).mp z
      omega
    by_cases c2 : 57 < T (a + i)
    · refine st (fun z => by have := xD_t.mp z; omega) ?_
      rw [F_X8_takeDigits, h1, h2, if_neg n1, if_pos i16, t2, if_neg m1, if_pos i16, if_pos (show (57 : Int32) < zI (T (a + i) : Int) from (zI_lt (a := 57) (by omega) (by omega) (by omega) (by omega)).mpr (by omega)), shl_ap, shl_ap]
    have m2 : ¬ (57 : Int32) < zI (T (a + i) : Int) := fun z => by
      have := (zI_lt (a := 57) (by omega) (by omega) (by omega) (by omega)).mp z
      omega
    have hl : xD T (a + i) = true := xD_t.mpr (by omega)
    have hL' : ∀ j, j < i + 1 → xD T (a + j) = true := fun j hj => by
      by_cases z : j = i
      · rw [z]; exact hl
      · exact hL j (by omega)
    have es : zI ((a + i : Nat) : Int) - zI (a : Int) = zI (i : Int) := by
      rw [zI_sub]
      congr 1
      omega
    have ea : a + i + 1 = a + (i + 1) := by omega
    have go : ∀ μ1 : sh_Mem, F_X8_takeDigits (f + 1) 1 μ = F_X8_takeDigits f 1 μ1 → sh_fr nX μ μ1 → sh_i μ1 2 4 = sh_i μ 2 4 → sh_i μ1 2 2 = zI ((a + (i + 1) : Nat) : Int) → sh_i μ1 2 8 = zI (xV T a (min (i + 1) 4)) → ∃ μ', F_X8_takeDigits (f + 1) 1 μ = some μ' ∧ sh_fr nX μ μ' ∧ sh_i μ' 2 4 = sh_i μ 2 4 ∧ sh_i μ' 2 2 = zI (xR (xD T) (g + 1) (a + i)) ∧ sh_i μ' 2 3 = zI (-3) ∧ sh_i μ' 2 5 = zI ((xR (xD T) (g + 1) (a + i) - a : Nat) : Int) ∧ sh_i μ' 2 8 = zI (xV T a (min (xR (xD T) (g + 1) (a + i) - a) 4)) := by
      intro μ1 e f1 e4 e2 e7
      rw [xR_s hl, ea]
      obtain ⟨μ', k1, k2, k3, k4, k5, k6, k7⟩ := ih f (i + 1) μ1 (by omega) (by omega) (hT.cg (f1.row _ (fun k => by unfold nX; omega))) (by rw [f1.i _ _ (by unfold nX; omega)]; exact h1) e2 (by rw [e4]; exact h4) e7 hL'
      exact ⟨μ', by rw [e]; exact k1, f1.trans k2, k3.trans e4, k4, k5, k6, k7⟩
    by_cases c3 : 4 ≤ i
    · refine go (sh_setI μ 2 2 (zI ((a + i : Nat) : Int) + 1)) ?_ (sh_fr_I sh_fr.rf (by unfold nX; omega)) (by rw [ir_set_k (by omega)]) (by rw [ir_set, zI_s1, ea]) (by rw [ir_set_k (by omega), h7, Nat.min_eq_right c3, Nat.min_eq_right (by omega)])
      rw [F_X8_takeDigits, h1, h2, if_neg n1, if_pos i16, t2, if_neg m1, if_pos i16, if_neg m2, h4, es, if_pos (show (4 : Int32) ≤ zI (i : Int) from zI_yes (a := 4) (by omega) (by omega)), shl_ap]
    · have n6 : ¬ (4 : Int32) ≤ zI (i : Int) := zI_not (b := 4) (by omega) (by omega)
      have h7' : sh_i μ 2 8 = zI (xV T a i) := by rw [h7, Nat.min_eq_left (by omega)]
      have hb := xL_t (T := T) (j := a + i)
      have e7 : sh_i μ 2 8 * 10 + zI (T (a + i) : Int) - 48 = zI (xV T a (i + 1)) := by
        rw [h7', show (10 : Int32) = zI 10 from rfl, show (48 : Int32) = zI 48 from rfl, zI_mul, zI_add, zI_sub]
        congr 1
        show _ = ((xV T a i * 10 + (T (a + i) - 48) : Nat) : Int)
        omega
      refine go (sh_setI (sh_setI μ 2 8 (zI (xV T a (i + 1)))) 2 2 (zI ((a + i : Nat) : Int) + 1)) ?_ (sh_fr_I (sh_fr_I sh_fr.rf (by unfold nX; omega)) (by unfold nX; omega)) (by rw [ir_set_k (by omega), ir_set_k (by omega)]) (by rw [ir_set, zI_s1, ea]) (by rw [ir_set_k (by omega), ir_set, Nat.min_eq_left (by omega)])
      have h2' : sh_i (sh_setI μ 2 8 (zI (xV T a (i + 1)))) 2 2 = zI ((a + i : Nat) : Int) := by rw [ir_set_k (by omega), h2]
      rw [F_X8_takeDigits, h1, h2, if_neg n1, if_pos i16, t2, if_neg m1, if_pos i16, if_neg m2, h4, es, if_neg n6, if_pos i16, e7, shl_ap, h2', shl_ap]
