/-- what the class looks at: the word, number or mark at a -/
def cT (μ : sh_Mem) (T : Nat → Nat) (n a : Nat) (g : Bool) : Prop := sh_i μ 2 1 = zI n ∧ sh_i μ 2 2 = zI (xE T n a) ∧ sh_i μ 2 3 = zI (xK T n a g) ∧ sh_i μ 2 4 = zI a ∧ (a < n → xL T a = true → sh_i μ 2 5 = zI ((xE T n a - a : Nat) : Int) ∧ sh_i μ 2 6 = zI (if xE T n a - a ≤ 6 then wN (xW T a (xE T n a - a)) else -1) ∧ sh_i μ 2 7 = zI (sn_c (xW T a (min (xE T n a - a) 6)))) ∧ (a < n → ¬ xL T a = true → xD T a = true → sh_i μ 2 5 = zI ((xE T n a - a : Nat) : Int) ∧ sh_i μ 2 8 = zI (xV T a (min (xE T n a - a) 4)))
theorem cT.cg {μ μ' : sh_Mem} {T : Nat → Nat} {n a : Nat} {g : Bool} (h : cT μ T n a g) (e : ∀ k, 1 ≤ k → k ≤ 8 → sh_i μ' 2 k = sh_i μ 2 k) : cT μ' T n a g := by
  unfold cT at *
  rw [e 1 (by omega) (by omega), e 2 (by omega) (by omega), e 3 (by omega) (by omega), e 4 (by omega) (by omega), e 5 (by omega) (by omega), e 6 (by omega) (by omega), e 7 (by omega) (by omega), e 8 (by omega) (by omega)]
  exact h
section Lx
variable {T : Nat → Nat} {n : Nat}
theorem cl_adv2 {i1 i2 : Int32} : ∀ (g f e : Nat) (μ : sh_Mem), e + g = n → 2 * g + 1 < f → xT μ 1 T n → sh_i μ 2 1 = zI n → sh_i μ 2 2 = zI e → ∃ (f' : Nat) (μ' : sh_Mem), F_X8_advance f 2 i1 i2 μ = F_X8_advance f' 4 i1 i2 μ' ∧ f ≤ f' + 2 * g + 1 ∧ sh_fr (fun r k => r = 2 ∧ k = 2) μ μ' ∧ sh_i μ' 2 2 = zI (xR (xB T) g e) := by
  intro g
  induction g with
  | zero =>
    intro f e μ he hf hT h1 h2
    obtain ⟨f, rfl⟩ : ∃ q, f = q + 1 := ⟨f - 1, by omega⟩
    have hn := hT.1
    refine ⟨f, μ, ?_, by omega, sh_fr.rf, h2⟩
    rw [F_X8_advance, h1, h2, if_pos (zI_yes (by omega) (by omega))]
  | succ g ih =>
    intro f e μ he hf hT h1 h2
    obtain ⟨f, rfl⟩ : ∃ q, f = q + 1 + 1 := ⟨f - 2, by omega⟩
    have hn := hT.1
    obtain ⟨t1, t2⟩ := hT.2 e (by omega)
    have t2 : sh_i μ 1 (zI (e : Int)).toNatClampNeg = zI (T e) := by rw [tcN (by omega)]; exact t2
    have i16 : sh_in (zI (e : Int)) 1600 := (zI_in (by omega)).mpr (by omega)
    have n1 : ¬ zI (n : Int) ≤ zI (e : Int) := zI_not (by omega) (by omega)
    have go : xB T e = true → F_X8_advance (f + 1 + 1) 2 i1 i2 μ = F_X8_advance (f + 1) 3 i1 i2 μ → ∃ (f' : Nat) (μ' : sh_Mem), F_X8_advance (f + 1 + 1) 2 i1 i2 μ = F_X8_advance f' 4 i1 i2 μ' ∧ f + 1 + 1 ≤ f' + 2 * (g + 1) + 1 ∧ sh_fr (fun r k => r = 2 ∧ k = 2) μ μ' ∧ sh_i μ' 2 2 = zI (xR (xB T) (g + 1) e) := by
      intro hb e0
      have f1 : sh_fr (fun r k => r = 2 ∧ k = 2) μ (sh_setI μ 2 2 (zI (e : Int) + 1)) := sh_fr_I sh_fr.rf (by omega)
      obtain ⟨f', μ', k1, k2, k3, k4⟩ := ih f (e + 1) (sh_setI μ 2 2 (zI (e : Int) + 1)) (by omega) (by omega) (hT.cg (f1.row _ (fun k => by omega))) (by rw [ir_set_k (by omega)]; exact h1) (by rw [ir_set, zI_s1])
      refine ⟨f', μ', ?_, by omega, f1.trans k3, by rw [xR_s hb]; exact k4⟩
      rw [e0, ← k1, F_X8_advance, h2, shl_ap]
    by_cases c1 : T e = 10
    · refine go (xB_t.mpr (Or.inl c1)) ?_
      rw [F_X8_advance, h1, h2, if_neg n1, if_pos i16, t2, if_pos (show zI (T e : Int) = 10 by rw [c1]; rfl)]
    have m1 : ¬ zI (T e : Int) = 10 := fun z => by
      have := (zI_eq (b := 10) (by omega) (by omega) (by omega) (by omega)).mp z
      omega
    by_cases c2 : T e = 32
    · refine go (xB_t.mpr (Or.inr c2)) ?_
      rw [F_X8_advance, h1, h2, if_neg n1, if_pos i16, t2, if_neg m1, if_pos i16, if_pos (show zI (T e : Int) = 32 by rw [c2]; rfl)]
    have m2 : ¬ zI (T e : Int) = 32 := fun z => by
      have := (zI_eq (b := 32) (by omega) (by omega) (by omega) (by omega)).mp z
      omega
    have hb : ¬ xB T e = true := fun z => by
      have := xB_t.mp z
      omega
    refine ⟨f + 1, μ, ?_, by omega, sh_fr.rf, by rw [xR_n hb]; exact h2⟩
    rw [F_X8_advance, h1, h2, if_neg n1, if_pos i16, t2, if_neg m1, if_pos i16, if_neg m2]
theorem cl_adv7 {b : Bool} {K : Int} {a e f : Nat} {μ : sh_Mem} (hK : -10 ≤ K ∧ K < 256) (ha : a ≤ 1600) (he : e ≤ 1600) (h3 : sh_i μ 2 3 = zI K) (h4 : sh_i μ 2 4 = zI a) : F_X8_advance (f + 1 + 1 + 1) 7 (zI (bI b)) (zI e) μ = some (if (b = true ∧ a = e) ∧ (K = -2 ∨ K = -3) then sh_setI μ 2 3 (zI (-4)) else μ) := by
  have e9 : ∀ (f : Nat) (i1 i2 : Int32) (m : sh_Mem), F_X8_advance (f + 1) 9 i1 i2 m = some m := fun f i1 i2 m => by rw [F_X8_advance]
  have e8 : ∀ (f : Nat) (i1 i2 : Int32) (m : sh_Mem), F_X8_advance (f + 1 + 1) 8 i1 i2 m = some (sh_setI m 2 3 (zI (-4))) := fun f i1 i2 m => by
    rw [F_X8_advance, shl_ap, e9]
    rfl
  cases b with
  | false =>
    rw [F_X8_advance, if_pos (show zI (bI false) = 0 from rfl), e9, if_neg (fun z => by cases z.1.1)]
  | true =>
    rw [F_X8_advance, if_neg (show ¬ zI (bI true) = 0 by decide), h3, h4]
    by_cases c : a = e
    · rw [if_pos (show zI (a : Int) = zI (e : Int) by rw [c])]
      by_cases k2 : K = -2
      · rw [if_pos (show zI K = -2 by rw [k2]; rfl), e8, if_pos ⟨⟨rfl, c⟩, Or.inl k2⟩]
      · rw [if_neg (show ¬ zI K = -2 from fun z => k2 ((zI_eq (b := -2) (by omega) (by omega) (by omega) (by omega)).mp (show zI K = zI (-2) from z)))]
        by_cases k3 : K = -3
        · rw [if_pos (show zI K = -3 by rw [k3]; rfl), e8, if_pos ⟨⟨rfl, c⟩, Or.inr k3⟩]
        · rw [if_neg (show ¬ zI K = -3 from fun z => k3 ((zI_eq (b := -3) (by omega) (by omega) (by omega) (by omega)).mp (show zI K = zI (-3) from z))), e9, if_neg (fun z => by omega)]
    · rw [if_neg (fun z => c (by have := (zI_eq (a := (a : Int)) (b := (e : Int)) (by omega) (by omega) (by omega) (by omega)).mp z; omega)), e9, if_neg (fun z => c z.1.2)]
theorem cl_adv4 {b : Bool} {a e f : Nat} {μ : sh_Mem} (hT : xT μ 1 T n) (ha : a ≤ n) (he : e ≤ 1600) (h1 : sh_i μ 2 1 = zI n) (h2 : sh_i μ 2 2 = zI a) : ∃ μ', F_X8_advance (f + 1 + 1 + 1 + 1 + 1 + 1) 4 (zI (bI b)) (zI e) μ = some μ' ∧ sh_fr nX μ μ' ∧ cT μ' T n a (b && decide (a = e)) := by
  have hn := hT.1
  obtain ⟨m1, hm1⟩ : ∃ m, m = sh_setI μ 2 4 (zI a) := ⟨_, rfl⟩
  have f1 : sh_fr nX μ m1 := by rw [hm1]; exact sh_fr_I sh_fr.rf (by unfold nX; omega)
  have h41 : sh_i m1 2 4 = zI a := by rw [hm1, ir_set]
  have h21 : sh_i m1 2 2 = zI a := by rw [hm1, ir_set_k (by omega), h2]
  have h11 : sh_i m1 2 1 = zI n := by rw [hm1, ir_set_k (by omega), h1]
  have hT1 : xT m1 1 T n := hT.cg (f1.row _ (fun k => by unfold nX; omega))
  have gg : (b && decide (a = e)) = true ↔ (b = true ∧ a = e) := by rw [Bool.and_eq_true, decide_eq_true_iff]
  by_cases c0 : n ≤ a
  · have hK : ∀ g, xK T n a g = -1 := fun g => if_pos c0
    have hE : xE T n a = a := if_pos c0
    obtain ⟨m2, hm2⟩ : ∃ m, m = sh_setI m1 2 3 (-1) := ⟨_, rfl⟩
    have f2 : sh_fr nX m1 m2 := by rw [hm2]; exact sh_fr_I sh_fr.rf (by unfold nX; omega)
    refine ⟨m2, ?_, f1.trans f2, ?_, ?_, ?_, ?_, fun z => by omega, fun z => by omega⟩
    · rw [F_X8_advance, h2, ← hm1, shl_ap, h11, h21, if_neg (fun z => by have := (zI_lt (by omega) (by omega) (by omega) (by omega)).mp z; omega), ← hm2, shl_ap, cl_adv7 (K := -1) (a := a) (by omega) (by omega) he (by rw [hm2, ir_set]; rfl) (by rw [hm2, ir_set_k (by omega), h41]), if_neg (fun z => by omega)]
    · rw [hm2, ir_set_k (by omega), h11]
    · rw [hm2, ir_set_k (by omega), h21, hE]
    · rw [hm2, ir_set, hK]; rfl
    · rw [hm2, ir_set_k (by omega), h41]
  have lt : zI (a : Int) < zI (n : Int) := (zI_lt (by omega) (by omega) (by omega) (by omega)).mpr (by omega)
  obtain ⟨t1, t2⟩ := hT1.2 a (by omega)
  have t2 : sh_i m1 1 (zI (a : Int)).toNatClampNeg = zI (T a) := by rw [tcN (by omega)]; exact t2
  have i16 : sh_in (zI (a : Int)) 1600 := (zI_in (by omega)).mpr (by omega)
  by_cases cl : xL T a = true
  · obtain ⟨l1, l2⟩ := xL_t.mp cl
    have q1 : ¬ zI (T a : Int) < 97 := fun z => by
      have := (zI_lt (b := 97) (by omega) (by omega) (by omega) (by omega)).mp z
      omega
    have q2 : ¬ (122 : Int32) < zI (T a : Int) := fun z => by
      have := (zI_lt (a := 122) (by omega) (by omega) (by omega) (by omega)).mp z
      omega
    have hE : xE T n a = xR (xL T) (n - a) a := by unfold xE; rw [if_neg c0, if_pos cl]
    have hK : ∀ g, xK T n a g = if g = true then -4 else -2 := fun g => by unfold xK; rw [if_neg c0, if_pos cl]
    have hEb := xR_le (xL T) (n - a) a
    have hE1 : a < xE T n a := by
      rw [hE]
      obtain ⟨g, hg⟩ : ∃ g, n - a = g + 1 := ⟨n - a - 1, by omega⟩
      rw [hg, xR_s cl]
      have := xR_le (xL T) g (a + 1)
      omega
    obtain ⟨m2, k1, k2, k3, k4, k5, k6, k7⟩ := cl_let1 (T := T) (n := n) (a := a) (by omega) (n - a) sh_fuel 0 (sh_setI m1 2 7 0) (by omega) (by rw [sh_fuel_eq]; omega) (hT1.cg (ir_set_r (by omega))) (by rw [ir_set_k (by omega), h11]) (by rw [ir_set_k (by omega), h21]; rfl) (by rw [ir_set_k (by omega), h41]) (by rw [ir_set]; rfl) (fun j hj => by omega)
    have k1' : f_X8_takeLetters m1 = some m2 := k1
    rw [Nat.add_zero, ← hE] at k4 k6 k7
    have f2 : sh_fr nX m1 m2 := (sh_fr_I sh_fr.rf (by unfold nX; omega)).trans k2
    have hlet : ∀ j, j < xE T n a - a → xL T (a + j) = true := fun j hj => xR_in (n - a) a (a + j) (by omega) (by rw [← hE]; omega)
    have fin : ∀ x : Int, x = (if xE T n a - a ≤ 6 then wN (xW T a (xE T n a - a)) else -1) → F_X8_advance (f + 1 + 1 + 1 + 1 + 1 + 1) 4 (zI (bI b)) (zI e) μ = F_X8_advance (f + 1 + 1 + 1 + 1 + 1) 7 (zI (bI b)) (zI e) (sh_setI m2 2 6 (zI x)) → ∃ μ', F_X8_advance (f + 1 + 1 + 1 + 1 + 1 + 1) 4 (zI (bI b)) (zI e) μ = some μ' ∧ sh_fr nX μ μ' ∧ cT μ' T n a (b && decide (a = e)) := by
      intro x hx e0
      obtain ⟨m3, hm3⟩ : ∃ m, m = sh_setI m2 2 6 (zI x) := ⟨_, rfl⟩
      have f3 : sh_fr nX m2 m3 := by rw [hm3]; exact sh_fr_I sh_fr.rf (by unfold nX; omega)
      have h43 : sh_i m3 2 4 = zI a := by rw [hm3, ir_set_k (by omega), k3, ir_set_k (by omega), h41]
      have e7 := cl_adv7 (b := b) (K := -2) (a := a) (e := e) (f := f + 1 + 1) (μ := m3) (by omega) (by omega) he (by rw [hm3, ir_set_k (by omega), k5]) h43
      obtain ⟨m4, hm4⟩ : ∃ m, m = (if (b = true ∧ a = e) ∧ ((-2 : Int) = -2 ∨ (-2 : Int) = -3) then sh_setI m3 2 3 (zI (-4)) else m3) := ⟨_, rfl⟩
      have f4 : sh_fr nX m3 m4 := by
        rw [hm4]
        split
        · exact sh_fr_I sh_fr.rf (by unfold nX; omega)
        · exact sh_fr.rf
      have r4 : ∀ k, ¬ k = 3 → sh_i m4 2 k = sh_i m3 2 k := fun k hk => by
        rw [hm4]
        split
        · rw [ir_set_k hk]
        · rfl
      refine ⟨m4, by rw [e0, ← hm3, e7, ← hm4], ((f1.trans f2).trans f3).trans f4, ?_, ?_, ?_, ?_, fun _ _ => ⟨?_, ?_, ?_⟩, fun _ z => absurd cl z⟩
      · rw [r4 1 (by omega), hm3, ir_set_k (by omega), f2.i _ _ (by unfold nX; omega), h11]
      · rw [r4 2 (by omega), hm3, ir_set_k (by omega), k4]
      · rw [hK, hm4]
        by_cases c : b = true ∧ a = e
        · rw [if_pos ⟨c, Or.inl rfl⟩, ir_set, if_pos (gg.mpr c)]
        · rw [if_neg (fun z => c z.1), if_neg (fun z => c (gg.mp z)), hm3, ir_set_k (by omega), k5]
      · rw [r4 4 (by omega), h43]
      · rw [r4 5 (by omega), hm3, ir_set_k (by omega), k6]
      · rw [r4 6 (by omega), hm3, ir_set, hx]
      · rw [r4 7 (by omega), hm3, ir_set_k (by omega), k7]
    have e0 : F_X8_advance (f + 1 + 1 + 1 + 1 + 1 + 1) 4 (zI (bI b)) (zI e) μ = (if (sh_i m2 2 5) ≤ 6 then sh_bind (f_X8_wordOf (sh_i m2 2 7) m2) (fun y103 μ101 => sh_let (sh_setI μ101 2 6 y103) (fun μ104 => F_X8_advance (f + 1 + 1 + 1 + 1 + 1) 7 (zI (bI b)) (zI e) μ104)) else sh_let (sh_setI m2 2 6 (-1)) (fun μ105 => F_X8_advance (f + 1 + 1 + 1 + 1 + 1) 7 (zI (bI b)) (zI e) μ105)) := by
      rw [F_X8_advance, h2, ← hm1, shl_ap, h11, h21, if_pos lt, if_pos i16, t2, if_neg q1, if_pos i16, if_neg q2, k1', shv_ap]
    by_cases c6 : xE T n a - a ≤ 6
    · refine fin (wN (xW T a (xE T n a - a))) (by rw [if_pos c6]) ?_
      have hok : sn_ok (xW T a (xE T n a - a)) := ⟨by rw [xW_len]; omega, by rw [xW_len]; exact c6, xW_ok hlet⟩
      rw [e0, k6, if_pos (show zI ((xE T n a - a : Nat) : Int) ≤ 6 from zI_yes (b := 6) (by omega) (by omega)), k7, Nat.min_eq_left c6, cl_wordOf hok, shb_ap, shl_ap]
    · refine fin (-1) (by rw [if_neg c6]) ?_
      rw [e0, k6, if_neg (show ¬ zI ((xE T n a - a : Nat) : Int) ≤ 6 from zI_not (a := 6) (by omega) (by omega)), shl_ap]
      rfl
  · have e5 : F_X8_advance (f + 1 + 1 + 1 + 1 + 1 + 1) 4 (zI (bI b)) (zI e) μ = F_X8_advance (f + 1 + 1 + 1 + 1 + 1) 5 (zI (bI b)) (zI e) m1 := by
      rw [F_X8_advance, h2, ← hm1, shl_ap, h11, h21, if_pos lt, if_pos i16, t2]
      by_cases c97 : T a < 97
      · rw [if_pos (show zI (T a : Int) < 97 from (zI_lt (b := 97) (by omega) (by omega) (by omega) (by omega)).mpr (by omega))]
      · rw [if_neg (show ¬ zI (T a : Int) < 97 from fun z => by have := (zI_lt (b := 97) (by omega) (by omega) (by omega) (by omega)).mp z; omega), if_pos i16, if_pos (show (122 : Int32) < zI (T a : Int) from (zI_lt (a := 122) (by omega) (by omega) (by omega) (by omega)).mpr (by have nl : ¬ (97 ≤ T a ∧ T a ≤ 122) := (fun z => cl (xL_t.mpr z)); omega))]
    by_cases cd : xD T a = true
    · obtain ⟨l1, l2⟩ := xD_t.mp cd
      have hE : xE T n a = xR (xD T) (n - a) a := by unfold xE; rw [if_neg c0, if_neg cl, if_pos cd]
      have hK : ∀ g, xK T n a g = if g = true then -4 else -3 := fun g => by unfold xK; rw [if_neg c0, if_neg cl, if_pos cd]
      obtain ⟨m2, k1, k2, k3, k4, k5, k6, k7⟩ := cl_dig1 (T := T) (n := n) (a := a) (by omega) (n - a) sh_fuel 0 (sh_setI m1 2 8 0) (by omega) (by rw [sh_fuel_eq]; omega) (hT1.cg (ir_set_r (by omega))) (by rw [ir_set_k (by omega), h11]) (by rw [ir_set_k (by omega), h21]; rfl) (by rw [ir_set_k (by omega), h41]) (by rw [ir_set]; rfl) (fun j hj => by omega)
      have k1' : f_X8_takeDigits m1 = some m2 := k1
      rw [Nat.add_zero, ← hE] at k4 k6 k7
      have f2 : sh_fr nX m1 m2 := (sh_fr_I sh_fr.rf (by unfold nX; omega)).trans k2
      have h42 : sh_i m2 2 4 = zI a := by rw [k3, ir_set_k (by omega), h41]
      have e7 := cl_adv7 (b := b) (K := -3) (a := a) (e := e) (f := f + 1) (μ := m2) (by omega) (by omega) he k5 h42
      obtain ⟨m4, hm4⟩ : ∃ m, m = (if (b = true ∧ a = e) ∧ ((-3 : Int) = -2 ∨ (-3 : Int) = -3) then sh_setI m2 2 3 (zI (-4)) else m2) := ⟨_, rfl⟩
      have f4 : sh_fr nX m2 m4 := by
        rw [hm4]
        split
        · exact sh_fr_I sh_fr.rf (by unfold nX; omega)
        · exact sh_fr.rf
      have r4 : ∀ k, ¬ k = 3 → sh_i m4 2 k = sh_i m2 2 k := fun k hk => by
        rw [hm4]
        split
        · rw [ir_set_k hk]
        · rfl
      refine ⟨m4, ?_, (f1.trans f2).trans f4, ?_, ?_, ?_, ?_, fun _ z => absurd z cl, fun _ _ _ => ⟨?_, ?_⟩⟩
      · rw [e5, F_X8_advance, h21, if_pos i16, t2, if_neg (show ¬ zI (T a : Int) < 48 from fun z => by have := (zI_lt (b := 48) (by omega) (by omega) (by omega) (by omega)).mp z; omega), if_pos i16, if_neg (show ¬ (57 : Int32) < zI (T a : Int) from fun z => by have := (zI_lt (a := 57) (by omega) (by omega) (by omega) (by omega)).mp z; omega), k1', shv_ap, e7, ← hm4]
      · rw [r4 1 (by omega), f2.i _ _ (by unfold nX; omega), h11]
      · rw [r4 2 (by omega), k4]
      · rw [hK, hm4]
        by_cases c : b = true ∧ a = e
        · rw [if_pos ⟨c, Or.inr rfl⟩, ir_set, if_pos (gg.mpr c)]
        · rw [if_neg (fun z => c z.1), if_neg (fun z => c (gg.mp z)), k5]
      · rw [r4 4 (by omega), h42]
      · rw [r4 5 (by omega), k6]
      · rw [r4 8 (by omega), k7]
    · have hE : xE T n a = a + 1 := by unfold xE; rw [if_neg c0, if_neg cl, if_neg cd]
      have hK : ∀ g, xK T n a g = (T a : Int) := fun g => by unfold xK; rw [if_neg c0, if_neg cl, if_neg cd]
      have e6 : F_X8_advance (f + 1 + 1 + 1 + 1 + 1) 5 (zI (bI b)) (zI e) m1 = F_X8_advance (f + 1 + 1 + 1 + 1) 6 (zI (bI b)) (zI e) m1 := by
        rw [F_X8_advance, h21, if_pos i16, t2]
        by_cases c48 : T a < 48
        · rw [if_pos (show zI (T a : Int) < 48 from (zI_lt (b := 48) (by omega) (by omega) (by omega) (by omega)).mpr (by omega))]
        · rw [if_neg (show ¬ zI (T a : Int) < 48 from fun z => by have := (zI_lt (b := 48) (by omega) (by omega) (by omega) (by omega)).mp z; omega), if_pos i16, if_pos (show (57 : Int32) < zI (T a : Int) from (zI_lt (a := 57) (by omega) (by omega) (by omega) (by omega)).mpr (by have nl : ¬ (48 ≤ T a ∧ T a ≤ 57) := (fun z => cd (xD_t.mpr z)); omega))]
      obtain ⟨m2, hm2⟩ : ∃ m, m = sh_setI (sh_setI m1 2 3 (zI (T a))) 2 2 (zI (a : Int) + 1) := ⟨_, rfl⟩
      have f2 : sh_fr nX m1 m2 := by rw [hm2]; exact sh_fr_I (sh_fr_I sh_fr.rf (by unfold nX; omega)) (by unfold nX; omega)
      have h22 : sh_i (sh_setI m1 2 3 (zI (T a))) 2 2 = zI (a : Int) := by rw [ir_set_k (by omega), h21]
      have h32 : sh_i m2 2 3 = zI (T a : Int) := by rw [hm2, ir_set_k (by omega), ir_set]
      have h42 : sh_i m2 2 4 = zI a := by rw [hm2, ir_set_k (by omega), ir_set_k (by omega), h41]
      refine ⟨m2, ?_, f1.trans f2, ?_, ?_, ?_, ?_, fun _ z => absurd z cl, fun _ _ z => absurd z cd⟩
      · rw [e5, e6, F_X8_advance, h21, if_pos i16, t2, shl_ap, h22, ← hm2, shl_ap, cl_adv7 (K := (T a : Int)) (a := a) (by omega) (by omega) he h32 h42, if_neg (fun z => by omega)]
      · rw [f2.i _ _ (by unfold nX; omega), h11]
      · rw [hm2, ir_set, hE, zI_s1]
      · rw [h32, hK]
      · rw [h42]
theorem cl_adv0 {K : Int} {e a0 : Nat} {μ : sh_Mem} (hT : xT μ 1 T n) (h1 : sh_i μ 2 1 = zI n) (h2 : sh_i μ 2 2 = zI e) (he : e ≤ n) (h3 : sh_i μ 2 3 = zI K) (hK : -10 ≤ K ∧ K < 256) (h4 : sh_i μ 2 4 = zI a0) : ∃ μ', f_X8_advance μ = some μ' ∧ sh_fr (fun r k => r = 2 ∧ 2 ≤ k ∧ k ≤ 9) μ μ' ∧ cT μ' T n (xS T n e) (decide (K = -2 ∨ K = -3) && decide (xS T n e = e)) ∧ sh_i μ' 2 9 = zI a0 := by
  have hn := hT.1
  obtain ⟨m1, hm1⟩ : ∃ m, m = sh_setI μ 2 9 (zI a0) := ⟨_, rfl⟩
  have f1 : sh_fr (fun r k => r = 2 ∧ 2 ≤ k ∧ k ≤ 9) μ m1 := by rw [hm1]; exact sh_fr_I sh_fr.rf (by omega)
  have hT1 : xT m1 1 T n := hT.cg (f1.row _ (fun k => by omega))
  have go : ∀ (f : Nat) (b : Bool), 2 * (n - e) + 7 < f → b = decide (K = -2 ∨ K = -3) → f_X8_advance μ = F_X8_advance f 2 (zI (bI b)) (zI e) m1 → ∃ μ', f_X8_advance μ = some μ' ∧ sh_fr (fun r k => r = 2 ∧ 2 ≤ k ∧ k ≤ 9) μ μ' ∧ cT μ' T n (xS T n e) (decide (K = -2 ∨ K = -3) && decide (xS T n e = e)) ∧ sh_i μ' 2 9 = zI a0 := by
    intro f b hf hb e0
    obtain ⟨f', m2, k1, k2, k3, k4⟩ := cl_adv2 (T := T) (n := n) (i1 := zI (bI b)) (i2 := zI e) (n - e) f e m1 (by omega) (by omega) hT1 (by rw [hm1, ir_set_k (by omega), h1]) (by rw [hm1, ir_set_k (by omega), h2])
    have hb2 := xR_le (xB T) (n - e) e
    have f2 : sh_fr (fun r k => r = 2 ∧ 2 ≤ k ∧ k ≤ 9) m1 m2 := k3.mono (fun r k z => by omega)
    obtain ⟨f'', hf''⟩ : ∃ q, f' = q + 1 + 1 + 1 + 1 + 1 + 1 := ⟨f' - 6, by omega⟩
    obtain ⟨m3, q1, q2, q3⟩ := cl_adv4 (T := T) (n := n) (b := b) (a := xS T n e) (e := e) (f := f'') (μ := m2) (hT1.cg (f2.row _ (fun k => by omega))) (by show xR (xB T) (n - e) e ≤ n; omega) (by omega) (by rw [k3.i _ _ (by omega), hm1, ir_set_k (by omega), h1]) k4
    rw [hb] at q3
    refine ⟨m3, by rw [e0, k1, hf'', q1], (f1.trans f2).trans (q2.mono (fun r k z => by unfold nX at z; omega)), q3, ?_⟩
    rw [q2.i _ _ (by unfold nX; omega), k3.i _ _ (by omega), hm1, ir_set]
  have fu := sh_fuel_eq
  by_cases c2 : K = -2
  · obtain ⟨f, hf⟩ : ∃ f, sh_fuel = f + 1 := ⟨sh_fuel - 1, by omega⟩
    refine go f true (by omega) (decide_eq_true (Or.inl c2)).symm ?_
    unfold f_X8_advance
    rw [h3, if_pos (show zI K = -2 by rw [c2]; rfl), hf, F_X8_advance, h2, h4, shl_ap, ← hm1, shl_ap]
    rfl
  · have n2 : ¬ zI K = -2 := fun z => c2 ((zI_eq (b := -2) (by omega) (by omega) (by omega) (by omega)).mp (show zI K = zI (-2) from z))
    by_cases c3 : K = -3
    · obtain ⟨f, hf⟩ : ∃ f, sh_fuel = f + 1 := ⟨sh_fuel - 1, by omega⟩
      refine go f true (by omega) (decide_eq_true (Or.inr c3)).symm ?_
      unfold f_X8_advance
      rw [h3, if_neg n2, if_pos (show zI K = -3 by rw [c3]; rfl), hf, F_X8_advance, h2, h4, shl_ap, ← hm1, shl_ap]
      rfl
    · refine go sh_fuel false (by omega) (decide_eq_false (fun z => by omega)).symm ?_
      unfold f_X8_advance
      rw [h3, if_neg n2, if_neg (show ¬ zI K = -3 from fun z => c3 ((zI_eq (b := -3) (by omega) (by omega) (by omega) (by omega)).mp (show zI K = zI (-3) from z))), h2, h4, shl_ap, ← hm1, shl_ap]
      rfl
end Lx
