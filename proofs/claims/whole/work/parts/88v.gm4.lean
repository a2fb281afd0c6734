/-! THE REFERENCE: what joins parts -/
section Gm4
variable {T : Nat → Nat} {n kd : Nat} {μ0 μ μ' : sh_Mem} {s : xs} {C W : List Nat} {o b : Nat} {e : Nat × Nat}
theorem rf_isOnW {x : Nat} (h : mW μ C W o b) (hW : W.length < 1700) (hy : ∀ y ∈ W, y < 100) (hx : 0 < x ∧ x < 100) : f_X12_qIsOn (zI x) μ = some (zI (bI (decide (tp W = x))), μ) := by
  obtain ⟨q, h1, h2⟩ := rf_qIsOn h hW (x := x) ⟨by omega, fun y hz => by have := hy y hz; omega⟩
  have : q = decide (tp W = x) := by
    rw [tp_iff hx.1] at h2
    cases q
    · exact (decide_eq_false (fun z => by have := h2.mpr z; cases this)).symm
    · exact (decide_eq_true (h2.mp rfl)).symm
  rw [← this]
  exact h1
theorem mRd.nL (h : mRd μ0 μ T n s C W o b) (f : sh_fr nLk μ μ') (hN : mN μ' T n s) : mRd μ0 μ' T n s C W o b := ⟨h.1.trans (f.mono (fun _ _ z => nZq_L z)), hN.S, h.2.2.1.fL f, h.2.2.2⟩
theorem rf_push {x : Nat} (h : mW μ C W o b) (hW : W.length < 1700) : mW (sh_setI (sh_setI μ 365 W.length (zI x)) 291 105 (zI W.length + 1)) C (W ++ [x]) o b ∧ sh_fr nWq μ (sh_setI (sh_setI μ 365 W.length (zI x)) 291 105 (zI W.length + 1)) := by
  obtain ⟨h1, h2, h3, h4, h6, h7⟩ := h
  refine ⟨⟨?_, fun j hj => ?_, ?_, fun j hj => ?_, ?_, ?_⟩, sh_fr_I (sh_fr_I sh_fr.rf (by unfold nWq; omega)) (by unfold nWq; omega)⟩
  · rw [ir_set_k (by omega), ir_set_r (by omega), h1]
  · rw [ir_set_r (by omega), ir_set_r (by omega)]
    exact h2 j hj
  · rw [ir_set, zI_s1, len1]
  · rw [len1] at hj
    rw [ir_set_r (by omega)]
    by_cases z : j = W.length
    · rw [z, ir_set, gD_e]
    · rw [ir_set_k z, gD_l (by omega)]
      exact h4 j (by omega)
  · rw [ir_set_k (by omega), ir_set_r (by omega), h6]
  · rw [ir_set_k (by omega), ir_set_r (by omega), h7]
theorem rf_pop {x : Nat} {A : List Nat} (h : mW μ C (A ++ [x]) (o + 1) b) (hW : A.length < 1700) : ∃ m, m = sh_setI (sh_setI μ 291 105 (sh_i μ 291 105 - 1)) 291 106 (sh_i (sh_setI μ 291 105 (sh_i μ 291 105 - 1)) 291 106 - 1) ∧ mW m C A o b ∧ sh_fr nWq μ m ∧ sh_i m 365 A.length = zI x := by
  obtain ⟨h1, h2, h3, h4, h6, h7⟩ := h
  rw [len1] at h3 h4
  have e1 : zI ((A.length + 1 : Nat) : Int) - 1 = zI (A.length : Int) := by
    rw [show (1 : Int32) = zI 1 from rfl, zI_sub]
    congr 1
    omega
  have e2 : zI ((o + 1 : Nat) : Int) - 1 = zI (o : Int) := by
    rw [show (1 : Int32) = zI 1 from rfl, zI_sub]
    congr 1
    omega
  refine ⟨_, rfl, ⟨?_, fun j hj => ?_, ?_, fun j hj => ?_, ?_, ?_⟩, sh_fr_I (sh_fr_I sh_fr.rf (by unfold nWq; omega)) (by unfold nWq; omega), ?_⟩
  · rw [ir_set_k (by omega), ir_set_k (by omega), h1]
  · rw [ir_set_r (by omega), ir_set_r (by omega)]
    exact h2 j hj
  · rw [ir_set_k (by omega), ir_set, h3, e1]
  · rw [ir_set_r (by omega), ir_set_r (by omega), h4 j (by omega), gD_l hj]
  · rw [ir_set, ir_set_k (by omega), h6, e2]
  · rw [ir_set_k (by omega), ir_set_k (by omega), h7]
  · rw [ir_set_r (by omega), ir_set_r (by omega), h4 _ (by omega), gD_e]
/-- all of P is written, then x waits -/
theorem D_6 {x : Nat} (hx : x < 100) (h3 : ¬ tp W = 3) (h4 : ¬ tp W = 4) : ∀ (k f : Nat) (P C : List Nat) (μ : sh_Mem), P.length = k → 2 * k + 1 ≤ f → mW μ C (W ++ P) o b → (W ++ P).length + C.length < 1690 → (∀ y ∈ W ++ P, y < 100) → (∀ y ∈ P, y = 3 ∨ y = 4) → ∃ μ', F_X12_qGoesOn f 6 (zI x) μ = some (1, μ') ∧ sh_fr nWq μ μ' ∧ mW μ' (C ++ P.reverse) (W ++ [x]) o b := by
  intro k
  induction k with
  | zero =>
    intro f P C μ hk hf h hl hy hP
    have : P = [] := List.eq_nil_of_length_eq_zero hk
    subst this
    rw [List.append_nil] at h hl hy
    obtain ⟨f, rfl⟩ : ∃ f', f = f' + 1 := ⟨f - 1, by omega⟩
    obtain ⟨p1, p2⟩ := rf_push (x := x) h (by omega)
    refine ⟨_, ?_, p2, by rw [List.reverse_nil, List.append_nil]; exact p1⟩
    have o3 : f_X12_qIsOn 3 μ = some (zI (bI (decide (tp W = 3))), μ) := rf_isOnW h (by omega) hy (x := 3) (by omega)
    have o4 : f_X12_qIsOn 4 μ = some (zI (bI (decide (tp W = 4))), μ) := rf_isOnW h (by omega) hy (x := 4) (by omega)
    rw [F_X12_qGoesOn, o3, shb_ap, decide_eq_false h3, if_pos (show zI (bI false) = 0 from rfl), o4, shb_ap, decide_eq_false h4, if_pos (show zI (bI false) = 0 from rfl), h.2.2.1, if_pos ((zI_in (by omega)).mpr (by omega)), tcN (by omega), shl_ap, show sh_i (sh_setI μ 365 W.length (zI x)) 291 105 = zI W.length by rw [ir_set_r (by omega), h.2.2.1], shl_ap]
  | succ k ih =>
    intro f P C μ hk hf h hl hy hP
    rcases List.eq_nil_or_concat P with rfl | ⟨P', y, rfl⟩
    · cases hk
    rw [List.concat_eq_append] at *
    rw [len1] at hk
    have hy1 := hP y (by rw [List.mem_append]; exact Or.inr (List.mem_singleton.mpr rfl))
    rw [← List.append_assoc] at h hl hy
    rw [len1] at hl
    obtain ⟨f, rfl⟩ : ∃ f', f = f' + 1 + 1 := ⟨f - 2, by omega⟩
    obtain ⟨m1, k1, k2, k3⟩ := rf_qDrops h (by omega) (by omega)
    obtain ⟨m2, r1, r2, r3⟩ := ih f P' (C ++ [y]) m1 (by omega) (by omega) k3 (by rw [len1]; omega) (fun z hz => hy z (by rw [List.mem_append]; exact Or.inl hz)) (fun z hz => hP z (by rw [List.mem_append]; exact Or.inl hz))
    refine ⟨m2, ?_, k2.trans r2, by rw [List.reverse_append, List.reverse_singleton, ← List.append_assoc]; exact r3⟩
    have o3 : f_X12_qIsOn 3 μ = some (zI (bI (decide (y = 3))), μ) := by
      have := rf_isOnW h (by rw [len1]; omega) hy (x := 3) (by omega)
      rw [tp_e] at this
      exact this
    have o4 : f_X12_qIsOn 4 μ = some (zI (bI (decide (y = 4))), μ) := by
      have := rf_isOnW h (by rw [len1]; omega) hy (x := 4) (by omega)
      rw [tp_e] at this
      exact this
    have s7 : F_X12_qGoesOn (f + 1) 7 (zI x) μ = some (1, m2) := by
      rw [F_X12_qGoesOn, k1, shv_ap]
      exact r1
    rw [F_X12_qGoesOn, o3, shb_ap]
    by_cases c3 : y = 3
    · rw [decide_eq_true c3, if_neg (show ¬ zI (bI true) = 0 by decide)]
      exact s7
    · rw [decide_eq_false c3, if_pos (show zI (bI false) = 0 from rfl), o4, shb_ap, decide_eq_true (show y = 4 by omega), if_neg (show ¬ zI (bI true) = 0 by decide)]
      exact s7
theorem D_9 {x : Nat} (hx : x < 100) (h1 : ¬ tp W = 1) (h2 : ¬ tp W = 2) (h3 : ¬ tp W = 3) (h4 : ¬ tp W = 4) : ∀ (k f : Nat) (P C : List Nat) (μ : sh_Mem), P.length = k → 2 * k + 1 ≤ f → mW μ C (W ++ P) o b → (W ++ P).length + C.length < 1690 → (∀ y ∈ W ++ P, y < 100) → (∀ y ∈ P, 1 ≤ y ∧ y ≤ 4) → ∃ μ', F_X12_qGoesOn f 9 (zI x) μ = some (1, μ') ∧ sh_fr nWq μ μ' ∧ mW μ' (C ++ P.reverse) (W ++ [x]) o b := by
  intro k
  induction k with
  | zero =>
    intro f P C μ hk hf h hl hy hP
    have : P = [] := List.eq_nil_of_length_eq_zero hk
    subst this
    rw [List.append_nil] at h hl hy
    obtain ⟨f, rfl⟩ : ∃ f', f = f' + 1 := ⟨f - 1, by omega⟩
    obtain ⟨p1, p2⟩ := rf_push (x := x) h (by omega)
    refine ⟨_, ?_, p2, by rw [List.reverse_nil, List.append_nil]; exact p1⟩
    have o1 : f_X12_qIsOn 1 μ = some (zI (bI (decide (tp W = 1))), μ) := rf_isOnW h (by omega) hy (x := 1) (by omega)
    have o2 : f_X12_qIsOn 2 μ = some (zI (bI (decide (tp W = 2))), μ) := rf_isOnW h (by omega) hy (x := 2) (by omega)
    have o3 : f_X12_qIsOn 3 μ = some (zI (bI (decide (tp W = 3))), μ) := rf_isOnW h (by omega) hy (x := 3) (by omega)
    have o4 : f_X12_qIsOn 4 μ = some (zI (bI (decide (tp W = 4))), μ) := rf_isOnW h (by omega) hy (x := 4) (by omega)
    rw [F_X12_qGoesOn, o3, shb_ap, decide_eq_false h3, if_pos (show zI (bI false) = 0 from rfl), o4, shb_ap, decide_eq_false h4, if_pos (show zI (bI false) = 0 from rfl), o1, shb_ap, decide_eq_false h1, if_pos (show zI (bI false) = 0 from rfl), o2, shb_ap, decide_eq_false h2, if_pos (show zI (bI false) = 0 from rfl), h.2.2.1, if_pos ((zI_in (by omega)).mpr (by omega)), tcN (by omega), shl_ap, show sh_i (sh_setI μ 365 W.length (zI x)) 291 105 = zI W.length by rw [ir_set_r (by omega), h.2.2.1], shl_ap]
  | succ k ih =>
    intro f P C μ hk hf h hl hy hP
    rcases List.eq_nil_or_concat P with rfl | ⟨P', y, rfl⟩
    · cases hk
    rw [List.concat_eq_append] at *
    rw [len1] at hk
    have hy1 := hP y (by rw [List.mem_append]; exact Or.inr (List.mem_singleton.mpr rfl))
    rw [← List.append_assoc] at h hl hy
    rw [len1] at hl
    obtain ⟨f, rfl⟩ : ∃ f', f = f' + 1 + 1 := ⟨f - 2, by omega⟩
    obtain ⟨m1, k1, k2, k3⟩ := rf_qDrops h (by omega) (by omega)
    obtain ⟨m2, r1, r2, r3⟩ := ih f P' (C ++ [y]) m1 (by omega) (by omega) k3 (by rw [len1]; omega) (fun z hz => hy z (by rw [List.mem_append]; exact Or.inl hz)) (fun z hz => hP z (by rw [List.mem_append]; exact Or.inl hz))
    refine ⟨m2, ?_, k2.trans r2, by rw [List.reverse_append, List.reverse_singleton, ← List.append_assoc]; exact r3⟩
    have oN : ∀ z : Nat, 0 < z ∧ z < 100 → f_X12_qIsOn (zI z) μ = some (zI (bI (decide (y = z))), μ) := fun z hz => by
      have := rf_isOnW h (by rw [len1]; omega) hy (x := z) hz
      rw [tp_e] at this
      exact this
    have o1 : f_X12_qIsOn 1 μ = some (zI (bI (decide (y = 1))), μ) := oN 1 (by omega)
    have o2 : f_X12_qIsOn 2 μ = some (zI (bI (decide (y = 2))), μ) := oN 2 (by omega)
    have o3 : f_X12_qIsOn 3 μ = some (zI (bI (decide (y = 3))), μ) := oN 3 (by omega)
    have o4 : f_X12_qIsOn 4 μ = some (zI (bI (decide (y = 4))), μ) := oN 4 (by omega)
    have s7 : F_X12_qGoesOn (f + 1) 10 (zI x) μ = some (1, m2) := by
      rw [F_X12_qGoesOn, k1, shv_ap]
      exact r1
    rw [F_X12_qGoesOn, o3, shb_ap]
    by_cases c3 : y = 3
    · rw [decide_eq_true c3, if_neg (show ¬ zI (bI true) = 0 by decide)]
      exact s7
    rw [decide_eq_false c3, if_pos (show zI (bI false) = 0 from rfl), o4, shb_ap]
    by_cases c4 : y = 4
    · rw [decide_eq_true c4, if_neg (show ¬ zI (bI true) = 0 by decide)]
      exact s7
    rw [decide_eq_false c4, if_pos (show zI (bI false) = 0 from rfl), o1, shb_ap]
    by_cases c1 : y = 1
    · rw [decide_eq_true c1, if_neg (show ¬ zI (bI true) = 0 by decide)]
      exact s7
    rw [decide_eq_false c1, if_pos (show zI (bI false) = 0 from rfl), o2, shb_ap, decide_eq_true (show y = 2 by omega), if_neg (show ¬ zI (bI true) = 0 by decide)]
    exact s7
/-- no closing mark that could close here -/
theorem B_4a (h : mRd μ0 μ T n s C W o b) (hK : ¬ xK T n s.1 s.2 = 41) (g : Nat) : ∃ m, F_X12_qGoesOn (g + 1) 1 0 μ = F_X12_qGoesOn g 4 0 m ∧ mN m T n s ∧ mRd μ0 m T n s C W o b := by
  have hS := h.2.1
  obtain ⟨m1, a1, a2, a3⟩ := rf_look hS
  refine ⟨m1, ?_, a3, h.nL a2 a3⟩
  rw [F_X12_qGoesOn, hS.2.2.1, if_pos rfl, a1, shb_ap, if_neg (show ¬ zI (xc T n s) = 41 from xc_ne (c := 41) hS (by omega) hK)]
theorem B_4b {y : Int32} (h : mRd μ0 μ T n s C W o b) (hK : xK T n s.1 s.2 = 41) (hq : ∀ m, mW m C W o b → f_X12_qBracket m = some (y, m)) (hy : ¬ y = 20 ∧ ¬ y = 23 ∧ ¬ y = 24) (g : Nat) : ∃ m, F_X12_qGoesOn (g + 1) 1 0 μ = F_X12_qGoesOn g 4 0 m ∧ mN m T n s ∧ mRd μ0 m T n s C W o b := by
  have hS := h.2.1
  obtain ⟨m1, a1, a2, a3⟩ := rf_look hS
  refine ⟨m1, ?_, a3, h.nL a2 a3⟩
  have q1 := hq m1 (h.2.2.1.fL a2)
  rw [F_X12_qGoesOn, hS.2.2.1, if_pos rfl, a1, shb_ap, xc_eq hS (by omega) hK, if_pos (show zI 41 = 41 from rfl), q1, shb_ap, if_neg hy.1, q1, shb_ap, if_neg hy.2.1, q1, shb_ap, if_neg hy.2.2]
theorem B_4 {y : Int32} (h : mRd μ0 μ T n s C W o b) (hq : ∀ m, mW m C W o b → f_X12_qBracket m = some (y, m)) (hy : xK T n s.1 s.2 = 41 → ¬ y = 20 ∧ ¬ y = 23 ∧ ¬ y = 24) (g : Nat) : ∃ m, F_X12_qGoesOn (g + 1) 1 0 μ = F_X12_qGoesOn g 4 0 m ∧ mN m T n s ∧ mRd μ0 m T n s C W o b := by
  by_cases c : xK T n s.1 s.2 = 41
  · exact B_4b h c hq (hy c) g
  · exact B_4a h c g
theorem mk_T {c : Nat} (h : mS μ T n s) (hc : c < 48) (h0 : 0 < c) (hK : xK T n s.1 s.2 = (c : Int)) : T s.1 = c ∧ s.1 < n := by
  have hlt : s.1 < n := xK_lt (T := T) (g := s.2) (by omega)
  have := xc_eq (c := c) h (by omega) hK
  unfold xc at this
  rw [if_pos hlt] at this
  exact ⟨by omega, hlt⟩
/-- a mark taken with takesSign -/
theorem rf_sg {c : Int} (h : mRd μ0 μ T n s C W o b) (hc : 0 ≤ c ∧ c < 256 ∧ ¬ (97 ≤ c ∧ c ≤ 122) ∧ ¬ (48 ≤ c ∧ c ≤ 57)) : ∃ m, f_X12_takesSign (zI c) μ = some (zI (bI (decide (xK T n s.1 s.2 = c))), m) ∧ (xK T n s.1 s.2 = c → mRd μ0 m T n (xA T n s) C W o b ∧ sh_i m 291 2 = zI (s.1 : Int) + 1 ∧ C.length + W.length + 1 ≤ (xA T n s).1) ∧ (¬ xK T n s.1 s.2 = c → mN m T n s ∧ mRd μ0 m T n s C W o b) := by
  obtain ⟨m, a1, a2, a3, a4⟩ := rf_takesSign h.2.1 hc
  refine ⟨m, a1, fun z => ?_, fun z => ⟨a4 z, h.nL a2 (a4 z)⟩⟩
  have hlt : s.1 < n := xK_lt (T := T) (g := s.2) (by omega)
  have hA := xA_lt (T := T) hlt
  have hl := h.2.2.2.1
  exact ⟨⟨h.1.trans (a2.mono (fun _ _ z => nZq_L z)), (a3 z).1, h.2.2.1.fL a2, by omega, h.2.2.2.2⟩, (a3 z).2, by omega⟩
theorem B_mul {P : List Nat} (h : mRd μ0 μ T n s C (W ++ P) o b) (hb : b ≤ W.length) (hP : P.length ≤ 1 ∧ ∀ y ∈ P, y = 3 ∨ y = 4) (h3 : ¬ tp W = 3) (h4 : ¬ tp W = 4) (hK : xK T n s.1 s.2 = 42 ∨ xK T n s.1 s.2 = 47) {f : Nat} (hf : 10 ≤ f) : ∃ μ', F_X12_qGoesOn f 1 0 μ = some (1, μ') ∧ mRd μ0 μ' T n (xA T n s) (C ++ P.reverse) (W ++ [gm (gK (xK T n s.1 s.2))]) o b := by
  obtain ⟨f, rfl⟩ : ∃ f', f = f' + 1 + 1 + 1 := ⟨f - 3, by omega⟩
  obtain ⟨m1, a1, a2, a3⟩ := B_4a h (by omega) (f + 1 + 1)
  have hle := h.2.1.le
  have fin : ∀ (x : Nat) (m : sh_Mem), x = 3 ∨ x = 4 → mRd μ0 m T n (xA T n s) C (W ++ P) o b → C.length + (W ++ P).length + 1 ≤ (xA T n s).1 → ∃ μ', F_X12_qGoesOn f 6 (zI x) m = some (1, μ') ∧ mRd μ0 μ' T n (xA T n s) (C ++ P.reverse) (W ++ [x]) o b := fun x m hx hm hl => by
    have hle2 := hm.2.1.le
    obtain ⟨m', r1, r2, r3⟩ := D_6 (x := x) (by omega) h3 h4 P.length f P C m rfl (by omega) hm.2.2.1 (by omega) hm.2.2.2.2.2.1 hP.2
    rw [List.length_append] at hl
    exact ⟨m', r1, hm.1.trans (r2.mono (fun _ _ z => nZq_W z)), hm.2.1.fW r2, r3, by rw [List.length_append, List.length_reverse, len1]; omega, by rw [len1]; omega, all1 (fun y hy => hm.2.2.2.2.2.1 y (List.mem_append.mpr (Or.inl hy))) (by omega), hm.2.2.2.2.2.2⟩
  obtain ⟨m2, b1, b2, b3⟩ := rf_sg (c := 42) a3 (by omega)
  have b1' : f_X12_takesSign 42 m1 = some (zI (bI (decide (xK T n s.1 s.2 = 42))), m2) := b1
  have e0 : zI (s.1 : Int) + 1 - 1 = zI (s.1 : Int) := by
    rw [show (1 : Int32) = zI 1 from rfl, zI_add, zI_sub]
    congr 1
    omega
  by_cases c : xK T n s.1 s.2 = 42
  · obtain ⟨c1, c2, c3⟩ := b2 c
    have hT := mk_T (c := 42) h.2.1 (by omega) (by omega) c
    have hv : sh_i m2 292 (zI (s.1 : Int)).toNatClampNeg = 42 := by
      rw [tcN (by omega), (c1.2.1.1.2 s.1 (by omega)).2, hT.1]
      rfl
    obtain ⟨m3, d1, d2⟩ := fin 3 m2 (by omega) c1 c3
    refine ⟨m3, ?_, by rw [c]; exact d2⟩
    have d1' : F_X12_qGoesOn f 6 3 m2 = some (1, m3) := d1
    rw [a1, F_X12_qGoesOn, b1', shb_ap, decide_eq_true c, if_neg (show ¬ zI (bI true) = 0 by decide), F_X12_qGoesOn, c2, e0, if_pos ((zI_in (by omega)).mpr (by omega)), hv, if_pos rfl, d1']
  · have c' : xK T n s.1 s.2 = 47 := by omega
    obtain ⟨c1, c2⟩ := b3 c
    obtain ⟨m3, d1, d2, -⟩ := rf_sg (c := 47) c2 (by omega)
    have d1' : f_X12_takesSign 47 m2 = some (zI (bI (decide (xK T n s.1 s.2 = 47))), m3) := d1
    obtain ⟨e1, e2, e3⟩ := d2 c'
    have hT := mk_T (c := 47) h.2.1 (by omega) (by omega) c'
    have hv : sh_i m3 292 (zI (s.1 : Int)).toNatClampNeg = 47 := by
      rw [tcN (by omega), (e1.2.1.1.2 s.1 (by omega)).2, hT.1]
      rfl
    obtain ⟨m4, g1, g2⟩ := fin 4 m3 (by omega) e1 e3
    refine ⟨m4, ?_, by rw [c']; exact g2⟩
    have g1' : F_X12_qGoesOn f 6 4 m3 = some (1, m4) := g1
    rw [a1, F_X12_qGoesOn, b1', shb_ap, decide_eq_false c, if_pos (show zI (bI false) = 0 from rfl), d1', shb_ap, decide_eq_true c', if_neg (show ¬ zI (bI true) = 0 by decide), F_X12_qGoesOn, e2, e0, if_pos ((zI_in (by omega)).mpr (by omega)), hv, if_neg (show ¬ (47 : Int32) = 42 by decide), g1']
theorem B_add {P : List Nat} (h : mRd μ0 μ T n s C (W ++ P) o b) (hb : b ≤ W.length) (hP : P.length ≤ 2 ∧ ∀ y ∈ P, 1 ≤ y ∧ y ≤ 4) (h1 : ¬ tp W = 1) (h2 : ¬ tp W = 2) (h3 : ¬ tp W = 3) (h4 : ¬ tp W = 4) (hK : xK T n s.1 s.2 = 43 ∨ xK T n s.1 s.2 = 45) {f : Nat} (hf : 10 ≤ f) : ∃ μ', F_X12_qGoesOn f 1 0 μ = some (1, μ') ∧ mRd μ0 μ' T n (xA T n s) (C ++ P.reverse) (W ++ [gm (gK (xK T n s.1 s.2))]) o b := by
  obtain ⟨f, rfl⟩ : ∃ f', f = f' + 1 + 1 + 1 := ⟨f - 3, by omega⟩
  obtain ⟨m1, a1, a2, a3⟩ := B_4a h (by omega) (f + 1 + 1)
  have hle := h.2.1.le
  have fin : ∀ (x : Nat) (m : sh_Mem), x = 1 ∨ x = 2 → mRd μ0 m T n (xA T n s) C (W ++ P) o b → C.length + (W ++ P).length + 1 ≤ (xA T n s).1 → ∃ μ', F_X12_qGoesOn f 9 (zI x) m = some (1, μ') ∧ mRd μ0 μ' T n (xA T n s) (C ++ P.reverse) (W ++ [x]) o b := fun x m hx hm hl => by
    have hle2 := hm.2.1.le
    obtain ⟨m', r1, r2, r3⟩ := D_9 (x := x) (by omega) h1 h2 h3 h4 P.length f P C m rfl (by omega) hm.2.2.1 (by omega) hm.2.2.2.2.2.1 hP.2
    rw [List.length_append] at hl
    exact ⟨m', r1, hm.1.trans (r2.mono (fun _ _ z => nZq_W z)), hm.2.1.fW r2, r3, by rw [List.length_append, List.length_reverse, len1]; omega, by rw [len1]; omega, all1 (fun y hy => hm.2.2.2.2.2.1 y (List.mem_append.mpr (Or.inl hy))) (by omega), hm.2.2.2.2.2.2⟩
  obtain ⟨m2, b1, -, b3⟩ := rf_sg (c := 42) a3 (by omega)
  have b1' : f_X12_takesSign 42 m1 = some (zI (bI (decide (xK T n s.1 s.2 = 42))), m2) := b1
  obtain ⟨-, b4⟩ := b3 (by omega)
  obtain ⟨m3, c1, -, c3⟩ := rf_sg (c := 47) b4 (by omega)
  have c1' : f_X12_takesSign 47 m2 = some (zI (bI (decide (xK T n s.1 s.2 = 47))), m3) := c1
  obtain ⟨-, c4⟩ := c3 (by omega)
  obtain ⟨m4, d1, d2, d3⟩ := rf_sg (c := 43) c4 (by omega)
  have d1' : f_X12_takesSign 43 m3 = some (zI (bI (decide (xK T n s.1 s.2 = 43))), m4) := d1
  have e0 : zI (s.1 : Int) + 1 - 1 = zI (s.1 : Int) := by
    rw [show (1 : Int32) = zI 1 from rfl, zI_add, zI_sub]
    congr 1
    omega
  by_cases c : xK T n s.1 s.2 = 43
  · obtain ⟨p1, p2, p3⟩ := d2 c
    have hT := mk_T (c := 43) h.2.1 (by omega) (by omega) c
    have hv : sh_i m4 292 (zI (s.1 : Int)).toNatClampNeg = 43 := by
      rw [tcN (by omega), (p1.2.1.1.2 s.1 (by omega)).2, hT.1]
      rfl
    obtain ⟨m5, q1, q2⟩ := fin 1 m4 (by omega) p1 p3
    refine ⟨m5, ?_, by rw [c]; exact q2⟩
    have q1' : F_X12_qGoesOn f 9 1 m4 = some (1, m5) := q1
    rw [a1, F_X12_qGoesOn, b1', shb_ap, decide_eq_false (by omega), if_pos (show zI (bI false) = 0 from rfl), c1', shb_ap, decide_eq_false (by omega), if_pos (show zI (bI false) = 0 from rfl), d1', shb_ap, decide_eq_true c, if_neg (show ¬ zI (bI true) = 0 by decide), F_X12_qGoesOn, p2, e0, if_pos ((zI_in (by omega)).mpr (by omega)), hv, if_pos rfl, q1']
  · have c' : xK T n s.1 s.2 = 45 := by omega
    obtain ⟨-, d4⟩ := d3 c
    obtain ⟨m5, p0, p1, -⟩ := rf_sg (c := 45) d4 (by omega)
    have p0' : f_X12_takesSign 45 m4 = some (zI (bI (decide (xK T n s.1 s.2 = 45))), m5) := p0
    obtain ⟨e1, e2, e3⟩ := p1 c'
    have hT := mk_T (c := 45) h.2.1 (by omega) (by omega) c'
    have hv : sh_i m5 292 (zI (s.1 : Int)).toNatClampNeg = 45 := by
      rw [tcN (by omega), (e1.2.1.1.2 s.1 (by omega)).2, hT.1]
      rfl
    obtain ⟨m6, g1, g2⟩ := fin 2 m5 (by omega) e1 e3
    refine ⟨m6, ?_, by rw [c']; exact g2⟩
    have g1' : F_X12_qGoesOn f 9 2 m5 = some (1, m6) := g1
    rw [a1, F_X12_qGoesOn, b1', shb_ap, decide_eq_false (by omega), if_pos (show zI (bI false) = 0 from rfl), c1', shb_ap, decide_eq_false (by omega), if_pos (show zI (bI false) = 0 from rfl), d1', shb_ap, decide_eq_false c, if_pos (show zI (bI false) = 0 from rfl), p0', shb_ap, decide_eq_true c', if_neg (show ¬ zI (bI true) = 0 by decide), F_X12_qGoesOn, e2, e0, if_pos ((zI_in (by omega)).mpr (by omega)), hv, if_neg (show ¬ (45 : Int32) = 43 by decide), g1']
/-- nothing that joins -/
theorem B_n {y : Int32} (h : mRd μ0 μ T n s C W o b) (hq : ∀ m, mW m C W o b → f_X12_qBracket m = some (y, m)) (hy : xK T n s.1 s.2 = 41 → ¬ y = 20 ∧ ¬ y = 23 ∧ ¬ y = 24) (hK : ¬ (xK T n s.1 s.2 = 42 ∨ xK T n s.1 s.2 = 47) ∧ ¬ (xK T n s.1 s.2 = 43 ∨ xK T n s.1 s.2 = 45)) (g : Nat) : ∃ m, F_X12_qGoesOn (g + 1 + 1) 1 0 μ = (if y = 21 then F_X12_qGoesOn g 11 0 m else if y = 22 then F_X12_qGoesOn g 11 0 m else if y = -1 then F_X12_qGoesOn g 12 0 m else sh_bindv (f_X12_fail 1 (zI (s.1 : Int)) m) (fun m1 => F_X12_qGoesOn g 12 0 m1)) ∧ mN m T n s ∧ mRd μ0 m T n s C W o b := by
  obtain ⟨m1, a1, a2, a3⟩ := B_4 h hq hy (g + 1)
  obtain ⟨m2, b1, -, b3⟩ := rf_sg (c := 42) a3 (by omega)
  have b1' : f_X12_takesSign 42 m1 = some (zI (bI (decide (xK T n s.1 s.2 = 42))), m2) := b1
  obtain ⟨-, b4⟩ := b3 (by omega)
  obtain ⟨m3, c1, -, c3⟩ := rf_sg (c := 47) b4 (by omega)
  have c1' : f_X12_takesSign 47 m2 = some (zI (bI (decide (xK T n s.1 s.2 = 47))), m3) := c1
  obtain ⟨-, c4⟩ := c3 (by omega)
  obtain ⟨m4, d1, -, d3⟩ := rf_sg (c := 43) c4 (by omega)
  have d1' : f_X12_takesSign 43 m3 = some (zI (bI (decide (xK T n s.1 s.2 = 43))), m4) := d1
  obtain ⟨-, d4⟩ := d3 (by omega)
  obtain ⟨m5, e1, -, e3⟩ := rf_sg (c := 45) d4 (by omega)
  have e1' : f_X12_takesSign 45 m4 = some (zI (bI (decide (xK T n s.1 s.2 = 45))), m5) := e1
  obtain ⟨e4, e5⟩ := e3 (by omega)
  have q := hq m5 e5.2.2.1
  refine ⟨m5, ?_, e4, e5⟩
  rw [a1, F_X12_qGoesOn, b1', shb_ap, decide_eq_false (by omega), if_pos (show zI (bI false) = 0 from rfl), c1', shb_ap, decide_eq_false (by omega), if_pos (show zI (bI false) = 0 from rfl), d1', shb_ap, decide_eq_false (by omega), if_pos (show zI (bI false) = 0 from rfl), e1', shb_ap, decide_eq_false (by omega), if_pos (show zI (bI false) = 0 from rfl), q, shb_ap]
  by_cases y1 : y = 21
  · rw [if_pos y1, if_pos y1]
  rw [if_neg y1, if_neg y1, q, shb_ap]
  by_cases y2 : y = 22
  · rw [if_pos y2, if_pos y2]
  rw [if_neg y2, if_neg y2, q, shb_ap]
  by_cases y3 : y = -1
  · rw [if_pos y3, if_pos y3]
  rw [if_neg y3, if_neg y3, e4.2.2.1, if_pos rfl, e4.2.2.2.2.1]
/-- the end of a sum -/
theorem B_end {P : List Nat} (h : mRd μ0 μ T n s C (W ++ P) o b) (hb : W.length = b) (hP : ∀ y ∈ P, y < 20) (hK : ¬ (xK T n s.1 s.2 = 42 ∨ xK T n s.1 s.2 = 47) ∧ ¬ (xK T n s.1 s.2 = 43 ∨ xK T n s.1 s.2 = 45)) {f : Nat} (hf : 10 ≤ f) : ∃ m, F_X12_qGoesOn f 1 0 μ = some (0, m) ∧ mRd μ0 m T n s C (W ++ P) o b := by
  obtain ⟨f, rfl⟩ : ∃ f', f = f' + 1 + 1 + 1 := ⟨f - 3, by omega⟩
  have hle := h.2.1.le
  have hl := h.2.2.2.1
  obtain ⟨m, a1, a2, a3⟩ := B_n (y := -1) h (fun m hm => rf_qBracketN hm hb (by omega) hP) (fun _ => by decide) hK (f + 1)
  refine ⟨m, ?_, a3⟩
  rw [a1, if_neg (by decide), if_neg (by decide), if_pos rfl, F_X12_qGoesOn]
/-- a bracket that is not closed -/
theorem B_fail {x : Nat} {A P : List Nat} (h : mRd μ0 μ T n s C (A ++ [x] ++ P) o b) (hb : b ≤ A.length) (hx : x = 20 ∨ x = 23 ∨ x = 24) (hP : ∀ y ∈ P, y < 20) (h41 : ¬ xK T n s.1 s.2 = 41) (hK : ¬ (xK T n s.1 s.2 = 42 ∨ xK T n s.1 s.2 = 47) ∧ ¬ (xK T n s.1 s.2 = 43 ∨ xK T n s.1 s.2 = 45)) {f : Nat} (hf : 10 ≤ f) : ∃ m, F_X12_qGoesOn f 1 0 μ = some (0, m) ∧ mFt μ0 m (1, s.1) := by
  obtain ⟨f, rfl⟩ : ∃ f', f = f' + 1 + 1 + 1 := ⟨f - 3, by omega⟩
  have hle := h.2.1.le
  have hl := h.2.2.2.1
  obtain ⟨m, a1, a2, a3⟩ := B_n (y := zI x) h (fun m hm => rf_qBracket hm hb (by omega) (by omega) hP) (fun z => absurd z h41) hK (f + 1)
  obtain ⟨m2, r1, r2, r3⟩ := rf_fail (T := T) (n := n) (μ := m) (k := 1) (p := s.1) a2.2.2.1
  have r1' : f_X12_fail 1 (zI (s.1 : Int)) m = some m2 := r1
  refine ⟨m2, ?_, mF_1 (a3.1.trans (r2.mono (fun _ _ z => nZq_M z))) a3.2.2.1 (by omega) r2 (by omega) r3.1 r3.2⟩
  have n1 : ∀ y : Nat, y = 21 ∨ y = 22 → ¬ zI (x : Int) = zI (y : Int) := fun y hy z => by
    have := (zI_eq (by omega) (by omega) (by omega) (by omega)).mp z
    omega
  rw [a1, if_neg (show ¬ zI (x : Int) = 21 from n1 21 (by omega)), if_neg (show ¬ zI (x : Int) = 22 from n1 22 (by omega)), if_neg (ofN (by omega)), r1', shv_ap, F_X12_qGoesOn]
theorem B_comma {x : Nat} {A P : List Nat} (h : mRd μ0 μ T n s C (A ++ [x] ++ P) o b) (hb : b ≤ A.length) (hx : x = 21 ∨ x = 22) (hP : ∀ y ∈ P, y < 20) (h44 : xK T n s.1 s.2 = 44) {f : Nat} (hf : 10 ≤ f) : ∃ m, F_X12_qGoesOn f 1 0 μ = some (1, m) ∧ mRd μ0 m T n (xA T n s) (C ++ P.reverse) (A ++ [x + 2]) o b := by
  obtain ⟨f, rfl⟩ : ∃ f', f = f' + 1 + 1 + 1 := ⟨f - 3, by omega⟩
  have hle := h.2.1.le
  have hl := h.2.2.2.1
  obtain ⟨m, a1, a2, a3⟩ := B_n (y := zI x) h (fun m hm => rf_qBracket hm hb (by omega) (by omega) hP) (fun z => by omega) (by omega) (f + 1)
  obtain ⟨m2, r1, r2, r3⟩ := rf_mark (c := 44) a3.2.1 (by omega)
  have r1' : f_X12_asksSign 44 m = some m2 := r1
  rw [show x_mark T n 44 s = .inr (xA T n s) from if_pos h44] at r3
  have M2 := a3.2.2.1.fM r2
  obtain ⟨m3, t1, t2, t3⟩ := rf_qToBr M2 hb (by omega) (by omega) hP
  have hlt : s.1 < n := xK_lt (T := T) (g := s.2) (by omega)
  have hA := xA_lt (T := T) hlt
  rw [List.length_append, len1] at hl
  obtain ⟨c1, c2, c3, c4, c5, c6⟩ := id t3
  rw [len1] at c3 c4
  have e1 : zI ((A.length + 1 : Nat) : Int) - 1 = zI (A.length : Int) := by
    rw [show (1 : Int32) = zI 1 from rfl, zI_sub]
    congr 1
    omega
  have hin : sh_in (zI (A.length : Int)) 1700 := (zI_in (by omega)).mpr (by omega)
  have hv : sh_i m3 365 A.length = zI x := by rw [c4 _ (by omega), gD_e]
  have fs : sh_fr nWq m3 (sh_setI m3 365 A.length (zI x + 2)) := sh_fr_I sh_fr.rf (by unfold nWq; omega)
  have e2 : zI (x : Int) + 2 = zI ((x + 2 : Nat) : Int) := by
    rw [show (2 : Int32) = zI 2 from rfl, zI_add]
    rfl
  have f3 : sh_fr nZq μ0 (sh_setI m3 365 A.length (zI x + 2)) := (a3.1.trans (r2.mono (fun _ _ z => nZq_M z))).trans ((t2.trans fs).mono (fun _ _ z => nZq_W z))
  refine ⟨sh_setI m3 365 A.length (zI x + 2), ?_, f3, mS.fW r3 (t2.trans fs), ⟨by rw [ir_set_r (by omega), c1], fun j hj => by rw [ir_set_r (by omega)]; exact c2 j hj, by rw [ir_set_r (by omega), c3, len1], fun j hj => ?_, by rw [ir_set_r (by omega), c5], by rw [ir_set_r (by omega), c6]⟩, by rw [List.length_append, List.length_reverse, len1]; omega, by rw [len1]; omega, all1 (fun y hy => a3.2.2.2.2.2.1 y (List.mem_append.mpr (Or.inl (List.mem_append.mpr (Or.inl hy))))) (by omega), a3.2.2.2.2.2.2⟩
  · have h5 : sh_i m2 291 5 = 0 := (show mS m2 T n (xA T n s) from r3).2.2.1
    have ya : F_X12_qGoesOn (f + 1) 11 0 m = some (1, sh_setI m3 365 A.length (zI x + 2)) := by
      rw [F_X12_qGoesOn, r1', shv_ap, h5, if_pos rfl, t1, shv_ap, c3, e1, if_pos hin, if_pos hin, tcN (by omega), hv, shl_ap]
    rw [a1]
    by_cases c : zI (x : Int) = 21
    · rw [if_pos c, ya]
    · rw [if_neg c, if_pos (show zI (x : Int) = 22 by
        rcases hx with z | z
        · exact absurd (show zI (x : Int) = 21 by rw [z]; rfl) c
        · rw [z]; rfl), ya]
  · rw [len1] at hj
    by_cases z : j = A.length
    · rw [z, ir_set, gD_e, e2]
    · rw [ir_set_k z, c4 j (by omega), gD_l (by omega), gD_l (by omega)]
theorem B_commaX {x : Nat} {A P : List Nat} (h : mRd μ0 μ T n s C (A ++ [x] ++ P) o b) (hb : b ≤ A.length) (hx : x = 21 ∨ x = 22) (hP : ∀ y ∈ P, y < 20) (h44 : ¬ xK T n s.1 s.2 = 44) (hK : ¬ (xK T n s.1 s.2 = 42 ∨ xK T n s.1 s.2 = 47) ∧ ¬ (xK T n s.1 s.2 = 43 ∨ xK T n s.1 s.2 = 45)) {f : Nat} (hf : 10 ≤ f) : ∃ m, F_X12_qGoesOn f 1 0 μ = some (0, m) ∧ mFt μ0 m (1, s.1) := by
  obtain ⟨f, rfl⟩ : ∃ f', f = f' + 1 + 1 + 1 := ⟨f - 3, by omega⟩
  have hle := h.2.1.le
  have hl := h.2.2.2.1
  have nx : ∀ y : Nat, y = 20 ∨ y = 23 ∨ y = 24 → ¬ zI (x : Int) = zI (y : Int) := fun y hy z => by
    have := (zI_eq (by omega) (by omega) (by omega) (by omega)).mp z
    omega
  obtain ⟨m, a1, a2, a3⟩ := B_n (y := zI x) h (fun m hm => rf_qBracket hm hb (by omega) (by omega) hP) (fun _ => ⟨nx 20 (by omega), nx 23 (by omega), nx 24 (by omega)⟩) hK (f + 1)
  obtain ⟨m2, r1, r2, r3⟩ := rf_mark (c := 44) a3.2.1 (by omega)
  have r1' : f_X12_asksSign 44 m = some m2 := r1
  rw [show x_mark T n 44 s = .inl (1, s.1) from if_neg h44] at r3
  have F : mFt μ0 m2 (1, s.1) := mF_1 (a3.1.trans (r2.mono (fun _ _ z => nZq_M z))) a3.2.2.1 (by omega) r2 (by omega) r3.1 r3.2
  refine ⟨m2, ?_, F⟩
  have ya : F_X12_qGoesOn (f + 1) 11 0 m = some (0, m2) := by
    rw [F_X12_qGoesOn, r1', shv_ap, if_neg F.ne]
  rw [a1]
  by_cases c : zI (x : Int) = 21
  · rw [if_pos c, ya]
  · rw [if_neg c, if_pos (show zI (x : Int) = 22 by
      rcases hx with z | z
      · exact absurd (show zI (x : Int) = 21 by rw [z]; rfl) c
      · rw [z]; rfl), ya]
/-- what a closing mark writes -/
def brS (x : Nat) : List Nat := if x = 20 then [] else if x = 23 then [5] else [6]
theorem B_close {x : Nat} {A P : List Nat} (h : mRd μ0 μ T n s C (A ++ [x] ++ P) (o + 1) b) (hb : b ≤ A.length) (hx : x = 20 ∨ x = 23 ∨ x = 24) (hP : ∀ y ∈ P, y < 20) (h41 : xK T n s.1 s.2 = 41) (g : Nat) : ∃ m, F_X12_qGoesOn (g + 1 + 1 + 1) 1 0 μ = sh_bindv (f_X12_qEndsPart m) (fun m' => F_X12_qGoesOn g 1 0 m') ∧ mRd μ0 m T n (xA T n s) (C ++ P.reverse ++ brS x) A o b := by
  have hle := h.2.1.le
  have hl := h.2.2.2.1
  have hS := h.2.1
  obtain ⟨m1, a1, a2, a3⟩ := rf_look hS
  have M1 := h.2.2.1.fL a2
  have q1 := rf_qBracket M1 hb (by omega) (by omega) hP
  have nx : ∀ y : Nat, y < 100 → ¬ x = y → ¬ zI (x : Int) = zI (y : Int) := fun y hy hn z => by
    have := (zI_eq (by omega) (by omega) (by omega) (by omega)).mp z
    omega
  have s1 : F_X12_qGoesOn (g + 1 + 1 + 1) 1 0 μ = F_X12_qGoesOn (g + 1 + 1) 2 0 m1 := by
    rw [F_X12_qGoesOn, hS.2.2.1, if_pos rfl, a1, shb_ap, xc_eq hS (by omega) h41, if_pos (show zI 41 = 41 from rfl), q1, shb_ap]
    rcases hx with z | z | z
    · rw [if_pos (show zI (x : Int) = 20 by rw [z]; rfl)]
    · rw [if_neg (show ¬ zI (x : Int) = 20 from nx 20 (by omega) (by omega)), q1, shb_ap, if_pos (show zI (x : Int) = 23 by rw [z]; rfl)]
    · rw [if_neg (show ¬ zI (x : Int) = 20 from nx 20 (by omega) (by omega)), q1, shb_ap, if_neg (show ¬ zI (x : Int) = 23 from nx 23 (by omega) (by omega)), q1, shb_ap, if_pos (show zI (x : Int) = 24 by rw [z]; rfl)]
  have hlt : s.1 < n := xK_lt (T := T) (g := s.2) (by omega)
  have hA := xA_lt (T := T) hlt
  obtain ⟨m2, hm2⟩ : ∃ m, m = sh_setI m1 291 2 (zI (s.1 : Int) + 1) := ⟨_, rfl⟩
  have S2 : mS m2 T n (xA T n s) := by rw [hm2]; exact a3.mark hlt (by omega)
  have f2 : sh_fr nM m1 m2 := by rw [hm2]; exact sh_fr_I sh_fr.rf (by unfold nM; omega)
  have M2 := M1.fM f2
  obtain ⟨m3, t1, t2, t3⟩ := rf_qToBr M2 hb (by omega) (by omega) hP
  rw [List.length_append, len1] at hl
  obtain ⟨m4, u1, u2, u3, u4⟩ := rf_pop t3 (by omega)
  have f4 : sh_fr nZq μ0 m4 := ((h.1.trans (a2.mono (fun _ _ z => nZq_L z))).trans (f2.mono (fun _ _ z => nZq_M z))).trans ((t2.trans u3).mono (fun _ _ z => nZq_W z))
  have hin : sh_in (zI (A.length : Int)) 1700 := (zI_in (by omega)).mpr (by omega)
  have hv : sh_i m4 365 (zI (A.length : Int)).toNatClampNeg = zI x := by rw [tcN (by omega), u4]
  have hyA : ∀ y ∈ A, y < 100 := fun y hy => h.2.2.2.2.2.1 y (List.mem_append.mpr (Or.inl (List.mem_append.mpr (Or.inl hy))))
  have ho := h.2.2.2.2.2.2
  have s2 : F_X12_qGoesOn (g + 1 + 1) 2 0 m1 = (if zI (x : Int) = 20 then F_X12_qGoesOn (g + 1) 3 0 m4 else (if zI (x : Int) = 23 then sh_bindv (f_X12_qCode 5 m4) (fun m5 => F_X12_qGoesOn (g + 1) 3 0 m5) else sh_bindv (f_X12_qCode 6 m4) (fun m5 => F_X12_qGoesOn (g + 1) 3 0 m5))) := by
    rw [F_X12_qGoesOn, a3.2.2.2.2.1, ← hm2, shl_ap, t1, shv_ap, shl_ap, shl_ap, ← u1, u2.2.2.1, if_pos hin, if_pos hin, hv]
  have s3 : ∀ m, F_X12_qGoesOn (g + 1) 3 0 m = sh_bindv (f_X12_qEndsPart m) (fun m' => F_X12_qGoesOn g 1 0 m') := fun m => by rw [F_X12_qGoesOn]
  have S4 := S2.fW (t2.trans u3)
  rcases hx with z | z | z
  · refine ⟨m4, ?_, f4, S4, ?_, ?_, hb, hyA, by omega⟩
    · rw [s1, s2, if_pos (show zI (x : Int) = 20 by rw [z]; rfl), s3]
    · rw [z, show brS 20 = [] from rfl, List.append_nil]
      exact u2
    · rw [z, show brS 20 = [] from rfl, List.append_nil, List.length_append, List.length_reverse]
      omega
  · obtain ⟨m5, v1, v2, v3⟩ := rf_qCode (x := 5) u2 (by rw [List.length_append, List.length_reverse]; omega)
    have v1' : f_X12_qCode 5 m4 = some m5 := v1
    refine ⟨m5, ?_, f4.trans (v2.mono (fun _ _ z => nZq_W z)), S4.fW v2, by rw [z]; exact v3, ?_, hb, hyA, by omega⟩
    · rw [s1, s2, if_neg (show ¬ zI (x : Int) = 20 from nx 20 (by omega) (by omega)), if_pos (show zI (x : Int) = 23 by rw [z]; rfl), v1', shv_ap, s3]
    · rw [z, show brS 23 = [5] from rfl, len1, List.length_append, List.length_reverse]
      omega
  · obtain ⟨m5, v1, v2, v3⟩ := rf_qCode (x := 6) u2 (by rw [List.length_append, List.length_reverse]; omega)
    have v1' : f_X12_qCode 6 m4 = some m5 := v1
    refine ⟨m5, ?_, f4.trans (v2.mono (fun _ _ z => nZq_W z)), S4.fW v2, by rw [z]; exact v3, ?_, hb, hyA, by omega⟩
    · rw [s1, s2, if_neg (show ¬ zI (x : Int) = 20 from nx 20 (by omega) (by omega)), if_neg (show ¬ zI (x : Int) = 23 from nx 23 (by omega) (by omega)), v1', shv_ap, s3]
    · rw [z, show brS 24 = [6] from rfl, len1, List.length_append, List.length_reverse]
      omega
/-- ahead of the end of a part -/
theorem E_0 (h : mRd μ0 μ T n s C W o b) (ht : W.length ≤ b ∨ tp W < 60) (f : Nat) : F_X12_qEndsPart (f + 1) 1 μ = some μ := by
  have hle := h.2.1.le
  obtain ⟨hf, hS, ⟨h1, h2, h3, h4, h6, h7⟩, hl, hb, hy, ho6⟩ := h
  rw [F_X12_qEndsPart, hS.2.2.1, if_pos rfl, h3, h7]
  by_cases c : W.length ≤ b
  · rw [if_pos (zI_yes (by omega) (by omega))]
  · rw [if_neg (zI_not (by omega) (by omega))]
    rcases List.eq_nil_or_concat W with rfl | ⟨W', y, rfl⟩
    · exact absurd (Nat.zero_le b) c
    rw [List.concat_eq_append] at *
    rw [tp_e] at ht
    rw [len1] at h4 hl c ht ⊢
    have e1 : zI ((W'.length + 1 : Nat) : Int) - 1 = zI (W'.length : Int) := by
      rw [show (1 : Int32) = zI 1 from rfl, zI_sub]
      congr 1
      omega
    have hv : sh_i μ 365 (zI (W'.length : Int)).toNatClampNeg = zI y := by rw [tcN (by omega), h4 _ (by omega), gD_e]
    rw [e1, if_pos ((zI_in (by omega)).mpr (by omega)), hv, if_pos (show zI (y : Int) < 60 from (zI_lt (b := 60) (by omega) (by omega) (by omega) (by omega)).mpr (by omega))]
theorem E_1 {x : Nat} (h : mRd μ0 μ T n s C (W ++ [x]) (o + 1) b) (hb : b ≤ W.length) (hx : 60 ≤ x) (f : Nat) : ∃ m, F_X12_qEndsPart (f + 1) 1 μ = F_X12_qEndsPart f 1 m ∧ mRd μ0 m T n s (C ++ [x]) W o b := by
  have hle := h.2.1.le
  obtain ⟨hf, hS, hM, hl, -, hy, ho6⟩ := h
  rw [len1] at hl
  have hx2 := hy x (List.mem_append.mpr (Or.inr (List.mem_singleton.mpr rfl)))
  obtain ⟨m1, hm1⟩ : ∃ m, m = sh_setI μ 291 106 (zI o) := ⟨_, rfl⟩
  have f1 : sh_fr nWq μ m1 := by rw [hm1]; exact sh_fr_I sh_fr.rf (by unfold nWq; omega)
  have M1 : mW m1 C (W ++ [x]) o b := by
    obtain ⟨h1, h2, h3, h4, h6, h7⟩ := hM
    exact ⟨by rw [hm1, ir_set_k (by omega), h1], fun j hj => by rw [hm1, ir_set_r (by omega)]; exact h2 j hj, by rw [hm1, ir_set_k (by omega), h3], fun j hj => by rw [hm1, ir_set_r (by omega)]; exact h4 j hj, by rw [hm1, ir_set], by rw [hm1, ir_set_k (by omega), h7]⟩
  obtain ⟨m2, k1, k2, k3⟩ := rf_qDrops M1 (by omega) (by omega)
  refine ⟨m2, ?_, hf.trans ((f1.trans k2).mono (fun _ _ z => nZq_W z)), hS.fW (f1.trans k2), k3, by rw [len1]; omega, hb, fun y hz => hy y (List.mem_append.mpr (Or.inl hz)), by omega⟩
  obtain ⟨h1, h2, h3, h4, h6, h7⟩ := hM
  rw [len1] at h3 h4
  have e1 : zI ((W.length + 1 : Nat) : Int) - 1 = zI (W.length : Int) := by
    rw [show (1 : Int32) = zI 1 from rfl, zI_sub]
    congr 1
    omega
  have e2 : zI ((o + 1 : Nat) : Int) - 1 = zI (o : Int) := by
    rw [show (1 : Int32) = zI 1 from rfl, zI_sub]
    congr 1
    omega
  have hv : sh_i μ 365 (zI (W.length : Int)).toNatClampNeg = zI x := by rw [tcN (by omega), h4 _ (by omega), gD_e]
  rw [F_X12_qEndsPart, hS.2.2.1, if_pos rfl, h3, h7, if_neg (zI_not (by omega) (by omega)), e1, if_pos ((zI_in (by omega)).mpr (by omega)), hv, if_neg (show ¬ zI (x : Int) < 60 from fun z => by have := (zI_lt (b := 60) (by omega) (by omega) (by omega) (by omega)).mp z; omega), h6, e2, ← hm1, shl_ap, k1, shv_ap]
end Gm4
