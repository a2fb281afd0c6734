/-! what the reference takes of a text -/
section Lz
variable {T : Nat → Nat} {n : Nat}
/-- the reference ahead of a word, number or mark, without a fault; blanks may lie ahead of it -/
def mS (μ : sh_Mem) (T : Nat → Nat) (n : Nat) (s : xs) : Prop := xT μ 292 T n ∧ sh_i μ 291 3 = zI n ∧ sh_i μ 291 5 = 0 ∧ ∃ (e : Nat) (d : Int), e ≤ n ∧ sh_i μ 291 2 = zI e ∧ xS T n e = s.1 ∧ sh_i μ 291 4 = zI d ∧ -1 ≤ d ∧ d ≤ e ∧ (s.2 = true ↔ d = s.1)
/-- without blanks -/
def mN (μ : sh_Mem) (T : Nat → Nat) (n : Nat) (s : xs) : Prop := xT μ 292 T n ∧ sh_i μ 291 3 = zI n ∧ sh_i μ 291 5 = 0 ∧ s.1 ≤ n ∧ sh_i μ 291 2 = zI s.1 ∧ (s.1 < n → ¬ xB T s.1 = true) ∧ ∃ d : Int, sh_i μ 291 4 = zI d ∧ -1 ≤ d ∧ d ≤ s.1 ∧ (s.2 = true ↔ d = s.1)
def mO (μ : sh_Mem) (T : Nat → Nat) (n : Nat) : xo xs → Prop
  | .inl q => sh_i μ 291 5 = zI q.1 ∧ sh_i μ 291 6 = zI q.2
  | .inr s => mS μ T n s
def nM (r k : Nat) : Prop := r = 291 ∧ (k = 2 ∨ k = 4 ∨ k = 5 ∨ k = 6 ∨ k = 10 ∨ k = 38)
def nLk (r k : Nat) : Prop := r = 291 ∧ k = 2
theorem xS_st {a : Nat} (h : a < n → ¬ xB T a = true) : xS T n a = a := by
  unfold xS
  by_cases c : a < n
  · obtain ⟨g, hg⟩ : ∃ g, n - a = g + 1 := ⟨n - a - 1, by omega⟩
    rw [hg, xR_n (h c)]
  · rw [show n - a = 0 by omega]
    rfl
theorem xS_nb {e : Nat} (h : e ≤ n) : xS T n e < n → ¬ xB T (xS T n e) = true := by
  intro c z
  have := xR_end (q := xB T) (n - e) e (by unfold xS at c; omega)
  unfold xS at z
  rw [this] at z
  cases z
theorem mN.S {μ : sh_Mem} {s : xs} (h : mN μ T n s) : mS μ T n s := by
  obtain ⟨h1, h2, h3, h4, h5, h6, d, d1, d2, d3, d4⟩ := h
  exact ⟨h1, h2, h3, s.1, d, h4, h5, xS_st h6, d1, d2, d3, d4⟩
theorem rf_look1 : ∀ (g f e : Nat) (μ : sh_Mem), e + g = n → g < f → xT μ 292 T n → sh_i μ 291 3 = zI n → sh_i μ 291 2 = zI e → ∃ μ', F_X12_look f 1 μ = some (zI (if xR (xB T) g e < n then (T (xR (xB T) g e) : Int) else -1), μ') ∧ sh_fr nLk μ μ' ∧ sh_i μ' 291 2 = zI (xR (xB T) g e) := by
  intro g
  induction g with
  | zero =>
    intro f e μ he hf hT h3 h2
    obtain ⟨f, rfl⟩ : ∃ q, f = q + 1 := ⟨f - 1, by omega⟩
    have hn := hT.1
    refine ⟨μ, ?_, sh_fr.rf, h2⟩
    rw [F_X12_look, h3, h2, if_pos (zI_yes (by omega) (by omega)), if_pos (zI_yes (by omega) (by omega)), if_neg (show ¬ xR (xB T) 0 e < n from by show ¬ e < n; omega)]
    rfl
  | succ g ih =>
    intro f e μ he hf hT h3 h2
    obtain ⟨f, rfl⟩ : ∃ q, f = q + 1 := ⟨f - 1, by omega⟩
    have hn := hT.1
    obtain ⟨t1, t2⟩ := hT.2 e (by omega)
    have t2 : sh_i μ 292 (zI (e : Int)).toNatClampNeg = zI (T e) := by rw [tcN (by omega)]; exact t2
    have i16 : sh_in (zI (e : Int)) 1600 := (zI_in (by omega)).mpr (by omega)
    have n1 : ¬ zI (n : Int) ≤ zI (e : Int) := zI_not (by omega) (by omega)
    have go : xB T e = true → F_X12_look (f + 1) 1 μ = F_X12_look f 1 (sh_setI μ 291 2 (zI (e : Int) + 1)) → ∃ μ', F_X12_look (f + 1) 1 μ = some (zI (if xR (xB T) (g + 1) e < n then (T (xR (xB T) (g + 1) e) : Int) else -1), μ') ∧ sh_fr nLk μ μ' ∧ sh_i μ' 291 2 = zI (xR (xB T) (g + 1) e) := by
      intro hb e0
      have f1 : sh_fr nLk μ (sh_setI μ 291 2 (zI (e : Int) + 1)) := sh_fr_I sh_fr.rf (by unfold nLk; omega)
      obtain ⟨μ', k1, k2, k3⟩ := ih f (e + 1) (sh_setI μ 291 2 (zI (e : Int) + 1)) (by omega) (by omega) (hT.cg (f1.row _ (fun k => by unfold nLk; omega))) (by rw [ir_set_k (by omega)]; exact h3) (by rw [ir_set, zI_s1])
      rw [xR_s hb]
      exact ⟨μ', by rw [e0]; exact k1, f1.trans k2, k3⟩
    by_cases c1 : T e = 10
    · refine go (xB_t.mpr (Or.inl c1)) ?_
      rw [F_X12_look, h3, h2, if_neg n1, if_pos i16, t2, if_pos (show zI (T e : Int) = 10 by rw [c1]; rfl), shl_ap]
    have m1 : ¬ zI (T e : Int) = 10 := fun z => by
      have := (zI_eq (b := 10) (by omega) (by omega) (by omega) (by omega)).mp z
      omega
    by_cases c2 : T e = 32
    · refine go (xB_t.mpr (Or.inr c2)) ?_
      rw [F_X12_look, h3, h2, if_neg n1, if_pos i16, t2, if_neg m1, if_pos i16, if_pos (show zI (T e : Int) = 32 by rw [c2]; rfl), shl_ap]
    have m2 : ¬ zI (T e : Int) = 32 := fun z => by
      have := (zI_eq (b := 32) (by omega) (by omega) (by omega) (by omega)).mp z
      omega
    have hb : ¬ xB T e = true := fun z => by
      have := xB_t.mp z
      omega
    rw [xR_n hb, if_pos (show e < n by omega)]
    refine ⟨μ, ?_, sh_fr.rf, h2⟩
    rw [F_X12_look, h3, h2, if_neg n1, if_pos i16, t2, if_neg m1, if_pos i16, if_neg m2, if_neg n1, if_pos i16]
/-- the byte that stands next; none: -1 -/
def xc (T : Nat → Nat) (n : Nat) (s : xs) : Int := if s.1 < n then (T s.1 : Int) else -1
theorem rf_look {μ : sh_Mem} {s : xs} (h : mS μ T n s) : ∃ μ', f_X12_look μ = some (zI (xc T n s), μ') ∧ sh_fr nLk μ μ' ∧ mN μ' T n s := by
  obtain ⟨hT, h3, h5, e, d, he, h2, hs, h4, d1, d2, d3⟩ := h
  have hn := hT.1
  obtain ⟨μ', k1, k2, k3⟩ := rf_look1 (T := T) (n := n) (n - e) sh_fuel e μ (by omega) (by rw [sh_fuel_eq]; omega) hT h3 h2
  have hs' : xR (xB T) (n - e) e = s.1 := hs
  rw [hs'] at k1 k3
  have hsl := xS_le (T := T) he
  rw [hs] at hsl
  refine ⟨μ', k1, k2, hT.cg (k2.row _ (fun k => by unfold nLk; omega)), by rw [k2.i _ _ (by unfold nLk; omega)]; exact h3, by rw [k2.i _ _ (by unfold nLk; omega)]; exact h5, hsl.2, k3, by rw [← hs]; exact xS_nb he, d, by rw [k2.i _ _ (by unfold nLk; omega)]; exact h4, d1, by omega, d3⟩
theorem xK_c {s : xs} (h : ∀ j, j < 1600 → T j < 256) (hn : n ≤ 1600) {c : Int} (hc : 0 ≤ c ∧ c < 256 ∧ ¬ (97 ≤ c ∧ c ≤ 122) ∧ ¬ (48 ≤ c ∧ c ≤ 57) ∨ c = -1) : xK T n s.1 s.2 = c ↔ xc T n s = c := by
  unfold xK xc
  by_cases z : n ≤ s.1
  · rw [if_pos z, if_neg (show ¬ s.1 < n by omega)]
  · rw [if_neg z, if_pos (show s.1 < n by omega)]
    by_cases l : xL T s.1 = true
    · have := xL_t.mp l
      rw [if_pos l]
      split <;> omega
    · rw [if_neg l]
      by_cases d : xD T s.1 = true
      · have := xD_t.mp d
        rw [if_pos d]
        split <;> omega
      · rw [if_neg d]
theorem rf_fail {μ : sh_Mem} {k p : Nat} (h0 : sh_i μ 291 5 = 0) : ∃ μ', f_X12_fail (zI k) (zI p) μ = some μ' ∧ sh_fr nM μ μ' ∧ mO μ' T n (.inl (k, p)) := by
  refine ⟨sh_setI (sh_setI μ 291 5 (zI k)) 291 6 (zI p), ?_, sh_fr_I (sh_fr_I sh_fr.rf (by unfold nM; omega)) (by unfold nM; omega), ?_, ?_⟩
  · unfold f_X12_fail
    rw [h0, if_pos rfl, shl_ap, shl_ap]
  · rw [ir_set_k (by omega), ir_set]
  · rw [ir_set]
theorem nLk_M {r k : Nat} (h : nLk r k) : nM r k := by unfold nLk at h; unfold nM; omega
/-- a mark that is here -/
theorem mN.mark {μ : sh_Mem} {s : xs} (h : mN μ T n s) (hl : s.1 < n) (hK : 0 ≤ xK T n s.1 s.2) : mS (sh_setI μ 291 2 (zI (s.1 : Int) + 1)) T n (xA T n s) := by
  obtain ⟨hT, h3, h5, ha, h2, hb, d, d1, d2, d3, d4⟩ := h
  have hE : xE T n s.1 = s.1 + 1 := by
    unfold xK at hK
    unfold xE
    rw [if_neg (show ¬ n ≤ s.1 by omega)] at hK ⊢
    by_cases l : xL T s.1 = true
    · rw [if_pos l] at hK
      split at hK <;> omega
    · rw [if_neg l] at hK ⊢
      by_cases dd : xD T s.1 = true
      · rw [if_pos dd] at hK
        split at hK <;> omega
      · rw [if_neg dd]
  have hx := xS_le (T := T) (n := n) (a := s.1 + 1) (by omega)
  refine ⟨hT.cg (ir_set_r (by omega)), by rw [ir_set_k (by omega)]; exact h3, by rw [ir_set_k (by omega)]; exact h5, s.1 + 1, d, by omega, by rw [ir_set, zI_s1], by show _ = xS T n (xE T n s.1); rw [hE], by rw [ir_set_k (by omega)]; exact d1, d2, by omega, ?_⟩
  have g0 : (xA T n s).2 = false := by
    show (decide (xK T n s.1 s.2 = -2 ∨ xK T n s.1 s.2 = -3) && _) = false
    rw [decide_eq_false (by omega)]
    rfl
  rw [g0]
  refine ⟨fun z => (by cases z), fun z => ?_⟩
  have : (xA T n s).1 = xS T n (s.1 + 1) := by show xS T n (xE T n s.1) = _; rw [hE]
  rw [this] at z
  omega
theorem rf_takesSign {μ : sh_Mem} {s : xs} {c : Int} (h : mS μ T n s) (hc : 0 ≤ c ∧ c < 256 ∧ ¬ (97 ≤ c ∧ c ≤ 122) ∧ ¬ (48 ≤ c ∧ c ≤ 57)) : ∃ μ', f_X12_takesSign (zI c) μ = some (zI (bI (decide (xK T n s.1 s.2 = c))), μ') ∧ sh_fr nLk μ μ' ∧ (xK T n s.1 s.2 = c → mS μ' T n (xA T n s) ∧ sh_i μ' 291 2 = zI (s.1 : Int) + 1) ∧ (¬ xK T n s.1 s.2 = c → mN μ' T n s) := by
  obtain ⟨m1, k1, k2, k3⟩ := rf_look h
  have hT := k3.1
  have hkc := xK_c (s := s) (fun j hj => (hT.2 j hj).1) hT.1 (Or.inl hc)
  have hxb : -1 ≤ xc T n s ∧ xc T n s < 256 := by
    unfold xc
    split
    · have := (hT.2 s.1 (by have := hT.1; omega)).1
      omega
    · omega
  unfold f_X12_takesSign
  rw [h.2.2.1, if_pos rfl, k1, shb_ap]
  by_cases q : xK T n s.1 s.2 = c
  · have hl : s.1 < n := xK_lt (T := T) (g := s.2) (by omega)
    refine ⟨sh_setI m1 291 2 (zI (s.1 : Int) + 1), ?_, k2.trans (sh_fr_I sh_fr.rf (by unfold nLk; omega)), fun _ => ⟨k3.mark hl (by omega), by rw [ir_set]⟩, fun z => absurd q z⟩
    rw [if_pos (show zI (xc T n s) = zI c by rw [hkc.mp q]), k3.2.2.2.2.1, shl_ap, decide_eq_true q]
    rfl
  · refine ⟨m1, ?_, k2, fun z => absurd z q, fun _ => k3⟩
    rw [if_neg (fun z => q (hkc.mpr ((zI_eq (by omega) (by omega) (by omega) (by omega)).mp z))), decide_eq_false q]
    rfl
theorem rf_mark {μ : sh_Mem} {s : xs} {c : Int} (h : mS μ T n s) (hc : 0 ≤ c ∧ c < 256 ∧ ¬ (97 ≤ c ∧ c ≤ 122) ∧ ¬ (48 ≤ c ∧ c ≤ 57)) : ∃ μ', f_X12_asksSign (zI c) μ = some μ' ∧ sh_fr nM μ μ' ∧ mO μ' T n (x_mark T n c s) := by
  obtain ⟨m1, k1, k2, k3, k4⟩ := rf_takesSign h hc
  unfold f_X12_asksSign x_mark
  rw [h.2.2.1, if_pos rfl, k1, shb_ap]
  by_cases q : xK T n s.1 s.2 = c
  · refine ⟨m1, ?_, k2.mono (fun r k z => nLk_M z), by rw [if_pos q]; exact (k3 q).1⟩
    rw [decide_eq_true q, if_neg (show ¬ zI (bI true) = 0 by decide)]
  · have hN := k4 q
    obtain ⟨m2, r1, r2, r3⟩ := rf_fail (T := T) (n := n) (μ := m1) (k := 1) (p := s.1) hN.2.2.1
    have r1' : f_X12_fail 1 (zI (s.1 : Int)) m1 = some m2 := r1
    refine ⟨m2, ?_, (k2.mono (fun r k z => nLk_M z)).trans r2, by rw [if_neg q]; exact r3⟩
    rw [decide_eq_false q, if_pos (show zI (bI false) = 0 from rfl), hN.2.2.2.2.1, r1', shv_ap]
end Lz
