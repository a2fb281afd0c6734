/-! THE REFERENCE: what was told stands -/
section Sd
theorem sd_1 : ∀ (g f i : Nat) (μ : sh_Mem), i + g = 3 → g + 1 < f → ∃ (f' : Nat) (m : sh_Mem), F_X12_stands f 1 (zI i) μ = F_X12_stands f' 2 0 m ∧ f ≤ f' + g + 1 ∧ sh_fr (fun r k => (r = 321 ∨ r = 322 ∨ r = 327 ∨ r = 328) ∧ 3 + i ≤ k) μ m ∧ ∀ k, i ≤ k → k < 3 → sh_i m 321 (3 + k) = sh_i μ 321 k ∧ sh_i m 322 (3 + k) = sh_i μ 322 k ∧ sh_i m 327 (3 + k) = sh_i μ 327 k ∧ sh_i m 328 (3 + k) = sh_i μ 328 k := by
  intro g
  induction g with
  | zero =>
    intro f i μ hi hf
    obtain ⟨f, rfl⟩ : ∃ f', f = f' + 1 := ⟨f - 1, by omega⟩
    exact ⟨f, μ, by rw [F_X12_stands, if_pos (show (3 : Int32) ≤ zI (i : Int) from zI_yes (a := 3) (by omega) (by omega))], by omega, sh_fr.rf, fun k h1 h2 => by omega⟩
  | succ g ih =>
    intro f i μ hi hf
    obtain ⟨f, rfl⟩ : ∃ f', f = f' + 1 := ⟨f - 1, by omega⟩
    obtain ⟨n1, hn1⟩ : ∃ m, m = sh_setI μ 321 (3 + i) (sh_i μ 321 i) := ⟨_, rfl⟩
    obtain ⟨n2, hn2⟩ : ∃ m, m = sh_setI n1 322 (3 + i) (sh_i n1 322 i) := ⟨_, rfl⟩
    obtain ⟨n3, hn3⟩ : ∃ m, m = sh_setI n2 327 (3 + i) (sh_i n2 327 i) := ⟨_, rfl⟩
    obtain ⟨n4, hn4⟩ : ∃ m, m = sh_setI n3 328 (3 + i) (sh_i n3 328 i) := ⟨_, rfl⟩
    obtain ⟨f', m, a1, a2, a3, a4⟩ := ih f (i + 1) n4 (by omega) (by omega)
    have fN : sh_fr (fun r k => (r = 321 ∨ r = 322 ∨ r = 327 ∨ r = 328) ∧ 3 + i ≤ k) μ n4 := by
      rw [hn4]; refine sh_fr_I ?_ (by omega)
      rw [hn3]; refine sh_fr_I ?_ (by omega)
      rw [hn2]; refine sh_fr_I ?_ (by omega)
      rw [hn1]; exact sh_fr_I sh_fr.rf (by omega)
    refine ⟨f', m, ?_, by omega, fN.trans (a3.mono (fun r k z => by omega)), fun k h1 h2 => ?_⟩
    · have e3 : 3 + zI (i : Int) = zI ((3 + i : Nat) : Int) := by
        rw [show (3 : Int32) = zI 3 from rfl, zI_add]
        rfl
      have tc : (zI (i : Int)).toNatClampNeg = i := tcN (by omega)
      have tc3 : (zI ((3 + i : Nat) : Int)).toNatClampNeg = 3 + i := tcN (by omega)
      have i1 : sh_in (zI (i : Int)) 6 := (zI_in (by omega)).mpr (by omega)
      have i3 : sh_in (zI ((3 + i : Nat) : Int)) 6 := (zI_in (by omega)).mpr (by omega)
      rw [F_X12_stands, if_neg (show ¬ (3 : Int32) ≤ zI (i : Int) from zI_not (b := 3) (by omega) (by omega)), if_pos i1, e3, if_pos i3, shl_ap, if_pos i1, if_pos i3, shl_ap, if_pos i1, if_pos i3, shl_ap, if_pos i1, if_pos i3, shl_ap, tc, tc3, ← hn1, ← hn2, ← hn3, ← hn4, zI_s1]
      exact a1
    · by_cases e : k = i
      · have h1 : sh_i n4 321 (3 + i) = sh_i μ 321 i := by rw [hn4, ir_set_r (by omega), hn3, ir_set_r (by omega), hn2, ir_set_r (by omega), hn1, ir_set]
        have h2 : sh_i n4 322 (3 + i) = sh_i μ 322 i := by rw [hn4, ir_set_r (by omega), hn3, ir_set_r (by omega), hn2, ir_set, hn1, ir_set_r (by omega)]
        have h3 : sh_i n4 327 (3 + i) = sh_i μ 327 i := by rw [hn4, ir_set_r (by omega), hn3, ir_set, hn2, ir_set_r (by omega), hn1, ir_set_r (by omega)]
        have h4 : sh_i n4 328 (3 + i) = sh_i μ 328 i := by rw [hn4, ir_set, hn3, ir_set_r (by omega), hn2, ir_set_r (by omega), hn1, ir_set_r (by omega)]
        have a5 : ∀ r, sh_i m r (3 + i) = sh_i n4 r (3 + i) := fun r => a3.i r (3 + i) (by omega)
        rw [e]
        exact ⟨(a5 321).trans h1, (a5 322).trans h2, (a5 327).trans h3, (a5 328).trans h4⟩
      · obtain ⟨b1, b2, b3, b4⟩ := a4 k (by omega) h2
        refine ⟨b1.trans (fN.i _ _ (by omega)), b2.trans (fN.i _ _ (by omega)), b3.trans (fN.i _ _ (by omega)), b4.trans (fN.i _ _ (by omega))⟩
theorem sd_2 : ∀ (g f i : Nat) (μ : sh_Mem), i + g = 16 → g + 1 < f → ∃ (f' : Nat) (m : sh_Mem), F_X12_stands f 2 (zI i) μ = F_X12_stands f' 3 0 m ∧ f ≤ f' + g + 1 ∧ sh_fr (fun r k => r = 323 ∧ 16 + i ≤ k ∧ k < 16 + 16) μ m ∧ ∀ k, i ≤ k → k < 16 → sh_l m 323 (16 + k) = sh_l μ 323 k := by
  intro g
  induction g with
  | zero =>
    intro f i μ hi hf
    obtain ⟨f, rfl⟩ : ∃ f', f = f' + 1 := ⟨f - 1, by omega⟩
    exact ⟨f, μ, by rw [F_X12_stands, if_pos (show (16 : Int32) ≤ zI (i : Int) from zI_yes (a := 16) (by omega) (by omega))], by omega, sh_fr.rf, fun k h1 h2 => by omega⟩
  | succ g ih =>
    intro f i μ hi hf
    obtain ⟨f, rfl⟩ : ∃ f', f = f' + 1 := ⟨f - 1, by omega⟩
    obtain ⟨n1, hn1⟩ : ∃ m, m = sh_setL μ 323 (16 + i) (sh_l μ 323 i) := ⟨_, rfl⟩
    have fN : sh_fr (fun r k => r = 323 ∧ 16 + i ≤ k ∧ k < 16 + 16) μ n1 := by rw [hn1]; exact sh_fr_L sh_fr.rf (by omega)
    obtain ⟨f', m, a1, a2, a3, a4⟩ := ih f (i + 1) n1 (by omega) (by omega)
    refine ⟨f', m, ?_, by omega, fN.trans (a3.mono (fun r k z => by omega)), fun k h1 h2 => ?_⟩
    · have e3 : 16 + zI (i : Int) = zI ((16 + i : Nat) : Int) := by
        rw [show (16 : Int32) = zI 16 from rfl, zI_add]
        rfl
      have tc : (zI (i : Int)).toNatClampNeg = i := tcN (by omega)
      have tc3 : (zI ((16 + i : Nat) : Int)).toNatClampNeg = 16 + i := tcN (by omega)
      rw [F_X12_stands, if_neg (show ¬ (16 : Int32) ≤ zI (i : Int) from zI_not (b := 16) (by omega) (by omega)), if_pos ((zI_in (by omega)).mpr (by omega)), e3, if_pos ((zI_in (by omega)).mpr (by omega)), tc, tc3, ← hn1, shl_ap, zI_s1]
      exact a1
    · by_cases e : k = i
      · rw [e, (a3.2 323 (16 + i) (by omega)).2, hn1, lr_set]
      · rw [a4 k (by omega) h2, (fN.2 323 k (by omega)).2]
theorem sd_3 : ∀ (g f i : Nat) (μ : sh_Mem), i + g = 24 → g + 1 < f → ∃ (f' : Nat) (m : sh_Mem), F_X12_stands f 3 (zI i) μ = F_X12_stands f' 4 0 m ∧ f ≤ f' + g + 1 ∧ sh_fr (fun r k => r = 326 ∧ 24 + i ≤ k ∧ k < 24 + 24) μ m ∧ ∀ k, i ≤ k → k < 24 → sh_i m 326 (24 + k) = sh_i μ 326 k := by
  intro g
  induction g with
  | zero =>
    intro f i μ hi hf
    obtain ⟨f, rfl⟩ : ∃ f', f = f' + 1 := ⟨f - 1, by omega⟩
    exact ⟨f, μ, by rw [F_X12_stands, if_pos (show (24 : Int32) ≤ zI (i : Int) from zI_yes (a := 24) (by omega) (by omega))], by omega, sh_fr.rf, fun k h1 h2 => by omega⟩
  | succ g ih =>
    intro f i μ hi hf
    obtain ⟨f, rfl⟩ : ∃ f', f = f' + 1 := ⟨f - 1, by omega⟩
    obtain ⟨n1, hn1⟩ : ∃ m, m = sh_setI μ 326 (24 + i) (sh_i μ 326 i) := ⟨_, rfl⟩
    have fN : sh_fr (fun r k => r = 326 ∧ 24 + i ≤ k ∧ k < 24 + 24) μ n1 := by rw [hn1]; exact sh_fr_I sh_fr.rf (by omega)
    obtain ⟨f', m, a1, a2, a3, a4⟩ := ih f (i + 1) n1 (by omega) (by omega)
    refine ⟨f', m, ?_, by omega, fN.trans (a3.mono (fun r k z => by omega)), fun k h1 h2 => ?_⟩
    · have e3 : 24 + zI (i : Int) = zI ((24 + i : Nat) : Int) := by
        rw [show (24 : Int32) = zI 24 from rfl, zI_add]
        rfl
      have tc : (zI (i : Int)).toNatClampNeg = i := tcN (by omega)
      have tc3 : (zI ((24 + i : Nat) : Int)).toNatClampNeg = 24 + i := tcN (by omega)
      rw [F_X12_stands, if_neg (show ¬ (24 : Int32) ≤ zI (i : Int) from zI_not (b := 24) (by omega) (by omega)), if_pos ((zI_in (by omega)).mpr (by omega)), e3, if_pos ((zI_in (by omega)).mpr (by omega)), tc, tc3, ← hn1, shl_ap, zI_s1]
      exact a1
    · by_cases e : k = i
      · rw [e, a3.i _ _ (by omega), hn1, ir_set]
      · rw [a4 k (by omega) h2, fN.i _ _ (by omega)]
theorem sd_4 {B : Nat} (hB : B ≤ 1600) : ∀ (g f i : Nat) (μ : sh_Mem), i + g = B → g + 1 < f → sh_i μ 291 48 = zI (B : Nat) → ∃ (f' : Nat) (m : sh_Mem), F_X12_stands f 4 (zI i) μ = F_X12_stands f' 5 0 m ∧ f ≤ f' + g + 1 ∧ sh_fr (fun r k => r = 329 ∧ 1600 + i ≤ k ∧ k < 1600 + B) μ m ∧ ∀ k, i ≤ k → k < B → sh_i m 329 (1600 + k) = sh_i μ 329 k := by
  intro g
  induction g with
  | zero =>
    intro f i μ hi hf hb
    obtain ⟨f, rfl⟩ : ∃ f', f = f' + 1 := ⟨f - 1, by omega⟩
    exact ⟨f, μ, by rw [F_X12_stands, hb, if_pos (zI_yes (by omega) (by omega))], by omega, sh_fr.rf, fun k h1 h2 => by omega⟩
  | succ g ih =>
    intro f i μ hi hf hb
    obtain ⟨f, rfl⟩ : ∃ f', f = f' + 1 := ⟨f - 1, by omega⟩
    obtain ⟨n1, hn1⟩ : ∃ m, m = sh_setI μ 329 (1600 + i) (sh_i μ 329 i) := ⟨_, rfl⟩
    have fN : sh_fr (fun r k => r = 329 ∧ 1600 + i ≤ k ∧ k < 1600 + B) μ n1 := by rw [hn1]; exact sh_fr_I sh_fr.rf (by omega)
    obtain ⟨f', m, a1, a2, a3, a4⟩ := ih f (i + 1) n1 (by omega) (by omega) (by rw [hn1, ir_set_r (by omega)]; exact hb)
    refine ⟨f', m, ?_, by omega, fN.trans (a3.mono (fun r k z => by omega)), fun k h1 h2 => ?_⟩
    · have e3 : 1600 + zI (i : Int) = zI ((1600 + i : Nat) : Int) := by
        rw [show (1600 : Int32) = zI 1600 from rfl, zI_add]
        rfl
      have tc : (zI (i : Int)).toNatClampNeg = i := tcN (by omega)
      have tc3 : (zI ((1600 + i : Nat) : Int)).toNatClampNeg = 1600 + i := tcN (by omega)
      rw [F_X12_stands, hb, if_neg (zI_not (by omega) (by omega)), if_pos ((zI_in (by omega)).mpr (by omega)), e3, if_pos ((zI_in (by omega)).mpr (by omega)), tc, tc3, ← hn1, shl_ap, zI_s1]
      exact a1
    · by_cases e : k = i
      · rw [e, a3.i _ _ (by omega), hn1, ir_set]
      · rw [a4 k (by omega) h2, fN.i _ _ (by omega)]
theorem sd_6 : ∀ (g f i : Nat) (μ : sh_Mem), i + g = 49 → g + 1 < f → ∃ (f' : Nat) (m : sh_Mem), F_X12_stands f 6 (zI i) μ = F_X12_stands f' 7 0 m ∧ f ≤ f' + g + 1 ∧ sh_fr (fun r k => r = 330 ∧ 1 + i ≤ k ∧ k < 1 + 49) μ m ∧ ∀ k, i ≤ k → k < 49 → sh_i m 330 (1 + k) = sh_i μ 324 k := by
  intro g
  induction g with
  | zero =>
    intro f i μ hi hf
    obtain ⟨f, rfl⟩ : ∃ f', f = f' + 1 := ⟨f - 1, by omega⟩
    exact ⟨f, μ, by rw [F_X12_stands, if_pos (show (49 : Int32) ≤ zI (i : Int) from zI_yes (a := 49) (by omega) (by omega))], by omega, sh_fr.rf, fun k h1 h2 => by omega⟩
  | succ g ih =>
    intro f i μ hi hf
    obtain ⟨f, rfl⟩ : ∃ f', f = f' + 1 := ⟨f - 1, by omega⟩
    obtain ⟨n1, hn1⟩ : ∃ m, m = sh_setI μ 330 (1 + i) (sh_i μ 324 i) := ⟨_, rfl⟩
    have fN : sh_fr (fun r k => r = 330 ∧ 1 + i ≤ k ∧ k < 1 + 49) μ n1 := by rw [hn1]; exact sh_fr_I sh_fr.rf (by omega)
    obtain ⟨f', m, a1, a2, a3, a4⟩ := ih f (i + 1) n1 (by omega) (by omega)
    refine ⟨f', m, ?_, by omega, fN.trans (a3.mono (fun r k z => by omega)), fun k h1 h2 => ?_⟩
    · have e3 : 1 + zI (i : Int) = zI ((1 + i : Nat) : Int) := by
        rw [show (1 : Int32) = zI 1 from rfl, zI_add]
        rfl
      have tc : (zI (i : Int)).toNatClampNeg = i := tcN (by omega)
      have tc3 : (zI ((1 + i : Nat) : Int)).toNatClampNeg = 1 + i := tcN (by omega)
      rw [F_X12_stands, if_neg (show ¬ (49 : Int32) ≤ zI (i : Int) from zI_not (b := 49) (by omega) (by omega)), if_pos ((zI_in (by omega)).mpr (by omega)), e3, if_pos ((zI_in (by omega)).mpr (by omega)), tc, tc3, ← hn1, shl_ap, zI_s1]
      exact a1
    · by_cases e : k = i
      · rw [e, a3.i _ _ (by omega), hn1, ir_set]
      · rw [a4 k (by omega) h2, fN.i _ _ (by omega)]
theorem sd_5 : ∀ (g f i : Nat) (μ : sh_Mem), i + g = 232 → g + 1 < f → ∃ (f' : Nat) (m : sh_Mem), F_X12_stands f 5 (zI i) μ = F_X12_stands f' 6 0 m ∧ f ≤ f' + g + 1 ∧ sh_fr (fun r k => r = 330 ∧ i ≤ k ∧ k < 232) μ m ∧ ∀ k, i ≤ k → k < 232 → sh_i m 330 k = 0 := by
  intro g
  induction g with
  | zero =>
    intro f i μ hi hf
    obtain ⟨f, rfl⟩ : ∃ f', f = f' + 1 := ⟨f - 1, by omega⟩
    exact ⟨f, μ, by rw [F_X12_stands, if_pos (show (232 : Int32) ≤ zI (i : Int) from zI_yes (a := 232) (by omega) (by omega))], by omega, sh_fr.rf, fun k h1 h2 => by omega⟩
  | succ g ih =>
    intro f i μ hi hf
    obtain ⟨f, rfl⟩ : ∃ f', f = f' + 1 := ⟨f - 1, by omega⟩
    obtain ⟨n1, hn1⟩ : ∃ m, m = sh_setI μ 330 i 0 := ⟨_, rfl⟩
    have fN : sh_fr (fun r k => r = 330 ∧ i ≤ k ∧ k < 232) μ n1 := by rw [hn1]; exact sh_fr_I sh_fr.rf (by omega)
    obtain ⟨f', m, a1, a2, a3, a4⟩ := ih f (i + 1) n1 (by omega) (by omega)
    refine ⟨f', m, ?_, by omega, fN.trans (a3.mono (fun r k z => by omega)), fun k h1 h2 => ?_⟩
    · rw [F_X12_stands, if_neg (show ¬ (232 : Int32) ≤ zI (i : Int) from zI_not (b := 232) (by omega) (by omega)), if_pos ((zI_in (by omega)).mpr (by omega)), tcN (by omega), ← hn1, shl_ap, zI_s1]
      exact a1
    · by_cases e : k = i
      · rw [e, a3.i _ _ (by omega), hn1, ir_set]
      · exact a4 k (by omega) h2
theorem sd_7 {B : Nat} (hB : B ≤ 21) : ∀ (g f i : Nat) (μ : sh_Mem), i + g = B → g + 1 < f → 3 * sh_i μ 322 1 = zI (B : Nat) → ∃ (m : sh_Mem), F_X12_stands f 7 (zI i) μ = some m ∧ sh_fr (fun r k => (r = 330 ∧ 50 + i ≤ k ∧ k < 50 + B) ∨ (r = 291 ∧ (k = 76 ∨ k = 71))) μ m ∧ sh_i m 291 76 = 0 ∧ sh_i m 291 71 = 0 ∧ ∀ k, i ≤ k → k < B → sh_i m 330 (50 + k) = sh_i μ 325 k := by
  intro g
  induction g with
  | zero =>
    intro f i μ hi hf hb
    obtain ⟨f, rfl⟩ : ∃ f', f = f' + 1 := ⟨f - 1, by omega⟩
    have hb' : 3 * sh_i μ 322 (Int32.toNatClampNeg 1) = zI (B : Nat) := hb
    refine ⟨sh_setI (sh_setI μ 291 76 0) 291 71 0, ?_, sh_fr_I (sh_fr_I sh_fr.rf (by omega)) (by omega), by rw [ir_set_k (by omega), ir_set], by rw [ir_set], fun k h1 h2 => by omega⟩
    rw [F_X12_stands, hb', if_pos (zI_yes (by omega) (by omega)), shl_ap, shl_ap]
  | succ g ih =>
    intro f i μ hi hf hb
    obtain ⟨f, rfl⟩ : ∃ f', f = f' + 1 := ⟨f - 1, by omega⟩
    have hb' : 3 * sh_i μ 322 (Int32.toNatClampNeg 1) = zI (B : Nat) := hb
    obtain ⟨n1, hn1⟩ : ∃ m, m = sh_setI μ 330 (50 + i) (sh_i μ 325 i) := ⟨_, rfl⟩
    have fN : sh_fr (fun r k => (r = 330 ∧ 50 + i ≤ k ∧ k < 50 + B) ∨ (r = 291 ∧ (k = 76 ∨ k = 71))) μ n1 := by rw [hn1]; exact sh_fr_I sh_fr.rf (by omega)
    obtain ⟨m, a1, a3, a5, a6, a4⟩ := ih f (i + 1) n1 (by omega) (by omega) (by rw [hn1, ir_set_r (by omega)]; exact hb)
    refine ⟨m, ?_, fN.trans (a3.mono (fun r k z => by omega)), a5, a6, fun k h1 h2 => ?_⟩
    · have e3 : 50 + zI (i : Int) = zI ((50 + i : Nat) : Int) := by
        rw [show (50 : Int32) = zI 50 from rfl, zI_add]
        rfl
      have tc : (zI (i : Int)).toNatClampNeg = i := tcN (by omega)
      have tc3 : (zI ((50 + i : Nat) : Int)).toNatClampNeg = 50 + i := tcN (by omega)
      rw [F_X12_stands, hb', if_neg (zI_not (by omega) (by omega)), if_pos ((zI_in (by omega)).mpr (by omega)), e3, if_pos ((zI_in (by omega)).mpr (by omega)), tc, tc3, ← hn1, shl_ap, zI_s1]
      exact a1
    · by_cases e : k = i
      · rw [e, a3.i _ _ (by omega), hn1, ir_set]
      · rw [a4 k (by omega) h2, fN.i _ _ (by omega)]
def nSd (r k : Nat) : Prop := ((r = 321 ∨ r = 322 ∨ r = 327 ∨ r = 328) ∧ 3 ≤ k) ∨ (r = 323 ∧ 16 ≤ k) ∨ (r = 326 ∧ 24 ≤ k) ∨ (r = 329 ∧ 1600 ≤ k) ∨ r = 330 ∨ (r = 291 ∧ (k = 50 ∨ k = 76 ∨ k = 71))
theorem rf_stands {μ : sh_Mem} {P : sp_T} {L : sl_T} {cod : Nat} (h : mDr μ P L cod) (hd : dOK P L) (hc : cod ≤ 1600) : ∃ m, f_X12_stands μ = some m ∧ sh_fr nSd μ m ∧ sm_mP m P ∧ sm_mL (sh_i m 330) 0 P L ∧ sh_i m 330 71 = 0 ∧ sh_i m 291 76 = 0 ∧ sh_i m 291 71 = 0 := by
  have hb := sp_bd hd.1
  have hrr := hd.r
  have hnp : sp_np P ≤ 7 := hb.2.2.2.1
  have hnt : sp_nt P ≤ 5 := hb.2.2.1
  have hfu := sh_fuel_eq
  obtain ⟨m0, hm0⟩ : ∃ m, m = sh_setI μ 291 50 1 := ⟨_, rfl⟩
  have F0 : sh_fr (fun r k => r = 291 ∧ k = 50) μ m0 := by rw [hm0]; exact sh_fr_I sh_fr.rf ⟨rfl, rfl⟩
  obtain ⟨f1, m1, a1, b1, c1, d1⟩ := sd_1 3 sh_fuel 0 m0 (by omega) (by omega)
  obtain ⟨f2, m2, a2, b2, c2, d2⟩ := sd_2 16 f1 0 m1 (by omega) (by omega)
  obtain ⟨f3, m3, a3, b3, c3, d3⟩ := sd_3 24 f2 0 m2 (by omega) (by omega)
  have h48 : sh_i m3 291 48 = zI (cod : Nat) := by
    rw [c3.i _ _ (by omega), c2.i _ _ (by omega), c1.i _ _ (by omega), F0.i _ _ (by omega)]
    exact h.2.2.2.2.2.2.2
  obtain ⟨f4, m4, a4, b4, c4, d4⟩ := sd_4 hc cod f3 0 m3 (by omega) (by omega) h48
  obtain ⟨f5, m5, a5, b5, c5, d5⟩ := sd_5 232 f4 0 m4 (by omega) (by omega)
  obtain ⟨f6, m6, a6, b6, c6, d6⟩ := sd_6 49 f5 0 m5 (by omega) (by omega)
  have h322 : 3 * sh_i m6 322 1 = zI ((3 * sp_np P : Nat) : Int) := by
    rw [c6.i _ _ (by omega), c5.i _ _ (by omega), c4.i _ _ (by omega), c3.i _ _ (by omega), c2.i _ _ (by omega), c1.i _ _ (by omega), F0.i _ _ (by omega), h.2.1.2.1, show (3 : Int32) = zI 3 from rfl, zI_mul]
    rfl
  obtain ⟨m7, a7, c7, e1, e2, d7⟩ := sd_7 (B := 3 * sp_np P) (by omega) (3 * sp_np P) f6 0 m6 (by omega) (by omega) h322
  have lo : ∀ r k, ¬ nSd r k → sh_i m7 r k = sh_i μ r k := fun r k z => by
    unfold nSd at z
    rw [c7.i _ _ (by omega), c6.i _ _ (by omega), c5.i _ _ (by omega), c4.i _ _ (by omega), c3.i _ _ (by omega), c2.i _ _ (by omega), c1.i _ _ (by omega), F0.i _ _ (by omega)]
  have fT : sh_fr nSd μ m7 := by
    refine (((((((F0.mono ?_).trans (c1.mono ?_)).trans (c2.mono ?_)).trans (c3.mono ?_)).trans (c4.mono ?_)).trans (c5.mono ?_)).trans (c6.mono ?_)).trans (c7.mono ?_) <;> (intro r k z; unfold nSd; omega)
  have g1 : ∀ r k, (r = 321 ∨ r = 322 ∨ r = 327 ∨ r = 328) → sh_i m7 r k = sh_i m1 r k := fun r k z => by
    rw [c7.i _ _ (by omega), c6.i _ _ (by omega), c5.i _ _ (by omega), c4.i _ _ (by omega), c3.i _ _ (by omega), c2.i _ _ (by omega)]
  have g2 : ∀ k, k < 3 → sh_i m7 321 (3 + k) = sh_i μ 321 k ∧ sh_i m7 322 (3 + k) = sh_i μ 322 k ∧ sh_i m7 327 (3 + k) = sh_i μ 327 k ∧ sh_i m7 328 (3 + k) = sh_i μ 328 k := fun k hk => by
    obtain ⟨q1, q2, q3, q4⟩ := d1 k (by omega) hk
    exact ⟨(g1 _ _ (by omega)).trans (q1.trans (F0.i _ _ (by omega))), (g1 _ _ (by omega)).trans (q2.trans (F0.i _ _ (by omega))), (g1 _ _ (by omega)).trans (q3.trans (F0.i _ _ (by omega))), (g1 _ _ (by omega)).trans (q4.trans (F0.i _ _ (by omega)))⟩
  have g3 : ∀ k, k < 16 → sh_l m7 323 (16 + k) = sh_l μ 323 k := fun k hk => by
    rw [(c7.2 323 (16 + k) (by omega)).2, (c6.2 323 (16 + k) (by omega)).2, (c5.2 323 (16 + k) (by omega)).2, (c4.2 323 (16 + k) (by omega)).2, (c3.2 323 (16 + k) (by omega)).2, d2 k (by omega) hk, (c1.2 323 k (by omega)).2, (F0.2 323 k (by omega)).2]
  have g4 : ∀ k, k < 24 → sh_i m7 326 (24 + k) = sh_i μ 326 k := fun k hk => by
    rw [c7.i _ _ (by omega), c6.i _ _ (by omega), c5.i _ _ (by omega), c4.i _ _ (by omega), d3 k (by omega) hk, c2.i _ _ (by omega), c1.i _ _ (by omega), F0.i _ _ (by omega)]
  have g5 : ∀ k, k < cod → sh_i m7 329 (1600 + k) = sh_i μ 329 k := fun k hk => by
    rw [c7.i _ _ (by omega), c6.i _ _ (by omega), c5.i _ _ (by omega), d4 k (by omega) hk, c3.i _ _ (by omega), c2.i _ _ (by omega), c1.i _ _ (by omega), F0.i _ _ (by omega)]
  have g6 : ∀ k, k < 49 → sh_i m7 330 (1 + k) = sh_i μ 324 k := fun k hk => by
    rw [c7.i _ _ (by omega), d6 k (by omega) hk, c5.i _ _ (by omega), c4.i _ _ (by omega), c3.i _ _ (by omega), c2.i _ _ (by omega), c1.i _ _ (by omega), F0.i _ _ (by omega)]
  have g7 : ∀ k, k < 3 * sp_np P → sh_i m7 330 (50 + k) = sh_i μ 325 k := fun k hk => by
    rw [d7 k (by omega) hk, c6.i _ _ (by omega), c5.i _ _ (by omega), c4.i _ _ (by omega), c3.i _ _ (by omega), c2.i _ _ (by omega), c1.i _ _ (by omega), F0.i _ _ (by omega)]
  have g8 : ∀ k, k = 0 ∨ k = 71 → sh_i m7 330 k = 0 := fun k hk => by
    rw [c7.i _ _ (by omega), c6.i _ _ (by omega), d5 k (by omega) (by omega)]
  obtain ⟨p1, p2, p3, p4, p5, p6, p7, p8⟩ := h
  have mf : ∀ (k : Nat) (b : Bool) (l : List Nat), k < 3 → mF0 μ k b l cod → sm_mF m7 k b l := fun k b l hk z => by
    unfold mF0 at z
    unfold sm_mF
    obtain ⟨-, -, q3, q4⟩ := g2 k hk
    by_cases c : b = false
    · rw [if_pos c] at z ⊢
      rw [q3]
      exact z
    · rw [if_neg c] at z ⊢
      obtain ⟨a, b', z1, z2, z3, z4, z5, z6⟩ := z
      exact ⟨a, b', z1, by omega, z3, by rw [q3, z4, nI_z], by rw [q4, z5, nI_z], fun j hj => by rw [show 1600 + a + j = 1600 + (a + j) by omega, g5 _ (by omega)]; exact z6 j hj⟩
  refine ⟨m7, ?_, fT, ⟨?_, ?_, ?_, ?_, ?_, ?_, ?_, fun j hj => ?_, fun j hj => ?_, fun j hj => ?_, mf 0 _ _ (by omega) p7.1, mf 1 _ _ (by omega) p7.2.1, mf 2 _ _ (by omega) p7.2.2⟩, ⟨?_, fun x y hx hy => ?_, fun p hp => ?_⟩, g8 71 (by omega), e1, e2⟩
  · unfold f_X12_stands
    rw [← hm0, shl_ap]
    rw [show F_X12_stands sh_fuel 1 0 m0 = F_X12_stands f1 2 0 m1 from a1, show F_X12_stands f1 2 0 m1 = F_X12_stands f2 3 0 m2 from a2, show F_X12_stands f2 3 0 m2 = F_X12_stands f3 4 0 m3 from a3, show F_X12_stands f3 4 0 m3 = F_X12_stands f4 5 0 m4 from a4, show F_X12_stands f4 5 0 m4 = F_X12_stands f5 6 0 m5 from a5, show F_X12_stands f5 6 0 m5 = F_X12_stands f6 7 0 m6 from a6]
    exact a7
  · rw [(g2 0 (by omega)).1, p1.1, nI_z]
  · rw [(g2 1 (by omega)).1, p1.2.1, nI_z]
  · rw [(g2 2 (by omega)).1, p1.2.2, nI_z]
  · rw [(g2 0 (by omega)).2.1, p2.1, nI_z]
  · rw [(g2 1 (by omega)).2.1, p2.2.1, nI_z]
  · rw [(g2 2 (by omega)).2.1, p2.2.2, nI_z]
  · rw [if_pos (show 0 < sp_c P by omega), c7.i _ _ (by omega), c6.i _ _ (by omega), c5.i _ _ (by omega), c4.i _ _ (by omega), c3.i _ _ (by omega), c2.i _ _ (by omega), c1.i _ _ (by omega), hm0, ir_set]
  · rw [g3 j (by omega), p3.1 j hj, lN_z]
  · rw [show 24 + j = 16 + (8 + j) by omega, g3 (8 + j) (by omega), p3.2 j hj, lN_z]
  · have hli := hb.2.2.2.2.1
    rw [show 24 + 2 * j = 24 + (2 * j) by omega, g4 (2 * j) (by omega), show 25 + 2 * j = 24 + (2 * j + 1) by omega, g4 (2 * j + 1) (by omega), (p6 j hj).1, (p6 j hj).2, nI_z, nI_z]
    exact ⟨rfl, rfl⟩
  · rw [g8 0 (by omega), show sl_d L = 0 from hd.2.2.2]
    rfl
  · have : x < 7 := Nat.lt_of_lt_of_le hx hrr.2.1
    have : y < 7 := Nat.lt_of_lt_of_le hy hrr.2.2.2
    rw [show 0 + 1 + x + 7 * y = 1 + (x + 7 * y) by omega, g6 _ (by omega), p4 x y hx hy, nI_z]
  · obtain ⟨z1, z2, z3⟩ := p5 p hp
    rw [show 0 + 50 + 3 * p = 50 + (3 * p) by omega, g7 _ (by omega), show 0 + 51 + 3 * p = 50 + (3 * p + 1) by omega, g7 _ (by omega), show 0 + 52 + 3 * p = 50 + (3 * p + 2) by omega, g7 _ (by omega), z1, z2, z3, nI_z, nI_z, nI_z]
    exact ⟨rfl, rfl, rfl⟩
end Sd
