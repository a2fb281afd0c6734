/-! PLAIN: the reference from the start of a text on -/
section Pn
variable {T : Nat → Nat} {n : Nat} {μ0 μ μ' : sh_Mem} {s s' : xs}
theorem pl_1 : ∀ (g f i : Nat) (μ : sh_Mem), i + g = 3 → g + 1 < f → ∃ (f' : Nat) (m : sh_Mem), F_X12_plain f 1 (zI i) μ = F_X12_plain f' 2 0 m ∧ f ≤ f' + g + 1 ∧ sh_fr (fun r k => (r = 322 ∨ r = 327) ∧ i ≤ k ∧ k < 3) μ m ∧ (∀ k, i ≤ k → k < 3 → sh_i m 322 k = 0 ∧ sh_i m 327 k = -1) ∧ (sh_G μ → sh_G m) := by
  intro g
  induction g with
  | zero =>
    intro f i μ hi hf
    obtain ⟨f, rfl⟩ : ∃ f', f = f' + 1 := ⟨f - 1, by omega⟩
    exact ⟨f, μ, by rw [F_X12_plain, if_pos (show (3 : Int32) ≤ zI (i : Int) from zI_yes (a := 3) (by omega) (by omega))], by omega, sh_fr.rf, fun k h1 h2 => by omega, fun h => h⟩
  | succ g ih =>
    intro f i μ hi hf
    obtain ⟨f, rfl⟩ : ∃ f', f = f' + 1 := ⟨f - 1, by omega⟩
    obtain ⟨n1, hn1⟩ : ∃ m, m = sh_setI (sh_setI μ 322 i 0) 327 i (-1) := ⟨_, rfl⟩
    have fN : sh_fr (fun r k => (r = 322 ∨ r = 327) ∧ i ≤ k ∧ k < 3) μ n1 := by rw [hn1]; exact sh_fr_I (sh_fr_I sh_fr.rf (by omega)) (by omega)
    obtain ⟨f', m, a1, a2, a3, a4, aG⟩ := ih f (i + 1) n1 (by omega) (by omega)
    refine ⟨f', m, ?_, by omega, fN.trans (a3.mono (fun r k z => by omega)), fun k h1 h2 => ?_, fun h => aG (by rw [hn1]; exact h)⟩
    · have i1 : sh_in (zI (i : Int)) 6 := (zI_in (by omega)).mpr (by omega)
      rw [F_X12_plain, if_neg (show ¬ (3 : Int32) ≤ zI (i : Int) from zI_not (b := 3) (by omega) (by omega)), if_pos i1, shl_ap, if_pos i1, shl_ap, tcN (by omega), ← hn1, zI_s1]
      exact a1
    · by_cases e : k = i
      · rw [e, a3.i _ _ (by omega), a3.i _ _ (by omega), hn1, ir_set_r (by omega), ir_set, ir_set]
        exact ⟨rfl, rfl⟩
      · exact a4 k (by omega) h2
theorem pl_2 : ∀ (g f i : Nat) (μ : sh_Mem), i + g = 49 → g + 1 < f → ∃ (f' : Nat) (m : sh_Mem), F_X12_plain f 2 (zI i) μ = sh_bindv (f_X12_plainTold m) (fun μ83 => sh_let (sh_setI μ83 291 49 1) (fun μ86 => F_X12_plain f' 3 (zI ((49 : Nat) : Int)) μ86)) ∧ f ≤ f' + g + 1 ∧ sh_fr (fun r k => r = 324) μ m ∧ (∀ k, i ≤ k → k < 49 → sh_i m 324 k = zI 50) ∧ (∀ k, k < i → sh_i m 324 k = sh_i μ 324 k) ∧ (sh_G μ → sh_G m) := by
  intro g
  induction g with
  | zero =>
    intro f i μ hi hf
    obtain ⟨f, rfl⟩ : ∃ f', f = f' + 1 := ⟨f - 1, by omega⟩
    exact ⟨f, μ, by rw [F_X12_plain, if_pos (show (49 : Int32) ≤ zI (i : Int) from zI_yes (a := 49) (by omega) (by omega)), show i = 49 by omega], by omega, sh_fr.rf, fun k h1 h2 => by omega, fun k _ => rfl, fun h => h⟩
  | succ g ih =>
    intro f i μ hi hf
    obtain ⟨f, rfl⟩ : ∃ f', f = f' + 1 := ⟨f - 1, by omega⟩
    obtain ⟨n1, hn1⟩ : ∃ m, m = sh_setI μ 324 i (zI 50) := ⟨_, rfl⟩
    have fN : sh_fr (fun r k => r = 324) μ n1 := by rw [hn1]; exact sh_fr_I sh_fr.rf rfl
    obtain ⟨f', m, a1, a2, a3, a4, a5, aG⟩ := ih f (i + 1) n1 (by omega) (by omega)
    refine ⟨f', m, ?_, by omega, fN.trans a3, fun k h1 h2 => ?_, fun k hk => by rw [a5 k (by omega), hn1, ir_set_k (by omega)], fun h => aG (by rw [hn1]; exact h)⟩
    · rw [F_X12_plain, if_neg (show ¬ (49 : Int32) ≤ zI (i : Int) from zI_not (b := 49) (by omega) (by omega)), if_pos ((zI_in (by omega)).mpr (by omega)), tcN (by omega), show sh_setI μ 324 i 50 = n1 from hn1.symm, shl_ap, zI_s1]
      exact a1
    · by_cases e : k = i
      · rw [e, a5 i (by omega), hn1, ir_set]
      · exact a4 k (by omega) h2
theorem xb_r {α β : Type} {x : xo α} {f : α → xo β} {b : β} (h : xb x f = .inr b) : ∃ a, x = .inr a ∧ f a = .inr b := by
  cases x with
  | inl e => cases h
  | inr a => exact ⟨a, rfl, h⟩
theorem x_num_lo {lo hi : Nat} {q : Nat × xs} (h : x_num T n lo hi s = .inr q) : lo ≤ q.1 := by
  unfold x_num at h
  split at h
  · split at h
    · split at h
      · cases h
      · rename_i c
        cases h
        show lo ≤ xV T s.1 (xE T n s.1 - s.1)
        omega
    · cases h
  · cases h
theorem sp_headr {q : Nat × Nat × xs} (h : st_plain T n s = .inr q) : (3 ≤ q.1 ∧ q.1 ≤ 7) ∧ (3 ≤ q.2.1 ∧ q.2.1 ≤ 7) := by
  unfold st_plain at h
  obtain ⟨s1, -, h⟩ := xb_r h
  obtain ⟨x, hx, h⟩ := xb_r h
  obtain ⟨s3, -, h⟩ := xb_r h
  obtain ⟨y, hy, h⟩ := xb_r h
  obtain ⟨s5, -, h⟩ := xb_r h
  cases h
  show (3 ≤ x.1 ∧ x.1 ≤ 7) ∧ (3 ≤ y.1 ∧ y.1 ≤ 7)
  exact ⟨⟨x_num_lo hx, x_num_v hx⟩, x_num_lo hy, x_num_v hy⟩
def nPl (r k : Nat) : Prop := nDm r k ∨ (r = 291 ∧ (k = 1 ∨ k = 3))
def s00 (T : Nat → Nat) (n : Nat) : xs := (xS T n 0, false)
/-- a whole text -/
theorem rf_plainR {r : xo (Nat × dT)} (hG : sh_G μ) (hT : xT μ 292 T n) (h1 : sh_i μ 291 1 = zI n) (hw : hA μ) (hb : hB μ) (hr : TRt T n (s00 T n) r) : ∃ m, f_X12_plain μ = endT m ∧ sh_fr nPl μ m ∧ sh_i m 291 1 = 0 ∧ (∀ e, r = .inl e → sh_i m 291 5 = zI e.1 ∧ sh_i m 291 6 = zI e.2 ∧ 1 ≤ e.1 ∧ e.1 < 10) ∧ (∀ q, r = .inr q → sh_i m 291 5 = 0 ∧ sh_i m 291 6 = -1 ∧ sh_i m 291 49 = zI (q.1 : Nat) ∧ ∃ cod, cod ≤ 1600 ∧ mDr m q.2.1 q.2.2 cod) := sorry
end Pn
