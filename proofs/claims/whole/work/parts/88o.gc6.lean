/-! the class reads a part -/
section Gh
variable {T : Nat → Nat} {n kd F : Nat}
theorem xw_b {s : xs} : -1 ≤ xw T n s ∧ xw T n s < 33 := by
  have := wN_le (xW T s.1 (xE T n s.1 - s.1))
  unfold xw
  split
  · split <;> omega
  · omega
theorem cS_w {μ : sh_Mem} {s : xs} (hS : cS μ T n s) (h : xK T n s.1 s.2 = -2) : sh_i μ 2 6 = zI (xw T n s) := by
  obtain ⟨q1, q2, -⟩ := xK_2 h
  obtain ⟨-, d6, -⟩ := hS.2.1.2.2.2.2.1 q1 q2
  rw [d6]
  unfold xw
  rw [if_pos h]
theorem w_ne {s : xs} {w : Int} (hw : -10 ≤ w ∧ w < 100) (h : ¬ xw T n s = w) : ¬ zI (xw T n s) = zI w := fun z => by
  have hb := xw_b (T := T) (n := n) (s := s)
  exact h ((zI_eq (by omega) (by omega) (by omega) (by omega)).mp z)
/-- a fact, or none -/
theorem cl_factP {o : Nat} {s : xs} {l : List Nat} {μ : sh_Mem} (hS : cS μ T n s) (hY : cY μ F kd) (hk : kd < 3) (hl : sm_form μ F l) (hls : l.length ≤ s.1) (hK : xK T n s.1 s.2 = -2) (h25 : ¬ (xw T n s = 25 ∨ xw T n s = 26)) (hof : ¬ (kd = 2 ∧ (xw T n s = 7 ∨ xw T n s = 10))) : ∃ r μ', PT T n kd 0 o s r ∧ sh_bind (f_X2_isFactHere (zI (xw T n s)) μ) (fun y13 μ11 => (if y13 = 0 then sh_bind (f_X8_fails 1 (sh_i μ11 2 4) μ11) (fun y25 μ23 => (if y25 = 0 ∨ y25 = 1 then some (y25, μ23) else none)) else sh_bindv (f_X8_advance μ11) (fun μ15 => (if (sh_r μ15 6 1 = some (sh_ref μ15 6 1) ∧ (sh_ref μ15 6 1) ∈ sh_FORMS) then sh_let (sh_ref μ15 6 1) (fun r19 => sh_bindv (f_X1_addWord r19 (zI (xw T n s)) μ15) (fun μ20 => some (1, μ20))) else none)))) = some (zI (bI r.isRight), μ') ∧ sh_fr (nFm F) μ μ' ∧ cQ μ' T n F l r := sorry
end Gh
