section Gi
variable {T : Nat → Nat} {n kd F : Nat}
theorem cl_part {rec : Nat → Int32 → Int32 → Int32 → sh_Mem → Option (Int32 × sh_Mem)} {o : Nat} (ho : o ≤ 6) (hk : kd < 3) (IHs : o < 6 → cR T n kd F 7 (o + 1) (rec 3 (zI ((o + 1 : Nat) : Int)) 0 0)) (IHp : o < 6 → cR T n kd F 0 (o + 1) (rec 5 (zI ((o + 1 : Nat) : Int)) 0 0)) (IH2 : ∀ w : Nat, w = 25 ∨ w = 26 → ∀ (s : xs) (l : List Nat) (μ : sh_Mem), cS μ T n s → cY μ F kd → sm_form μ F l → l.length ≤ s.1 → xw T n s = (w : Int) → ∃ r μ', PT T n kd 0 o s r ∧ rec 6 (zI o) (zI w) 0 μ = some (zI (bI r.isRight), μ') ∧ sh_fr (nFm F) μ μ' ∧ cQ μ' T n F l r) : cR T n kd F 0 o (f_X2_part rec (zI o)) := sorry
end Gi
