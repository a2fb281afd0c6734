section Gk
variable {T : Nat → Nat} {n kd F : Nat}
theorem cl_G (hk : kd < 3) : ∀ dd : Nat, (∀ o, o ≤ 6 → 7 + 4 * (6 - o) ≤ dd → cR T n kd F 9 o (G_X2 dd 0 (zI (o : Int)) 0 0)) ∧ (∀ o, o ≤ 6 → 6 + 4 * (6 - o) ≤ dd → cR T n kd F 8 o (G_X2 dd 1 (zI (o : Int)) 0 0)) ∧ (∀ o, o ≤ 6 → 5 + 4 * (6 - o) ≤ dd → cR T n kd F 3 o (G_X2 dd 2 (zI (o : Int)) 0 0)) ∧ (∀ o, o ≤ 6 → 4 + 4 * (6 - o) ≤ dd → cR T n kd F 7 o (G_X2 dd 3 (zI (o : Int)) 0 0)) ∧ (∀ o, o ≤ 6 → 3 + 4 * (6 - o) ≤ dd → cR T n kd F 6 o (G_X2 dd 4 (zI (o : Int)) 0 0)) ∧ (∀ o, o ≤ 6 → 2 + 4 * (6 - o) ≤ dd → cR T n kd F 0 o (G_X2 dd 5 (zI (o : Int)) 0 0)) ∧ (∀ o, o ≤ 6 → 1 + 4 * (6 - o) ≤ dd → ∀ w : Nat, w = 25 ∨ w = 26 → ∀ (s : xs) (l : List Nat) (μ : sh_Mem), cS μ T n s → cY μ F kd → sm_form μ F l → l.length ≤ s.1 → xw T n s = (w : Int) → ∃ r μ', PT T n kd 0 o s r ∧ G_X2 dd 6 (zI (o : Int)) (zI w) 0 μ = some (zI (bI r.isRight), μ') ∧ sh_fr (nFm F) μ μ' ∧ cQ μ' T n F l r) := by
  intro dd
  induction dd with
  | zero => exact ⟨fun o _ h => by omega, fun o _ h => by omega, fun o _ h => by omega, fun o _ h => by omega, fun o _ h => by omega, fun o _ h => by omega, fun o _ h => by omega⟩
  | succ dd ih =>
    obtain ⟨i0, i1, i2, i3, i4, i5, i6⟩ := ih
    refine ⟨fun o ho h => ?_, fun o ho h => ?_, fun o ho h => ?_, fun o ho h => ?_, fun o ho h => ?_, fun o ho h => ?_, fun o ho h w hw s l μ hS hY hl hls hx => ?_⟩
    · exact cl_test (rec := G_X2 dd) (i1 o ho (by omega))
    · exact cl_both (rec := G_X2 dd) (i2 o ho (by omega))
    · exact cl_fact (rec := G_X2 dd) ho (i3 o ho (by omega)) (fun c => i2 (o + 1) (by omega) (by omega)) (fun c => i0 (o + 1) (by omega) (by omega))
    · exact cl_sum (rec := G_X2 dd) (i4 o ho (by omega))
    · exact cl_product (rec := G_X2 dd) (i5 o ho (by omega))
    · exact cl_part (rec := G_X2 dd) ho hk (fun c => i3 (o + 1) (by omega) (by omega)) (fun c => i5 (o + 1) (by omega) (by omega)) (i6 o ho (by omega))
    · exact cl_twoS (rec := G_X2 dd) ho hw (fun c => i3 (o + 1) (by omega) (by omega)) s l μ hS hY hl hls hx
theorem cl_sumTop (hk : kd < 3) : cR T n kd F 7 0 (f_X2_sum_top 0) := (cl_G hk 64).2.2.2.1 0 (by omega) (by omega)
theorem cl_testTop (hk : kd < 3) : cR T n kd F 9 0 (f_X2_test_top 0) := (cl_G hk 64).1 0 (by omega) (by omega)
end Gk
