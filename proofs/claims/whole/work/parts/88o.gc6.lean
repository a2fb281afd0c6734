/-! the class reads a part -/
section Gh
variable {T : Nat → Nat} {n kd F : Nat}
theorem xw_b {s : xs} : -1 ≤ xw T n s ∧ xw T n s < 33 := by
  have := wN_le (xW T s.1 (xE T n s.1 - s.1))
  unfold xw
  split
  · split <;> omega
  · omega
theorem cS_w {μ : sh_Mem} {s : xs} (hS : cS μ T n s) (h : xK T n s.1 s.2 = -2) : sh_i μ 2 6 = zI (xw T n s) := by
  obtain ⟨q1, q2, -⟩ := xK_2 h
  obtain ⟨-, d6, -⟩ := hS.2.1.2.2.2.2.1 q1 q2
  rw [d6]
  unfold xw
  rw [if_pos h]
theorem w_ne {s : xs} {w : Int} (hw : -10 ≤ w ∧ w < 100) (h : ¬ xw T n s = w) : ¬ zI (xw T n s) = zI w := fun z => by
  have hb := xw_b (T := T) (n := n) (s := s)
  exact h ((zI_eq (by omega) (by omega) (by omega) (by omega)).mp z)
/-- a fact, or none -/
theorem cl_factP {o : Nat} {s : xs} {l : List Nat} {μ : sh_Mem} (hS : cS μ T n s) (hY : cY μ F kd) (hk : kd < 3) (hl : sm_form μ F l) (hls : l.length ≤ s.1) (hK : xK T n s.1 s.2 = -2) (h25 : ¬ (xw T n s = 25 ∨ xw T n s = 26)) (hof : ¬ (kd = 2 ∧ (xw T n s = 7 ∨ xw T n s = 10))) : ∃ r μ', PT T n kd 0 o s r ∧ sh_bind (f_X2_isFactHere (zI (xw T n s)) μ) (fun y13 μ11 => (if y13 = 0 then sh_bind (f_X8_fails 1 (sh_i μ11 2 4) μ11) (fun y25 μ23 => (if y25 = 0 ∨ y25 = 1 then some (y25, μ23) else none)) else sh_bindv (f_X8_advance μ11) (fun μ15 => (if (sh_r μ15 6 1 = some (sh_ref μ15 6 1) ∧ (sh_ref μ15 6 1) ∈ sh_FORMS) then sh_let (sh_ref μ15 6 1) (fun r19 => sh_bindv (f_X1_addWord r19 (zI (xw T n s)) μ15) (fun μ20 => some (1, μ20))) else none)))) = some (zI (bI r.isRight), μ') ∧ sh_fr (nFm F) μ μ' ∧ cQ μ' T n F l r := by
  have hF := hY.2.1
  have hn := hS.1.1
  have hb := xw_b (T := T) (n := n) (s := s)
  have hlt := (xK_2 hK).1
  rcases cl_factHere (μ := μ) (x := xw T n s) hb hk hY.2.2 with ⟨a1, a2, a3⟩ | ⟨a1, a2⟩
  · obtain ⟨m1, k1, k2, k3, -⟩ := cl_adv hS
    have f1 : sh_fr (nFm F) μ m1 := k2.mono (fun r k z => nV_F z)
    have hY1 := hY.fr f1
    have em : (-1 : Int32) - zI (xw T n s) = zI (sg_c (gW (xw T n s))) := by
      have : ∀ x : Int, -1 ≤ x → x < 33 → gW x < 9 → (-1 : Int32) - zI x = zI (sg_c (gW x)) := by
        intro x h1 h2 h3
        have hx : x = 6 ∨ x = 14 ∨ x = 15 ∨ x = 16 ∨ x = 3 ∨ x = 17 ∨ x = 18 ∨ x = 19 ∨ x = 20 := by
          apply Classical.byContradiction
          intro z
          unfold gW at h3
          rw [if_neg (show ¬ x = 6 by omega), if_neg (show ¬ x = 14 by omega), if_neg (show ¬ x = 15 by omega), if_neg (show ¬ x = 16 by omega), if_neg (show ¬ x = 3 by omega), if_neg (show ¬ x = 17 by omega), if_neg (show ¬ x = 18 by omega), if_neg (show ¬ x = 19 by omega), if_neg (show ¬ x = 20 by omega)] at h3
          omega
        rcases hx with rfl | rfl | rfl | rfl | rfl | rfl | rfl | rfl | rfl <;> decide
      exact this _ hb.1 hb.2 a2
    obtain ⟨m2, b1, b2, b3⟩ := cl_aw1 (q := (xA T n s, [])) hF em ⟨k3, by rw [List.append_nil]; exact form_fr hl hF k2⟩ (by show l.length + 0 < 1600; omega)
    refine ⟨_, m2, PT.fact a2 a3, ?_, f1.trans b2, b3⟩
    rw [a1, shb_ap, if_neg (show ¬ (1 : Int32) = 0 by decide), k1, shv_ap, if_pos hY1.ck, shr_ap hY1.1, shl_ap, b1, shv_ap]
    rfl
  · obtain ⟨m1, k1, k2, k3⟩ := cl_fails (T := T) (n := n) (k := 1) (p := s.1) hS.2.2.2
    have k1' : f_X8_fails 1 (zI (s.1 : Int)) μ = some (0, m1) := k1
    refine ⟨_, m1, PT.none hK h25 hof a2, ?_, k2.mono (fun r k z => nV_F z), cO_Q hF hl (by have := hS.2.2.1; omega) k2 k3⟩
    rw [a1, shb_ap, if_pos rfl, hS.2.1.2.2.2.1, k1', shb_ap, if_pos (Or.inl rfl)]
    rfl
end Gh
