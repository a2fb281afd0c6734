/-! how far a text is read: signs are no more than bytes -/
theorem gP_B {n g g2 x : Nat} {s s1 : xs} {r : xp} (h1 : s.1 < s1.1) (h2 : gP n g2 s1 r) : gP n g s (gB [x] r) := by
  cases r with
  | inl e => trivial
  | inr q =>
    obtain ⟨a, b, c, -⟩ := h2
    refine ⟨by show s.1 ≤ q.1.1; omega, b, ?_, by right; right; right; right; show s.1 < q.1.1; omega⟩
    show s.1 + (q.2 ++ [x]).length ≤ q.1.1
    rw [List.length_append]
    show s.1 + (q.2.length + 1) ≤ q.1.1
    omega
section Gp
variable {T : Nat → Nat} {n kd : Nat}
theorem mk_lt {s : xs} {c : Int} (h : xK T n s.1 s.2 = c) (hc : ¬ c = -1) : s.1 < n := xK_lt (T := T) (g := s.2) (by omega)
theorem mk_lt2 {s : xs} {c d : Nat} (h : xK T n s.1 s.2 = (c : Int) ∨ xK T n s.1 s.2 = (d : Int)) : s.1 < n := xK_lt (T := T) (g := s.2) (by omega)
theorem wd_lt1 {s : xs} {w : Int} (h : xw T n s = w) (hw : ¬ w = -1) : s.1 < n := by
  apply Classical.byContradiction
  intro z
  unfold xw at h
  rw [if_neg (fun y => z (xK_2 y).1)] at h
  omega
theorem wd_lt {s : xs} {w v : Nat} (h : xw T n s = (w : Int) ∨ xw T n s = (v : Int)) : s.1 < n := by
  rcases h with h | h
  · exact wd_lt1 h (by omega)
  · exact wd_lt1 h (by omega)
theorem gW_2 {s : xs} (h : gW (xw T n s) < 9) : xK T n s.1 s.2 = -2 := by
  apply Classical.byContradiction
  intro z
  have e : xw T n s = -1 := by unfold xw; rw [if_neg z]
  rw [e] at h
  exact absurd h (by decide)
theorem x_num_r {s : xs} {lo hi : Nat} {q : Nat × xs} (h : x_num T n lo hi s = .inr q) : xK T n s.1 s.2 = -3 ∧ q.2 = xA T n s := by
  unfold x_num at h
  split at h
  · rename_i c
    split at h
    · split at h
      · cases h
      · cases h
        exact ⟨c, rfl⟩
    · cases h
  · cases h
theorem PT.pos {g o : Nat} {s : xs} {r : xp} (h : PT T n kd g o s r) : s.1 ≤ n → gP n g s r := sorry
end Gp
