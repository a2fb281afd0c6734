/-! how far a text is read: signs are no more than bytes -/
theorem gP_B {n g g2 x : Nat} {s s1 : xs} {r : xp} (h1 : s.1 < s1.1) (h2 : gP n g2 s1 r) : gP n g s (gB [x] r) := by
  cases r with
  | inl e => trivial
  | inr q =>
    obtain ⟨a, b, c, -⟩ := h2
    refine ⟨by show s.1 ≤ q.1.1; omega, b, ?_, by right; right; right; right; show s.1 < q.1.1; omega⟩
    show s.1 + (q.2 ++ [x]).length ≤ q.1.1
    rw [List.length_append]
    show s.1 + (q.2.length + 1) ≤ q.1.1
    omega
section Gp
variable {T : Nat → Nat} {n kd : Nat}
theorem mk_lt {s : xs} {c : Int} (h : xK T n s.1 s.2 = c) (hc : ¬ c = -1) : s.1 < n := xK_lt (T := T) (g := s.2) (by omega)
theorem mk_lt2 {s : xs} {c d : Nat} (h : xK T n s.1 s.2 = (c : Int) ∨ xK T n s.1 s.2 = (d : Int)) : s.1 < n := xK_lt (T := T) (g := s.2) (by omega)
theorem wd_lt1 {s : xs} {w : Int} (h : xw T n s = w) (hw : ¬ w = -1) : s.1 < n := by
  apply Classical.byContradiction
  intro z
  unfold xw at h
  rw [if_neg (fun y => z (xK_2 y).1)] at h
  omega
theorem wd_lt {s : xs} {w v : Nat} (h : xw T n s = (w : Int) ∨ xw T n s = (v : Int)) : s.1 < n := by
  rcases h with h | h
  · exact wd_lt1 h (by omega)
  · exact wd_lt1 h (by omega)
theorem gW_2 {s : xs} (h : gW (xw T n s) < 9) : xK T n s.1 s.2 = -2 := by
  apply Classical.byContradiction
  intro z
  have e : xw T n s = -1 := by unfold xw; rw [if_neg z]
  rw [e] at h
  exact absurd h (by decide)
theorem x_num_r {s : xs} {lo hi : Nat} {q : Nat × xs} (h : x_num T n lo hi s = .inr q) : xK T n s.1 s.2 = -3 ∧ q.2 = xA T n s := by
  unfold x_num at h
  split at h
  · rename_i c
    split at h
    · split at h
      · cases h
      · cases h
        exact ⟨c, rfl⟩
    · cases h
  · cases h
theorem PT.pos {g o : Nat} {s : xs} {r : xp} (h : PT T n kd g o s r) : s.1 ≤ n → gP n g s r := by
  refine h (fun g o s r => s.1 ≤ n → gP n g s r) ⟨?_, ?_, ?_, ?_, ?_, ?_, ?_, ?_, ?_, ?_, ?_, ?_, ?_, ?_, ?_, ?_, ?_, ?_, ?_, ?_, ?_, ?_, ?_, ?_, ?_, ?_, ?_, ?_, ?_, ?_, ?_, ?_, ?_, ?_, ?_, ?_, ?_, ?_, ?_, ?_⟩
  · intro o s _ _ _
    trivial
  · intro o s r h1 _ ih hn
    have hl := mk_lt h1 (by omega)
    have e1 := xA_lt (T := T) hl
    have e2 := xA_le (T := T) hn
    exact (gP_M (by omega) (by omega) (ih e2.2)).1
  · intro o s _ _ hn
    cases e : x_num T n 0 9999 s with
    | inl e => trivial
    | inr q =>
      have hq := x_num_r e
      have hl := xK_lt (T := T) (n := n) (a := s.1) (g := s.2) (by rw [hq.1]; omega)
      have e1 := xA_lt (T := T) hl
      have e2 := xA_le (T := T) hn
      show s.1 ≤ q.2.1 ∧ q.2.1 ≤ n ∧ s.1 + 1 ≤ q.2.1 ∧ _
      rw [hq.2]
      exact ⟨e2.1, e2.2, by omega, by right; right; right; right; exact e1⟩
  · intro o s _ _ _
    trivial
  · intro o s _ _ _ _
    trivial
  · intro o s e _ _ _ _ _
    trivial
  · intro o s s1 l1 _ _ _ _ _ _
    trivial
  · intro o s s1 l1 r h1 h2 _ ih1 h3 ih2 hn
    have hl := wd_lt h1
    have e1 := xA_lt (T := T) hl
    have e2 := xA_le (T := T) hn
    have f1 := xA_lt (T := T) (mk_lt h2 (by omega))
    have f2 := xA_le (T := T) e2.2
    obtain ⟨a, b, c, d⟩ := ih1 f2.2
    have g1 := xA_lt (T := T) (mk_lt h3 (by omega))
    have g2 := xA_le (T := T) (s := s1) b
    have hA := gP_A (g := 0) (s := xA T n (xA T n s)) (s1 := xA T n s1) (l1 := l1) ⟨by have : (xA T n (xA T n s)).1 ≤ s1.1 := a; omega, by have : (xA T n (xA T n s)).1 + l1.length ≤ s1.1 := c; omega⟩ (ih2 g2.2)
    exact gP_B e1 (gP_M (g := 0) (s := xA T n s) (by omega) (by omega) hA).1
  · intro o s _ _ _ _
    trivial
  · intro o s r _ h1 _ ih hn
    have e1 := xA_lt (T := T) (wd_lt h1)
    have e2 := xA_le (T := T) hn
    exact gP_B e1 (ih e2.2)
  · intro o s h1 _ hn
    have hl : s.1 < n := (xK_2 (gW_2 h1)).1
    have e1 := xA_lt (T := T) hl
    have e2 := xA_le (T := T) hn
    exact ⟨e2.1, e2.2, by show s.1 + 1 ≤ (xA T n s).1; omega, by right; right; right; right; exact e1⟩
  · intro o s _ _ _ _ _
    trivial
  · intro o s _ hn
    exact ⟨Nat.le_refl _, hn, Nat.le_refl _, by omega⟩
  · intro o s e _ _ _
    trivial
  · intro o s s1 l1 r h1 ih1 ih2 hn
    have hl := mk_lt2 h1
    have e1 := xA_lt (T := T) hl
    have e2 := xA_le (T := T) hn
    obtain ⟨a, b, c, d⟩ := ih1 e2.2
    have a : (xA T n s).1 ≤ s1.1 := a
    have c : (xA T n s).1 + l1.length ≤ s1.1 := c
    exact gP_A ⟨by omega, by rw [List.length_append]; show s.1 + (l1.length + 1) ≤ s1.1; omega⟩ (ih2 b)
  · intro o s _ hn
    exact ⟨Nat.le_refl _, hn, Nat.le_refl _, by omega⟩
  · intro o s e _ _ _
    trivial
  · intro o s s1 l1 r h1 ih1 ih2 hn
    have hl := mk_lt2 h1
    have e1 := xA_lt (T := T) hl
    have e2 := xA_le (T := T) hn
    obtain ⟨a, b, c, d⟩ := ih1 e2.2
    have a : (xA T n s).1 ≤ s1.1 := a
    have c : (xA T n s).1 + l1.length ≤ s1.1 := c
    exact gP_A ⟨by omega, by rw [List.length_append]; show s.1 + (l1.length + 1) ≤ s1.1; omega⟩ (ih2 b)
  · intro o s e _ _
    trivial
  · intro o s s1 l1 r ih1 ih2 hn
    obtain ⟨a, b, c, d⟩ := ih1 hn
    have a : s.1 ≤ s1.1 := a
    have c : s.1 + l1.length ≤ s1.1 := c
    have d : s.1 < s1.1 := by rcases d with d | d | d | d | d <;> first | exact d | omega
    exact gP_A ⟨d, c⟩ (ih2 b)
  · intro o s e _ _
    trivial
  · intro o s s1 l1 r ih1 ih2 hn
    obtain ⟨a, b, c, d⟩ := ih1 hn
    have a : s.1 ≤ s1.1 := a
    have c : s.1 + l1.length ≤ s1.1 := c
    have d : s.1 < s1.1 := by rcases d with d | d | d | d | d <;> first | exact d | omega
    exact gP_A ⟨d, c⟩ (ih2 b)
  · intro o s _ _ _
    trivial
  · intro o s r h1 _ ih hn
    have e1 := xA_lt (T := T) (wd_lt1 h1 (by omega))
    have e2 := xA_le (T := T) hn
    exact gP_B e1 (ih e2.2)
  · intro o s _ _ _
    trivial
  · intro o s r h1 _ ih hn
    have hl := mk_lt h1 (by omega)
    have e1 := xA_lt (T := T) hl
    have e2 := xA_le (T := T) hn
    exact (gP_M (by omega) (by omega) (ih e2.2)).1
  · intro o s h1 hn
    have e1 := xA_lt (T := T) (wd_lt1 h1 (by omega))
    have e2 := xA_le (T := T) hn
    exact ⟨e2.1, e2.2, by show s.1 + 1 ≤ (xA T n s).1; omega, by right; right; right; right; exact e1⟩
  · intro o s e _ _ _ _ _
    trivial
  · intro o s s1 l1 _ _ _ _ _ _
    trivial
  · intro o s s1 l1 r _ _ _ ih1 h1 ih2 hn
    obtain ⟨a, b, c, d⟩ := ih1 hn
    have a : s.1 ≤ s1.1 := a
    have c : s.1 + l1.length ≤ s1.1 := c
    have d : s.1 < s1.1 := by rcases d with d | d | d | d | d <;> first | exact d | omega
    have hl : s1.1 < n := xK_lt (T := T) (n := n) (a := s1.1) (g := s1.2) (by omega)
    have e1 := xA_lt (T := T) hl
    have e2 := xA_le (T := T) (s := s1) b
    exact gP_A ⟨d, c⟩ (gP_B (g := 0) e1 (ih2 e2.2))
  · intro o s _ hn
    exact ⟨Nat.le_refl _, hn, Nat.le_refl _, by omega⟩
  · intro o s e _ _ _
    trivial
  · intro o s s1 l1 r h1 ih1 ih2 hn
    have e1 := xA_lt (T := T) (wd_lt1 h1 (by omega))
    have e2 := xA_le (T := T) hn
    obtain ⟨a, b, c, d⟩ := ih1 e2.2
    have a : (xA T n s).1 ≤ s1.1 := a
    have c : (xA T n s).1 + l1.length ≤ s1.1 := c
    exact gP_A ⟨by omega, by rw [List.length_append]; show s.1 + (l1.length + 1) ≤ s1.1; omega⟩ (ih2 b)
  · intro o s _ hn
    exact ⟨Nat.le_refl _, hn, Nat.le_refl _, by omega⟩
  · intro o s e _ _ _
    trivial
  · intro o s s1 l1 r h1 ih1 ih2 hn
    have e1 := xA_lt (T := T) (wd_lt1 h1 (by omega))
    have e2 := xA_le (T := T) hn
    obtain ⟨a, b, c, d⟩ := ih1 e2.2
    have a : (xA T n s).1 ≤ s1.1 := a
    have c : (xA T n s).1 + l1.length ≤ s1.1 := c
    exact gP_A ⟨by omega, by rw [List.length_append]; show s.1 + (l1.length + 1) ≤ s1.1; omega⟩ (ih2 b)
  · intro o s e _ _
    trivial
  · intro o s s1 l1 r ih1 ih2 hn
    obtain ⟨a, b, c, d⟩ := ih1 hn
    have a : s.1 ≤ s1.1 := a
    have c : s.1 + l1.length ≤ s1.1 := c
    have d : s.1 < s1.1 := by rcases d with d | d | d | d | d <;> first | exact d | omega
    exact gP_A ⟨d, c⟩ (ih2 b)
  · intro o s e _ _
    trivial
  · intro o s s1 l1 r ih1 ih2 hn
    obtain ⟨a, b, c, d⟩ := ih1 hn
    have a : s.1 ≤ s1.1 := a
    have c : s.1 + l1.length ≤ s1.1 := c
    have d : s.1 < s1.1 := by rcases d with d | d | d | d | d <;> first | exact d | omega
    exact gP_A ⟨d, c⟩ (ih2 b)
end Gp
