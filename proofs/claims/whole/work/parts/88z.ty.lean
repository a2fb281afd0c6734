/-! SIGNS of what was told stand as they must -/
def sgR (kd : Nat) : List Nat → List Bool → List Bool → Nat → Prop
  | [], B, B', _ => B = B'
  | t :: l, B, B', m => ∃ B1, sg_st kd t B B1 ∧ B1.length ≤ m ∧ sgR kd l B1 B' m
theorem sgR.mono {kd m m' : Nat} (hm : m ≤ m') : ∀ {l : List Nat} {B B' : List Bool}, sgR kd l B B' m → sgR kd l B B' m'
  | [], _, _, h => h
  | _ :: _, _, _, ⟨B1, h1, h2, h3⟩ => ⟨B1, h1, Nat.le_trans h2 hm, sgR.mono hm h3⟩
theorem sgR.app {kd m : Nat} : ∀ {l1 l2 : List Nat} {B B1 B2 : List Bool}, sgR kd l1 B B1 m → sgR kd l2 B1 B2 m → sgR kd (l1 ++ l2) B B2 m
  | [], _, B, B1, _, h, g => by
    have : B = B1 := h
    rw [this]
    exact g
  | _ :: _, _, _, _, _, ⟨B3, h1, h2, h3⟩, g => ⟨B3, h1, h2, sgR.app h3 g⟩
theorem sgR.one {kd m t : Nat} {B B' : List Bool} (h : sg_st kd t B B') (hm : B'.length ≤ m) : sgR kd [t] B B' m := ⟨B', h, hm, rfl⟩
theorem sgR.ok {kd m : Nat} {res : Bool} (hm : m ≤ 60) : ∀ {l : List Nat} {B : List Bool}, sgR kd l B [res] m → sg_ok kd res l B
  | [], _, h => h
  | _ :: _, _, ⟨B1, h1, h2, h3⟩ => ⟨B1, h1, Nat.le_trans h2 hm, sgR.ok hm h3⟩
/-- ahead, behind, how high -/
def tyS (g : Nat) (B : List Bool) : List Bool := if g = 1 ∨ g = 2 then false :: B else if g = 4 ∨ g = 5 then true :: B else B
def tyR (g : Nat) (B : List Bool) : List Bool := if g = 0 ∨ g = 1 ∨ g = 2 ∨ g = 6 ∨ g = 7 then false :: B else true :: B
def tyB (g o : Nat) : Nat := if g = 0 then 1 + 3 * (6 - o) else if g = 1 ∨ g = 6 then 2 + 3 * (6 - o) else if g = 2 ∨ g = 7 then 3 + 3 * (6 - o) else if g = 3 then 4 + 5 * (6 - o) else if g = 4 ∨ g = 8 then 5 + 5 * (6 - o) else 6 + 5 * (6 - o)
def tyQ (kd g o : Nat) : xp → Prop
  | .inl _ => True
  | .inr q => ∀ B, sgR kd q.2 (tyS g B) (tyR g B) (B.length + tyB g o)
section Ty
variable {T : Nat → Nat} {n kd : Nat}
theorem x_num_v {s : xs} {lo hi : Nat} {q : Nat × xs} (h : x_num T n lo hi s = .inr q) : q.1 ≤ hi := by
  unfold x_num at h
  split at h
  · split at h
    · split at h
      · cases h
      · rename_i c
        cases h
        show xV T s.1 (xE T n s.1 - s.1) ≤ hi
        omega
    · cases h
  · cases h
theorem gK_5 {c : Int} (h : (c = 42 ∨ c = 47) ∨ (c = 43 ∨ c = 45)) : 11 ≤ gK c ∧ gK c ≤ 16 := by
  rcases h with (z | z) | (z | z) <;> rw [z] <;> decide
theorem gK_6 {c : Int} (h : c = 60 ∨ c = 62 ∨ c = 61) : 17 ≤ gK c ∧ gK c ≤ 19 := by
  rcases h with z | z | z <;> rw [z] <;> decide
theorem st_bin {t : Nat} {B : List Bool} (h : 11 ≤ t ∧ t ≤ 16) : sg_st kd t (false :: false :: B) (false :: B) := Or.inr (Or.inr (Or.inr (Or.inl ⟨h.1, h.2, B, rfl, rfl⟩)))
theorem st_cmp {t : Nat} {B : List Bool} (h : 17 ≤ t ∧ t ≤ 19) : sg_st kd t (false :: false :: B) (true :: B) := Or.inr (Or.inr (Or.inr (Or.inr (Or.inl ⟨h.1, h.2, B, rfl, rfl⟩))))
theorem st_and {t : Nat} {B : List Bool} (h : t = 20 ∨ t = 21) : sg_st kd t (true :: true :: B) (true :: B) := Or.inr (Or.inr (Or.inr (Or.inr (Or.inr (Or.inl ⟨h, B, rfl, rfl⟩)))))
theorem st_not {B : List Bool} : sg_st kd 22 (true :: B) (true :: B) := Or.inr (Or.inr (Or.inr (Or.inr (Or.inr (Or.inr (Or.inl ⟨rfl, B, rfl, rfl⟩))))))
theorem st_all {B : List Bool} : sg_st kd 23 B (true :: B) := Or.inr (Or.inr (Or.inr (Or.inr (Or.inr (Or.inr (Or.inr ⟨rfl, rfl⟩))))))
theorem ty_M {g o c g2 o2 : Nat} {r : xp} (hS : ∀ B, tyS g B = tyS g2 B) (hR : ∀ B, tyR g B = tyR g2 B) (hB : tyB g2 o2 ≤ tyB g o) (h : tyQ kd g2 o2 r) : tyQ kd g o (gM T n c r) := by
  cases r with
  | inl e => exact trivial
  | inr q =>
    by_cases z : xK T n q.1.1 q.1.2 = (c : Int)
    · rw [gM_t z]
      intro B
      rw [hS, hR]
      exact (h B).mono (by omega)
    · rw [gM_f z]
      exact trivial
/-- first l1, then what r tells -/
theorem ty_A {g o g1 g2 o2 : Nat} {l1 : List Nat} {r : xp} (h1 : ∀ B, sgR kd l1 (tyS g B) (tyS g2 B) (B.length + tyB g o)) (hR : ∀ B, tyR g B = tyR g2 B) (hB : tyB g2 o2 ≤ tyB g o) (h : tyQ kd g2 o2 r) (_ : g1 = 0) : tyQ kd g o (gA l1 r) := by
  cases r with
  | inl e => exact trivial
  | inr q =>
    intro B
    rw [hR]
    exact (h1 B).app ((h B).mono (by omega))
theorem PT.ty {g o : Nat} {s : xs} {r : xp} (h : PT T n kd g o s r) : tyQ kd g o r := by
  refine h (fun g o s r => tyQ kd g o r) ⟨?_, ?_, ?_, ?_, ?_, ?_, ?_, ?_, ?_, ?_, ?_, ?_, ?_, ?_, ?_, ?_, ?_, ?_, ?_, ?_, ?_, ?_, ?_, ?_, ?_, ?_, ?_, ?_, ?_, ?_, ?_, ?_, ?_, ?_, ?_, ?_, ?_, ?_, ?_, ?_⟩
  · exact fun _ _ _ _ => trivial
  · intro o s r _ ho ih
    exact ty_M (c := 41) (g2 := 7) (o2 := o + 1) (fun _ => rfl) (fun _ => rfl) (by show 3 + 3 * (6 - (o + 1)) ≤ 1 + 3 * (6 - o); omega) ih
  · intro o s _ _
    cases hn : x_num T n 0 9999 s with
    | inl e => exact trivial
    | inr q =>
      have := x_num_v hn
      exact fun B => sgR.one (Or.inl ⟨by omega, by omega, rfl⟩) (by show B.length + 1 ≤ B.length + (1 + 3 * (6 - o)); omega)
  · exact fun _ _ _ _ => trivial
  · exact fun _ _ _ _ _ => trivial
  · exact fun _ _ _ _ _ _ _ => trivial
  · exact fun _ _ _ _ _ _ _ _ _ => trivial
  · intro o s s1 l1 r _ _ ho ih1 _ ih2
    cases r with
    | inl e => exact trivial
    | inr q =>
      have key : ∀ B : List Bool, sgR kd (l1 ++ q.2 ++ [if xw T n s = 25 then 15 else 16]) B (false :: B) (B.length + (1 + 3 * (6 - o))) := fun B => by
        have a1 : sgR kd l1 B (false :: B) (B.length + (3 + 3 * (6 - (o + 1)))) := ih1 B
        have a2 : sgR kd q.2 (false :: B) (false :: false :: B) ((false :: B).length + (3 + 3 * (6 - (o + 1)))) := ih2 (false :: B)
        have e : (false :: B).length = B.length + 1 := rfl
        refine ((a1.mono (by omega)).app (a2.mono (by omega))).app (sgR.one (st_bin (by split <;> omega)) (by omega))
      by_cases z : xK T n q.1.1 q.1.2 = 41
      · rw [show gM T n 41 (gA l1 (.inr q)) = .inr (xA T n q.1, l1 ++ q.2) from gM_t (q := (q.1, l1 ++ q.2)) z]
        exact key
      · rw [show gM T n 41 (gA l1 (.inr q)) = .inl (1, q.1.1) from gM_f (q := (q.1, l1 ++ q.2)) z]
        exact trivial
  · exact fun _ _ _ _ _ => trivial
  · intro o s r h2 _ ho ih
    cases r with
    | inl e => exact trivial
    | inr q =>
      intro B
      have a1 : sgR kd q.2 B (false :: B) (B.length + (1 + 3 * (6 - (o + 1)))) := ih B
      have e : (false :: B).length = B.length + 1 := rfl
      exact (a1.mono (show _ ≤ B.length + (1 + 3 * (6 - o)) by omega)).app (sgR.one (Or.inr (Or.inr (Or.inl ⟨by split <;> omega, h2, B, rfl, rfl⟩))) (show (false :: B).length ≤ B.length + (1 + 3 * (6 - o)) by omega))
  · intro o s h9 hm B
    exact sgR.one (Or.inr (Or.inl ⟨h9, hm, rfl⟩)) (by show B.length + 1 ≤ B.length + (1 + 3 * (6 - o)); omega)
  · exact fun _ _ _ _ _ _ => trivial
  · exact fun _ _ _ B => rfl
  · exact fun _ _ _ _ _ => trivial
  · intro o s s1 l1 r hK ih1 ih2
    refine ty_A (g1 := 0) (fun B => ?_) (fun _ => rfl) (Nat.le_refl _) ih2 rfl
    have a1 : sgR kd l1 (false :: B) (false :: false :: B) ((false :: B).length + (1 + 3 * (6 - o))) := ih1 (false :: B)
    have e : (false :: B).length = B.length + 1 := rfl
    exact (a1.mono (show _ ≤ B.length + (2 + 3 * (6 - o)) by omega)).app (sgR.one (st_bin (gK_5 (Or.inl hK))) (by show B.length + 1 ≤ B.length + (2 + 3 * (6 - o)); omega))
  · exact fun _ _ _ B => rfl
  · exact fun _ _ _ _ _ => trivial
  · intro o s s1 l1 r hK ih1 ih2
    refine ty_A (g1 := 0) (fun B => ?_) (fun _ => rfl) (Nat.le_refl _) ih2 rfl
    have a1 : sgR kd l1 (false :: B) (false :: false :: B) ((false :: B).length + (2 + 3 * (6 - o))) := ih1 (false :: B)
    have e : (false :: B).length = B.length + 1 := rfl
    exact (a1.mono (show _ ≤ B.length + (3 + 3 * (6 - o)) by omega)).app (sgR.one (st_bin (gK_5 (Or.inr hK))) (by show B.length + 1 ≤ B.length + (3 + 3 * (6 - o)); omega))
  · exact fun _ _ _ _ => trivial
  · intro o s s1 l1 r ih1 ih2
    exact ty_A (g1 := 0) (g2 := 1) (o2 := o) (fun B => (ih1 B).mono (show B.length + (1 + 3 * (6 - o)) ≤ B.length + (2 + 3 * (6 - o)) by omega)) (fun _ => rfl) (Nat.le_refl _) ih2 rfl
  · exact fun _ _ _ _ => trivial
  · intro o s s1 l1 r ih1 ih2
    exact ty_A (g1 := 0) (g2 := 2) (o2 := o) (fun B => (ih1 B).mono (show B.length + (2 + 3 * (6 - o)) ≤ B.length + (3 + 3 * (6 - o)) by omega)) (fun _ => rfl) (Nat.le_refl _) ih2 rfl
  · exact fun _ _ _ _ => trivial
  · intro o s r _ ho ih
    cases r with
    | inl e => exact trivial
    | inr q =>
      intro B
      have a1 : sgR kd q.2 B (true :: B) (B.length + (4 + 5 * (6 - (o + 1)))) := ih B
      have e : (true :: B).length = B.length + 1 := rfl
      exact (a1.mono (show _ ≤ B.length + (4 + 5 * (6 - o)) by omega)).app (sgR.one st_not (show (true :: B).length ≤ B.length + (4 + 5 * (6 - o)) by omega))
  · exact fun _ _ _ _ => trivial
  · intro o s r _ ho ih
    exact ty_M (c := 93) (g2 := 9) (o2 := o + 1) (fun _ => rfl) (fun _ => rfl) (by show 6 + 5 * (6 - (o + 1)) ≤ 4 + 5 * (6 - o); omega) ih
  · intro o s _ B
    exact sgR.one st_all (by show B.length + 1 ≤ B.length + (4 + 5 * (6 - o)); omega)
  · exact fun _ _ _ _ _ _ _ => trivial
  · exact fun _ _ _ _ _ _ _ _ _ => trivial
  · intro o s s1 l1 r _ _ _ ih1 hK ih2
    cases r with
    | inl e => exact trivial
    | inr q =>
      intro B
      have a1 : sgR kd l1 B (false :: B) (B.length + (3 + 3 * (6 - o))) := ih1 B
      have a2 : sgR kd q.2 (false :: B) (false :: false :: B) ((false :: B).length + (3 + 3 * (6 - o))) := ih2 (false :: B)
      have e : (false :: B).length = B.length + 1 := rfl
      exact (a1.mono (show _ ≤ B.length + (4 + 5 * (6 - o)) by omega)).app ((a2.mono (show _ ≤ B.length + (4 + 5 * (6 - o)) by omega)).app (sgR.one (st_cmp (gK_6 hK)) (by show B.length + 1 ≤ B.length + (4 + 5 * (6 - o)); omega)))
  · exact fun _ _ _ B => rfl
  · exact fun _ _ _ _ _ => trivial
  · intro o s s1 l1 r hK ih1 ih2
    refine ty_A (g1 := 0) (fun B => ?_) (fun _ => rfl) (Nat.le_refl _) ih2 rfl
    have a1 : sgR kd l1 (true :: B) (true :: true :: B) ((true :: B).length + (4 + 5 * (6 - o))) := ih1 (true :: B)
    have e : (true :: B).length = B.length + 1 := rfl
    exact (a1.mono (show _ ≤ B.length + (5 + 5 * (6 - o)) by omega)).app (sgR.one (st_and (Or.inl rfl)) (by show B.length + 1 ≤ B.length + (5 + 5 * (6 - o)); omega))
  · exact fun _ _ _ B => rfl
  · exact fun _ _ _ _ _ => trivial
  · intro o s s1 l1 r hK ih1 ih2
    refine ty_A (g1 := 0) (fun B => ?_) (fun _ => rfl) (Nat.le_refl _) ih2 rfl
    have a1 : sgR kd l1 (true :: B) (true :: true :: B) ((true :: B).length + (5 + 5 * (6 - o))) := ih1 (true :: B)
    have e : (true :: B).length = B.length + 1 := rfl
    exact (a1.mono (show _ ≤ B.length + (6 + 5 * (6 - o)) by omega)).app (sgR.one (st_and (Or.inr rfl)) (by show B.length + 1 ≤ B.length + (6 + 5 * (6 - o)); omega))
  · exact fun _ _ _ _ => trivial
  · intro o s s1 l1 r ih1 ih2
    exact ty_A (g1 := 0) (g2 := 4) (o2 := o) (fun B => (ih1 B).mono (show B.length + (4 + 5 * (6 - o)) ≤ B.length + (5 + 5 * (6 - o)) by omega)) (fun _ => rfl) (Nat.le_refl _) ih2 rfl
  · exact fun _ _ _ _ => trivial
  · intro o s s1 l1 r ih1 ih2
    exact ty_A (g1 := 0) (g2 := 5) (o2 := o) (fun B => (ih1 B).mono (show B.length + (5 + 5 * (6 - o)) ≤ B.length + (6 + 5 * (6 - o)) by omega)) (fun _ => rfl) (Nat.le_refl _) ih2 rfl
theorem PT.ok7 {s s' : xs} {l : List Nat} (h : PT T n kd 7 0 s (.inr (s', l))) : sg_ok kd false l [] := by
  have : sgR kd l [] [false] (0 + (3 + 3 * (6 - 0))) := h.ty []
  exact this.ok (by omega)
theorem PT.ok9 {s s' : xs} {l : List Nat} (h : PT T n kd 9 0 s (.inr (s', l))) : sg_ok kd true l [] := by
  have : sgR kd l [] [true] (0 + (6 + 5 * (6 - 0))) := h.ty []
  exact this.ok (by omega)
end Ty
