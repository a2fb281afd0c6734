/-! SUMS AND TESTS: what a text tells. Signs as in sg_c, sg_m. -/
abbrev xp : Type := xo (xs × List Nat)
/-- signs ahead of, behind -/
def gA (l : List Nat) : xp → xp
  | .inl e => .inl e
  | .inr q => .inr (q.1, l ++ q.2)
def gB (l : List Nat) : xp → xp
  | .inl e => .inl e
  | .inr q => .inr (q.1, q.2 ++ l)
def gS (l : List Nat) : xo xs → xp
  | .inl e => .inl e
  | .inr s => .inr (s, l)
/-- then a mark -/
def gM (T : Nat → Nat) (n : Nat) (c : Int) : xp → xp
  | .inl e => .inl e
  | .inr q => gS q.2 (x_mark T n c q.1)
def gN : xo (Nat × xs) → xp
  | .inl e => .inl e
  | .inr q => .inr (q.2, [100 + q.1])
/-- the sign of a word that is a fact (of a mark that joins) -/
def gW (w : Int) : Nat := if w = 6 then 0 else if w = 14 then 1 else if w = 15 then 2 else if w = 16 then 3 else if w = 3 then 4 else if w = 17 then 5 else if w = 18 then 6 else if w = 19 then 7 else if w = 20 then 8 else 99
def gK (c : Int) : Nat := if c = 43 then 11 else if c = 45 then 12 else if c = 42 then 13 else if c = 47 then 14 else if c = 60 then 17 else if c = 62 then 18 else 19
/-- RULES. Parts 0, 1: more of a product, 2: of a sum, 3 facts, 4: more of both, 5: of a test, 6 products, 7 sums, 8 both, 9 tests; how many are open; from where; what comes of it -/
def PR (T : Nat → Nat) (n kd : Nat) (Q : Nat → Nat → xs → xp → Prop) : Prop :=
  (∀ (o : Nat) (s : xs), xK T n s.1 s.2 = 40 → 6 ≤ o → Q 0 o s (.inl (4, s.1))) ∧
  (∀ (o : Nat) (s : xs) (r : xp), xK T n s.1 s.2 = 40 → o < 6 → Q 7 (o + 1) (xA T n s) r → Q 0 o s (gM T n 41 r)) ∧
  (∀ (o : Nat) (s : xs), ¬ xK T n s.1 s.2 = 40 → ¬ xK T n s.1 s.2 = -2 → Q 0 o s (gN (x_num T n 0 9999 s))) ∧
  (∀ (o : Nat) (s : xs), (xw T n s = 25 ∨ xw T n s = 26) → ¬ xK T n (xA T n s).1 (xA T n s).2 = 40 → Q 0 o s (.inl (1, (xA T n s).1))) ∧
  (∀ (o : Nat) (s : xs), (xw T n s = 25 ∨ xw T n s = 26) → xK T n (xA T n s).1 (xA T n s).2 = 40 → 6 ≤ o → Q 0 o s (.inl (4, (xA T n s).1))) ∧
  (∀ (o : Nat) (s : xs) (e : Nat × Nat), (xw T n s = 25 ∨ xw T n s = 26) → xK T n (xA T n s).1 (xA T n s).2 = 40 → o < 6 → Q 7 (o + 1) (xA T n (xA T n s)) (.inl e) → Q 0 o s (.inl e)) ∧
  (∀ (o : Nat) (s : xs) (s1 : xs) (l1 : List Nat), (xw T n s = 25 ∨ xw T n s = 26) → xK T n (xA T n s).1 (xA T n s).2 = 40 → o < 6 → Q 7 (o + 1) (xA T n (xA T n s)) (.inr (s1, l1)) → ¬ xK T n s1.1 s1.2 = 44 → Q 0 o s (.inl (1, s1.1))) ∧
  (∀ (o : Nat) (s : xs) (s1 : xs) (l1 : List Nat) (r : xp), (xw T n s = 25 ∨ xw T n s = 26) → xK T n (xA T n s).1 (xA T n s).2 = 40 → o < 6 → Q 7 (o + 1) (xA T n (xA T n s)) (.inr (s1, l1)) → xK T n s1.1 s1.2 = 44 → Q 7 (o + 1) (xA T n s1) r → Q 0 o s (gB [if xw T n s = 25 then 15 else 16] (gM T n 41 (gA l1 r)))) ∧
  (∀ (o : Nat) (s : xs), kd = 2 → (xw T n s = 7 ∨ xw T n s = 10) → 6 ≤ o → Q 0 o s (.inl (4, s.1))) ∧
  (∀ (o : Nat) (s : xs) (r : xp), kd = 2 → (xw T n s = 7 ∨ xw T n s = 10) → o < 6 → Q 0 (o + 1) (xA T n s) r → Q 0 o s (gB [if xw T n s = 7 then 9 else 10] r)) ∧
  (∀ (o : Nat) (s : xs), gW (xw T n s) < 9 → sg_may kd (gW (xw T n s)) → Q 0 o s (.inr (xA T n s, [gW (xw T n s)]))) ∧
  (∀ (o : Nat) (s : xs), xK T n s.1 s.2 = -2 → ¬ (xw T n s = 25 ∨ xw T n s = 26) → ¬ (kd = 2 ∧ (xw T n s = 7 ∨ xw T n s = 10)) → ¬ (gW (xw T n s) < 9 ∧ sg_may kd (gW (xw T n s))) → Q 0 o s (.inl (1, s.1))) ∧
  (∀ (o : Nat) (s : xs), ¬ (xK T n s.1 s.2 = 42 ∨ xK T n s.1 s.2 = 47) → Q 1 o s (.inr (s, []))) ∧
  (∀ (o : Nat) (s : xs) (e : Nat × Nat), (xK T n s.1 s.2 = 42 ∨ xK T n s.1 s.2 = 47) → Q 0 o (xA T n s) (.inl e) → Q 1 o s (.inl e)) ∧
  (∀ (o : Nat) (s : xs) (s1 : xs) (l1 : List Nat) (r : xp), (xK T n s.1 s.2 = 42 ∨ xK T n s.1 s.2 = 47) → Q 0 o (xA T n s) (.inr (s1, l1)) → Q 1 o s1 r → Q 1 o s (gA (l1 ++ [gK (xK T n s.1 s.2)]) r)) ∧
  (∀ (o : Nat) (s : xs), ¬ (xK T n s.1 s.2 = 43 ∨ xK T n s.1 s.2 = 45) → Q 2 o s (.inr (s, []))) ∧
  (∀ (o : Nat) (s : xs) (e : Nat × Nat), (xK T n s.1 s.2 = 43 ∨ xK T n s.1 s.2 = 45) → Q 6 o (xA T n s) (.inl e) → Q 2 o s (.inl e)) ∧
  (∀ (o : Nat) (s : xs) (s1 : xs) (l1 : List Nat) (r : xp), (xK T n s.1 s.2 = 43 ∨ xK T n s.1 s.2 = 45) → Q 6 o (xA T n s) (.inr (s1, l1)) → Q 2 o s1 r → Q 2 o s (gA (l1 ++ [gK (xK T n s.1 s.2)]) r)) ∧
  (∀ (o : Nat) (s : xs) (e : Nat × Nat), Q 0 o s (.inl e) → Q 6 o s (.inl e)) ∧
  (∀ (o : Nat) (s : xs) (s1 : xs) (l1 : List Nat) (r : xp), Q 0 o s (.inr (s1, l1)) → Q 1 o s1 r → Q 6 o s (gA l1 r)) ∧
  (∀ (o : Nat) (s : xs) (e : Nat × Nat), Q 6 o s (.inl e) → Q 7 o s (.inl e)) ∧
  (∀ (o : Nat) (s : xs) (s1 : xs) (l1 : List Nat) (r : xp), Q 6 o s (.inr (s1, l1)) → Q 2 o s1 r → Q 7 o s (gA l1 r)) ∧
  (∀ (o : Nat) (s : xs), xw T n s = 23 → 6 ≤ o → Q 3 o s (.inl (4, s.1))) ∧
  (∀ (o : Nat) (s : xs) (r : xp), xw T n s = 23 → o < 6 → Q 3 (o + 1) (xA T n s) r → Q 3 o s (gB [22] r)) ∧
  (∀ (o : Nat) (s : xs), xK T n s.1 s.2 = 91 → 6 ≤ o → Q 3 o s (.inl (4, s.1))) ∧
  (∀ (o : Nat) (s : xs) (r : xp), xK T n s.1 s.2 = 91 → o < 6 → Q 9 (o + 1) (xA T n s) r → Q 3 o s (gM T n 93 r)) ∧
  (∀ (o : Nat) (s : xs), xw T n s = 24 → Q 3 o s (.inr (xA T n s, [23]))) ∧
  (∀ (o : Nat) (s : xs) (e : Nat × Nat), ¬ xw T n s = 23 → ¬ xK T n s.1 s.2 = 91 → ¬ xw T n s = 24 → Q 7 o s (.inl e) → Q 3 o s (.inl e)) ∧
  (∀ (o : Nat) (s : xs) (s1 : xs) (l1 : List Nat), ¬ xw T n s = 23 → ¬ xK T n s.1 s.2 = 91 → ¬ xw T n s = 24 → Q 7 o s (.inr (s1, l1)) → ¬ (xK T n s1.1 s1.2 = 60 ∨ xK T n s1.1 s1.2 = 62 ∨ xK T n s1.1 s1.2 = 61) → Q 3 o s (.inl (1, s1.1))) ∧
  (∀ (o : Nat) (s : xs) (s1 : xs) (l1 : List Nat) (r : xp), ¬ xw T n s = 23 → ¬ xK T n s.1 s.2 = 91 → ¬ xw T n s = 24 → Q 7 o s (.inr (s1, l1)) → (xK T n s1.1 s1.2 = 60 ∨ xK T n s1.1 s1.2 = 62 ∨ xK T n s1.1 s1.2 = 61) → Q 7 o (xA T n s1) r → Q 3 o s (gA l1 (gB [gK (xK T n s1.1 s1.2)] r))) ∧
  (∀ (o : Nat) (s : xs), ¬ xw T n s = 22 → Q 4 o s (.inr (s, []))) ∧
  (∀ (o : Nat) (s : xs) (e : Nat × Nat), xw T n s = 22 → Q 3 o (xA T n s) (.inl e) → Q 4 o s (.inl e)) ∧
  (∀ (o : Nat) (s : xs) (s1 : xs) (l1 : List Nat) (r : xp), xw T n s = 22 → Q 3 o (xA T n s) (.inr (s1, l1)) → Q 4 o s1 r → Q 4 o s (gA (l1 ++ [20]) r)) ∧
  (∀ (o : Nat) (s : xs), ¬ xw T n s = 21 → Q 5 o s (.inr (s, []))) ∧
  (∀ (o : Nat) (s : xs) (e : Nat × Nat), xw T n s = 21 → Q 8 o (xA T n s) (.inl e) → Q 5 o s (.inl e)) ∧
  (∀ (o : Nat) (s : xs) (s1 : xs) (l1 : List Nat) (r : xp), xw T n s = 21 → Q 8 o (xA T n s) (.inr (s1, l1)) → Q 5 o s1 r → Q 5 o s (gA (l1 ++ [21]) r)) ∧
  (∀ (o : Nat) (s : xs) (e : Nat × Nat), Q 3 o s (.inl e) → Q 8 o s (.inl e)) ∧
  (∀ (o : Nat) (s : xs) (s1 : xs) (l1 : List Nat) (r : xp), Q 3 o s (.inr (s1, l1)) → Q 4 o s1 r → Q 8 o s (gA l1 r)) ∧
  (∀ (o : Nat) (s : xs) (e : Nat × Nat), Q 8 o s (.inl e) → Q 9 o s (.inl e)) ∧
  (∀ (o : Nat) (s : xs) (s1 : xs) (l1 : List Nat) (r : xp), Q 8 o s (.inr (s1, l1)) → Q 5 o s1 r → Q 9 o s (gA l1 r))
/-- what follows from the rules -/
def PT (T : Nat → Nat) (n kd g o : Nat) (s : xs) (r : xp) : Prop := ∀ Q, PR T n kd Q → Q g o s r
section Gr
variable {T : Nat → Nat} {n kd : Nat}
theorem PT.openX {o : Nat} {s : xs} : xK T n s.1 s.2 = 40 → 6 ≤ o → PT T n kd 0 o s (.inl (4, s.1)) := fun p0 p1 Q h => h.1 _ _ p0 p1
theorem PT.openG {o : Nat} {s : xs} {r : xp} : xK T n s.1 s.2 = 40 → o < 6 → PT T n kd 7 (o + 1) (xA T n s) r → PT T n kd 0 o s (gM T n 41 r) := fun p0 p1 p2 Q h => h.2.1 _ _ _ p0 p1 (p2 Q h)
theorem PT.num {o : Nat} {s : xs} : ¬ xK T n s.1 s.2 = 40 → ¬ xK T n s.1 s.2 = -2 → PT T n kd 0 o s (gN (x_num T n 0 9999 s)) := fun p0 p1 Q h => h.2.2.1 _ _ p0 p1
theorem PT.twoN {o : Nat} {s : xs} : (xw T n s = 25 ∨ xw T n s = 26) → ¬ xK T n (xA T n s).1 (xA T n s).2 = 40 → PT T n kd 0 o s (.inl (1, (xA T n s).1)) := fun p0 p1 Q h => h.2.2.2.1 _ _ p0 p1
theorem PT.twoX {o : Nat} {s : xs} : (xw T n s = 25 ∨ xw T n s = 26) → xK T n (xA T n s).1 (xA T n s).2 = 40 → 6 ≤ o → PT T n kd 0 o s (.inl (4, (xA T n s).1)) := fun p0 p1 p2 Q h => h.2.2.2.2.1 _ _ p0 p1 p2
theorem PT.two1 {o : Nat} {s : xs} {e : Nat × Nat} : (xw T n s = 25 ∨ xw T n s = 26) → xK T n (xA T n s).1 (xA T n s).2 = 40 → o < 6 → PT T n kd 7 (o + 1) (xA T n (xA T n s)) (.inl e) → PT T n kd 0 o s (.inl e) := fun p0 p1 p2 p3 Q h => h.2.2.2.2.2.1 _ _ _ p0 p1 p2 (p3 Q h)
theorem PT.two2 {o : Nat} {s : xs} {s1 : xs} {l1 : List Nat} : (xw T n s = 25 ∨ xw T n s = 26) → xK T n (xA T n s).1 (xA T n s).2 = 40 → o < 6 → PT T n kd 7 (o + 1) (xA T n (xA T n s)) (.inr (s1, l1)) → ¬ xK T n s1.1 s1.2 = 44 → PT T n kd 0 o s (.inl (1, s1.1)) := fun p0 p1 p2 p3 p4 Q h => h.2.2.2.2.2.2.1 _ _ _ _ p0 p1 p2 (p3 Q h) p4
theorem PT.two3 {o : Nat} {s : xs} {s1 : xs} {l1 : List Nat} {r : xp} : (xw T n s = 25 ∨ xw T n s = 26) → xK T n (xA T n s).1 (xA T n s).2 = 40 → o < 6 → PT T n kd 7 (o + 1) (xA T n (xA T n s)) (.inr (s1, l1)) → xK T n s1.1 s1.2 = 44 → PT T n kd 7 (o + 1) (xA T n s1) r → PT T n kd 0 o s (gB [if xw T n s = 25 then 15 else 16] (gM T n 41 (gA l1 r))) := fun p0 p1 p2 p3 p4 p5 Q h => h.2.2.2.2.2.2.2.1 _ _ _ _ _ p0 p1 p2 (p3 Q h) p4 (p5 Q h)
theorem PT.ofX {o : Nat} {s : xs} : kd = 2 → (xw T n s = 7 ∨ xw T n s = 10) → 6 ≤ o → PT T n kd 0 o s (.inl (4, s.1)) := fun p0 p1 p2 Q h => h.2.2.2.2.2.2.2.2.1 _ _ p0 p1 p2
theorem PT.ofG {o : Nat} {s : xs} {r : xp} : kd = 2 → (xw T n s = 7 ∨ xw T n s = 10) → o < 6 → PT T n kd 0 (o + 1) (xA T n s) r → PT T n kd 0 o s (gB [if xw T n s = 7 then 9 else 10] r) := fun p0 p1 p2 p3 Q h => h.2.2.2.2.2.2.2.2.2.1 _ _ _ p0 p1 p2 (p3 Q h)
theorem PT.fact {o : Nat} {s : xs} : gW (xw T n s) < 9 → sg_may kd (gW (xw T n s)) → PT T n kd 0 o s (.inr (xA T n s, [gW (xw T n s)])) := fun p0 p1 Q h => h.2.2.2.2.2.2.2.2.2.2.1 _ _ p0 p1
theorem PT.none {o : Nat} {s : xs} : xK T n s.1 s.2 = -2 → ¬ (xw T n s = 25 ∨ xw T n s = 26) → ¬ (kd = 2 ∧ (xw T n s = 7 ∨ xw T n s = 10)) → ¬ (gW (xw T n s) < 9 ∧ sg_may kd (gW (xw T n s))) → PT T n kd 0 o s (.inl (1, s.1)) := fun p0 p1 p2 p3 Q h => h.2.2.2.2.2.2.2.2.2.2.2.1 _ _ p0 p1 p2 p3
theorem PT.prE {o : Nat} {s : xs} : ¬ (xK T n s.1 s.2 = 42 ∨ xK T n s.1 s.2 = 47) → PT T n kd 1 o s (.inr (s, [])) := fun p0 Q h => h.2.2.2.2.2.2.2.2.2.2.2.2.1 _ _ p0
theorem PT.prX {o : Nat} {s : xs} {e : Nat × Nat} : (xK T n s.1 s.2 = 42 ∨ xK T n s.1 s.2 = 47) → PT T n kd 0 o (xA T n s) (.inl e) → PT T n kd 1 o s (.inl e) := fun p0 p1 Q h => h.2.2.2.2.2.2.2.2.2.2.2.2.2.1 _ _ _ p0 (p1 Q h)
theorem PT.prG {o : Nat} {s : xs} {s1 : xs} {l1 : List Nat} {r : xp} : (xK T n s.1 s.2 = 42 ∨ xK T n s.1 s.2 = 47) → PT T n kd 0 o (xA T n s) (.inr (s1, l1)) → PT T n kd 1 o s1 r → PT T n kd 1 o s (gA (l1 ++ [gK (xK T n s.1 s.2)]) r) := fun p0 p1 p2 Q h => h.2.2.2.2.2.2.2.2.2.2.2.2.2.2.1 _ _ _ _ _ p0 (p1 Q h) (p2 Q h)
theorem PT.suE {o : Nat} {s : xs} : ¬ (xK T n s.1 s.2 = 43 ∨ xK T n s.1 s.2 = 45) → PT T n kd 2 o s (.inr (s, [])) := fun p0 Q h => h.2.2.2.2.2.2.2.2.2.2.2.2.2.2.2.1 _ _ p0
theorem PT.suX {o : Nat} {s : xs} {e : Nat × Nat} : (xK T n s.1 s.2 = 43 ∨ xK T n s.1 s.2 = 45) → PT T n kd 6 o (xA T n s) (.inl e) → PT T n kd 2 o s (.inl e) := fun p0 p1 Q h => h.2.2.2.2.2.2.2.2.2.2.2.2.2.2.2.2.1 _ _ _ p0 (p1 Q h)
theorem PT.suG {o : Nat} {s : xs} {s1 : xs} {l1 : List Nat} {r : xp} : (xK T n s.1 s.2 = 43 ∨ xK T n s.1 s.2 = 45) → PT T n kd 6 o (xA T n s) (.inr (s1, l1)) → PT T n kd 2 o s1 r → PT T n kd 2 o s (gA (l1 ++ [gK (xK T n s.1 s.2)]) r) := fun p0 p1 p2 Q h => h.2.2.2.2.2.2.2.2.2.2.2.2.2.2.2.2.2.1 _ _ _ _ _ p0 (p1 Q h) (p2 Q h)
theorem PT.p6X {o : Nat} {s : xs} {e : Nat × Nat} : PT T n kd 0 o s (.inl e) → PT T n kd 6 o s (.inl e) := fun p0 Q h => h.2.2.2.2.2.2.2.2.2.2.2.2.2.2.2.2.2.2.1 _ _ _ (p0 Q h)
theorem PT.p6G {o : Nat} {s : xs} {s1 : xs} {l1 : List Nat} {r : xp} : PT T n kd 0 o s (.inr (s1, l1)) → PT T n kd 1 o s1 r → PT T n kd 6 o s (gA l1 r) := fun p0 p1 Q h => h.2.2.2.2.2.2.2.2.2.2.2.2.2.2.2.2.2.2.2.1 _ _ _ _ _ (p0 Q h) (p1 Q h)
theorem PT.p7X {o : Nat} {s : xs} {e : Nat × Nat} : PT T n kd 6 o s (.inl e) → PT T n kd 7 o s (.inl e) := fun p0 Q h => h.2.2.2.2.2.2.2.2.2.2.2.2.2.2.2.2.2.2.2.2.1 _ _ _ (p0 Q h)
theorem PT.p7G {o : Nat} {s : xs} {s1 : xs} {l1 : List Nat} {r : xp} : PT T n kd 6 o s (.inr (s1, l1)) → PT T n kd 2 o s1 r → PT T n kd 7 o s (gA l1 r) := fun p0 p1 Q h => h.2.2.2.2.2.2.2.2.2.2.2.2.2.2.2.2.2.2.2.2.2.1 _ _ _ _ _ (p0 Q h) (p1 Q h)
theorem PT.notX {o : Nat} {s : xs} : xw T n s = 23 → 6 ≤ o → PT T n kd 3 o s (.inl (4, s.1)) := fun p0 p1 Q h => h.2.2.2.2.2.2.2.2.2.2.2.2.2.2.2.2.2.2.2.2.2.2.1 _ _ p0 p1
theorem PT.notG {o : Nat} {s : xs} {r : xp} : xw T n s = 23 → o < 6 → PT T n kd 3 (o + 1) (xA T n s) r → PT T n kd 3 o s (gB [22] r) := fun p0 p1 p2 Q h => h.2.2.2.2.2.2.2.2.2.2.2.2.2.2.2.2.2.2.2.2.2.2.2.1 _ _ _ p0 p1 (p2 Q h)
theorem PT.sqX {o : Nat} {s : xs} : xK T n s.1 s.2 = 91 → 6 ≤ o → PT T n kd 3 o s (.inl (4, s.1)) := fun p0 p1 Q h => h.2.2.2.2.2.2.2.2.2.2.2.2.2.2.2.2.2.2.2.2.2.2.2.2.1 _ _ p0 p1
theorem PT.sqG {o : Nat} {s : xs} {r : xp} : xK T n s.1 s.2 = 91 → o < 6 → PT T n kd 9 (o + 1) (xA T n s) r → PT T n kd 3 o s (gM T n 93 r) := fun p0 p1 p2 Q h => h.2.2.2.2.2.2.2.2.2.2.2.2.2.2.2.2.2.2.2.2.2.2.2.2.2.1 _ _ _ p0 p1 (p2 Q h)
theorem PT.all {o : Nat} {s : xs} : xw T n s = 24 → PT T n kd 3 o s (.inr (xA T n s, [23])) := fun p0 Q h => h.2.2.2.2.2.2.2.2.2.2.2.2.2.2.2.2.2.2.2.2.2.2.2.2.2.2.1 _ _ p0
theorem PT.cmX {o : Nat} {s : xs} {e : Nat × Nat} : ¬ xw T n s = 23 → ¬ xK T n s.1 s.2 = 91 → ¬ xw T n s = 24 → PT T n kd 7 o s (.inl e) → PT T n kd 3 o s (.inl e) := fun p0 p1 p2 p3 Q h => h.2.2.2.2.2.2.2.2.2.2.2.2.2.2.2.2.2.2.2.2.2.2.2.2.2.2.2.1 _ _ _ p0 p1 p2 (p3 Q h)
theorem PT.cmN {o : Nat} {s : xs} {s1 : xs} {l1 : List Nat} : ¬ xw T n s = 23 → ¬ xK T n s.1 s.2 = 91 → ¬ xw T n s = 24 → PT T n kd 7 o s (.inr (s1, l1)) → ¬ (xK T n s1.1 s1.2 = 60 ∨ xK T n s1.1 s1.2 = 62 ∨ xK T n s1.1 s1.2 = 61) → PT T n kd 3 o s (.inl (1, s1.1)) := fun p0 p1 p2 p3 p4 Q h => h.2.2.2.2.2.2.2.2.2.2.2.2.2.2.2.2.2.2.2.2.2.2.2.2.2.2.2.2.1 _ _ _ _ p0 p1 p2 (p3 Q h) p4
theorem PT.cmG {o : Nat} {s : xs} {s1 : xs} {l1 : List Nat} {r : xp} : ¬ xw T n s = 23 → ¬ xK T n s.1 s.2 = 91 → ¬ xw T n s = 24 → PT T n kd 7 o s (.inr (s1, l1)) → (xK T n s1.1 s1.2 = 60 ∨ xK T n s1.1 s1.2 = 62 ∨ xK T n s1.1 s1.2 = 61) → PT T n kd 7 o (xA T n s1) r → PT T n kd 3 o s (gA l1 (gB [gK (xK T n s1.1 s1.2)] r)) := fun p0 p1 p2 p3 p4 p5 Q h => h.2.2.2.2.2.2.2.2.2.2.2.2.2.2.2.2.2.2.2.2.2.2.2.2.2.2.2.2.2.1 _ _ _ _ _ p0 p1 p2 (p3 Q h) p4 (p5 Q h)
theorem PT.anE {o : Nat} {s : xs} : ¬ xw T n s = 22 → PT T n kd 4 o s (.inr (s, [])) := fun p0 Q h => h.2.2.2.2.2.2.2.2.2.2.2.2.2.2.2.2.2.2.2.2.2.2.2.2.2.2.2.2.2.2.1 _ _ p0
theorem PT.anX {o : Nat} {s : xs} {e : Nat × Nat} : xw T n s = 22 → PT T n kd 3 o (xA T n s) (.inl e) → PT T n kd 4 o s (.inl e) := fun p0 p1 Q h => h.2.2.2.2.2.2.2.2.2.2.2.2.2.2.2.2.2.2.2.2.2.2.2.2.2.2.2.2.2.2.2.1 _ _ _ p0 (p1 Q h)
theorem PT.anG {o : Nat} {s : xs} {s1 : xs} {l1 : List Nat} {r : xp} : xw T n s = 22 → PT T n kd 3 o (xA T n s) (.inr (s1, l1)) → PT T n kd 4 o s1 r → PT T n kd 4 o s (gA (l1 ++ [20]) r) := fun p0 p1 p2 Q h => h.2.2.2.2.2.2.2.2.2.2.2.2.2.2.2.2.2.2.2.2.2.2.2.2.2.2.2.2.2.2.2.2.1 _ _ _ _ _ p0 (p1 Q h) (p2 Q h)
theorem PT.orE {o : Nat} {s : xs} : ¬ xw T n s = 21 → PT T n kd 5 o s (.inr (s, [])) := fun p0 Q h => h.2.2.2.2.2.2.2.2.2.2.2.2.2.2.2.2.2.2.2.2.2.2.2.2.2.2.2.2.2.2.2.2.2.1 _ _ p0
theorem PT.orX {o : Nat} {s : xs} {e : Nat × Nat} : xw T n s = 21 → PT T n kd 8 o (xA T n s) (.inl e) → PT T n kd 5 o s (.inl e) := fun p0 p1 Q h => h.2.2.2.2.2.2.2.2.2.2.2.2.2.2.2.2.2.2.2.2.2.2.2.2.2.2.2.2.2.2.2.2.2.2.1 _ _ _ p0 (p1 Q h)
theorem PT.orG {o : Nat} {s : xs} {s1 : xs} {l1 : List Nat} {r : xp} : xw T n s = 21 → PT T n kd 8 o (xA T n s) (.inr (s1, l1)) → PT T n kd 5 o s1 r → PT T n kd 5 o s (gA (l1 ++ [21]) r) := fun p0 p1 p2 Q h => h.2.2.2.2.2.2.2.2.2.2.2.2.2.2.2.2.2.2.2.2.2.2.2.2.2.2.2.2.2.2.2.2.2.2.2.1 _ _ _ _ _ p0 (p1 Q h) (p2 Q h)
theorem PT.p8X {o : Nat} {s : xs} {e : Nat × Nat} : PT T n kd 3 o s (.inl e) → PT T n kd 8 o s (.inl e) := fun p0 Q h => h.2.2.2.2.2.2.2.2.2.2.2.2.2.2.2.2.2.2.2.2.2.2.2.2.2.2.2.2.2.2.2.2.2.2.2.2.1 _ _ _ (p0 Q h)
theorem PT.p8G {o : Nat} {s : xs} {s1 : xs} {l1 : List Nat} {r : xp} : PT T n kd 3 o s (.inr (s1, l1)) → PT T n kd 4 o s1 r → PT T n kd 8 o s (gA l1 r) := fun p0 p1 Q h => h.2.2.2.2.2.2.2.2.2.2.2.2.2.2.2.2.2.2.2.2.2.2.2.2.2.2.2.2.2.2.2.2.2.2.2.2.2.1 _ _ _ _ _ (p0 Q h) (p1 Q h)
theorem PT.p9X {o : Nat} {s : xs} {e : Nat × Nat} : PT T n kd 8 o s (.inl e) → PT T n kd 9 o s (.inl e) := fun p0 Q h => h.2.2.2.2.2.2.2.2.2.2.2.2.2.2.2.2.2.2.2.2.2.2.2.2.2.2.2.2.2.2.2.2.2.2.2.2.2.2.1 _ _ _ (p0 Q h)
theorem PT.p9G {o : Nat} {s : xs} {s1 : xs} {l1 : List Nat} {r : xp} : PT T n kd 8 o s (.inr (s1, l1)) → PT T n kd 5 o s1 r → PT T n kd 9 o s (gA l1 r) := fun p0 p1 Q h => h.2.2.2.2.2.2.2.2.2.2.2.2.2.2.2.2.2.2.2.2.2.2.2.2.2.2.2.2.2.2.2.2.2.2.2.2.2.2.2 _ _ _ _ _ (p0 Q h) (p1 Q h)
end Gr
theorem gM_t {T : Nat → Nat} {n : Nat} {c : Int} {q : xs × List Nat} (z : xK T n q.1.1 q.1.2 = c) : gM T n c (.inr q) = .inr (xA T n q.1, q.2) := by
  have e : x_mark T n c q.1 = .inr (xA T n q.1) := if_pos z
  exact congrArg (gS q.2) e
theorem gM_f {T : Nat → Nat} {n : Nat} {c : Int} {q : xs × List Nat} (z : ¬ xK T n q.1.1 q.1.2 = c) : gM T n c (.inr q) = .inl (1, q.1.1) := by
  have e : x_mark T n c q.1 = .inl (1, q.1.1) := if_neg z
  exact congrArg (gS q.2) e
/-- how far: signs are no more than bytes; of tags 1, 2, 4, 5 none need be eaten -/
def gP (n g : Nat) (s : xs) : xp → Prop
  | .inl _ => True
  | .inr q => s.1 ≤ q.1.1 ∧ q.1.1 ≤ n ∧ s.1 + q.2.length ≤ q.1.1 ∧ (g = 1 ∨ g = 2 ∨ g = 4 ∨ g = 5 ∨ s.1 < q.1.1)
theorem gP_A {n g g2 : Nat} {s s1 : xs} {l1 : List Nat} {r : xp} (h1 : s.1 < s1.1 ∧ s.1 + l1.length ≤ s1.1) (h2 : gP n g2 s1 r) : gP n g s (gA l1 r) := by
  cases r with
  | inl e => trivial
  | inr q =>
    obtain ⟨a, b, c, -⟩ := h2
    refine ⟨by show s.1 ≤ q.1.1; omega, b, ?_, by right; right; right; right; show s.1 < q.1.1; omega⟩
    show s.1 + (l1 ++ q.2).length ≤ q.1.1
    rw [List.length_append]
    omega
theorem gP_M {T : Nat → Nat} {n g g2 : Nat} {s s1 : xs} {c : Int} {r : xp} (hc : ¬ c = -1) (h1 : s.1 ≤ s1.1) (h2 : gP n g2 s1 r) : gP n g s (gM T n c r) ∧ ∀ q, gM T n c r = .inr q → s.1 + q.2.length < q.1.1 := by
  cases r with
  | inl e => exact ⟨trivial, fun q z => by cases z⟩
  | inr q =>
    obtain ⟨a, b, d, -⟩ := h2
    by_cases z : xK T n q.1.1 q.1.2 = c
    · rw [gM_t z]
      have hl : q.1.1 < n := xK_lt (T := T) (g := q.1.2) (by omega)
      have e1 := xA_lt (T := T) hl
      have e2 := xA_le (T := T) b
      refine ⟨⟨by show s.1 ≤ (xA T n q.1).1; omega, e2.2, by show s.1 + q.2.length ≤ (xA T n q.1).1; omega, by right; right; right; right; show s.1 < (xA T n q.1).1; omega⟩, fun p y => ?_⟩
      cases y
      show s.1 + q.2.length < (xA T n q.1).1
      omega
    · rw [gM_f z]
      exact ⟨trivial, fun p y => by cases y⟩
