/-! THE REFERENCE reads a sum as the rules say -/
/-- turns that are enough from here on -/
def ned (n : Nat) (s : xs) : Nat := 8 * (n - s.1) + 30
noncomputable def KB (f u : Nat) (i : Int32) (m : sh_Mem) : Option sh_Mem := sh_bind (F_X12_qGoesOn u 1 0 m) (fun y m1 => if y = 0 then F_X12_qSums f 1 i 0 m1 else F_X12_qSums f 1 i 1 m1)
noncomputable def KP (f : Nat) (i : Int32) (m : sh_Mem) : Option sh_Mem := if (sh_i m 291 5) = 0 then sh_bind (f_X12_qGoesOn m) (fun y m1 => if y = 0 then F_X12_qSums f 1 i 0 m1 else F_X12_qSums f 1 i 1 m1) else F_X12_qSums f 1 i 0 m
noncomputable def KA (f u : Nat) (i : Int32) (m : sh_Mem) : Option sh_Mem := sh_bindv (F_X12_qPartTold u 1 1 m) (KP f i)
section Gm5
variable (T : Nat → Nat) (n b : Nat) (i : Int32) (μ0 : sh_Mem)
/-- what must hold of the rest behind a part, a product, a sum -/
def X0s (Post : Option sh_Mem → Prop) (C W : List Nat) (o : Nat) : xp → Prop
  | .inl e => ∀ m, mFt μ0 m e → Post (some m)
  | .inr q => ∀ (m : sh_Mem) (f u h : Nat) (κ : sh_Mem → Option sh_Mem), mRd μ0 m T n q.1 (C ++ q.2.map gm) W o b → ned n q.1 ≤ f → ned n q.1 ≤ u → W.length < h → (∀ m', sh_i m' 291 5 = 0 → κ m' = KB f u i m') → Post (sh_bindv (F_X12_qEndsPart h 1 m) κ)
def X1s (Post : Option sh_Mem → Prop) (C W : List Nat) (o : Nat) : xp → Prop
  | .inl e => ∀ m, mFt μ0 m e → Post (some m)
  | .inr q => ¬ (xK T n q.1.1 q.1.2 = 42 ∨ xK T n q.1.1 q.1.2 = 47) → ∀ (m : sh_Mem) (f u : Nat) (C' P : List Nat), P.length ≤ 1 ∧ (∀ y ∈ P, y = 3 ∨ y = 4) → mRd μ0 m T n q.1 C' (W ++ P) o b → C' ++ P.reverse = C ++ q.2.map gm → ned n q.1 ≤ f → ned n q.1 ≤ u → Post (KB f u i m)
def X2s (Post : Option sh_Mem → Prop) (C W : List Nat) (o : Nat) : xp → Prop
  | .inl e => ∀ m, mFt μ0 m e → Post (some m)
  | .inr q => ¬ (xK T n q.1.1 q.1.2 = 42 ∨ xK T n q.1.1 q.1.2 = 47) ∧ ¬ (xK T n q.1.1 q.1.2 = 43 ∨ xK T n q.1.1 q.1.2 = 45) → ∀ (m : sh_Mem) (f u : Nat) (C' P : List Nat), P.length ≤ 2 ∧ (∀ y ∈ P, 1 ≤ y ∧ y ≤ 4) → mRd μ0 m T n q.1 C' (W ++ P) o b → C' ++ P.reverse = C ++ q.2.map gm → ned n q.1 ≤ f → ned n q.1 ≤ u → Post (KB f u i m)
def S0s (o : Nat) (s : xs) (r : xp) : Prop := ∀ (Post : Option sh_Mem → Prop) (μ : sh_Mem) (C W : List Nat), mRd μ0 μ T n s C W o b → X0s T n b i μ0 Post C W o r → ∀ f u, ned n s ≤ f → ned n s ≤ u → Post (KA f u i μ)
def S6s (o : Nat) (s : xs) (r : xp) : Prop := ∀ (Post : Option sh_Mem → Prop) (μ : sh_Mem) (C W : List Nat), mRd μ0 μ T n s C W o b → ¬ tp W = 3 → ¬ tp W = 4 → tp W < 60 → X1s T n b i μ0 Post C W o r → ∀ f u, ned n s ≤ f → ned n s ≤ u → Post (KA f u i μ)
def S7s (o : Nat) (s : xs) (r : xp) : Prop := ∀ (Post : Option sh_Mem → Prop) (μ : sh_Mem) (C W : List Nat), mRd μ0 μ T n s C W o b → ¬ tp W = 1 → ¬ tp W = 2 → ¬ tp W = 3 → ¬ tp W = 4 → tp W < 60 → X2s T n b i μ0 Post C W o r → ∀ f u, ned n s ≤ f → ned n s ≤ u → Post (KA f u i μ)
def S1s (o : Nat) (s : xs) (r : xp) : Prop := ∀ (Post : Option sh_Mem → Prop) (μ : sh_Mem) (C W C' P : List Nat), mRd μ0 μ T n s C' (W ++ P) o b → b ≤ W.length → P.length ≤ 1 ∧ (∀ y ∈ P, y = 3 ∨ y = 4) → C' ++ P.reverse = C → ¬ tp W = 3 → ¬ tp W = 4 → X1s T n b i μ0 Post C W o r → ∀ f u, ned n s ≤ f → ned n s ≤ u → Post (KB f u i μ)
def S2s (o : Nat) (s : xs) (r : xp) : Prop := ∀ (Post : Option sh_Mem → Prop) (μ : sh_Mem) (C W C' P : List Nat), mRd μ0 μ T n s C' (W ++ P) o b → b ≤ W.length → ¬ (xK T n s.1 s.2 = 42 ∨ xK T n s.1 s.2 = 47) → P.length ≤ 2 ∧ (∀ y ∈ P, 1 ≤ y ∧ y ≤ 4) → C' ++ P.reverse = C → ¬ tp W = 1 → ¬ tp W = 2 → ¬ tp W = 3 → ¬ tp W = 4 → X2s T n b i μ0 Post C W o r → ∀ f u, ned n s ≤ f → ned n s ≤ u → Post (KB f u i μ)
def RSs : Nat → Nat → xs → xp → Prop
  | 0, o, s, r => S0s T n b i μ0 o s r
  | 1, o, s, r => S1s T n b i μ0 o s r
  | 2, o, s, r => S2s T n b i μ0 o s r
  | 6, o, s, r => S6s T n b i μ0 o s r
  | 7, o, s, r => S7s T n b i μ0 o s r
  | _, _, _, _ => True
end Gm5
section Gm6
variable {T : Nat → Nat} {n b kd : Nat} {i : Int32} {μ0 : sh_Mem}
theorem ned_A {s : xs} (h : s.1 < n) : ned n (xA T n s) + 8 ≤ ned n s := by
  have := xA_lt (T := T) h
  have := xA_le (T := T) (s := s) (by omega : s.1 ≤ n)
  unfold ned
  omega
theorem ned_fu {m : sh_Mem} {s : xs} (h : mS m T n s) : ned n s ≤ sh_fuel := by
  have := h.le
  rw [sh_fuel_eq]
  unfold ned
  omega
theorem SFt {m : sh_Mem} {e : Nat × Nat} {f : Nat} (h : mFt μ0 m e) (hf : 30 ≤ f) : ∃ m', F_X12_qSums f 1 i 0 m = some m' ∧ mFt μ0 m' e := by
  obtain ⟨f, rfl⟩ : ∃ f', f = f' + 1 + 1 := ⟨f - 2, by omega⟩
  refine ⟨sh_setI m 291 107 i, ?_, h.1.trans (sh_fr_I sh_fr.rf (by unfold nZq nWq; omega)), by rw [ir_set_k (by omega)]; exact h.2.1, by rw [ir_set_k (by omega)]; exact h.2.2.1, h.2.2.2.1, h.2.2.2.2.1, ?_⟩
  · rw [F_X12_qSums, if_pos rfl, F_X12_qSums, if_neg h.ne, shl_ap]
  · obtain ⟨c, c1, c2⟩ := h.2.2.2.2.2
    exact ⟨c, c1, by rw [ir_set_k (by omega)]; exact c2⟩
theorem KPt {m : sh_Mem} {e : Nat × Nat} {f : Nat} (h : mFt μ0 m e) (hf : 30 ≤ f) : ∃ m', KP f i m = some m' ∧ mFt μ0 m' e := by
  rw [KP, if_neg h.ne]
  exact SFt h hf
theorem SAt {m : sh_Mem} {f : Nat} (h : sh_i m 291 5 = 0) : F_X12_qSums (f + 1) 1 i 1 m = KA f sh_fuel i m := by
  rw [F_X12_qSums, if_neg (show ¬ (1 : Int32) = 0 by decide), h, if_pos rfl]
  rfl
theorem KP_B {m : sh_Mem} {f : Nat} (h : sh_i m 291 5 = 0) : KP f i m = KB f sh_fuel i m := by
  rw [KP, h, if_pos rfl]
  rfl
theorem ned_30 (s : xs) : 30 ≤ ned n s := by unfold ned; omega
theorem X1_A {Post : Option sh_Mem → Prop} {C W l : List Nat} {o : Nat} {r : xp} (h : X1s T n b i μ0 Post C W o (gA l r)) : X1s T n b i μ0 Post (C ++ l.map gm) W o r := by
  cases r with
  | inl e => exact h
  | inr q => exact fun z m f u C' P p1 p2 p3 => h z m f u C' P p1 p2 (by rw [p3]; show _ = C ++ (l ++ q.2).map gm; rw [List.map_append, List.append_assoc])
theorem X2_A {Post : Option sh_Mem → Prop} {C W l : List Nat} {o : Nat} {r : xp} (h : X2s T n b i μ0 Post C W o (gA l r)) : X2s T n b i μ0 Post (C ++ l.map gm) W o r := by
  cases r with
  | inl e => exact h
  | inr q => exact fun z m f u C' P p1 p2 p3 => h z m f u C' P p1 p2 (by rw [p3]; show _ = C ++ (l ++ q.2).map gm; rw [List.map_append, List.append_assoc])
theorem X0_A {Post : Option sh_Mem → Prop} {C W l : List Nat} {o : Nat} {r : xp} (h : X0s T n b i μ0 Post C W o (gA l r)) : X0s T n b i μ0 Post (C ++ l.map gm) W o r := by
  cases r with
  | inl e => exact h
  | inr q => exact fun m f u k κ p1 => h m f u k κ (by show mRd μ0 m T n q.1 (C ++ (l ++ q.2).map gm) W o b; rw [List.map_append, ← List.append_assoc]; exact p1)
theorem gB_0 (r : xp) : gB [] r = r := by
  cases r with
  | inl e => rfl
  | inr q => exact congrArg Sum.inr (Prod.ext rfl (List.append_nil q.2))
theorem gM_A {c : Int} {l : List Nat} (r : xp) : gM T n c (gA l r) = gA l (gM T n c r) := by
  cases r with
  | inl e => rfl
  | inr q =>
    by_cases z : xK T n q.1.1 q.1.2 = c
    · rw [gM_t z]
      exact gM_t (q := (q.1, l ++ q.2)) z
    · rw [gM_f z]
      exact gM_f (q := (q.1, l ++ q.2)) z
theorem gB_A {l l2 : List Nat} (r : xp) : gB l2 (gA l r) = gA l (gB l2 r) := by
  cases r with
  | inl e => rfl
  | inr q => exact congrArg Sum.inr (Prod.ext rfl (List.append_assoc l q.2 l2))
/-- a faulty part -/
theorem A_F {μ m : sh_Mem} {e : Nat × Nat} {f u : Nat} {Post : Option sh_Mem → Prop} (h1 : F_X12_qPartTold u 1 1 μ = some m) (h2 : mFt μ0 m e) (hf : 30 ≤ f) (hX : ∀ m, mFt μ0 m e → Post (some m)) : Post (KA f u i μ) := by
  obtain ⟨m', a, c⟩ := KPt (i := i) h2 hf
  rw [KA, h1, shv_ap, a]
  exact hX m' c
theorem B_F {μ m : sh_Mem} {e : Nat × Nat} {f u : Nat} {Post : Option sh_Mem → Prop} (h1 : F_X12_qGoesOn u 1 0 μ = some (0, m)) (h2 : mFt μ0 m e) (hf : 30 ≤ f) (hX : ∀ m, mFt μ0 m e → Post (some m)) : Post (KB f u i μ) := by
  obtain ⟨m', a, c⟩ := SFt (i := i) h2 hf
  rw [KB, h1, shb_ap, if_pos rfl, a]
  exact hX m' c
theorem B_A {μ m : sh_Mem} {f u : Nat} (h1 : F_X12_qGoesOn u 1 0 μ = some (1, m)) (h5 : sh_i m 291 5 = 0) : KB (f + 1) u i μ = KA f sh_fuel i m := by
  rw [KB, h1, shb_ap, if_neg (show ¬ (1 : Int32) = 0 by decide), SAt h5]
/-- a bracket closed -/
theorem X_close {x o : Nat} {l0 : List Nat} {Post : Option sh_Mem → Prop} {C W : List Nat} {r : xp} (hb : b ≤ W.length) (hx : x = 20 ∨ x = 23 ∨ x = 24) (hl : l0.map gm = brS x) (h : X0s T n b i μ0 Post C W o (gB l0 (gM T n 41 r))) : X2s T n b i μ0 Post C (W ++ [x]) (o + 1) r := by
  cases r with
  | inl e => exact h
  | inr q =>
    intro hK m f u C' P p1 p2 p3 hf hu
    have hP : ∀ y ∈ P, y < 20 := fun y hy => by have := p1.2 y hy; omega
    have h30 := ned_30 (n := n) q.1
    by_cases z : xK T n q.1.1 q.1.2 = 41
    · rw [gM_t z] at h
      have hlt : q.1.1 < n := xK_lt (T := T) (g := q.1.2) (by omega)
      have hA := ned_A (T := T) hlt
      obtain ⟨u, rfl⟩ : ∃ u', u = u' + 1 + 1 + 1 := ⟨u - 3, by omega⟩
      obtain ⟨m1, a1, a2⟩ := B_close p2 hb hx hP z u
      rw [p3, ← hl, List.append_assoc, ← List.map_append] at a2
      have e : KB f (u + 1 + 1 + 1) i m = sh_bindv (F_X12_qEndsPart sh_fuel 1 m1) (KB f u i) := by
        rw [KB, a1, f_X12_qEndsPart]
        cases F_X12_qEndsPart sh_fuel 1 m1 with
        | none => rfl
        | some m2 => rfl
      rw [e]
      have hle := a2.2.1.le
      have hl2 := a2.2.2.2.1
      exact h m1 f u sh_fuel (KB f u i) a2 (by show ned n (xA T n q.1) ≤ f; omega) (by show ned n (xA T n q.1) ≤ u; omega) (by rw [sh_fuel_eq]; omega) (fun _ _ => rfl)
    · rw [gM_f z] at h
      obtain ⟨m1, a1, a2⟩ := B_fail p2 hb hx hP z hK (f := u) (by omega)
      exact B_F a1 a2 (by omega) h
theorem r_openX {o : Nat} {s : xs} (hk : kd < 3) (hw : hB μ0) (h51 : sh_i μ0 291 51 = zI (kM kd)) (hK : xK T n s.1 s.2 = 40) (ho : 6 ≤ o) : S0s T n b i μ0 o s (.inl (4, s.1)) := by
  intro Post μ C W h hX f u hf hu
  have h30 := ned_30 (n := n) s
  obtain ⟨u, rfl⟩ : ∃ u', u = u' + 1 + 1 := ⟨u - 2, by omega⟩
  obtain ⟨m, a1, a2⟩ := A_openX hk hw h51 h hK ho u
  exact A_F a1 a2 (by omega) hX
theorem r_openG {o : Nat} {s : xs} {r : xp} (hk : kd < 3) (hw : hB μ0) (h51 : sh_i μ0 291 51 = zI (kM kd)) (hK : xK T n s.1 s.2 = 40) (ho : o < 6) (ih : S7s T n b i μ0 (o + 1) (xA T n s) r) : S0s T n b i μ0 o s (gM T n 41 r) := by
  intro Post μ C W h hX f u hf hu
  have hlt : s.1 < n := xK_lt (T := T) (g := s.2) (by omega)
  have hA := ned_A (T := T) hlt
  obtain ⟨u, rfl⟩ : ∃ u', u = u' + 1 := ⟨u - 1, by omega⟩
  obtain ⟨m, a1, a2⟩ := A_open hk hw h51 h hK ho u
  rw [KA, a1]
  exact ih Post m C (W ++ [20]) a2 (by rw [tp_e]; omega) (by rw [tp_e]; omega) (by rw [tp_e]; omega) (by rw [tp_e]; omega) (by rw [tp_e]; omega) (X_close (l0 := []) h.2.2.2.2.1 (by omega) rfl (by rw [gB_0]; exact hX)) f u (by omega) (by omega)
theorem r_num {o : Nat} {s : xs} (hk : kd < 3) (hw : hB μ0) (h51 : sh_i μ0 291 51 = zI (kM kd)) (hK : ¬ xK T n s.1 s.2 = 40) (hx : ¬ (xw T n s = 25 ∨ xw T n s = 26)) (h2 : ¬ (kd = 2 ∧ (xw T n s = 7 ∨ xw T n s = 10))) (h9 : ¬ (gW (xw T n s) < 9 ∧ sg_may kd (gW (xw T n s)))) : S0s T n b i μ0 o s (gN (x_num T n 0 9999 s)) := by
  intro Post μ C W h hX f u hf hu
  have h30 := ned_30 (n := n) s
  obtain ⟨u, rfl⟩ : ∃ u', u = u' + 1 + 1 := ⟨u - 2, by omega⟩
  obtain ⟨a1, a2⟩ := A_num hk hw h51 h hK hx h2 h9 u
  cases hn : x_num T n 0 9999 s with
  | inl e =>
    rw [hn] at hX
    obtain ⟨m, c1, c2⟩ := a2 e hn
    exact A_F c1 c2 (by omega) hX
  | inr q =>
    rw [hn] at hX
    obtain ⟨v, s'⟩ := q
    obtain ⟨m, c1, c2⟩ := a1 v s' hn
    obtain ⟨q1, q2⟩ := x_num_r hn
    have hs : s' = xA T n s := q2
    have hA := ned_A (T := T) (xK_3 q1).1
    rw [← hs] at hA
    have e : KA f (u + 1 + 1) i μ = sh_bindv (F_X12_qEndsPart sh_fuel 1 m) (KP f i) := by
      rw [KA, c1, f_X12_qEndsPart]
      cases F_X12_qEndsPart sh_fuel 1 m with
      | none => rfl
      | some m2 => rfl
    rw [e]
    have hle := c2.2.1.le
    have hl2 := c2.2.2.2.1
    exact hX m f sh_fuel sh_fuel (KP f i) c2 (by show ned n s' ≤ f; omega) (ned_fu c2.2.1) (by rw [sh_fuel_eq]; omega) (fun m' h5 => KP_B h5)
theorem r_fact {o : Nat} {s : xs} (hk : kd < 3) (hw : hB μ0) (h51 : sh_i μ0 291 51 = zI (kM kd)) (hx : gW (xw T n s) < 9) (hm : sg_may kd (gW (xw T n s))) : S0s T n b i μ0 o s (.inr (xA T n s, [gW (xw T n s)])) := by
  intro Post μ C W h hX f u hf hu
  have h30 := ned_30 (n := n) s
  have hlt : s.1 < n := by
    by_cases c : xw T n s = -1
    · rw [c] at hx
      exact absurd hx (by decide)
    · have hb2 : -1 ≤ xw T n s ∧ xw T n s < 33 := xw_b
      obtain ⟨w, hw⟩ : ∃ w : Nat, xw T n s = (w : Int) := ⟨(xw T n s).toNat, by omega⟩
      exact (xK_2 (xw_2 hw)).1
  have hA := ned_A (T := T) hlt
  obtain ⟨u, rfl⟩ : ∃ u', u = u' + 1 + 1 := ⟨u - 2, by omega⟩
  obtain ⟨m, c1, c2⟩ := A_fact hk hw h51 h hx hm u
  have e : KA f (u + 1 + 1) i μ = sh_bindv (F_X12_qEndsPart sh_fuel 1 m) (KP f i) := by
    rw [KA, c1, f_X12_qEndsPart]
    cases F_X12_qEndsPart sh_fuel 1 m with
    | none => rfl
    | some m2 => rfl
  rw [e]
  have hle := c2.2.1.le
  have hl2 := c2.2.2.2.1
  exact hX m f sh_fuel sh_fuel (KP f i) c2 (by show ned n (xA T n s) ≤ f; omega) (ned_fu c2.2.1) (by rw [sh_fuel_eq]; omega) (fun m' h5 => KP_B h5)
theorem tw_lt {s : xs} (hx : xw T n s = 25 ∨ xw T n s = 26) : s.1 < n := by
  rcases hx with z | z
  · exact (xK_2 (xw_2 (w := 25) z)).1
  · exact (xK_2 (xw_2 (w := 26) z)).1
theorem r_twoN {o : Nat} {s : xs} (hk : kd < 3) (hw : hB μ0) (h51 : sh_i μ0 291 51 = zI (kM kd)) (hx : xw T n s = 25 ∨ xw T n s = 26) (hK : ¬ xK T n (xA T n s).1 (xA T n s).2 = 40) : S0s T n b i μ0 o s (.inl (1, (xA T n s).1)) := by
  intro Post μ C W h hX f u hf hu
  have h30 := ned_30 (n := n) s
  obtain ⟨u, rfl⟩ : ∃ u', u = u' + 1 + 1 := ⟨u - 2, by omega⟩
  obtain ⟨m, a1, a2⟩ := A_twoN hk hw h51 h hx hK u
  exact A_F a1 a2 (by omega) hX
theorem r_twoX {o : Nat} {s : xs} (hk : kd < 3) (hw : hB μ0) (h51 : sh_i μ0 291 51 = zI (kM kd)) (hx : xw T n s = 25 ∨ xw T n s = 26) (hK : xK T n (xA T n s).1 (xA T n s).2 = 40) (ho : 6 ≤ o) : S0s T n b i μ0 o s (.inl (4, (xA T n s).1)) := by
  intro Post μ C W h hX f u hf hu
  have h30 := ned_30 (n := n) s
  obtain ⟨u, rfl⟩ : ∃ u', u = u' + 1 + 1 := ⟨u - 2, by omega⟩
  obtain ⟨m, a1, a2⟩ := A_twoX hk hw h51 h hx hK ho u
  exact A_F a1 a2 (by omega) hX
/-- behind `min (` -/
theorem r_twoA {o : Nat} {s : xs} {r1 r : xp} (hk : kd < 3) (hw : hB μ0) (h51 : sh_i μ0 291 51 = zI (kM kd)) (hx : xw T n s = 25 ∨ xw T n s = 26) (hK : xK T n (xA T n s).1 (xA T n s).2 = 40) (ho : o < 6) (ih : S7s T n b i μ0 (o + 1) (xA T n (xA T n s)) r1) (hr : ∀ (Post : Option sh_Mem → Prop) (C W : List Nat) (x : Nat), b ≤ W.length → x = (if xw T n s = 25 then 21 else 22) → X0s T n b i μ0 Post C W o r → X2s T n b i μ0 Post C (W ++ [x]) (o + 1) r1) : S0s T n b i μ0 o s r := by
  intro Post μ C W h hX f u hf hu
  have hA := ned_A (T := T) (tw_lt hx)
  have hlt : (xA T n s).1 < n := xK_lt (T := T) (g := (xA T n s).2) (by omega)
  have hA2 := ned_A (T := T) hlt
  obtain ⟨u, rfl⟩ : ∃ u', u = u' + 1 := ⟨u - 1, by omega⟩
  obtain ⟨m, a1, a2⟩ := A_two hk hw h51 h hx hK ho u
  rw [KA, a1]
  exact ih Post m C _ a2 (by rw [tp_e]; split <;> omega) (by rw [tp_e]; split <;> omega) (by rw [tp_e]; split <;> omega) (by rw [tp_e]; split <;> omega) (by rw [tp_e]; split <;> omega) (hr Post C W _ h.2.2.2.2.1 rfl hX) f u (by omega) (by omega)
theorem r_two1 {o : Nat} {s : xs} {e : Nat × Nat} (hk : kd < 3) (hw : hB μ0) (h51 : sh_i μ0 291 51 = zI (kM kd)) (hx : xw T n s = 25 ∨ xw T n s = 26) (hK : xK T n (xA T n s).1 (xA T n s).2 = 40) (ho : o < 6) (ih : S7s T n b i μ0 (o + 1) (xA T n (xA T n s)) (.inl e)) : S0s T n b i μ0 o s (.inl e) := r_twoA hk hw h51 hx hK ho ih (fun _ _ _ _ _ _ h => h)
theorem r_two2 {o : Nat} {s s1 : xs} {l1 : List Nat} (hk : kd < 3) (hw : hB μ0) (h51 : sh_i μ0 291 51 = zI (kM kd)) (hx : xw T n s = 25 ∨ xw T n s = 26) (hK : xK T n (xA T n s).1 (xA T n s).2 = 40) (ho : o < 6) (ih : S7s T n b i μ0 (o + 1) (xA T n (xA T n s)) (.inr (s1, l1))) (h44 : ¬ xK T n s1.1 s1.2 = 44) : S0s T n b i μ0 o s (.inl (1, s1.1)) := r_twoA hk hw h51 hx hK ho ih (fun Post C W x hb hx2 h => by
  intro hops m f u C' P p1 p2 p3 hf hu
  have h30 := ned_30 (n := n) s1
  have hP : ∀ y ∈ P, y < 20 := fun y hy => by have := p1.2 y hy; omega
  have hf' : ned n s1 ≤ f := hf
  have hu' : ned n s1 ≤ u := hu
  obtain ⟨m1, a1, a2⟩ := B_commaX p2 hb (show x = 21 ∨ x = 22 by rw [hx2]; split <;> omega) hP h44 hops (f := u) (by omega)
  exact B_F a1 a2 (by omega) h)
theorem r_two3 {o : Nat} {s s1 : xs} {l1 : List Nat} {r : xp} (hk : kd < 3) (hw : hB μ0) (h51 : sh_i μ0 291 51 = zI (kM kd)) (hx : xw T n s = 25 ∨ xw T n s = 26) (hK : xK T n (xA T n s).1 (xA T n s).2 = 40) (ho : o < 6) (ih : S7s T n b i μ0 (o + 1) (xA T n (xA T n s)) (.inr (s1, l1))) (h44 : xK T n s1.1 s1.2 = 44) (ih2 : S7s T n b i μ0 (o + 1) (xA T n s1) r) : S0s T n b i μ0 o s (gB [if xw T n s = 25 then 15 else 16] (gM T n 41 (gA l1 r))) := r_twoA hk hw h51 hx hK ho ih (fun Post C W x hb hx2 h => by
  intro hops m f u C' P p1 p2 p3 hf hu
  have h30 := ned_30 (n := n) s1
  have hP : ∀ y ∈ P, y < 20 := fun y hy => by have := p1.2 y hy; omega
  have hf' : ned n s1 ≤ f := hf
  have hu' : ned n s1 ≤ u := hu
  have hlt : s1.1 < n := xK_lt (T := T) (g := s1.2) (by omega)
  have hA := ned_A (T := T) hlt
  have hx3 : x = 21 ∨ x = 22 := by rw [hx2]; split <;> omega
  obtain ⟨m1, a1, a2⟩ := B_comma p2 hb hx3 hP h44 (f := u) (by omega)
  obtain ⟨f, rfl⟩ : ∃ f', f = f' + 1 := ⟨f - 1, by omega⟩
  rw [B_A a1 a2.2.1.2.2.1]
  rw [gM_A, gB_A] at h
  rw [p3] at a2
  refine ih2 Post m1 _ _ a2 (by rw [tp_e]; omega) (by rw [tp_e]; omega) (by rw [tp_e]; omega) (by rw [tp_e]; omega) (by rw [tp_e]; omega) (X_close (l0 := [if xw T n s = 25 then 15 else 16]) hb (by omega) ?_ (X0_A h)) f sh_fuel (by omega) (ned_fu a2.2.1)
  rw [hx2]
  by_cases q : xw T n s = 25
  · rw [if_pos q, if_pos q]
    rfl
  · rw [if_neg q, if_neg q]
    rfl)
theorem r_ofX {o : Nat} {s : xs} (hk : kd < 3) (hw : hB μ0) (h51 : sh_i μ0 291 51 = zI (kM kd)) (h2 : kd = 2) (hx : xw T n s = 7 ∨ xw T n s = 10) (ho : 6 ≤ o) : S0s T n b i μ0 o s (.inl (4, s.1)) := by
  intro Post μ C W h hX f u hf hu
  have h30 := ned_30 (n := n) s
  obtain ⟨u, rfl⟩ : ∃ u', u = u' + 1 + 1 := ⟨u - 2, by omega⟩
  obtain ⟨m, a1, a2⟩ := A_ofX hk hw h51 h h2 hx ho u
  exact A_F a1 a2 (by omega) hX
theorem r_ofG {o : Nat} {s : xs} {r : xp} (hk : kd < 3) (hw : hB μ0) (h51 : sh_i μ0 291 51 = zI (kM kd)) (h2 : kd = 2) (hx : xw T n s = 7 ∨ xw T n s = 10) (ho : o < 6) (ih : S0s T n b i μ0 (o + 1) (xA T n s) r) : S0s T n b i μ0 o s (gB [if xw T n s = 7 then 9 else 10] r) := by
  intro Post μ C W h hX f u hf hu
  have hlt : s.1 < n := by
    rcases hx with z | z
    · exact (xK_2 (xw_2 (w := 7) z)).1
    · exact (xK_2 (xw_2 (w := 10) z)).1
  have hA := ned_A (T := T) hlt
  obtain ⟨u, rfl⟩ : ∃ u', u = u' + 1 := ⟨u - 1, by omega⟩
  obtain ⟨m, a1, a2⟩ := A_of hk hw h51 h h2 hx ho u
  rw [KA, a1]
  have hb := h.2.2.2.2.1
  refine ih Post m C _ a2 ?_ f u (by omega) (by omega)
  cases r with
  | inl e => exact hX
  | inr q =>
    intro m f u k κ p1 p2 p3 p4 p5
    rw [len1] at p4
    obtain ⟨k, rfl⟩ : ∃ k', k = k' + 1 := ⟨k - 1, by omega⟩
    obtain ⟨m1, c1, c2⟩ := E_1 p1 hb (by split <;> omega) k
    rw [c1]
    refine hX m1 f u k κ ?_ p2 p3 (by omega) p5
    show mRd μ0 m1 T n q.1 (C ++ (q.2 ++ [if xw T n s = 7 then 9 else 10]).map gm) W o b
    rw [List.map_append, ← List.append_assoc]
    by_cases z : xw T n s = 7
    · rw [if_pos z] at c2 ⊢
      exact c2
    · rw [if_neg z] at c2 ⊢
      exact c2
theorem r_prE {o : Nat} {s : xs} (hK : ¬ (xK T n s.1 s.2 = 42 ∨ xK T n s.1 s.2 = 47)) : S1s T n b i μ0 o s (.inr (s, [])) := by
  intro Post μ C W C' P h hb hP hC h3 h4 hX f u hf hu
  exact hX hK μ f u C' P hP h (by rw [hC]; exact (List.append_nil C).symm) hf hu
theorem gK_m {c : Int} (h : c = 42 ∨ c = 47) : gm (gK c) = 3 ∨ gm (gK c) = 4 := by
  rcases h with z | z
  · rw [z]; exact Or.inl rfl
  · rw [z]; exact Or.inr rfl
theorem gK_a {c : Int} (h : c = 43 ∨ c = 45) : gm (gK c) = 1 ∨ gm (gK c) = 2 := by
  rcases h with z | z
  · rw [z]; exact Or.inl rfl
  · rw [z]; exact Or.inr rfl
theorem r_prX {o : Nat} {s : xs} {e : Nat × Nat} (hK : xK T n s.1 s.2 = 42 ∨ xK T n s.1 s.2 = 47) (ih : S0s T n b i μ0 o (xA T n s) (.inl e)) : S1s T n b i μ0 o s (.inl e) := by
  intro Post μ C W C' P h hb hP hC h3 h4 hX f u hf hu
  have h30 := ned_30 (n := n) s
  have hlt : s.1 < n := xK_lt (T := T) (g := s.2) (by omega)
  have hA := ned_A (T := T) hlt
  obtain ⟨m, a1, a2⟩ := B_mul h hb hP h3 h4 hK (f := u) (by omega)
  obtain ⟨f, rfl⟩ : ∃ f', f = f' + 1 := ⟨f - 1, by omega⟩
  rw [B_A a1 a2.2.1.2.2.1]
  exact ih Post m _ _ a2 hX f sh_fuel (by omega) (ned_fu a2.2.1)
theorem r_prG {o : Nat} {s s1 : xs} {l1 : List Nat} {r : xp} (hK : xK T n s.1 s.2 = 42 ∨ xK T n s.1 s.2 = 47) (ih : S0s T n b i μ0 o (xA T n s) (.inr (s1, l1))) (ih2 : S1s T n b i μ0 o s1 r) : S1s T n b i μ0 o s (gA (l1 ++ [gK (xK T n s.1 s.2)]) r) := by
  intro Post μ C W C' P h hb hP hC h3 h4 hX f u hf hu
  have h30 := ned_30 (n := n) s
  have hlt : s.1 < n := xK_lt (T := T) (g := s.2) (by omega)
  have hA := ned_A (T := T) hlt
  have hg := gK_m hK
  obtain ⟨m, a1, a2⟩ := B_mul h hb hP h3 h4 hK (f := u) (by omega)
  obtain ⟨f, rfl⟩ : ∃ f', f = f' + 1 := ⟨f - 1, by omega⟩
  rw [B_A a1 a2.2.1.2.2.1]
  rw [hC] at a2
  refine ih Post m _ _ a2 ?_ f sh_fuel (by omega) (ned_fu a2.2.1)
  intro m1 f1 u1 k κ p1 p2 p3 p4 p5
  obtain ⟨k, rfl⟩ : ∃ k', k = k' + 1 := ⟨k - 1, by omega⟩
  rw [E_0 p1 (Or.inr (by rw [tp_e]; omega)) k, shv_ap, p5 m1 p1.2.1.2.2.1]
  refine ih2 Post m1 _ W _ [gm (gK (xK T n s.1 s.2))] p1 hb ⟨Nat.le_refl 1, fun y hy => by rw [List.mem_singleton.mp hy]; exact hg⟩ rfl h3 h4 ?_ f1 u1 p2 p3
  have := X1_A hX
  rw [List.map_append, ← List.append_assoc] at this
  exact this
theorem r_suE {o : Nat} {s : xs} (hK : ¬ (xK T n s.1 s.2 = 43 ∨ xK T n s.1 s.2 = 45)) : S2s T n b i μ0 o s (.inr (s, [])) := by
  intro Post μ C W C' P h hb hm hP hC h1 h2 h3 h4 hX f u hf hu
  exact hX ⟨hm, hK⟩ μ f u C' P hP h (by rw [hC]; exact (List.append_nil C).symm) hf hu
theorem r_suX {o : Nat} {s : xs} {e : Nat × Nat} (hK : xK T n s.1 s.2 = 43 ∨ xK T n s.1 s.2 = 45) (ih : S6s T n b i μ0 o (xA T n s) (.inl e)) : S2s T n b i μ0 o s (.inl e) := by
  intro Post μ C W C' P h hb hm hP hC h1 h2 h3 h4 hX f u hf hu
  have h30 := ned_30 (n := n) s
  have hlt : s.1 < n := xK_lt (T := T) (g := s.2) (by omega)
  have hA := ned_A (T := T) hlt
  have hg := gK_a hK
  obtain ⟨m, a1, a2⟩ := B_add h hb hP h1 h2 h3 h4 hK (f := u) (by omega)
  obtain ⟨f, rfl⟩ : ∃ f', f = f' + 1 := ⟨f - 1, by omega⟩
  rw [B_A a1 a2.2.1.2.2.1]
  exact ih Post m _ _ a2 (by rw [tp_e]; omega) (by rw [tp_e]; omega) (by rw [tp_e]; omega) hX f sh_fuel (by omega) (ned_fu a2.2.1)
theorem r_suG {o : Nat} {s s1 : xs} {l1 : List Nat} {r : xp} (hK : xK T n s.1 s.2 = 43 ∨ xK T n s.1 s.2 = 45) (ih : S6s T n b i μ0 o (xA T n s) (.inr (s1, l1))) (ih2 : S2s T n b i μ0 o s1 r) : S2s T n b i μ0 o s (gA (l1 ++ [gK (xK T n s.1 s.2)]) r) := by
  intro Post μ C W C' P h hb hm hP hC h1 h2 h3 h4 hX f u hf hu
  have h30 := ned_30 (n := n) s
  have hlt : s.1 < n := xK_lt (T := T) (g := s.2) (by omega)
  have hA := ned_A (T := T) hlt
  have hg := gK_a hK
  obtain ⟨m, a1, a2⟩ := B_add h hb hP h1 h2 h3 h4 hK (f := u) (by omega)
  obtain ⟨f, rfl⟩ : ∃ f', f = f' + 1 := ⟨f - 1, by omega⟩
  rw [B_A a1 a2.2.1.2.2.1]
  rw [hC] at a2
  refine ih Post m _ _ a2 (by rw [tp_e]; omega) (by rw [tp_e]; omega) (by rw [tp_e]; omega) ?_ f sh_fuel (by omega) (ned_fu a2.2.1)
  intro hm1 m1 f1 u1 C1 P1 q1 q2 q3 q4 q5
  rw [List.append_assoc] at q2
  refine ih2 Post m1 (C ++ (l1 ++ [gK (xK T n s.1 s.2)]).map gm) W C1 ([gm (gK (xK T n s.1 s.2))] ++ P1) q2 hb hm1 ⟨by rw [List.length_append]; have := q1.1; show 1 + _ ≤ 2; omega, fun y hy => ?_⟩ ?_ h1 h2 h3 h4 (X2_A hX) f1 u1 q4 q5
  · rcases List.mem_append.mp hy with z | z
    · rw [List.mem_singleton.mp z]
      omega
    · have := q1.2 y z
      omega
  · rw [List.reverse_append, List.reverse_singleton, ← List.append_assoc, q3, List.map_append, ← List.append_assoc]
    rfl
theorem r_p6X {o : Nat} {s : xs} {e : Nat × Nat} (ih : S0s T n b i μ0 o s (.inl e)) : S6s T n b i μ0 o s (.inl e) := by
  intro Post μ C W h h3 h4 h60 hX f u hf hu
  exact ih Post μ C W h hX f u hf hu
theorem r_p6G {o : Nat} {s s1 : xs} {l1 : List Nat} {r : xp} (ih : S0s T n b i μ0 o s (.inr (s1, l1))) (ih2 : S1s T n b i μ0 o s1 r) : S6s T n b i μ0 o s (gA l1 r) := by
  intro Post μ C W h h3 h4 h60 hX f u hf hu
  refine ih Post μ C W h ?_ f u hf hu
  intro m1 f1 u1 k κ p1 p2 p3 p4 p5
  obtain ⟨k, rfl⟩ : ∃ k', k = k' + 1 := ⟨k - 1, by omega⟩
  rw [E_0 p1 (Or.inr h60) k, shv_ap, p5 m1 p1.2.1.2.2.1]
  exact ih2 Post m1 _ W _ [] (by rw [List.append_nil]; exact p1) h.2.2.2.2.1 ⟨Nat.zero_le 1, fun y hy => (by cases hy)⟩ (List.append_nil _) h3 h4 (X1_A hX) f1 u1 p2 p3
theorem r_p7X {o : Nat} {s : xs} {e : Nat × Nat} (ih : S6s T n b i μ0 o s (.inl e)) : S7s T n b i μ0 o s (.inl e) := by
  intro Post μ C W h h1 h2 h3 h4 h60 hX f u hf hu
  exact ih Post μ C W h h3 h4 h60 hX f u hf hu
theorem r_p7G {o : Nat} {s s1 : xs} {l1 : List Nat} {r : xp} (ih : S6s T n b i μ0 o s (.inr (s1, l1))) (ih2 : S2s T n b i μ0 o s1 r) : S7s T n b i μ0 o s (gA l1 r) := by
  intro Post μ C W h h1 h2 h3 h4 h60 hX f u hf hu
  refine ih Post μ C W h h3 h4 h60 ?_ f u hf hu
  intro hm m1 f1 u1 C1 P1 q1 q2 q3 q4 q5
  exact ih2 Post m1 (C ++ l1.map gm) W C1 P1 q2 h.2.2.2.2.1 hm ⟨by have := q1.1; omega, fun y hy => by have := q1.2 y hy; omega⟩ q3 h1 h2 h3 h4 (X2_A hX) f1 u1 q4 q5
theorem rf_RS {g o : Nat} {s : xs} {r : xp} (hk : kd < 3) (hw : hB μ0) (h51 : sh_i μ0 291 51 = zI (kM kd)) (h : PT T n kd g o s r) : RSs T n b i μ0 g o s r := by
  refine h (RSs T n b i μ0) ⟨fun o s => r_openX hk hw h51, fun o s r => r_openG hk hw h51, fun o s p1 p2 => ?_, fun o s => r_twoN hk hw h51, fun o s => r_twoX hk hw h51, fun o s e => r_two1 hk hw h51, fun o s s1 l1 => r_two2 hk hw h51, fun o s s1 l1 r => r_two3 hk hw h51, fun o s => r_ofX hk hw h51, fun o s r => r_ofG hk hw h51, fun o s => r_fact hk hw h51, fun o s p1 p2 p3 p4 => ?_, fun o s => r_prE, fun o s e => r_prX, fun o s s1 l1 r => r_prG, fun o s => r_suE, fun o s e => r_suX, fun o s s1 l1 r => r_suG, fun o s e => r_p6X, fun o s s1 l1 r => r_p6G, fun o s e => r_p7X, fun o s s1 l1 r => r_p7G, fun _ _ _ _ => trivial, fun _ _ _ _ _ _ => trivial, fun _ _ _ _ => trivial, fun _ _ _ _ _ _ => trivial, fun _ _ _ => trivial, fun _ _ _ _ _ _ _ => trivial, fun _ _ _ _ _ _ _ _ _ => trivial, fun _ _ _ _ _ _ _ _ _ _ _ => trivial, fun _ _ _ => trivial, fun _ _ _ _ _ => trivial, fun _ _ _ _ _ _ _ _ => trivial, fun _ _ _ => trivial, fun _ _ _ _ _ => trivial, fun _ _ _ _ _ _ _ _ => trivial, fun _ _ _ _ => trivial, fun _ _ _ _ _ _ _ => trivial, fun _ _ _ _ => trivial, fun _ _ _ _ _ _ _ => trivial⟩
  · have hx : xw T n s = -1 := if_neg p2
    exact r_num hk hw h51 p1 (by omega) (by omega) (by rw [hx]; exact fun z => absurd z.1 (by decide))
  · have := r_num (b := b) (i := i) (o := o) hk hw h51 (by omega : ¬ xK T n s.1 s.2 = 40) p2 p3 p4
    rw [show x_num T n 0 9999 s = .inl (1, s.1) from if_neg (by omega)] at this
    exact this
/-- at the end all that waits is written -/
theorem rf_fin {W : List Nat} {o : Nat} (hb : W.length = b) : ∀ (k f : Nat) (P C : List Nat) (m : sh_Mem), P.length = k → k < f → sh_i m 291 5 = 0 → mW m C (W ++ P) o b → (W ++ P).length + C.length < 1690 → ∃ m', F_X12_qSums f 2 i 0 m = some (sh_setI m' 291 107 i) ∧ sh_fr nWq m m' ∧ mW m' (C ++ P.reverse) W o b := by
  intro k
  induction k with
  | zero =>
    intro f P C m hk hf h5 h hl
    have : P = [] := List.eq_nil_of_length_eq_zero hk
    subst this
    rw [List.append_nil] at h hl
    obtain ⟨f, rfl⟩ : ∃ f', f = f' + 1 := ⟨f - 1, by omega⟩
    refine ⟨m, ?_, sh_fr.rf, by rw [List.reverse_nil, List.append_nil]; exact h⟩
    rw [F_X12_qSums, h5, if_pos rfl, h.2.2.1, h.2.2.2.2.2, if_pos (zI_yes (by omega) (by omega)), shl_ap]
  | succ k ih =>
    intro f P C m hk hf h5 h hl
    rcases List.eq_nil_or_concat P with rfl | ⟨P', y, rfl⟩
    · cases hk
    rw [List.concat_eq_append] at *
    rw [len1] at hk
    rw [← List.append_assoc] at h hl
    rw [len1] at hl
    obtain ⟨f, rfl⟩ : ∃ f', f = f' + 1 := ⟨f - 1, by omega⟩
    obtain ⟨m1, k1, k2, k3⟩ := rf_qDrops h (by omega) (by omega)
    obtain ⟨m2, r1, r2, r3⟩ := ih f P' (C ++ [y]) m1 (by omega) (by omega) (by rw [k2.i 291 5 (by unfold nWq; omega)]; exact h5) k3 (by rw [len1]; omega)
    refine ⟨m2, ?_, k2.trans r2, by rw [List.reverse_append, List.reverse_singleton, ← List.append_assoc]; exact r3⟩
    rw [F_X12_qSums, h5, if_pos rfl, h.2.2.1, h.2.2.2.2.2, len1, if_neg (zI_not (by rw [List.length_append]; omega) (by omega)), k1, shv_ap]
    exact r1
/-- what a sum leaves -/
def rfS (T : Nat → Nat) (n : Nat) (μ0 μ' : sh_Mem) (C W : List Nat) (o b : Nat) : xp → Prop
  | .inl e => mFt μ0 μ' e
  | .inr q => mRd μ0 μ' T n q.1 (C ++ q.2.map gm) W o b
theorem rf_qSums {μ : sh_Mem} {C W : List Nat} {o : Nat} {s : xs} {r : xp} (hk : kd < 3) (hw : hB μ0) (h51 : sh_i μ0 291 51 = zI (kM kd)) (h : mRd μ0 μ T n s C W o b) (ht : ¬ tp W = 1 ∧ ¬ tp W = 2 ∧ ¬ tp W = 3 ∧ ¬ tp W = 4 ∧ tp W < 60) (hr : PT T n kd 7 o s r) : ∃ μ', f_X12_qSums μ = some μ' ∧ rfS T n μ0 μ' C W o b r := by
  have hle := h.2.1.le
  obtain ⟨hf, hS, hM, hl, hb, hy, ho⟩ := id h
  have R : S7s T n W.length (zI b) μ0 o s r := rf_RS hk hw h51 hr
  obtain ⟨m1, hm1⟩ : ∃ m, m = sh_setI μ 291 107 (zI W.length) := ⟨_, rfl⟩
  have f1 : sh_fr nWq μ m1 := by rw [hm1]; exact sh_fr_I sh_fr.rf (by unfold nWq; omega)
  have M1 : mW m1 C W o W.length := by
    obtain ⟨h1, h2, h3, h4, h6, h7⟩ := hM
    exact ⟨by rw [hm1, ir_set_k (by omega), h1], fun j hj => by rw [hm1, ir_set_r (by omega)]; exact h2 j hj, by rw [hm1, ir_set_k (by omega), h3], fun j hj => by rw [hm1, ir_set_r (by omega)]; exact h4 j hj, by rw [hm1, ir_set_k (by omega), h6], by rw [hm1, ir_set]⟩
  have h1 : mRd μ0 m1 T n s C W o W.length := ⟨hf.trans (f1.mono (fun _ _ z => nZq_W z)), hS.fW f1, M1, hl, Nat.le_refl _, hy, ho⟩
  obtain ⟨fu, hfu⟩ : ∃ f, sh_fuel = f + 1 := ⟨sh_fuel - 1, by have := sh_fuel_eq; omega⟩
  have e0 : f_X12_qSums μ = KA fu sh_fuel (zI b) m1 := by
    unfold f_X12_qSums
    rw [hM.2.2.1, hM.2.2.2.2.2, shl_ap, ← hm1, shl_ap]
    rw [show F_X12_qSums sh_fuel 1 (zI b) 1 m1 = F_X12_qSums (fu + 1) 1 (zI b) 1 m1 by rw [hfu]]
    exact SAt h1.2.1.2.2.1
  have hn : ned n s + 1 ≤ sh_fuel := by
    rw [sh_fuel_eq]
    unfold ned
    omega
  rw [e0]
  refine R (fun res => ∃ μ', res = some μ' ∧ rfS T n μ0 μ' C W o b r) m1 C W h1 ht.1 ht.2.1 ht.2.2.1 ht.2.2.2.1 ht.2.2.2.2 ?_ fu sh_fuel (by omega) (by omega)
  cases r with
  | inl e => exact fun m hm => ⟨m, rfl, hm⟩
  | inr q =>
    intro hK m f u C' P p1 p2 p3 hf1 hu1
    have h30 := ned_30 (n := n) q.1
    obtain ⟨m2, a1, a2⟩ := B_end p2 rfl (fun y hy => by have := p1.2 y hy; omega) hK (f := u) (by omega)
    have hle2 := a2.2.1.le
    have hl2 := a2.2.2.2.1
    obtain ⟨f, rfl⟩ : ∃ f', f = f' + 1 := ⟨f - 1, by omega⟩
    obtain ⟨m3, c1, c2, c3⟩ := rf_fin (i := zI b) rfl P.length f P C' m2 rfl (by have := p1.1; omega) a2.2.1.2.2.1 a2.2.2.1 (by omega)
    rw [p3] at c3
    have f3 : sh_fr nWq m2 (sh_setI m3 291 107 (zI b)) := sh_fr_I c2 (by unfold nWq; omega)
    refine ⟨sh_setI m3 291 107 (zI b), ?_, a2.1.trans (f3.mono (fun _ _ z => nZq_W z)), a2.2.1.fW f3, ?_, ?_, hb, hy, ho⟩
    · rw [KB, a1, shb_ap, if_pos rfl, F_X12_qSums, if_pos rfl]
      exact c1
    · obtain ⟨h1, h2, h3, h4, h6, h7⟩ := c3
      exact ⟨by rw [ir_set_k (by omega), h1], fun j hj => by rw [ir_set_r (by omega)]; exact h2 j hj, by rw [ir_set_k (by omega), h3], fun j hj => by rw [ir_set_r (by omega)]; exact h4 j hj, by rw [ir_set_k (by omega), h6], by rw [ir_set]⟩
    · have := congrArg List.length p3
      rw [List.length_append, List.length_reverse] at this
      rw [List.length_append] at hl2
      omega
end Gm6
