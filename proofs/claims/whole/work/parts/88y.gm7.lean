/-! THE REFERENCE reads a test: the rules -/
section Gm8
variable (T : Nat → Nat) (n b : Nat) (μ0 : sh_Mem)
def X3s (Post : Option sh_Mem → Prop) (C W : List Nat) (o : Nat) : xp → Prop
  | .inl e => ∀ m, mFu μ0 m e → Post (some m)
  | .inr q => ∀ (m : sh_Mem) (f u h : Nat) (κ : sh_Mem → Option sh_Mem), mRd μ0 m T n q.1 (C ++ q.2.map gm) W o b → ned n q.1 ≤ f → ned n q.1 ≤ u → W.length < h → (∀ m', sh_i m' 291 5 = 0 → κ m' = KTB f u m') → Post (sh_bindv (F_X12_qDropsNots h 1 m) κ)
def X4s (Post : Option sh_Mem → Prop) (C W : List Nat) (o : Nat) : xp → Prop
  | .inl e => ∀ m, mFu μ0 m e → Post (some m)
  | .inr q => ¬ xw T n q.1 = 22 → ∀ (m : sh_Mem) (f u : Nat) (C' P : List Nat), P.length ≤ 1 ∧ (∀ y ∈ P, y = 10) → mRd μ0 m T n q.1 C' (W ++ P) o b → C' ++ P.reverse = C ++ q.2.map gm → ned n q.1 ≤ f → ned n q.1 ≤ u → Post (KTB f u m)
def X5s (Post : Option sh_Mem → Prop) (C W : List Nat) (o : Nat) : xp → Prop
  | .inl e => ∀ m, mFu μ0 m e → Post (some m)
  | .inr q => ¬ xw T n q.1 = 22 ∧ ¬ xw T n q.1 = 21 → ∀ (m : sh_Mem) (f u : Nat) (C' P : List Nat), P.length ≤ 2 ∧ (∀ y ∈ P, y = 10 ∨ y = 11) → mRd μ0 m T n q.1 C' (W ++ P) o b → C' ++ P.reverse = C ++ q.2.map gm → ned n q.1 ≤ f → ned n q.1 ≤ u → Post (KTB f u m)
/-- where a fact may begin -/
def okT (W : List Nat) : Prop := tp W = 0 ∨ (10 ≤ tp W ∧ tp W < 60)
def S3s (o : Nat) (s : xs) (r : xp) : Prop := ∀ (Post : Option sh_Mem → Prop) (μ : sh_Mem) (C W : List Nat), mRd μ0 μ T n s C W o b → okT W → X3s T n b μ0 Post C W o r → ∀ f, ned n s ≤ f → Post (F_X12_qTest f 1 1 μ)
def S8s (o : Nat) (s : xs) (r : xp) : Prop := ∀ (Post : Option sh_Mem → Prop) (μ : sh_Mem) (C W : List Nat), mRd μ0 μ T n s C W o b → okT W → ¬ tp W = 10 → ¬ tp W = 12 → X4s T n b μ0 Post C W o r → ∀ f, ned n s ≤ f → Post (F_X12_qTest f 1 1 μ)
def S9s (o : Nat) (s : xs) (r : xp) : Prop := ∀ (Post : Option sh_Mem → Prop) (μ : sh_Mem) (C W : List Nat), mRd μ0 μ T n s C W o b → okT W → ¬ tp W = 10 → ¬ tp W = 11 → ¬ tp W = 12 → X5s T n b μ0 Post C W o r → ∀ f, ned n s ≤ f → Post (F_X12_qTest f 1 1 μ)
def S4s (o : Nat) (s : xs) (r : xp) : Prop := ∀ (Post : Option sh_Mem → Prop) (μ : sh_Mem) (C W C' P : List Nat), mRd μ0 μ T n s C' (W ++ P) o b → b ≤ W.length → P.length ≤ 1 ∧ (∀ y ∈ P, y = 10) → C' ++ P.reverse = C → ¬ tp W = 10 → X4s T n b μ0 Post C W o r → ∀ f u, ned n s ≤ f → ned n s ≤ u → Post (KTB f u μ)
def S5s (o : Nat) (s : xs) (r : xp) : Prop := ∀ (Post : Option sh_Mem → Prop) (μ : sh_Mem) (C W C' P : List Nat), mRd μ0 μ T n s C' (W ++ P) o b → b ≤ W.length → ¬ xw T n s = 22 → P.length ≤ 2 ∧ (∀ y ∈ P, y = 10 ∨ y = 11) → C' ++ P.reverse = C → ¬ tp W = 10 → ¬ tp W = 11 → X5s T n b μ0 Post C W o r → ∀ f u, ned n s ≤ f → ned n s ≤ u → Post (KTB f u μ)
def RTs : Nat → Nat → xs → xp → Prop
  | 3, o, s, r => S3s T n b μ0 o s r
  | 4, o, s, r => S4s T n b μ0 o s r
  | 5, o, s, r => S5s T n b μ0 o s r
  | 8, o, s, r => S8s T n b μ0 o s r
  | 9, o, s, r => S9s T n b μ0 o s r
  | _, _, _, _ => True
end Gm8
section Gm9
variable {T : Nat → Nat} {n b kd : Nat} {μ0 : sh_Mem}
theorem okT.s {W : List Nat} (h : okT W) : ¬ tp W = 1 ∧ ¬ tp W = 2 ∧ ¬ tp W = 3 ∧ ¬ tp W = 4 ∧ tp W < 60 := by
  unfold okT at h
  omega
theorem X4_A {Post : Option sh_Mem → Prop} {C W l : List Nat} {o : Nat} {r : xp} (h : X4s T n b μ0 Post C W o (gA l r)) : X4s T n b μ0 Post (C ++ l.map gm) W o r := by
  cases r with
  | inl e => exact h
  | inr q => exact fun z m f u C' P p1 p2 p3 => h z m f u C' P p1 p2 (by rw [p3]; show _ = C ++ (l ++ q.2).map gm; rw [List.map_append, List.append_assoc])
theorem X5_A {Post : Option sh_Mem → Prop} {C W l : List Nat} {o : Nat} {r : xp} (h : X5s T n b μ0 Post C W o (gA l r)) : X5s T n b μ0 Post (C ++ l.map gm) W o r := by
  cases r with
  | inl e => exact h
  | inr q => exact fun z m f u C' P p1 p2 p3 => h z m f u C' P p1 p2 (by rw [p3]; show _ = C ++ (l ++ q.2).map gm; rw [List.map_append, List.append_assoc])
theorem KTP_B {m : sh_Mem} {f : Nat} (h : sh_i m 291 5 = 0) : KTP f m = KTB f sh_fuel m := by
  rw [KTP, h, if_pos rfl]
  rfl
theorem fu1 : ∃ f, sh_fuel = f + 1 := ⟨sh_fuel - 1, by have := sh_fuel_eq; omega⟩
/-- behind a fact that was told -/
theorem TA_F {μ m m1 : sh_Mem} {e : Nat × Nat} {f : Nat} {Post : Option sh_Mem → Prop} (h1 : F_X12_qTest (f + 1) 1 1 μ = sh_bindv (f_X12_qFact m) (fun m1 => sh_bindv (f_X12_qDropsNots m1) (KTP f))) (h2 : f_X12_qFact m = some m1) (h3 : mFu μ0 m1 e) (hf : 2 ≤ f) (hX : ∀ m, mFu μ0 m e → Post (some m)) : Post (F_X12_qTest (f + 1) 1 1 μ) := by
  obtain ⟨f, rfl⟩ : ∃ f', f = f' + 1 + 1 := ⟨f - 2, by omega⟩
  obtain ⟨u, hu⟩ := fu1
  rw [h1, h2, shv_ap, f_X12_qDropsNots, hu, TE_X h3.ne, shv_ap, KTP, if_neg h3.ne, qT_X0 h3.ne]
  exact hX m1 h3
theorem TA_G {μ m m1 : sh_Mem} {s' : xs} {C W l : List Nat} {o f : Nat} {Post : Option sh_Mem → Prop} (h1 : F_X12_qTest (f + 1) 1 1 μ = sh_bindv (f_X12_qFact m) (fun m1 => sh_bindv (f_X12_qDropsNots m1) (KTP f))) (h2 : f_X12_qFact m = some m1) (h3 : mRd μ0 m1 T n s' (C ++ l.map gm) W o b) (hf : ned n s' ≤ f) (hX : X3s T n b μ0 Post C W o (.inr (s', l))) : Post (F_X12_qTest (f + 1) 1 1 μ) := by
  have hle := h3.2.1.le
  have hl := h3.2.2.2.1
  rw [h1, h2, shv_ap, f_X12_qDropsNots]
  exact hX m1 f sh_fuel sh_fuel (KTP f) h3 hf (ned_fu h3.2.1) (by rw [sh_fuel_eq]; omega) (fun m' h5 => KTP_B h5)
theorem t_notX {o : Nat} {s : xs} (hw : hB μ0) (hx : xw T n s = 23) (ho : 6 ≤ o) : S3s T n b μ0 o s (.inl (4, s.1)) := by
  intro Post μ C W h hk hX f hf
  have h30 := ned_30 (n := n) s
  obtain ⟨f, rfl⟩ : ∃ f', f = f' + 1 + 1 + 1 := ⟨f - 3, by omega⟩
  obtain ⟨m, a1, a2⟩ := TA_notX hw h hx ho f
  rw [a1]
  exact hX m a2
theorem t_notG {o : Nat} {s : xs} {r : xp} (hw : hB μ0) (hx : xw T n s = 23) (ho : o < 6) (ih : S3s T n b μ0 (o + 1) (xA T n s) r) : S3s T n b μ0 o s (gB [22] r) := by
  intro Post μ C W h hk hX f hf
  have hA := ned_A (T := T) (xK_2 (xw_2 (w := 23) hx)).1
  have hb := h.2.2.2.2.1
  obtain ⟨f, rfl⟩ : ∃ f', f = f' + 1 := ⟨f - 1, by omega⟩
  obtain ⟨m, a1, a2⟩ := TA_not hw h hx ho f
  rw [a1]
  refine ih Post m C (W ++ [12]) a2 (by unfold okT; rw [tp_e]; omega) ?_ f (by omega)
  cases r with
  | inl e => exact hX
  | inr q =>
    intro m f u k κ p1 p2 p3 p4 p5
    rw [len1] at p4
    obtain ⟨k, rfl⟩ : ∃ k', k = k' + 1 := ⟨k - 1, by omega⟩
    obtain ⟨m1, c1, c2⟩ := TE_1 p1 hb k
    rw [c1]
    refine hX m1 f u k κ ?_ p2 p3 (by omega) p5
    show mRd μ0 m1 T n q.1 (C ++ (q.2 ++ [22]).map gm) W o b
    rw [List.map_append, ← List.append_assoc]
    exact c2
theorem t_sqX {o : Nat} {s : xs} (hK : xK T n s.1 s.2 = 91) (ho : 6 ≤ o) : S3s T n b μ0 o s (.inl (4, s.1)) := by
  intro Post μ C W h hk hX f hf
  have h30 := ned_30 (n := n) s
  obtain ⟨f, rfl⟩ : ∃ f', f = f' + 1 + 1 + 1 := ⟨f - 3, by omega⟩
  obtain ⟨m, a1, a2⟩ := TA_sqX h hK ho f
  rw [a1]
  exact hX m a2
theorem t_sqG {o : Nat} {s : xs} {r : xp} (hw : hB μ0) (hK : xK T n s.1 s.2 = 91) (ho : o < 6) (ih : S9s T n b μ0 (o + 1) (xA T n s) r) : S3s T n b μ0 o s (gM T n 93 r) := by
  intro Post μ C W h hk hX f hf
  have hlt : s.1 < n := xK_lt (T := T) (g := s.2) (by omega)
  have hA := ned_A (T := T) hlt
  have hb := h.2.2.2.2.1
  obtain ⟨f, rfl⟩ : ∃ f', f = f' + 1 := ⟨f - 1, by omega⟩
  obtain ⟨m, a1, a2⟩ := TA_sq h hK ho f
  rw [a1]
  refine ih Post m C (W ++ [25]) a2 (by unfold okT; rw [tp_e]; omega) (by rw [tp_e]; omega) (by rw [tp_e]; omega) (by rw [tp_e]; omega) ?_ f (by omega)
  cases r with
  | inl e => exact hX
  | inr q =>
    intro hx m f u C' P p1 p2 p3 hf hu
    have h30 := ned_30 (n := n) q.1
    by_cases z : xK T n q.1.1 q.1.2 = 93
    · rw [gM_t z] at hX
      have hlt : q.1.1 < n := xK_lt (T := T) (g := q.1.2) (by omega)
      have hA := ned_A (T := T) hlt
      obtain ⟨m1, u1, a0, a1, a2⟩ := TB_close p2 hb p1 z (f := u) (by omega)
      rw [p3] at a2
      have e : KTB f u m = sh_bindv (F_X12_qDropsNots sh_fuel 1 m1) (KTB f u1) := by
        rw [KTB, a1, f_X12_qDropsNots]
        cases F_X12_qDropsNots sh_fuel 1 m1 with
        | none => rfl
        | some m2 => rfl
      rw [e]
      have hle := a2.2.1.le
      have hl2 := a2.2.2.2.1
      exact hX m1 f u1 sh_fuel (KTB f u1) a2 (by show ned n (xA T n q.1) ≤ f; omega) (by show ned n (xA T n q.1) ≤ u1; omega) (by rw [sh_fuel_eq]; omega) (fun _ _ => rfl)
    · rw [gM_f z] at hX
      obtain ⟨u, rfl⟩ : ∃ u', u = u' + 1 := ⟨u - 1, by omega⟩
      obtain ⟨f, rfl⟩ : ∃ f', f = f' + 1 + 1 := ⟨f - 2, by omega⟩
      obtain ⟨m1, a1, a2, a3⟩ := TB_n hw p2 hx (fun q => absurd q z) u
      obtain ⟨m2, r1, r2, r3⟩ := rf_fail (T := T) (n := n) (μ := m1) (k := 1) (p := q.1.1) a1.2.2.1
      have r1' : f_X12_fail 1 (zI (q.1.1 : Int)) m1 = some m2 := r1
      have F : mFu μ0 m2 (1, q.1.1) := mFu_1 (a2.1.trans (r2.mono (fun _ _ z => nZq_M z))) (by omega) r3.1 r3.2
      rw [KTB, a3, if_pos (List.mem_append.mpr (Or.inl (List.mem_append.mpr (Or.inr (List.mem_singleton.mpr rfl))))), r1', shv_ap, shb_ap, if_pos rfl, qT_X0 F.ne]
      exact hX m2 F
theorem t_all {o : Nat} {s : xs} (hw : hB μ0) (hx : xw T n s = 24) : S3s T n b μ0 o s (.inr (xA T n s, [23])) := by
  intro Post μ C W h hk hX f hf
  have hK2 : xK T n s.1 s.2 = -2 := xw_2 (w := 24) hx
  have hA := ned_A (T := T) (xK_2 hK2).1
  obtain ⟨f, rfl⟩ : ∃ f', f = f' + 1 := ⟨f - 1, by omega⟩
  obtain ⟨m, a1, a2⟩ := TA_fact hw h (by omega) (by omega) f
  obtain ⟨m1, c1, c2⟩ := qF_all hw a1 hx
  exact TA_G (l := [23]) a2 c1 c2 (by omega) hX
theorem t_cmX {o : Nat} {s : xs} {e : Nat × Nat} (hk : kd < 3) (hw : hB μ0) (h51 : sh_i μ0 291 51 = zI (kM kd)) (n23 : ¬ xw T n s = 23) (n91 : ¬ xK T n s.1 s.2 = 91) (n24 : ¬ xw T n s = 24) (hr : PT T n kd 7 o s (.inl e)) : S3s T n b μ0 o s (.inl e) := by
  intro Post μ C W h ho hX f hf
  have h30 := ned_30 (n := n) s
  obtain ⟨f, rfl⟩ : ∃ f', f = f' + 1 := ⟨f - 1, by omega⟩
  obtain ⟨m, a1, a2⟩ := TA_fact hw h n91 n23 f
  obtain ⟨m1, c1, c2⟩ := qF_X hk hw h51 a1 ho.s n24 hr
  exact TA_F a2 c1 c2 (by omega) hX
theorem t_cmN {o : Nat} {s s1 : xs} {l1 : List Nat} (hk : kd < 3) (hw : hB μ0) (h51 : sh_i μ0 291 51 = zI (kM kd)) (n23 : ¬ xw T n s = 23) (n91 : ¬ xK T n s.1 s.2 = 91) (n24 : ¬ xw T n s = 24) (hr : PT T n kd 7 o s (.inr (s1, l1))) (hK : ¬ (xK T n s1.1 s1.2 = 60 ∨ xK T n s1.1 s1.2 = 62 ∨ xK T n s1.1 s1.2 = 61)) : S3s T n b μ0 o s (.inl (1, s1.1)) := by
  intro Post μ C W h ho hX f hf
  have h30 := ned_30 (n := n) s
  obtain ⟨f, rfl⟩ : ∃ f', f = f' + 1 := ⟨f - 1, by omega⟩
  obtain ⟨m, a1, a2⟩ := TA_fact hw h n91 n23 f
  obtain ⟨m1, c1, c2⟩ := qF_N hk hw h51 a1 ho.s n24 hr hK
  exact TA_F a2 c1 c2 (by omega) hX
theorem t_cmG {o : Nat} {s s1 : xs} {l1 : List Nat} {r : xp} (hk : kd < 3) (hw : hB μ0) (h51 : sh_i μ0 291 51 = zI (kM kd)) (n23 : ¬ xw T n s = 23) (n91 : ¬ xK T n s.1 s.2 = 91) (n24 : ¬ xw T n s = 24) (hr : PT T n kd 7 o s (.inr (s1, l1))) (hK : xK T n s1.1 s1.2 = 60 ∨ xK T n s1.1 s1.2 = 62 ∨ xK T n s1.1 s1.2 = 61) (hr2 : PT T n kd 7 o (xA T n s1) r) : S3s T n b μ0 o s (gA l1 (gB [gK (xK T n s1.1 s1.2)] r)) := by
  intro Post μ C W h ho hX f hf
  have h30 := ned_30 (n := n) s
  obtain ⟨f, rfl⟩ : ∃ f', f = f' + 1 := ⟨f - 1, by omega⟩
  obtain ⟨m, a1, a2⟩ := TA_fact hw h n91 n23 f
  obtain ⟨c1, c2⟩ := qF_G hk hw h51 a1 ho.s n24 hr hK hr2
  have hle := h.2.1.le
  have p1 : s.1 ≤ s1.1 ∧ s1.1 ≤ n ∧ s.1 + l1.length ≤ s1.1 ∧ _ := hr.pos hle.1
  have hlt : s1.1 < n := xK_lt (T := T) (g := s1.2) (by omega)
  have hA := xA_lt (T := T) hlt
  have p2 := hr2.pos (xA_le (T := T) (s := s1) (by omega)).2
  cases r with
  | inl e =>
    obtain ⟨m1, d1, d2⟩ := c1 e rfl
    exact TA_F a2 d1 d2 (by omega) hX
  | inr q =>
    obtain ⟨m1, d1, d2⟩ := c2 q rfl
    have p3 : (xA T n s1).1 ≤ q.1.1 := p2.1
    exact TA_G a2 d1 d2 (by unfold ned at hf ⊢; omega) hX
theorem t_anE {o : Nat} {s : xs} (hx : ¬ xw T n s = 22) : S4s T n b μ0 o s (.inr (s, [])) := by
  intro Post μ C W C' P h hb hP hC h10 hX f u hf hu
  exact hX hx μ f u C' P hP h (by rw [hC]; exact (List.append_nil C).symm) hf hu
theorem KTB_A {μ m : sh_Mem} {f u : Nat} (h1 : F_X12_qGoesOnTest u 1 μ = some (1, m)) : KTB f u μ = F_X12_qTest f 1 1 m := by
  rw [KTB, h1, shb_ap, if_neg (show ¬ (1 : Int32) = 0 by decide)]
theorem t_anX {o : Nat} {s : xs} {e : Nat × Nat} (hw : hB μ0) (hx : xw T n s = 22) (ih : S3s T n b μ0 o (xA T n s) (.inl e)) : S4s T n b μ0 o s (.inl e) := by
  intro Post μ C W C' P h hb hP hC h10 hX f u hf hu
  have h30 := ned_30 (n := n) s
  have hA := ned_A (T := T) (xK_2 (xw_2 (w := 22) hx)).1
  obtain ⟨m, a1, a2⟩ := TB_and hw h hb hP h10 hx (f := u) (by omega)
  rw [KTB_A a1]
  exact ih Post m _ _ a2 (by unfold okT; rw [tp_e]; omega) hX f (by omega)
theorem t_anG {o : Nat} {s s1 : xs} {l1 : List Nat} {r : xp} (hw : hB μ0) (hx : xw T n s = 22) (ih : S3s T n b μ0 o (xA T n s) (.inr (s1, l1))) (ih2 : S4s T n b μ0 o s1 r) : S4s T n b μ0 o s (gA (l1 ++ [20]) r) := by
  intro Post μ C W C' P h hb hP hC h10 hX f u hf hu
  have h30 := ned_30 (n := n) s
  have hA := ned_A (T := T) (xK_2 (xw_2 (w := 22) hx)).1
  obtain ⟨m, a1, a2⟩ := TB_and hw h hb hP h10 hx (f := u) (by omega)
  rw [KTB_A a1]
  rw [hC] at a2
  refine ih Post m _ _ a2 (by unfold okT; rw [tp_e]; omega) ?_ f (by omega)
  intro m1 f1 u1 k κ p1 p2 p3 p4 p5
  obtain ⟨k, rfl⟩ : ∃ k', k = k' + 1 := ⟨k - 1, by omega⟩
  rw [TE_0 p1 (by rw [tp_e]; omega) k, shv_ap, p5 m1 p1.2.1.2.2.1]
  refine ih2 Post m1 _ W _ [10] p1 hb ⟨Nat.le_refl 1, fun y hy => List.mem_singleton.mp hy⟩ rfl h10 ?_ f1 u1 p2 p3
  have := X4_A hX
  rw [List.map_append, ← List.append_assoc] at this
  exact this
theorem t_orE {o : Nat} {s : xs} (hx : ¬ xw T n s = 21) : S5s T n b μ0 o s (.inr (s, [])) := by
  intro Post μ C W C' P h hb hn hP hC h10 h11 hX f u hf hu
  exact hX ⟨hn, hx⟩ μ f u C' P hP h (by rw [hC]; exact (List.append_nil C).symm) hf hu
theorem t_orX {o : Nat} {s : xs} {e : Nat × Nat} (hw : hB μ0) (hx : xw T n s = 21) (ih : S8s T n b μ0 o (xA T n s) (.inl e)) : S5s T n b μ0 o s (.inl e) := by
  intro Post μ C W C' P h hb hn hP hC h10 h11 hX f u hf hu
  have h30 := ned_30 (n := n) s
  have hA := ned_A (T := T) (xK_2 (xw_2 (w := 21) hx)).1
  obtain ⟨m, a1, a2⟩ := TB_or hw h hb hP h10 h11 hx (f := u) (by omega)
  rw [KTB_A a1]
  exact ih Post m _ _ a2 (by unfold okT; rw [tp_e]; omega) (by rw [tp_e]; omega) (by rw [tp_e]; omega) hX f (by omega)
theorem t_orG {o : Nat} {s s1 : xs} {l1 : List Nat} {r : xp} (hw : hB μ0) (hx : xw T n s = 21) (ih : S8s T n b μ0 o (xA T n s) (.inr (s1, l1))) (ih2 : S5s T n b μ0 o s1 r) : S5s T n b μ0 o s (gA (l1 ++ [21]) r) := by
  intro Post μ C W C' P h hb hn hP hC h10 h11 hX f u hf hu
  have h30 := ned_30 (n := n) s
  have hA := ned_A (T := T) (xK_2 (xw_2 (w := 21) hx)).1
  obtain ⟨m, a1, a2⟩ := TB_or hw h hb hP h10 h11 hx (f := u) (by omega)
  rw [KTB_A a1]
  rw [hC] at a2
  refine ih Post m _ _ a2 (by unfold okT; rw [tp_e]; omega) (by rw [tp_e]; omega) (by rw [tp_e]; omega) ?_ f (by omega)
  intro hx1 m1 f1 u1 C1 P1 q1 q2 q3 q4 q5
  rw [List.append_assoc] at q2
  refine ih2 Post m1 (C ++ (l1 ++ [21]).map gm) W C1 ([11] ++ P1) q2 hb hx1 ⟨by rw [List.length_append]; have := q1.1; show 1 + _ ≤ 2; omega, fun y hy => ?_⟩ ?_ h10 h11 (X5_A hX) f1 u1 q4 q5
  · rcases List.mem_append.mp hy with z | z
    · exact Or.inr (List.mem_singleton.mp z)
    · exact Or.inl (q1.2 y z)
  · rw [List.reverse_append, List.reverse_singleton, ← List.append_assoc, q3, List.map_append, ← List.append_assoc]
    rfl
theorem t_p8X {o : Nat} {s : xs} {e : Nat × Nat} (ih : S3s T n b μ0 o s (.inl e)) : S8s T n b μ0 o s (.inl e) := by
  intro Post μ C W h ho h10 h12 hX f hf
  exact ih Post μ C W h ho hX f hf
theorem t_p8G {o : Nat} {s s1 : xs} {l1 : List Nat} {r : xp} (ih : S3s T n b μ0 o s (.inr (s1, l1))) (ih2 : S4s T n b μ0 o s1 r) : S8s T n b μ0 o s (gA l1 r) := by
  intro Post μ C W h ho h10 h12 hX f hf
  refine ih Post μ C W h ho ?_ f hf
  intro m1 f1 u1 k κ p1 p2 p3 p4 p5
  obtain ⟨k, rfl⟩ : ∃ k', k = k' + 1 := ⟨k - 1, by omega⟩
  rw [TE_0 p1 h12 k, shv_ap, p5 m1 p1.2.1.2.2.1]
  exact ih2 Post m1 _ W _ [] (by rw [List.append_nil]; exact p1) h.2.2.2.2.1 ⟨Nat.zero_le 1, fun y hy => (by cases hy)⟩ (List.append_nil _) h10 (X4_A hX) f1 u1 p2 p3
theorem t_p9X {o : Nat} {s : xs} {e : Nat × Nat} (ih : S8s T n b μ0 o s (.inl e)) : S9s T n b μ0 o s (.inl e) := by
  intro Post μ C W h ho h10 h11 h12 hX f hf
  exact ih Post μ C W h ho h10 h12 hX f hf
theorem t_p9G {o : Nat} {s s1 : xs} {l1 : List Nat} {r : xp} (ih : S8s T n b μ0 o s (.inr (s1, l1))) (ih2 : S5s T n b μ0 o s1 r) : S9s T n b μ0 o s (gA l1 r) := by
  intro Post μ C W h ho h10 h11 h12 hX f hf
  refine ih Post μ C W h ho h10 h12 ?_ f hf
  intro hx m1 f1 u1 C1 P1 q1 q2 q3 q4 q5
  exact ih2 Post m1 (C ++ l1.map gm) W C1 P1 q2 h.2.2.2.2.1 hx ⟨by have := q1.1; omega, fun y hy => Or.inl (q1.2 y hy)⟩ q3 h10 h11 (X5_A hX) f1 u1 q4 q5
theorem rf_RT {g o : Nat} {s : xs} {r : xp} (hk : kd < 3) (hw : hB μ0) (h51 : sh_i μ0 291 51 = zI (kM kd)) (h : PT T n kd g o s r) : PT T n kd g o s r ∧ RTs T n b μ0 g o s r := by
  refine h (fun g o s r => PT T n kd g o s r ∧ RTs T n b μ0 g o s r) ⟨
    fun o s p1 p2 => ⟨PT.openX p1 p2, trivial⟩,
    fun o s r p1 p2 p3 => ⟨PT.openG p1 p2 p3.1, trivial⟩,
    fun o s p1 p2 => ⟨PT.num p1 p2, trivial⟩,
    fun o s p1 p2 => ⟨PT.twoN p1 p2, trivial⟩,
    fun o s p1 p2 p3 => ⟨PT.twoX p1 p2 p3, trivial⟩,
    fun o s e p1 p2 p3 p4 => ⟨PT.two1 p1 p2 p3 p4.1, trivial⟩,
    fun o s s1 l1 p1 p2 p3 p4 p5 => ⟨PT.two2 p1 p2 p3 p4.1 p5, trivial⟩,
    fun o s s1 l1 r p1 p2 p3 p4 p5 p6 => ⟨PT.two3 p1 p2 p3 p4.1 p5 p6.1, trivial⟩,
    fun o s p1 p2 p3 => ⟨PT.ofX p1 p2 p3, trivial⟩,
    fun o s r p1 p2 p3 p4 => ⟨PT.ofG p1 p2 p3 p4.1, trivial⟩,
    fun o s p1 p2 => ⟨PT.fact p1 p2, trivial⟩,
    fun o s p1 p2 p3 p4 => ⟨PT.none p1 p2 p3 p4, trivial⟩,
    fun o s p1 => ⟨PT.prE p1, trivial⟩,
    fun o s e p1 p2 => ⟨PT.prX p1 p2.1, trivial⟩,
    fun o s s1 l1 r p1 p2 p3 => ⟨PT.prG p1 p2.1 p3.1, trivial⟩,
    fun o s p1 => ⟨PT.suE p1, trivial⟩,
    fun o s e p1 p2 => ⟨PT.suX p1 p2.1, trivial⟩,
    fun o s s1 l1 r p1 p2 p3 => ⟨PT.suG p1 p2.1 p3.1, trivial⟩,
    fun o s e p1 => ⟨PT.p6X p1.1, trivial⟩,
    fun o s s1 l1 r p1 p2 => ⟨PT.p6G p1.1 p2.1, trivial⟩,
    fun o s e p1 => ⟨PT.p7X p1.1, trivial⟩,
    fun o s s1 l1 r p1 p2 => ⟨PT.p7G p1.1 p2.1, trivial⟩,
    fun o s p1 p2 => ⟨PT.notX p1 p2, t_notX hw p1 p2⟩,
    fun o s r p1 p2 p3 => ⟨PT.notG p1 p2 p3.1, t_notG hw p1 p2 p3.2⟩,
    fun o s p1 p2 => ⟨PT.sqX p1 p2, t_sqX p1 p2⟩,
    fun o s r p1 p2 p3 => ⟨PT.sqG p1 p2 p3.1, t_sqG hw p1 p2 p3.2⟩,
    fun o s p1 => ⟨PT.all p1, t_all hw p1⟩,
    fun o s e p1 p2 p3 p4 => ⟨PT.cmX p1 p2 p3 p4.1, t_cmX hk hw h51 p1 p2 p3 p4.1⟩,
    fun o s s1 l1 p1 p2 p3 p4 p5 => ⟨PT.cmN p1 p2 p3 p4.1 p5, t_cmN hk hw h51 p1 p2 p3 p4.1 p5⟩,
    fun o s s1 l1 r p1 p2 p3 p4 p5 p6 => ⟨PT.cmG p1 p2 p3 p4.1 p5 p6.1, t_cmG hk hw h51 p1 p2 p3 p4.1 p5 p6.1⟩,
    fun o s p1 => ⟨PT.anE p1, t_anE p1⟩,
    fun o s e p1 p2 => ⟨PT.anX p1 p2.1, t_anX hw p1 p2.2⟩,
    fun o s s1 l1 r p1 p2 p3 => ⟨PT.anG p1 p2.1 p3.1, t_anG hw p1 p2.2 p3.2⟩,
    fun o s p1 => ⟨PT.orE p1, t_orE p1⟩,
    fun o s e p1 p2 => ⟨PT.orX p1 p2.1, t_orX hw p1 p2.2⟩,
    fun o s s1 l1 r p1 p2 p3 => ⟨PT.orG p1 p2.1 p3.1, t_orG hw p1 p2.2 p3.2⟩,
    fun o s e p1 => ⟨PT.p8X p1.1, t_p8X p1.2⟩,
    fun o s s1 l1 r p1 p2 => ⟨PT.p8G p1.1 p2.1, t_p8G p1.2 p2.2⟩,
    fun o s e p1 => ⟨PT.p9X p1.1, t_p9X p1.2⟩,
    fun o s s1 l1 r p1 p2 => ⟨PT.p9G p1.1 p2.1, t_p9G p1.2 p2.2⟩⟩
theorem rf_finT {o : Nat} : ∀ (k f : Nat) (P C : List Nat) (m : sh_Mem), P.length = k → k < f → sh_i m 291 5 = 0 → mW m C P o b → P.length + C.length < 1690 → ∃ m', F_X12_qTest f 2 0 m = some m' ∧ sh_fr nWq m m' ∧ mW m' (C ++ P.reverse) [] o b := by
  intro k
  induction k with
  | zero =>
    intro f P C m hk hf h5 h hl
    have : P = [] := List.eq_nil_of_length_eq_zero hk
    subst this
    obtain ⟨f, rfl⟩ : ∃ f', f = f' + 1 := ⟨f - 1, by omega⟩
    refine ⟨m, ?_, sh_fr.rf, by rw [List.reverse_nil, List.append_nil]; exact h⟩
    rw [F_X12_qTest, h5, if_pos rfl, h.2.2.1, if_pos (show zI (([] : List Nat).length : Int) ≤ 0 from zI_yes (b := 0) (by show (0 : Int) ≤ 0; omega) (by show -2147483648 ≤ (0 : Int) ∧ _; omega))]
  | succ k ih =>
    intro f P C m hk hf h5 h hl
    rcases List.eq_nil_or_concat P with rfl | ⟨P', y, rfl⟩
    · cases hk
    rw [List.concat_eq_append] at *
    rw [len1] at hk hl
    obtain ⟨f, rfl⟩ : ∃ f', f = f' + 1 := ⟨f - 1, by omega⟩
    obtain ⟨m1, k1, k2, k3⟩ := rf_qDrops h (by omega) (by omega)
    obtain ⟨m2, r1, r2, r3⟩ := ih f P' (C ++ [y]) m1 (by omega) (by omega) (by rw [k2.i 291 5 (by unfold nWq; omega)]; exact h5) k3 (by rw [len1]; omega)
    refine ⟨m2, ?_, k2.trans r2, by rw [List.reverse_append, List.reverse_singleton, ← List.append_assoc]; exact r3⟩
    rw [F_X12_qTest, h5, if_pos rfl, h.2.2.1, len1, if_neg (show ¬ zI ((P'.length + 1 : Nat) : Int) ≤ 0 from zI_not (a := 0) (by omega) (by omega)), k1, shv_ap]
    exact r1
/-- what a test leaves -/
def rfT (T : Nat → Nat) (n : Nat) (μ0 μ' : sh_Mem) (C W : List Nat) (o b : Nat) : xp → Prop
  | .inl e => mFu μ0 μ' e
  | .inr q => mRd μ0 μ' T n q.1 (C ++ q.2.map gm) W o b
theorem rf_qTest {μ : sh_Mem} {C : List Nat} {o : Nat} {s : xs} {r : xp} (hk : kd < 3) (hw : hB μ0) (h51 : sh_i μ0 291 51 = zI (kM kd)) (h : mRd μ0 μ T n s C [] o b) (hr : PT T n kd 9 o s r) : ∃ μ', f_X12_qTest μ = some μ' ∧ rfT T n μ0 μ' C [] o b r := by
  have hle := h.2.1.le
  have R : S9s T n b μ0 o s r := (rf_RT hk hw h51 hr).2
  have hn : ned n s ≤ sh_fuel := ned_fu h.2.1
  unfold f_X12_qTest
  refine R (fun res => ∃ μ', res = some μ' ∧ rfT T n μ0 μ' C [] o b r) μ C [] h (Or.inl rfl) (by decide) (by decide) (by decide) ?_ sh_fuel hn
  cases r with
  | inl e => exact fun m hm => ⟨m, rfl, hm⟩
  | inr q =>
    intro hx m f u C' P p1 p2 p3 hf1 hu1
    have h30 := ned_30 (n := n) q.1
    rw [List.nil_append] at p2
    obtain ⟨u, rfl⟩ : ∃ u', u = u' + 1 := ⟨u - 1, by omega⟩
    have n25 : ¬ 25 ∈ P := fun z => by have := p1.2 25 z; omega
    obtain ⟨m2, a1, a2, a3⟩ := TB_n hw p2 hx (fun _ => n25) u
    have hle2 := a2.2.1.le
    have hl2 := a2.2.2.2.1
    obtain ⟨f, rfl⟩ : ∃ f', f = f' + 1 := ⟨f - 1, by omega⟩
    obtain ⟨m3, c1, c2, c3⟩ := rf_finT P.length f P C' m2 rfl (by have := p1.1; omega) a2.2.1.2.2.1 a2.2.2.1 (by omega)
    rw [p3] at c3
    refine ⟨m3, ?_, a2.1.trans (c2.mono (fun _ _ z => nZq_W z)), a2.2.1.fW c2, c3, ?_, ?_, fun y hy => (by cases hy), a2.2.2.2.2.2.2⟩
    · rw [KTB, a3, if_neg n25, shb_ap, if_pos rfl, F_X12_qTest, if_pos rfl]
      exact c1
    · have := congrArg List.length p3
      rw [List.length_append, List.length_reverse] at this
      show _ + 0 ≤ _
      omega
    · exact h.2.2.2.2.1
end Gm9
