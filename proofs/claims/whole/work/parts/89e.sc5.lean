/-! THE CLASS: a whole text -/
def feK : xp → Prop
  | .inl e => 1 ≤ e.1 ∧ e.1 < 10
  | .inr _ => True
section Sc5
variable {T : Nat → Nat} {n t : Nat} {μ μ' : sh_Mem} {s s' : xs} {P : sp_T} {L : sl_T}
theorem x_num_e {lo hi : Nat} {e : Nat × Nat} (h : x_num T n lo hi s = .inl e) : 1 ≤ e.1 ∧ e.1 < 10 := by
  unfold x_num at h
  repeat' split at h
  all_goals first | (cases h; exact ⟨by simp, by simp⟩) | cases h
theorem x_word_e {w : Int} {e : Nat × Nat} (h : x_word T n w s = .inl e) : 1 ≤ e.1 ∧ e.1 < 10 := by
  unfold x_word at h
  split at h
  · cases h
  · cases h; exact ⟨by simp, by simp⟩
theorem x_mark_e {c : Int} {e : Nat × Nat} (h : x_mark T n c s = .inl e) : 1 ≤ e.1 ∧ e.1 < 10 := by
  unfold x_mark at h
  split at h
  · cases h
  · cases h; exact ⟨by simp, by simp⟩
theorem feK_A {l : List Nat} {r : xp} (h : feK r) : feK (gA l r) := by
  cases r with
  | inl e => exact h
  | inr q => trivial
theorem feK_B {l : List Nat} {r : xp} (h : feK r) : feK (gB l r) := by
  cases r with
  | inl e => exact h
  | inr q => trivial
theorem feK_M {c : Int} {r : xp} (h : feK r) : feK (gM T n c r) := by
  cases r with
  | inl e => exact h
  | inr q =>
    by_cases z : xK T n q.1.1 q.1.2 = c
    · rw [gM_t z]; trivial
    · rw [gM_f z]; exact ⟨by simp, by simp⟩
theorem feK_N {lo hi : Nat} : feK (gN (x_num T n lo hi s)) := by
  cases h : x_num T n lo hi s with
  | inl e => exact x_num_e h
  | inr q => trivial
theorem PT.fe {kd g o : Nat} {r : xp} (h : PT T n kd g o s r) : feK r := h (fun _ _ _ r => feK r) ⟨fun _ _ _ _ => ⟨by simp, by simp⟩,
    fun _ _ _ _ _ h => feK_M h,
    fun _ _ _ _ => feK_N,
    fun _ _ _ _ => ⟨by simp, by simp⟩,
    fun _ _ _ _ _ => ⟨by simp, by simp⟩,
    fun _ _ _ _ _ _ h => h,
    fun _ _ _ _ _ _ _ _ _ => ⟨by simp, by simp⟩,
    fun _ _ _ _ _ _ _ _ _ _ h => feK_B (feK_M (feK_A h)),
    fun _ _ _ _ _ => ⟨by simp, by simp⟩,
    fun _ _ _ _ _ _ h => feK_B h,
    fun _ _ _ _ => trivial,
    fun _ _ _ _ _ _ => ⟨by simp, by simp⟩,
    fun _ _ _ => trivial,
    fun _ _ _ _ h => h,
    fun _ _ _ _ _ _ _ h => feK_A h,
    fun _ _ _ => trivial,
    fun _ _ _ _ h => h,
    fun _ _ _ _ _ _ _ h => feK_A h,
    fun _ _ _ h => h,
    fun _ _ _ _ _ _ h => feK_A h,
    fun _ _ _ h => h,
    fun _ _ _ _ _ _ h => feK_A h,
    fun _ _ _ _ => ⟨by simp, by simp⟩,
    fun _ _ _ _ _ h => feK_B h,
    fun _ _ _ _ => ⟨by simp, by simp⟩,
    fun _ _ _ _ _ h => feK_M h,
    fun _ _ _ => trivial,
    fun _ _ _ _ _ _ h => h,
    fun _ _ _ _ _ _ _ _ _ => ⟨by simp, by simp⟩,
    fun _ _ _ _ _ _ _ _ _ _ h => feK_A (feK_B h),
    fun _ _ _ => trivial,
    fun _ _ _ _ h => h,
    fun _ _ _ _ _ _ _ h => feK_A h,
    fun _ _ _ => trivial,
    fun _ _ _ _ h => h,
    fun _ _ _ _ _ _ _ h => feK_A h,
    fun _ _ _ h => h,
    fun _ _ _ _ _ _ h => feK_A h,
    fun _ _ _ h => h,
    fun _ _ _ _ _ _ h => feK_A h⟩
/-- of each statement: the place goes on, or there is a fault -/
def sdK (n : Nat) (s : xs) : xd → Prop
  | .inl e => 1 ≤ e.1 ∧ e.1 < 10
  | .inr q => dOK q.2.1 q.2.2 ∧ s.1 < q.1.1 ∧ q.1.1 ≤ n
theorem sdK.b {α : Type} {x : xo α} {f : α → xd} (h1 : ∀ e, x = .inl e → 1 ≤ e.1 ∧ e.1 < 10) (h2 : ∀ a, x = .inr a → sdK n s (f a)) : sdK n s (xb x f) := by
  cases x with
  | inl e => exact h1 e rfl
  | inr a => exact h2 a rfl
theorem K_lt {c : Int} (h : xK T n s.1 s.2 = c) (hc : ¬ c = -1) : s.1 < n := xK_lt (T := T) (g := s.2) (by rw [h]; exact hc)
theorem xw_lt {w : Nat} (h : xw T n s = (w : Int)) : s.1 < n := (xK_2 (xw_2 h)).1
theorem num_lt {lo hi : Nat} {q : Nat × xs} (h : x_num T n lo hi s = .inr q) : s.1 < q.2.1 ∧ q.2.1 ≤ n ∧ q.1 ≤ hi := by
  obtain ⟨h1, h2⟩ := x_num_r h
  have hl := (xK_3 h1).1
  have := xA_lt (T := T) hl
  have := xA_le (T := T) (s := s) (by omega : s.1 ≤ n)
  rw [h2]
  exact ⟨by omega, by omega, x_num_v h⟩
theorem name_lt {q : List Nat × xs} (h : x_name T n s = .inr q) : s.1 < q.2.1 ∧ q.2.1 ≤ n := by
  obtain ⟨h1, h2, -⟩ := x_name_r h
  have hl := (xK_2 h1).1
  have := xA_lt (T := T) hl
  have := xA_le (T := T) (s := s) (by omega : s.1 ≤ n)
  rw [h2]
  exact ⟨by omega, by omega⟩
theorem word_lt {w : Nat} {q : xs} (h : x_word T n (w : Int) s = .inr q) : s.1 < q.1 ∧ q.1 ≤ n := by
  obtain ⟨h1, h2⟩ := x_word_r h
  have hl := xw_lt h1
  have := xA_lt (T := T) hl
  have := xA_le (T := T) (s := s) (by omega : s.1 ≤ n)
  rw [h2]
  exact ⟨by omega, by omega⟩
theorem dOK.r (h : dOK P L) : 3 ≤ sp_c P ∧ sp_c P ≤ 7 ∧ 3 ≤ sp_r P ∧ sp_r P ≤ 7 := by
  have h2 := h.2.1
  rcases h.1.1 with z | z
  · omega
  · exact z
theorem dOK.h {x y v : Nat} (h : dOK P L) (hv : v ≤ 99) : dOK P (dl_h L (y * sp_c P + x) v) := by
  obtain ⟨h1, h2, ⟨h3, h4, h5⟩, h6⟩ := h
  refine ⟨h1, h2, ⟨h3, fun j hj => ?_, h5⟩, h6⟩
  show (if j = y * sp_c P + x then v else sl_h L j) ≤ 99
  split
  · exact hv
  · exact h4 j hj
theorem dOK.tn {w : List Nat} (h : dOK P L) (hw : sn_ok w) (h5 : ¬ 5 ≤ sp_nt P) : dOK (dp_t P w) L := by
  have hrr := h.r
  obtain ⟨⟨a1, a2, a3, a4, a5, a6, a7, a8, a9, a10, a11, a12⟩, h2, ⟨h3, h4, h5'⟩, h6⟩ := h
  have hl : sp_nt (dp_t P w) = sp_nt P + 1 := ln1
  refine ⟨⟨Or.inr hrr, by rw [hl]; omega, a3, a4, fun q hq => ⟨(a5 q hq).1, by rw [hl]; have := (a5 q hq).2; omega⟩, a6, fun v hv => ?_, a8, a9, a10, a11, a12⟩, h2, ⟨h3, h4, fun p hp => ?_⟩, h6⟩
  · rcases List.mem_append.mp (show v ∈ sp_tn P ++ [w] from hv) with z | z
    · exact a7 v z
    · rw [List.mem_singleton.mp z]; exact hw
  · obtain ⟨b1, b2, b3, b4⟩ := h5' p hp
    refine ⟨b1, b2, b3, ?_⟩
    rw [hl, Nat.pow_succ]
    omega
theorem dOK.p {w : List Nat} {x y v : Nat} (h : dOK P L) (hw : sn_ok w) (h7 : ¬ 7 ≤ sp_np P) (hx : x < sp_c P) (hy : y < sp_r P) (hv : v ≤ 9) : dOK (dp_p P w) (dl_p L (sp_np P) x y v) := by
  have hrr := h.r
  obtain ⟨⟨a1, a2, a3, a4, a5, a6, a7, a8, a9, a10, a11, a12⟩, h2, ⟨h3, h4, h5'⟩, h6⟩ := h
  have hl : sp_np (dp_p P w) = sp_np P + 1 := ln1
  refine ⟨⟨Or.inr hrr, a2, by rw [hl]; omega, a4, fun q hq => ⟨by rw [hl]; have := (a5 q hq).1; omega, (a5 q hq).2⟩, a6, a7, fun v hv => ?_, a9, a10, a11, a12⟩, h2, ⟨h3, h4, fun p hp => ?_⟩, h6⟩
  · rcases List.mem_append.mp (show v ∈ sp_pn P ++ [w] from hv) with z | z
    · exact a8 v z
    · rw [List.mem_singleton.mp z]; exact hw
  · rw [hl] at hp
    show (if p = sp_np P then x else sl_x L p) < sp_c P ∧ (if p = sp_np P then y else sl_y L p) < sp_r P ∧ (if p = sp_np P then v else sl_t L p) ≤ 9 ∧ (if p = sp_np P then 0 else sl_k L p) < 2 ^ sp_nt P
    by_cases z : p = sp_np P
    · rw [if_pos z, if_pos z, if_pos z, if_pos z]
      exact ⟨hx, hy, hv, Nat.two_pow_pos _⟩
    · rw [if_neg z, if_neg z, if_neg z, if_neg z]
      exact h5' p (by omega)
theorem dOK.k {p q : Nat} (h : dOK P L) (hq : q < sp_nt P) : dOK P (dl_k L p q) := by
  obtain ⟨h1, h2, ⟨h3, h4, h5⟩, h6⟩ := h
  refine ⟨h1, h2, ⟨h3, h4, fun p' hp => ?_⟩, h6⟩
  obtain ⟨b1, b2, b3, b4⟩ := h5 p' hp
  refine ⟨b1, b2, b3, ?_⟩
  show (if p' = p then sl_k L p ||| 2 ^ q else sl_k L p') < 2 ^ sp_nt P
  by_cases z : p' = p
  · rw [if_pos z, ← z]
    exact Nat.or_lt_two_pow b4 (Nat.pow_lt_pow_right (by omega) hq)
  · rw [if_neg z]
    exact b4
theorem dOK.l {p q : Nat} (h : dOK P L) (hp : p < sp_np P) (hq : q < sp_nt P) (h12 : ¬ 12 ≤ (sp_li P).length) : dOK (dp_l P p q) L := by
  have hrr := h.r
  obtain ⟨⟨a1, a2, a3, a4, a5, a6, a7, a8, a9, a10, a11, a12⟩, h2, h3, h6⟩ := h
  refine ⟨⟨Or.inr hrr, a2, a3, ?_, fun v hv => ?_, a6, a7, a8, a9, a10, a11, a12⟩, h2, h3, h6⟩
  · show (sp_li P ++ [(p, q)]).length ≤ 12
    rw [ln1]
    omega
  · rcases List.mem_append.mp (show v ∈ sp_li P ++ [(p, q)] from hv) with z | z
    · exact a5 v z
    · rw [List.mem_singleton.mp z]; exact ⟨hp, hq⟩
theorem dOK.c {v : Nat} (h : dOK P L) (hv : v ≤ 100) : dOK (dp_c P v) L := by
  obtain ⟨⟨a1, a2, a3, a4, a5, a6, a7, a8, a9, a10, a11, a12⟩, h2, h3, h6⟩ := h
  exact ⟨⟨a1, a2, a3, a4, a5, hv, a7, a8, a9, a10, a11, a12⟩, h2, h3, h6⟩
theorem dOK.f0 {l : List Nat} (h : dOK P L) (hl : l.length ≤ 1600) (hg : sg_ok 0 false l []) : dOK (dp_0 P l) L := by
  obtain ⟨⟨a1, a2, a3, a4, a5, a6, a7, a8, a9, a10, a11, a12⟩, h2, h3, h6⟩ := h
  refine ⟨⟨a1, a2, a3, a4, a5, a6, a7, a8, hl, a10, a11, fun hc => ?_⟩, h2, h3, h6⟩
  obtain ⟨b1, b2, b3, b4, b5, b6⟩ := a12 hc
  exact ⟨hg, b2, fun z => (by cases z), b4, b5, b6⟩
theorem dOK.f1 {l : List Nat} (h : dOK P L) (hl : l.length ≤ 1600) (hg : sg_ok 1 false l []) : dOK (dp_1 P l) L := by
  obtain ⟨⟨a1, a2, a3, a4, a5, a6, a7, a8, a9, a10, a11, a12⟩, h2, h3, h6⟩ := h
  refine ⟨⟨a1, a2, a3, a4, a5, a6, a7, a8, a9, hl, a11, fun hc => ?_⟩, h2, h3, h6⟩
  obtain ⟨b1, b2, b3, b4, b5, b6⟩ := a12 hc
  exact ⟨b1, hg, b3, fun z => (by cases z), b5, b6⟩
theorem dOK.f2 {l : List Nat} (h : dOK P L) (hl : l.length ≤ 1600) (hg : sg_ok 1 true l []) : dOK (dp_2 P l) L := by
  obtain ⟨⟨a1, a2, a3, a4, a5, a6, a7, a8, a9, a10, a11, a12⟩, h2, h3, h6⟩ := h
  refine ⟨⟨a1, a2, a3, a4, a5, a6, a7, a8, a9, a10, hl, fun hc => ?_⟩, h2, h3, h6⟩
  obtain ⟨b1, b2, b3, b4, b5, b6⟩ := a12 hc
  exact ⟨b1, b2, b3, b4, fun z => (by cases z), fun _ => hg⟩
theorem sd_two {F : Nat → Nat → xs → xs → xd} (hd : dOK P L) (hs : s.1 < n) (h : ∀ p q s2 s3, p < sp_np P → q < sp_nt P → s.1 < s3.1 → s3.1 ≤ n → sdK n s (F p q s2 s3)) : sdK n s (st_two T n P s F) := by
  have hA := xA_lt (T := T) hs
  unfold st_two
  refine sdK.b (fun e he => x_name_e he) (fun a ha => ?_)
  have l1 := name_lt ha
  by_cases c : wIx a.1 (sp_pn P) 0 = -1
  · rw [if_pos c]; exact ⟨by simp, by simp⟩
  rw [if_neg c]
  obtain ⟨p, p1, p2⟩ := wIx_l _ _ _ c
  refine sdK.b (fun e he => x_word_e he) (fun s2 hs2 => ?_)
  have l2 := word_lt (w := 8) hs2
  refine sdK.b (fun e he => x_name_e he) (fun b hb => ?_)
  have l3 := name_lt hb
  by_cases c2 : wIx b.1 (sp_tn P) 0 = -1
  · rw [if_pos c2]; exact ⟨by simp, by simp⟩
  rw [if_neg c2]
  obtain ⟨q, q1, q2⟩ := wIx_l _ _ _ c2
  exact h _ _ _ _ (show (wIx a.1 (sp_pn P) 0).toNat < (sp_pn P).length by rw [p1]; omega) (show (wIx b.1 (sp_tn P) 0).toNat < (sp_tn P).length by rw [q1]; omega) (by omega) (by omega)
theorem SRt.ok {r : xd} (h : SRt T n s P L r) (hd : dOK P L) (hs : s.1 ≤ n) (hn : n ≤ 1600) : sdK n s r := by
  have hrr := hd.r
  have K5 : sdK n s (.inl (5, s.1)) := ⟨by simp, by simp⟩
  have lt : ∀ w : Nat, xw T n s = (w : Int) → s.1 < n ∧ s.1 < (xA T n s).1 := fun w hw => ⟨xw_lt hw, xA_lt (T := T) (xw_lt hw)⟩
  have fo : ∀ (kd g : Nat) (G : List Nat → sp_T) (q : xp), s.1 < (xA T n s).1 → (xA T n s).1 ≤ n → PT T n kd g 0 (xA T n s) q → (g = 7 ∨ g = 9) → (∀ s' l, q = .inr (s', l) → l.length ≤ 1600 → dOK (G l) L) → sdK n s (st_f G L q) := fun kd g G q h1 h2 hq hg hG => by
    refine sdK.b (fun e he => ?_) (fun a ha => ?_)
    · have := hq.fe
      rw [he] at this
      exact this
    · have hp := hq.pos h2
      rw [ha] at hp
      obtain ⟨p1, p2, p3, p4⟩ := hp
      exact ⟨hG a.1 a.2 ha (by omega), by show s.1 < a.1.1; omega, p2⟩
  unfold SRt at h
  split at h
  · rename_i c
    obtain ⟨l0, l1⟩ := lt 2 c
    rw [h]
    unfold st_high
    refine sdK.b (fun e he => x_num_e he) (fun a ha => sdK.b (fun e he => x_num_e he) (fun b hb => sdK.b (fun e he => x_num_e he) (fun v hv => ?_)))
    have := num_lt ha
    have := num_lt hb
    have := num_lt hv
    exact ⟨hd.h (by omega), by show s.1 < v.2.1; omega, by show v.2.1 ≤ n; omega⟩
  split at h
  · rename_i c
    obtain ⟨l0, l1⟩ := lt 3 c
    rw [h]
    split
    · exact K5
    · rename_i c5
      unfold st_topic
      refine sdK.b (fun e he => x_name_e he) (fun a ha => ?_)
      have := name_lt ha
      split
      · exact ⟨hd.tn (x_name_r ha).2.2 c5, by show s.1 < a.2.1; omega, by show a.2.1 ≤ n; omega⟩
      · exact ⟨by simp, by simp⟩
  split at h
  · rename_i c
    obtain ⟨l0, l1⟩ := lt 4 c
    rw [h]
    split
    · exact K5
    · rename_i c7
      unfold st_person
      refine sdK.b (fun e he => x_name_e he) (fun a ha => ?_)
      have := name_lt ha
      split
      · refine sdK.b (fun e he => x_word_e he) (fun s2 hs2 => sdK.b (fun e he => x_num_e he) (fun x hx => sdK.b (fun e he => x_num_e he) (fun y hy => ?_)))
        have := word_lt (w := 5) hs2
        have := num_lt hx
        have := num_lt hy
        split
        · refine sdK.b (fun e he => x_word_e he) (fun s5 hs5 => sdK.b (fun e he => x_num_e he) (fun v hv => ?_))
          have := word_lt (w := 6) hs5
          have := num_lt hv
          exact ⟨hd.p (x_name_r ha).2.2 c7 (by omega) (by omega) (by omega), by show s.1 < v.2.1; omega, by show v.2.1 ≤ n; omega⟩
        · exact ⟨by simp, by simp⟩
      · exact ⟨by simp, by simp⟩
  split at h
  · rename_i c
    obtain ⟨l0, l1⟩ := lt 7 c
    rw [h]
    refine sd_two hd l0 (fun p q s2 s3 hp hq h1 h2 => ?_)
    show sdK n s (if _ then _ else _)
    split
    · exact ⟨by simp, by simp⟩
    · exact ⟨hd.k hq, h1, h2⟩
  split at h
  · rename_i c
    obtain ⟨l0, l1⟩ := lt 9 c
    rw [h]
    split
    · exact K5
    · rename_i c12
      exact sd_two hd l0 (fun p q s2 s3 hp hq h1 h2 => ⟨hd.l hp hq c12, h1, h2⟩)
  have l2 := xA_le (T := T) hs
  split at h
  · rename_i c
    obtain ⟨l0, l1⟩ := lt 10 c
    split at h
    · rw [h]; exact K5
    · obtain ⟨q, q1, q2⟩ := h
      rw [q2]
      exact fo 0 7 _ q l1 l2.2 q1 (by omega) (fun s' l hq hl => hd.f0 hl (by rw [hq] at q1; exact q1.ok7))
  split at h
  · rename_i c
    obtain ⟨l0, l1⟩ := lt 11 c
    split at h
    · rw [h]; exact K5
    · obtain ⟨q, q1, q2⟩ := h
      rw [q2]
      exact fo 1 7 _ q l1 l2.2 q1 (by omega) (fun s' l hq hl => hd.f1 hl (by rw [hq] at q1; exact q1.ok7))
  split at h
  · rename_i c
    obtain ⟨l0, l1⟩ := lt 12 c
    split at h
    · rw [h]; exact K5
    · obtain ⟨q, q1, q2⟩ := h
      rw [q2]
      exact fo 1 9 _ q l1 l2.2 q1 (by omega) (fun s' l hq hl => hd.f2 hl (by rw [hq] at q1; exact q1.ok9))
  split at h
  · rename_i c
    obtain ⟨l0, l1⟩ := lt 13 c
    rw [h]
    unfold st_crowd
    refine sdK.b (fun e he => x_num_e he) (fun a ha => ?_)
    have := num_lt ha
    exact ⟨hd.c (by omega), by show s.1 < a.2.1; omega, by show a.2.1 ≤ n; omega⟩
  · rw [h]
    exact ⟨by simp, by simp⟩
/-- what a whole text leaves -/
def cOT (μ : sh_Mem) (T : Nat → Nat) (n t : Nat) : xo (Nat × dT) → Prop
  | .inl e => sh_i μ 2 10 = zI e.1 ∧ sh_i μ 2 11 = zI e.2 ∧ fO μ ∧ 1 ≤ e.1 ∧ e.1 < 10
  | .inr q => cDr μ t q.2.1 q.2.2 ∧ dOK q.2.1 q.2.2 ∧ q.1 ≤ 80 ∧ sh_i μ 2 10 = 0 ∧ fO μ ∧ sh_r μ 7 2 = some t
def vT : xo (Nat × dT) → Int
  | .inl _ => -1
  | .inr q => q.1
theorem cl_loop : ∀ (k f : Nat) (s : xs) (P : sp_T) (L : sl_T) (μ : sh_Mem), k ≤ 79 → k < f → cD μ T n t s P L → dOK P L → ∃ (r : xo (Nat × dT)) (v : Int32) (μ' : sh_Mem), LRt T n k s P L r ∧ F_X6_read f 1 (zI ((80 - k : Nat) : Int)) μ = some (v, μ') ∧ (r.isRight = true → v = zI (vT r)) ∧ cFr t μ μ' ∧ cOT μ' T n t r := by
  intro k
  induction k with
  | zero =>
    intro f s P L μ hk hf h hd
    obtain ⟨f, rfl⟩ : ∃ f', f = f' + 1 := ⟨f - 1, by omega⟩
    obtain ⟨-, -, w3, w4⟩ := cl_kw h.1
    have y80 : (80 : Int32) ≤ zI ((80 - 0 : Nat) : Int) := by decide
    by_cases c : xK T n s.1 s.2 = -1
    · refine ⟨.inr (80, P, L), zI ((80 - 0 : Nat) : Int), μ, by unfold LRt; rw [if_pos c], ?_, fun _ => rfl, cFr.rf, h.2.1, hd, Nat.le_refl _, h.1.2.2.2, h.2.2.2.2, h.2.2.1⟩
      rw [F_X6_read, if_pos y80, if_pos (w4.mpr c)]
    · obtain ⟨m, f1, f2, f3⟩ := h.fails (k := 5) (p := s.1)
      refine ⟨.inl (5, s.1), zI ((80 - 0 : Nat) : Int), m, by unfold LRt; rw [if_neg c], ?_, fun z => (by cases z), f2, f3.1, f3.2.1, f3.2.2, by simp, by simp⟩
      rw [F_X6_read, if_pos y80, if_neg (fun z => c (w4.mp z)), w3, show f_X8_fails 5 (zI (s.1 : Int)) μ = some (0, m) from f1, shb_ap]
  | succ k ih =>
    intro f s P L μ hk hf h hd
    obtain ⟨f, rfl⟩ : ∃ f', f = f' + 1 := ⟨f - 1, by omega⟩
    obtain ⟨-, -, w3, w4⟩ := cl_kw h.1
    have n80 : ¬ (80 : Int32) ≤ zI ((80 - (k + 1) : Nat) : Int) := zI_not (b := 80) (by omega) (by omega)
    by_cases c : xK T n s.1 s.2 = -1
    · refine ⟨.inr (80 - (k + 1), P, L), zI ((80 - (k + 1) : Nat) : Int), μ, by unfold LRt; rw [if_pos c], ?_, fun _ => rfl, cFr.rf, h.2.1, hd, Nat.sub_le _ _, h.1.2.2.2, h.2.2.2.2, h.2.2.1⟩
      rw [F_X6_read, if_neg n80, if_pos (w4.mpr c), if_pos (w4.mpr c)]
    have hs := h.1.2.2.1
    have hn := h.1.1.1
    obtain ⟨r1, q1, m1, a1, a2, a3⟩ := cl_stmt h hd
    have hok := q1.ok hd hs hn
    have hnc : ¬ sh_i μ 2 3 = -1 := fun z => c (w4.mp z)
    cases r1 with
    | inl e =>
      refine ⟨.inl e, -1, m1, by unfold LRt; rw [if_neg c]; exact ⟨.inl e, q1, rfl⟩, ?_, fun z => (by cases z), a2, a3.1, a3.2.1, a3.2.2, hok.1, hok.2⟩
      rw [F_X6_read, if_neg n80, if_neg hnc, show f_X6_readStatement μ = some (0, m1) from a1, shb_ap, if_pos rfl]
    | inr q =>
      obtain ⟨hd1, -, -⟩ := hok
      have h1 : cD m1 T n t q.1 q.2.1 q.2.2 := a3
      have st : F_X6_read (f + 1) 1 (zI ((80 - (k + 1) : Nat) : Int)) μ = sh_bind (f_X8_takesMark 59 m1) (fun y44 μ42 => (if y44 = 0 then some ((-1), μ42) else F_X6_read f 1 (zI ((80 - (k + 1) : Nat) : Int) + 1) μ42)) := by
        rw [F_X6_read, if_neg n80, if_neg hnc, show f_X6_readStatement μ = some (1, m1) from a1, shb_ap, if_neg (show ¬ (1 : Int32) = 0 by decide)]
      rcases h1.mark (c := 59) (by omega) with ⟨e, m2, u1, u2, u3, u4⟩ | ⟨s2, m2, u1, u2, u3, u4⟩
      · refine ⟨.inl e, -1, m2, by unfold LRt; rw [if_neg c]; exact ⟨.inr q, q1, by show (match x_mark T n 59 q.1 with | .inl e => _ | .inr s2 => _); rw [u1]⟩, ?_, fun z => (by cases z), a2.trans u3, u4.1, u4.2.1, u4.2.2, (x_mark_e u1).1, (x_mark_e u1).2⟩
        rw [st, show f_X8_takesMark 59 m1 = some (0, m2) from u2, shb_ap, if_pos rfl]
      · obtain ⟨r, v, m3, p1, p2, p3, p4, p5⟩ := ih f s2 q.2.1 q.2.2 m2 (by omega) (by omega) u4 hd1
        refine ⟨r, v, m3, by unfold LRt; rw [if_neg c]; exact ⟨.inr q, q1, by show (match x_mark T n 59 q.1 with | .inl e => _ | .inr s2 => _); rw [u1]; exact p1⟩, ?_, p3, a2.trans (u3.trans p4), p5⟩
        rw [st, show f_X8_takesMark 59 m1 = some (1, m2) from u2, shb_ap, if_neg (show ¬ (1 : Int32) = 0 by decide), zI_s1, show 80 - (k + 1) + 1 = 80 - k by omega]
        exact p2
end Sc5
