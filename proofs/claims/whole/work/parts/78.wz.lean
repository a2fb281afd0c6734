/-! ways: the costs, as both sides work them out -/
def wgt (h : Nat → Nat) (k j : Nat) : Nat := 1 + (if h j ≤ h k then h k - h j else h j - h k)
def rl (P : sp_T) (h : Nat → Nat) (k d : Nat) (s : (Nat → Nat) × Bool) : (Nat → Nat) × Bool := match nb P k d with
  | none => s
  | some j => if s.1 j + wgt h k j < s.1 k then (hu s.1 k (s.1 j + wgt h k j), true) else s
def rlg (P : sp_T) (h : Nat → Nat) (k : Nat) : Nat → Nat → (Nat → Nat) × Bool → (Nat → Nat) × Bool
  | 0, _, s => s
  | g + 1, d, s => rlg P h k g (d + 1) (rl P h k d s)
def swp (P : sp_T) (h : Nat → Nat) : Nat → Nat → (Nat → Nat) × Bool → (Nat → Nat) × Bool
  | 0, _, s => s
  | g + 1, k, s => swp P h g (k + 1) (rlg P h k 4 0 s)
section Wz
variable {P : sp_T} {h : Nat → Nat} {k d : Nat} {s : (Nat → Nat) × Bool}
theorem rl_cases : (rl P h k d s = s ∧ ∀ j, nb P k d = some j → ¬ s.1 j + wgt h k j < s.1 k) ∨ ∃ j, nb P k d = some j ∧ s.1 j + wgt h k j < s.1 k ∧ rl P h k d s = (hu s.1 k (s.1 j + wgt h k j), true) := by
  unfold rl
  cases e : nb P k d with
  | none => exact Or.inl ⟨rfl, fun j z => by cases z⟩
  | some j =>
    by_cases c : s.1 j + wgt h k j < s.1 k
    · exact Or.inr ⟨j, rfl, c, if_pos c⟩
    · refine Or.inl ⟨if_neg c, fun j' z => ?_⟩
      cases z
      exact c
theorem rl_le (i : Nat) : (rl P h k d s).1 i ≤ s.1 i := by
  rcases rl_cases (P := P) (h := h) (k := k) (d := d) (s := s) with ⟨q, -⟩ | ⟨j, -, q1, q2⟩
  · rw [q]; exact Nat.le_refl _
  · rw [q2]
    show hu s.1 k _ i ≤ s.1 i
    unfold hu
    split
    · rename_i z; rw [z]; omega
    · exact Nat.le_refl _
theorem rlg_le (i : Nat) : ∀ (g d : Nat) (s : (Nat → Nat) × Bool), (rlg P h k g d s).1 i ≤ s.1 i
  | 0, _, _ => Nat.le_refl _
  | g + 1, d, s => Nat.le_trans (rlg_le i g (d + 1) _) (rl_le i)
theorem swp_le (i : Nat) : ∀ (g k : Nat) (s : (Nat → Nat) × Bool), (swp P h g k s).1 i ≤ s.1 i
  | 0, _, _ => Nat.le_refl _
  | g + 1, k, s => Nat.le_trans (swp_le i g (k + 1) _) (rlg_le i 4 0 s)
/-- not improved: nothing has changed, and nothing could -/
theorem rl_f (hf : (rl P h k d s).2 = false) : rl P h k d s = s ∧ ∀ j, nb P k d = some j → ¬ s.1 j + wgt h k j < s.1 k := by
  rcases rl_cases (P := P) (h := h) (k := k) (d := d) (s := s) with q | ⟨j, -, q1, q2⟩
  · exact q
  · rw [q2] at hf; cases hf
theorem rl_t (ht : s.2 = true) : (rl P h k d s).2 = true := by
  rcases rl_cases (P := P) (h := h) (k := k) (d := d) (s := s) with ⟨q, -⟩ | ⟨j, -, q1, q2⟩
  · rw [q]; exact ht
  · rw [q2]
theorem rlg_t : ∀ (g d : Nat) (s : (Nat → Nat) × Bool), s.2 = true → (rlg P h k g d s).2 = true
  | 0, _, _, ht => ht
  | g + 1, d, s, ht => rlg_t g (d + 1) _ (rl_t ht)
theorem swp_t : ∀ (g k : Nat) (s : (Nat → Nat) × Bool), s.2 = true → (swp P h g k s).2 = true
  | 0, _, _, ht => ht
  | g + 1, k, s, ht => swp_t g (k + 1) _ (rlg_t 4 0 s ht)
theorem rlg_f : ∀ (g d : Nat) (s : (Nat → Nat) × Bool), (rlg P h k g d s).2 = false → rlg P h k g d s = s ∧ ∀ d', d ≤ d' → d' < d + g → ∀ j, nb P k d' = some j → ¬ s.1 j + wgt h k j < s.1 k
  | 0, d, s, _ => ⟨rfl, fun d' h1 h2 => by omega⟩
  | g + 1, d, s, hf => by
    rw [rlg] at hf
    have h1 : (rl P h k d s).2 = false := by
      cases e : (rl P h k d s).2 with
      | false => rfl
      | true => rw [rlg_t g (d + 1) _ e] at hf; cases hf
    obtain ⟨a1, a2⟩ := rl_f h1
    rw [a1] at hf
    obtain ⟨b1, b2⟩ := rlg_f g (d + 1) s hf
    refine ⟨by rw [rlg, a1, b1], fun d' h1 h2 => ?_⟩
    by_cases z : d' = d
    · subst z; exact a2
    · exact b2 d' (by omega) (by omega)
theorem swp_f : ∀ (g k : Nat) (s : (Nat → Nat) × Bool), (swp P h g k s).2 = false → swp P h g k s = s ∧ ∀ k', k ≤ k' → k' < k + g → ∀ d, d < 4 → ∀ j, nb P k' d = some j → ¬ s.1 j + wgt h k' j < s.1 k'
  | 0, k, s, _ => ⟨rfl, fun k' h1 h2 => by omega⟩
  | g + 1, k, s, hf => by
    rw [swp] at hf
    have h1 : (rlg P h k 4 0 s).2 = false := by
      cases e : (rlg P h k 4 0 s).2 with
      | false => rfl
      | true => rw [swp_t g (k + 1) _ e] at hf; cases hf
    obtain ⟨a1, a2⟩ := rlg_f 4 0 s h1
    rw [a1] at hf
    obtain ⟨b1, b2⟩ := swp_f g (k + 1) s hf
    refine ⟨by rw [swp, a1, b1], fun k' h1 h2 => ?_⟩
    by_cases z : k' = k
    · subst z
      exact fun d hd => a2 d (by omega) (by omega)
    · exact b2 k' (by omega) (by omega)
/-- a cell that can't be made cheaper -/
theorem rlg_no : ∀ (g d : Nat) (s : (Nat → Nat) × Bool), (∀ d', d ≤ d' → d' < d + g → ∀ j, nb P k d' = some j → ¬ s.1 j + wgt h k j < s.1 k) → rlg P h k g d s = s
  | 0, _, _, _ => rfl
  | g + 1, d, s, q => by
    have e : rl P h k d s = s := by
      rcases rl_cases (P := P) (h := h) (k := k) (d := d) (s := s) with ⟨z, -⟩ | ⟨j, z1, z2, -⟩
      · exact z
      · exact absurd z2 (q d (by omega) (by omega) j z1)
    rw [rlg, e]
    exact rlg_no g (d + 1) s (fun d' h1 h2 => q d' (by omega) (by omega))
theorem swp_no : ∀ (g k : Nat) (s : (Nat → Nat) × Bool), (∀ k', k ≤ k' → k' < k + g → ∀ d, d < 4 → ∀ j, nb P k' d = some j → ¬ s.1 j + wgt h k' j < s.1 k') → swp P h g k s = s
  | 0, _, _, _ => rfl
  | g + 1, k, s, q => by
    rw [swp, rlg_no 4 0 s (fun d' h1 h2 => q k (by omega) (by omega) d' (by omega))]
    exact swp_no g (k + 1) s (fun k' h1 h2 => q k' (by omega) (by omega))
/-- improved: something is less -/
theorem rl_lt (hs : s.2 = false) (ht : (rl P h k d s).2 = true) : (rl P h k d s).1 k < s.1 k := by
  rcases rl_cases (P := P) (h := h) (k := k) (d := d) (s := s) with ⟨q, -⟩ | ⟨j, -, q1, q2⟩
  · rw [q, hs] at ht; cases ht
  · rw [q2]
    show hu s.1 k _ k < s.1 k
    rw [hu_s]
    exact q1
theorem rlg_lt : ∀ (g d : Nat) (s : (Nat → Nat) × Bool), s.2 = false → (rlg P h k g d s).2 = true → (rlg P h k g d s).1 k < s.1 k
  | 0, _, s, hs, ht => by rw [rlg, hs] at ht; cases ht
  | g + 1, d, s, hs, ht => by
    rw [rlg] at ht ⊢
    cases e : (rl P h k d s).2 with
    | true => exact Nat.lt_of_le_of_lt (rlg_le k g (d + 1) _) (rl_lt hs e)
    | false => exact Nat.lt_of_lt_of_le (rlg_lt g (d + 1) _ e ht) (rl_le k)
theorem swp_lt : ∀ (g k : Nat) (s : (Nat → Nat) × Bool), s.2 = false → (swp P h g k s).2 = true → ∃ i, k ≤ i ∧ i < k + g ∧ (swp P h g k s).1 i < s.1 i
  | 0, _, s, hs, ht => by rw [swp, hs] at ht; cases ht
  | g + 1, k, s, hs, ht => by
    rw [swp] at ht ⊢
    cases e : (rlg P h k 4 0 s).2 with
    | true => exact ⟨k, by omega, by omega, Nat.lt_of_le_of_lt (swp_le k g (k + 1) _) (rlg_lt 4 0 s hs e)⟩
    | false =>
      obtain ⟨i, h1, h2, h3⟩ := swp_lt g (k + 1) _ e ht
      exact ⟨i, by omega, by omega, Nat.lt_of_lt_of_le h3 (rlg_le i 4 0 s)⟩
/-- behind a round each cell is at most a step from where its neighbours stood -/
theorem rlg_st {j : Nat} : ∀ (g d0 : Nat) (s : (Nat → Nat) × Bool), ∀ d', d0 ≤ d' → d' < d0 + g → nb P k d' = some j → (rlg P h k g d0 s).1 k ≤ s.1 j + wgt h k j
  | 0, d0, s, d', h1, h2, _ => by omega
  | g + 1, d0, s, d', h1, h2, e => by
    rw [rlg]
    by_cases z : d' = d0
    · subst z
      refine Nat.le_trans (rlg_le k g (d' + 1) _) ?_
      rcases rl_cases (P := P) (h := h) (k := k) (d := d') (s := s) with ⟨q1, q2⟩ | ⟨j', q0, q1, q2⟩
      · rw [q1]
        have := q2 j e
        omega
      · rw [q2]
        rw [e] at q0
        cases q0
        show hu s.1 k _ k ≤ _
        rw [hu_s]
        exact Nat.le_refl _
    · refine Nat.le_trans (rlg_st g (d0 + 1) _ d' (by omega) (by omega) e) ?_
      have := rl_le (P := P) (h := h) (k := k) (d := d0) (s := s) j
      omega
theorem swp_st {j d' : Nat} (hd : d' < 4) : ∀ (g k0 k' : Nat) (s : (Nat → Nat) × Bool), k0 ≤ k' → k' < k0 + g → nb P k' d' = some j → (swp P h g k0 s).1 k' ≤ s.1 j + wgt h k' j
  | 0, k0, k', s, h1, h2, _ => by omega
  | g + 1, k0, k', s, h1, h2, e => by
    rw [swp]
    by_cases z : k' = k0
    · subst z
      exact Nat.le_trans (swp_le k' g (k' + 1) _) (rlg_st 4 0 s d' (by omega) (by omega) e)
    · refine Nat.le_trans (swp_st hd g (k0 + 1) k' _ (by omega) (by omega) e) ?_
      have := rlg_le (P := P) (h := h) (k := k0) j 4 0 s
      omega
/-- what a cost came from -/
def prd (P : sp_T) (h : Nat → Nat) (n fr : Nat) (C : Nat → Nat) : Prop := C fr = 0 ∧ ∀ k, k < n → C k < 1000000 → k = fr ∨ ∃ d j, d < 4 ∧ nb P k d = some j ∧ j < n ∧ C j + wgt h k j ≤ C k
theorem nb_ne (hk : sp_ok P) (h1 : k < sp_c P * sp_r P) {j : Nat} (e : nb P k d = some j) : ¬ j = k := by
  obtain ⟨d1, d2, d3⟩ := sp_div h1
  have hpos : 0 < sp_c P := by omega
  unfold nb at e
  intro z
  subst z
  generalize hx : j % sp_c P = x at *
  generalize hy : j / sp_c P = y at *
  split at e
  · split at e
    · have := sp_inj (P := P) (x := x) (y := y - 1) (x' := x) (y' := y) d1 d1 (by rw [d3]; exact Option.some.inj e)
      omega
    · cases e
  · split at e
    · split at e
      · have := sp_inj (P := P) (x := x - 1) (y := y) (x' := x) (y' := y) (by omega) d1 (by rw [d3]; exact Option.some.inj e)
        omega
      · cases e
    · split at e
      · split at e
        · have := sp_inj (P := P) (x := x + 1) (y := y) (x' := x) (y' := y) (by omega) d1 (by rw [d3]; exact Option.some.inj e)
          omega
        · cases e
      · split at e
        · have := sp_inj (P := P) (x := x) (y := y + 1) (x' := x) (y' := y) d1 d1 (by rw [d3]; exact Option.some.inj e)
          omega
        · cases e
theorem rl_prd {fr : Nat} (hk : sp_ok P) (h1 : k < sp_c P * sp_r P) (hd : d < 4) (q : prd P h (sp_c P * sp_r P) fr s.1) : prd P h (sp_c P * sp_r P) fr (rl P h k d s).1 := by
  rcases rl_cases (P := P) (h := h) (k := k) (d := d) (s := s) with ⟨e, -⟩ | ⟨j, e1, e2, e3⟩
  · rw [e]; exact q
  · rw [e3]
    obtain ⟨q1, q2⟩ := q
    have hkf : ¬ fr = k := fun z => by subst z; omega
    have hjk := nb_ne hk h1 e1
    refine ⟨by show hu s.1 k _ fr = 0; rw [hu_n hkf]; exact q1, fun k' hk' hlt => ?_⟩
    have hlt : hu s.1 k (s.1 j + wgt h k j) k' < 1000000 := hlt
    show k' = fr ∨ ∃ d' j', d' < 4 ∧ nb P k' d' = some j' ∧ j' < _ ∧ hu s.1 k (s.1 j + wgt h k j) j' + wgt h k' j' ≤ hu s.1 k (s.1 j + wgt h k j) k'
    by_cases z : k' = k
    · subst z
      exact Or.inr ⟨d, j, hd, e1, nb_lt hk h1 e1, by rw [hu_s, hu_n hjk]; exact Nat.le_refl _⟩
    · rw [hu_n z] at hlt ⊢
      rcases q2 k' hk' hlt with w | ⟨d', j', w1, w2, w3, w4⟩
      · exact Or.inl w
      · refine Or.inr ⟨d', j', w1, w2, w3, ?_⟩
        by_cases z2 : j' = k
        · subst z2
          rw [hu_s]
          omega
        · rw [hu_n z2]; exact w4
theorem rlg_prd {fr : Nat} (hk : sp_ok P) (h1 : k < sp_c P * sp_r P) : ∀ (g d : Nat) (s : (Nat → Nat) × Bool), d + g ≤ 4 → prd P h (sp_c P * sp_r P) fr s.1 → prd P h (sp_c P * sp_r P) fr (rlg P h k g d s).1
  | 0, _, _, _, q => q
  | g + 1, d, s, hd, q => rlg_prd hk h1 g (d + 1) _ (by omega) (rl_prd hk h1 (by omega) q)
theorem swp_prd {fr : Nat} (hk : sp_ok P) : ∀ (g k : Nat) (s : (Nat → Nat) × Bool), k + g ≤ sp_c P * sp_r P → prd P h (sp_c P * sp_r P) fr s.1 → prd P h (sp_c P * sp_r P) fr (swp P h g k s).1
  | 0, _, _, _, q => q
  | g + 1, k, s, hg, q => swp_prd hk g (k + 1) _ (by omega) (rlg_prd hk (by omega) 4 0 s (by omega) q)
/-- rounds, whatever they bring -/
def itr (P : sp_T) (h : Nat → Nat) : Nat → (Nat → Nat) → (Nat → Nat)
  | 0, C => C
  | i + 1, C => itr P h i (swp P h (sp_c P * sp_r P) 0 (C, false)).1
theorem itr_s : ∀ (i : Nat) (C : Nat → Nat), itr P h (i + 1) C = (swp P h (sp_c P * sp_r P) 0 (itr P h i C, false)).1
  | 0, _ => rfl
  | i + 1, C => by rw [itr, itr_s i]; rfl
theorem itr_le (k : Nat) : ∀ (m i : Nat) (C : Nat → Nat), itr P h (i + m) C k ≤ itr P h i C k
  | 0, _, _ => Nat.le_refl _
  | m + 1, i, C => by
    rw [← Nat.add_assoc, itr_s]
    exact Nat.le_trans (swp_le k _ 0 _) (itr_le k m i C)
theorem itr_prd {fr : Nat} (hk : sp_ok P) {C : Nat → Nat} (q : prd P h (sp_c P * sp_r P) fr C) : ∀ i, prd P h (sp_c P * sp_r P) fr (itr P h i C)
  | 0 => q
  | i + 1 => by rw [itr_s]; exact swp_prd hk _ 0 (itr P h i C, false) (by omega) (itr_prd hk q i)
theorem sum_lt {f g : Nat → Nat} : ∀ (n j : Nat), (∀ i, f i ≤ g i) → j < n → f j < g j → sl_sum f n < sl_sum g n
  | 0, j, _, hj, _ => by omega
  | n + 1, j, hle, hj, hlt => by
    rw [sl_sum, sl_sum]
    have h2 : ∀ n, sl_sum f n ≤ sl_sum g n := fun n => by
      induction n with
      | zero => exact Nat.le_refl _
      | succ n ih => rw [sl_sum, sl_sum]; have := hle n; omega
    have h3 := h2 n
    have h4 := hle n
    by_cases c : j = n
    · subst c; omega
    · have := sum_lt n j hle (by omega) hlt
      omega
theorem itr_end : ∀ (m : Nat) (C : Nat → Nat), sl_sum C (sp_c P * sp_r P) ≤ m → ∃ N, (swp P h (sp_c P * sp_r P) 0 (itr P h N C, false)).2 = false
  | m, C, hm => by
    cases e : (swp P h (sp_c P * sp_r P) 0 (C, false)).2 with
    | false => exact ⟨0, e⟩
    | true =>
      obtain ⟨i, h1, h2, h3⟩ := swp_lt (sp_c P * sp_r P) 0 (C, false) rfl e
      have h4 := sum_lt (f := (swp P h (sp_c P * sp_r P) 0 (C, false)).1) (g := C) (sp_c P * sp_r P) i (fun i => swp_le i _ 0 (C, false)) (by omega) h3
      cases m with
      | zero => omega
      | succ m =>
        obtain ⟨N, hN⟩ := itr_end m (swp P h (sp_c P * sp_r P) 0 (C, false)).1 (by omega)
        exact ⟨N + 1, hN⟩
/-- how many stand where they end -/
def ctq (C D : Nat → Nat) : Nat → Nat
  | 0 => 0
  | n + 1 => ctq C D n + (if C n = D n then 1 else 0)
theorem ctq_le {C C' D : Nat → Nat} : ∀ n, (∀ j, j < n → C j = D j → C' j = D j) → ctq C D n ≤ ctq C' D n
  | 0, _ => Nat.le_refl _
  | n + 1, q => by
    have := ctq_le (C := C) (C' := C') (D := D) n (fun j hj => q j (by omega))
    rw [ctq, ctq]
    by_cases c : C n = D n
    · rw [if_pos c, if_pos (q n (by omega) c)]; omega
    · rw [if_neg c]; omega
theorem ctq_lt {C C' D : Nat → Nat} : ∀ n j, (∀ j, j < n → C j = D j → C' j = D j) → j < n → ¬ C j = D j → C' j = D j → ctq C D n < ctq C' D n
  | 0, j, _, hj, _, _ => by omega
  | n + 1, j, q, hj, h1, h2 => by
    rw [ctq, ctq]
    have h3 := ctq_le (C := C) (C' := C') (D := D) n (fun j hj => q j (by omega))
    by_cases c : j = n
    · subst c
      rw [if_neg h1, if_pos h2]; omega
    · have := ctq_lt n j (fun j hj => q j (by omega)) (by omega) h1 h2
      by_cases c2 : C n = D n
      · rw [if_pos c2, if_pos (q n (by omega) c2)]; omega
      · rw [if_neg c2]; omega
theorem ctq_n {C D : Nat → Nat} : ∀ n, ctq C D n ≤ n
  | 0 => Nat.le_refl _
  | n + 1 => by
    have := ctq_n (C := C) (D := D) n
    rw [ctq]
    split <;> omega
theorem ctq_all {C D : Nat → Nat} : ∀ n, n ≤ ctq C D n → ∀ j, j < n → C j = D j
  | 0, _, j, hj => by omega
  | n + 1, h, j, hj => by
    rw [ctq] at h
    have h2 := ctq_n (C := C) (D := D) n
    by_cases c : C n = D n
    · rw [if_pos c] at h
      by_cases z : j = n
      · subst z; exact c
      · exact ctq_all n (by omega) j (by omega)
    · rw [if_neg c] at h; omega
theorem ctq_pos {C D : Nat → Nat} : ∀ n j, j < n → C j = D j → 0 < ctq C D n
  | 0, j, hj, _ => by omega
  | n + 1, j, hj, e => by
    rw [ctq]
    by_cases z : j = n
    · subst z; rw [if_pos e]; omega
    · have := ctq_pos n j (by omega) e; omega
/-- the least of those that don't stand yet -/
theorem ctq_min {C D : Nat → Nat} {n : Nat} : ∀ (v k : Nat), k < n → ¬ C k = D k → D k ≤ v → ∃ k', k' < n ∧ ¬ C k' = D k' ∧ ∀ j, j < n → D j < D k' → C j = D j
  | 0, k, hk, hn, hv => ⟨k, hk, hn, fun j _ hj => by omega⟩
  | v + 1, k, hk, hn, hv => by
    by_cases c : ∃ j, j < n ∧ D j < D k ∧ ¬ C j = D j
    · obtain ⟨j, h1, h2, h3⟩ := c
      exact ctq_min v j h1 h3 (by omega)
    · refine ⟨k, hk, hn, fun j h1 h2 => ?_⟩
      by_cases z : C j = D j
      · exact z
      · exact absurd ⟨j, h1, h2, z⟩ c
/-- rounds as long as they bring something, g at the most -/
def rds (P : sp_T) (h : Nat → Nat) : Nat → (Nat → Nat) → (Nat → Nat)
  | 0, C => C
  | g + 1, C => if (swp P h (sp_c P * sp_r P) 0 (C, false)).2 = true then rds P h g (swp P h (sp_c P * sp_r P) 0 (C, false)).1 else C
/-- they end within g -/
def cvg (P : sp_T) (h : Nat → Nat) : Nat → (Nat → Nat) → Prop
  | 0, _ => False
  | g + 1, C => (swp P h (sp_c P * sp_r P) 0 (C, false)).2 = false ∨ cvg P h g (swp P h (sp_c P * sp_r P) 0 (C, false)).1
theorem cvg_of : ∀ (g : Nat) (C : Nat → Nat), (∃ i, i < g ∧ (swp P h (sp_c P * sp_r P) 0 (itr P h i C, false)).2 = false) → cvg P h g C
  | 0, _, ⟨i, hi, _⟩ => by omega
  | g + 1, C, ⟨i, hi, e⟩ => by
    cases i with
    | zero => exact Or.inl e
    | succ i => exact Or.inr (cvg_of g _ ⟨i, by omega, e⟩)
theorem rds_fix : ∀ (g : Nat) (C : Nat → Nat), cvg P h g C → (swp P h (sp_c P * sp_r P) 0 (rds P h g C, false)).2 = false ∧ ∃ i, rds P h g C = itr P h i C
  | 0, _, q => q.elim
  | g + 1, C, q => by
    rw [rds]
    cases e : (swp P h (sp_c P * sp_r P) 0 (C, false)).2 with
    | false =>
      rw [if_neg (by decide)]
      exact ⟨e, 0, rfl⟩
    | true =>
      rw [if_pos rfl]
      rcases q with q | q
      · rw [q] at e; cases e
      · obtain ⟨a, i, b⟩ := rds_fix g _ q
        exact ⟨a, i + 1, b⟩
theorem cvg_49 {fr : Nat} (hk : sp_ok P) {C : Nat → Nat} (hfr : fr < sp_c P * sp_r P) (q : prd P h (sp_c P * sp_r P) fr C) (hle : ∀ j, C j ≤ 1000000) : cvg P h 49 C := by
  have hcs := sp_cells hk
  apply cvg_of
  obtain ⟨N, hN⟩ := itr_end (h := h) (sl_sum C (sp_c P * sp_r P)) C (Nat.le_refl _)
  obtain ⟨hD1, hD2⟩ := swp_f (sp_c P * sp_r P) 0 (itr P h N C, false) hN
  have hDp := itr_prd (h := h) hk q N
  -- D is the least
  have hDle : ∀ i j, itr P h N C j ≤ itr P h i C j := by
    intro i j
    by_cases c : i ≤ N
    · have := itr_le (P := P) (h := h) j (N - i) i C
      rw [show i + (N - i) = N by omega] at this
      exact this
    · have hst : ∀ m, itr P h (N + m) C = itr P h N C := fun m => by
        induction m with
        | zero => rfl
        | succ m ih => rw [← Nat.add_assoc, itr_s, ih, hD1]
      have := hst (i - N)
      rw [show N + (i - N) = i by omega] at this
      rw [this]
      exact Nat.le_refl _
  by_cases hc : ∃ i, i < 49 ∧ (swp P h (sp_c P * sp_r P) 0 (itr P h i C, false)).2 = false
  · exact hc
  · exfalso
    have hne : ∀ i, i < 49 → ∃ k, k < sp_c P * sp_r P ∧ ¬ itr P h i C k = itr P h N C k := by
      intro i hi
      apply Classical.byContradiction
      intro z
      have hall : ∀ k, k < sp_c P * sp_r P → itr P h i C k = itr P h N C k := fun k hk2 => Classical.byContradiction fun w => z ⟨k, hk2, w⟩
      apply hc
      refine ⟨i, hi, ?_⟩
      rw [swp_no (sp_c P * sp_r P) 0 (itr P h i C, false)]
      intro k' h1 h2 d hd j e
      show ¬ itr P h i C j + wgt h k' j < itr P h i C k'
      rw [hall k' (by omega), hall j (nb_lt hk (by omega) e)]
      exact hD2 k' h1 h2 d hd j e
    have hcnt : ∀ i, i < 49 → i + 1 ≤ ctq (itr P h i C) (itr P h N C) (sp_c P * sp_r P) := by
      intro i
      induction i with
      | zero =>
        intro _
        exact ctq_pos _ fr hfr (by rw [(itr_prd (h := h) hk q 0).1, hDp.1])
      | succ i ih =>
        intro hi
        have h1 := ih (by omega)
        obtain ⟨k0, a1, a2⟩ := hne i (by omega)
        obtain ⟨k, b1, b2, b3⟩ := ctq_min (C := itr P h i C) (D := itr P h N C) (n := sp_c P * sp_r P) (itr P h N C k0) k0 a1 a2 (Nat.le_refl _)
        have hsub : ∀ j, j < sp_c P * sp_r P → itr P h i C j = itr P h N C j → itr P h (i + 1) C j = itr P h N C j := by
          intro j _ e
          have g1 := hDle (i + 1) j
          have g2 := itr_le (P := P) (h := h) j 1 i C
          omega
        have hfin : itr P h N C k < 1000000 := by
          have g1 := hDle i k
          have g2 := itr_le (P := P) (h := h) k i 0 C
          rw [Nat.zero_add] at g2
          have g3 := hle k
          have g2 : itr P h i C k ≤ C k := g2
          omega
        have hk2 : itr P h (i + 1) C k = itr P h N C k := by
          rcases hDp.2 k b1 hfin with w | ⟨d, j, w1, w2, w3, w4⟩
          · subst w
            rw [(itr_prd (h := h) hk q (i + 1)).1, hDp.1]
          · have hw : 1 ≤ wgt h k j := by unfold wgt; omega
            have hj := b3 j w3 (by omega)
            have g1 := hDle (i + 1) k
            have g2 : itr P h (i + 1) C k ≤ itr P h i C j + wgt h k j := by
              rw [itr_s]
              exact swp_st w1 (sp_c P * sp_r P) 0 k (itr P h i C, false) (by omega) (by omega) w2
            omega
        have := ctq_lt (sp_c P * sp_r P) k hsub b1 b2 hk2
        omega
    have h48 := hcnt 48 (by omega)
    obtain ⟨k, a1, a2⟩ := hne 48 (by omega)
    exact a2 (ctq_all _ (by omega) k a1)
/-- costs: none yet, or at most B -/
def bdC (n : Nat) (C : Nat → Nat) (B : Nat) : Prop := ∀ j, j < n → C j = 1000000 ∨ C j ≤ B
theorem wgt_le {j : Nat} (h1 : h k ≤ 99) (h2 : h j ≤ 99) : 1 ≤ wgt h k j ∧ wgt h k j ≤ 100 := by
  unfold wgt
  split <;> omega
theorem rl_bd {B : Nat} (hk : sp_ok P) (hle : ∀ j, j < sp_c P * sp_r P → h j ≤ 99) (h1 : k < sp_c P * sp_r P) (hB : B ≤ 999800) (q : bdC (sp_c P * sp_r P) s.1 B) : bdC (sp_c P * sp_r P) (rl P h k d s).1 (B + 100) := by
  intro i hi
  rcases rl_cases (P := P) (h := h) (k := k) (d := d) (s := s) with ⟨e, -⟩ | ⟨j, e1, e2, e3⟩
  · rw [e]
    rcases q i hi with z | z
    · exact Or.inl z
    · exact Or.inr (by omega)
  · rw [e3]
    show hu s.1 k _ i = _ ∨ hu s.1 k _ i ≤ _
    have hj := nb_lt hk h1 e1
    have hw := wgt_le (hle k h1) (hle j hj)
    unfold hu
    split
    · right
      rcases q j hj with z | z
      · rcases q k h1 with z2 | z2
        · omega
        · omega
      · omega
    · rcases q i hi with z | z
      · exact Or.inl z
      · exact Or.inr (by omega)
theorem rlg_bd (hk : sp_ok P) (hle : ∀ j, j < sp_c P * sp_r P → h j ≤ 99) (h1 : k < sp_c P * sp_r P) : ∀ (g d B : Nat) (s : (Nat → Nat) × Bool), B + 100 * g ≤ 999800 → bdC (sp_c P * sp_r P) s.1 B → bdC (sp_c P * sp_r P) (rlg P h k g d s).1 (B + 100 * g)
  | 0, _, B, _, _, q => q
  | g + 1, d, B, s, hB, q => by
    have := rlg_bd hk hle h1 g (d + 1) (B + 100) (rl P h k d s) (by omega) (rl_bd hk hle h1 (by omega) q)
    rw [rlg, show B + 100 * (g + 1) = B + 100 + 100 * g by omega]
    exact this
set_option maxRecDepth 8000 in
theorem swp_bd (hk : sp_ok P) (hle : ∀ j, j < sp_c P * sp_r P → h j ≤ 99) : ∀ (g k B : Nat) (s : (Nat → Nat) × Bool), k + g ≤ sp_c P * sp_r P → B + 400 * g ≤ 999800 → bdC (sp_c P * sp_r P) s.1 B → bdC (sp_c P * sp_r P) (swp P h g k s).1 (B + 400 * g)
  | 0, _, B, _, _, _, q => q
  | g + 1, k, B, s, hg, hB, q => by
    have hq := rlg_bd hk hle (show k < sp_c P * sp_r P by omega) 4 0 B s (by omega) q
    rw [show B + 100 * 4 = B + 400 by omega] at hq
    have := swp_bd hk hle g (k + 1) (B + 400) (rlg P h k 4 0 s) (by omega) (by omega) hq
    rw [swp, show B + 400 * (g + 1) = B + 400 + 400 * g by omega]
    exact this
end Wz
theorem rl_b {P : sp_T} {h : Nat → Nat} {k d : Nat} (C : Nat → Nat) (b b' : Bool) : (rl P h k d (C, b)).1 = (rl P h k d (C, b')).1 ∧ (rl P h k d (C, b')).2 = (b' || (rl P h k d (C, false)).2) := by
  unfold rl
  cases nb P k d with
  | none => exact ⟨rfl, by show b' = (b' || false); rw [Bool.or_false]⟩
  | some j =>
    show ((if C j + wgt h k j < C k then (hu C k (C j + wgt h k j), true) else (C, b)) : (Nat → Nat) × Bool).1 = ((if C j + wgt h k j < C k then (hu C k (C j + wgt h k j), true) else (C, b')) : (Nat → Nat) × Bool).1 ∧ ((if C j + wgt h k j < C k then (hu C k (C j + wgt h k j), true) else (C, b')) : (Nat → Nat) × Bool).2 = (b' || ((if C j + wgt h k j < C k then (hu C k (C j + wgt h k j), true) else (C, false)) : (Nat → Nat) × Bool).2)
    by_cases c : C j + wgt h k j < C k
    · rw [if_pos c, if_pos c, if_pos c]; exact ⟨rfl, (Bool.or_true b').symm⟩
    · rw [if_neg c, if_neg c, if_neg c]; exact ⟨rfl, (Bool.or_false b').symm⟩
theorem rlg_b {P : sp_T} {h : Nat → Nat} {k : Nat} : ∀ (g d : Nat) (C : Nat → Nat) (b b' : Bool), (rlg P h k g d (C, b)).1 = (rlg P h k g d (C, b')).1 ∧ (rlg P h k g d (C, b')).2 = (b' || (rlg P h k g d (C, false)).2)
  | 0, _, _, b, b' => ⟨rfl, (Bool.or_false b').symm⟩
  | g + 1, d, C, b, b' => by
    have q1 := rl_b (P := P) (h := h) (k := k) (d := d) C b b'
    have q2 := rl_b (P := P) (h := h) (k := k) (d := d) C b' false
    obtain ⟨C1, c1⟩ : ∃ C1, C1 = (rl P h k d (C, false)).1 := ⟨_, rfl⟩
    have e1 : rl P h k d (C, b) = (C1, (rl P h k d (C, b)).2) := by rw [c1, ← q2.1, ← q1.1]
    have e2 : rl P h k d (C, b') = (C1, (rl P h k d (C, b')).2) := by rw [c1, ← q2.1]
    have e3 : rl P h k d (C, false) = (C1, (rl P h k d (C, false)).2) := by rw [c1]
    have r1 := rlg_b (P := P) (h := h) (k := k) g (d + 1) C1 (rl P h k d (C, b)).2 (rl P h k d (C, b')).2
    have r2 := rlg_b (P := P) (h := h) (k := k) g (d + 1) C1 (rl P h k d (C, b)).2 (rl P h k d (C, false)).2
    rw [rlg, rlg, rlg, e1, e2, e3]
    refine ⟨r1.1, ?_⟩
    rw [r1.2, r2.2, q1.2, Bool.or_assoc]
