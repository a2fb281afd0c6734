/-! THE WORLD: what comes of asking, as both sides have it -/
def fa (P : sp_T) (L : sl_T) (p q sd t : Nat) : Int := ((if t = 0 then sl_t L p else if t = 1 then sl_h L (sl_y L p * sp_c P + sl_x L p) else if t = 2 then pc (sl_k L p) else if t = 3 then sl_d L else if t = 4 then q else if t = 5 then sd else if t = 6 then p else if t = 7 then sl_x L p else sl_y L p : Nat) : Int)
def k0 : Int → Int := fun _ => 0
theorem k0_in (a : Int) : ein (k0 a) := by unfold k0 ein; omega
def hd0 (s : List Int) : Int := s.headD 0
def vh (P : sp_T) (L : sl_T) (p q : Nat) : Int := hd0 (ev (fa P L p q 0) k0 k0 (sp_fh P) [])
def vl (P : sp_T) (L : sl_T) (p q sd : Nat) : Int := hd0 (ev (fa P L p q sd) k0 k0 (sp_fl P) [])
def vt (P : sp_T) (L : sl_T) (p q : Nat) : Int := hd0 (ev (fa P L p q 0) k0 k0 (sp_ft P) [])
/-- 0 answers, 1 keeps it, 2 shrugs -/
def wd (P : sp_T) (L : sl_T) (p q : Nat) : Nat := if sl_k L p / 2 ^ q % 2 = 1 then 0 else if vh P L p q = 0 then 2 else 1
def cut9 (a : Int) : Nat := if a < 0 then 0 else if 9 < a then 9 else a.toNat
theorem cut9_le (a : Int) : cut9 a ≤ 9 := by
  unfold cut9
  split
  · omega
  · split <;> omega
def hu (h : Nat → Nat) (j v : Nat) : Nat → Nat := fun i => if i = j then v else h i
theorem hu_s {h : Nat → Nat} {j v : Nat} : hu h j v j = v := if_pos rfl
theorem hu_n {h : Nat → Nat} {j v i : Nat} (q : ¬ i = j) : hu h j v i = h i := if_neg q
/-- the first of the highest cells below k, but those of ex -/
def bst (h : Nat → Nat) (ex : Nat → Bool) : Nat → Option Nat
  | 0 => none
  | k + 1 => if ex k then bst h ex k else match bst h ex k with
    | none => some k
    | some b => if h b < h k then some k else some b
def bsp (h : Nat → Nat) (ex : Nat → Bool) (n b : Nat) : Prop := b < n ∧ ¬ ex b ∧ (∀ j, j < n → ¬ ex j → h j ≤ h b) ∧ ∀ j, j < b → ¬ ex j → h j < h b
theorem bsp_u {h : Nat → Nat} {ex : Nat → Bool} {n b b' : Nat} (q : bsp h ex n b) (q' : bsp h ex n b') : b = b' := by
  obtain ⟨a1, a2, a3, a4⟩ := q
  obtain ⟨c1, c2, c3, c4⟩ := q'
  rcases Nat.lt_trichotomy b b' with z | z | z
  · have := c4 b z a2
    have := a3 b' c1 c2
    omega
  · exact z
  · have := a4 b' z c2
    have := c3 b a1 a2
    omega
theorem bst_sp {h : Nat → Nat} {ex : Nat → Bool} : ∀ n : Nat, (bst h ex n = none ∧ ∀ j, j < n → ex j) ∨ ∃ b, bst h ex n = some b ∧ bsp h ex n b
  | 0 => Or.inl ⟨rfl, fun j hj => by omega⟩
  | k + 1 => by
    unfold bst
    by_cases c : ex k
    · rw [if_pos c]
      rcases bst_sp (h := h) (ex := ex) k with ⟨q1, q2⟩ | ⟨b, q1, a1, a2, a3, a4⟩
      · refine Or.inl ⟨q1, fun j hj => ?_⟩
        by_cases z : j = k
        · subst z; exact c
        · exact q2 j (by omega)
      · refine Or.inr ⟨b, q1, by omega, a2, fun j hj hx => ?_, a4⟩
        by_cases z : j = k
        · subst z; exact absurd c hx
        · exact a3 j (by omega) hx
    · rw [if_neg c]
      rcases bst_sp (h := h) (ex := ex) k with ⟨q1, q2⟩ | ⟨b, q1, a1, a2, a3, a4⟩
      · rw [q1]
        refine Or.inr ⟨k, rfl, by omega, c, fun j hj hx => ?_, fun j hj hx => absurd (q2 j hj) hx⟩
        by_cases z : j = k
        · subst z; omega
        · exact absurd (q2 j (by omega)) hx
      · rw [q1]
        show (_ ∧ _) ∨ ∃ b', (if h b < h k then some k else some b) = some b' ∧ _
        by_cases c2 : h b < h k
        · rw [if_pos c2]
          refine Or.inr ⟨k, rfl, by omega, c, fun j hj hx => ?_, fun j hj hx => ?_⟩
          · by_cases z : j = k
            · subst z; omega
            · have := a3 j (by omega) hx; omega
          · have := a3 j hj hx; omega
        · rw [if_neg c2]
          refine Or.inr ⟨b, rfl, by omega, a2, fun j hj hx => ?_, a4⟩
          by_cases z : j = k
          · subst z; omega
          · exact a3 j (by omega) hx
theorem bst_of {h : Nat → Nat} {ex : Nat → Bool} {n b : Nat} (q : bsp h ex n b) : bst h ex n = some b := by
  rcases bst_sp (h := h) (ex := ex) n with ⟨q1, q2⟩ | ⟨b', q1, q2⟩
  · exact absurd (q2 b q.1) q.2.1
  · rw [q1, bsp_u q q2]
/-- one cell's lift by one; none: it ends -/
def lf1 (n : Nat) (ex : Nat → Bool) (c : Nat) (h : Nat → Nat) : Option (Nat → Nat) :=
  if 99 ≤ h c then none else match bst h ex n with
  | none => none
  | some b => if h b = 0 then none else some (hu (hu h b (h b - 1)) c (h c + 1))
def lfn (n : Nat) (ex : Nat → Bool) (c : Nat) : Nat → (Nat → Nat) → Nat → (Nat → Nat) × Nat
  | 0, h, m => (h, m)
  | k + 1, h, m => match lf1 n ex c h with
    | none => (h, m)
    | some h' => lfn n ex c k h' (m + 1)
/-- own cell and those beside it -/
def exn (P : sp_T) (x y j : Nat) : Bool := decide (j = y * sp_c P + x ∨ (0 < x ∧ j + 1 = y * sp_c P + x) ∨ (x + 1 < sp_c P ∧ j = y * sp_c P + x + 1))
theorem exn_iff {P : sp_T} {x y j : Nat} : exn P x y j = true ↔ (j = y * sp_c P + x ∨ (0 < x ∧ j + 1 = y * sp_c P + x) ∨ (x + 1 < sp_c P ∧ j = y * sp_c P + x + 1)) := decide_eq_true_iff
def lfL (P : sp_T) (L : sl_T) (p q : Nat) : (Nat → Nat) × Nat := if 0 < sl_x L p then lfn (sp_c P * sp_r P) (exn P (sl_x L p) (sl_y L p)) (sl_y L p * sp_c P + sl_x L p - 1) (cut9 (vl P L p q (sl_h L (sl_y L p * sp_c P + sl_x L p - 1)))) (sl_h L) 0 else (sl_h L, 0)
def lfR (P : sp_T) (L : sl_T) (p q : Nat) (s : (Nat → Nat) × Nat) : (Nat → Nat) × Nat := if sl_x L p + 1 < sp_c P then lfn (sp_c P * sp_r P) (exn P (sl_x L p) (sl_y L p)) (sl_y L p * sp_c P + sl_x L p + 1) (cut9 (vl P L p q (s.1 (sl_y L p * sp_c P + sl_x L p + 1)))) s.1 s.2 else s
/-- the land behind an asking; how far was lifted -/
def aL (P : sp_T) (L : sl_T) (p q : Nat) : sl_T := if wd P L p q = 2 then (sl_d L, (lfR P L p q (lfL P L p q)).1, sl_x L, sl_y L, hu (sl_t L) p (cut9 (vt P L p q)), sl_k L) else L
def aM (P : sp_T) (L : sl_T) (p q : Nat) : Nat := if wd P L p q = 2 then (lfR P L p q (lfL P L p q)).2 else 0
/-- a day; s: the silent ones -/
def dP (P : sp_T) (s : Nat) (L : sl_T) : sl_T := (sl_d L + 1, (if (sp_li P).length = 0 then L else if s / 2 ^ ((sp_li P).getD (sl_d L % (sp_li P).length) (0, 0)).1 % 2 = 1 then L else aL P L ((sp_li P).getD (sl_d L % (sp_li P).length) (0, 0)).1 ((sp_li P).getD (sl_d L % (sp_li P).length) (0, 0)).2).2)
/-! bounds -/
theorem lf1_le {n c : Nat} {ex : Nat → Bool} {h h' : Nat → Nat} (e : lf1 n ex c h = some h') (hb : ∀ j, j < n → h j ≤ 99) : ∀ j, j < n → h' j ≤ 99 := by
  intro j hj
  unfold lf1 at e
  by_cases c1 : 99 ≤ h c
  · rw [if_pos c1] at e; cases e
  · rw [if_neg c1] at e
    rcases bst_sp (h := h) (ex := ex) n with ⟨q1, q2⟩ | ⟨b, q1, q2⟩
    · rw [q1] at e; cases e
    · rw [q1] at e
      have e : (if h b = 0 then none else some (hu (hu h b (h b - 1)) c (h c + 1))) = some h' := e
      by_cases c2 : h b = 0
      · rw [if_pos c2] at e; cases e
      · rw [if_neg c2] at e
        have e := Option.some.inj e
        subst e
        unfold hu
        split
        · omega
        · split
          · have := hb b q2.1; omega
          · exact hb j hj
theorem lfn_le {n c : Nat} {ex : Nat → Bool} : ∀ (k : Nat) (h : Nat → Nat) (m : Nat), (∀ j, j < n → h j ≤ 99) → ∀ j, j < n → (lfn n ex c k h m).1 j ≤ 99
  | 0, h, m, hb => hb
  | k + 1, h, m, hb => by
    unfold lfn
    cases e : lf1 n ex c h with
    | none => exact hb
    | some h' => exact lfn_le k h' (m + 1) (lf1_le e hb)
/-- cells of ex but the one that is lifted stay -/
theorem lf1_ex {n c : Nat} {ex : Nat → Bool} {h h' : Nat → Nat} (e : lf1 n ex c h = some h') {j : Nat} (hj : ex j) (hc : ¬ j = c) : h' j = h j := by
  unfold lf1 at e
  by_cases c1 : 99 ≤ h c
  · rw [if_pos c1] at e; cases e
  · rw [if_neg c1] at e
    rcases bst_sp (h := h) (ex := ex) n with ⟨q1, q2⟩ | ⟨b, q1, q2⟩
    · rw [q1] at e; cases e
    · rw [q1] at e
      have e : (if h b = 0 then none else some (hu (hu h b (h b - 1)) c (h c + 1))) = some h' := e
      by_cases c2 : h b = 0
      · rw [if_pos c2] at e; cases e
      · rw [if_neg c2] at e
        have e := Option.some.inj e
        subst e
        rw [hu_n hc, hu_n (fun z => by subst z; exact q2.2.1 hj)]
theorem lfn_ex {n c : Nat} {ex : Nat → Bool} {j : Nat} (hj : ex j) (hc : ¬ j = c) : ∀ (k : Nat) (h : Nat → Nat) (m : Nat), (lfn n ex c k h m).1 j = h j
  | 0, h, m => rfl
  | k + 1, h, m => by
    unfold lfn
    cases e : lf1 n ex c h with
    | none => rfl
    | some h' => exact (lfn_ex hj hc k h' (m + 1)).trans (lf1_ex e hj hc)
theorem lfn_m {n c : Nat} {ex : Nat → Bool} : ∀ (k : Nat) (h : Nat → Nat) (m : Nat), (lfn n ex c k h m).2 ≤ m + k
  | 0, h, m => Nat.le_refl _
  | k + 1, h, m => by
    unfold lfn
    cases e : lf1 n ex c h with
    | none => show m ≤ _; omega
    | some h' => have := lfn_m (n := n) (c := c) (ex := ex) k h' (m + 1); show (lfn n ex c k h' (m + 1)).2 ≤ _; omega
theorem lfL_le {P : sp_T} {L : sl_T} {p q : Nat} (hb : ∀ j, j < sp_c P * sp_r P → sl_h L j ≤ 99) : ∀ j, j < sp_c P * sp_r P → (lfL P L p q).1 j ≤ 99 := by
  unfold lfL
  split
  · exact lfn_le _ _ _ hb
  · exact hb
theorem lfR_le {P : sp_T} {L : sl_T} {p q : Nat} {s : (Nat → Nat) × Nat} (hb : ∀ j, j < sp_c P * sp_r P → s.1 j ≤ 99) : ∀ j, j < sp_c P * sp_r P → (lfR P L p q s).1 j ≤ 99 := by
  unfold lfR
  split
  · exact lfn_le _ _ _ hb
  · exact hb
theorem lfL_m {P : sp_T} {L : sl_T} {p q : Nat} : (lfL P L p q).2 ≤ 9 := by
  unfold lfL
  split
  · refine Nat.le_trans (lfn_m _ _ _) ?_
    have := cut9_le (vl P L p q (sl_h L (sl_y L p * sp_c P + sl_x L p - 1)))
    omega
  · exact Nat.zero_le _
theorem lfR_m {P : sp_T} {L : sl_T} {p q : Nat} {s : (Nat → Nat) × Nat} : (lfR P L p q s).2 ≤ s.2 + 9 := by
  unfold lfR
  split
  · refine Nat.le_trans (lfn_m _ _ _) ?_
    have := cut9_le (vl P L p q (s.1 (sl_y L p * sp_c P + sl_x L p + 1)))
    omega
  · omega
theorem aM_le {P : sp_T} {L : sl_T} {p q : Nat} : aM P L p q ≤ 18 := by
  unfold aM
  split
  · have := lfR_m (P := P) (L := L) (p := p) (q := q) (s := lfL P L p q)
    have := lfL_m (P := P) (L := L) (p := p) (q := q)
    omega
  · omega
theorem aL_in {P : sp_T} {L : sl_T} {p q : Nat} (h : sl_in P L) : sl_in P (aL P L p q) := by
  unfold aL
  split
  · refine ⟨lfR_le (lfL_le h.1), fun p' hp' => ?_⟩
    obtain ⟨a, b, c, d⟩ := h.2 p' hp'
    refine ⟨a, b, ?_, d⟩
    show hu (sl_t L) p _ p' ≤ 9
    unfold hu
    split
    · exact cut9_le _
    · exact c
  · exact h
theorem aL_d {P : sp_T} {L : sl_T} {p q : Nat} : sl_d (aL P L p q) = sl_d L := by
  unfold aL
  split <;> rfl
theorem dP_in {P : sp_T} {L : sl_T} {s : Nat} (h : sl_in P L) : sl_in P (dP P s L) := by
  have h2 : sl_in P (if (sp_li P).length = 0 then L else if s / 2 ^ ((sp_li P).getD (sl_d L % (sp_li P).length) (0, 0)).1 % 2 = 1 then L else aL P L ((sp_li P).getD (sl_d L % (sp_li P).length) (0, 0)).1 ((sp_li P).getD (sl_d L % (sp_li P).length) (0, 0)).2) := by
    split
    · exact h
    · split
      · exact h
      · exact aL_in h
  exact h2
theorem dP_d {P : sp_T} {L : sl_T} {s : Nat} : sl_d (dP P s L) = sl_d L + 1 := rfl
theorem fa_in {P : sp_T} {L : sl_T} {p q sd : Nat} (hk : sp_ok P) (hl : sl_in P L) (hd : sl_d L ≤ 100000) (hp : p < sp_np P) (hq : q ≤ 5) (hs : sd ≤ 99) : ∀ t, t < 9 → ein (fa P L p q sd t) := by
  intro t ht
  obtain ⟨a, b, c, d⟩ := hl.2 p hp
  have hb := sp_bd hk
  have h1 := hl.1 _ (sp_cell hk a b)
  have h2 := pc_le (n := sl_k L p)
  unfold fa ein
  split
  · omega
  split
  · omega
  split
  · omega
  split
  · omega
  split
  · omega
  split
  · omega
  split
  · omega
  split <;> omega
/-- only own height is read of heights -/
theorem fa_h {P : sp_T} {L L' : sl_T} {p q sd : Nat} (h1 : sl_d L' = sl_d L) (h2 : sl_x L' = sl_x L) (h3 : sl_y L' = sl_y L) (h4 : sl_t L' p = sl_t L p) (h5 : sl_k L' = sl_k L) (h6 : sl_h L' (sl_y L p * sp_c P + sl_x L p) = sl_h L (sl_y L p * sp_c P + sl_x L p)) : fa P L' p q sd = fa P L p q sd := by
  funext t
  unfold fa
  rw [h1, h2, h3, h4, h5, h6]
