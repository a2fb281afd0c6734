/-! plans: the search as both do it -/
def fs {α : Type} (f : Nat → Option α) : Nat → Nat → Option α
  | 0, _ => none
  | g + 1, k => match f k with
    | some r => some r
    | none => fs f g (k + 1)
theorem fs_s {α : Type} {f : Nat → Option α} {g k : Nat} {r : α} (h : f k = some r) : fs f (g + 1) k = some r := by
  rw [fs, h]
theorem fs_n {α : Type} {f : Nat → Option α} {g k : Nat} (h : f k = none) : fs f (g + 1) k = fs f g (k + 1) := by
  rw [fs, h]
theorem fs_none {α : Type} {f : Nat → Option α} : ∀ (g k : Nat), (∀ j, k ≤ j → j < k + g → f j = none) → fs f g k = none
  | 0, _, _ => rfl
  | g + 1, k, h => by rw [fs_n (h k (by omega) (by omega))]; exact fs_none g (k + 1) (fun j h1 h2 => h j (by omega) (by omega))
theorem fs_some {α : Type} {f : Nat → Option α} : ∀ (g k : Nat) {r : α}, fs f g k = some r → ∃ j, k ≤ j ∧ j < k + g ∧ f j = some r
  | 0, _, _, h => by cases h
  | g + 1, k, r, h => by
    cases e : f k with
    | some r' =>
      rw [fs_s e] at h
      cases h
      exact ⟨k, by omega, by omega, e⟩
    | none =>
      rw [fs_n e] at h
      obtain ⟨j, a, b, c⟩ := fs_some g (k + 1) h
      exact ⟨j, by omega, by omega, c⟩
theorem fs_add {α : Type} {f : Nat → Option α} : ∀ (a b k : Nat), fs f (a + b) k = match fs f a k with
    | some r => some r
    | none => fs f b (k + a)
  | 0, b, k => by rw [Nat.zero_add]; rfl
  | a + 1, b, k => by
    rw [show a + 1 + b = (a + b) + 1 by omega]
    cases e : f k with
    | some r => rw [fs_s e, fs_s e]
    | none => rw [fs_n e, fs_n e, fs_add a b (k + 1), show k + 1 + a = k + (a + 1) by omega]
theorem fs_blk {α : Type} {f : Nat → Option α} {m : Nat} : ∀ (g p : Nat), fs f (g * m) (p * m) = fs (fun p => fs f m (p * m)) g p
  | 0, p => by rw [Nat.zero_mul]; rfl
  | g + 1, p => by
    rw [Nat.succ_mul, Nat.add_comm, fs_add]
    cases e : fs f m (p * m) with
    | some r => rw [fs_s (f := fun p => fs f m (p * m)) e]
    | none =>
      rw [fs_n (f := fun p => fs f m (p * m)) e]
      show fs f (g * m) (p * m + m) = _
      rw [← Nat.succ_mul]
      exact fs_blk g (p + 1)
def pst (P : sp_T) (L : sl_T) (R : sl_T → Option (List Nat)) (a : Nat) : Option (List Nat) := if wd P L (a / sp_nt P) (a % sp_nt P) = 2 then (match R (aL P L (a / sp_nt P) (a % sp_nt P)) with
    | some r => some ((8 * (a / sp_nt P) + a % sp_nt P) :: r)
    | none => none) else none
def prr (P : sp_T) (G : sl_T → Bool) : Nat → sl_T → Option (List Nat)
  | 0, L => if G L then some [] else none
  | n + 1, L => fs (pst P L (prr P G n)) (sp_np P * sp_nt P) 0
def pgl (up ht st S0 : Nat) (L : sl_T) : Bool := decide (ht ≤ sl_h L up ∧ sl_h L st = S0)
section Pl
variable {P : sp_T} {L : sl_T} {R : sl_T → Option (List Nat)} {p q : Nat}
theorem pst_no {a : Nat} (h : ¬ wd P L (a / sp_nt P) (a % sp_nt P) = 2) : pst P L R a = none := if_neg h
theorem pst_n {a : Nat} (h : R (aL P L (a / sp_nt P) (a % sp_nt P)) = none) : pst P L R a = none := by
  unfold pst
  rw [h]
  split <;> rfl
theorem pst_s {a : Nat} {r : List Nat} (h : wd P L (a / sp_nt P) (a % sp_nt P) = 2) (hr : R (aL P L (a / sp_nt P) (a % sp_nt P)) = some r) : pst P L R a = some ((8 * (a / sp_nt P) + a % sp_nt P) :: r) := by
  unfold pst
  rw [if_pos h, hr]
theorem pst_inv {a : Nat} {r : List Nat} (h : pst P L R a = some r) : ∃ r', wd P L (a / sp_nt P) (a % sp_nt P) = 2 ∧ R (aL P L (a / sp_nt P) (a % sp_nt P)) = some r' ∧ r = (8 * (a / sp_nt P) + a % sp_nt P) :: r' := by
  unfold pst at h
  by_cases c : wd P L (a / sp_nt P) (a % sp_nt P) = 2
  · rw [if_pos c] at h
    cases e : R (aL P L (a / sp_nt P) (a % sp_nt P)) with
    | none => rw [e] at h; cases h
    | some r' => rw [e] at h; cases h; exact ⟨r', c, rfl, rfl⟩
  · rw [if_neg c] at h; cases h
theorem pdm (hq : q < sp_nt P) : (p * sp_nt P + q) / sp_nt P = p ∧ (p * sp_nt P + q) % sp_nt P = q := by
  have h0 : 0 < sp_nt P := by omega
  constructor
  · rw [Nat.mul_comm, Nat.mul_add_div h0, Nat.div_eq_of_lt hq, Nat.add_zero]
  · rw [Nat.mul_comm, Nat.mul_add_mod, Nat.mod_eq_of_lt hq]
theorem lfn_up {n c : Nat} {ex : Nat → Bool} : ∀ (k : Nat) (h : Nat → Nat) (m j : Nat), (lfn n ex c k h m).1 j ≤ h j + (if j = c then k else 0)
  | 0, h, m, j => Nat.le_add_right _ _
  | k + 1, h, m, j => by
    unfold lfn
    cases e : lf1 n ex c h with
    | none => exact Nat.le_add_right _ _
    | some h' =>
      have h1 := lfn_up (n := n) (c := c) (ex := ex) k h' (m + 1) j
      have h2 : h' j ≤ h j + (if j = c then 1 else 0) := by
        unfold lf1 at e
        by_cases c1 : 99 ≤ h c
        · rw [if_pos c1] at e; cases e
        · rw [if_neg c1] at e
          rcases bst_sp (h := h) (ex := ex) n with ⟨q1, q2⟩ | ⟨b, q1, q2⟩
          · rw [q1] at e; cases e
          · rw [q1] at e
            have e : (if h b = 0 then none else some (hu (hu h b (h b - 1)) c (h c + 1))) = some h' := e
            by_cases c2 : h b = 0
            · rw [if_pos c2] at e; cases e
            · rw [if_neg c2] at e
              have e := Option.some.inj e
              subst e
              unfold hu
              by_cases z : j = c
              · rw [if_pos z, if_pos z, z]; omega
              · rw [if_neg z, if_neg z]
                split
                · rename_i w; rw [w]; omega
                · omega
      show (lfn n ex c k h' (m + 1)).1 j ≤ _
      by_cases z : j = c
      · rw [if_pos z] at h1 h2 ⊢; omega
      · rw [if_neg z] at h1 h2 ⊢; omega
/-- how far a cell may come up -/
def bsd (P : sp_T) (L : sl_T) (p c : Nat) : Prop := (0 < sl_x L p ∧ c + 1 = sl_y L p * sp_c P + sl_x L p) ∨ (sl_x L p + 1 < sp_c P ∧ c = sl_y L p * sp_c P + sl_x L p + 1)
theorem aL_up (c : Nat) : sl_h (aL P L p q) c ≤ sl_h L c + 9 ∧ (¬ bsd P L p c → sl_h (aL P L p q) c ≤ sl_h L c) := by
  unfold aL
  by_cases w : wd P L p q = 2
  · rw [if_pos w]
    show (lfR P L p q (lfL P L p q)).1 c ≤ _ ∧ (_ → (lfR P L p q (lfL P L p q)).1 c ≤ _)
    have hl : (lfL P L p q).1 c ≤ sl_h L c + (if 0 < sl_x L p ∧ c + 1 = sl_y L p * sp_c P + sl_x L p then 9 else 0) := by
      unfold lfL
      by_cases c1 : 0 < sl_x L p
      · rw [if_pos c1]
        have h1 := lfn_up (n := sp_c P * sp_r P) (c := sl_y L p * sp_c P + sl_x L p - 1) (ex := exn P (sl_x L p) (sl_y L p)) (cut9 (vl P L p q (sl_h L (sl_y L p * sp_c P + sl_x L p - 1)))) (sl_h L) 0 c
        have h9 := cut9_le (vl P L p q (sl_h L (sl_y L p * sp_c P + sl_x L p - 1)))
        have hA : sl_x L p ≤ sl_y L p * sp_c P + sl_x L p := Nat.le_add_left _ _
        generalize sl_y L p * sp_c P + sl_x L p = A at *
        by_cases z2 : 0 < sl_x L p ∧ c + 1 = A
        · rw [if_pos z2]
          rw [if_pos (show c = A - 1 by omega)] at h1
          omega
        · rw [if_neg z2]
          rw [if_neg (show ¬ c = A - 1 by omega)] at h1
          exact h1
      · rw [if_neg c1]; exact Nat.le_add_right _ _
    have hr : ∀ s : (Nat → Nat) × Nat, (lfR P L p q s).1 c ≤ s.1 c + (if sl_x L p + 1 < sp_c P ∧ c = sl_y L p * sp_c P + sl_x L p + 1 then 9 else 0) := by
      intro s
      unfold lfR
      by_cases c1 : sl_x L p + 1 < sp_c P
      · rw [if_pos c1]
        have h1 := lfn_up (n := sp_c P * sp_r P) (c := sl_y L p * sp_c P + sl_x L p + 1) (ex := exn P (sl_x L p) (sl_y L p)) (cut9 (vl P L p q (s.1 (sl_y L p * sp_c P + sl_x L p + 1)))) s.1 s.2 c
        have h9 := cut9_le (vl P L p q (s.1 (sl_y L p * sp_c P + sl_x L p + 1)))
        generalize sl_y L p * sp_c P + sl_x L p = A at *
        by_cases z2 : sl_x L p + 1 < sp_c P ∧ c = A + 1
        · rw [if_pos z2]
          rw [if_pos z2.2] at h1
          omega
        · rw [if_neg z2]
          rw [if_neg (show ¬ c = A + 1 from fun z => z2 ⟨c1, z⟩)] at h1
          exact h1
      · rw [if_neg c1]; exact Nat.le_add_right _ _
    have hr := hr (lfL P L p q)
    unfold bsd
    generalize sl_y L p * sp_c P + sl_x L p = A at *
    by_cases z1 : 0 < sl_x L p ∧ c + 1 = A
    · rw [if_pos z1] at hl
      rw [if_neg (show ¬ (sl_x L p + 1 < sp_c P ∧ c = A + 1) by omega)] at hr
      exact ⟨by omega, fun z => absurd (Or.inl z1) z⟩
    · rw [if_neg z1] at hl
      by_cases z2 : sl_x L p + 1 < sp_c P ∧ c = A + 1
      · rw [if_pos z2] at hr
        exact ⟨by omega, fun z => absurd (Or.inr z2) z⟩
      · rw [if_neg z2] at hr
        exact ⟨by omega, fun _ => by omega⟩
  · rw [if_neg w]
    exact ⟨by omega, fun _ => Nat.le_refl _⟩
theorem prr_up {up ht st S0 : Nat} : ∀ (n : Nat) (L : sl_T) (r : List Nat), prr P (pgl up ht st S0) n L = some r → ht ≤ sl_h L up + 9 * n ∧ S0 ≤ sl_h L st + 9 * n ∧ r.length = n
  | 0, L, r, h => by
    have h : (if pgl up ht st S0 L then some [] else none) = some r := h
    by_cases c : pgl up ht st S0 L = true
    · rw [if_pos c] at h
      have c := of_decide_eq_true c
      cases h
      exact ⟨by omega, by omega, rfl⟩
    · rw [if_neg c] at h; cases h
  | n + 1, L, r, h => by
    have h : fs (pst P L (prr P (pgl up ht st S0) n)) (sp_np P * sp_nt P) 0 = some r := h
    obtain ⟨a, -, -, e⟩ := fs_some _ _ h
    obtain ⟨r', e1, e2, e3⟩ := pst_inv e
    obtain ⟨h1, h2, h3⟩ := prr_up n _ r' e2
    have u1 := (aL_up (P := P) (L := L) (p := a / sp_nt P) (q := a % sp_nt P) up).1
    have u2 := (aL_up (P := P) (L := L) (p := a / sp_nt P) (q := a % sp_nt P) st).1
    refine ⟨by omega, by omega, ?_⟩
    rw [e3, List.length_cons, h3]
/-- whom it isn't worth to ask -/
theorem pst_may {up ht st S0 n c w : Nat} (hc : (c = up ∧ w = ht) ∨ (c = st ∧ w = S0)) (hq : q < sp_nt P) [Decidable (bsd P L p c)] (h : sl_h L c + 9 * n + (if bsd P L p c then 9 else 0) < w) : pst P L (prr P (pgl up ht st S0) n) (p * sp_nt P + q) = none := by
  cases e : pst P L (prr P (pgl up ht st S0) n) (p * sp_nt P + q) with
  | none => rfl
  | some r =>
    obtain ⟨r', e1, e2, e3⟩ := pst_inv e
    rw [(pdm hq).1, (pdm hq).2] at e2
    obtain ⟨h1, h2, h3⟩ := prr_up n _ r' e2
    obtain ⟨u1, u2⟩ := aL_up (P := P) (L := L) (p := p) (q := q) c
    exfalso
    by_cases z : bsd P L p c
    · rw [if_pos z] at h
      rcases hc with ⟨rfl, rfl⟩ | ⟨rfl, rfl⟩ <;> omega
    · rw [if_neg z] at h
      have u2 := u2 z
      rcases hc with ⟨rfl, rfl⟩ | ⟨rfl, rfl⟩ <;> omega
/-! topics that don't count -/
theorem ev_cg {F F' : Nat → Int} {K W : Int → Int} : ∀ (l : List Nat) (s : List Int), (∀ t ∈ l, t < 9 → F t = F' t) → ev F K W l s = ev F' K W l s
  | [], _, _ => rfl
  | t :: l, s, h => by
    have e : e1 F K W t s = e1 F' K W t s := by
      unfold e1
      by_cases c1 : 100 ≤ t
      · rw [if_pos c1, if_pos c1]
      · rw [if_neg c1, if_neg c1]
        by_cases c2 : t < 9
        · rw [if_pos c2, if_pos c2, h t (List.mem_cons_self ..) c2]
        · rw [if_neg c2, if_neg c2]
    rw [ev, ev, e]
    exact ev_cg l _ (fun t ht => h t (List.mem_cons_of_mem _ ht))
theorem fa_q {q' sd t : Nat} (h : ¬ t = 4) : fa P L p q sd t = fa P L p q' sd t := by
  unfold fa
  by_cases c0 : t = 0
  · rw [if_pos c0, if_pos c0]
  rw [if_neg c0, if_neg c0]
  by_cases c1 : t = 1
  · rw [if_pos c1, if_pos c1]
  rw [if_neg c1, if_neg c1]
  by_cases c2 : t = 2
  · rw [if_pos c2, if_pos c2]
  rw [if_neg c2, if_neg c2]
  by_cases c3 : t = 3
  · rw [if_pos c3, if_pos c3]
  rw [if_neg c3, if_neg c3, if_neg h, if_neg h]
def noT (P : sp_T) : Prop := (∀ t ∈ sp_fl P, ¬ t = 4) ∧ (∀ t ∈ sp_ft P, ¬ t = 4) ∧ ∀ t ∈ sp_fh P, ¬ t = 4
theorem aL_q {q' : Nat} (h : noT P) (h1 : wd P L p q = 2) (h2 : wd P L p q' = 2) : aL P L p q = aL P L p q' := by
  have e1 : ∀ sd, vl P L p q sd = vl P L p q' sd := fun sd => by
    unfold vl
    rw [ev_cg (F' := fa P L p q' sd) _ _ (fun t ht _ => fa_q (h.1 t ht))]
  have e2 : vt P L p q = vt P L p q' := by
    unfold vt
    rw [ev_cg (F' := fa P L p q' 0) _ _ (fun t ht _ => fa_q (h.2.1 t ht))]
  have e3 : lfL P L p q = lfL P L p q' := by
    unfold lfL
    rw [e1]
  have e4 : ∀ s, lfR P L p q s = lfR P L p q' s := fun s => by
    unfold lfR
    rw [e1]
  unfold aL
  rw [if_pos h1, if_pos h2, e2, e3, e4]
theorem pst_q {n q' : Nat} {G : sl_T → Bool} (h : noT P) (hq : q < sp_nt P) (hq' : q' < sp_nt P) (h1 : wd P L p q = 2) (hn : prr P G n (aL P L p q) = none) : pst P L (prr P G n) (p * sp_nt P + q') = none := by
  by_cases c : wd P L p q' = 2
  · refine pst_n ?_
    rw [(pdm hq').1, (pdm hq').2, ← aL_q h h1 c]
    exact hn
  · refine pst_no ?_
    rw [(pdm hq').1, (pdm hq').2]
    exact c
end Pl
