/-! WHAT A TEXT TELLS: its statements -/
def xb {α β : Type} (x : xo α) (f : α → xo β) : xo β := match x with
  | .inl e => .inl e
  | .inr a => f a
abbrev dT : Type := sp_T × sl_T
abbrev xd : Type := xo (xs × dT)
/-- what a statement changes -/
def dl_h (L : sl_T) (j h : Nat) : sl_T := (sl_d L, fun i => if i = j then h else sl_h L i, sl_x L, sl_y L, sl_t L, sl_k L)
def dl_p (L : sl_T) (p x y t : Nat) : sl_T := (sl_d L, sl_h L, fun i => if i = p then x else sl_x L i, fun i => if i = p then y else sl_y L i, fun i => if i = p then t else sl_t L i, fun i => if i = p then 0 else sl_k L i)
def dl_k (L : sl_T) (p q : Nat) : sl_T := (sl_d L, sl_h L, sl_x L, sl_y L, sl_t L, fun i => if i = p then sl_k L p ||| 2 ^ q else sl_k L i)
def dp_t (P : sp_T) (w : List Nat) : sp_T := (sp_c P, sp_r P, sp_tn P ++ [w], sp_pn P, sp_li P, sp_cr P, sp_fl P, sp_ft P, sp_fh P, sp_told P)
def dp_p (P : sp_T) (w : List Nat) : sp_T := (sp_c P, sp_r P, sp_tn P, sp_pn P ++ [w], sp_li P, sp_cr P, sp_fl P, sp_ft P, sp_fh P, sp_told P)
def dp_l (P : sp_T) (p q : Nat) : sp_T := (sp_c P, sp_r P, sp_tn P, sp_pn P, sp_li P ++ [(p, q)], sp_cr P, sp_fl P, sp_ft P, sp_fh P, sp_told P)
def dp_c (P : sp_T) (v : Nat) : sp_T := (sp_c P, sp_r P, sp_tn P, sp_pn P, sp_li P, v, sp_fl P, sp_ft P, sp_fh P, sp_told P)
def dp_0 (P : sp_T) (l : List Nat) : sp_T := (sp_c P, sp_r P, sp_tn P, sp_pn P, sp_li P, sp_cr P, l, sp_ft P, sp_fh P, (true, (sp_told P).2.1, (sp_told P).2.2))
def dp_1 (P : sp_T) (l : List Nat) : sp_T := (sp_c P, sp_r P, sp_tn P, sp_pn P, sp_li P, sp_cr P, sp_fl P, l, sp_fh P, ((sp_told P).1, true, (sp_told P).2.2))
def dp_2 (P : sp_T) (l : List Nat) : sp_T := (sp_c P, sp_r P, sp_tn P, sp_pn P, sp_li P, sp_cr P, sp_fl P, sp_ft P, l, ((sp_told P).1, (sp_told P).2.1, true))
section Sp
variable (T : Nat → Nat) (n : Nat)
def st_high (P : sp_T) (L : sl_T) (s : xs) : xd := xb (x_num T n 0 (sp_c P - 1) (xA T n s)) fun a => xb (x_num T n 0 (sp_r P - 1) a.2) fun c => xb (x_num T n 0 99 c.2) fun h => .inr (h.2, P, dl_h L (c.1 * sp_c P + a.1) h.1)
def isNw (P : sp_T) (w : List Nat) : Prop := wIx w (sp_tn P) 0 = -1 ∧ wIx w (sp_pn P) 0 = -1
def st_topic (P : sp_T) (L : sl_T) (s : xs) : xd := xb (x_name T n (xA T n s)) fun a => if wIx a.1 (sp_tn P) 0 = -1 ∧ wIx a.1 (sp_pn P) 0 = -1 then .inr (a.2, dp_t P a.1, L) else .inl (3, (xA T n s).1)
def st_person (P : sp_T) (L : sl_T) (s : xs) : xd := xb (x_name T n (xA T n s)) fun a => if wIx a.1 (sp_tn P) 0 = -1 ∧ wIx a.1 (sp_pn P) 0 = -1 then (xb (x_word T n 5 a.2) fun s2 => xb (x_num T n 0 (sp_c P - 1) s2) fun x => xb (x_num T n 0 (sp_r P - 1) x.2) fun y => if ∀ p, p < sp_np P → ¬ (sl_x L p = x.1 ∧ sl_y L p = y.1) then (xb (x_word T n 6 y.2) fun s5 => xb (x_num T n 0 9 s5) fun t => .inr (t.2, dp_p P a.1, dl_p L (sp_np P) x.1 y.1 t.1)) else .inl (2, x.2.1)) else .inl (3, (xA T n s).1)
/-- a person, then a topic -/
def st_two (P : sp_T) (s : xs) (f : Nat → Nat → xs → xs → xd) : xd := xb (x_name T n (xA T n s)) fun a => if wIx a.1 (sp_pn P) 0 = -1 then .inl (3, (xA T n s).1) else xb (x_word T n 8 a.2) fun s2 => xb (x_name T n s2) fun c => if wIx c.1 (sp_tn P) 0 = -1 then .inl (3, s2.1) else f (wIx a.1 (sp_pn P) 0).toNat (wIx c.1 (sp_tn P) 0).toNat s2 c.2
def st_knows (P : sp_T) (L : sl_T) (s : xs) : xd := st_two T n P s fun p q s2 s3 => if sl_k L p / 2 ^ q % 2 = 1 then .inl (3, s2.1) else .inr (s3, P, dl_k L p q)
def st_asks (P : sp_T) (L : sl_T) (s : xs) : xd := st_two T n P s fun p q _ s3 => .inr (s3, dp_l P p q, L)
def st_crowd (P : sp_T) (L : sl_T) (s : xs) : xd := xb (x_num T n 0 100 (xA T n s)) fun a => .inr (a.2, dp_c P a.1, L)
def st_f (g : List Nat → sp_T) (L : sl_T) (q : xp) : xd := xb q fun a => .inr (a.1, g a.2, L)
/-- one statement -/
def SRt (s : xs) (P : sp_T) (L : sl_T) (r : xd) : Prop :=
  if xw T n s = 2 then r = st_high T n P L s
  else if xw T n s = 3 then r = (if 5 ≤ sp_nt P then .inl (5, s.1) else st_topic T n P L s)
  else if xw T n s = 4 then r = (if 7 ≤ sp_np P then .inl (5, s.1) else st_person T n P L s)
  else if xw T n s = 7 then r = st_knows T n P L s
  else if xw T n s = 9 then r = (if 12 ≤ (sp_li P).length then .inl (5, s.1) else st_asks T n P L s)
  else if xw T n s = 10 then (if (sp_told P).1 = true then r = .inl (5, s.1) else ∃ q, PT T n 0 7 0 (xA T n s) q ∧ r = st_f (dp_0 P) L q)
  else if xw T n s = 11 then (if (sp_told P).2.1 = true then r = .inl (5, s.1) else ∃ q, PT T n 1 7 0 (xA T n s) q ∧ r = st_f (dp_1 P) L q)
  else if xw T n s = 12 then (if (sp_told P).2.2 = true then r = .inl (5, s.1) else ∃ q, PT T n 1 9 0 (xA T n s) q ∧ r = st_f (dp_2 P) L q)
  else if xw T n s = 13 then r = st_crowd T n P L s
  else r = .inl (1, s.1)
/-- all of them: k more may come -/
def LRt : Nat → xs → sp_T → sl_T → xo (Nat × dT) → Prop
  | 0, s, P, L, r => if xK T n s.1 s.2 = -1 then r = .inr (80, P, L) else r = .inl (5, s.1)
  | k + 1, s, P, L, r => if xK T n s.1 s.2 = -1 then r = .inr (80 - (k + 1), P, L) else ∃ r1, SRt T n s P L r1 ∧ (match r1 with
    | .inl e => r = .inl e
    | .inr q => match x_mark T n 59 q.1 with
      | .inl e => r = .inl e
      | .inr s2 => LRt k s2 q.2.1 q.2.2 r)
/-- the head of a text -/
def st_plain (s : xs) : xo (Nat × Nat × xs) := xb (x_word T n 0 s) fun s1 => xb (x_num T n 3 7 s1) fun a => xb (x_word T n 1 a.2) fun s3 => xb (x_num T n 3 7 s3) fun c => xb (x_mark T n 59 c.2) fun s5 => .inr (a.1, c.1, s5)
def dp_n (c r : Nat) : sp_T := (c, r, [], [], [], 0, [103], [0, 101, 11], [100], (false, false, false))
def dl_n : sl_T := (0, fun _ => 50, fun _ => 0, fun _ => 0, fun _ => 0, fun _ => 0)
/-- a whole text -/
def TRt (s : xs) (r : xo (Nat × dT)) : Prop := match st_plain T n s with
  | .inl e => r = .inl e
  | .inr q => LRt T n 79 q.2.2 (dp_n q.1 q.2.1) dl_n r
end Sp
def dOK (P : sp_T) (L : sl_T) : Prop := sp_ok P ∧ 3 ≤ sp_c P ∧ sl_ok P L ∧ sl_d L = 0
section Sp2
variable {T : Nat → Nat} {n : Nat}
theorem dOK.n0 {c r : Nat} (hc : 3 ≤ c ∧ c ≤ 7) (hr : 3 ≤ r ∧ r ≤ 7) : dOK (dp_n c r) dl_n := by
  refine ⟨⟨Or.inr ⟨hc.1, hc.2, hr.1, hr.2⟩, Nat.zero_le 5, Nat.zero_le 7, Nat.zero_le 12, fun q h => (by cases h), Nat.zero_le 100, fun w h => (by cases h), fun w h => (by cases h), show 1 ≤ 1600 by omega, show 3 ≤ 1600 by omega, show 1 ≤ 1600 by omega, fun _ => ⟨?_, ?_, fun _ => rfl, fun _ => rfl, fun _ => rfl, fun h => (by cases h)⟩⟩, hc.1, ⟨Nat.zero_le 999, fun _ _ => by show 50 ≤ 99; omega, fun p h => absurd h (Nat.not_lt_zero p)⟩, rfl⟩
  · exact ⟨[false], Or.inl ⟨by omega, by omega, rfl⟩, by decide, rfl⟩
  · refine ⟨[false], Or.inr (Or.inl ⟨by omega, by unfold sg_may; decide, rfl⟩), by decide, [false, false], Or.inl ⟨by omega, by omega, rfl⟩, by decide, [false], Or.inr (Or.inr (Or.inr (Or.inl ⟨by omega, by omega, [], rfl, rfl⟩))), by decide, rfl⟩
theorem wIx_l (l : List Nat) : ∀ (r : List (List Nat)) (i : Nat), ¬ wIx l r i = -1 → ∃ k : Nat, wIx l r i = ((i + k : Nat) : Int) ∧ k < r.length := by
  intro r
  induction r with
  | nil => intro i h; exact absurd rfl h
  | cons a r ih =>
    intro i h
    unfold wIx at h ⊢
    split
    · exact ⟨0, by simp, Nat.succ_pos _⟩
    · rename_i c
      rw [if_neg c] at h
      obtain ⟨k, h1, h2⟩ := ih (i + 1) h
      exact ⟨k + 1, by rw [h1]; congr 1; omega, Nat.succ_lt_succ h2⟩
theorem x_name_r {s : xs} {q : List Nat × xs} (h : x_name T n s = .inr q) : xK T n s.1 s.2 = -2 ∧ q.2 = xA T n s ∧ sn_ok q.1 := by
  unfold x_name at h
  split at h
  · rename_i c
    split at h
    · rename_i c6
      split at h
      · cases h
        obtain ⟨h1, h2, h3⟩ := xK_2 c
        have hE := xE_lt (T := T) h1
        have hEe : xE T n s.1 = xR (xL T) (n - s.1) s.1 := by unfold xE; rw [if_neg (show ¬ n ≤ s.1 by omega), if_pos h2]
        refine ⟨c, rfl, ?_, ?_, ?_⟩
        · show 1 ≤ (xW T s.1 (xE T n s.1 - s.1)).length
          rw [xW_len]; omega
        · show (xW T s.1 (xE T n s.1 - s.1)).length ≤ 6
          rw [xW_len]; omega
        · exact xW_ok (fun j hj => xR_in (q := xL T) (n - s.1) s.1 (s.1 + j) (by omega) (by rw [← hEe]; omega))
      · cases h
    · cases h
  · cases h
theorem x_word_r {w : Int} {s s' : xs} (h : x_word T n w s = .inr s') : xw T n s = w ∧ s' = xA T n s := by
  unfold x_word at h
  split at h
  · rename_i c
    cases h
    exact ⟨c, rfl⟩
  · cases h
theorem x_mark_r {c : Int} {s s' : xs} (h : x_mark T n c s = .inr s') : xK T n s.1 s.2 = c ∧ s' = xA T n s := by
  unfold x_mark at h
  split at h
  · rename_i c
    cases h
    exact ⟨c, rfl⟩
  · cases h
end Sp2
