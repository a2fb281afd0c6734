/-! WHAT HOLDS BETWEEN THE TWO OBJECTS, ahead of and behind each call -/
/-- a name: its letters, 1 .. 26; as the class packs it, as the reference does -/
def sn_c : List Nat → Nat
  | [] => 0
  | w :: l => w + 32 * sn_c l
def sn_m (l : List Nat) : Nat := l.foldl (fun a w => 27 * a + w) 0
def sn_ok (l : List Nat) : Prop := 1 ≤ l.length ∧ l.length ≤ 6 ∧ ∀ w ∈ l, 1 ≤ w ∧ w ≤ 26
/-- a plain: columns, rows; topics' and people's names; the list (person, topic); crowd; the three rules, as the class codes them (the reference has none where nothing was told) -/
abbrev sp_T : Type := Nat × Nat × List (List Nat) × List (List Nat) × List (Nat × Nat) × Nat × List Int32 × List Int32 × List Int32 × (Bool × Bool × Bool)
abbrev sp_c (P : sp_T) : Nat := P.1
abbrev sp_r (P : sp_T) : Nat := P.2.1
abbrev sp_tn (P : sp_T) : List (List Nat) := P.2.2.1
abbrev sp_pn (P : sp_T) : List (List Nat) := P.2.2.2.1
abbrev sp_li (P : sp_T) : List (Nat × Nat) := P.2.2.2.2.1
abbrev sp_cr (P : sp_T) : Nat := P.2.2.2.2.2.1
abbrev sp_fl (P : sp_T) : List Int32 := P.2.2.2.2.2.2.1
abbrev sp_ft (P : sp_T) : List Int32 := P.2.2.2.2.2.2.2.1
abbrev sp_fh (P : sp_T) : List Int32 := P.2.2.2.2.2.2.2.2.1
abbrev sp_told (P : sp_T) : Bool × Bool × Bool := P.2.2.2.2.2.2.2.2.2
abbrev sp_nt (P : sp_T) : Nat := (sp_tn P).length
abbrev sp_np (P : sp_T) : Nat := (sp_pn P).length
/-- without a text: no columns -/
def sp_ok (P : sp_T) : Prop := ((sp_c P = 0 ∧ sp_r P = 0 ∧ sp_tn P = [] ∧ sp_pn P = [] ∧ sp_li P = []) ∨ (3 ≤ sp_c P ∧ sp_c P ≤ 7 ∧ 3 ≤ sp_r P ∧ sp_r P ≤ 7)) ∧ sp_nt P ≤ 5 ∧ sp_np P ≤ 7 ∧ (sp_li P).length ≤ 12 ∧ (∀ q ∈ sp_li P, q.1 < sp_np P ∧ q.2 < sp_nt P) ∧ sp_cr P ≤ 100 ∧ (∀ w ∈ sp_tn P, sn_ok w) ∧ (∀ w ∈ sp_pn P, sn_ok w) ∧ (sp_fl P).length ≤ 1600 ∧ (sp_ft P).length ≤ 1600 ∧ (sp_fh P).length ≤ 1600
/-- a land: the day; heights by the class's number of a cell (row by row); of people column, row, how tired, what they know -/
abbrev sl_T : Type := Nat × (Nat → Nat) × (Nat → Nat) × (Nat → Nat) × (Nat → Nat) × (Nat → Nat)
abbrev sl_d (L : sl_T) : Nat := L.1
abbrev sl_h (L : sl_T) : Nat → Nat := L.2.1
abbrev sl_x (L : sl_T) : Nat → Nat := L.2.2.1
abbrev sl_y (L : sl_T) : Nat → Nat := L.2.2.2.1
abbrev sl_t (L : sl_T) : Nat → Nat := L.2.2.2.2.1
abbrev sl_k (L : sl_T) : Nat → Nat := L.2.2.2.2.2
def sl_ok (P : sp_T) (L : sl_T) : Prop := sl_d L ≤ 999 ∧ (∀ j, j < sp_c P * sp_r P → sl_h L j ≤ 99) ∧ ∀ p, p < sp_np P → sl_x L p < sp_c P ∧ sl_y L p < sp_r P ∧ sl_t L p ≤ 9 ∧ sl_k L p < 2 ^ sp_nt P
/-- a row of numbers begins with a list -/
def sm_row (μ : sh_Mem) (r : Nat) (l : List Int32) : Prop := ∀ j, j < l.length → sh_i μ r j = l.getD j 0
def sm_form (μ : sh_Mem) (f : Nat) (l : List Int32) : Prop := sh_i μ f 1 = nI l.length ∧ sm_row μ (f + 1) l
/-- the class's plain t -/
def sm_cP (μ : sh_Mem) (t : Nat) (P : sp_T) : Prop := sh_i μ t 0 = nI (sp_c P) ∧ sh_i μ t 1 = nI (sp_r P) ∧ sh_i μ t 2 = nI (sp_nt P) ∧ sh_i μ t 3 = nI (sp_np P) ∧ sh_i μ t 4 = nI (sp_li P).length ∧ sh_i μ t 5 = nI (sp_cr P) ∧
  (∀ j, j < sp_nt P → sh_i μ (t + 1) j = nI (sn_c ((sp_tn P).getD j []))) ∧ (∀ j, j < sp_np P → sh_i μ (t + 2) j = nI (sn_c ((sp_pn P).getD j []))) ∧
  (∀ j, j < (sp_li P).length → sh_i μ (t + 3) j = nI ((sp_li P).getD j (0, 0)).1 ∧ sh_i μ (t + 4) j = nI ((sp_li P).getD j (0, 0)).2) ∧ sm_form μ (t + 5) (sp_fl P) ∧ sm_form μ (t + 8) (sp_ft P) ∧ sm_form μ (t + 11) (sp_fh P)
/-- the class's land r -/
def sm_cL (μ : sh_Mem) (r : Nat) (P : sp_T) (L : sl_T) : Prop := sh_i μ r 0 = nI (sl_d L) ∧ (∀ j, j < sp_c P * sp_r P → sh_i μ (r + 1) j = nI (sl_h L j)) ∧ ∀ p, p < sp_np P → sh_i μ (r + 2) p = nI (sl_x L p) ∧ sh_i μ (r + 3) p = nI (sl_y L p) ∧ sh_i μ (r + 4) p = nI (sl_t L p) ∧ sh_i μ (r + 5) p = nI (sl_k L p)
/-- the reference's land: a row f of numbers, from its place o on -/
def sm_mL (f : Nat → Int32) (o : Nat) (P : sp_T) (L : sl_T) : Prop := f o = nI (sl_d L) ∧ (∀ x y, x < sp_c P → y < sp_r P → f (o + 1 + x + 7 * y) = nI (sl_h L (y * sp_c P + x))) ∧ ∀ p, p < sp_np P → f (o + 50 + 3 * p) = nI (sl_x L p + 7 * sl_y L p) ∧ f (o + 51 + 3 * p) = nI (sl_t L p) ∧ f (o + 52 + 3 * p) = nI (sl_k L p)
/-- a code of the class as the reference has it: numbers, parts, 'all' is the number 1 to the class -/
def sm_code (c : Int32) (m : Int32) : Prop := (0 ≤ c ∧ c ≤ 9999 ∧ (m = 1000 + c ∨ (c = 1 ∧ m = 13))) ∨ (c, m) ∈ ([(-7, 40), (-15, 41), (-16, 42), (-17, 43), (-4, 44), (-18, 45), (-19, 46), (-20, 47), (-21, 48), (-8, 60), (-11, 61), (-143, 1), (-145, 2), (-142, 3), (-147, 4), (-26, 5), (-27, 6), (-160, 7), (-162, 8), (-161, 9), (-23, 10), (-22, 11), (-24, 12)] : List (Int32 × Int32))
/-- rule k of the reference (0 lifts, 1 tires, 2 holds) -/
def sm_mF (μ : sh_Mem) (k : Nat) (told : Bool) (l d : List Int32) : Prop := match told with
  | false => sh_i μ 327 (3 + k) = -1 ∧ l = d
  | true => ∃ a b : Nat, a ≤ b ∧ b ≤ 1600 ∧ b - a = l.length ∧ sh_i μ 327 (3 + k) = nI a ∧ sh_i μ 328 (3 + k) = nI b ∧ ∀ j, j < l.length → sm_code (l.getD j 0) (sh_i μ 329 (1600 + a + j))
/-- the reference's plain -/
def sm_mP (μ : sh_Mem) (P : sp_T) : Prop := sh_i μ 321 3 = nI (sp_c P) ∧ sh_i μ 321 4 = nI (sp_r P) ∧ sh_i μ 321 5 = nI (sp_cr P) ∧ sh_i μ 322 3 = nI (sp_nt P) ∧ sh_i μ 322 4 = nI (sp_np P) ∧ sh_i μ 322 5 = nI (sp_li P).length ∧ sh_i μ 291 50 = (if 0 < sp_c P then 1 else 0) ∧
  (∀ j, j < sp_nt P → sh_l μ 323 (16 + j) = lN (sn_m ((sp_tn P).getD j []))) ∧ (∀ j, j < sp_np P → sh_l μ 323 (24 + j) = lN (sn_m ((sp_pn P).getD j []))) ∧
  (∀ j, j < (sp_li P).length → sh_i μ 326 (24 + 2 * j) = nI ((sp_li P).getD j (0, 0)).1 ∧ sh_i μ 326 (25 + 2 * j) = nI ((sp_li P).getD j (0, 0)).2) ∧ sm_mF μ 0 (sp_told P).1 (sp_fl P) [3] ∧ sm_mF μ 1 (sp_told P).2.1 (sp_ft P) [-7, 1, -143] ∧ sm_mF μ 2 (sp_told P).2.2 (sp_fh P) [0]
def sm_tape (μ : sh_Mem) : Prop := ∃ n, n ≤ 1600 ∧ sh_i μ 0 1 = nI n ∧ sh_i μ 291 1 = nI n ∧ ∀ j, j < 1600 → sh_i μ 1 j = sh_i μ 292 j ∧ ∃ b, b < 256 ∧ sh_i μ 1 j = nI b
def sm_fault (μ : sh_Mem) : Prop := sh_i μ 0 14 = sh_i μ 291 7 ∧ sh_i μ 0 15 = sh_i μ 291 8
def sm_ref (μ : sh_Mem) : Prop := ∀ k, k < 6 → sh_i μ 290 k = sh_i μ 293 k
def sm_seed (μ : sh_Mem) : Prop := ∃ z : Nat, z < 2 ^ 31 ∧ sh_l μ 0 16 = lN z ∧ sh_l μ 291 78 = lN z
def sm_pic (μ : sh_Mem) : Prop := ∃ n, n ≤ 80 ∧ sh_i μ 0 18 = nI n ∧ sh_i μ 291 113 = nI n ∧ ∀ j, j < n → sh_i μ 289 j = sh_i μ 367 j
/-- what is kept: n rows of four, in the class's row r, in the reference's row f from its place o on -/
def sm_kept (c : Nat → Int32) (cn : Int32) (f : Nat → Int32) (o : Nat) : Prop := ∃ n, n ≤ 40 ∧ cn = nI n ∧ f (o + 71) = nI n ∧ ∀ j, j < 4 * n → c j = f (o + 72 + j)
/-- the acts that can be undone: the i-th latest of a -/
def sm_undo (μ : sh_Mem) (P : sp_T) : Prop := ∃ a o w : Nat, a ≤ 20 ∧ o < 20 ∧ w < 20 ∧ sh_i μ 63 2 = nI a ∧ sh_i μ 63 3 = nI o ∧ sh_i μ 291 76 = nI a ∧ sh_i μ 291 77 = nI w ∧
  ∀ i, i < a → (∃ L, sl_ok P L ∧ sm_cL μ (88 + 6 * ((o + (a - 1 - i)) % 20)) P L ∧ sm_mL (sh_i μ 340) (232 * ((w + 20 - i) % 20)) P L) ∧ sm_kept (sh_i μ (67 + (o + (a - 1 - i)) % 20)) (sh_i μ 87 ((o + (a - 1 - i)) % 20)) (sh_i μ 340) (232 * ((w + 20 - i) % 20))
def sm_seen (μ : sh_Mem) (P : sp_T) : Prop := ∃ n, n ≤ 16 ∧ sh_i μ 208 4 = nI n ∧ sh_i μ 291 71 = nI n ∧ ∀ j, j < n → ∃ d x y h : Nat, d ≤ 30 ∧ x < sp_c P ∧ y < sp_r P ∧ h ≤ 99 ∧ sh_i μ 216 (4 * j) = nI d ∧ sh_i μ 216 (4 * j + 1) = nI x ∧ sh_i μ 216 (4 * j + 2) = nI y ∧ sh_i μ 216 (4 * j + 3) = nI h ∧ sh_i μ 338 (3 * j) = nI d ∧ sh_i μ 338 (3 * j + 1) = nI (x + 7 * y) ∧ sh_i μ 338 (3 * j + 2) = nI h
/-- which of the two plains is told, and the rest that refers -/
def sm_refs (μ : sh_Mem) (t : Nat) : Prop := sh_isP t ∧ sh_r μ 0 7 = some t ∧ sh_r μ 55 0 = some t ∧ (∃ t', sh_isP t' ∧ t' ≠ t ∧ sh_r μ 7 2 = some t') ∧ ∃ f, sh_isF f ∧ sh_r μ 6 1 = some f
def Sim (μ : sh_Mem) : Prop := sh_G μ ∧ sm_tape μ ∧ sm_fault μ ∧ sm_ref μ ∧ sm_seed μ ∧ sm_pic μ ∧ ∃ (t : Nat) (P : sp_T) (L : sl_T), sm_refs μ t ∧ sp_ok P ∧ sl_ok P L ∧ sm_cP μ t P ∧ sm_mP μ P ∧ sm_cL μ 49 P L ∧ sm_mL (sh_i μ 330) 0 P L ∧ sm_kept (sh_i μ 64) (sh_i μ 63 1) (sh_i μ 330) 0 ∧ sm_undo μ P ∧ sm_seen μ P ∧ sh_i μ 291 57 = 0 ∧ sh_i μ 291 60 = 0
theorem Sim.G {μ : sh_Mem} (h : Sim μ) : sh_G μ := h.1
