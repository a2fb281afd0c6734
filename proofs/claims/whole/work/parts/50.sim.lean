/-! WHAT HOLDS BETWEEN THE TWO OBJECTS, ahead of and behind each call -/
/-- a name: its letters, 1 .. 26; as the class packs it, as the reference does -/
def sn_c : List Nat → Nat
  | [] => 0
  | w :: l => w + 32 * sn_c l
def sn_m (l : List Nat) : Nat := l.foldl (fun a w => 27 * a + w) 0
def sn_ok (l : List Nat) : Prop := 1 ≤ l.length ∧ l.length ≤ 6 ∧ ∀ w ∈ l, 1 ≤ w ∧ w ≤ 26
/-! SIGNS of a rule or question: below 9 a fact (tired, height, known, day, topic, side, number, column, row), 9 'knows', 10 'lifts', 11 .. 16 + - * / min max, 17 .. 19 < > =, 20 and, 21 or, 22 not, 23 all, 100 + n the number n. As the class codes them, as the reference does. -/
def sg_c (t : Nat) : Int := if 100 ≤ t then (t : Int) - 100 else ([-7, -15, -16, -17, -4, -18, -19, -20, -21, -8, -11, -143, -145, -142, -147, -26, -27, -160, -162, -161, -23, -22, -24, 1] : List Int).getD t 0
def sg_m (t : Nat) : Int := if 100 ≤ t then 900 + (t : Int) else ([40, 41, 42, 43, 44, 45, 46, 47, 48, 60, 61, 1, 2, 3, 4, 5, 6, 7, 8, 9, 10, 11, 12, 13] : List Int).getD t 0
/-- where a sign may stand: 0 lifts, 1 tires and holds, 2 questions -/
def sg_may (kd t : Nat) : Prop := if kd = 0 then t < 6 else if kd = 1 then t < 5 else t < 4 ∨ 5 < t
/-- what waits (true: of a test), behind a sign -/
def sg_st (kd t : Nat) (s : List Bool) (s' : List Bool) : Prop :=
  (100 ≤ t ∧ t ≤ 10099 ∧ s' = false :: s) ∨ (t < 9 ∧ sg_may kd t ∧ s' = false :: s) ∨ ((t = 9 ∨ t = 10) ∧ kd = 2 ∧ ∃ r, s = false :: r ∧ s' = false :: r) ∨ (11 ≤ t ∧ t ≤ 16 ∧ ∃ r, s = false :: false :: r ∧ s' = false :: r) ∨
  (17 ≤ t ∧ t ≤ 19 ∧ ∃ r, s = false :: false :: r ∧ s' = true :: r) ∨ ((t = 20 ∨ t = 21) ∧ ∃ r, s = true :: true :: r ∧ s' = true :: r) ∨ (t = 22 ∧ ∃ r, s = true :: r ∧ s' = true :: r) ∨ (t = 23 ∧ s' = true :: s)
def sg_ok (kd : Nat) (res : Bool) : List Nat → List Bool → Prop
  | [], s => s = [res]
  | t :: l, s => ∃ s', sg_st kd t s s' ∧ s'.length ≤ 60 ∧ sg_ok kd res l s'
/-- a plain: columns, rows; topics' and people's names; the list (person, topic); crowd; the three rules, as the class codes them (the reference has none where nothing was told) -/
abbrev sp_T : Type := Nat × Nat × List (List Nat) × List (List Nat) × List (Nat × Nat) × Nat × List Nat × List Nat × List Nat × (Bool × Bool × Bool)
abbrev sp_c (P : sp_T) : Nat := P.1
abbrev sp_r (P : sp_T) : Nat := P.2.1
abbrev sp_tn (P : sp_T) : List (List Nat) := P.2.2.1
abbrev sp_pn (P : sp_T) : List (List Nat) := P.2.2.2.1
abbrev sp_li (P : sp_T) : List (Nat × Nat) := P.2.2.2.2.1
abbrev sp_cr (P : sp_T) : Nat := P.2.2.2.2.2.1
abbrev sp_fl (P : sp_T) : List Nat := P.2.2.2.2.2.2.1
abbrev sp_ft (P : sp_T) : List Nat := P.2.2.2.2.2.2.2.1
abbrev sp_fh (P : sp_T) : List Nat := P.2.2.2.2.2.2.2.2.1
abbrev sp_told (P : sp_T) : Bool × Bool × Bool := P.2.2.2.2.2.2.2.2.2
abbrev sp_nt (P : sp_T) : Nat := (sp_tn P).length
abbrev sp_np (P : sp_T) : Nat := (sp_pn P).length
/-- without a text: no columns -/
def sp_ok (P : sp_T) : Prop := ((sp_c P = 0 ∧ sp_r P = 0 ∧ sp_tn P = [] ∧ sp_pn P = [] ∧ sp_li P = []) ∨ (3 ≤ sp_c P ∧ sp_c P ≤ 7 ∧ 3 ≤ sp_r P ∧ sp_r P ≤ 7)) ∧ sp_nt P ≤ 5 ∧ sp_np P ≤ 7 ∧ (sp_li P).length ≤ 12 ∧ (∀ q ∈ sp_li P, q.1 < sp_np P ∧ q.2 < sp_nt P) ∧ sp_cr P ≤ 100 ∧ (∀ w ∈ sp_tn P, sn_ok w) ∧ (∀ w ∈ sp_pn P, sn_ok w) ∧ (sp_fl P).length ≤ 1600 ∧ (sp_ft P).length ≤ 1600 ∧ (sp_fh P).length ≤ 1600 ∧ (0 < sp_c P → sg_ok 0 false (sp_fl P) [] ∧ sg_ok 1 false (sp_ft P) [] ∧ ((sp_told P).1 = false → sp_fl P = [103]) ∧ ((sp_told P).2.1 = false → sp_ft P = [0, 101, 11]) ∧ ((sp_told P).2.2 = false → sp_fh P = [100]) ∧ ((sp_told P).2.2 = true → sg_ok 1 true (sp_fh P) []))
/-- a land: the day; heights by the class's number of a cell (row by row); of people column, row, how tired, what they know -/
abbrev sl_T : Type := Nat × (Nat → Nat) × (Nat → Nat) × (Nat → Nat) × (Nat → Nat) × (Nat → Nat)
abbrev sl_d (L : sl_T) : Nat := L.1
abbrev sl_h (L : sl_T) : Nat → Nat := L.2.1
abbrev sl_x (L : sl_T) : Nat → Nat := L.2.2.1
abbrev sl_y (L : sl_T) : Nat → Nat := L.2.2.2.1
abbrev sl_t (L : sl_T) : Nat → Nat := L.2.2.2.2.1
abbrev sl_k (L : sl_T) : Nat → Nat := L.2.2.2.2.2
/-- without a word on the day -/
def sl_in (P : sp_T) (L : sl_T) : Prop := (∀ j, j < sp_c P * sp_r P → sl_h L j ≤ 99) ∧ ∀ p, p < sp_np P → sl_x L p < sp_c P ∧ sl_y L p < sp_r P ∧ sl_t L p ≤ 9 ∧ sl_k L p < 2 ^ sp_nt P
def sl_ok (P : sp_T) (L : sl_T) : Prop := sl_d L ≤ 999 ∧ sl_in P L
/-- a formula of the class -/
def sm_form (μ : sh_Mem) (f : Nat) (l : List Nat) : Prop := sh_i μ f 1 = nI l.length ∧ ∀ j, j < l.length → sh_i μ (f + 1) j = zI (sg_c (l.getD j 0))
/-- the class's plain t -/
def sm_cP (μ : sh_Mem) (t : Nat) (P : sp_T) : Prop := sh_i μ t 0 = nI (sp_c P) ∧ sh_i μ t 1 = nI (sp_r P) ∧ sh_i μ t 2 = nI (sp_nt P) ∧ sh_i μ t 3 = nI (sp_np P) ∧ sh_i μ t 4 = nI (sp_li P).length ∧ sh_i μ t 5 = nI (sp_cr P) ∧
  (∀ j, j < sp_nt P → sh_i μ (t + 1) j = nI (sn_c ((sp_tn P).getD j []))) ∧ (∀ j, j < sp_np P → sh_i μ (t + 2) j = nI (sn_c ((sp_pn P).getD j []))) ∧
  (∀ j, j < (sp_li P).length → sh_i μ (t + 3) j = nI ((sp_li P).getD j (0, 0)).1 ∧ sh_i μ (t + 4) j = nI ((sp_li P).getD j (0, 0)).2) ∧ sm_form μ (t + 5) (sp_fl P) ∧ sm_form μ (t + 8) (sp_ft P) ∧ sm_form μ (t + 11) (sp_fh P)
/-- the class's land r -/
def sm_cL (μ : sh_Mem) (r : Nat) (P : sp_T) (L : sl_T) : Prop := sh_i μ r 0 = nI (sl_d L) ∧ (∀ j, j < sp_c P * sp_r P → sh_i μ (r + 1) j = nI (sl_h L j)) ∧ ∀ p, p < sp_np P → sh_i μ (r + 2) p = nI (sl_x L p) ∧ sh_i μ (r + 3) p = nI (sl_y L p) ∧ sh_i μ (r + 4) p = nI (sl_t L p) ∧ sh_i μ (r + 5) p = nI (sl_k L p)
/-- the reference's land: a row f of numbers, from its place o on -/
def sm_mL (f : Nat → Int32) (o : Nat) (P : sp_T) (L : sl_T) : Prop := f o = nI (sl_d L) ∧ (∀ x y, x < sp_c P → y < sp_r P → f (o + 1 + x + 7 * y) = nI (sl_h L (y * sp_c P + x))) ∧ ∀ p, p < sp_np P → f (o + 50 + 3 * p) = nI (sl_x L p + 7 * sl_y L p) ∧ f (o + 51 + 3 * p) = nI (sl_t L p) ∧ f (o + 52 + 3 * p) = nI (sl_k L p)
/-- rule k of the reference (0 lifts, 1 tires, 2 holds) -/
def sm_mF (μ : sh_Mem) (k : Nat) (told : Bool) (l : List Nat) : Prop := if told = false then sh_i μ 327 (3 + k) = zI (-1) else ∃ a b : Nat, a ≤ b ∧ b ≤ 1600 ∧ b - a = l.length ∧ sh_i μ 327 (3 + k) = nI a ∧ sh_i μ 328 (3 + k) = nI b ∧ ∀ j, j < l.length → sh_i μ 329 (1600 + a + j) = zI (sg_m (l.getD j 0))
/-- the reference's plain -/
def sm_mP (μ : sh_Mem) (P : sp_T) : Prop := sh_i μ 321 3 = nI (sp_c P) ∧ sh_i μ 321 4 = nI (sp_r P) ∧ sh_i μ 321 5 = nI (sp_cr P) ∧ sh_i μ 322 3 = nI (sp_nt P) ∧ sh_i μ 322 4 = nI (sp_np P) ∧ sh_i μ 322 5 = nI (sp_li P).length ∧ sh_i μ 291 50 = (if 0 < sp_c P then 1 else 0) ∧
  (∀ j, j < sp_nt P → sh_l μ 323 (16 + j) = lN (sn_m ((sp_tn P).getD j []))) ∧ (∀ j, j < sp_np P → sh_l μ 323 (24 + j) = lN (sn_m ((sp_pn P).getD j []))) ∧
  (∀ j, j < (sp_li P).length → sh_i μ 326 (24 + 2 * j) = nI ((sp_li P).getD j (0, 0)).1 ∧ sh_i μ 326 (25 + 2 * j) = nI ((sp_li P).getD j (0, 0)).2) ∧ sm_mF μ 0 (sp_told P).1 (sp_fl P) ∧ sm_mF μ 1 (sp_told P).2.1 (sp_ft P) ∧ sm_mF μ 2 (sp_told P).2.2 (sp_fh P)
def sm_tape (μ : sh_Mem) : Prop := ∃ n, n ≤ 1600 ∧ sh_i μ 0 1 = nI n ∧ sh_i μ 291 1 = nI n ∧ ∀ j, j < 1600 → sh_i μ 1 j = sh_i μ 292 j ∧ ∃ b, b < 256 ∧ sh_i μ 1 j = nI b
def sm_fault (μ : sh_Mem) : Prop := sh_i μ 0 14 = sh_i μ 291 7 ∧ sh_i μ 0 15 = sh_i μ 291 8
def sm_ref (μ : sh_Mem) : Prop := ∀ k, k < 6 → sh_i μ 290 k = sh_i μ 293 k
def sm_seed (μ : sh_Mem) : Prop := ∃ z : Nat, z < 2 ^ 31 ∧ sh_l μ 0 16 = lN z ∧ sh_l μ 291 78 = lN z
def sm_pic (μ : sh_Mem) : Prop := ∃ n, n ≤ 80 ∧ sh_i μ 0 18 = nI n ∧ sh_i μ 291 113 = nI n ∧ ∀ j, j < n → sh_i μ 289 j = sh_i μ 367 j
/-- what is kept: n rows of four, in the class's row r, in the reference's row f from its place o on -/
def sm_kept (c : Nat → Int32) (cn : Int32) (f : Nat → Int32) (o : Nat) : Prop := ∃ n, n ≤ 40 ∧ cn = nI n ∧ f (o + 71) = nI n ∧ ∀ j, j < 4 * n → c j = f (o + 72 + j)
/-- the acts that can be undone: the i-th latest of a -/
def sm_undo (μ : sh_Mem) (P : sp_T) : Prop := ∃ a o w : Nat, a ≤ 20 ∧ o < 20 ∧ w < 20 ∧ sh_i μ 63 2 = nI a ∧ sh_i μ 63 3 = nI o ∧ sh_i μ 291 76 = nI a ∧ sh_i μ 291 77 = nI w ∧
  ∀ i, i < a → (∃ L, sl_ok P L ∧ sm_cL μ (88 + 6 * ((o + (a - 1 - i)) % 20)) P L ∧ sm_mL (sh_i μ 340) (232 * ((w + 20 - i) % 20)) P L) ∧ sm_kept (sh_i μ (67 + (o + (a - 1 - i)) % 20)) (sh_i μ 87 ((o + (a - 1 - i)) % 20)) (sh_i μ 340) (232 * ((w + 20 - i) % 20))
def sm_seen (μ : sh_Mem) (P : sp_T) : Prop := ∃ n, n ≤ 16 ∧ sh_i μ 208 4 = nI n ∧ sh_i μ 291 71 = nI n ∧ ∀ j, j < n → ∃ d x y h : Nat, d ≤ 30 ∧ x < sp_c P ∧ y < sp_r P ∧ h ≤ 99 ∧ sh_i μ 216 (4 * j) = nI d ∧ sh_i μ 216 (4 * j + 1) = nI x ∧ sh_i μ 216 (4 * j + 2) = nI y ∧ sh_i μ 216 (4 * j + 3) = nI h ∧ sh_i μ 338 (3 * j) = nI d ∧ sh_i μ 338 (3 * j + 1) = nI (x + 7 * y) ∧ sh_i μ 338 (3 * j + 2) = nI h
/-- which of the two plains is told, and the rest that refers -/
def sm_refs (μ : sh_Mem) (t : Nat) : Prop := sh_isP t ∧ sh_r μ 0 7 = some t ∧ sh_r μ 55 0 = some t ∧ (∃ t', sh_isP t' ∧ t' ≠ t ∧ sh_r μ 7 2 = some t') ∧ ∃ f, sh_isF f ∧ sh_r μ 6 1 = some f
/-- the words that the reference compares with: cells of chars, never written again -/
def sw_T : List (Nat × List Nat) := [(294, [112, 108, 97, 105, 110]), (295, [98, 121]), (296, [104, 105, 103, 104]), (297, [116, 111, 112, 105, 99]), (298, [112, 101, 114, 115, 111, 110]), (299, [97, 116]), (300, [116, 105, 114, 101, 100]), (301, [107, 110, 111, 119, 115]), (302, [111, 102]), (303, [97, 115, 107, 115]), (304, [108, 105, 102, 116, 115]), (305, [116, 105, 114, 101, 115]), (306, [104, 111, 108, 100, 115]), (307, [99, 114, 111, 119, 100]), (308, [104, 101, 105, 103, 104, 116]), (309, [107, 110, 111, 119, 110]), (310, [100, 97, 121]), (311, [115, 105, 100, 101]), (312, [110, 117, 109, 98, 101, 114]), (313, [99, 111, 108, 117, 109, 110]), (314, [114, 111, 119]), (315, [111, 114]), (316, [97, 110, 100]), (317, [110, 111, 116]), (318, [97, 108, 108]), (319, [109, 105, 110]), (320, [109, 97, 120]), (341, [102, 105, 114, 115, 116]), (342, [108, 97, 115, 116]), (343, [111, 102, 116, 101, 110]), (344, [116, 111, 116, 97, 108]), (345, [109, 111, 115, 116]), (346, [108, 101, 97, 115, 116]), (347, [110, 111, 116]), (348, [97, 110, 100]), (349, [111, 114]), (350, [97, 108, 108]), (351, [109, 105, 110]), (352, [109, 97, 120]), (353, [116, 105, 114, 101, 100]), (354, [104, 101, 105, 103, 104, 116]), (355, [107, 110, 111, 119, 110]), (356, [100, 97, 121]), (357, [116, 111, 112, 105, 99]), (358, [115, 105, 100, 101]), (359, [110, 117, 109, 98, 101, 114]), (360, [99, 111, 108, 117, 109, 110]), (361, [114, 111, 119]), (362, [107, 110, 111, 119, 115]), (363, [108, 105, 102, 116, 115])]
def sm_W (μ : sh_Mem) : Prop := ∀ q ∈ sw_T, ∀ j, j < q.2.length → sh_i μ q.1 j = nI (q.2.getD j 0)
def sm_rest (μ : sh_Mem) (t : Nat) (P : sp_T) (L : sl_T) : Prop := sm_refs μ t ∧ sp_ok P ∧ sl_ok P L ∧ sm_cP μ t P ∧ sm_mP μ P ∧ sm_cL μ 49 P L ∧ sm_mL (sh_i μ 330) 0 P L ∧ sm_kept (sh_i μ 64) (sh_i μ 63 1) (sh_i μ 330) 0 ∧ sm_undo μ P ∧ sm_seen μ P ∧ sh_i μ 291 57 = 0 ∧ sh_i μ 291 60 = 0 ∧ sh_i μ 22 0 = 0 ∧ sh_i μ 43 0 = 0 ∧ sm_W μ
def Sim (μ : sh_Mem) : Prop := sh_G μ ∧ sm_tape μ ∧ sm_fault μ ∧ sm_ref μ ∧ sm_seed μ ∧ sm_pic μ ∧ ∃ (t : Nat) (P : sp_T) (L : sl_T), sm_rest μ t P L
theorem Sim.G {μ : sh_Mem} (h : Sim μ) : sh_G μ := h.1
