/-! TEXTS: words, numbers and marks -/
/-- from a on, as long as q holds -/
def xR (q : Nat → Bool) : Nat → Nat → Nat
  | 0, a => a
  | g + 1, a => if q a = true then xR q g (a + 1) else a
theorem xR_le (q : Nat → Bool) : ∀ g a, a ≤ xR q g a ∧ xR q g a ≤ a + g := by
  intro g
  induction g with
  | zero => intro a; exact ⟨Nat.le_refl a, Nat.le_refl a⟩
  | succ g ih =>
    intro a
    unfold xR
    split
    · have := ih (a + 1); omega
    · omega
theorem xR_in {q : Nat → Bool} : ∀ g a j, a ≤ j → j < xR q g a → q j = true := by
  intro g
  induction g with
  | zero => intro a j h1 h2; exact absurd h2 (by show ¬ j < a; omega)
  | succ g ih =>
    intro a j h1 h2
    unfold xR at h2
    split at h2
    · rename_i c
      by_cases z : j = a
      · rw [z]; exact c
      · exact ih (a + 1) j (by omega) h2
    · omega
theorem xR_end {q : Nat → Bool} : ∀ g a, xR q g a < a + g → q (xR q g a) = false := by
  intro g
  induction g with
  | zero => intro a h; exact absurd h (by show ¬ a < a + 0; omega)
  | succ g ih =>
    intro a h
    unfold xR at h ⊢
    split
    · rename_i c
      rw [if_pos c] at h
      exact ih (a + 1) (by omega)
    · rename_i c
      exact Bool.eq_false_iff.mpr c
def xB (T : Nat → Nat) (j : Nat) : Bool := decide (T j = 10 ∨ T j = 32)
def xL (T : Nat → Nat) (j : Nat) : Bool := decide (97 ≤ T j ∧ T j ≤ 122)
def xD (T : Nat → Nat) (j : Nat) : Bool := decide (48 ≤ T j ∧ T j ≤ 57)
/-- behind blanks -/
def xS (T : Nat → Nat) (n a : Nat) : Nat := xR (xB T) (n - a) a
/-- behind the word, number or mark that begins at a -/
def xE (T : Nat → Nat) (n a : Nat) : Nat := if n ≤ a then a else if xL T a = true then xR (xL T) (n - a) a else if xD T a = true then xR (xD T) (n - a) a else a + 1
/-- its kind; g: it touches the word or number ahead of it -/
def xK (T : Nat → Nat) (n a : Nat) (g : Bool) : Int := if n ≤ a then -1 else if xL T a = true then (if g = true then -4 else -2) else if xD T a = true then (if g = true then -4 else -3) else (T a : Int)
/-- k letters from a on -/
def xW (T : Nat → Nat) (a k : Nat) : List Nat := (List.range k).map (fun i => T (a + i) - 96)
/-- the number of k digits from a on -/
def xV (T : Nat → Nat) (a : Nat) : Nat → Nat
  | 0 => 0
  | k + 1 => xV T a k * 10 + (T (a + k) - 48)
/-- the words, by number -/
def WD : List (List Nat) := [[16, 12, 1, 9, 14], [2, 25], [8, 9, 7, 8], [20, 15, 16, 9, 3], [16, 5, 18, 19, 15, 14], [1, 20], [20, 9, 18, 5, 4], [11, 14, 15, 23, 19], [15, 6], [1, 19, 11, 19], [12, 9, 6, 20, 19], [20, 9, 18, 5, 19], [8, 15, 12, 4, 19], [3, 18, 15, 23, 4], [8, 5, 9, 7, 8, 20], [11, 14, 15, 23, 14], [4, 1, 25], [19, 9, 4, 5], [14, 21, 13, 2, 5, 18], [3, 15, 12, 21, 13, 14], [18, 15, 23], [15, 18], [1, 14, 4], [14, 15, 20], [1, 12, 12], [13, 9, 14], [13, 1, 24], [6, 9, 18, 19, 20], [12, 1, 19, 20], [15, 6, 20, 5, 14], [20, 15, 20, 1, 12], [13, 15, 19, 20], [12, 5, 1, 19, 20]]
def wIx (l : List Nat) : List (List Nat) → Nat → Int
  | [], _ => -1
  | x :: r, i => if x = l then (i : Int) else wIx l r (i + 1)
/-- which word: none (-1) -/
def wN (l : List Nat) : Int := wIx l WD 0
theorem wIx_le (l : List Nat) : ∀ (r : List (List Nat)) (i : Nat), -1 ≤ wIx l r i ∧ wIx l r i < i + r.length := by
  intro r
  induction r with
  | nil => intro i; exact ⟨Int.le_refl _, by show (-1 : Int) < i + (0 : Nat); omega⟩
  | cons x r ih =>
    intro i
    unfold wIx
    rw [List.length_cons]
    split
    · omega
    · have := ih (i + 1); omega
theorem wN_le (l : List Nat) : -1 ≤ wN l ∧ wN l < 33 := by
  have h := wIx_le l WD 0
  have : WD.length = 33 := by decide
  unfold wN
  omega
theorem sn_c_inj : ∀ l l' : List Nat, (∀ w ∈ l, 1 ≤ w ∧ w ≤ 26) → (∀ w ∈ l', 1 ≤ w ∧ w ≤ 26) → sn_c l = sn_c l' → l = l' := by
  intro l
  induction l with
  | nil =>
    intro l' _ h e
    cases l' with
    | nil => rfl
    | cons w r =>
      have := h w (List.mem_cons_self ..)
      have e2 : 0 = w + 32 * sn_c r := e
      omega
  | cons v l ih =>
    intro l' h1 h2 e
    have hv := h1 v (List.mem_cons_self ..)
    cases l' with
    | nil =>
      have e2 : v + 32 * sn_c l = 0 := e
      omega
    | cons w r =>
      have hw := h2 w (List.mem_cons_self ..)
      have e2 : v + 32 * sn_c l = w + 32 * sn_c r := e
      rw [ih r (fun x hx => h1 x (List.mem_cons_of_mem _ hx)) (fun x hx => h2 x (List.mem_cons_of_mem _ hx)) (by omega), show v = w by omega]
theorem sn_c_app : ∀ (l : List Nat) (w : Nat), sn_c (l ++ [w]) = sn_c l + w * 32 ^ l.length := by
  intro l
  induction l with
  | nil => intro w; show w + 32 * 0 = 0 + w * 1; omega
  | cons v l ih =>
    intro w
    show v + 32 * sn_c (l ++ [w]) = v + 32 * sn_c l + w * 32 ^ (l.length + 1)
    rw [ih w, Nat.pow_succ, Nat.mul_add]
    have : 32 * (w * 32 ^ l.length) = w * (32 ^ l.length * 32) := by rw [Nat.mul_comm 32, Nat.mul_assoc]
    omega
/-! which word a name is, as the class finds it -/
def wScan (v : Int32) : List Int32 → Int32 → Int32 → Int32 → Int32
  | [], _, _, _ => -1
  | c :: l, i1, i2, i3 => if c = 32 then (if i3 = v then i1 else wScan v l (i1 + 1) 0 0) else wScan v l i1 (i2 + 1) (i3 ||| (((c - 97) + 1) <<< ((5 * i2) &&& 31)))
def wPack : List Int32 → Int32 → Int32 → List Int32
  | [], _, _ => []
  | c :: l, i2, i3 => if c = 32 then i3 :: wPack l 0 0 else wPack l (i2 + 1) (i3 ||| (((c - 97) + 1) <<< ((5 * i2) &&& 31)))
def wId (v : Int32) : List Int32 → Int32 → Int32
  | [], _ => -1
  | x :: l, i => if x = v then i else wId v l (i + 1)
theorem wScan_id (v : Int32) : ∀ (l : List Int32) (i1 i2 i3 : Int32), wScan v l i1 i2 i3 = wId v (wPack l i2 i3) i1 := by
  intro l
  induction l with
  | nil => intro i1 i2 i3; rfl
  | cons c l ih =>
    intro i1 i2 i3
    unfold wScan wPack
    by_cases h : c = 32
    · rw [if_pos h, if_pos h]
      show _ = wId v (i3 :: wPack l 0 0) i1
      unfold wId
      rw [ih]
    · rw [if_neg h, if_neg h, ih]
theorem wPack_WD : wPack sh_txb 0 0 = WD.map (fun w => zI (sn_c w)) := by decide +kernel
theorem WD_ok : ∀ w ∈ WD, sn_ok w := by
  have : ∀ w ∈ WD, 1 ≤ w.length ∧ w.length ≤ 6 ∧ ∀ x ∈ w, 1 ≤ x ∧ x ≤ 26 := by decide
  exact this
theorem wId_ix {l : List Nat} (hl : sn_ok l) : ∀ (r : List (List Nat)) (i : Nat), (∀ w ∈ r, sn_ok w) → i + r.length < 1000 → wId (zI (sn_c l)) (r.map (fun w => zI (sn_c w))) (zI i) = zI (wIx l r i) := by
  intro r
  induction r with
  | nil => intro i _ _; rfl
  | cons x r ih =>
    intro i h hi
    have hx := h x (List.mem_cons_self ..)
    have e : (zI (sn_c x) = zI (sn_c l)) ↔ x = l := by
      have a1 := sn_c_30 hx
      have a2 := sn_c_30 hl
      rw [zI_eq (by omega) (by omega) (by omega) (by omega)]
      exact ⟨fun z => sn_c_inj _ _ hx.2.2 hl.2.2 (by omega), fun z => by rw [z]⟩
    rw [List.length_cons] at hi
    rw [List.map_cons]
    unfold wId wIx
    by_cases c : x = l
    · rw [if_pos (e.mpr c), if_pos c]
    · rw [if_neg (fun z => c (e.mp z)), if_neg c, show zI (i : Int) + 1 = zI ((i + 1 : Nat) : Int) from zI_s1 i, ih (i + 1) (fun w hw => h w (List.mem_cons_of_mem _ hw)) (by omega)]
theorem cl_wordOf1 {v : Int32} : ∀ (g f i : Nat) (i1 i2 i3 : Int32) (μ : sh_Mem), i + g = 171 → g < f → F_X8_wordOf f 1 v i1 i2 i3 (zI i) μ = some (wScan v (sh_txb.drop i) i1 i2 i3, μ) := by
  intro g
  induction g with
  | zero =>
    intro f i i1 i2 i3 μ hi hf
    obtain ⟨f, rfl⟩ : ∃ q, f = q + 1 := ⟨f - 1, by omega⟩
    rw [F_X8_wordOf, if_pos (show (171 : Int32) ≤ zI i from zI_yes (a := 171) (by omega) (by omega)), List.drop_eq_nil_of_le (show sh_txb.length ≤ i by rw [show sh_txb.length = 171 by decide +kernel]; omega)]
    rfl
  | succ g ih =>
    intro f i i1 i2 i3 μ hi hf
    obtain ⟨f, rfl⟩ : ∃ q, f = q + 1 := ⟨f - 1, by omega⟩
    have hl : i < sh_txb.length := by rw [show sh_txb.length = 171 by decide +kernel]; omega
    have e1 : sh_ch (zI i) = sh_txb[i] := by
      unfold sh_ch
      rw [tcN (by omega), List.getD_eq_getElem?_getD, List.getElem?_eq_getElem hl]
      rfl
    rw [F_X8_wordOf, if_neg (show ¬ (171 : Int32) ≤ zI i from zI_not (b := 171) (by omega) (by omega)), if_pos ((zI_in (by omega)).mpr (by omega)), shl_ap, e1, List.drop_eq_getElem_cons hl]
    unfold wScan
    by_cases c : sh_txb[i] = 32
    · rw [if_pos c, if_pos c]
      by_cases c2 : i3 = v
      · rw [if_pos c2, if_pos c2]
      · rw [if_neg c2, if_neg c2, zI_s1, ih f (i + 1) _ _ _ μ (by omega) (by omega)]
    · rw [if_neg c, if_neg c, shl_ap, zI_s1, ih f (i + 1) _ _ _ μ (by omega) (by omega)]
theorem cl_wordOf {l : List Nat} {μ : sh_Mem} (hl : sn_ok l) : f_X8_wordOf (zI (sn_c l)) μ = some (zI (wN l), μ) := by
  have h := cl_wordOf1 (v := zI (sn_c l)) 171 sh_fuel 0 0 0 0 μ (by omega) (by rw [sh_fuel_eq]; omega)
  have h2 : f_X8_wordOf (zI (sn_c l)) μ = some (wScan (zI (sn_c l)) sh_txb 0 0 0, μ) := h
  rw [h2, wScan_id, wPack_WD]
  have := wId_ix hl WD 0 WD_ok (by decide)
  have h3 : wId (zI (sn_c l)) (WD.map (fun w => zI (sn_c w))) 0 = zI (wIx l WD 0) := this
  rw [h3]
  rfl
