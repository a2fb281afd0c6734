/-! what is taken of a text: spec, and the class -/
abbrev xs : Type := Nat × Bool
abbrev xo (α : Type) : Type := (Nat × Nat) ⊕ α
section Ly
variable {T : Nat → Nat} {n : Nat}
/-- behind the word, number or mark -/
def xA (T : Nat → Nat) (n : Nat) (s : xs) : xs := (xS T n (xE T n s.1), decide (xK T n s.1 s.2 = -2 ∨ xK T n s.1 s.2 = -3) && decide (xS T n (xE T n s.1) = xE T n s.1))
/-- which word, none: -1 -/
def xw (T : Nat → Nat) (n : Nat) (s : xs) : Int := if xK T n s.1 s.2 = -2 then (if xE T n s.1 - s.1 ≤ 6 then wN (xW T s.1 (xE T n s.1 - s.1)) else -1) else -1
def x_mark (T : Nat → Nat) (n : Nat) (c : Int) (s : xs) : xo xs := if xK T n s.1 s.2 = c then .inr (xA T n s) else .inl (1, s.1)
def x_word (T : Nat → Nat) (n : Nat) (w : Int) (s : xs) : xo xs := if xw T n s = w then .inr (xA T n s) else .inl (1, s.1)
def x_num (T : Nat → Nat) (n : Nat) (lo hi : Nat) (s : xs) : xo (Nat × xs) := if xK T n s.1 s.2 = -3 then (if xE T n s.1 - s.1 ≤ 4 then (if xV T s.1 (xE T n s.1 - s.1) < lo ∨ hi < xV T s.1 (xE T n s.1 - s.1) then .inl (2, s.1) else .inr (xV T s.1 (xE T n s.1 - s.1), xA T n s)) else .inl (1, s.1 + 4)) else .inl (1, s.1)
def x_name (T : Nat → Nat) (n : Nat) (s : xs) : xo (List Nat × xs) := if xK T n s.1 s.2 = -2 then (if xE T n s.1 - s.1 ≤ 6 then (if wN (xW T s.1 (xE T n s.1 - s.1)) = -1 ∨ 27 ≤ wN (xW T s.1 (xE T n s.1 - s.1)) then .inr (xW T s.1 (xE T n s.1 - s.1), xA T n s) else .inl (1, s.1)) else .inl (1, s.1 + 6)) else .inl (1, s.1)
theorem xE_le {a : Nat} (h : a ≤ n) : xE T n a ≤ n := by
  unfold xE
  have h1 := xR_le (xL T) (n - a) a
  have h2 := xR_le (xD T) (n - a) a
  split
  · exact h
  · split
    · omega
    · split
      · omega
      · omega
theorem xE_lt {a : Nat} (h : a < n) : a < xE T n a := by
  unfold xE
  rw [if_neg (by omega)]
  obtain ⟨g, hg⟩ : ∃ g, n - a = g + 1 := ⟨n - a - 1, by omega⟩
  split
  · rename_i c
    rw [hg, xR_s c]
    have := xR_le (xL T) g (a + 1)
    omega
  · split
    · rename_i c
      rw [hg, xR_s c]
      have := xR_le (xD T) g (a + 1)
      omega
    · omega
theorem xS_le {a : Nat} (h : a ≤ n) : a ≤ xS T n a ∧ xS T n a ≤ n := by
  have := xR_le (xB T) (n - a) a
  unfold xS
  omega
theorem xA_le {s : xs} (h : s.1 ≤ n) : s.1 ≤ (xA T n s).1 ∧ (xA T n s).1 ≤ n := by
  have h1 := xE_le (T := T) h
  have h2 := xS_le (T := T) h1
  by_cases c : s.1 < n
  · have := xE_lt (T := T) c
    exact ⟨by show s.1 ≤ xS T n (xE T n s.1); omega, h2.2⟩
  · have : xE T n s.1 = s.1 := if_pos (by omega)
    exact ⟨by show s.1 ≤ xS T n (xE T n s.1); omega, h2.2⟩
theorem xA_lt {s : xs} (h : s.1 < n) : s.1 < (xA T n s).1 := by
  have h1 := xE_le (T := T) (Nat.le_of_lt h)
  have h2 := xS_le (T := T) h1
  have := xE_lt (T := T) h
  show s.1 < xS T n (xE T n s.1)
  omega
theorem xK_b {a : Nat} {g : Bool} (h : ∀ j, j < 1600 → T j < 256) (hn : n ≤ 1600) : -4 ≤ xK T n a g ∧ xK T n a g < 256 := by
  unfold xK
  split
  · omega
  · have := h a (by omega)
    split
    · split <;> omega
    · split
      · split <;> omega
      · omega
theorem xK_lt {a : Nat} {g : Bool} (h : ¬ xK T n a g = -1) : a < n := by
  apply Classical.byContradiction
  intro z
  exact h (if_pos (by omega))
theorem xK_2 {a : Nat} {g : Bool} (h : xK T n a g = -2) : a < n ∧ xL T a = true ∧ g = false := by
  have hl := xK_lt (T := T) (n := n) (a := a) (g := g) (by omega)
  unfold xK at h
  rw [if_neg (by omega)] at h
  by_cases c : xL T a = true
  · rw [if_pos c] at h
    cases g with
    | false => exact ⟨hl, c, rfl⟩
    | true => rw [if_pos rfl] at h; omega
  · rw [if_neg c] at h
    split at h
    · split at h <;> omega
    · omega
theorem xK_3 {a : Nat} {g : Bool} (h : xK T n a g = -3) : a < n ∧ ¬ xL T a = true ∧ xD T a = true ∧ g = false := by
  have hl := xK_lt (T := T) (n := n) (a := a) (g := g) (by omega)
  unfold xK at h
  rw [if_neg (by omega)] at h
  by_cases c : xL T a = true
  · rw [if_pos c] at h
    split at h <;> omega
  · rw [if_neg c] at h
    by_cases d : xD T a = true
    · rw [if_pos d] at h
      cases g with
      | false => exact ⟨hl, c, d, rfl⟩
      | true => rw [if_pos rfl] at h; omega
    · rw [if_neg d] at h
      omega
theorem xV_lt {a : Nat} (h : ∀ j, j < 1600 → T j < 256) : ∀ k, a + k ≤ 1600 → (∀ j, j < k → xD T (a + j) = true) → xV T a k < 10 ^ k := by
  intro k
  induction k with
  | zero => intro _ _; exact Nat.one_pos
  | succ k ih =>
    intro h1 h2
    have := ih (by omega) (fun j hj => h2 j (by omega))
    have d := xD_t.mp (h2 k (by omega))
    show xV T a k * 10 + (T (a + k) - 48) < 10 ^ (k + 1)
    rw [Nat.pow_succ]
    omega
/-- the class ahead of a word, number or mark, without a fault -/
def cS (μ : sh_Mem) (T : Nat → Nat) (n : Nat) (s : xs) : Prop := xT μ 1 T n ∧ cT μ T n s.1 s.2 ∧ s.1 ≤ n ∧ sh_i μ 2 10 = 0
def cO (μ : sh_Mem) (T : Nat → Nat) (n : Nat) : xo xs → Prop
  | .inl q => sh_i μ 2 10 = zI q.1 ∧ sh_i μ 2 11 = zI q.2
  | .inr s => cS μ T n s
def nV (r k : Nat) : Prop := r = 2 ∧ 2 ≤ k ∧ k ≤ 11
theorem cS.cg {μ μ' : sh_Mem} {s : xs} (h : cS μ T n s) (e1 : sh_i μ' 1 = sh_i μ 1) (e2 : sh_i μ' 2 = sh_i μ 2) : cS μ' T n s := ⟨h.1.cg e1, h.2.1.cg (fun k _ _ => by rw [e2]), h.2.2.1, by rw [e2]; exact h.2.2.2⟩
theorem cl_adv {μ : sh_Mem} {s : xs} (h : cS μ T n s) : ∃ μ', f_X8_advance μ = some μ' ∧ sh_fr nV μ μ' ∧ cS μ' T n (xA T n s) ∧ sh_i μ' 2 9 = zI s.1 := by
  obtain ⟨hT, hc, ha, h0⟩ := h
  obtain ⟨c1, c2, c3, c4, -, -⟩ := id hc
  have kb := xK_b (a := s.1) (g := s.2) (fun j hj => (hT.2 j hj).1) hT.1
  obtain ⟨μ', k1, k2, k3, k4⟩ := cl_adv0 (T := T) (n := n) hT c1 c2 (xE_le ha) c3 (by omega) c4
  exact ⟨μ', k1, k2.mono (fun r k z => by unfold nV; omega), ⟨hT.cg (k2.row _ (fun k => by omega)), k3, (xA_le ha).2, by rw [k2.i _ _ (by omega)]; exact h0⟩, k4⟩
theorem cl_fails {μ : sh_Mem} {k p : Nat} (h0 : sh_i μ 2 10 = 0) : ∃ μ', f_X8_fails (zI k) (zI p) μ = some (0, μ') ∧ sh_fr nV μ μ' ∧ cO μ' T n (.inl (k, p)) := by
  refine ⟨sh_setI (sh_setI μ 2 10 (zI k)) 2 11 (zI p), ?_, sh_fr_I (sh_fr_I sh_fr.rf (by unfold nV; omega)) (by unfold nV; omega), ?_, ?_⟩
  · unfold f_X8_fails
    rw [h0, if_pos rfl, shl_ap, shl_ap]
  · rw [ir_set_k (by omega), ir_set]
  · rw [ir_set]
theorem cl_mark {μ : sh_Mem} {s : xs} {c : Int} (h : cS μ T n s) (hc : -10 ≤ c ∧ c < 256) : ∃ μ', f_X8_takesMark (zI c) μ = some (zI (bI (x_mark T n c s).isRight), μ') ∧ sh_fr nV μ μ' ∧ cO μ' T n (x_mark T n c s) := by
  obtain ⟨hT, ht, ha, h0⟩ := id h
  obtain ⟨c1, c2, c3, c4, -, -⟩ := id ht
  have kb := xK_b (a := s.1) (g := s.2) (fun j hj => (hT.2 j hj).1) hT.1
  unfold f_X8_takesMark x_mark
  rw [c3, c4]
  by_cases q : xK T n s.1 s.2 = c
  · obtain ⟨μ', k1, k2, k3, -⟩ := cl_adv h
    refine ⟨μ', ?_, k2, by rw [if_pos q]; exact k3⟩
    rw [if_pos (show zI (xK T n s.1 s.2) = zI c by rw [q]), k1, shv_ap, if_pos q]
    rfl
  · obtain ⟨μ', k1, k2, k3⟩ := cl_fails (T := T) (n := n) (k := 1) (p := s.1) h0
    have k1' : f_X8_fails 1 (zI (s.1 : Int)) μ = some (0, μ') := k1
    refine ⟨μ', ?_, k2, by rw [if_neg q]; exact k3⟩
    rw [if_neg (fun z => q ((zI_eq (by omega) (by omega) (by omega) (by omega)).mp z)), k1', shb_ap, if_pos (Or.inl rfl), if_neg q]
    rfl
theorem cl_isWord {μ : sh_Mem} {s : xs} {w : Nat} (h : cS μ T n s) (hw : w < 100) : f_X8_isWord μ (zI w) = zI (bI (decide (xw T n s = (w : Int)))) := by
  obtain ⟨hT, ht, ha, h0⟩ := id h
  obtain ⟨c1, c2, c3, c4, c5, -⟩ := id ht
  have kb := xK_b (a := s.1) (g := s.2) (fun j hj => (hT.2 j hj).1) hT.1
  unfold f_X8_isWord xw
  rw [c3]
  by_cases q : xK T n s.1 s.2 = -2
  · obtain ⟨q1, q2, -⟩ := xK_2 q
    obtain ⟨-, d6, -⟩ := c5 q1 q2
    rw [if_pos (show zI (xK T n s.1 s.2) = -2 by rw [q]; rfl), if_pos q, d6]
    have hb := wN_le (xW T s.1 (xE T n s.1 - s.1))
    generalize hx : (if xE T n s.1 - s.1 ≤ 6 then wN (xW T s.1 (xE T n s.1 - s.1)) else -1) = x
    have hxb : -1 ≤ x ∧ x < 33 := by rw [← hx]; split <;> omega
    by_cases e : x = (w : Int)
    · rw [if_pos (show zI x = zI w by rw [e]), decide_eq_true e]; rfl
    · rw [if_neg (fun z => e ((zI_eq (by omega) (by omega) (by omega) (by omega)).mp z)), decide_eq_false e]; rfl
  · rw [if_neg (show ¬ zI (xK T n s.1 s.2) = -2 from fun z => q ((zI_eq (b := -2) (by omega) (by omega) (by omega) (by omega)).mp (show _ = zI (-2) from z))), if_neg q, decide_eq_false (show ¬ (-1 : Int) = (w : Int) by omega)]
    rfl
theorem cl_word {μ : sh_Mem} {s : xs} {w : Nat} (h : cS μ T n s) (hw : w < 100) : ∃ μ', f_X8_takesWord (zI w) μ = some (zI (bI (x_word T n w s).isRight), μ') ∧ sh_fr nV μ μ' ∧ cO μ' T n (x_word T n w s) := by
  obtain ⟨hT, ht, ha, h0⟩ := id h
  obtain ⟨c1, c2, c3, c4, -, -⟩ := id ht
  unfold f_X8_takesWord x_word
  rw [cl_isWord h hw, c4]
  by_cases q : xw T n s = (w : Int)
  · obtain ⟨μ', k1, k2, k3, -⟩ := cl_adv h
    refine ⟨μ', ?_, k2, by rw [if_pos q]; exact k3⟩
    rw [decide_eq_true q, if_neg (show ¬ zI (bI true) = 0 by decide), k1, shv_ap, if_pos q]
    rfl
  · obtain ⟨μ', k1, k2, k3⟩ := cl_fails (T := T) (n := n) (k := 1) (p := s.1) h0
    have k1' : f_X8_fails 1 (zI (s.1 : Int)) μ = some (0, μ') := k1
    refine ⟨μ', ?_, k2, by rw [if_neg q]; exact k3⟩
    rw [decide_eq_false q, if_pos (show zI (bI false) = 0 from rfl), k1', shb_ap, if_pos (Or.inl rfl), if_neg q]
    rfl
/-- what a number that was taken is; none: -1 -/
def xv : xo (Nat × xs) → Int
  | .inl _ => -1
  | .inr q => (q.1 : Int)
def xr {α : Type} : xo (α × xs) → xo xs
  | .inl q => .inl q
  | .inr q => .inr q.2
theorem cl_num {μ : sh_Mem} {s : xs} {lo hi : Nat} (h : cS μ T n s) (h1 : lo < 20000) (h2 : hi < 20000) : ∃ μ', f_X8_takeNumber (zI lo) (zI hi) μ = some (zI (xv (x_num T n lo hi s)), μ') ∧ sh_fr nV μ μ' ∧ cO μ' T n (xr (x_num T n lo hi s)) ∧ ((x_num T n lo hi s).isRight = true → sh_i μ' 2 9 = zI s.1) := by
  obtain ⟨hT, ht, ha, h0⟩ := id h
  obtain ⟨c1, c2, c3, c4, -, c6⟩ := id ht
  have kb := xK_b (a := s.1) (g := s.2) (fun j hj => (hT.2 j hj).1) hT.1
  have bad : ∀ k p : Nat, ∃ μ', f_X8_fails (zI k) (zI p) μ = some (0, μ') ∧ sh_fr nV μ μ' ∧ cO μ' T n (.inl (k, p)) := fun k p => cl_fails h0
  have hn := hT.1
  by_cases q : xK T n s.1 s.2 = -3
  · obtain ⟨q1, q2, q3, -⟩ := xK_3 q
    obtain ⟨d5, d8⟩ := c6 q1 q2 q3
    have hE := xE_le (T := T) ha
    by_cases c4' : xE T n s.1 - s.1 ≤ 4
    · rw [Nat.min_eq_left c4'] at d8
      have hdig : ∀ j, j < xE T n s.1 - s.1 → xD T (s.1 + j) = true := fun j hj => by
        have e : xE T n s.1 = xR (xD T) (n - s.1) s.1 := by unfold xE; rw [if_neg (by omega), if_neg q2, if_pos q3]
        exact xR_in (n - s.1) s.1 (s.1 + j) (by omega) (by rw [← e]; omega)
      have hv := xV_lt (a := s.1) (fun j hj => (hT.2 j hj).1) (xE T n s.1 - s.1) (by omega) hdig
      have hv4 : 10 ^ (xE T n s.1 - s.1) ≤ 10000 := Nat.le_trans (Nat.pow_le_pow_right (by omega) c4') (by decide)
      have e0 : f_X8_takeNumber (zI lo) (zI hi) μ = (if zI (xV T s.1 (xE T n s.1 - s.1) : Int) < zI lo then sh_bind (f_X8_fails 2 (zI (s.1 : Int)) μ) (fun y6 μ4 => some ((-1), μ4)) else (if zI (xV T s.1 (xE T n s.1 - s.1) : Int) ≤ zI hi then sh_let (zI (xV T s.1 (xE T n s.1 - s.1) : Int)) (fun x8 => sh_bindv (f_X8_advance μ) (fun μ9 => some (x8, μ9))) else sh_bind (f_X8_fails 2 (zI (s.1 : Int)) μ) (fun y14 μ12 => some ((-1), μ12)))) := by
        unfold f_X8_takeNumber
        rw [c3, if_pos (show zI (xK T n s.1 s.2) = -3 by rw [q]; rfl), d5, if_pos (show zI ((xE T n s.1 - s.1 : Nat) : Int) ≤ 4 from zI_yes (b := 4) (by omega) (by omega)), d8, c4]
      rw [e0]
      unfold x_num
      rw [if_pos q, if_pos c4']
      generalize hV : xV T s.1 (xE T n s.1 - s.1) = v at *
      obtain ⟨μ', k1, k2, k3⟩ := bad 2 s.1
      have k1' : f_X8_fails 2 (zI (s.1 : Int)) μ = some (0, μ') := k1
      by_cases b1 : v < lo
      · rw [if_pos (Or.inl b1)]
        refine ⟨μ', ?_, k2, k3, fun z => by cases z⟩
        rw [if_pos ((zI_lt (by omega) (by omega) (by omega) (by omega)).mpr (by omega)), k1', shb_ap]
        rfl
      · have n1 : ¬ zI (v : Int) < zI (lo : Int) := fun z => by
          have := (zI_lt (by omega) (by omega) (by omega) (by omega)).mp z
          omega
        by_cases b2 : hi < v
        · rw [if_pos (Or.inr b2)]
          refine ⟨μ', ?_, k2, k3, fun z => by cases z⟩
          rw [if_neg n1, if_neg (zI_not (by omega) (by omega)), k1', shb_ap]
          rfl
        · rw [if_neg (show ¬ (v < lo ∨ hi < v) by omega)]
          obtain ⟨μ2, r1, r2, r3, r4⟩ := cl_adv h
          refine ⟨μ2, ?_, r2, r3, fun _ => r4⟩
          rw [if_neg n1, if_pos (zI_yes (by omega) (by omega)), shl_ap, r1, shv_ap]
          rfl
    · unfold x_num
      rw [if_pos q, if_neg c4']
      obtain ⟨μ', k1, k2, k3⟩ := bad 1 (s.1 + 4)
      have k1' : f_X8_fails 1 (zI (s.1 : Int) + 4) μ = some (0, μ') := by
        rw [← k1]
        show f_X8_fails 1 (zI (s.1 : Int) + zI 4) μ = _
        rw [zI_add]
        rfl
      refine ⟨μ', ?_, k2, k3, fun z => by cases z⟩
      unfold f_X8_takeNumber
      rw [c3, if_pos (show zI (xK T n s.1 s.2) = -3 by rw [q]; rfl), d5, if_neg (show ¬ zI ((xE T n s.1 - s.1 : Nat) : Int) ≤ 4 from zI_not (a := 4) (by omega) (by omega)), c4, k1', shb_ap]
      rfl
  · unfold x_num
    rw [if_neg q]
    obtain ⟨μ', k1, k2, k3⟩ := bad 1 s.1
    have k1' : f_X8_fails 1 (zI (s.1 : Int)) μ = some (0, μ') := k1
    refine ⟨μ', ?_, k2, k3, fun z => by cases z⟩
    unfold f_X8_takeNumber
    rw [c3, if_neg (show ¬ zI (xK T n s.1 s.2) = -3 from fun z => q ((zI_eq (b := -3) (by omega) (by omega) (by omega) (by omega)).mp (show _ = zI (-3) from z))), c4, k1', shb_ap]
    rfl
/-- what a name that was taken is; none: -1 -/
def xm : xo (List Nat × xs) → Int
  | .inl _ => -1
  | .inr q => (sn_c q.1 : Int)
theorem cl_name {μ : sh_Mem} {s : xs} (h : cS μ T n s) : ∃ μ', f_X8_takeName μ = some (zI (xm (x_name T n s)), μ') ∧ sh_fr nV μ μ' ∧ cO μ' T n (xr (x_name T n s)) ∧ ((x_name T n s).isRight = true → sh_i μ' 2 9 = zI s.1) := by
  obtain ⟨hT, ht, ha, h0⟩ := id h
  obtain ⟨c1, c2, c3, c4, c5, -⟩ := id ht
  have kb := xK_b (a := s.1) (g := s.2) (fun j hj => (hT.2 j hj).1) hT.1
  have bad : ∀ k p : Nat, ∃ μ', f_X8_fails (zI k) (zI p) μ = some (0, μ') ∧ sh_fr nV μ μ' ∧ cO μ' T n (.inl (k, p)) := fun k p => cl_fails h0
  have hn := hT.1
  by_cases q : xK T n s.1 s.2 = -2
  · obtain ⟨q1, q2, -⟩ := xK_2 q
    obtain ⟨d5, d6, d7⟩ := c5 q1 q2
    have hE := xE_le (T := T) ha
    by_cases c6' : xE T n s.1 - s.1 ≤ 6
    · rw [Nat.min_eq_left c6'] at d7
      rw [if_pos c6'] at d6
      have hb := wN_le (xW T s.1 (xE T n s.1 - s.1))
      have e0 : f_X8_takeName μ = (if zI (wN (xW T s.1 (xE T n s.1 - s.1))) = (-1) then sh_let (zI (sn_c (xW T s.1 (xE T n s.1 - s.1)) : Int)) (fun x4 => sh_bindv (f_X8_advance μ) (fun μ5 => some (x4, μ5))) else (if 27 ≤ zI (wN (xW T s.1 (xE T n s.1 - s.1))) then sh_let (zI (sn_c (xW T s.1 (xE T n s.1 - s.1)) : Int)) (fun x9 => sh_bindv (f_X8_advance μ) (fun μ10 => some (x9, μ10))) else sh_bind (f_X8_fails 1 (zI (s.1 : Int)) μ) (fun y15 μ13 => some ((-1), μ13)))) := by
        unfold f_X8_takeName
        rw [c3, if_pos (show zI (xK T n s.1 s.2) = -2 by rw [q]; rfl), d5, if_pos (show zI ((xE T n s.1 - s.1 : Nat) : Int) ≤ 6 from zI_yes (b := 6) (by omega) (by omega)), d6, d7, c4]
      rw [e0]
      unfold x_name
      rw [if_pos q, if_pos c6']
      obtain ⟨μ2, r1, r2, r3, r4⟩ := cl_adv h
      generalize hW : xW T s.1 (xE T n s.1 - s.1) = l at *
      by_cases b1 : wN l = -1
      · rw [if_pos (show wN l = -1 ∨ 27 ≤ wN l from Or.inl b1)]
        refine ⟨μ2, ?_, r2, r3, fun _ => r4⟩
        rw [if_pos (show zI (wN l) = -1 by rw [b1]; rfl), shl_ap, r1, shv_ap]
        rfl
      · have n1 : ¬ zI (wN l) = -1 := fun z => b1 ((zI_eq (b := -1) (by omega) (by omega) (by omega) (by omega)).mp (show _ = zI (-1) from z))
        by_cases b2 : 27 ≤ wN l
        · rw [if_pos (show wN l = -1 ∨ 27 ≤ wN l from Or.inr b2)]
          refine ⟨μ2, ?_, r2, r3, fun _ => r4⟩
          rw [if_neg n1, if_pos (show (27 : Int32) ≤ zI (wN l) from zI_yes (a := 27) (by omega) (by omega)), shl_ap, r1, shv_ap]
          rfl
        · rw [if_neg (show ¬ (wN l = -1 ∨ 27 ≤ wN l) by omega)]
          obtain ⟨μ', k1, k2, k3⟩ := bad 1 s.1
          have k1' : f_X8_fails 1 (zI (s.1 : Int)) μ = some (0, μ') := k1
          refine ⟨μ', ?_, k2, k3, fun z => by cases z⟩
          rw [if_neg n1, if_neg (show ¬ (27 : Int32) ≤ zI (wN l) from zI_not (b := 27) (by omega) (by omega)), k1', shb_ap]
          rfl
    · unfold x_name
      rw [if_pos q, if_neg c6']
      obtain ⟨μ', k1, k2, k3⟩ := bad 1 (s.1 + 6)
      have k1' : f_X8_fails 1 (zI (s.1 : Int) + 6) μ = some (0, μ') := by
        rw [← k1]
        show f_X8_fails 1 (zI (s.1 : Int) + zI 6) μ = _
        rw [zI_add]
        rfl
      refine ⟨μ', ?_, k2, k3, fun z => by cases z⟩
      unfold f_X8_takeName
      rw [c3, if_pos (show zI (xK T n s.1 s.2) = -2 by rw [q]; rfl), d5, if_neg (show ¬ zI ((xE T n s.1 - s.1 : Nat) : Int) ≤ 6 from zI_not (a := 6) (by omega) (by omega)), c4, k1', shb_ap]
      rfl
  · unfold x_name
    rw [if_neg q]
    obtain ⟨μ', k1, k2, k3⟩ := bad 1 s.1
    have k1' : f_X8_fails 1 (zI (s.1 : Int)) μ = some (0, μ') := k1
    refine ⟨μ', ?_, k2, k3, fun z => by cases z⟩
    unfold f_X8_takeName
    rw [c3, if_neg (show ¬ zI (xK T n s.1 s.2) = -2 from fun z => q ((zI_eq (b := -2) (by omega) (by omega) (by omega) (by omega)).mp (show _ = zI (-2) from z))), c4, k1', shb_ap]
    rfl
end Ly
