/-! FORMULAS: what a row of signs tells -/
theorem lg_c {a b : Int} (h : -9223372036854775808 ≤ a ∧ a < 9223372036854775808 ∧ -9223372036854775808 ≤ b ∧ b < 9223372036854775808) : ∃ c : Int, lg_cmp (zL a) (zL b) = zI c ∧ -1 ≤ c ∧ c ≤ 1 ∧ (c = 1 ↔ b < a) ∧ (c = 0 ↔ a = b) := by
  refine ⟨_, zL_cmp h, ?_, ?_, ?_, ?_⟩
  · split
    · omega
    · split <;> omega
  · split
    · omega
    · split <;> omega
  · split
    · omega
    · split <;> omega
  · split
    · omega
    · split <;> omega
theorem lg_le0 {a b : Int} (h : -9223372036854775808 ≤ a ∧ a < 9223372036854775808 ∧ -9223372036854775808 ≤ b ∧ b < 9223372036854775808) : (lg_cmp (zL a) (zL b) ≤ zI 0) = (a ≤ b) := by
  obtain ⟨c, e, h1, h2, h3, h4⟩ := lg_c h
  rw [e, eq_iff_iff, zI_le (by omega) (by omega) (by omega) (by omega)]
  omega
theorem lg_ge0 {a b : Int} (h : -9223372036854775808 ≤ a ∧ a < 9223372036854775808 ∧ -9223372036854775808 ≤ b ∧ b < 9223372036854775808) : (zI 0 ≤ lg_cmp (zL a) (zL b)) = (b ≤ a) := by
  obtain ⟨c, e, h1, h2, h3, h4⟩ := lg_c h
  rw [e, eq_iff_iff, zI_le (by omega) (by omega) (by omega) (by omega)]
  omega
theorem lg_lt0 {a b : Int} (h : -9223372036854775808 ≤ a ∧ a < 9223372036854775808 ∧ -9223372036854775808 ≤ b ∧ b < 9223372036854775808) : (lg_cmp (zL a) (zL b) < zI 0) = (a < b) := by
  obtain ⟨c, e, h1, h2, h3, h4⟩ := lg_c h
  rw [e, eq_iff_iff, zI_lt (by omega) (by omega) (by omega) (by omega)]
  omega
theorem lg_gt0 {a b : Int} (h : -9223372036854775808 ≤ a ∧ a < 9223372036854775808 ∧ -9223372036854775808 ≤ b ∧ b < 9223372036854775808) : (zI 0 < lg_cmp (zL a) (zL b)) = (b < a) := by
  obtain ⟨c, e, h1, h2, h3, h4⟩ := lg_c h
  rw [e, eq_iff_iff, zI_lt (by omega) (by omega) (by omega) (by omega)]
  omega
theorem lg_eq0 {a b : Int} (h : -9223372036854775808 ≤ a ∧ a < 9223372036854775808 ∧ -9223372036854775808 ≤ b ∧ b < 9223372036854775808) : (lg_cmp (zL a) (zL b) = zI 0) = (a = b) := by
  obtain ⟨c, e, h1, h2, h3, h4⟩ := lg_c h
  rw [e, eq_iff_iff, zI_eq (by omega) (by omega) (by omega) (by omega)]
  omega
theorem zL_div {a b : Int} (h : -9223372036854775808 < a ∧ a < 9223372036854775808 ∧ -9223372036854775808 < b ∧ b < 9223372036854775808) : zL a / zL b = zL (a.tdiv b) := by
  unfold zL
  rw [← Int64.ofInt_tdiv (by rw [show Int64.minValue.toInt = -9223372036854775808 by decide]; omega) (by rw [show Int64.maxValue.toInt = 9223372036854775807 by decide]; omega) (by rw [show Int64.minValue.toInt = -9223372036854775808 by decide]; omega) (by rw [show Int64.maxValue.toInt = 9223372036854775807 by decide]; omega)]
theorem xor_neg (x y : Int64) : (x ^^^ y).toInt < 0 ↔ ¬ (x.toInt < 0 ↔ y.toInt < 0) := by
  have h : (x ^^^ y).toBitVec.msb = (x.toBitVec.msb ^^ y.toBitVec.msb) := by rw [Int64.toBitVec_xor, BitVec.msb_xor]
  rw [BitVec.msb_eq_toInt, BitVec.msb_eq_toInt, BitVec.msb_eq_toInt] at h
  show (x ^^^ y).toBitVec.toInt < 0 ↔ ¬ (x.toBitVec.toInt < 0 ↔ y.toBitVec.toInt < 0)
  generalize (x ^^^ y).toBitVec.toInt = c at h ⊢
  generalize x.toBitVec.toInt = a at h ⊢
  generalize y.toBitVec.toInt = b at h ⊢
  by_cases h1 : a < 0 <;> by_cases h2 : b < 0 <;> by_cases h3 : c < 0 <;> (simp_all; try omega)
theorem lg_xor {a b : Int} (h : -9223372036854775808 ≤ a ∧ a < 9223372036854775808 ∧ -9223372036854775808 ≤ b ∧ b < 9223372036854775808) : (zI 0 ≤ lg_cmp (zL a ^^^ zL b) (zL 0)) = (a < 0 ↔ b < 0) := by
  obtain ⟨c, h1, h2, e⟩ := zL_of (zL a ^^^ zL b)
  have hx := xor_neg (zL a) (zL b)
  rw [zL_toInt (by omega) (by omega), zL_toInt (by omega) (by omega), e, zL_toInt h1 h2] at hx
  rw [e, lg_ge0 (by omega), eq_iff_iff]
  omega
def ec (a : Int) : Int := if 1000000 < a then 1000000 else if a < -1000000 then -1000000 else a
def ef (a b : Int) : Int := if b = 0 then 0 else if a.tdiv b * b = a then a.tdiv b else if (a < 0 ↔ b < 0) then a.tdiv b else a.tdiv b - 1
def eo (t : Nat) (a b : Int) : Int := if t = 11 then ec (a + b) else if t = 12 then ec (a - b) else if t = 13 then ec (a * b) else if t = 14 then ef a b else if t = 15 then (if a < b then a else b) else if t = 16 then (if b < a then a else b) else if t = 17 then (if a < b then 1 else 0) else if t = 18 then (if b < a then 1 else 0) else if t = 19 then (if a = b then 1 else 0) else if t = 20 then (if a < b then a else b) else (if b < a then a else b)
def e1 (F : Nat → Int) (K W : Int → Int) (t : Nat) (s : List Int) : List Int :=
  if 100 ≤ t then ((t : Int) - 100) :: s else if t < 9 then F t :: s else if t = 23 then 1 :: s else match s with
  | [] => []
  | a :: r => if t = 9 then K a :: r else if t = 10 then W a :: r else if t = 22 then (1 - a) :: r else match r with
    | [] => []
    | b :: r => eo t b a :: r
def ev (F : Nat → Int) (K W : Int → Int) : List Nat → List Int → List Int
  | [], s => s
  | t :: l, s => ev F K W l (e1 F K W t s)
def ein (a : Int) : Prop := -1000000 ≤ a ∧ a ≤ 1000000
/-- a pile as its kinds say -/
def es : List Bool → List Int → Prop
  | [], [] => True
  | b :: B, a :: s => ein a ∧ (b = true → a = 0 ∨ a = 1) ∧ es B s
  | _, _ => False
theorem es_len : ∀ {B : List Bool} {s : List Int}, es B s → s.length = B.length
  | [], [], _ => rfl
  | _ :: _, _ :: _, h => congrArg (· + 1) (es_len h.2.2)
  | [], _ :: _, h => h.elim
  | _ :: _, [], h => h.elim
theorem es_pop {b : Bool} {B : List Bool} {s : List Int} (h : es (b :: B) s) : ∃ a r, s = a :: r ∧ ein a ∧ (b = true → a = 0 ∨ a = 1) ∧ es B r := by
  cases s with
  | nil => exact h.elim
  | cons a r => exact ⟨a, r, rfl, h.1, h.2.1, h.2.2⟩
theorem ein_mul {a b : Int} (ha : ein a) (hb : ein b) : -1000000000000 ≤ a * b ∧ a * b ≤ 1000000000000 := by
  unfold ein at ha hb
  have h : (a * b).natAbs ≤ 1000000 * 1000000 := by
    rw [Int.natAbs_mul]
    exact Nat.mul_le_mul (by omega) (by omega)
  omega
theorem ein_ec (a : Int) : ein (ec a) := by
  unfold ein ec
  split
  · omega
  · split <;> omega
theorem ein_ef {a b : Int} (ha : ein a) : ein (ef a b) := by
  unfold ein at ha ⊢
  unfold ef
  have hq : (a.tdiv b).natAbs = a.natAbs / b.natAbs := Int.natAbs_tdiv a b
  have h1 : a.natAbs / b.natAbs ≤ a.natAbs := Nat.div_le_self _ _
  split
  · omega
  · rename_i hb
    split
    · omega
    · rename_i he
      split
      · omega
      · have hb2 : 2 ≤ b.natAbs := by
          by_cases c1 : b = 1
          · subst c1; rw [Int.tdiv_one] at he; omega
          · by_cases c2 : b = -1
            · subst c2
              exfalso
              apply he
              have := Int.tdiv_neg (a := a) (b := 1)
              rw [Int.tdiv_one] at this
              rw [this]
              omega
            · omega
        have h2 : a.natAbs / b.natAbs ≤ a.natAbs / 2 := Nat.div_le_div_left hb2 (by omega)
        omega
theorem ein_eo {t : Nat} {a b : Int} (ha : ein a) (hb : ein b) : ein (eo t a b) := by
  unfold eo
  split
  · exact ein_ec _
  split
  · exact ein_ec _
  split
  · exact ein_ec _
  split
  · exact ein_ef ha
  unfold ein at ha hb ⊢
  split
  · split <;> omega
  split
  · split <;> omega
  split
  · split <;> omega
  split
  · split <;> omega
  split
  · split <;> omega
  split
  · split <;> omega
  · split <;> omega
theorem e1_ty {F : Nat → Int} {K W : Int → Int} {kd t : Nat} {B B' : List Bool} {s : List Int} (hF : ∀ t, t < 9 → ein (F t)) (hK : ∀ a, ein (K a)) (hW : ∀ a, ein (W a)) (h : sg_st kd t B B') (hs : es B s) : es B' (e1 F K W t s) := by
  unfold e1
  rcases h with ⟨h1, h2, rfl⟩ | ⟨h1, h2, rfl⟩ | ⟨h1, h2, r, rfl, rfl⟩ | ⟨h1, h2, r, rfl, rfl⟩ | ⟨h1, h2, r, rfl, rfl⟩ | ⟨h1, r, rfl, rfl⟩ | ⟨h1, r, rfl, rfl⟩ | ⟨h1, rfl⟩
  · rw [if_pos h1]
    exact ⟨by unfold ein; omega, fun z => (by cases z), hs⟩
  · rw [if_neg (by omega), if_pos h1]
    exact ⟨hF t h1, fun z => (by cases z), hs⟩
  · obtain ⟨a, r', rfl, h3, h4, h5⟩ := es_pop hs
    rw [if_neg (by omega), if_neg (by omega), if_neg (by omega)]
    show es _ (if t = 9 then K a :: r' else _)
    rcases h1 with rfl | rfl
    · rw [if_pos rfl]; exact ⟨hK a, fun z => (by cases z), h5⟩
    · rw [if_neg (by omega), if_pos rfl]; exact ⟨hW a, fun z => (by cases z), h5⟩
  · obtain ⟨a, r', rfl, h3, h4, h5⟩ := es_pop hs
    obtain ⟨b, r2, rfl, h6, h7, h8⟩ := es_pop h5
    rw [if_neg (by omega), if_neg (by omega), if_neg (by omega)]
    show es _ (if t = 9 then K a :: b :: r2 else if t = 10 then W a :: b :: r2 else if t = 22 then (1 - a) :: b :: r2 else eo t b a :: r2)
    rw [if_neg (by omega), if_neg (by omega), if_neg (by omega)]
    exact ⟨ein_eo h6 h3, fun z => (by cases z), h8⟩
  · obtain ⟨a, r', rfl, h3, h4, h5⟩ := es_pop hs
    obtain ⟨b, r2, rfl, h6, h7, h8⟩ := es_pop h5
    rw [if_neg (by omega), if_neg (by omega), if_neg (by omega)]
    show es _ (if t = 9 then K a :: b :: r2 else if t = 10 then W a :: b :: r2 else if t = 22 then (1 - a) :: b :: r2 else eo t b a :: r2)
    rw [if_neg (by omega), if_neg (by omega), if_neg (by omega)]
    refine ⟨ein_eo h6 h3, fun z => ?_, h8⟩
    unfold eo
    have ht : t = 17 ∨ t = 18 ∨ t = 19 := by omega
    rcases ht with rfl | rfl | rfl
    · show (if b < a then (1 : Int) else 0) = 0 ∨ (if b < a then (1 : Int) else 0) = 1
      split <;> omega
    · show (if a < b then (1 : Int) else 0) = 0 ∨ (if a < b then (1 : Int) else 0) = 1
      split <;> omega
    · show (if b = a then (1 : Int) else 0) = 0 ∨ (if b = a then (1 : Int) else 0) = 1
      split <;> omega
  · obtain ⟨a, r', rfl, h3, h4, h5⟩ := es_pop hs
    obtain ⟨b, r2, rfl, h6, h7, h8⟩ := es_pop h5
    rw [if_neg (by omega), if_neg (by omega), if_neg (by omega)]
    show es _ (if t = 9 then K a :: b :: r2 else if t = 10 then W a :: b :: r2 else if t = 22 then (1 - a) :: b :: r2 else eo t b a :: r2)
    rw [if_neg (by omega), if_neg (by omega), if_neg (by omega)]
    refine ⟨ein_eo h6 h3, fun z => ?_, h8⟩
    have q1 := h4 rfl
    have q2 := h7 rfl
    unfold eo
    rcases h1 with rfl | rfl
    · show (if b < a then b else a) = 0 ∨ (if b < a then b else a) = 1
      split <;> omega
    · show (if a < b then b else a) = 0 ∨ (if a < b then b else a) = 1
      split <;> omega
  · obtain ⟨a, r', rfl, h3, h4, h5⟩ := es_pop hs
    rw [if_neg (by omega), if_neg (by omega), if_neg (by omega)]
    show es _ (if t = 9 then K a :: r' else if t = 10 then W a :: r' else if t = 22 then (1 - a) :: r' else _)
    rw [if_neg (by omega), if_neg (by omega), if_pos h1]
    have q1 := h4 rfl
    exact ⟨by unfold ein; omega, fun z => (by omega), h5⟩
  · rw [if_neg (by omega), if_neg (by omega), if_pos h1]
    exact ⟨by unfold ein; omega, fun z => (by omega), hs⟩
/-- a pile in a row of longs -/
def sk (g : Nat → Int64) : List Int → Prop
  | [] => True
  | a :: r => g r.length = zL a ∧ sk g r
theorem sk_cg {g g' : Nat → Int64} : ∀ {s : List Int}, sk g s → (∀ k, k < s.length → g' k = g k) → sk g' s
  | [], _, _ => trivial
  | a :: r, h, e => ⟨(e r.length (by show r.length < r.length + 1; omega)).trans h.1, sk_cg h.2 (fun k hk => e k (by show k < r.length + 1; omega))⟩
theorem sk_set {μ : sh_Mem} {x : Nat} {s : List Int} {v : Int} (h : sk (sh_l μ x) s) : sk (sh_l (sh_setL μ x s.length (zL v)) x) (v :: s) := ⟨lr_set, sk_cg h (fun k hk => lr_set_k (by omega))⟩
theorem sk_0 {g : Nat → Int64} {v : Int} (h : sk g [v]) : g 0 = zL v := h.1
theorem cl_min {μ : sh_Mem} {a b : Int} (h : -9223372036854775808 ≤ a ∧ a < 9223372036854775808 ∧ -9223372036854775808 ≤ b ∧ b < 9223372036854775808) : f_J9_min_f86c9 μ (zL a) (zL b) = zL (if b < a then b else a) := by
  unfold f_J9_min_f86c9
  simp only [show (0 : Int32) = zI 0 from rfl, lg_gt0 h]
  by_cases c : b < a
  · rw [if_pos c, if_pos c]
  · rw [if_neg c, if_neg c]
theorem cl_max {μ : sh_Mem} {a b : Int} (h : -9223372036854775808 ≤ a ∧ a < 9223372036854775808 ∧ -9223372036854775808 ≤ b ∧ b < 9223372036854775808) : f_J9_max_f86c9 μ (zL a) (zL b) = zL (if a < b then b else a) := by
  unfold f_J9_max_f86c9
  simp only [show (0 : Int32) = zI 0 from rfl, lg_lt0 h]
  by_cases c : a < b
  · rw [if_pos c, if_pos c]
  · rw [if_neg c, if_neg c]
theorem cl_clip {μ : sh_Mem} {v : Int} (h : -4000000000000 ≤ v ∧ v ≤ 4000000000000) : f_J9_max_f86c9 μ (zL (-1000000)) (f_J9_min_f86c9 μ (zL 1000000) (zL v)) = zL (ec v) := by
  have hm : -9223372036854775808 ≤ (if v < 1000000 then v else 1000000) ∧ (if v < 1000000 then v else 1000000) < 9223372036854775808 := by split <;> omega
  rw [cl_min (by omega), cl_max ⟨by omega, by omega, hm.1, hm.2⟩]
  unfold ec
  by_cases c1 : v < 1000000
  · rw [if_pos c1, if_neg (show ¬ 1000000 < v by omega)]
    by_cases c2 : -1000000 < v
    · rw [if_pos c2, if_neg (by omega)]
    · rw [if_neg c2]
      by_cases c3 : v < -1000000
      · rw [if_pos c3]
      · rw [if_neg c3, show v = -1000000 by omega]
  · rw [if_neg c1, if_pos (by omega)]
    by_cases c2 : 1000000 < v
    · rw [if_pos c2]
    · rw [if_neg c2, if_neg (by omega), show v = 1000000 by omega]
theorem rf_clip {μ : sh_Mem} {v : Int} (h : -4000000000000 ≤ v ∧ v ≤ 4000000000000) : f_X12_qClip μ (zL v) = zL (ec v) := by
  unfold f_X12_qClip ec
  simp only [show (0 : Int32) = zI 0 from rfl, show (1000000 : Int64) = zL 1000000 from rfl, zL_neg, lg_le0 (a := v) (b := 1000000) (by omega), lg_ge0 (a := v) (b := -1000000) (by omega)]
  by_cases c1 : v ≤ 1000000
  · rw [if_pos c1, if_neg (show ¬ 1000000 < v by omega)]
    by_cases c2 : -1000000 ≤ v
    · rw [if_pos c2, if_neg (by omega)]
    · rw [if_neg c2, if_pos (by omega)]
  · rw [if_neg c1, if_pos (by omega)]
theorem ein_tdiv {a b : Int} (ha : ein a) : ein (a.tdiv b) := by
  have h := Int.natAbs_tdiv_le_natAbs a b
  unfold ein at ha ⊢
  omega
theorem cl_floor {μ : sh_Mem} {a b : Int} (ha : ein a) (hb : ein b) (h0 : ¬ b = 0) : f_J9_floorDiv_f86c9 (zL a) (zL b) μ = some (zL (ef a b), μ) := by
  have hq := ein_tdiv (b := b) ha
  have hm := ein_mul hq hb
  unfold ein at ha hb hq
  have hz : ¬ zL b = 0 := fun z => h0 ((zL_eq (a := b) (b := 0) (by omega)).mp z)
  unfold f_J9_floorDiv_f86c9 ef
  rw [if_neg h0, if_pos hz, shl_ap, zL_div (by omega), zL_mul]
  simp only [show (0 : Int32) = zI 0 from rfl, show (0 : Int64) = zL 0 from rfl, show (1 : Int64) = zL 1 from rfl, lg_xor (a := a) (b := b) (by omega), lg_eq0 (a := a.tdiv b * b) (b := a) (by omega), zL_sub]
  by_cases c1 : a.tdiv b * b = a
  · rw [if_pos c1, if_pos c1]
    split <;> rfl
  · rw [if_neg c1, if_neg c1]
    split <;> rfl
theorem rf_floor {μ : sh_Mem} {a b : Int} (ha : ein a) (hb : ein b) : f_X12_qFloor (zL a) (zL b) μ = some (zL (ef a b), μ) := by
  have hq := ein_tdiv (b := b) ha
  have hm := ein_mul hq hb
  unfold ein at ha hb hq
  unfold f_X12_qFloor ef
  by_cases h0 : b = 0
  · subst h0
    rw [if_pos (by rw [show (0 : Int64) = zL 0 from rfl]; exact lg_eq0 (a := 0) (b := 0) (by omega) ▸ rfl), if_pos rfl]
    rfl
  · have hz : ¬ zL b = 0 := fun z => h0 ((zL_eq (a := b) (b := 0) (by omega)).mp z)
    rw [if_neg h0, if_neg (by rw [show (0 : Int32) = zI 0 from rfl, show (0 : Int64) = zL 0 from rfl, lg_eq0 (a := b) (b := 0) (by omega)]; exact h0), if_pos hz, shl_ap, if_pos hz, zL_div (by omega), zL_mul, zL_sub]
    simp only [show (0 : Int32) = zI 0 from rfl, show (0 : Int64) = zL 0 from rfl, show (1 : Int64) = zL 1 from rfl, lg_eq0 (a := a - a.tdiv b * b) (b := 0) (by omega), lg_ge0 (a := a) (b := 0) (by omega), lg_ge0 (a := b) (b := 0) (by omega), zL_sub]
    by_cases c1 : a.tdiv b * b = a
    · rw [if_pos c1, if_pos (show a - a.tdiv b * b = 0 by omega)]
    · rw [if_neg c1, if_neg (show ¬ a - a.tdiv b * b = 0 by omega)]
      by_cases c2 : 0 ≤ a
      · rw [if_pos c2]
        by_cases c3 : 0 ≤ b
        · rw [if_pos c3, if_pos (by omega)]
        · rw [if_neg c3, if_neg (by omega)]
      · rw [if_neg c2]
        by_cases c3 : 0 ≤ b
        · rw [if_pos c3, if_neg (by omega)]
        · rw [if_neg c3, if_pos (by omega)]
theorem eo_12 {a b : Int} : eo 12 a b = ec (a - b) := by
  unfold eo
  rw [if_neg (by decide), if_pos rfl]
theorem eo_13 {a b : Int} : eo 13 a b = ec (a * b) := by
  unfold eo
  rw [if_neg (by decide), if_neg (by decide), if_pos rfl]
theorem sg_two {t : Nat} (h1 : 11 ≤ t) (h2 : t ≤ 21) : t = 11 ∨ t = 12 ∨ t = 13 ∨ t = 14 ∨ t = 15 ∨ t = 16 ∨ t = 17 ∨ t = 18 ∨ t = 19 ∨ t = 20 ∨ t = 21 := by omega
theorem cl_two_11 {μ : sh_Mem} {a b : Int} (ha : ein a) (hb : ein b) : f_X1_ofTwo (zI (sg_c 11)) (zL a) (zL b) μ = some (zL (eo 11 a b), μ) := by
  have hm := ein_mul ha hb
  have hfl := fun h0 => cl_floor (μ := μ) ha hb h0
  unfold ein at ha hb
  unfold f_X1_ofTwo
  rw [show sg_c 11 = -143 from rfl, show eo 11 a b = ec (a + b) from rfl]
  simp (disch := omega) only [↓reduceIte, ↓shl_ap, shb_ap, shv_ap, zI_lit, zL_lit, nI_z, lN_z, ofN_z, zI_add, zI_sub, zI_mul, zI_neg, zL_add, zL_sub, zL_mul, zL_neg, zI_l, zI_cl, zI_le_t, zI_le_f, zI_lt_t, zI_lt_f, zI_eq_t, zI_eq_f, zI_in_t, zz_isIn_t, zz_isIn_f, not_true_eq_false, not_false_eq_true, true_or, or_true, false_or, or_false, true_and, and_true, false_and, and_false, cl_clip]
theorem cl_two_12 {μ : sh_Mem} {a b : Int} (ha : ein a) (hb : ein b) : f_X1_ofTwo (zI (sg_c 12)) (zL a) (zL b) μ = some (zL (eo 12 a b), μ) := by
  have hm := ein_mul ha hb
  have hfl := fun h0 => cl_floor (μ := μ) ha hb h0
  unfold ein at ha hb
  unfold f_X1_ofTwo
  rw [show sg_c 12 = -145 from rfl, eo_12]
  simp (disch := omega) only [↓reduceIte, ↓shl_ap, shb_ap, shv_ap, zI_lit, zL_lit, nI_z, lN_z, ofN_z, zI_add, zI_sub, zI_mul, zI_neg, zL_add, zL_sub, zL_mul, zL_neg, zI_l, zI_cl, zI_le_t, zI_le_f, zI_lt_t, zI_lt_f, zI_eq_t, zI_eq_f, zI_in_t, zz_isIn_t, zz_isIn_f, not_true_eq_false, not_false_eq_true, true_or, or_true, false_or, or_false, true_and, and_true, false_and, and_false, cl_clip]
theorem cl_two_13 {μ : sh_Mem} {a b : Int} (ha : ein a) (hb : ein b) : f_X1_ofTwo (zI (sg_c 13)) (zL a) (zL b) μ = some (zL (eo 13 a b), μ) := by
  have hm := ein_mul ha hb
  have hfl := fun h0 => cl_floor (μ := μ) ha hb h0
  unfold ein at ha hb
  unfold f_X1_ofTwo
  rw [show sg_c 13 = -142 from rfl, eo_13]
  simp (disch := omega) only [↓reduceIte, ↓shl_ap, shb_ap, shv_ap, zI_lit, zL_lit, nI_z, lN_z, ofN_z, zI_add, zI_sub, zI_mul, zI_neg, zL_add, zL_sub, zL_mul, zL_neg, zI_l, zI_cl, zI_le_t, zI_le_f, zI_lt_t, zI_lt_f, zI_eq_t, zI_eq_f, zI_in_t, zz_isIn_t, zz_isIn_f, not_true_eq_false, not_false_eq_true, true_or, or_true, false_or, or_false, true_and, and_true, false_and, and_false, cl_clip]
theorem cl_two_14 {μ : sh_Mem} {a b : Int} (ha : ein a) (hb : ein b) : f_X1_ofTwo (zI (sg_c 14)) (zL a) (zL b) μ = some (zL (eo 14 a b), μ) := by
  have hm := ein_mul ha hb
  have hfl := fun h0 => cl_floor (μ := μ) ha hb h0
  unfold ein at ha hb
  unfold f_X1_ofTwo
  rw [show sg_c 14 = -147 from rfl, show eo 14 a b = ef a b from rfl]
  by_cases c : b = 0
  · subst c
    simp (disch := omega) only [↓reduceIte, ↓shl_ap, shb_ap, shv_ap, zI_lit, zL_lit, nI_z, lN_z, ofN_z, zI_add, zI_sub, zI_mul, zI_neg, zL_add, zL_sub, zL_mul, zL_neg, zI_l, zI_cl, zI_le_t, zI_le_f, zI_lt_t, zI_lt_f, zI_eq_t, zI_eq_f, zI_in_t, zz_isIn_t, zz_isIn_f, not_true_eq_false, not_false_eq_true, true_or, or_true, false_or, or_false, true_and, and_true, false_and, and_false, Nat.reduceLeDiff, Int.reduceAdd, Int.reduceSub, Int.reduceMul, Int.reduceNeg, Int.reduceToNat, Nat.reduceAdd, Nat.reduceMul, Nat.reduceSub, Int.toNat_natCast, lg_eq0]
    rfl
  · simp (disch := omega) only [↓reduceIte, ↓shl_ap, shb_ap, shv_ap, zI_lit, zL_lit, nI_z, lN_z, ofN_z, zI_add, zI_sub, zI_mul, zI_neg, zL_add, zL_sub, zL_mul, zL_neg, zI_l, zI_cl, zI_le_t, zI_le_f, zI_lt_t, zI_lt_f, zI_eq_t, zI_eq_f, zI_in_t, zz_isIn_t, zz_isIn_f, not_true_eq_false, not_false_eq_true, true_or, or_true, false_or, or_false, true_and, and_true, false_and, and_false, Nat.reduceLeDiff, Int.reduceAdd, Int.reduceSub, Int.reduceMul, Int.reduceNeg, Int.reduceToNat, Nat.reduceAdd, Nat.reduceMul, Nat.reduceSub, Int.toNat_natCast, lg_eq0, eq_false c, hfl c]
theorem cl_two_15 {μ : sh_Mem} {a b : Int} (ha : ein a) (hb : ein b) : f_X1_ofTwo (zI (sg_c 15)) (zL a) (zL b) μ = some (zL (eo 15 a b), μ) := by
  have hm := ein_mul ha hb
  have hfl := fun h0 => cl_floor (μ := μ) ha hb h0
  unfold ein at ha hb
  unfold f_X1_ofTwo
  rw [show sg_c 15 = -26 from rfl, show eo 15 a b = if a < b then a else b from rfl]
  by_cases c : a < b
  · simp (disch := omega) only [↓reduceIte, ↓shl_ap, shb_ap, shv_ap, zI_lit, zL_lit, nI_z, lN_z, ofN_z, zI_add, zI_sub, zI_mul, zI_neg, zL_add, zL_sub, zL_mul, zL_neg, zI_l, zI_cl, zI_le_t, zI_le_f, zI_lt_t, zI_lt_f, zI_eq_t, zI_eq_f, zI_in_t, zz_isIn_t, zz_isIn_f, not_true_eq_false, not_false_eq_true, true_or, or_true, false_or, or_false, true_and, and_true, false_and, and_false, Nat.reduceLeDiff, Int.reduceAdd, Int.reduceSub, Int.reduceMul, Int.reduceNeg, Int.reduceToNat, Nat.reduceAdd, Nat.reduceMul, Nat.reduceSub, Int.toNat_natCast, f_J9_min_f86c9, lg_gt0]
    rw [if_neg (by omega), if_pos c]
  · simp (disch := omega) only [↓reduceIte, ↓shl_ap, shb_ap, shv_ap, zI_lit, zL_lit, nI_z, lN_z, ofN_z, zI_add, zI_sub, zI_mul, zI_neg, zL_add, zL_sub, zL_mul, zL_neg, zI_l, zI_cl, zI_le_t, zI_le_f, zI_lt_t, zI_lt_f, zI_eq_t, zI_eq_f, zI_in_t, zz_isIn_t, zz_isIn_f, not_true_eq_false, not_false_eq_true, true_or, or_true, false_or, or_false, true_and, and_true, false_and, and_false, Nat.reduceLeDiff, Int.reduceAdd, Int.reduceSub, Int.reduceMul, Int.reduceNeg, Int.reduceToNat, Nat.reduceAdd, Nat.reduceMul, Nat.reduceSub, Int.toNat_natCast, f_J9_min_f86c9, lg_gt0]
    rw [if_neg c]
    by_cases c2 : b < a
    · rw [if_pos c2]
    · rw [if_neg c2, show a = b by omega]
theorem cl_two_16 {μ : sh_Mem} {a b : Int} (ha : ein a) (hb : ein b) : f_X1_ofTwo (zI (sg_c 16)) (zL a) (zL b) μ = some (zL (eo 16 a b), μ) := by
  have hm := ein_mul ha hb
  have hfl := fun h0 => cl_floor (μ := μ) ha hb h0
  unfold ein at ha hb
  unfold f_X1_ofTwo
  rw [show sg_c 16 = -27 from rfl, show eo 16 a b = if b < a then a else b from rfl]
  by_cases c : b < a
  · simp (disch := omega) only [↓reduceIte, ↓shl_ap, shb_ap, shv_ap, zI_lit, zL_lit, nI_z, lN_z, ofN_z, zI_add, zI_sub, zI_mul, zI_neg, zL_add, zL_sub, zL_mul, zL_neg, zI_l, zI_cl, zI_le_t, zI_le_f, zI_lt_t, zI_lt_f, zI_eq_t, zI_eq_f, zI_in_t, zz_isIn_t, zz_isIn_f, not_true_eq_false, not_false_eq_true, true_or, or_true, false_or, or_false, true_and, and_true, false_and, and_false, Nat.reduceLeDiff, Int.reduceAdd, Int.reduceSub, Int.reduceMul, Int.reduceNeg, Int.reduceToNat, Nat.reduceAdd, Nat.reduceMul, Nat.reduceSub, Int.toNat_natCast, f_J9_max_f86c9, lg_lt0]
    rw [if_neg (by omega), if_pos c]
  · simp (disch := omega) only [↓reduceIte, ↓shl_ap, shb_ap, shv_ap, zI_lit, zL_lit, nI_z, lN_z, ofN_z, zI_add, zI_sub, zI_mul, zI_neg, zL_add, zL_sub, zL_mul, zL_neg, zI_l, zI_cl, zI_le_t, zI_le_f, zI_lt_t, zI_lt_f, zI_eq_t, zI_eq_f, zI_in_t, zz_isIn_t, zz_isIn_f, not_true_eq_false, not_false_eq_true, true_or, or_true, false_or, or_false, true_and, and_true, false_and, and_false, Nat.reduceLeDiff, Int.reduceAdd, Int.reduceSub, Int.reduceMul, Int.reduceNeg, Int.reduceToNat, Nat.reduceAdd, Nat.reduceMul, Nat.reduceSub, Int.toNat_natCast, f_J9_max_f86c9, lg_lt0]
    rw [if_neg c]
    by_cases c2 : a < b
    · rw [if_pos c2]
    · rw [if_neg c2, show a = b by omega]
theorem cl_two_17 {μ : sh_Mem} {a b : Int} (ha : ein a) (hb : ein b) : f_X1_ofTwo (zI (sg_c 17)) (zL a) (zL b) μ = some (zL (eo 17 a b), μ) := by
  have hm := ein_mul ha hb
  have hfl := fun h0 => cl_floor (μ := μ) ha hb h0
  unfold ein at ha hb
  unfold f_X1_ofTwo
  rw [show sg_c 17 = -160 from rfl, show eo 17 a b = if a < b then 1 else 0 from rfl]
  by_cases c : a < b
  · rw [if_pos c]; simp (disch := omega) only [↓reduceIte, ↓shl_ap, shb_ap, shv_ap, zI_lit, zL_lit, nI_z, lN_z, ofN_z, zI_add, zI_sub, zI_mul, zI_neg, zL_add, zL_sub, zL_mul, zL_neg, zI_l, zI_cl, zI_le_t, zI_le_f, zI_lt_t, zI_lt_f, zI_eq_t, zI_eq_f, zI_in_t, zz_isIn_t, zz_isIn_f, not_true_eq_false, not_false_eq_true, true_or, or_true, false_or, or_false, true_and, and_true, false_and, and_false, Nat.reduceLeDiff, Int.reduceAdd, Int.reduceSub, Int.reduceMul, Int.reduceNeg, Int.reduceToNat, Nat.reduceAdd, Nat.reduceMul, Nat.reduceSub, Int.toNat_natCast, lg_ge0]; rw [if_neg (by omega)]
  · rw [if_neg c]; simp (disch := omega) only [↓reduceIte, ↓shl_ap, shb_ap, shv_ap, zI_lit, zL_lit, nI_z, lN_z, ofN_z, zI_add, zI_sub, zI_mul, zI_neg, zL_add, zL_sub, zL_mul, zL_neg, zI_l, zI_cl, zI_le_t, zI_le_f, zI_lt_t, zI_lt_f, zI_eq_t, zI_eq_f, zI_in_t, zz_isIn_t, zz_isIn_f, not_true_eq_false, not_false_eq_true, true_or, or_true, false_or, or_false, true_and, and_true, false_and, and_false, Nat.reduceLeDiff, Int.reduceAdd, Int.reduceSub, Int.reduceMul, Int.reduceNeg, Int.reduceToNat, Nat.reduceAdd, Nat.reduceMul, Nat.reduceSub, Int.toNat_natCast, lg_ge0]; rw [if_pos (by omega)]
theorem cl_two_18 {μ : sh_Mem} {a b : Int} (ha : ein a) (hb : ein b) : f_X1_ofTwo (zI (sg_c 18)) (zL a) (zL b) μ = some (zL (eo 18 a b), μ) := by
  have hm := ein_mul ha hb
  have hfl := fun h0 => cl_floor (μ := μ) ha hb h0
  unfold ein at ha hb
  unfold f_X1_ofTwo
  rw [show sg_c 18 = -162 from rfl, show eo 18 a b = if b < a then 1 else 0 from rfl]
  by_cases c : b < a
  · rw [if_pos c]; simp (disch := omega) only [↓reduceIte, ↓shl_ap, shb_ap, shv_ap, zI_lit, zL_lit, nI_z, lN_z, ofN_z, zI_add, zI_sub, zI_mul, zI_neg, zL_add, zL_sub, zL_mul, zL_neg, zI_l, zI_cl, zI_le_t, zI_le_f, zI_lt_t, zI_lt_f, zI_eq_t, zI_eq_f, zI_in_t, zz_isIn_t, zz_isIn_f, not_true_eq_false, not_false_eq_true, true_or, or_true, false_or, or_false, true_and, and_true, false_and, and_false, Nat.reduceLeDiff, Int.reduceAdd, Int.reduceSub, Int.reduceMul, Int.reduceNeg, Int.reduceToNat, Nat.reduceAdd, Nat.reduceMul, Nat.reduceSub, Int.toNat_natCast, lg_le0]; rw [if_neg (by omega)]
  · rw [if_neg c]; simp (disch := omega) only [↓reduceIte, ↓shl_ap, shb_ap, shv_ap, zI_lit, zL_lit, nI_z, lN_z, ofN_z, zI_add, zI_sub, zI_mul, zI_neg, zL_add, zL_sub, zL_mul, zL_neg, zI_l, zI_cl, zI_le_t, zI_le_f, zI_lt_t, zI_lt_f, zI_eq_t, zI_eq_f, zI_in_t, zz_isIn_t, zz_isIn_f, not_true_eq_false, not_false_eq_true, true_or, or_true, false_or, or_false, true_and, and_true, false_and, and_false, Nat.reduceLeDiff, Int.reduceAdd, Int.reduceSub, Int.reduceMul, Int.reduceNeg, Int.reduceToNat, Nat.reduceAdd, Nat.reduceMul, Nat.reduceSub, Int.toNat_natCast, lg_le0]; rw [if_pos (by omega)]
theorem cl_two_19 {μ : sh_Mem} {a b : Int} (ha : ein a) (hb : ein b) : f_X1_ofTwo (zI (sg_c 19)) (zL a) (zL b) μ = some (zL (eo 19 a b), μ) := by
  have hm := ein_mul ha hb
  have hfl := fun h0 => cl_floor (μ := μ) ha hb h0
  unfold ein at ha hb
  unfold f_X1_ofTwo
  rw [show sg_c 19 = -161 from rfl, show eo 19 a b = if a = b then 1 else 0 from rfl]
  by_cases c : a = b
  · rw [if_pos c]; simp (disch := omega) only [↓reduceIte, ↓shl_ap, shb_ap, shv_ap, zI_lit, zL_lit, nI_z, lN_z, ofN_z, zI_add, zI_sub, zI_mul, zI_neg, zL_add, zL_sub, zL_mul, zL_neg, zI_l, zI_cl, zI_le_t, zI_le_f, zI_lt_t, zI_lt_f, zI_eq_t, zI_eq_f, zI_in_t, zz_isIn_t, zz_isIn_f, not_true_eq_false, not_false_eq_true, true_or, or_true, false_or, or_false, true_and, and_true, false_and, and_false, Nat.reduceLeDiff, Int.reduceAdd, Int.reduceSub, Int.reduceMul, Int.reduceNeg, Int.reduceToNat, Nat.reduceAdd, Nat.reduceMul, Nat.reduceSub, Int.toNat_natCast, lg_eq0]; rw [if_pos c]
  · rw [if_neg c]; simp (disch := omega) only [↓reduceIte, ↓shl_ap, shb_ap, shv_ap, zI_lit, zL_lit, nI_z, lN_z, ofN_z, zI_add, zI_sub, zI_mul, zI_neg, zL_add, zL_sub, zL_mul, zL_neg, zI_l, zI_cl, zI_le_t, zI_le_f, zI_lt_t, zI_lt_f, zI_eq_t, zI_eq_f, zI_in_t, zz_isIn_t, zz_isIn_f, not_true_eq_false, not_false_eq_true, true_or, or_true, false_or, or_false, true_and, and_true, false_and, and_false, Nat.reduceLeDiff, Int.reduceAdd, Int.reduceSub, Int.reduceMul, Int.reduceNeg, Int.reduceToNat, Nat.reduceAdd, Nat.reduceMul, Nat.reduceSub, Int.toNat_natCast, lg_eq0]; rw [if_neg c]
theorem cl_two_20 {μ : sh_Mem} {a b : Int} (ha : ein a) (hb : ein b) : f_X1_ofTwo (zI (sg_c 20)) (zL a) (zL b) μ = some (zL (eo 20 a b), μ) := by
  have hm := ein_mul ha hb
  have hfl := fun h0 => cl_floor (μ := μ) ha hb h0
  unfold ein at ha hb
  unfold f_X1_ofTwo
  rw [show sg_c 20 = -23 from rfl, show eo 20 a b = if a < b then a else b from rfl]
  by_cases c : a < b
  · simp (disch := omega) only [↓reduceIte, ↓shl_ap, shb_ap, shv_ap, zI_lit, zL_lit, nI_z, lN_z, ofN_z, zI_add, zI_sub, zI_mul, zI_neg, zL_add, zL_sub, zL_mul, zL_neg, zI_l, zI_cl, zI_le_t, zI_le_f, zI_lt_t, zI_lt_f, zI_eq_t, zI_eq_f, zI_in_t, zz_isIn_t, zz_isIn_f, not_true_eq_false, not_false_eq_true, true_or, or_true, false_or, or_false, true_and, and_true, false_and, and_false, Nat.reduceLeDiff, Int.reduceAdd, Int.reduceSub, Int.reduceMul, Int.reduceNeg, Int.reduceToNat, Nat.reduceAdd, Nat.reduceMul, Nat.reduceSub, Int.toNat_natCast, f_J9_min_f86c9, lg_gt0]
    rw [if_neg (by omega), if_pos c]
  · simp (disch := omega) only [↓reduceIte, ↓shl_ap, shb_ap, shv_ap, zI_lit, zL_lit, nI_z, lN_z, ofN_z, zI_add, zI_sub, zI_mul, zI_neg, zL_add, zL_sub, zL_mul, zL_neg, zI_l, zI_cl, zI_le_t, zI_le_f, zI_lt_t, zI_lt_f, zI_eq_t, zI_eq_f, zI_in_t, zz_isIn_t, zz_isIn_f, not_true_eq_false, not_false_eq_true, true_or, or_true, false_or, or_false, true_and, and_true, false_and, and_false, Nat.reduceLeDiff, Int.reduceAdd, Int.reduceSub, Int.reduceMul, Int.reduceNeg, Int.reduceToNat, Nat.reduceAdd, Nat.reduceMul, Nat.reduceSub, Int.toNat_natCast, f_J9_min_f86c9, lg_gt0]
    rw [if_neg c]
    by_cases c2 : b < a
    · rw [if_pos c2]
    · rw [if_neg c2, show a = b by omega]
theorem cl_two_21 {μ : sh_Mem} {a b : Int} (ha : ein a) (hb : ein b) : f_X1_ofTwo (zI (sg_c 21)) (zL a) (zL b) μ = some (zL (eo 21 a b), μ) := by
  have hm := ein_mul ha hb
  have hfl := fun h0 => cl_floor (μ := μ) ha hb h0
  unfold ein at ha hb
  unfold f_X1_ofTwo
  rw [show sg_c 21 = -22 from rfl, show eo 21 a b = if b < a then a else b from rfl]
  by_cases c : b < a
  · simp (disch := omega) only [↓reduceIte, ↓shl_ap, shb_ap, shv_ap, zI_lit, zL_lit, nI_z, lN_z, ofN_z, zI_add, zI_sub, zI_mul, zI_neg, zL_add, zL_sub, zL_mul, zL_neg, zI_l, zI_cl, zI_le_t, zI_le_f, zI_lt_t, zI_lt_f, zI_eq_t, zI_eq_f, zI_in_t, zz_isIn_t, zz_isIn_f, not_true_eq_false, not_false_eq_true, true_or, or_true, false_or, or_false, true_and, and_true, false_and, and_false, Nat.reduceLeDiff, Int.reduceAdd, Int.reduceSub, Int.reduceMul, Int.reduceNeg, Int.reduceToNat, Nat.reduceAdd, Nat.reduceMul, Nat.reduceSub, Int.toNat_natCast, f_J9_max_f86c9, lg_lt0]
    rw [if_neg (by omega), if_pos c]
  · simp (disch := omega) only [↓reduceIte, ↓shl_ap, shb_ap, shv_ap, zI_lit, zL_lit, nI_z, lN_z, ofN_z, zI_add, zI_sub, zI_mul, zI_neg, zL_add, zL_sub, zL_mul, zL_neg, zI_l, zI_cl, zI_le_t, zI_le_f, zI_lt_t, zI_lt_f, zI_eq_t, zI_eq_f, zI_in_t, zz_isIn_t, zz_isIn_f, not_true_eq_false, not_false_eq_true, true_or, or_true, false_or, or_false, true_and, and_true, false_and, and_false, Nat.reduceLeDiff, Int.reduceAdd, Int.reduceSub, Int.reduceMul, Int.reduceNeg, Int.reduceToNat, Nat.reduceAdd, Nat.reduceMul, Nat.reduceSub, Int.toNat_natCast, f_J9_max_f86c9, lg_lt0]
    rw [if_neg c]
    by_cases c2 : a < b
    · rw [if_pos c2]
    · rw [if_neg c2, show a = b by omega]
theorem cl_two {μ : sh_Mem} {t : Nat} {a b : Int} (h1 : 11 ≤ t) (h2 : t ≤ 21) (ha : ein a) (hb : ein b) : f_X1_ofTwo (zI (sg_c t)) (zL a) (zL b) μ = some (zL (eo t a b), μ) := by
  rcases sg_two h1 h2 with rfl | rfl | rfl | rfl | rfl | rfl | rfl | rfl | rfl | rfl | rfl
  · exact cl_two_11 ha hb
  · exact cl_two_12 ha hb
  · exact cl_two_13 ha hb
  · exact cl_two_14 ha hb
  · exact cl_two_15 ha hb
  · exact cl_two_16 ha hb
  · exact cl_two_17 ha hb
  · exact cl_two_18 ha hb
  · exact cl_two_19 ha hb
  · exact cl_two_20 ha hb
  · exact cl_two_21 ha hb
