/-! ASK: answers put together -/
def jn (w : Nat) (res : Int) (p : Nat) (v : Int) : Int := if w = 27 then (if res = -1 ∧ ¬ v = 0 then (p : Int) else res) else if w = 28 then (if ¬ v = 0 then (p : Int) else res) else if w = 29 then (if ¬ v = 0 then res + 1 else res) else if w = 30 then res + v else if w = 31 then (if p = 0 ∨ res < v then v else res) else (if p = 0 ∨ v < res then v else res)
def jnA (w : Nat) (V : Nat → Int) : Nat → Int
  | 0 => if w = 27 ∨ w = 28 then -1 else 0
  | p + 1 => jn w (jnA w V p) p (V p)
theorem jn_b {w p : Nat} {res v : Int} (hr : -1000000 * ((p : Int) + 1) ≤ res ∧ res ≤ 1000000 * ((p : Int) + 1)) (hv : ein v) : -1000000 * ((p : Int) + 1 + 1) ≤ jn w res p v ∧ jn w res p v ≤ 1000000 * ((p : Int) + 1 + 1) := by
  unfold ein at hv
  unfold jn
  repeat' split
  all_goals omega
theorem jnA_b {w : Nat} {V : Nat → Int} : ∀ p, (∀ p', p' < p → ein (V p')) → -1000000 * ((p : Int) + 1) ≤ jnA w V p ∧ jnA w V p ≤ 1000000 * ((p : Int) + 1)
  | 0, _ => by
    show -1000000 * (((0 : Nat) : Int) + 1) ≤ (if w = 27 ∨ w = 28 then (-1 : Int) else 0) ∧ (if w = 27 ∨ w = 28 then (-1 : Int) else 0) ≤ 1000000 * (((0 : Nat) : Int) + 1)
    split <;> omega
  | p + 1, h => jn_b (jnA_b p (fun p' h' => h p' (by omega))) (h p (by omega))
section Aq3
theorem qT8 {f : Nat} {k i5 p : Int32} {v : Int64} {μ : sh_Mem} : F_X12_qTakes (f + 1) 8 k v p i5 μ = some (sh_setI μ 291 111 0) := by
  rw [F_X12_qTakes, shl_ap]
theorem tq_27 {p : Nat} {res v : Int} {μ : sh_Mem} (hp : p < 7) (hr : -100000000 ≤ res ∧ res ≤ 100000000) (hv : ein v) (h01 : (27 : Nat) < 30 → v = 0 ∨ v = 1) (h110 : sh_l μ 291 110 = zL res) (h111 : sh_i μ 291 111 = if p = 0 then 1 else 0) : ∃ μ', f_X12_qTakes (zI (((27 : Nat) : Int) - 27)) (zL v) (zI p) μ = some μ' ∧ sh_fr (fun r k => r = 291 ∧ (k = 110 ∨ k = 111)) μ μ' ∧ sh_l μ' 291 110 = zL (jn 27 res p v) ∧ sh_i μ' 291 111 = 0 := by
  unfold ein at hv
  obtain ⟨f, hf⟩ : ∃ f, sh_fuel = f + 1 + 1 + 1 + 1 + 1 + 1 + 1 + 1 := ⟨sh_fuel - 8, by have := sh_fuel_eq; omega⟩
  have keep : ∀ m : sh_Mem, m = sh_setI μ 291 111 0 → sh_fr (fun r k => r = 291 ∧ (k = 110 ∨ k = 111)) μ m ∧ sh_l m 291 110 = zL res ∧ sh_i m 291 111 = 0 := fun m hm => by
    rw [hm]
    exact ⟨sh_fr_I sh_fr.rf (by omega), h110, ir_set⟩
  have put : ∀ (m : sh_Mem) (x : Int), m = sh_setI (sh_setL μ 291 110 (zL x)) 291 111 0 → sh_fr (fun r k => r = 291 ∧ (k = 110 ∨ k = 111)) μ m ∧ sh_l m 291 110 = zL x ∧ sh_i m 291 111 = 0 := fun m x hm => by
    rw [hm]
    exact ⟨sh_fr_I (sh_fr_L sh_fr.rf (by omega)) (by omega), lr_set, ir_set⟩
  have one : (lg_cmp (zL v) 1 = 0) = (v = 1) := lg_eq0 (a := v) (b := 1) (by omega)
  have neg : (lg_cmp (zL res) (-1) = 0) = (res = -1) := by
    rw [show (-1 : Int64) = -(1 : Int64) from rfl, show (1 : Int64) = zL 1 from rfl, zL_neg]
    exact lg_eq0 (a := res) (b := -1) (by omega)
  have le : (lg_cmp (zL v) (zL res) ≤ 0) = (v ≤ res) := lg_le0 (by omega)
  have ge : ((0 : Int32) ≤ lg_cmp (zL v) (zL res)) = (res ≤ v) := lg_ge0 (by omega)
  have pl : (zI (p : Int)).toInt64 = zL (p : Int) := zI_l (by omega) (by omega)
  have hk : zI (((27 : Nat) : Int) - 27) = 0 := rfl
  rw [hk]
  unfold f_X12_qTakes
  rw [if_neg (show ¬ (3 : Int32) ≤ 0 by decide), hf]
  simp only [one, h110, neg]
  by_cases c1 : v = 1
  · rw [if_pos c1, if_pos trivial]
    by_cases c2 : res = -1
    · obtain ⟨q1, q2, q3⟩ := put _ (p : Int) rfl
      refine ⟨_, ?_, q1, by unfold jn; rw [if_pos rfl, if_pos ⟨c2, by omega⟩]; exact q2, q3⟩
      rw [if_pos c2, F_X12_qTakes, pl, shl_ap, F_X12_qTakes, if_neg (show ¬ (0 : Int32) = 2 by decide), F_X12_qTakes, if_neg (show ¬ (0 : Int32) = 3 by decide), F_X12_qTakes, if_pos (show (0 : Int32) ≤ 3 by decide), qT8]
    · obtain ⟨q1, q2, q3⟩ := keep _ rfl
      refine ⟨_, ?_, q1, by unfold jn; rw [if_pos rfl, if_neg (fun z => c2 z.1)]; exact q2, q3⟩
      rw [if_neg c2, F_X12_qTakes, if_neg (show ¬ (0 : Int32) = 1 by decide), F_X12_qTakes, if_neg (show ¬ (0 : Int32) = 2 by decide), F_X12_qTakes, if_neg (show ¬ (0 : Int32) = 3 by decide), F_X12_qTakes, if_pos (show (0 : Int32) ≤ 3 by decide), qT8]
  · obtain ⟨q1, q2, q3⟩ := keep _ rfl
    refine ⟨_, ?_, q1, by unfold jn; rw [if_pos rfl, if_neg (fun z => z.2 (by have := h01 (by omega); omega))]; exact q2, q3⟩
    rw [if_neg c1, F_X12_qTakes, if_pos rfl, F_X12_qTakes, if_neg (show ¬ (0 : Int32) = 1 by decide), F_X12_qTakes, if_neg (show ¬ (0 : Int32) = 2 by decide), F_X12_qTakes, if_neg (show ¬ (0 : Int32) = 3 by decide), F_X12_qTakes, if_pos (show (0 : Int32) ≤ 3 by decide), qT8]
theorem tq_28 {p : Nat} {res v : Int} {μ : sh_Mem} (hp : p < 7) (hr : -100000000 ≤ res ∧ res ≤ 100000000) (hv : ein v) (h01 : (28 : Nat) < 30 → v = 0 ∨ v = 1) (h110 : sh_l μ 291 110 = zL res) (h111 : sh_i μ 291 111 = if p = 0 then 1 else 0) : ∃ μ', f_X12_qTakes (zI (((28 : Nat) : Int) - 27)) (zL v) (zI p) μ = some μ' ∧ sh_fr (fun r k => r = 291 ∧ (k = 110 ∨ k = 111)) μ μ' ∧ sh_l μ' 291 110 = zL (jn 28 res p v) ∧ sh_i μ' 291 111 = 0 := by
  unfold ein at hv
  obtain ⟨f, hf⟩ : ∃ f, sh_fuel = f + 1 + 1 + 1 + 1 + 1 + 1 + 1 + 1 := ⟨sh_fuel - 8, by have := sh_fuel_eq; omega⟩
  have keep : ∀ m : sh_Mem, m = sh_setI μ 291 111 0 → sh_fr (fun r k => r = 291 ∧ (k = 110 ∨ k = 111)) μ m ∧ sh_l m 291 110 = zL res ∧ sh_i m 291 111 = 0 := fun m hm => by
    rw [hm]
    exact ⟨sh_fr_I sh_fr.rf (by omega), h110, ir_set⟩
  have put : ∀ (m : sh_Mem) (x : Int), m = sh_setI (sh_setL μ 291 110 (zL x)) 291 111 0 → sh_fr (fun r k => r = 291 ∧ (k = 110 ∨ k = 111)) μ m ∧ sh_l m 291 110 = zL x ∧ sh_i m 291 111 = 0 := fun m x hm => by
    rw [hm]
    exact ⟨sh_fr_I (sh_fr_L sh_fr.rf (by omega)) (by omega), lr_set, ir_set⟩
  have one : (lg_cmp (zL v) 1 = 0) = (v = 1) := lg_eq0 (a := v) (b := 1) (by omega)
  have neg : (lg_cmp (zL res) (-1) = 0) = (res = -1) := by
    rw [show (-1 : Int64) = -(1 : Int64) from rfl, show (1 : Int64) = zL 1 from rfl, zL_neg]
    exact lg_eq0 (a := res) (b := -1) (by omega)
  have le : (lg_cmp (zL v) (zL res) ≤ 0) = (v ≤ res) := lg_le0 (by omega)
  have ge : ((0 : Int32) ≤ lg_cmp (zL v) (zL res)) = (res ≤ v) := lg_ge0 (by omega)
  have pl : (zI (p : Int)).toInt64 = zL (p : Int) := zI_l (by omega) (by omega)
  have hk : zI (((28 : Nat) : Int) - 27) = 1 := rfl
  rw [hk]
  unfold f_X12_qTakes
  rw [if_neg (show ¬ (3 : Int32) ≤ 1 by decide), hf]
  simp only [one, h110, neg]
  by_cases c1 : v = 1
  · obtain ⟨q1, q2, q3⟩ := put _ (p : Int) rfl
    refine ⟨_, ?_, q1, by unfold jn; rw [if_neg (show ¬ (28 : Nat) = 27 by decide), if_pos rfl, if_pos (by omega)]; exact q2, q3⟩
    rw [if_pos c1, if_neg (show ¬ (1 : Int32) = 0 by decide), F_X12_qTakes, if_pos rfl, if_neg (show ¬ (1 : Int32) = 0 by decide), F_X12_qTakes, pl, shl_ap, F_X12_qTakes, if_neg (show ¬ (1 : Int32) = 2 by decide), F_X12_qTakes, if_neg (show ¬ (1 : Int32) = 3 by decide), F_X12_qTakes, if_pos (show (1 : Int32) ≤ 3 by decide), qT8]
  · obtain ⟨q1, q2, q3⟩ := keep _ rfl
    refine ⟨_, ?_, q1, by unfold jn; rw [if_neg (show ¬ (28 : Nat) = 27 by decide), if_pos rfl, if_neg (fun z => z (by have := h01 (by omega); omega))]; exact q2, q3⟩
    rw [if_neg c1, F_X12_qTakes, if_neg (show ¬ (1 : Int32) = 0 by decide), F_X12_qTakes, if_pos rfl, if_pos rfl, F_X12_qTakes, if_neg (show ¬ (1 : Int32) = 2 by decide), F_X12_qTakes, if_neg (show ¬ (1 : Int32) = 3 by decide), F_X12_qTakes, if_pos (show (1 : Int32) ≤ 3 by decide), qT8]
theorem tq_29 {p : Nat} {res v : Int} {μ : sh_Mem} (hp : p < 7) (hr : -100000000 ≤ res ∧ res ≤ 100000000) (hv : ein v) (h01 : (29 : Nat) < 30 → v = 0 ∨ v = 1) (h110 : sh_l μ 291 110 = zL res) (h111 : sh_i μ 291 111 = if p = 0 then 1 else 0) : ∃ μ', f_X12_qTakes (zI (((29 : Nat) : Int) - 27)) (zL v) (zI p) μ = some μ' ∧ sh_fr (fun r k => r = 291 ∧ (k = 110 ∨ k = 111)) μ μ' ∧ sh_l μ' 291 110 = zL (jn 29 res p v) ∧ sh_i μ' 291 111 = 0 := by
  unfold ein at hv
  obtain ⟨f, hf⟩ : ∃ f, sh_fuel = f + 1 + 1 + 1 + 1 + 1 + 1 + 1 + 1 := ⟨sh_fuel - 8, by have := sh_fuel_eq; omega⟩
  have keep : ∀ m : sh_Mem, m = sh_setI μ 291 111 0 → sh_fr (fun r k => r = 291 ∧ (k = 110 ∨ k = 111)) μ m ∧ sh_l m 291 110 = zL res ∧ sh_i m 291 111 = 0 := fun m hm => by
    rw [hm]
    exact ⟨sh_fr_I sh_fr.rf (by omega), h110, ir_set⟩
  have put : ∀ (m : sh_Mem) (x : Int), m = sh_setI (sh_setL μ 291 110 (zL x)) 291 111 0 → sh_fr (fun r k => r = 291 ∧ (k = 110 ∨ k = 111)) μ m ∧ sh_l m 291 110 = zL x ∧ sh_i m 291 111 = 0 := fun m x hm => by
    rw [hm]
    exact ⟨sh_fr_I (sh_fr_L sh_fr.rf (by omega)) (by omega), lr_set, ir_set⟩
  have one : (lg_cmp (zL v) 1 = 0) = (v = 1) := lg_eq0 (a := v) (b := 1) (by omega)
  have neg : (lg_cmp (zL res) (-1) = 0) = (res = -1) := by
    rw [show (-1 : Int64) = -(1 : Int64) from rfl, show (1 : Int64) = zL 1 from rfl, zL_neg]
    exact lg_eq0 (a := res) (b := -1) (by omega)
  have le : (lg_cmp (zL v) (zL res) ≤ 0) = (v ≤ res) := lg_le0 (by omega)
  have ge : ((0 : Int32) ≤ lg_cmp (zL v) (zL res)) = (res ≤ v) := lg_ge0 (by omega)
  have pl : (zI (p : Int)).toInt64 = zL (p : Int) := zI_l (by omega) (by omega)
  have hk : zI (((29 : Nat) : Int) - 27) = 2 := rfl
  rw [hk]
  unfold f_X12_qTakes
  rw [if_neg (show ¬ (3 : Int32) ≤ 2 by decide), hf]
  simp only [one, h110, neg]
  by_cases c1 : v = 1
  · obtain ⟨q1, q2, q3⟩ := put _ (res + 1) rfl
    refine ⟨_, ?_, q1, by unfold jn; rw [if_neg (show ¬ (29 : Nat) = 27 by decide), if_neg (show ¬ (29 : Nat) = 28 by decide), if_pos rfl, if_pos (by omega)]; exact q2, q3⟩
    rw [if_pos c1, if_neg (show ¬ (2 : Int32) = 0 by decide), F_X12_qTakes, if_neg (show ¬ (2 : Int32) = 1 by decide), F_X12_qTakes, if_pos rfl, if_neg (show ¬ (1 : Int32) = 0 by decide), h110, show (1 : Int64) = zL 1 from rfl, zL_add, shl_ap, F_X12_qTakes, if_neg (show ¬ (2 : Int32) = 3 by decide), F_X12_qTakes, if_pos (show (2 : Int32) ≤ 3 by decide), qT8]
  · obtain ⟨q1, q2, q3⟩ := keep _ rfl
    refine ⟨_, ?_, q1, by unfold jn; rw [if_neg (show ¬ (29 : Nat) = 27 by decide), if_neg (show ¬ (29 : Nat) = 28 by decide), if_pos rfl, if_neg (fun z => z (by have := h01 (by omega); omega))]; exact q2, q3⟩
    rw [if_neg c1, F_X12_qTakes, if_neg (show ¬ (2 : Int32) = 0 by decide), F_X12_qTakes, if_neg (show ¬ (2 : Int32) = 1 by decide), F_X12_qTakes, if_pos rfl, if_pos rfl, F_X12_qTakes, if_neg (show ¬ (2 : Int32) = 3 by decide), F_X12_qTakes, if_pos (show (2 : Int32) ≤ 3 by decide), qT8]
theorem tq_30 {p : Nat} {res v : Int} {μ : sh_Mem} (hp : p < 7) (hr : -100000000 ≤ res ∧ res ≤ 100000000) (hv : ein v) (h01 : (30 : Nat) < 30 → v = 0 ∨ v = 1) (h110 : sh_l μ 291 110 = zL res) (h111 : sh_i μ 291 111 = if p = 0 then 1 else 0) : ∃ μ', f_X12_qTakes (zI (((30 : Nat) : Int) - 27)) (zL v) (zI p) μ = some μ' ∧ sh_fr (fun r k => r = 291 ∧ (k = 110 ∨ k = 111)) μ μ' ∧ sh_l μ' 291 110 = zL (jn 30 res p v) ∧ sh_i μ' 291 111 = 0 := by
  unfold ein at hv
  obtain ⟨f, hf⟩ : ∃ f, sh_fuel = f + 1 + 1 + 1 + 1 + 1 + 1 + 1 + 1 := ⟨sh_fuel - 8, by have := sh_fuel_eq; omega⟩
  have keep : ∀ m : sh_Mem, m = sh_setI μ 291 111 0 → sh_fr (fun r k => r = 291 ∧ (k = 110 ∨ k = 111)) μ m ∧ sh_l m 291 110 = zL res ∧ sh_i m 291 111 = 0 := fun m hm => by
    rw [hm]
    exact ⟨sh_fr_I sh_fr.rf (by omega), h110, ir_set⟩
  have put : ∀ (m : sh_Mem) (x : Int), m = sh_setI (sh_setL μ 291 110 (zL x)) 291 111 0 → sh_fr (fun r k => r = 291 ∧ (k = 110 ∨ k = 111)) μ m ∧ sh_l m 291 110 = zL x ∧ sh_i m 291 111 = 0 := fun m x hm => by
    rw [hm]
    exact ⟨sh_fr_I (sh_fr_L sh_fr.rf (by omega)) (by omega), lr_set, ir_set⟩
  have one : (lg_cmp (zL v) 1 = 0) = (v = 1) := lg_eq0 (a := v) (b := 1) (by omega)
  have neg : (lg_cmp (zL res) (-1) = 0) = (res = -1) := by
    rw [show (-1 : Int64) = -(1 : Int64) from rfl, show (1 : Int64) = zL 1 from rfl, zL_neg]
    exact lg_eq0 (a := res) (b := -1) (by omega)
  have le : (lg_cmp (zL v) (zL res) ≤ 0) = (v ≤ res) := lg_le0 (by omega)
  have ge : ((0 : Int32) ≤ lg_cmp (zL v) (zL res)) = (res ≤ v) := lg_ge0 (by omega)
  have pl : (zI (p : Int)).toInt64 = zL (p : Int) := zI_l (by omega) (by omega)
  have hk : zI (((30 : Nat) : Int) - 27) = 3 := rfl
  rw [hk]
  obtain ⟨q1, q2, q3⟩ := put _ (res + v) rfl
  refine ⟨_, ?_, q1, by unfold jn; rw [if_neg (show ¬ (30 : Nat) = 27 by decide), if_neg (show ¬ (30 : Nat) = 28 by decide), if_neg (show ¬ (30 : Nat) = 29 by decide), if_pos rfl]; exact q2, q3⟩
  unfold f_X12_qTakes
  rw [if_pos (show (3 : Int32) ≤ 3 by decide), hf, F_X12_qTakes, if_neg (show ¬ (3 : Int32) = 0 by decide), F_X12_qTakes, if_neg (show ¬ (3 : Int32) = 1 by decide), F_X12_qTakes, if_neg (show ¬ (3 : Int32) = 2 by decide), F_X12_qTakes, if_pos rfl, h110, zL_add, shl_ap, F_X12_qTakes, if_pos (show (3 : Int32) ≤ 3 by decide), qT8]
theorem tq_31 {p : Nat} {res v : Int} {μ : sh_Mem} (hp : p < 7) (hr : -100000000 ≤ res ∧ res ≤ 100000000) (hv : ein v) (h01 : (31 : Nat) < 30 → v = 0 ∨ v = 1) (h110 : sh_l μ 291 110 = zL res) (h111 : sh_i μ 291 111 = if p = 0 then 1 else 0) : ∃ μ', f_X12_qTakes (zI (((31 : Nat) : Int) - 27)) (zL v) (zI p) μ = some μ' ∧ sh_fr (fun r k => r = 291 ∧ (k = 110 ∨ k = 111)) μ μ' ∧ sh_l μ' 291 110 = zL (jn 31 res p v) ∧ sh_i μ' 291 111 = 0 := by
  unfold ein at hv
  obtain ⟨f, hf⟩ : ∃ f, sh_fuel = f + 1 + 1 + 1 + 1 + 1 + 1 + 1 + 1 := ⟨sh_fuel - 8, by have := sh_fuel_eq; omega⟩
  have keep : ∀ m : sh_Mem, m = sh_setI μ 291 111 0 → sh_fr (fun r k => r = 291 ∧ (k = 110 ∨ k = 111)) μ m ∧ sh_l m 291 110 = zL res ∧ sh_i m 291 111 = 0 := fun m hm => by
    rw [hm]
    exact ⟨sh_fr_I sh_fr.rf (by omega), h110, ir_set⟩
  have put : ∀ (m : sh_Mem) (x : Int), m = sh_setI (sh_setL μ 291 110 (zL x)) 291 111 0 → sh_fr (fun r k => r = 291 ∧ (k = 110 ∨ k = 111)) μ m ∧ sh_l m 291 110 = zL x ∧ sh_i m 291 111 = 0 := fun m x hm => by
    rw [hm]
    exact ⟨sh_fr_I (sh_fr_L sh_fr.rf (by omega)) (by omega), lr_set, ir_set⟩
  have one : (lg_cmp (zL v) 1 = 0) = (v = 1) := lg_eq0 (a := v) (b := 1) (by omega)
  have neg : (lg_cmp (zL res) (-1) = 0) = (res = -1) := by
    rw [show (-1 : Int64) = -(1 : Int64) from rfl, show (1 : Int64) = zL 1 from rfl, zL_neg]
    exact lg_eq0 (a := res) (b := -1) (by omega)
  have le : (lg_cmp (zL v) (zL res) ≤ 0) = (v ≤ res) := lg_le0 (by omega)
  have ge : ((0 : Int32) ≤ lg_cmp (zL v) (zL res)) = (res ≤ v) := lg_ge0 (by omega)
  have pl : (zI (p : Int)).toInt64 = zL (p : Int) := zI_l (by omega) (by omega)
  have hk : zI (((31 : Nat) : Int) - 27) = 4 := rfl
  rw [hk]
  have st : f_X12_qTakes 4 (zL v) (zI p) μ = (if (sh_i μ 291 111) = 0 then (if v ≤ res then F_X12_qTakes (f + 1 + 1 + 1) 8 4 (zL v) (zI p) 0 μ else F_X12_qTakes (f + 1 + 1 + 1) 7 4 (zL v) (zI p) 0 μ) else F_X12_qTakes (f + 1 + 1 + 1) 7 4 (zL v) (zI p) 0 μ) := by
    unfold f_X12_qTakes
    rw [if_pos (show (3 : Int32) ≤ 4 by decide), hf, F_X12_qTakes, if_neg (show ¬ (4 : Int32) = 0 by decide), F_X12_qTakes, if_neg (show ¬ (4 : Int32) = 1 by decide), F_X12_qTakes, if_neg (show ¬ (4 : Int32) = 2 by decide), F_X12_qTakes, if_neg (show ¬ (4 : Int32) = 3 by decide), F_X12_qTakes, if_neg (show ¬ (4 : Int32) ≤ 3 by decide), if_pos rfl, h110]
    by_cases c9 : sh_i μ 291 111 = 0
    · rw [if_pos c9, if_pos c9]
      by_cases c8 : v ≤ res
      · rw [if_pos c8, if_pos (show lg_cmp (zL v) (zL res) ≤ 0 by rw [le]; exact c8)]
      · rw [if_neg c8, if_neg (show ¬ lg_cmp (zL v) (zL res) ≤ 0 by rw [le]; exact c8)]
    · rw [if_neg c9, if_neg c9]
  have s7 : F_X12_qTakes (f + 1 + 1 + 1) 7 4 (zL v) (zI p) 0 μ = some (sh_setI (sh_setL μ 291 110 (zL v)) 291 111 0) := by rw [F_X12_qTakes, shl_ap, qT8]
  by_cases c0 : p = 0
  · obtain ⟨q1, q2, q3⟩ := put _ v rfl
    refine ⟨_, ?_, q1, by unfold jn; rw [if_neg (show ¬ (31 : Nat) = 27 by decide), if_neg (show ¬ (31 : Nat) = 28 by decide), if_neg (show ¬ (31 : Nat) = 29 by decide), if_neg (show ¬ (31 : Nat) = 30 by decide), if_pos rfl, if_pos (Or.inl c0)]; exact q2, q3⟩
    rw [st, h111, if_pos c0, if_neg (show ¬ (1 : Int32) = 0 by decide), s7]
  · by_cases c1 : res < v
    · obtain ⟨q1, q2, q3⟩ := put _ v rfl
      refine ⟨_, ?_, q1, by unfold jn; rw [if_neg (show ¬ (31 : Nat) = 27 by decide), if_neg (show ¬ (31 : Nat) = 28 by decide), if_neg (show ¬ (31 : Nat) = 29 by decide), if_neg (show ¬ (31 : Nat) = 30 by decide), if_pos rfl, if_pos (Or.inr c1)]; exact q2, q3⟩
      rw [st, h111, if_neg c0, if_pos rfl, if_neg (by omega), s7]
    · obtain ⟨q1, q2, q3⟩ := keep _ rfl
      refine ⟨_, ?_, q1, by unfold jn; rw [if_neg (show ¬ (31 : Nat) = 27 by decide), if_neg (show ¬ (31 : Nat) = 28 by decide), if_neg (show ¬ (31 : Nat) = 29 by decide), if_neg (show ¬ (31 : Nat) = 30 by decide), if_pos rfl, if_neg (by omega)]; exact q2, q3⟩
      rw [st, h111, if_neg c0, if_pos rfl, if_pos (by omega), qT8]
theorem tq_32 {p : Nat} {res v : Int} {μ : sh_Mem} (hp : p < 7) (hr : -100000000 ≤ res ∧ res ≤ 100000000) (hv : ein v) (h01 : (32 : Nat) < 30 → v = 0 ∨ v = 1) (h110 : sh_l μ 291 110 = zL res) (h111 : sh_i μ 291 111 = if p = 0 then 1 else 0) : ∃ μ', f_X12_qTakes (zI (((32 : Nat) : Int) - 27)) (zL v) (zI p) μ = some μ' ∧ sh_fr (fun r k => r = 291 ∧ (k = 110 ∨ k = 111)) μ μ' ∧ sh_l μ' 291 110 = zL (jn 32 res p v) ∧ sh_i μ' 291 111 = 0 := by
  unfold ein at hv
  obtain ⟨f, hf⟩ : ∃ f, sh_fuel = f + 1 + 1 + 1 + 1 + 1 + 1 + 1 + 1 := ⟨sh_fuel - 8, by have := sh_fuel_eq; omega⟩
  have keep : ∀ m : sh_Mem, m = sh_setI μ 291 111 0 → sh_fr (fun r k => r = 291 ∧ (k = 110 ∨ k = 111)) μ m ∧ sh_l m 291 110 = zL res ∧ sh_i m 291 111 = 0 := fun m hm => by
    rw [hm]
    exact ⟨sh_fr_I sh_fr.rf (by omega), h110, ir_set⟩
  have put : ∀ (m : sh_Mem) (x : Int), m = sh_setI (sh_setL μ 291 110 (zL x)) 291 111 0 → sh_fr (fun r k => r = 291 ∧ (k = 110 ∨ k = 111)) μ m ∧ sh_l m 291 110 = zL x ∧ sh_i m 291 111 = 0 := fun m x hm => by
    rw [hm]
    exact ⟨sh_fr_I (sh_fr_L sh_fr.rf (by omega)) (by omega), lr_set, ir_set⟩
  have one : (lg_cmp (zL v) 1 = 0) = (v = 1) := lg_eq0 (a := v) (b := 1) (by omega)
  have neg : (lg_cmp (zL res) (-1) = 0) = (res = -1) := by
    rw [show (-1 : Int64) = -(1 : Int64) from rfl, show (1 : Int64) = zL 1 from rfl, zL_neg]
    exact lg_eq0 (a := res) (b := -1) (by omega)
  have le : (lg_cmp (zL v) (zL res) ≤ 0) = (v ≤ res) := lg_le0 (by omega)
  have ge : ((0 : Int32) ≤ lg_cmp (zL v) (zL res)) = (res ≤ v) := lg_ge0 (by omega)
  have pl : (zI (p : Int)).toInt64 = zL (p : Int) := zI_l (by omega) (by omega)
  have hk : zI (((32 : Nat) : Int) - 27) = 5 := rfl
  rw [hk]
  have st : f_X12_qTakes 5 (zL v) (zI p) μ = (if (sh_i μ 291 111) = 0 then (if res ≤ v then F_X12_qTakes (f + 1 + 1 + 1) 8 5 (zL v) (zI p) 0 μ else F_X12_qTakes (f + 1 + 1 + 1) 7 5 (zL v) (zI p) 0 μ) else F_X12_qTakes (f + 1 + 1 + 1) 7 5 (zL v) (zI p) 0 μ) := by
    unfold f_X12_qTakes
    rw [if_pos (show (3 : Int32) ≤ 5 by decide), hf, F_X12_qTakes, if_neg (show ¬ (5 : Int32) = 0 by decide), F_X12_qTakes, if_neg (show ¬ (5 : Int32) = 1 by decide), F_X12_qTakes, if_neg (show ¬ (5 : Int32) = 2 by decide), F_X12_qTakes, if_neg (show ¬ (5 : Int32) = 3 by decide), F_X12_qTakes, if_neg (show ¬ (5 : Int32) ≤ 3 by decide), if_neg (show ¬ (5 : Int32) = 4 by decide), h110]
    by_cases c9 : sh_i μ 291 111 = 0
    · rw [if_pos c9, if_pos c9]
      by_cases c8 : res ≤ v
      · rw [if_pos c8, if_pos (show (0 : Int32) ≤ lg_cmp (zL v) (zL res) by rw [ge]; exact c8)]
      · rw [if_neg c8, if_neg (show ¬ (0 : Int32) ≤ lg_cmp (zL v) (zL res) by rw [ge]; exact c8)]
    · rw [if_neg c9, if_neg c9]
  have s7 : F_X12_qTakes (f + 1 + 1 + 1) 7 5 (zL v) (zI p) 0 μ = some (sh_setI (sh_setL μ 291 110 (zL v)) 291 111 0) := by rw [F_X12_qTakes, shl_ap, qT8]
  by_cases c0 : p = 0
  · obtain ⟨q1, q2, q3⟩ := put _ v rfl
    refine ⟨_, ?_, q1, by unfold jn; rw [if_neg (show ¬ (32 : Nat) = 27 by decide), if_neg (show ¬ (32 : Nat) = 28 by decide), if_neg (show ¬ (32 : Nat) = 29 by decide), if_neg (show ¬ (32 : Nat) = 30 by decide), if_neg (show ¬ (32 : Nat) = 31 by decide), if_pos (Or.inl c0)]; exact q2, q3⟩
    rw [st, h111, if_pos c0, if_neg (show ¬ (1 : Int32) = 0 by decide), s7]
  · by_cases c1 : v < res
    · obtain ⟨q1, q2, q3⟩ := put _ v rfl
      refine ⟨_, ?_, q1, by unfold jn; rw [if_neg (show ¬ (32 : Nat) = 27 by decide), if_neg (show ¬ (32 : Nat) = 28 by decide), if_neg (show ¬ (32 : Nat) = 29 by decide), if_neg (show ¬ (32 : Nat) = 30 by decide), if_neg (show ¬ (32 : Nat) = 31 by decide), if_pos (Or.inr c1)]; exact q2, q3⟩
      rw [st, h111, if_neg c0, if_pos rfl, if_neg (by omega), s7]
    · obtain ⟨q1, q2, q3⟩ := keep _ rfl
      refine ⟨_, ?_, q1, by unfold jn; rw [if_neg (show ¬ (32 : Nat) = 27 by decide), if_neg (show ¬ (32 : Nat) = 28 by decide), if_neg (show ¬ (32 : Nat) = 29 by decide), if_neg (show ¬ (32 : Nat) = 30 by decide), if_neg (show ¬ (32 : Nat) = 31 by decide), if_neg (by omega)]; exact q2, q3⟩
      rw [st, h111, if_neg c0, if_pos rfl, if_pos (by omega), qT8]
theorem rf_takesQ {w p : Nat} {res v : Int} {μ : sh_Mem} (hw : 27 ≤ w ∧ w ≤ 32) (hp : p < 7) (hr : -100000000 ≤ res ∧ res ≤ 100000000) (hv : ein v) (h01 : w < 30 → v = 0 ∨ v = 1) (h110 : sh_l μ 291 110 = zL res) (h111 : sh_i μ 291 111 = if p = 0 then 1 else 0) : ∃ μ', f_X12_qTakes (zI ((w : Int) - 27)) (zL v) (zI p) μ = some μ' ∧ sh_fr (fun r k => r = 291 ∧ (k = 110 ∨ k = 111)) μ μ' ∧ sh_l μ' 291 110 = zL (jn w res p v) ∧ sh_i μ' 291 111 = 0 := by
  have c : w = 27 ∨ w = 28 ∨ w = 29 ∨ w = 30 ∨ w = 31 ∨ w = 32 := by omega
  rcases c with rfl | rfl | rfl | rfl | rfl | rfl
  · exact tq_27 hp hr hv h01 h110 h111
  · exact tq_28 hp hr hv h01 h110 h111
  · exact tq_29 hp hr hv h01 h110 h111
  · exact tq_30 hp hr hv h01 h110 h111
  · exact tq_31 hp hr hv h01 h110 h111
  · exact tq_32 hp hr hv h01 h110 h111
def qV (P : sp_T) (L : sl_T) (l : List Nat) (b : Bool) (p : Nat) : Int := hd0 (ev (fa P L p 0 0) (kQ P L p) (wQ P L p b) l [])
/-- all of them -/
theorem rf_askL {P : sp_T} {L : sl_T} {l : List Nat} {res : Bool} {w : Nat} {μ1 : sh_Mem} (hw : 27 ≤ w ∧ w ≤ 32) (hres : res = decide (w < 30)) (hk : sp_ok P) (hl : sl_in P L) (hd : sl_d L ≤ 999) (hn : l.length ≤ 1600) (hok : sg_ok 2 res l []) (hM : sm_mP μ1 P) (hm : sm_mL (sh_i μ1 330) 0 P L) (h332 : ∀ p q, q < sp_nt P → p < sp_np P → sh_i μ1 332 (5 * p + q) = zI (aM P L p q : Nat)) (h103 : sh_i μ1 291 103 = zI (l.length : Nat)) (h364 : ∀ j, j < l.length → sh_i μ1 364 j = zI (sg_m (l.getD j 0))) : ∀ (g f p : Nat) (m : sh_Mem), p + g = sp_np P → g < f → sh_fr (fun r k => rN r k ∨ (r = 291 ∧ (k = 54 ∨ k = 110 ∨ k = 111))) μ1 m → sh_l m 291 110 = zL (jnA w (qV P L l true) p) → sh_i m 291 111 = (if p = 0 then 1 else 0) → (∀ p', p' < p → ein (qV P L l true p')) → ∃ m', F_X12_ask f 4 (zI ((w : Int) - 27)) (zI p) m = some (zL (jnA w (qV P L l true) (sp_np P)), m') ∧ sh_fr (fun r k => rN r k ∨ (r = 291 ∧ (k = 54 ∨ k = 110 ∨ k = 111))) μ1 m' := by
  have hb := sp_bd hk
  have hnp : sp_np P ≤ 7 := hb.2.2.2.1
  intro g
  induction g with
  | zero =>
    intro f p m hp hf hF h110 h111 hE
    obtain ⟨f, rfl⟩ : ∃ f', f = f' + 1 := ⟨f - 1, by omega⟩
    have mM : sm_mP m P := hM.f3 (fun r k z => hF.i r k (by unfold rN; omega)) (hF.lrow 323 (fun k => by unfold rN; omega))
    refine ⟨m, ?_, hF⟩
    rw [F_X12_ask, rf_personMany mM, shb_ap, if_pos (zI_yes (by omega) (by omega)), h110, show p = sp_np P by omega]
  | succ g ih =>
    intro f p m hp hf hF h110 h111 hE
    obtain ⟨f, rfl⟩ : ∃ f', f = f' + 1 := ⟨f - 1, by omega⟩
    have mM : sm_mP m P := hM.f3 (fun r k z => hF.i r k (by unfold rN; omega)) (hF.lrow 323 (fun k => by unfold rN; omega))
    obtain ⟨m1, hm1⟩ : ∃ m', m' = sh_setI m 291 54 (zI p) := ⟨_, rfl⟩
    have F1 : sh_fr (fun r k => rN r k ∨ (r = 291 ∧ (k = 54 ∨ k = 110 ∨ k = 111))) μ1 m1 := by rw [hm1]; exact sh_fr_I hF (by omega)
    have M1 : sm_mP m1 P := hM.f3 (fun r k z => F1.i r k (by unfold rN; omega)) (F1.lrow 323 (fun k => by unfold rN; omega))
    obtain ⟨v, m2, a1, a2, a3, a4⟩ := rf_toldP (μ := m1) (P := P) (L := L) (p := p) (l := l) (res := res) M1 (by rw [F1.row 330 (fun k => by unfold rN; omega)]; exact hm) hk hl hd (by omega) (fun q hq => by rw [F1.i _ _ (by unfold rN; omega)]; exact h332 p q hq (by omega)) (by rw [hm1, ir_set]) hn (by rw [F1.i _ _ (by unfold rN; omega)]; exact h103) (fun j hj => by rw [F1.i _ _ (by unfold rN; omega)]; exact h364 j hj) hok
    have hv : ein v := a3.1
    have eV : qV P L l true p = v := by unfold qV; rw [a2]; rfl
    have l110 : sh_l m2 291 110 = zL (jnA w (qV P L l true) p) := by rw [(a4.2 291 110 (by unfold rN; omega)).2, hm1]; exact h110
    have i111 : sh_i m2 291 111 = (if p = 0 then 1 else 0) := by rw [a4.i _ _ (by unfold rN; omega), hm1, ir_set_k (by omega)]; exact h111
    have jb := jnA_b (w := w) (V := qV P L l true) p hE
    obtain ⟨m3, b1, b2, b3, b4⟩ := rf_takesQ (w := w) (p := p) (res := jnA w (qV P L l true) p) (v := v) (μ := m2) hw (by omega) (by omega) hv (fun z => a3.2.1 (by rw [hres]; exact decide_eq_true z)) l110 i111
    obtain ⟨m4, c1, c2⟩ := ih f (p + 1) m3 (by omega) (by omega) ((F1.trans (a4.mono (fun r k z => Or.inl z))).trans (b2.mono (fun r k z => by omega))) (by show sh_l m3 291 110 = zL (jn w (jnA w (qV P L l true) p) p (qV P L l true p)); rw [b3, eV]) (by rw [b4, if_neg (by omega)]) (fun p' h' => by
      by_cases e : p' = p
      · rw [e, eV]; exact hv
      · exact hE p' (by omega))
    refine ⟨m4, ?_, c2⟩
    rw [F_X12_ask, rf_personMany mM, shb_ap, if_neg (zI_not (by omega) (by omega)), ← hm1, shl_ap, a1, shb_ap, b1, shv_ap, zI_s1]
    exact c1
end Aq3
