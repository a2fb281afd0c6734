/-! the class's 'value' -/
/-- the walk's head: behind it x is the word of the sign -/
theorem cl_v_hd {μ : sh_Mem} {f g fu i n k : Nat} {x : Int32} (h1 : sh_i μ f 1 = zI n) (hn : n ≤ 1600) (hi : i < n) (hk : k ≤ 60) (hx : (-1) - sh_i μ (f + 1) (zI i).toNatClampNeg = x) : F_X1_value (fu + 1) 1 f g (zI k) (zI i) μ = (if 0 ≤ x then (if (f_X1_isFact μ x) = 0 then (if x = 23 then (if (zI k) ≤ 0 then F_X1_value fu 1 f g (zI k) ((zI i) + 1) μ else (if sh_in ((zI k) - 1) 64 then sh_bind (f_X1_ofOne x (sh_l μ (f + 2) (((zI k) - 1)).toNatClampNeg) g μ) (fun y65 μ63 => (if sh_in ((zI k) - 1) 64 then sh_let (sh_setL μ63 (f + 2) (((zI k) - 1)).toNatClampNeg y65) (fun μ67 => F_X1_value fu 1 f g (zI k) ((zI i) + 1) μ67) else none)) else none)) else (if x = 7 then (if (zI k) ≤ 0 then F_X1_value fu 1 f g (zI k) ((zI i) + 1) μ else (if sh_in ((zI k) - 1) 64 then sh_bind (f_X1_ofOne x (sh_l μ (f + 2) (((zI k) - 1)).toNatClampNeg) g μ) (fun y73 μ71 => (if sh_in ((zI k) - 1) 64 then sh_let (sh_setL μ71 (f + 2) (((zI k) - 1)).toNatClampNeg y73) (fun μ75 => F_X1_value fu 1 f g (zI k) ((zI i) + 1) μ75) else none)) else none)) else (if x = 10 then (if (zI k) ≤ 0 then F_X1_value fu 1 f g (zI k) ((zI i) + 1) μ else (if sh_in ((zI k) - 1) 64 then sh_bind (f_X1_ofOne x (sh_l μ (f + 2) (((zI k) - 1)).toNatClampNeg) g μ) (fun y90 μ88 => (if sh_in ((zI k) - 1) 64 then sh_let (sh_setL μ88 (f + 2) (((zI k) - 1)).toNatClampNeg y90) (fun μ92 => F_X1_value fu 1 f g (zI k) ((zI i) + 1) μ92) else none)) else none)) else (if (zI k) ≤ 1 then F_X1_value fu 1 f g (zI k) ((zI i) + 1) μ else (if sh_in (zI i) 1600 then (if sh_in (((zI k) + (-1)) - 1) 64 then (if sh_in ((zI k) + (-1)) 64 then sh_bind (f_X1_ofTwo (sh_i μ (f + 1) (zI i).toNatClampNeg) (sh_l μ (f + 2) ((((zI k) + (-1)) - 1)).toNatClampNeg) (sh_l μ (f + 2) (((zI k) + (-1))).toNatClampNeg) μ) (fun y83 μ81 => (if sh_in (((zI k) + (-1)) - 1) 64 then sh_let (sh_setL μ81 (f + 2) ((((zI k) + (-1)) - 1)).toNatClampNeg y83) (fun μ85 => F_X1_value fu 1 f g ((zI k) + (-1)) ((zI i) + 1) μ85) else none)) else none) else none) else none))))) else (if sh_in x 38 then (if sh_in (zI k) 64 then sh_let (sh_setL μ (f + 2) (zI k).toNatClampNeg ((sh_i μ g x.toNatClampNeg)).toInt64) (fun μ95 => F_X1_value fu 1 f g ((zI k) + 1) ((zI i) + 1) μ95) else none) else none)) else (if sh_in (zI i) 1600 then (if sh_in (zI k) 64 then sh_let (sh_setL μ (f + 2) (zI k).toNatClampNeg ((sh_i μ (f + 1) (zI i).toNatClampNeg)).toInt64) (fun μ98 => F_X1_value fu 1 f g ((zI k) + 1) ((zI i) + 1) μ98) else none) else none)) := by
  have a1 : ¬ sh_i μ f 1 ≤ zI i := by
    rw [h1]
    intro z
    have := (zI_le (by omega) (by omega) (by omega) (by omega)).mp z
    omega
  have a2 : ¬ Int32.ofNat 1600 ≤ zI i := by
    intro z
    rw [ofN_z] at z
    have := (zI_le (by omega) (by omega) (by omega) (by omega)).mp z
    omega
  have a3 : ¬ (64 : Int32) ≤ zI k := by
    intro z
    have z : zI 64 ≤ zI k := z
    have := (zI_le (by omega) (by omega) (by omega) (by omega)).mp z
    omega
  have a4 : sh_in (zI i) 1600 := (zI_in (by omega)).mpr (by omega)
  rw [F_X1_value, if_neg a1, if_neg a2, if_neg a3, if_pos a4, shl_ap, hx]
theorem zI_s1 (i : Nat) : zI i + 1 = zI ((i + 1 : Nat) : Int) := by
  rw [show (1 : Int32) = zI 1 from rfl, zI_add]
  rfl
theorem zI_xw {w : Nat} : (-1 : Int32) - zI (-1 - w) = zI w := by
  rw [show (-1 : Int32) = zI (-1) from rfl, zI_sub]
  congr 1
  omega
section Cv
variable {μ : sh_Mem} {f g fu i n : Nat} {s r : List Int}
theorem tcN {k : Nat} (hk : k < 100000) : (zI k).toNatClampNeg = k := by rw [zI_cl (by omega)]; exact Int.toNat_natCast k
theorem in64 {k : Nat} (hk : k ≤ 60) : sh_in (zI k) 64 := (zI_in (by omega)).mpr (by omega)
theorem in1600 (hn : n ≤ 1600) (hi : i < n) : sh_in (zI i) 1600 := (zI_in (by omega)).mpr (by omega)
theorem cl_v_num {v : Int} (h1 : sh_i μ f 1 = zI n) (hn : n ≤ 1600) (hi : i < n) (hs : s.length ≤ 60) (e : sh_i μ (f + 1) i = zI v) (hv : 0 ≤ v ∧ v < 2147483648) : F_X1_value (fu + 1) 1 f g (zI s.length) (zI i) μ = F_X1_value fu 1 f g (zI (s.length + 1 : Nat)) (zI (i + 1 : Nat)) (sh_setL μ (f + 2) s.length (zL v)) := by
  have e' : sh_i μ (f + 1) (zI i).toNatClampNeg = zI v := by rw [tcN (by omega)]; exact e
  have hx : (-1) - sh_i μ (f + 1) (zI i).toNatClampNeg = zI (-1 - v) := by rw [e', show (-1 : Int32) = zI (-1) from rfl, zI_sub]
  have b1 : ¬ (0 : Int32) ≤ zI (-1 - v) := by
    intro z
    have z : zI 0 ≤ zI (-1 - v) := z
    have := (zI_le (by omega) (by omega) (by omega) (by omega)).mp z
    omega
  rw [cl_v_hd h1 hn hi hs hx, if_neg b1, if_pos (in1600 hn hi), if_pos (in64 hs), shl_ap, e', zI_l (by omega) (by omega), tcN (k := s.length) (by omega), zI_s1, zI_s1]
theorem cl_v_fact {v : Int} {w : Nat} (h1 : sh_i μ f 1 = zI n) (hn : n ≤ 1600) (hi : i < n) (hs : s.length ≤ 60) (e : sh_i μ (f + 1) i = zI (-1 - w)) (hw : w = 6 ∨ w = 3 ∨ (14 ≤ w ∧ w ≤ 20)) (ew : sh_i μ g w = zI v) (hv : ein v) : F_X1_value (fu + 1) 1 f g (zI s.length) (zI i) μ = F_X1_value fu 1 f g (zI (s.length + 1 : Nat)) (zI (i + 1 : Nat)) (sh_setL μ (f + 2) s.length (zL v)) := by
  unfold ein at hv
  have e' : sh_i μ (f + 1) (zI i).toNatClampNeg = zI (-1 - w) := by rw [tcN (by omega)]; exact e
  have hx : (-1) - sh_i μ (f + 1) (zI i).toNatClampNeg = zI w := by rw [e']; exact zI_xw
  have hf : ¬ f_X1_isFact μ (zI w) = 0 := by
    unfold f_X1_isFact
    rcases hw with rfl | rfl | hw
    · decide
    · decide
    · simp (disch := omega) only [↓reduceIte, ↓shl_ap, shb_ap, shv_ap, zI_lit, zL_lit, nI_z, lN_z, ofN_z, zI_add, zI_sub, zI_mul, zI_neg, zL_add, zL_sub, zL_mul, zL_neg, zI_l, zI_cl, zI_le_t, zI_le_f, zI_lt_t, zI_lt_f, zI_eq_t, zI_eq_f, zI_in_t, zz_isIn_t, zz_isIn_f, not_true_eq_false, not_false_eq_true, true_or, or_true, false_or, or_false, true_and, and_true, false_and, and_false, Nat.reduceLeDiff, Int.reduceAdd, Int.reduceSub, Int.reduceMul, Int.reduceNeg, Int.reduceToNat, Nat.reduceAdd, Nat.reduceMul, Nat.reduceSub, Int.toNat_natCast]
  have b1 : (0 : Int32) ≤ zI w := (zI_le (a := 0) (by omega) (by omega) (by omega) (by omega)).mpr (by omega)
  have b2 : sh_in (zI w) 38 := (zI_in (by omega)).mpr (by omega)
  have tw : (zI w).toNatClampNeg = w := by rw [zI_cl (by omega)]; exact Int.toNat_natCast w
  rw [cl_v_hd h1 hn hi hs hx, if_pos b1, if_neg hf, if_pos b2, if_pos (in64 hs), shl_ap, tw, ew, zI_l (by omega) (by omega), tcN (k := s.length) (by omega), zI_s1, zI_s1]
theorem cl_v_one {v a : Int} {w : Nat} (h1 : sh_i μ f 1 = zI n) (hn : n ≤ 1600) (hi : i < n) (hs : (a :: r).length ≤ 60) (hk : sk (sh_l μ (f + 2)) (a :: r)) (e : sh_i μ (f + 1) i = zI (-1 - w)) (hw : w = 23 ∨ w = 7 ∨ w = 10) (ew : f_X1_ofOne (zI w) (zL a) g μ = some (zL v, μ)) : F_X1_value (fu + 1) 1 f g (zI (a :: r).length) (zI i) μ = F_X1_value fu 1 f g (zI (v :: r).length) (zI (i + 1 : Nat)) (sh_setL μ (f + 2) r.length (zL v)) := by
  have hs' : r.length + 1 ≤ 60 := hs
  have e' : sh_i μ (f + 1) (zI i).toNatClampNeg = zI (-1 - w) := by rw [tcN (by omega)]; exact e
  have hx : (-1) - sh_i μ (f + 1) (zI i).toNatClampNeg = zI w := by rw [e']; exact zI_xw
  have hl : ((a :: r).length : Nat) = r.length + 1 := rfl
  have hl2 : ((v :: r).length : Nat) = r.length + 1 := rfl
  have hf : f_X1_isFact μ (zI w) = 0 := by
    unfold f_X1_isFact
    rcases hw with rfl | rfl | rfl <;> rfl
  have b1 : (0 : Int32) ≤ zI w := (zI_le (a := 0) (by omega) (by omega) (by omega) (by omega)).mpr (by omega)
  have b2 : ¬ zI ((r.length + 1 : Nat) : Int) ≤ (0 : Int32) := by
    intro z
    have z : zI ((r.length + 1 : Nat) : Int) ≤ zI 0 := z
    have := (zI_le (by omega) (by omega) (by omega) (by omega)).mp z
    omega
  have b3 : zI ((r.length + 1 : Nat) : Int) - 1 = zI r.length := by
    rw [show (1 : Int32) = zI 1 from rfl, zI_sub]
    congr 1
    omega
  have tr : (zI r.length).toNatClampNeg = r.length := by rw [zI_cl (by omega)]; exact Int.toNat_natCast _
  have ew' : f_X1_ofOne (zI w) (sh_l μ (f + 2) (zI r.length).toNatClampNeg) g μ = some (zL v, μ) := by rw [tr, hk.1]; exact ew
  rw [cl_v_hd h1 hn hi hs hx, hl, hl2, if_pos b1, if_pos hf]
  rcases hw with rfl | rfl | rfl
  · rw [if_pos (show zI ((23 : Nat) : Int) = 23 from rfl), if_neg b2, b3, if_pos (in64 (show r.length ≤ 60 by omega)), ew', shb_ap, if_pos (in64 (show r.length ≤ 60 by omega)), shl_ap, tr, zI_s1]
  · rw [if_neg (show ¬ zI ((7 : Nat) : Int) = 23 by decide), if_pos (show zI ((7 : Nat) : Int) = 7 from rfl), if_neg b2, b3, if_pos (in64 (show r.length ≤ 60 by omega)), ew', shb_ap, if_pos (in64 (show r.length ≤ 60 by omega)), shl_ap, tr, zI_s1]
  · rw [if_neg (show ¬ zI ((10 : Nat) : Int) = 23 by decide), if_neg (show ¬ zI ((10 : Nat) : Int) = 7 by decide), if_pos (show zI ((10 : Nat) : Int) = 10 from rfl), if_neg b2, b3, if_pos (in64 (show r.length ≤ 60 by omega)), ew', shb_ap, if_pos (in64 (show r.length ≤ 60 by omega)), shl_ap, tr, zI_s1]
theorem cl_v_two {v a b : Int} {w : Nat} (h1 : sh_i μ f 1 = zI n) (hn : n ≤ 1600) (hi : i < n) (hs : (b :: a :: r).length ≤ 60) (hk : sk (sh_l μ (f + 2)) (b :: a :: r)) (e : sh_i μ (f + 1) i = zI (-1 - w)) (hw : 20 < w ∧ w < 1000 ∧ ¬ w = 23) (ew : f_X1_ofTwo (zI (-1 - w)) (zL a) (zL b) μ = some (zL v, μ)) : F_X1_value (fu + 1) 1 f g (zI (b :: a :: r).length) (zI i) μ = F_X1_value fu 1 f g (zI (v :: r).length) (zI (i + 1 : Nat)) (sh_setL μ (f + 2) r.length (zL v)) := by
  have hs' : r.length + 1 + 1 ≤ 60 := hs
  have e' : sh_i μ (f + 1) (zI i).toNatClampNeg = zI (-1 - w) := by rw [tcN (by omega)]; exact e
  have hx : (-1) - sh_i μ (f + 1) (zI i).toNatClampNeg = zI w := by rw [e']; exact zI_xw
  have hl : ((b :: a :: r).length : Nat) = r.length + 1 + 1 := rfl
  have hl2 : ((v :: r).length : Nat) = r.length + 1 := rfl
  have hk1 : sh_l μ (f + 2) (r.length + 1) = zL b := hk.1
  have hf : f_X1_isFact μ (zI w) = 0 := by
    unfold f_X1_isFact
    simp (disch := omega) only [↓reduceIte, ↓shl_ap, shb_ap, shv_ap, zI_lit, zL_lit, nI_z, lN_z, ofN_z, zI_add, zI_sub, zI_mul, zI_neg, zL_add, zL_sub, zL_mul, zL_neg, zI_l, zI_cl, zI_le_t, zI_le_f, zI_lt_t, zI_lt_f, zI_eq_t, zI_eq_f, zI_in_t, zz_isIn_t, zz_isIn_f, not_true_eq_false, not_false_eq_true, true_or, or_true, false_or, or_false, true_and, and_true, false_and, and_false, Nat.reduceLeDiff, Int.reduceAdd, Int.reduceSub, Int.reduceMul, Int.reduceNeg, Int.reduceToNat, Nat.reduceAdd, Nat.reduceMul, Nat.reduceSub, Int.toNat_natCast]
  have b1 : (0 : Int32) ≤ zI w := (zI_le (a := 0) (by omega) (by omega) (by omega) (by omega)).mpr (by omega)
  have n23 : ¬ zI w = 23 := fun z => by
    have := (zI_eq (a := (w : Int)) (b := 23) (by omega) (by omega) (by omega) (by omega)).mp z
    omega
  have n7 : ¬ zI w = 7 := fun z => by
    have := (zI_eq (a := (w : Int)) (b := 7) (by omega) (by omega) (by omega) (by omega)).mp z
    omega
  have n10 : ¬ zI w = 10 := fun z => by
    have := (zI_eq (a := (w : Int)) (b := 10) (by omega) (by omega) (by omega) (by omega)).mp z
    omega
  have b2 : ¬ zI ((r.length + 1 + 1 : Nat) : Int) ≤ (1 : Int32) := by
    intro z
    have z : zI ((r.length + 1 + 1 : Nat) : Int) ≤ zI 1 := z
    have := (zI_le (by omega) (by omega) (by omega) (by omega)).mp z
    omega
  have b3 : zI ((r.length + 1 + 1 : Nat) : Int) + (-1) = zI ((r.length + 1 : Nat) : Int) := by
    rw [show (-1 : Int32) = zI (-1) from rfl, zI_add]
    congr 1
    omega
  have b4 : zI ((r.length + 1 : Nat) : Int) - 1 = zI r.length := by
    rw [show (1 : Int32) = zI 1 from rfl, zI_sub]
    congr 1
    omega
  have tr : (zI r.length).toNatClampNeg = r.length := by rw [zI_cl (by omega)]; exact Int.toNat_natCast _
  have tr1 : (zI ((r.length + 1 : Nat) : Int)).toNatClampNeg = r.length + 1 := by rw [zI_cl (by omega)]; exact Int.toNat_natCast _
  have ew' : f_X1_ofTwo (sh_i μ (f + 1) (zI i).toNatClampNeg) (sh_l μ (f + 2) (zI r.length).toNatClampNeg) (sh_l μ (f + 2) (zI ((r.length + 1 : Nat) : Int)).toNatClampNeg) μ = some (zL v, μ) := by rw [tr, tr1, hk1, hk.2.1, e']; exact ew
  rw [cl_v_hd h1 hn hi hs hx, hl, hl2, if_pos b1, if_pos hf, if_neg n23, if_neg n7, if_neg n10, if_neg b2, if_pos (in1600 hn hi), b3, b4, if_pos (in64 (show r.length ≤ 60 by omega)), if_pos (in64 (show r.length + 1 ≤ 60 by omega)), ew', shb_ap, if_pos (in64 (show r.length ≤ 60 by omega)), shl_ap, tr, zI_s1]
end Cv
/-- only one row of longs differs -/
def sh_Lf (x : Nat) (μ μ' : sh_Mem) : Prop := sh_i μ' = sh_i μ ∧ sh_r μ' = sh_r μ ∧ ∀ r, ¬ r = x → sh_l μ' r = sh_l μ r
theorem sh_Lf.rf {x : Nat} {μ : sh_Mem} : sh_Lf x μ μ := ⟨rfl, rfl, fun _ _ => rfl⟩
theorem sh_Lf.set {x k : Nat} {μ μ' : sh_Mem} {v : Int64} (h : sh_Lf x (sh_setL μ x k v) μ') : sh_Lf x μ μ' := ⟨h.1, h.2.1, fun r hr => (h.2.2 r hr).trans (lr_set_r hr)⟩
theorem sh_Lf.fr {x : Nat} {μ μ' : sh_Mem} (h : sh_Lf x μ μ') : sh_fr (fun r _ => r = x) μ μ' := ⟨h.2.1, fun r k q => ⟨by rw [h.1], by rw [h.2.2 r q]⟩⟩
theorem sg_fact {t : Nat} (h : t < 9) : ∃ w : Nat, sg_c t = -1 - (w : Int) ∧ (w = 6 ∨ w = 3 ∨ (14 ≤ w ∧ w ≤ 20)) := by
  have ht : t = 0 ∨ t = 1 ∨ t = 2 ∨ t = 3 ∨ t = 4 ∨ t = 5 ∨ t = 6 ∨ t = 7 ∨ t = 8 := by omega
  rcases ht with rfl | rfl | rfl | rfl | rfl | rfl | rfl | rfl | rfl
  · exact ⟨6, rfl, by omega⟩
  · exact ⟨14, rfl, by omega⟩
  · exact ⟨15, rfl, by omega⟩
  · exact ⟨16, rfl, by omega⟩
  · exact ⟨3, rfl, by omega⟩
  · exact ⟨17, rfl, by omega⟩
  · exact ⟨18, rfl, by omega⟩
  · exact ⟨19, rfl, by omega⟩
  · exact ⟨20, rfl, by omega⟩
theorem sg_bin {t : Nat} (h1 : 11 ≤ t) (h2 : t ≤ 21) : ∃ w : Nat, sg_c t = -1 - (w : Int) ∧ 20 < w ∧ w < 1000 ∧ ¬ w = 23 := by
  rcases sg_two h1 h2 with rfl | rfl | rfl | rfl | rfl | rfl | rfl | rfl | rfl | rfl | rfl
  · exact ⟨142, rfl, by omega⟩
  · exact ⟨144, rfl, by omega⟩
  · exact ⟨141, rfl, by omega⟩
  · exact ⟨146, rfl, by omega⟩
  · exact ⟨25, rfl, by omega⟩
  · exact ⟨26, rfl, by omega⟩
  · exact ⟨159, rfl, by omega⟩
  · exact ⟨161, rfl, by omega⟩
  · exact ⟨160, rfl, by omega⟩
  · exact ⟨22, rfl, by omega⟩
  · exact ⟨21, rfl, by omega⟩
theorem sg_num {t : Nat} (h : 100 ≤ t) : sg_c t = (t : Int) - 100 := if_pos h
theorem e1_num {F : Nat → Int} {K W : Int → Int} {t : Nat} {s : List Int} (h : 100 ≤ t) : e1 F K W t s = ((t : Int) - 100) :: s := if_pos h
theorem e1_fact {F : Nat → Int} {K W : Int → Int} {t : Nat} {s : List Int} (h : t < 9) : e1 F K W t s = F t :: s := by
  unfold e1
  rw [if_neg (by omega), if_pos h]
theorem e1_all {F : Nat → Int} {K W : Int → Int} {s : List Int} : e1 F K W 23 s = 1 :: s := by
  unfold e1
  rw [if_neg (by omega), if_neg (by omega), if_pos rfl]
theorem e1_kn {F : Nat → Int} {K W : Int → Int} {a : Int} {s : List Int} : e1 F K W 9 (a :: s) = K a :: s := by
  unfold e1
  rw [if_neg (by omega), if_neg (by omega), if_neg (by omega)]
  rfl
theorem e1_li {F : Nat → Int} {K W : Int → Int} {a : Int} {s : List Int} : e1 F K W 10 (a :: s) = W a :: s := by
  unfold e1
  rw [if_neg (by omega), if_neg (by omega), if_neg (by omega)]
  rfl
theorem e1_not {F : Nat → Int} {K W : Int → Int} {a : Int} {s : List Int} : e1 F K W 22 (a :: s) = (1 - a) :: s := by
  unfold e1
  rw [if_neg (by omega), if_neg (by omega), if_neg (by omega)]
  rfl
theorem e1_two {F : Nat → Int} {K W : Int → Int} {t : Nat} {a b : Int} {s : List Int} (h1 : 11 ≤ t) (h2 : t ≤ 21) : e1 F K W t (b :: a :: s) = eo t a b :: s := by
  unfold e1
  rw [if_neg (by omega), if_neg (by omega), if_neg (by omega)]
  show (if t = 9 then K b :: a :: s else if t = 10 then W b :: a :: s else if t = 22 then (1 - b) :: a :: s else eo t a b :: s) = _
  rw [if_neg (by omega), if_neg (by omega), if_neg (by omega)]
theorem cl_not {μ : sh_Mem} {g : Nat} {a : Int} (h : a = 0 ∨ a = 1) : f_X1_ofOne (zI 23) (zL a) g μ = some (zL (1 - a), μ) := by
  unfold f_X1_ofOne
  rcases h with rfl | rfl
  · simp (disch := omega) only [↓reduceIte, ↓shl_ap, shb_ap, shv_ap, zI_lit, zL_lit, nI_z, lN_z, ofN_z, zI_add, zI_sub, zI_mul, zI_neg, zL_add, zL_sub, zL_mul, zL_neg, zI_l, zI_cl, zI_le_t, zI_le_f, zI_lt_t, zI_lt_f, zI_eq_t, zI_eq_f, zI_in_t, zz_isIn_t, zz_isIn_f, not_true_eq_false, not_false_eq_true, true_or, or_true, false_or, or_false, true_and, and_true, false_and, and_false, Nat.reduceLeDiff, Int.reduceAdd, Int.reduceSub, Int.reduceMul, Int.reduceNeg, Int.reduceToNat, Nat.reduceAdd, Nat.reduceMul, Nat.reduceSub, Int.toNat_natCast, lg_eq0]
  · simp (disch := omega) only [↓reduceIte, ↓shl_ap, shb_ap, shv_ap, zI_lit, zL_lit, nI_z, lN_z, ofN_z, zI_add, zI_sub, zI_mul, zI_neg, zL_add, zL_sub, zL_mul, zL_neg, zI_l, zI_cl, zI_le_t, zI_le_f, zI_lt_t, zI_lt_f, zI_eq_t, zI_eq_f, zI_in_t, zz_isIn_t, zz_isIn_f, not_true_eq_false, not_false_eq_true, true_or, or_true, false_or, or_false, true_and, and_true, false_and, and_false, Nat.reduceLeDiff, Int.reduceAdd, Int.reduceSub, Int.reduceMul, Int.reduceNeg, Int.reduceToNat, Nat.reduceAdd, Nat.reduceMul, Nat.reduceSub, Int.toNat_natCast, lg_eq0, show ((1 : Int) = 0) = False by decide]
theorem sg_st_two {kd t : Nat} {B B' : List Bool} (h : sg_st kd t B B') (h1 : 11 ≤ t) (h2 : t ≤ 21) : ∃ x y r z, B = x :: y :: r ∧ B' = z :: r ∧ (20 ≤ t → x = true ∧ y = true) := by
  rcases h with ⟨q1, q2, rfl⟩ | ⟨q1, q2, rfl⟩ | ⟨q1, q2, r, rfl, rfl⟩ | ⟨q1, q2, r, rfl, rfl⟩ | ⟨q1, q2, r, rfl, rfl⟩ | ⟨q1, r, rfl, rfl⟩ | ⟨q1, r, rfl, rfl⟩ | ⟨q1, rfl⟩
  · omega
  · omega
  · omega
  · exact ⟨_, _, _, _, rfl, rfl, fun z => by omega⟩
  · exact ⟨_, _, _, _, rfl, rfl, fun z => by omega⟩
  · exact ⟨_, _, _, _, rfl, rfl, fun z => ⟨rfl, rfl⟩⟩
  · omega
  · omega
theorem sg_st_rng {kd t : Nat} {B B' : List Bool} (h : sg_st kd t B B') : (100 ≤ t ∧ t ≤ 10099) ∨ (t < 9 ∧ sg_may kd t) ∨ ((t = 9 ∨ t = 10) ∧ kd = 2 ∧ ∃ r, B = false :: r) ∨ (11 ≤ t ∧ t ≤ 21) ∨ (t = 22 ∧ ∃ r, B = true :: r) ∨ t = 23 := by
  rcases h with ⟨q1, q2, rfl⟩ | ⟨q1, q2, rfl⟩ | ⟨q1, q2, r, rfl, rfl⟩ | ⟨q1, q2, r, rfl, rfl⟩ | ⟨q1, q2, r, rfl, rfl⟩ | ⟨q1, r, rfl, rfl⟩ | ⟨q1, r, rfl, rfl⟩ | ⟨q1, rfl⟩
  · exact Or.inl ⟨q1, q2⟩
  · exact Or.inr (Or.inl ⟨q1, q2⟩)
  · exact Or.inr (Or.inr (Or.inl ⟨q1, q2, r, rfl⟩))
  · exact Or.inr (Or.inr (Or.inr (Or.inl ⟨q1, by omega⟩)))
  · exact Or.inr (Or.inr (Or.inr (Or.inl ⟨by omega, by omega⟩)))
  · exact Or.inr (Or.inr (Or.inr (Or.inl ⟨by omega, by omega⟩)))
  · exact Or.inr (Or.inr (Or.inr (Or.inr (Or.inl ⟨q1, r, rfl⟩))))
  · exact Or.inr (Or.inr (Or.inr (Or.inr (Or.inr q1))))
/-- one sign -/
theorem cl_v1 {F : Nat → Int} {K W : Int → Int} {kd t : Nat} {B B' : List Bool} {s : List Int} {μ : sh_Mem} {f g fu i n : Nat} (hF : ∀ t, t < 9 → ein (F t)) (h : sg_st kd t B B') (hs : es B s) (hB : B.length ≤ 60) (hk : sk (sh_l μ (f + 2)) s) (h1 : sh_i μ f 1 = zI n) (hn : n ≤ 1600) (hi : i < n) (e : sh_i μ (f + 1) i = zI (sg_c t))
    (h2 : ∀ t w : Nat, t < 9 → sg_may kd t → sg_c t = -1 - (w : Int) → sh_i μ g w = zI (F t)) (h3 : kd = 2 → ∀ a, ein a → f_X1_ofOne (zI 7) (zL a) g μ = some (zL (K a), μ) ∧ f_X1_ofOne (zI 10) (zL a) g μ = some (zL (W a), μ)) :
    ∃ k v, F_X1_value (fu + 1) 1 f g (zI s.length) (zI i) μ = F_X1_value fu 1 f g (zI (e1 F K W t s).length) (zI (i + 1 : Nat)) (sh_setL μ (f + 2) k v) ∧ sk (sh_l (sh_setL μ (f + 2) k v) (f + 2)) (e1 F K W t s) := by
  have hl := es_len hs
  rcases sg_st_rng h with q | q | ⟨q, q2, B, rfl⟩ | q | ⟨q, B, rfl⟩ | q
  · rw [e1_num q.1]
    exact ⟨s.length, zL ((t : Int) - 100), cl_v_num h1 hn hi (by omega) (by rw [e, sg_num q.1]) (by omega), sk_set hk⟩
  · obtain ⟨w, w1, w2⟩ := sg_fact q.1
    rw [e1_fact q.1]
    exact ⟨s.length, zL (F t), cl_v_fact h1 hn hi (by omega) (by rw [e, w1]) w2 (h2 t w q.1 q.2 w1) (hF t q.1), sk_set hk⟩
  · obtain ⟨a, r, rfl, h4, h5, h6⟩ := es_pop hs
    obtain ⟨k1, k2⟩ := h3 q2 a h4
    rcases q with rfl | rfl
    · rw [e1_kn]
      exact ⟨r.length, zL (K a), cl_v_one (w := 7) h1 hn hi (by omega) hk e (by omega) k1, sk_set hk.2⟩
    · rw [e1_li]
      exact ⟨r.length, zL (W a), cl_v_one (w := 10) h1 hn hi (by omega) hk e (by omega) k2, sk_set hk.2⟩
  · obtain ⟨x, y, B, z, rfl, rfl, -⟩ := sg_st_two h q.1 q.2
    obtain ⟨b, r', rfl, h4, h5, h6⟩ := es_pop hs
    obtain ⟨a, r, rfl, h7, h8, h9⟩ := es_pop h6
    obtain ⟨w, w1, w2⟩ := sg_bin q.1 q.2
    rw [e1_two q.1 q.2]
    exact ⟨r.length, zL (eo t a b), cl_v_two h1 hn hi (by omega) hk (by rw [e, w1]) w2 (by rw [← w1]; exact cl_two q.1 q.2 h7 h4), sk_set hk.2.2⟩
  · obtain ⟨a, r, rfl, h4, h5, h6⟩ := es_pop hs
    subst q
    rw [e1_not]
    exact ⟨r.length, zL (1 - a), cl_v_one (w := 23) h1 hn hi (by omega) hk e (by omega) (cl_not (h5 rfl)), sk_set hk.2⟩
  · subst q
    rw [e1_all]
    exact ⟨s.length, zL 1, cl_v_num h1 hn hi (by omega) e (by omega), sk_set hk⟩
theorem cl_val {F : Nat → Int} {K W : Int → Int} {kd : Nat} {res : Bool} {f g n : Nat} (hF : ∀ t, t < 9 → ein (F t)) (hK : ∀ a, ein (K a)) (hW : ∀ a, ein (W a)) (hn : n ≤ 1600) : ∀ (l : List Nat) (i fu : Nat) (B : List Bool) (s : List Int) (μ : sh_Mem), sg_ok kd res l B → es B s → B.length ≤ 60 → sk (sh_l μ (f + 2)) s → i + l.length = n → l.length < fu → sh_i μ f 1 = zI n → (∀ j, j < l.length → sh_i μ (f + 1) (i + j) = zI (sg_c (l.getD j 0))) →
    (∀ t w : Nat, t < 9 → sg_may kd t → sg_c t = -1 - (w : Int) → sh_i μ g w = zI (F t)) → (kd = 2 → ∀ μ' : sh_Mem, sh_i μ' = sh_i μ → ∀ a, ein a → f_X1_ofOne (zI 7) (zL a) g μ' = some (zL (K a), μ') ∧ f_X1_ofOne (zI 10) (zL a) g μ' = some (zL (W a), μ')) →
    ∃ (v : Int) (μ' : sh_Mem), F_X1_value fu 1 f g (zI s.length) (zI i) μ = some (zL v, μ') ∧ ev F K W l s = [v] ∧ es [res] [v] ∧ sh_Lf (f + 2) μ μ' := by
  intro l
  induction l with
  | nil =>
    intro i fu B s μ hok hs hB hk hi hf h1 hc h2 h3
    obtain ⟨fu, rfl⟩ : ∃ q, fu = q + 1 := ⟨fu - 1, by have : 0 < fu := hf; omega⟩
    have hB2 : B = [res] := hok
    subst hB2
    obtain ⟨v, r, rfl, h4, h5, h6⟩ := es_pop hs
    have hr : r = [] := by
      cases r with
      | nil => rfl
      | cons a b => exact h6.elim
    subst hr
    have hi : i = n := hi
    refine ⟨v, μ, ?_, rfl, hs, sh_Lf.rf⟩
    rw [F_X1_value, show (([v].length : Nat) : Int) = 1 from rfl]
    simp (disch := omega) only [↓reduceIte, ↓shl_ap, shb_ap, shv_ap, zI_lit, zL_lit, nI_z, lN_z, ofN_z, zI_add, zI_sub, zI_mul, zI_neg, zL_add, zL_sub, zL_mul, zL_neg, zI_l, zI_cl, zI_le_t, zI_le_f, zI_lt_t, zI_lt_f, zI_eq_t, zI_eq_f, zI_in_t, zz_isIn_t, zz_isIn_f, not_true_eq_false, not_false_eq_true, true_or, or_true, false_or, or_false, true_and, and_true, false_and, and_false, Nat.reduceLeDiff, Int.reduceAdd, Int.reduceSub, Int.reduceMul, Int.reduceNeg, Int.reduceToNat, Nat.reduceAdd, Nat.reduceMul, Nat.reduceSub, Int.toNat_natCast, h1, sk_0 hk]
  | cons t l ih =>
    intro i fu B s μ hok hs hB hk hi hf h1 hc h2 h3
    have hlen : (t :: l).length = l.length + 1 := rfl
    obtain ⟨fu, rfl⟩ : ∃ q, fu = q + 1 := ⟨fu - 1, by omega⟩
    obtain ⟨B', b1, b2, b3⟩ := hok
    have hc0 : sh_i μ (f + 1) i = zI (sg_c t) := hc 0 (by omega)
    obtain ⟨k, v, c1, c2⟩ := cl_v1 (fu := fu) hF b1 hs hB hk h1 hn (by omega) hc0 h2 (fun z a ha => h3 z μ rfl a ha)
    obtain ⟨v', μ', d1, d2, d3, d4⟩ := ih (i + 1) fu B' (e1 F K W t s) (sh_setL μ (f + 2) k v) b3 (e1_ty hF hK hW b1 hs) b2 c2 (by omega) (by omega) h1 (fun j hj => by rw [show i + 1 + j = i + (j + 1) by omega]; exact hc (j + 1) (by omega)) h2 h3
    exact ⟨v', μ', c1.trans d1, d2, d3, d4.set⟩
theorem cl_value {F : Nat → Int} {K W : Int → Int} {kd : Nat} {res : Bool} {f g : Nat} {l : List Nat} {μ : sh_Mem} (hF : ∀ t, t < 9 → ein (F t)) (hK : ∀ a, ein (K a)) (hW : ∀ a, ein (W a)) (hl : l.length ≤ 1600) (hok : sg_ok kd res l []) (hm : sm_form μ f l) (h2 : ∀ t w : Nat, t < 9 → sg_may kd t → sg_c t = -1 - (w : Int) → sh_i μ g w = zI (F t)) (h3 : kd = 2 → ∀ μ' : sh_Mem, sh_i μ' = sh_i μ → ∀ a, ein a → f_X1_ofOne (zI 7) (zL a) g μ' = some (zL (K a), μ') ∧ f_X1_ofOne (zI 10) (zL a) g μ' = some (zL (W a), μ')) :
    ∃ (v : Int) (μ' : sh_Mem), f_X1_value f g μ = some (zL v, μ') ∧ ev F K W l [] = [v] ∧ es [res] [v] ∧ sh_Lf (f + 2) μ μ' := by
  obtain ⟨m1, m2⟩ := hm
  rw [nI_z] at m1
  exact cl_val hF hK hW hl l 0 sh_fuel [] [] μ hok trivial (by show 0 ≤ 60; omega) trivial (by omega) (by rw [sh_fuel_eq]; omega) m1 (fun j hj => by rw [Nat.zero_add]; exact m2 j hj) h2 h3
