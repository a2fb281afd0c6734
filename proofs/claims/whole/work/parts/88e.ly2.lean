/-! words, as the reference finds them -/
section Ma
variable {T : Nat → Nat} {n : Nat}
theorem rf_isLetter {μ : sh_Mem} {c : Nat} (h : c < 256) : f_X12_isLetter μ (zI (c : Int)) = if 97 ≤ c ∧ c ≤ 122 then 1 else 0 := by
  unfold f_X12_isLetter
  by_cases c1 : c < 97
  · rw [if_pos (show zI (c : Int) < 97 from (zI_lt (b := 97) (by omega) (by omega) (by omega) (by omega)).mpr (by omega)), if_neg (show ¬ (97 ≤ c ∧ c ≤ 122) by omega)]
  · rw [if_neg (show ¬ zI (c : Int) < 97 from fun z => by have := (zI_lt (b := 97) (by omega) (by omega) (by omega) (by omega)).mp z; omega)]
    by_cases c2 : 122 < c
    · rw [if_pos (show (122 : Int32) < zI (c : Int) from (zI_lt (a := 122) (by omega) (by omega) (by omega) (by omega)).mpr (by omega)), if_neg (show ¬ (97 ≤ c ∧ c ≤ 122) by omega)]
    · rw [if_neg (show ¬ (122 : Int32) < zI (c : Int) from fun z => by have := (zI_lt (a := 122) (by omega) (by omega) (by omega) (by omega)).mp z; omega), if_pos (show 97 ≤ c ∧ c ≤ 122 by omega)]
theorem rf_isDigit {μ : sh_Mem} {c : Nat} (h : c < 256) : f_X12_isDigit μ (zI (c : Int)) = if 48 ≤ c ∧ c ≤ 57 then 1 else 0 := by
  unfold f_X12_isDigit
  by_cases c1 : c < 48
  · rw [if_pos (show zI (c : Int) < 48 from (zI_lt (b := 48) (by omega) (by omega) (by omega) (by omega)).mpr (by omega)), if_neg (show ¬ (48 ≤ c ∧ c ≤ 57) by omega)]
  · rw [if_neg (show ¬ zI (c : Int) < 48 from fun z => by have := (zI_lt (b := 48) (by omega) (by omega) (by omega) (by omega)).mp z; omega)]
    by_cases c2 : 57 < c
    · rw [if_pos (show (57 : Int32) < zI (c : Int) from (zI_lt (a := 57) (by omega) (by omega) (by omega) (by omega)).mpr (by omega)), if_neg (show ¬ (48 ≤ c ∧ c ≤ 57) by omega)]
    · rw [if_neg (show ¬ (57 : Int32) < zI (c : Int) from fun z => by have := (zI_lt (a := 57) (by omega) (by omega) (by omega) (by omega)).mp z; omega), if_pos (show 48 ≤ c ∧ c ≤ 57 by omega)]
theorem wIx_ge (l : List Nat) : ∀ (r : List (List Nat)) (i : Nat), wIx l r i = -1 ∨ (i : Int) ≤ wIx l r i := by
  intro r
  induction r with
  | nil => intro i; exact Or.inl rfl
  | cons x r ih =>
    intro i
    unfold wIx
    split
    · right; omega
    · have := ih (i + 1)
      omega
theorem xW_ge {T : Nat → Nat} {a k j : Nat} (h : j < (xW T a k).length) : (xW T a k)[j] = T (a + j) - 96 := by
  simp [xW]
/-- cell r holds the letters of word w -/
def hW (μ : sh_Mem) (r w : Nat) : Prop := ∀ j, j < (WD.getD w []).length → sh_i μ r j = zI (((WD.getD w []).getD j 0 + 96 : Nat) : Int)
theorem rf_here1 {a len r : Nat} (ha : a ≤ n) : ∀ (g f i : Nat) (μ : sh_Mem), a + i + g = n → g < f → xT μ 292 T n → sh_i μ 291 3 = zI n → sh_i μ 291 2 = zI a → len < 100 → ∃ f', f ≤ f' + g + 1 ∧ F_X12_isHere f 1 len r (zI ((a + i : Nat) : Int)) 0 μ = (if xR (xL T) g (a + i) - a = len then F_X12_isHere f' 2 len r (zI (xR (xL T) g (a + i))) 0 μ else some (0, μ)) := by
  intro g
  induction g with
  | zero =>
    intro f i μ hi hf hT h3 h2 hl
    obtain ⟨f, rfl⟩ : ∃ q, f = q + 1 := ⟨f - 1, by omega⟩
    have hn := hT.1
    have ex : xR (xL T) 0 (a + i) = a + i := rfl
    have es : zI ((a + i : Nat) : Int) - zI (a : Int) = zI ((a + i - a : Nat) : Int) := by
      rw [zI_sub]
      congr 1
      omega
    refine ⟨f, by omega, ?_⟩
    rw [ex, F_X12_isHere, h3, h2, if_pos (zI_yes (by omega) (by omega)), es, ofN_z]
    by_cases c : a + i - a = len
    · rw [if_pos c, if_pos (show zI ((a + i - a : Nat) : Int) = zI (len : Int) by rw [c])]
    · rw [if_neg c, if_neg (fun z => c (by have := (zI_eq (by omega) (by omega) (by omega) (by omega)).mp z; omega))]
  | succ g ih =>
    intro f i μ hi hf hT h3 h2 hl
    obtain ⟨f, rfl⟩ : ∃ q, f = q + 1 := ⟨f - 1, by omega⟩
    have hn := hT.1
    obtain ⟨t1, t2⟩ := hT.2 (a + i) (by omega)
    have t2 : sh_i μ 292 (zI ((a + i : Nat) : Int)).toNatClampNeg = zI (T (a + i)) := by rw [tcN (by omega)]; exact t2
    have i16 : sh_in (zI ((a + i : Nat) : Int)) 1600 := (zI_in (by omega)).mpr (by omega)
    have n1 : ¬ zI (n : Int) ≤ zI ((a + i : Nat) : Int) := zI_not (by omega) (by omega)
    have eL := rf_isLetter (μ := μ) (c := T (a + i)) t1
    by_cases c : xL T (a + i) = true
    · rw [xR_s c]
      have ea : a + i + 1 = a + (i + 1) := by omega
      obtain ⟨f', k1, k2⟩ := ih f (i + 1) μ (by omega) (by omega) hT h3 h2 hl
      refine ⟨f', by omega, ?_⟩
      rw [ea, ← k2, F_X12_isHere, h3, if_neg n1, if_pos i16, t2, eL, if_pos (xL_t.mp c), if_neg (by decide), zI_s1, ea]
    · rw [xR_n c]
      have es : zI ((a + i : Nat) : Int) - zI (a : Int) = zI ((a + i - a : Nat) : Int) := by
        rw [zI_sub]
        congr 1
        omega
      refine ⟨f, by omega, ?_⟩
      rw [F_X12_isHere, h3, if_neg n1, if_pos i16, t2, eL, if_neg (fun z => c (xL_t.mpr z)), if_pos rfl, h2, es, ofN_z]
      by_cases c : a + i - a = len
      · rw [if_pos c, if_pos (show zI ((a + i - a : Nat) : Int) = zI (len : Int) by rw [c])]
      · rw [if_neg c, if_neg (fun z => c (by have := (zI_eq (by omega) (by omega) (by omega) (by omega)).mp z; omega))]
theorem rf_here2 {a len r : Nat} {i2 : Int32} {c : Nat → Nat} (hl : a + len ≤ n) (hlen : len < 100) : ∀ (g f j : Nat) (μ : sh_Mem), j + g = len → g < f → xT μ 292 T n → sh_i μ 291 2 = zI a → (∀ k, k < len → c k < 256 ∧ sh_i μ r k = zI (c k)) → ∃ b : Bool, F_X12_isHere f 2 len r i2 (zI j) μ = some (zI (bI b), μ) ∧ (b = true ↔ ∀ k, j ≤ k → k < len → T (a + k) = c k) := by
  intro g
  induction g with
  | zero =>
    intro f j μ hj hf hT h2 hc
    obtain ⟨f, rfl⟩ : ∃ q, f = q + 1 := ⟨f - 1, by omega⟩
    refine ⟨true, ?_, fun _ k h1 h2 => by omega, fun _ => rfl⟩
    rw [F_X12_isHere, ofN_z, if_pos (zI_yes (by omega) (by omega))]
    rfl
  | succ g ih =>
    intro f j μ hj hf hT h2 hc
    obtain ⟨f, rfl⟩ : ∃ q, f = q + 1 := ⟨f - 1, by omega⟩
    have hn := hT.1
    obtain ⟨t1, t2⟩ := hT.2 (a + j) (by omega)
    have ea : zI (a : Int) + zI (j : Int) = zI ((a + j : Nat) : Int) := by
      rw [zI_add]
      congr 1
    have t2 : sh_i μ 292 (zI ((a + j : Nat) : Int)).toNatClampNeg = zI (T (a + j)) := by rw [tcN (by omega)]; exact t2
    obtain ⟨u1, u2⟩ := hc j (by omega)
    have u2 : sh_i μ r (zI (j : Int)).toNatClampNeg = zI (c j) := by rw [tcN (by omega)]; exact u2
    have st : F_X12_isHere (f + 1) 2 len r i2 (zI j) μ = if zI (T (a + j) : Int) = zI (c j : Int) then F_X12_isHere f 2 len r i2 (zI ((j + 1 : Nat) : Int)) μ else some (0, μ) := by
      rw [F_X12_isHere, ofN_z, if_neg (zI_not (by omega) (by omega)), h2, ea, if_pos ((zI_in (by omega)).mpr (by omega)), if_pos ((zI_in (by omega)).mpr (by omega)), t2, u2, zI_s1]
    by_cases q : T (a + j) = c j
    · obtain ⟨b, k1, k2⟩ := ih f (j + 1) μ (by omega) (by omega) hT h2 hc
      refine ⟨b, by rw [st, if_pos (show zI (T (a + j) : Int) = zI (c j : Int) by rw [q])]; exact k1, k2.trans ⟨fun h k h1 h2 => ?_, fun h k h1 h2 => h k (by omega) h2⟩⟩
      by_cases z : k = j
      · rw [z]; exact q
      · exact h k (by omega) h2
    · refine ⟨false, by rw [st, if_neg (fun z => q (by have := (zI_eq (by omega) (by omega) (by omega) (by omega)).mp z; omega))]; rfl, fun z => (by cases z), fun h => absurd (h j (by omega) (by omega)) q⟩
theorem WD_len : ∀ w, w < 33 → 1 ≤ (WD.getD w []).length ∧ (WD.getD w []).length ≤ 6 := by decide
theorem WD_let : ∀ w, w < 33 → ∀ k, k < (WD.getD w []).length → 1 ≤ (WD.getD w []).getD k 0 ∧ (WD.getD w []).getD k 0 ≤ 26 := by decide
theorem WD_ix : ∀ w, w < 33 → wN (WD.getD w []) = (w : Int) := by decide +kernel
theorem wIx_at (l : List Nat) : ∀ (r : List (List Nat)) (i w : Nat), wIx l r i = ((i + w : Nat) : Int) → r.getD w [] = l := by
  intro r
  induction r with
  | nil =>
    intro i w h
    have h2 : (-1 : Int) = ((i + w : Nat) : Int) := h
    omega
  | cons x r ih =>
    intro i w h
    unfold wIx at h
    split at h
    · rename_i c
      have : w = 0 := by omega
      subst this
      exact c
    · cases w with
      | zero =>
        have := (wIx_le l r (i + 1)).1
        have hge : wIx l r (i + 1) = -1 ∨ ((i + 1 : Nat) : Int) ≤ wIx l r (i + 1) := wIx_ge l r (i + 1)
        omega
      | succ w =>
        have e := ih (i + 1) w (by rw [h]; congr 1; omega)
        exact e
theorem wN_iff {l : List Nat} {w : Nat} (hw : w < 33) : wN l = (w : Int) ↔ l = WD.getD w [] := by
  refine ⟨fun h => (wIx_at l WD 0 w (by rw [Nat.zero_add]; exact h)).symm, fun h => by rw [h]; exact WD_ix w hw⟩
theorem rf_isHere {μ : sh_Mem} {s : xs} {r w : Nat} (h : mS μ T n s) (hw : w < 33) (hc : hW μ r w) (hr : ¬ r = 291) : ∃ μ', f_X12_isHere r (WD.getD w []).length μ = some (zI (bI (decide (xw T n s = (w : Int)))), μ') ∧ sh_fr nLk μ μ' ∧ mN μ' T n s := by
  obtain ⟨m1, k1, k2, k3⟩ := rf_look h
  obtain ⟨hT, h3, h5, ha, h2, hb, d, d1, d2, d3, d4⟩ := id k3
  have hn := hT.1
  have h50 : sh_i μ 291 5 = 0 := h.2.2.1
  refine ⟨m1, ?_, k2, k3⟩
  unfold f_X12_isHere
  rw [h50, if_pos rfl, k1, shb_ap]
  by_cases hl : s.1 < n
  · obtain ⟨t1, -⟩ := hT.2 s.1 (by omega)
    have exc : xc T n s = (T s.1 : Int) := if_pos hl
    rw [exc, rf_isLetter t1]
    by_cases c : xL T s.1 = true
    · rw [if_pos (xL_t.mp c), if_neg (by decide), h2, d1]
      cases hg : s.2 with
      | true =>
        have hd := d4.mp hg
        have hx : ¬ xw T n s = (w : Int) := by
          unfold xw
          rw [if_neg (fun z => by have := (xK_2 z).2.2; rw [hg] at this; cases this)]
          omega
        rw [if_pos (show zI (s.1 : Int) = zI d by rw [hd]), decide_eq_false hx]
        rfl
      | false =>
        have hd : ¬ d = s.1 := fun z => by
          have := d4.mpr z
          rw [hg] at this
          cases this
        have hK : xK T n s.1 s.2 = -2 := by
          unfold xK
          rw [if_neg (show ¬ n ≤ s.1 by omega), if_pos c, hg, if_neg (by decide)]
        have hE : xE T n s.1 = xR (xL T) (n - s.1) s.1 := by unfold xE; rw [if_neg (show ¬ n ≤ s.1 by omega), if_pos c]
        have hEb := xE_le (T := T) ha
        have hwl := WD_len w hw
        rw [if_neg (fun z => hd (by have := (zI_eq (a := (s.1 : Int)) (b := d) (by omega) (by omega) (by omega) (by omega)).mp z; omega)), shl_ap]
        obtain ⟨f', q1, q2⟩ := rf_here1 (T := T) (n := n) (a := s.1) (len := (WD.getD w []).length) (r := r) ha (n - s.1) sh_fuel 0 m1 (by omega) (by rw [sh_fuel_eq]; omega) hT h3 h2 (by omega)
        rw [Nat.add_zero, ← hE] at q2
        rw [q2]
        have hxw : xw T n s = (w : Int) ↔ xW T s.1 (xE T n s.1 - s.1) = WD.getD w [] := by
          unfold xw
          rw [if_pos hK, ← wN_iff hw]
          by_cases c6 : xE T n s.1 - s.1 ≤ 6
          · rw [if_pos c6]
          · rw [if_neg c6]
            refine ⟨fun z => by omega, fun z => ?_⟩
            have := congrArg List.length ((wN_iff hw).mp z)
            rw [xW_len] at this
            omega
        by_cases cl : xE T n s.1 - s.1 = (WD.getD w []).length
        · rw [if_pos cl]
          have f1 : sh_i m1 r = sh_i μ r := k2.row _ (fun k => by unfold nLk; omega)
          obtain ⟨b, r1, r2⟩ := rf_here2 (T := T) (n := n) (a := s.1) (len := (WD.getD w []).length) (r := r) (i2 := zI (xE T n s.1)) (c := fun k => (WD.getD w []).getD k 0 + 96) (by omega) (by omega) (WD.getD w []).length f' 0 m1 (by omega) (by have := sh_fuel_eq; omega) hT h2 (fun k hk => ⟨by have := WD_let w hw k hk; omega, by rw [f1]; exact hc k hk⟩)
          have r1' : F_X12_isHere f' 2 (WD.getD w []).length r (zI (xE T n s.1)) 0 m1 = some (zI (bI b), m1) := r1
          rw [r1']
          have hbb : b = decide (xw T n s = (w : Int)) := by
            rw [Bool.eq_iff_iff, r2, decide_eq_true_iff, hxw]
            have hlet : ∀ j, j < xE T n s.1 - s.1 → 97 ≤ T (s.1 + j) ∧ T (s.1 + j) ≤ 122 := fun j hj => xL_t.mp (xR_in (n - s.1) s.1 (s.1 + j) (by omega) (by rw [← hE]; omega))
            refine ⟨fun hh => ?_, fun hh k _ hk => ?_⟩
            · refine List.ext_getElem (by rw [xW_len]; exact cl) (fun k h1 h2 => ?_)
              have e1 := hh k (by omega) h2
              have e2 : (xW T s.1 (xE T n s.1 - s.1))[k] = T (s.1 + k) - 96 := xW_ge h1
              rw [e2, e1, List.getD_eq_getElem?_getD, List.getElem?_eq_getElem h2]
              show _ + 96 - 96 = _
              rw [Nat.add_sub_cancel]
              rfl
            · have e1 : (xW T s.1 (xE T n s.1 - s.1)).getD k 0 = (WD.getD w []).getD k 0 := by rw [hh]
              have e2 : (xW T s.1 (xE T n s.1 - s.1)).getD k 0 = T (s.1 + k) - 96 := by
                rw [List.getD_eq_getElem?_getD, List.getElem?_eq_getElem (by rw [xW_len]; omega)]
                exact xW_ge _
              have := hlet k (by omega)
              show T (s.1 + k) = (WD.getD w []).getD k 0 + 96
              omega
          rw [hbb]
        · rw [if_neg cl, decide_eq_false (fun z => cl (by have := congrArg List.length (hxw.mp z); rw [xW_len] at this; exact this))]
          rfl
    · have hx : ¬ xw T n s = (w : Int) := by
        unfold xw
        rw [if_neg (fun z => c (xK_2 z).2.1)]
        omega
      rw [if_neg (fun z => c (xL_t.mpr z)), if_pos rfl, decide_eq_false hx]
      rfl
  · have exc : xc T n s = -1 := if_neg hl
    have hx : ¬ xw T n s = (w : Int) := by
      unfold xw
      rw [if_neg (fun z => hl (xK_2 z).1)]
      omega
    rw [exc, show f_X12_isLetter m1 (zI (-1)) = 0 from rfl, if_pos rfl, decide_eq_false hx]
    rfl
end Ma
