/-! THE REFERENCE: rules, any statement -/
theorem gm_z (t : Nat) : ((gm t : Nat) : Int) = sg_m t := by
  unfold gm
  have key : 0 ≤ sg_m t := by
    unfold sg_m
    split
    · omega
    · rename_i c
      have : ∀ t : Nat, t < 100 → 0 ≤ ([40, 41, 42, 43, 44, 45, 46, 47, 48, 60, 61, 1, 2, 3, 4, 5, 6, 7, 8, 9, 10, 11, 12, 13] : List Int).getD t 0 := by decide
      exact this t (by omega)
  omega
section Sm4
variable {T : Nat → Nat} {n : Nat} {μ0 μ μ' : sh_Mem} {s s' : xs} {P : sp_T} {L : sl_T} {cod stt : Nat}
theorem rf_copy {k len : Nat} {i2 : Int32} {c : Nat → Int32} (hk : k < 3) (hl : cod + len ≤ 1600) : ∀ (g f j : Nat) (μ : sh_Mem), j + g = len → g < f → sh_i μ 291 103 = zI (len : Nat) → sh_i μ 291 48 = zI ((cod + j : Nat) : Int) → (∀ i, i < len → sh_i μ 364 i = c i) → ∃ μ', F_X12_codesTold f 1 (zI k) i2 (zI j) μ = some μ' ∧ sh_fr (fun r x => (r = 329 ∧ cod + j ≤ x ∧ x < cod + len) ∨ (r = 291 ∧ x = 48) ∨ (r = 328 ∧ x = k)) μ μ' ∧ sh_i μ' 291 48 = zI ((cod + len : Nat) : Int) ∧ sh_i μ' 328 k = zI ((cod + len : Nat) : Int) ∧ ∀ i, j ≤ i → i < len → sh_i μ' 329 (cod + i) = c i := by
  intro g
  induction g with
  | zero =>
    intro f j μ hj hf h1 h2 h3
    obtain ⟨f, rfl⟩ : ∃ f', f = f' + 1 := ⟨f - 1, by omega⟩
    have e : cod + j = cod + len := by omega
    refine ⟨sh_setI μ 328 k (zI ((cod + len : Nat) : Int)), ?_, sh_fr_I sh_fr.rf (by omega), by rw [ir_set_r (by omega), h2, e], by rw [ir_set], fun i z1 z2 => by omega⟩
    rw [F_X12_codesTold, h1, if_pos (zI_yes (by omega) (by omega)), if_pos ((zI_in (by omega)).mpr (by omega)), tcN (by omega), h2, e, shl_ap]
  | succ g ih =>
    intro f j μ hj hf h1 h2 h3
    obtain ⟨f, rfl⟩ : ∃ f', f = f' + 1 := ⟨f - 1, by omega⟩
    obtain ⟨m1, hm1⟩ : ∃ m, m = sh_setI μ 329 (cod + j) (c j) := ⟨_, rfl⟩
    have w1 : sh_i m1 291 48 = zI ((cod + j : Nat) : Int) := by rw [hm1, ir_set_r (by omega), h2]
    obtain ⟨m2, hm2⟩ : ∃ m, m = sh_setI m1 291 48 (zI ((cod + (j + 1) : Nat) : Int)) := ⟨_, rfl⟩
    obtain ⟨m3, a1, a2, a3, a4, a5⟩ := ih f (j + 1) m2 (by omega) (by omega) (by rw [hm2, ir_set_k (by omega), hm1, ir_set_r (by omega), h1]) (by rw [hm2, ir_set]) (fun i hi => by rw [hm2, ir_set_r (by omega), hm1, ir_set_r (by omega)]; exact h3 i hi)
    have f2 : sh_fr (fun r x => (r = 329 ∧ cod + j ≤ x ∧ x < cod + len) ∨ (r = 291 ∧ x = 48) ∨ (r = 328 ∧ x = k)) μ m2 := by
      rw [hm2]; refine sh_fr_I ?_ (by omega)
      rw [hm1]; exact sh_fr_I sh_fr.rf (by omega)
    refine ⟨m3, ?_, f2.trans (a2.mono (fun r x z => by omega)), a3, a4, fun i z1 z2 => ?_⟩
    · have hv : sh_i μ 364 (zI (j : Int)).toNatClampNeg = c j := by rw [tcN (by omega), h3 j (by omega)]
      rw [F_X12_codesTold, h1, if_neg (zI_not (by omega) (by omega)), if_pos ((zI_in (by omega)).mpr (by omega)), h2, if_pos ((zI_in (by omega)).mpr (by omega)), hv, tcN (by omega), ← hm1, shl_ap, w1, zI_s1, show cod + j + 1 = cod + (j + 1) by omega, ← hm2, shl_ap, zI_s1]
      exact a1
    · by_cases e : i = j
      · rw [e, a2.i 329 (cod + j) (by omega), hm2, ir_set_r (by omega), hm1, ir_set]
      · exact a5 i (by omega) z2
/-- how a rule is read -/
noncomputable def rlT (c : sh_Mem → Option sh_Mem) (k : Int32) (p : Int32) (m : sh_Mem) : Option sh_Mem := sh_bindv (c m) (fun μ202 => (if (sh_i μ202 291 5) = 0 then (if sh_in k 6 then sh_let (sh_setI μ202 327 k.toNatClampNeg (sh_i μ202 291 48)) (fun μ207 => F_X12_codesTold sh_fuel 1 k p 0 μ207) else none) else some μ202))
def rlM (μ : sh_Mem) (kd : Nat) : sh_Mem := sh_setI (sh_setI (sh_setI (sh_setI (sh_setI μ 291 51 (zI (kM kd))) 291 103 0) 291 105 0) 291 106 0) 291 107 0
theorem rl_st0 {p : Int32} (h5 : sh_i μ 291 5 = 0) (h : sh_i μ 327 0 = zI (-1)) : f_X12_codesTold 0 p μ = rlT f_X12_qSums 0 p (rlM μ 0) := by
  have hin : sh_in (0 : Int32) 6 := (zI_in (a := 0) (by omega)).mpr (by omega)
  have h' : sh_i μ 327 (Int32.toNatClampNeg 0) = -1 := h
  unfold f_X12_codesTold
  rw [h5, if_pos rfl, if_pos hin, h', if_pos rfl, if_pos rfl, if_pos rfl, shl_ap, shl_ap, shl_ap, shl_ap, shl_ap, if_neg (show ¬ (0 : Int32) = 2 by decide)]
  rfl
theorem rl_X0 {p : Nat} (h5 : sh_i μ 291 5 = 0) (h : ¬ sh_i μ 327 0 = zI (-1)) : ∃ m, f_X12_codesTold 0 (zI p) μ = some m ∧ sh_fr nM μ m ∧ sh_i m 291 5 = zI 5 ∧ sh_i m 291 6 = zI p := by
  have hin : sh_in (0 : Int32) 6 := (zI_in (a := 0) (by omega)).mpr (by omega)
  have h' : ¬ sh_i μ 327 (Int32.toNatClampNeg 0) = -1 := h
  obtain ⟨m, r1, r2, r3⟩ := rf_fail (T := fun _ => 0) (n := 0) (μ := μ) (k := 5) (p := p) h5
  have n5 : ¬ sh_i m 291 5 = 0 := by
    rw [r3.1]
    show ¬ zI ((5 : Nat) : Int) = 0
    decide
  refine ⟨m, ?_, r2, r3.1, r3.2⟩
  unfold f_X12_codesTold
  rw [h5, if_pos rfl, if_pos hin, if_neg h', show f_X12_fail 5 (zI (p : Int)) μ = some m from r1, shv_ap, if_neg n5]
theorem rl_st1 {p : Int32} (h5 : sh_i μ 291 5 = 0) (h : sh_i μ 327 1 = zI (-1)) : f_X12_codesTold 1 p μ = rlT f_X12_qSums 1 p (rlM μ 1) := by
  have hin : sh_in (1 : Int32) 6 := (zI_in (a := 1) (by omega)).mpr (by omega)
  have h' : sh_i μ 327 (Int32.toNatClampNeg 1) = -1 := h
  unfold f_X12_codesTold
  rw [h5, if_pos rfl, if_pos hin, h', if_pos rfl, if_pos rfl, if_neg (show ¬ (1 : Int32) = 0 by decide), shl_ap, shl_ap, shl_ap, shl_ap, shl_ap, if_neg (show ¬ (1 : Int32) = 2 by decide)]
  rfl
theorem rl_X1 {p : Nat} (h5 : sh_i μ 291 5 = 0) (h : ¬ sh_i μ 327 1 = zI (-1)) : ∃ m, f_X12_codesTold 1 (zI p) μ = some m ∧ sh_fr nM μ m ∧ sh_i m 291 5 = zI 5 ∧ sh_i m 291 6 = zI p := by
  have hin : sh_in (1 : Int32) 6 := (zI_in (a := 1) (by omega)).mpr (by omega)
  have h' : ¬ sh_i μ 327 (Int32.toNatClampNeg 1) = -1 := h
  obtain ⟨m, r1, r2, r3⟩ := rf_fail (T := fun _ => 0) (n := 0) (μ := μ) (k := 5) (p := p) h5
  have n5 : ¬ sh_i m 291 5 = 0 := by
    rw [r3.1]
    show ¬ zI ((5 : Nat) : Int) = 0
    decide
  refine ⟨m, ?_, r2, r3.1, r3.2⟩
  unfold f_X12_codesTold
  rw [h5, if_pos rfl, if_pos hin, if_neg h', show f_X12_fail 5 (zI (p : Int)) μ = some m from r1, shv_ap, if_neg n5]
theorem rl_st2 {p : Int32} (h5 : sh_i μ 291 5 = 0) (h : sh_i μ 327 2 = zI (-1)) : f_X12_codesTold 2 p μ = rlT f_X12_qTest 2 p (rlM μ 1) := by
  have hin : sh_in (2 : Int32) 6 := (zI_in (a := 2) (by omega)).mpr (by omega)
  have h' : sh_i μ 327 (Int32.toNatClampNeg 2) = -1 := h
  unfold f_X12_codesTold
  rw [h5, if_pos rfl, if_pos hin, h', if_pos rfl, if_pos rfl, if_neg (show ¬ (2 : Int32) = 0 by decide), shl_ap, shl_ap, shl_ap, shl_ap, shl_ap, if_pos rfl]
  rfl
theorem rl_X2 {p : Nat} (h5 : sh_i μ 291 5 = 0) (h : ¬ sh_i μ 327 2 = zI (-1)) : ∃ m, f_X12_codesTold 2 (zI p) μ = some m ∧ sh_fr nM μ m ∧ sh_i m 291 5 = zI 5 ∧ sh_i m 291 6 = zI p := by
  have hin : sh_in (2 : Int32) 6 := (zI_in (a := 2) (by omega)).mpr (by omega)
  have h' : ¬ sh_i μ 327 (Int32.toNatClampNeg 2) = -1 := h
  obtain ⟨m, r1, r2, r3⟩ := rf_fail (T := fun _ => 0) (n := 0) (μ := μ) (k := 5) (p := p) h5
  have n5 : ¬ sh_i m 291 5 = 0 := by
    rw [r3.1]
    show ¬ zI ((5 : Nat) : Int) = 0
    decide
  refine ⟨m, ?_, r2, r3.1, r3.2⟩
  unfold f_X12_codesTold
  rw [h5, if_pos rfl, if_pos hin, if_neg h', show f_X12_fail 5 (zI (p : Int)) μ = some m from r1, shv_ap, if_neg n5]
theorem rf_rule {k kd g p : Nat} {q : xp} {c : sh_Mem → Option sh_Mem} (hk : k < 3) (hkd : kd < 3) (hc : ∀ m, hB m → sh_i m 291 51 = zI (kM kd) → mRd m m T n (xA T n s) [] [] 0 0 → ∃ m', c m = some m' ∧ rfT T n m m' [] [] 0 0 q) (hq : PT T n kd g 0 (xA T n s) q) (h : mD μ0 μ T n (xA T n s) P L cod stt) (hb0 : hB μ0) : ∃ m, rlT c (zI k) (zI p) (rlM μ kd) = some m ∧ (∀ e, q = .inl e → mXf μ0 m e) ∧ (∀ a, q = .inr a → sh_fr nDm μ0 m ∧ mS m T n a.1 ∧ cod + a.2.length ≤ a.1.1 ∧ sh_i m 291 49 = zI (stt : Int) ∧ (∀ r, 321 ≤ r → r ≤ 326 → sh_i m r = sh_i μ r) ∧ sh_l m 323 = sh_l μ 323 ∧ (∀ x, ¬ x = k → sh_i m 327 x = sh_i μ 327 x ∧ sh_i m 328 x = sh_i μ 328 x) ∧ sh_i m 327 k = zI (cod : Nat) ∧ sh_i m 328 k = zI ((cod + a.2.length : Nat) : Int) ∧ (∀ x, x < cod → sh_i m 329 x = sh_i μ 329 x) ∧ (∀ j, j < a.2.length → sh_i m 329 (cod + j) = zI (sg_m (a.2.getD j 0))) ∧ sh_i m 291 48 = zI ((cod + a.2.length : Nat) : Int)) := by
  have hle := h.2.1.le
  have hfu := sh_fuel_eq
  obtain ⟨m5, hm5⟩ : ∃ m, m = rlM μ kd := ⟨_, rfl⟩
  have f5 : sh_fr (fun r x => r = 291 ∧ (x = 51 ∨ x = 103 ∨ x = 105 ∨ x = 106 ∨ x = 107)) μ m5 := by
    rw [hm5]
    exact sh_fr_I (sh_fr_I (sh_fr_I (sh_fr_I (sh_fr_I sh_fr.rf (by omega)) (by omega)) (by omega)) (by omega)) (by omega)
  have S5 : mS m5 T n (xA T n s) := by
    obtain ⟨h1, h2, h3, e, d, d1, d2, d3, d4, d5⟩ := h.2.1
    exact ⟨h1.cg (f5.row 292 (fun x => by omega)), by rw [f5.i 291 3 (by omega)]; exact h2, by rw [f5.i 291 5 (by omega)]; exact h3, e, d, d1, by rw [f5.i 291 2 (by omega)]; exact d2, d3, by rw [f5.i 291 4 (by omega)]; exact d4, d5⟩
  have R5 : mRd m5 m5 T n (xA T n s) [] [] 0 0 := by
    refine ⟨sh_fr.rf, S5, ⟨?_, fun j hj => absurd hj (Nat.not_lt_zero j), ?_, fun j hj => absurd hj (Nat.not_lt_zero j), ?_, ?_⟩, Nat.zero_le _, Nat.le_refl _, fun y hy => (by cases hy), by omega⟩
    · rw [hm5]; show sh_i (sh_setI _ 291 107 0) 291 103 = _; rw [ir_set_k (by omega), ir_set_k (by omega), ir_set_k (by omega), ir_set]; rfl
    · rw [hm5]; show sh_i (sh_setI _ 291 107 0) 291 105 = _; rw [ir_set_k (by omega), ir_set_k (by omega), ir_set]; rfl
    · rw [hm5]; show sh_i (sh_setI _ 291 107 0) 291 106 = _; rw [ir_set_k (by omega), ir_set]; rfl
    · rw [hm5]; show sh_i (sh_setI _ 291 107 0) 291 107 = _; rw [ir_set]; rfl
  have fD5 : sh_fr nDm μ0 m5 := h.1.trans (f5.mono (fun r x z => by unfold nDm nZq nWq; omega))
  have B5 : hB m5 := fun j hj x hx => by
    rw [fD5.i _ _ (nDm_a (by omega) (by omega))]
    exact hb0 j hj x hx
  have h51 : sh_i m5 291 51 = zI (kM kd) := by
    rw [hm5]
    show sh_i (sh_setI _ 291 107 0) 291 51 = _
    rw [ir_set_k (by omega), ir_set_k (by omega), ir_set_k (by omega), ir_set_k (by omega), ir_set]
  obtain ⟨m6, c1, c2⟩ := hc m5 B5 h51 R5
  cases q with
  | inl e =>
    have F : mFu m5 m6 e := c2
    refine ⟨m6, ?_, fun e' he => by cases he; exact ⟨fD5.trans (F.1.mono (fun _ _ z => nD_Z z)), F.2⟩, fun a ha => (by cases ha)⟩
    unfold rlT
    rw [← hm5, c1, shv_ap, if_neg F.ne]
  | inr a =>
    have R6 : mRd m5 m6 T n a.1 ([] ++ a.2.map gm) [] 0 0 := c2
    rw [List.nil_append] at R6
    have hp := hq.pos hle.1
    obtain ⟨p1, p2, p3, -⟩ := hp
    have hcod := h.2.2.2.1
    have h48 : sh_i m6 291 48 = zI (cod : Nat) := by
      rw [R6.1.i 291 48 (by unfold nZq nM nWq; omega), f5.i 291 48 (by omega)]
      exact h.2.2.1.2.2.2.2.2.2.2
    obtain ⟨m7, hm7⟩ : ∃ m, m = sh_setI m6 327 k (zI (cod : Nat)) := ⟨_, rfl⟩
    have f7 : sh_fr (fun r x => r = 327 ∧ x = k) m6 m7 := by rw [hm7]; exact sh_fr_I sh_fr.rf ⟨rfl, rfl⟩
    have l6 : (a.2.map gm).length = a.2.length := List.length_map gm
    have M6 := R6.2.2.1
    obtain ⟨m8, d1, d2, d3, d4, d5⟩ := rf_copy (cod := cod) (k := k) (len := a.2.length) (i2 := zI p) (c := fun i => zI ((a.2.map gm).getD i 0 : Nat)) hk (by omega) a.2.length sh_fuel 0 m7 (by omega) (by omega) (by rw [f7.i 291 103 (by omega), M6.1, l6]) (by rw [f7.i 291 48 (by omega)]; exact h48) (fun i hi => by rw [f7.i 364 i (by omega)]; exact M6.2.1 i (by rw [l6]; exact hi))
    have f8 : sh_fr (fun r x => (r = 327 ∧ x = k) ∨ (r = 329 ∧ cod ≤ x ∧ x < cod + a.2.length) ∨ (r = 291 ∧ x = 48) ∨ (r = 328 ∧ x = k)) m6 m8 := (f7.mono (fun r x z => Or.inl z)).trans (d2.mono (fun r x z => by omega))
    have fZ : sh_fr nZq m5 m6 := R6.1
    have big : ∀ r, 321 ≤ r → r ≤ 329 → sh_i m6 r = sh_i μ r := fun r z1 z2 => by rw [fZ.row r (fun x => by unfold nZq nM nWq; omega), f5.row r (fun x => by omega)]
    refine ⟨m8, ?_, fun e he => (by cases he), fun a' ha => ?_⟩
    · unfold rlT
      rw [← hm5, c1, shv_ap, R6.2.1.2.2.1, if_pos rfl, if_pos ((zI_in (by omega)).mpr (by omega)), tcN (by omega), h48, ← hm7, shl_ap]
      exact d1
    · cases ha
      refine ⟨(fD5.trans (fZ.mono (fun _ _ z => nD_Z z))).trans (f8.mono (fun r x z => by unfold nDm; omega)), ?_, by omega, ?_, fun r z1 z2 => ?_, ?_, fun x hx => ⟨?_, ?_⟩, ?_, d4, fun x hx => ?_, fun j hj => ?_, d3⟩
      · obtain ⟨h1, h2, h3, e, d, e1, e2, e3, e4, e5⟩ := R6.2.1
        exact ⟨h1.cg (f8.row 292 (fun x => by omega)), by rw [f8.i 291 3 (by omega)]; exact h2, by rw [f8.i 291 5 (by omega)]; exact h3, e, d, e1, by rw [f8.i 291 2 (by omega)]; exact e2, e3, by rw [f8.i 291 4 (by omega)]; exact e4, e5⟩
      · rw [f8.i 291 49 (by omega), fZ.i 291 49 (by unfold nZq nM nWq; omega), f5.i 291 49 (by omega)]
        exact h.2.2.2.2
      · rw [f8.row r (fun x => by omega), big r z1 (by omega)]
      · rw [f8.lrow 323 (fun x => by omega), fZ.lrow 323 (fun x => by unfold nZq nM nWq; omega), f5.lrow 323 (fun x => by omega)]
      · rw [f8.i 327 x (by omega), big 327 (by omega) (by omega)]
      · rw [f8.i 328 x (by omega), big 328 (by omega) (by omega)]
      · rw [d2.i 327 k (by omega), hm7, ir_set]
      · rw [f8.i 329 x (by omega), big 329 (by omega) (by omega)]
      · rw [d5 j (Nat.zero_le _) hj]
        show zI ((a.2.map gm).getD j 0 : Nat) = _
        rw [List.getD_eq_getElem?_getD, List.getElem?_map, List.getElem?_eq_getElem hj, List.getD_eq_getElem?_getD, List.getElem?_eq_getElem hj]
        show zI ((gm a.2[j] : Nat) : Int) = zI (sg_m a.2[j])
        rw [gm_z]
theorem mF0.mono {k cod' : Nat} {b : Bool} {l : List Nat} (h : mF0 μ k b l cod) (hc : cod ≤ cod') (h1 : sh_i μ' 327 k = sh_i μ 327 k) (h2 : sh_i μ' 328 k = sh_i μ 328 k) (h3 : ∀ x, x < cod → sh_i μ' 329 x = sh_i μ 329 x) : mF0 μ' k b l cod' := by
  unfold mF0 at h ⊢
  split at h
  · rename_i c
    rw [if_pos c, h1]; exact h
  · rename_i c
    obtain ⟨a, b, a1, a2, a3, a4, a5, a6⟩ := h
    rw [if_neg c]
    exact ⟨a, b, a1, by omega, a3, by rw [h1]; exact a4, by rw [h2]; exact a5, fun j hj => by rw [h3 _ (by omega)]; exact a6 j hj⟩
theorem rf_rule0 {q : xp} {p : Nat} (hq : PT T n 0 7 0 (xA T n s) q) (h : mD μ0 μ T n (xA T n s) P L cod stt) (hb0 : hB μ0) (ht : (sp_told P).1 = false) : mSst T n μ0 stt cod (f_X12_codesTold 0 (zI p)) (st_f (dp_0 P) L q) μ := by
  obtain ⟨m, a1, a2, a3⟩ := rf_rule (k := 0) (kd := 0) (p := p) (c := f_X12_qSums) (by omega) (by omega) (fun m hB1 h51 hR => by
    obtain ⟨m', a1, a2⟩ := rf_qSums (kd := 0) (by omega) hB1 h51 hR (by decide) hq
    refine ⟨m', a1, ?_⟩
    cases q with
    | inl e => exact mFt.u a2
    | inr a => exact a2) hq h hb0
  have D := h.2.2.1
  have h327 : sh_i μ 327 0 = zI (-1) := by
    have := D.2.2.2.2.2.2.1.1
    unfold mF0 at this
    rw [if_pos ht] at this
    exact this
  have e1 : f_X12_codesTold 0 (zI p) μ = some m := by
    rw [rl_st0 h.2.1.2.2.1 h327]
    exact a1
  cases q with
  | inl e => exact ⟨m, e1, a2 e rfl⟩
  | inr a =>
    obtain ⟨b1, b2, b3, b4, b5, b6, b7, b8, b9, b10, b11, b12⟩ := a3 a rfl
    obtain ⟨c1, c2, c3, c4, c5, c6, a7, c8⟩ := D
    have new : mF0 m 0 true a.2 (cod + a.2.length) := by
      unfold mF0
      rw [if_neg (by decide)]
      exact ⟨cod, cod + a.2.length, by omega, by omega, by omega, b8, b9, b11⟩
    refine ⟨m, e1, cod + a.2.length, by omega, b1, b2, ⟨?_, ?_, ?_, ?_, ?_, ?_, ⟨new, a7.2.1.mono (Nat.le_add_right _ _) (b7 1 (by omega)).1 (b7 1 (by omega)).2 b10, a7.2.2.mono (Nat.le_add_right _ _) (b7 2 (by omega)).1 (b7 2 (by omega)).2 b10⟩, b12⟩, b3, b4⟩
    · rw [b5 321 (by omega) (by omega)]; exact c1
    · rw [b5 322 (by omega) (by omega)]; exact c2
    · rw [b6]; exact c3
    · rw [b5 324 (by omega) (by omega)]; exact c4
    · rw [b5 325 (by omega) (by omega)]; exact c5
    · rw [b5 326 (by omega) (by omega)]; exact c6
theorem rf_rule1 {q : xp} {p : Nat} (hq : PT T n 1 7 0 (xA T n s) q) (h : mD μ0 μ T n (xA T n s) P L cod stt) (hb0 : hB μ0) (ht : (sp_told P).2.1 = false) : mSst T n μ0 stt cod (f_X12_codesTold 1 (zI p)) (st_f (dp_1 P) L q) μ := by
  obtain ⟨m, a1, a2, a3⟩ := rf_rule (k := 1) (kd := 1) (p := p) (c := f_X12_qSums) (by omega) (by omega) (fun m hB1 h51 hR => by
    obtain ⟨m', a1, a2⟩ := rf_qSums (kd := 1) (by omega) hB1 h51 hR (by decide) hq
    refine ⟨m', a1, ?_⟩
    cases q with
    | inl e => exact mFt.u a2
    | inr a => exact a2) hq h hb0
  have D := h.2.2.1
  have h327 : sh_i μ 327 1 = zI (-1) := by
    have := D.2.2.2.2.2.2.1.2.1
    unfold mF0 at this
    rw [if_pos ht] at this
    exact this
  have e1 : f_X12_codesTold 1 (zI p) μ = some m := by
    rw [rl_st1 h.2.1.2.2.1 h327]
    exact a1
  cases q with
  | inl e => exact ⟨m, e1, a2 e rfl⟩
  | inr a =>
    obtain ⟨b1, b2, b3, b4, b5, b6, b7, b8, b9, b10, b11, b12⟩ := a3 a rfl
    obtain ⟨c1, c2, c3, c4, c5, c6, a7, c8⟩ := D
    have new : mF0 m 1 true a.2 (cod + a.2.length) := by
      unfold mF0
      rw [if_neg (by decide)]
      exact ⟨cod, cod + a.2.length, by omega, by omega, by omega, b8, b9, b11⟩
    refine ⟨m, e1, cod + a.2.length, by omega, b1, b2, ⟨?_, ?_, ?_, ?_, ?_, ?_, ⟨a7.1.mono (Nat.le_add_right _ _) (b7 0 (by omega)).1 (b7 0 (by omega)).2 b10, new, a7.2.2.mono (Nat.le_add_right _ _) (b7 2 (by omega)).1 (b7 2 (by omega)).2 b10⟩, b12⟩, b3, b4⟩
    · rw [b5 321 (by omega) (by omega)]; exact c1
    · rw [b5 322 (by omega) (by omega)]; exact c2
    · rw [b6]; exact c3
    · rw [b5 324 (by omega) (by omega)]; exact c4
    · rw [b5 325 (by omega) (by omega)]; exact c5
    · rw [b5 326 (by omega) (by omega)]; exact c6
theorem rf_rule2 {q : xp} {p : Nat} (hq : PT T n 1 9 0 (xA T n s) q) (h : mD μ0 μ T n (xA T n s) P L cod stt) (hb0 : hB μ0) (ht : (sp_told P).2.2 = false) : mSst T n μ0 stt cod (f_X12_codesTold 2 (zI p)) (st_f (dp_2 P) L q) μ := by
  obtain ⟨m, a1, a2, a3⟩ := rf_rule (k := 2) (kd := 1) (p := p) (c := f_X12_qTest) (by omega) (by omega) (fun m hB1 h51 hR => rf_qTest (kd := 1) (by omega) hB1 h51 hR hq) hq h hb0
  have D := h.2.2.1
  have h327 : sh_i μ 327 2 = zI (-1) := by
    have := D.2.2.2.2.2.2.1.2.2
    unfold mF0 at this
    rw [if_pos ht] at this
    exact this
  have e1 : f_X12_codesTold 2 (zI p) μ = some m := by
    rw [rl_st2 h.2.1.2.2.1 h327]
    exact a1
  cases q with
  | inl e => exact ⟨m, e1, a2 e rfl⟩
  | inr a =>
    obtain ⟨b1, b2, b3, b4, b5, b6, b7, b8, b9, b10, b11, b12⟩ := a3 a rfl
    obtain ⟨c1, c2, c3, c4, c5, c6, a7, c8⟩ := D
    have new : mF0 m 2 true a.2 (cod + a.2.length) := by
      unfold mF0
      rw [if_neg (by decide)]
      exact ⟨cod, cod + a.2.length, by omega, by omega, by omega, b8, b9, b11⟩
    refine ⟨m, e1, cod + a.2.length, by omega, b1, b2, ⟨?_, ?_, ?_, ?_, ?_, ?_, ⟨a7.1.mono (Nat.le_add_right _ _) (b7 0 (by omega)).1 (b7 0 (by omega)).2 b10, a7.2.1.mono (Nat.le_add_right _ _) (b7 1 (by omega)).1 (b7 1 (by omega)).2 b10, new⟩, b12⟩, b3, b4⟩
    · rw [b5 321 (by omega) (by omega)]; exact c1
    · rw [b5 322 (by omega) (by omega)]; exact c2
    · rw [b6]; exact c3
    · rw [b5 324 (by omega) (by omega)]; exact c4
    · rw [b5 325 (by omega) (by omega)]; exact c5
    · rw [b5 326 (by omega) (by omega)]; exact c6
end Sm4
