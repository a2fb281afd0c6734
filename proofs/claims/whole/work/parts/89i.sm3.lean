/-! THE REFERENCE: people, what they know, the list, the rules -/
section Sm3
variable {T : Nat → Nat} {n : Nat} {μ0 μ μ' : sh_Mem} {s s' : xs} {P : sp_T} {L : sl_T} {cod stt : Nat}
theorem rf_knowsS (h : mD μ0 μ T n (xA T n s) P L cod stt) (hd : dOK P L) (hw : hA μ0) : mSst T n μ0 stt cod f_X12_knowsTold (st_knows T n P L s) μ := by
  have hb := sp_bd hd.1
  refine rf_two (G := fun y3 y9 μ7 => (if (sh_i μ7 291 5) = 0 then (if sh_in ((3 * y3) + 2) 21 then (if (((sh_i μ7 325 (((3 * y3) + 2)).toNatClampNeg) >>> (y9 &&& 31)) &&& 1) = 1 then sh_bindv (f_X12_fail 3 (sh_i μ7 291 38) μ7) (fun μ21 => (if (sh_i μ21 291 5) = 0 then (if sh_in ((3 * y3) + 2) 21 then (if sh_in ((3 * y3) + 2) 21 then sh_let (sh_setI μ21 325 (((3 * y3) + 2)).toNatClampNeg ((sh_i μ21 325 (((3 * y3) + 2)).toNatClampNeg) ||| ((1 : Int32) <<< (y9 &&& 31)))) (fun μ27 => some μ27) else none) else none) else some μ21)) else (if (sh_i μ7 291 5) = 0 then (if sh_in ((3 * y3) + 2) 21 then (if sh_in ((3 * y3) + 2) 21 then sh_let (sh_setI μ7 325 (((3 * y3) + 2)).toNatClampNeg ((sh_i μ7 325 (((3 * y3) + 2)).toNatClampNeg) ||| ((1 : Int32) <<< (y9 &&& 31)))) (fun μ20 => some μ20) else none) else none) else some μ7)) else none) else (if (sh_i μ7 291 5) = 0 then (if sh_in ((3 * y3) + 2) 21 then (if sh_in ((3 * y3) + 2) 21 then sh_let (sh_setI μ7 325 (((3 * y3) + 2)).toNatClampNeg ((sh_i μ7 325 (((3 * y3) + 2)).toNatClampNeg) ||| ((1 : Int32) <<< (y9 &&& 31)))) (fun μ14 => some μ14) else none) else none) else some μ7))) h hd hw (fun v u m h5 => ?_) ?_
  · show (if _ then _ else _) = _
    rw [if_neg h5, if_neg h5]
  intro p q s2 s3 m hp hq hm h38
  have hp7 : p < 7 := by have : sp_np P ≤ 7 := hb.2.2.2.1; omega
  have hq5 : q < 5 := by have : sp_nt P ≤ 5 := hb.2.2.1; omega
  have hk := kn32 hd hp
  have e3 : 3 * zI (p : Int) + 2 = zI ((3 * p + 2 : Nat) : Int) := by
    rw [show (3 : Int32) = zI 3 from rfl, show (2 : Int32) = zI 2 from rfl, zI_mul, zI_add]
    rfl
  have hin : sh_in (zI ((3 * p + 2 : Nat) : Int)) 21 := (zI_in (by omega)).mpr (by omega)
  have hv : sh_i m 325 (zI ((3 * p + 2 : Nat) : Int)).toNatClampNeg = zI (sl_k L p : Nat) := by rw [tcN (by omega), (hm.2.2.1.2.2.2.2.1 p hp).2.2]
  have h5 := hm.2.1.2.2.1
  show mSst T n μ0 stt cod _ (if sl_k L p / 2 ^ q % 2 = 1 then .inl (3, s2.1) else .inr (s3, P, dl_k L p q)) m
  by_cases c : sl_k L p / 2 ^ q % 2 = 1
  · rw [if_pos c]
    obtain ⟨m2, r1, r2, r3⟩ := rf_fail (T := fun _ => 0) (n := 0) (μ := m) (k := 3) (p := s2.1) h5
    have F : mXf μ0 m2 (3, s2.1) := ⟨hm.1.trans (r2.mono (fun _ _ z => nD_M z)), r3.1, r3.2, by simp, by simp⟩
    refine ⟨m2, ?_, F⟩
    show (if _ then _ else _) = _
    rw [h5, if_pos rfl, e3, if_pos hin, hv, bitL _ hk q hq5, c, if_pos (show zI ((1 : Nat) : Int) = 1 from rfl), h38, show f_X12_fail 3 (zI (s2.1 : Int)) m = some m2 from r1, shv_ap, if_neg F.ne]
  · rw [if_neg c]
    have c0 : sl_k L p / 2 ^ q % 2 = 0 := by omega
    refine ⟨sh_setI m 325 (3 * p + 2) (zI ((sl_k L p ||| 2 ^ q : Nat) : Int)), ?_, cod, Nat.le_refl _, hm.ch (N := fun r k => r = 325) (sh_fr_I sh_fr.rf rfl) (fun r k z => ⟨by unfold nDm; omega, by omega⟩) ?_⟩
    · show (if _ then _ else _) = _
      rw [h5, if_pos rfl, e3, if_pos hin, hv, bitL _ hk q hq5, c0, if_neg (show ¬ zI ((0 : Nat) : Int) = 1 by decide), if_pos rfl, if_pos hin, if_pos hin, orL _ hk q hq5, tcN (by omega), shl_ap]
    · obtain ⟨a1, a2, a3, a4, a5, a6, a7, a8⟩ := hm.2.2.1
      have er : ∀ r, ¬ r = 325 → sh_i (sh_setI m 325 (3 * p + 2) (zI ((sl_k L p ||| 2 ^ q : Nat) : Int))) r = sh_i m r := fun r hr => ir_set_r hr
      refine ⟨by rw [er 321 (by omega)]; exact a1, by rw [er 322 (by omega)]; exact a2, a3, by rw [er 324 (by omega)]; exact a4, fun p' hp' => ?_, by rw [er 326 (by omega)]; exact a6, ⟨a7.1.cg (er _ (by omega)) (er _ (by omega)) (er _ (by omega)), a7.2.1.cg (er _ (by omega)) (er _ (by omega)) (er _ (by omega)), a7.2.2.cg (er _ (by omega)) (er _ (by omega)) (er _ (by omega))⟩, by rw [er 291 (by omega)]; exact a8⟩
      obtain ⟨z1, z2, z3⟩ := a5 p' hp'
      refine ⟨by rw [ir_set_k (by omega)]; exact z1, by rw [ir_set_k (by omega)]; exact z2, ?_⟩
      show _ = zI ((if p' = p then sl_k L p ||| 2 ^ q else sl_k L p' : Nat) : Int)
      by_cases e : p' = p
      · rw [if_pos e, e, ir_set]
      · rw [if_neg e, ir_set_k (by omega)]
        exact z3
theorem rf_listS {x : Nat} (h : mD μ0 μ T n (xA T n s) P L cod stt) (hd : dOK P L) (hw : hA μ0) (h12 : ¬ 12 ≤ (sp_li P).length) : mSst T n μ0 stt cod (f_X12_listTold (zI x)) (st_asks T n P L s) μ := by
  have hb := sp_bd hd.1
  have fu : f_X12_isFull 2 12 (zI x) μ = some (0, μ) := rf_full (k := 2) (room := 12) (a := (sp_li P).length) h.2.1.2.2.1 (by omega) (by omega) (by omega) h.2.2.1.2.1.2.2 (by omega)
  have R := rf_two (F := fun p q _ s3 => .inr (s3, dp_l P p q, L)) (G := fun y7 y13 μ11 => (if (sh_i μ11 291 5) = 0 then (if sh_in (2 * (sh_i μ11 322 (Int32.toNatClampNeg 2))) 48 then sh_let (sh_setI μ11 326 ((2 * (sh_i μ11 322 (Int32.toNatClampNeg 2)))).toNatClampNeg y7) (fun μ16 => (if sh_in ((2 * (sh_i μ16 322 (Int32.toNatClampNeg 2))) + 1) 48 then sh_let (sh_setI μ16 326 (((2 * (sh_i μ16 322 (Int32.toNatClampNeg 2))) + 1)).toNatClampNeg y13) (fun μ18 => sh_let (sh_setI μ18 322 (Int32.toNatClampNeg 2) ((sh_i μ18 322 (Int32.toNatClampNeg 2)) + 1)) (fun μ19 => some μ19)) else none)) else none) else some μ11)) h hd hw (fun v u m h5 => if_neg h5) ?_
  · obtain ⟨m, r1, r2⟩ := R
    refine ⟨m, ?_, r2⟩
    unfold f_X12_listTold
    rw [fu, shb_ap, if_pos rfl]
    exact r1
  intro p q s2 s3 m hp hq hm h38
  have h5 := hm.2.1.2.2.1
  have hl : (sp_li P).length < 12 := by omega
  have w0 : sh_i m 322 (Int32.toNatClampNeg 2) = zI ((sp_li P).length : Nat) := hm.2.2.1.2.1.2.2
  obtain ⟨n1, hn1⟩ : ∃ m', m' = sh_setI m 326 (2 * (sp_li P).length) (zI p) := ⟨_, rfl⟩
  obtain ⟨n2, hn2⟩ : ∃ m', m' = sh_setI n1 326 (2 * (sp_li P).length + 1) (zI q) := ⟨_, rfl⟩
  have w1 : sh_i n1 322 (Int32.toNatClampNeg 2) = zI ((sp_li P).length : Nat) := by rw [hn1, ir_set_r (by omega)]; exact w0
  have w2 : sh_i n2 322 (Int32.toNatClampNeg 2) = zI ((sp_li P).length : Nat) := by rw [hn2, ir_set_r (by omega)]; exact w1
  have e1 : 2 * zI ((sp_li P).length : Nat) = zI ((2 * (sp_li P).length : Nat) : Int) := by
    rw [show (2 : Int32) = zI 2 from rfl, zI_mul]
    rfl
  have f2 : sh_fr (fun r k => (r = 322 ∧ k < 3) ∨ (r = 326 ∧ k < 24)) m (sh_setI n2 322 2 (zI ((sp_li P).length : Nat) + 1)) := by
    refine sh_fr_I ?_ (Or.inl ⟨rfl, by omega⟩)
    rw [hn2]; refine sh_fr_I ?_ (Or.inr ⟨rfl, by omega⟩)
    rw [hn1]; exact sh_fr_I sh_fr.rf (Or.inr ⟨rfl, by omega⟩)
  refine ⟨sh_setI n2 322 2 (zI ((sp_li P).length : Nat) + 1), ?_, cod, Nat.le_refl _, hm.ch f2 (fun r k z => ⟨by unfold nDm; omega, by omega⟩) ?_⟩
  · show (if _ then _ else _) = _
    rw [h5, if_pos rfl, w0, e1, if_pos ((zI_in (by omega)).mpr (by omega)), tcN (by omega), ← hn1, shl_ap, w1, e1, zI_s1, if_pos ((zI_in (by omega)).mpr (by omega)), tcN (by omega), ← hn2, shl_ap, w2, shl_ap]
    rfl
  · obtain ⟨a1, a2, a3, a4, a5, a6, a7, a8⟩ := hm.2.2.1
    have er : ∀ r, ¬ r = 322 → ¬ r = 326 → sh_i (sh_setI n2 322 2 (zI ((sp_li P).length : Nat) + 1)) r = sh_i m r := fun r hr hr2 => by rw [ir_set_r hr, hn2, ir_set_r hr2, hn1, ir_set_r hr2]
    refine ⟨by rw [er 321 (by omega) (by omega)]; exact a1, ⟨?_, ?_, ?_⟩, by show (∀ j, j < sp_nt P → sh_l n2 323 j = _) ∧ (∀ j, j < sp_np P → sh_l n2 323 (8 + j) = _); rw [hn2, hn1]; exact a3, by rw [er 324 (by omega) (by omega)]; exact a4, by rw [er 325 (by omega) (by omega)]; exact a5, fun j hj => ?_, ⟨a7.1.cg (er _ (by omega) (by omega)) (er _ (by omega) (by omega)) (er _ (by omega) (by omega)), a7.2.1.cg (er _ (by omega) (by omega)) (er _ (by omega) (by omega)) (er _ (by omega) (by omega)), a7.2.2.cg (er _ (by omega) (by omega)) (er _ (by omega) (by omega)) (er _ (by omega) (by omega))⟩, by rw [er 291 (by omega) (by omega)]; exact a8⟩
    · rw [ir_set_k (by omega), hn2, ir_set_r (by omega), hn1, ir_set_r (by omega)]; exact a2.1
    · rw [ir_set_k (by omega), hn2, ir_set_r (by omega), hn1, ir_set_r (by omega)]; exact a2.2.1
    · rw [ir_set, zI_s1]
      show _ = zI (((sp_li P ++ [(p, q)]).length : Nat) : Int)
      rw [ln1]
    · have hj' : j < (sp_li P ++ [(p, q)]).length := hj
      rw [ln1] at hj'
      show _ = zI (((sp_li P ++ [(p, q)]).getD j (0, 0)).1 : Nat) ∧ _ = zI (((sp_li P ++ [(p, q)]).getD j (0, 0)).2 : Nat)
      rw [ir_set_r (by omega), hn2]
      by_cases z : j = (sp_li P).length
      · rw [z, gDe, ir_set_k (by omega), hn1, ir_set, ir_set]
        exact ⟨rfl, rfl⟩
      · rw [ir_set_k (by omega), ir_set_k (by omega), hn1, ir_set_k (by omega), ir_set_k (by omega), gDl (by omega)]
        exact a6 j (by omega)
/-- those who stand there already -/
theorem rf_pers1 {x y q : Nat} {i1 : Int32} {v : Int64} (hp : sp_np P ≤ 7) (hx : x < 7) (hin : ∀ p, p < sp_np P → sl_x L p < 7 ∧ sl_y L p < 7) (h5 : sh_i μ 291 5 = 0) (hy : y < 7) (hm : sh_i μ 322 1 = zI (sp_np P : Nat)) (h : ∀ p, p < sp_np P → sh_i μ 325 (3 * p) = zI ((sl_x L p + 7 * sl_y L p : Nat) : Int)) : ∀ (g f i : Nat), i + g = sp_np P → g < f → (∀ p, i ≤ p → p < sp_np P → ¬ (sl_x L p = x ∧ sl_y L p = y)) → ∃ f', f ≤ f' + g ∧ F_X12_personTold f 1 i1 v (zI ((x + 7 * y : Nat) : Int)) (zI i) μ = F_X12_personTold f' 1 i1 v (zI ((x + 7 * y : Nat) : Int)) (zI (sp_np P : Nat)) μ := by
  have hm' : sh_i μ 322 (Int32.toNatClampNeg 1) = zI (sp_np P : Nat) := hm
  intro g
  induction g with
  | zero =>
    intro f i hi hf _
    exact ⟨f, by omega, by rw [show i = sp_np P by omega]⟩
  | succ g ih =>
    intro f i hi hf hA
    obtain ⟨f, rfl⟩ : ∃ f', f = f' + 1 := ⟨f - 1, by omega⟩
    obtain ⟨f', q1, q2⟩ := ih f (i + 1) (by omega) (by omega) (fun p h1 h2 => hA p (by omega) h2)
    refine ⟨f', by omega, ?_⟩
    have e3 : 3 * zI (i : Int) = zI ((3 * i : Nat) : Int) := by
      rw [show (3 : Int32) = zI 3 from rfl, zI_mul]
      rfl
    have hv : sh_i μ 325 (zI ((3 * i : Nat) : Int)).toNatClampNeg = zI ((sl_x L i + 7 * sl_y L i : Nat) : Int) := by rw [tcN (by omega), h i (by omega)]
    obtain ⟨b1, b2⟩ := hin i (by omega)
    have hn := hA i (Nat.le_refl _) (by omega)
    rw [F_X12_personTold, hm', if_neg (zI_not (by omega) (by omega)), h5, if_pos rfl, e3, if_pos ((zI_in (by omega)).mpr (by omega)), hv, if_neg (fun z => hn (by have := (zI_eq (by omega) (by omega) (by omega) (by omega)).mp z; omega)), zI_s1]
    exact q2
theorem rf_persX {i1 : Int32} {v : Int64} {c : Int32} {a : Nat} (ha : a ≤ 7) (h5 : ¬ sh_i μ 291 5 = 0) (hm : sh_i μ 322 1 = zI (a : Nat)) : ∀ (g f i : Nat), i + g = a → g < f → F_X12_personTold f 1 i1 v c (zI i) μ = some μ := by
  have hm' : sh_i μ 322 (Int32.toNatClampNeg 1) = zI (a : Nat) := hm
  intro g
  induction g with
  | zero =>
    intro f i hi hf
    obtain ⟨f, rfl⟩ : ∃ f', f = f' + 1 := ⟨f - 1, by omega⟩
    rw [F_X12_personTold, hm', if_pos (zI_yes (by omega) (by omega)), ne_X h5, shv_ap, nu_X h5, shb_ap, if_neg h5]
  | succ g ih =>
    intro f i hi hf
    obtain ⟨f, rfl⟩ : ∃ f', f = f' + 1 := ⟨f - 1, by omega⟩
    rw [F_X12_personTold, hm', if_neg (zI_not (by omega) (by omega)), if_neg h5, zI_s1]
    exact ih f (i + 1) (by omega) (by omega)
theorem rf_pers2 {x y q : Nat} {i1 : Int32} {v : Int64} (hp : sp_np P ≤ 7) (hx : x < 7) (hin : ∀ p, p < sp_np P → sl_x L p < 7 ∧ sl_y L p < 7) (h5 : sh_i μ 291 5 = 0) (h10 : sh_i μ 291 10 = zI q) (hy : y < 7) (hm : sh_i μ 322 1 = zI (sp_np P : Nat)) (h : ∀ p, p < sp_np P → sh_i μ 325 (3 * p) = zI ((sl_x L p + 7 * sl_y L p : Nat) : Int)) : ∀ (g f i : Nat), i + g = sp_np P → g + 10 < f → ¬ (∀ p, i ≤ p → p < sp_np P → ¬ (sl_x L p = x ∧ sl_y L p = y)) → ∃ m, F_X12_personTold f 1 i1 v (zI ((x + 7 * y : Nat) : Int)) (zI i) μ = some m ∧ sh_fr nM μ m ∧ sh_i m 291 5 = zI 2 ∧ sh_i m 291 6 = zI q := by
  have hm' : sh_i μ 322 (Int32.toNatClampNeg 1) = zI (sp_np P : Nat) := hm
  intro g
  induction g with
  | zero =>
    intro f i hi hf hA
    exact absurd (fun p h1 h2 => by omega) hA
  | succ g ih =>
    intro f i hi hf hA
    obtain ⟨f, rfl⟩ : ∃ f', f = f' + 1 := ⟨f - 1, by omega⟩
    have e3 : 3 * zI (i : Int) = zI ((3 * i : Nat) : Int) := by
      rw [show (3 : Int32) = zI 3 from rfl, zI_mul]
      rfl
    have hv : sh_i μ 325 (zI ((3 * i : Nat) : Int)).toNatClampNeg = zI ((sl_x L i + 7 * sl_y L i : Nat) : Int) := by rw [tcN (by omega), h i (by omega)]
    obtain ⟨b1, b2⟩ := hin i (by omega)
    by_cases c : sl_x L i = x ∧ sl_y L i = y
    · obtain ⟨m, r1, r2, r3⟩ := rf_fail (T := fun _ => 0) (n := 0) (μ := μ) (k := 2) (p := q) h5
      have n5 : ¬ sh_i m 291 5 = 0 := by
        rw [r3.1]
        show ¬ zI ((2 : Nat) : Int) = 0
        decide
      refine ⟨m, ?_, r2, r3.1, r3.2⟩
      rw [F_X12_personTold, hm', if_neg (zI_not (by omega) (by omega)), h5, if_pos rfl, e3, if_pos ((zI_in (by omega)).mpr (by omega)), hv, if_pos (by rw [c.1, c.2]), h10, show f_X12_fail 2 (zI (q : Int)) μ = some m from r1, shv_ap, zI_s1]
      exact rf_persX hp n5 (by rw [r2.i 322 1 (by unfold nM; omega)]; exact hm) g f (i + 1) (by omega) (by omega)
    · obtain ⟨m, g1, g2⟩ := ih f (i + 1) (by omega) (by omega) (fun z => hA (fun p h1 h2 => by
        by_cases e : p = i
        · rw [e]; exact c
        · exact z p (by omega) h2))
      refine ⟨m, ?_, g2⟩
      rw [F_X12_personTold, hm', if_neg (zI_not (by omega) (by omega)), h5, if_pos rfl, e3, if_pos ((zI_in (by omega)).mpr (by omega)), hv, if_neg (fun z => c (by have := (zI_eq (by omega) (by omega) (by omega) (by omega)).mp z; omega)), zI_s1]
      exact g1
theorem rf_personS {x0 : Nat} (h : mD μ0 μ T n (xA T n s) P L cod stt) (hd : dOK P L) (hw : hA μ0) (h7 : ¬ 7 ≤ sp_np P) : mSst T n μ0 stt cod (f_X12_personTold (zI x0)) (st_person T n P L s) μ := by
  have hb := sp_bd hd.1
  have hrr := hd.r
  have hnp : sp_np P ≤ 7 := hb.2.2.2.1
  have hfu := sh_fuel_eq
  have fu : f_X12_isFull 1 7 (zI x0) μ = some (0, μ) := rf_full (k := 1) (room := 7) (a := sp_np P) h.2.1.2.2.1 (by omega) (by omega) (by omega) h.2.2.1.2.1.2.1 (by omega)
  have cX : ∀ m : sh_Mem, ¬ sh_i m 291 5 = 0 → f_X12_cellTold m = some (0, m) := fun m h5 => by
    unfold f_X12_cellTold
    rw [nu_X h5, shb_ap, nu_X h5, shb_ap, if_neg h5]
  have bad : ∀ (e : Nat × Nat) (v : Int64) (m : sh_Mem), mXf μ0 m e → mDr m P L cod → f_X12_newName μ = some (v, m) → st_person T n P L s = .inl e → mSst T n μ0 stt cod (f_X12_personTold (zI x0)) (st_person T n P L s) μ := fun e v m hm hD hn he => by
    refine mO_e ?_ hm he
    unfold f_X12_personTold
    rw [fu, shb_ap, if_pos rfl, hn, shb_ap, ne_X hm.ne, shv_ap, cX m hm.ne, shb_ap]
    exact rf_persX hnp hm.ne hD.2.1.2.1 (sp_np P) sh_fuel 0 (by omega) (by omega)
  rcases rf_newN h hd hw with ⟨e, v, m, q1, q2, q3, q4⟩ | ⟨w, s1, m, q1, hk, c1, c2, q2, q3⟩ | ⟨w, s1, v, m, q1, c, q2, q3, q4⟩
  · exact bad e v m q3 q4 q2 (by unfold st_person; rw [q1]; rfl)
  rotate_left
  · exact bad _ v m q3 q4 q2 (by unfold st_person; rw [q1]; exact if_neg c)
  have er1 : st_person T n P L s = (xb (x_word T n 5 s1) fun s2 => xb (x_num T n 0 (sp_c P - 1) s2) fun x => xb (x_num T n 0 (sp_r P - 1) x.2) fun y => if ∀ p, p < sp_np P → ¬ (sl_x L p = x.1 ∧ sl_y L p = y.1) then (xb (x_word T n 6 y.2) fun s5 => xb (x_num T n 0 9 s5) fun t => .inr (t.2, dp_p P w, dl_p L (sp_np P) x.1 y.1 t.1)) else .inl (2, x.2.1)) := by
    unfold st_person
    rw [q1]
    exact if_pos ⟨c1, c2⟩
  rcases q3.word (w := 5) (r := 299) (by omega) (q3.A hw 5 (by omega)) (by omega) with ⟨e, m2, u1, u2, u3, u4⟩ | ⟨s2, m2, u1, u2, u3⟩
  · refine mO_e ?_ u3 (by rw [er1, show x_word T n 5 s1 = .inl e from u1]; rfl)
    unfold f_X12_personTold
    rw [fu, shb_ap, if_pos rfl, q2, shb_ap, show f_X12_needs 299 2 m = some m2 from u2, shv_ap, cX m2 u3.ne, shb_ap]
    exact rf_persX hnp u3.ne u4.2.1.2.1 (sp_np P) sh_fuel 0 (by omega) (by omega)
  have u2' : f_X12_needs 299 2 m = some m2 := u2
  rw [show x_word T n 5 s1 = .inr s2 from u1] at er1
  rcases rf_cellT u3 hd with ⟨e, m3, v1, v2, v3, v4⟩ | ⟨x, sx, e, m3, v1, v2, v3, v4, v5⟩ | ⟨x, sx, y, sy, m3, v1, v2, hx, hy, v3, v4, v5⟩
  · refine mO_e ?_ v3 (by rw [er1]; show xb (x_num T n 0 (sp_c P - 1) s2) _ = _; rw [v1]; rfl)
    unfold f_X12_personTold
    rw [fu, shb_ap, if_pos rfl, q2, shb_ap, u2', shv_ap, v2, shb_ap]
    exact rf_persX hnp v3.ne v4.2.1.2.1 (sp_np P) sh_fuel 0 (by omega) (by omega)
  · refine mO_e ?_ v4 (by rw [er1]; show xb (x_num T n 0 (sp_c P - 1) s2) _ = _; rw [v1]; show xb (x_num T n 0 (sp_r P - 1) sx) _ = _; rw [v2]; rfl)
    unfold f_X12_personTold
    rw [fu, shb_ap, if_pos rfl, q2, shb_ap, u2', shv_ap, v3, shb_ap]
    exact rf_persX hnp v4.ne v5.2.1.2.1 (sp_np P) sh_fuel 0 (by omega) (by omega)
  have er2 : st_person T n P L s = (if ∀ p, p < sp_np P → ¬ (sl_x L p = x ∧ sl_y L p = y) then (xb (x_word T n 6 sy) fun s5 => xb (x_num T n 0 9 s5) fun t => .inr (t.2, dp_p P w, dl_p L (sp_np P) x y t.1)) else .inl (2, sx.1)) := by
    rw [er1]
    show xb (x_num T n 0 (sp_c P - 1) s2) _ = _
    rw [v1]
    show xb (x_num T n 0 (sp_r P - 1) sx) _ = _
    rw [v2]
    rfl
  have hin : ∀ p, p < sp_np P → sl_x L p < 7 ∧ sl_y L p < 7 := fun p hp => by
    have := hd.2.2.1.2.2 p hp
    omega
  have st0 : f_X12_personTold (zI x0) μ = F_X12_personTold sh_fuel 1 (zI x0) (zL (sn_m w : Nat)) (zI ((x + 7 * y : Nat) : Int)) (zI ((0 : Nat) : Int)) m3 := by
    unfold f_X12_personTold
    rw [fu, shb_ap, if_pos rfl, q2, shb_ap, u2', shv_ap, v3, shb_ap]
    rfl
  have D3 := v4.2.2.1
  have m5 := v4.2.1.2.2.1
  by_cases c : ∀ p, p < sp_np P → ¬ (sl_x L p = x ∧ sl_y L p = y)
  rotate_left
  · obtain ⟨m4, g1, g2, g3, g4⟩ := rf_pers2 (x := x) (y := y) (q := sx.1) (i1 := zI x0) (v := zL (sn_m w : Nat)) hnp (by omega) hin m5 v5 (by omega) D3.2.1.2.1 (fun p hp => (D3.2.2.2.2.1 p hp).1) (sp_np P) sh_fuel 0 (by omega) (by omega) (fun z => c (fun p hp => z p (Nat.zero_le _) hp))
    refine mO_e ?_ (⟨v4.1.trans (g2.mono (fun _ _ z => nD_M z)), g3, g4, by simp, by simp⟩ : mXf μ0 m4 (2, sx.1)) (by rw [er2]; exact if_neg c)
    rw [st0]
    exact g1
  rw [if_pos c] at er2
  obtain ⟨f', g1, g2⟩ := rf_pers1 (x := x) (y := y) (q := 0) (i1 := zI x0) (v := zL (sn_m w : Nat)) hnp (by omega) hin m5 (by omega) D3.2.1.2.1 (fun p hp => (D3.2.2.2.2.1 p hp).1) (sp_np P) sh_fuel 0 (by omega) (by omega) (fun p _ hp => c p hp)
  obtain ⟨f', rfl⟩ : ∃ f, f' = f + 1 := ⟨f' - 1, by omega⟩
  have hm' : sh_i m3 322 (Int32.toNatClampNeg 1) = zI (sp_np P : Nat) := D3.2.1.2.1
  rw [g2, F_X12_personTold, hm', if_pos (zI_yes (by omega) (by omega))] at st0
  rcases v4.word (w := 6) (r := 300) (by omega) (v4.A hw 6 (by omega)) (by omega) with ⟨e, m4, o1, o2, o3, o4⟩ | ⟨s5, m4, o1, o2, o3⟩
  · refine mO_e ?_ o3 (by rw [er2, show x_word T n 6 sy = .inl e from o1]; rfl)
    rw [st0, show f_X12_needs 300 5 m3 = some m4 from o2, shv_ap, nu_X o3.ne, shb_ap, if_neg o3.ne]
  rw [show f_X12_needs 300 5 m3 = some m4 from o2, shv_ap] at st0
  rw [show x_word T n 6 sy = .inr s5 from o1] at er2
  rcases o3.num (lo := 0) (hi := 9) (by omega) (by omega) with ⟨e, v, m5', i1, i2, i3, i4⟩ | ⟨ti, s6, m5', i1, i2, i3, i4, -⟩
  · refine mO_e ?_ i3 (by rw [er2]; show xb (x_num T n 0 9 s5) _ = _; rw [i1]; rfl)
    rw [st0, show f_X12_number 0 9 m4 = some (v, m5') from i2, shb_ap, if_neg i3.ne]
  rw [show st_person T n P L s = .inr (s6, dp_p P w, dl_p L (sp_np P) x y ti) by rw [er2]; show xb (x_num T n 0 9 s5) _ = _; rw [i1]; rfl]
  have w0 : sh_i m5' 322 (Int32.toNatClampNeg 1) = zI (sp_np P : Nat) := i4.2.2.1.2.1.2.1
  have hn7 : sp_np P < 7 := by omega
  have e3 : 3 * zI (sp_np P : Nat) = zI ((3 * sp_np P : Nat) : Int) := by
    rw [show (3 : Int32) = zI 3 from rfl, zI_mul]
    rfl
  have e8 : 8 + zI (sp_np P : Nat) = zI ((8 + sp_np P : Nat) : Int) := by
    rw [show (8 : Int32) = zI 8 from rfl, zI_add]
    rfl
  have e31 : zI ((3 * sp_np P : Nat) : Int) + 1 = zI ((3 * sp_np P + 1 : Nat) : Int) := zI_s1 _
  have e32 : zI ((3 * sp_np P : Nat) : Int) + 2 = zI ((3 * sp_np P + 2 : Nat) : Int) := by
    rw [show (2 : Int32) = zI 2 from rfl, zI_add]
    rfl
  obtain ⟨n1, hn1⟩ : ∃ m', m' = sh_setL m5' 323 (8 + sp_np P) (zL (sn_m w : Nat)) := ⟨_, rfl⟩
  obtain ⟨n2, hn2⟩ : ∃ m', m' = sh_setI n1 325 (3 * sp_np P) (zI ((x + 7 * y : Nat) : Int)) := ⟨_, rfl⟩
  obtain ⟨n3, hn3⟩ : ∃ m', m' = sh_setI n2 325 (3 * sp_np P + 1) (zI ti) := ⟨_, rfl⟩
  obtain ⟨n4, hn4⟩ : ∃ m', m' = sh_setI n3 325 (3 * sp_np P + 2) 0 := ⟨_, rfl⟩
  have w4 : sh_i n4 322 (Int32.toNatClampNeg 1) = zI (sp_np P : Nat) := by rw [hn4, ir_set_r (by omega), hn3, ir_set_r (by omega), hn2, ir_set_r (by omega), hn1]; exact w0
  have f2 : sh_fr (fun r k => (r = 322 ∧ k < 3) ∨ (r = 323 ∧ k < 16) ∨ r = 325) m5' (sh_setI n4 322 1 (zI (sp_np P : Nat) + 1)) := by
    refine sh_fr_I ?_ (Or.inl ⟨rfl, by omega⟩)
    rw [hn4]; refine sh_fr_I ?_ (Or.inr (Or.inr rfl))
    rw [hn3]; refine sh_fr_I ?_ (Or.inr (Or.inr rfl))
    rw [hn2]; refine sh_fr_I ?_ (Or.inr (Or.inr rfl))
    rw [hn1]; exact sh_fr_L sh_fr.rf (Or.inr (Or.inl ⟨rfl, by omega⟩))
  refine ⟨sh_setI n4 322 1 (zI (sp_np P : Nat) + 1), ?_, cod, Nat.le_refl _, i4.ch f2 (fun r k z => ⟨by unfold nDm; omega, by omega⟩) ?_⟩
  · rw [st0, show f_X12_number 0 9 m4 = some (zI ti, m5') from i3, shb_ap, i4.2.1.2.2.1, if_pos rfl, w0, e3, shl_ap, e8, if_pos ((zI_in (by omega)).mpr (by omega)), tcN (by omega), ← hn1, shl_ap, if_pos ((zI_in (by omega)).mpr (by omega)), tcN (by omega), ← hn2, shl_ap, e31, if_pos ((zI_in (by omega)).mpr (by omega)), tcN (by omega), ← hn3, shl_ap, e32, if_pos ((zI_in (by omega)).mpr (by omega)), tcN (by omega), ← hn4, shl_ap, w4, shl_ap]
    rfl
  · obtain ⟨a1, a2, a3, a4, a5, a6, a7, a8⟩ := i4.2.2.1
    have er : ∀ r, ¬ r = 322 → ¬ r = 325 → sh_i (sh_setI n4 322 1 (zI (sp_np P : Nat) + 1)) r = sh_i m5' r := fun r hr hr2 => by rw [ir_set_r hr, hn4, ir_set_r hr2, hn3, ir_set_r hr2, hn2, ir_set_r hr2, hn1]; rfl
    have e22 : ∀ k, ¬ k = 1 → sh_i (sh_setI n4 322 1 (zI (sp_np P : Nat) + 1)) 322 k = sh_i m5' 322 k := fun k hk => by rw [ir_set_k hk, hn4, ir_set_r (by omega), hn3, ir_set_r (by omega), hn2, ir_set_r (by omega), hn1]; rfl
    have el : ∀ k, ¬ k = 8 + sp_np P → sh_l (sh_setI n4 322 1 (zI (sp_np P : Nat) + 1)) 323 k = sh_l m5' 323 k := fun k hk => by
      show sh_l n4 323 k = _
      rw [hn4]
      show sh_l n3 323 k = _
      rw [hn3]
      show sh_l n2 323 k = _
      rw [hn2]
      show sh_l n1 323 k = _
      rw [hn1, lr_set_k hk]
    have b5 : (sp_tn P).length ≤ 5 := hb.2.2.1
    refine ⟨by rw [er 321 (by omega) (by omega)]; exact a1, ⟨?_, ?_, ?_⟩, ⟨fun j hj => by have hj' : j < (sp_tn P).length := hj; rw [el _ (by omega)]; exact a3.1 j hj, fun j hj => ?_⟩, by rw [er 324 (by omega) (by omega)]; exact a4, fun p hp => ?_, by rw [er 326 (by omega) (by omega)]; exact a6, ⟨a7.1.cg (er _ (by omega) (by omega)) (er _ (by omega) (by omega)) (er _ (by omega) (by omega)), a7.2.1.cg (er _ (by omega) (by omega)) (er _ (by omega) (by omega)) (er _ (by omega) (by omega)), a7.2.2.cg (er _ (by omega) (by omega)) (er _ (by omega) (by omega)) (er _ (by omega) (by omega))⟩, by rw [er 291 (by omega) (by omega)]; exact a8⟩
    · rw [e22 _ (by omega)]; exact a2.1
    · rw [ir_set, zI_s1]
      show _ = zI (((sp_pn P ++ [w]).length : Nat) : Int)
      rw [ln1]
    · rw [e22 _ (by omega)]; exact a2.2.2
    · have hj' : j < (sp_pn P ++ [w]).length := hj
      rw [ln1] at hj'
      show _ = zL (sn_m ((sp_pn P ++ [w]).getD j []) : Nat)
      by_cases z : j = sp_np P
      · rw [z, gDe]
        show sh_l n4 323 (8 + sp_np P) = _
        rw [hn4]
        show sh_l n3 323 (8 + sp_np P) = _
        rw [hn3]
        show sh_l n2 323 (8 + sp_np P) = _
        rw [hn2]
        show sh_l n1 323 (8 + sp_np P) = _
        rw [hn1, lr_set]
      · have z' : ¬ j = (sp_pn P).length := z
        rw [el _ (by omega), gDl (by omega)]
        exact a3.2 j (show j < (sp_pn P).length by omega)
    · have hp' : p < (sp_pn P ++ [w]).length := hp
      rw [ln1] at hp'
      show _ = zI (((if p = sp_np P then x else sl_x L p) + 7 * (if p = sp_np P then y else sl_y L p) : Nat) : Int) ∧ _ = zI ((if p = sp_np P then ti else sl_t L p : Nat) : Int) ∧ _ = zI ((if p = sp_np P then 0 else sl_k L p : Nat) : Int)
      rw [ir_set_r (by omega), hn4]
      by_cases z : p = sp_np P
      · rw [if_pos z, if_pos z, if_pos z, if_pos z, z, ir_set, ir_set_k (by omega), ir_set_k (by omega), hn3, ir_set, ir_set_k (by omega), hn2, ir_set]
        exact ⟨rfl, rfl, rfl⟩
      · have z' : ¬ p = (sp_pn P).length := z
        rw [if_neg z, if_neg z, if_neg z, if_neg z, ir_set_k (by omega), ir_set_k (by omega), ir_set_k (by omega), hn3, ir_set_k (by omega), ir_set_k (by omega), ir_set_k (by omega), hn2, ir_set_k (by omega), ir_set_k (by omega), ir_set_k (by omega), hn1]
        exact a5 p (show p < (sp_pn P).length by omega)
end Sm3
