/-! THE CLASS reads statements -/
def nCt (t r k : Nat) : Prop := (r = 2 ∧ 1 ≤ k) ∨ (t ≤ r ∧ r < t + 20 ∧ ¬ r = t + 14) ∨ (r = 6 ∧ k = 2)
def cFr (t : Nat) (μ μ' : sh_Mem) : Prop := (∀ r k, ¬ nCt t r k → sh_i μ' r k = sh_i μ r k ∧ sh_l μ' r k = sh_l μ r k) ∧ ∀ r k, ¬ (r = 6 ∧ k = 1) → sh_r μ' r k = sh_r μ r k
theorem cFr.rf {t : Nat} {μ : sh_Mem} : cFr t μ μ := ⟨fun _ _ _ => ⟨rfl, rfl⟩, fun _ _ _ => rfl⟩
theorem cFr.trans {t : Nat} {a b c : sh_Mem} (h : cFr t a b) (g : cFr t b c) : cFr t a c := ⟨fun r k z => ⟨(g.1 r k z).1.trans (h.1 r k z).1, (g.1 r k z).2.trans (h.1 r k z).2⟩, fun r k z => (g.2 r k z).trans (h.2 r k z)⟩
theorem cFr.of {t : Nat} {N : Nat → Nat → Prop} {μ μ' : sh_Mem} (h : sh_fr N μ μ') (hN : ∀ r k, N r k → nCt t r k) : cFr t μ μ' := ⟨fun r k z => h.2 r k (fun q => z (hN r k q)), fun r k _ => by rw [h.1]⟩
theorem nV_C {t r k : Nat} (h : nV r k) : nCt t r k := Or.inl ⟨h.1, by have := h.2; omega⟩
/-- the class's draft, at t -/
def cDr (μ : sh_Mem) (t : Nat) (P : sp_T) (L : sl_T) : Prop := sm_cP μ t P ∧ sm_cL μ (t + 14) P L ∧ sh_i μ t 13 = zI (bI (sp_told P).1) ∧ sh_i μ t 14 = zI (bI (sp_told P).2.1) ∧ sh_i μ t 15 = zI (bI (sp_told P).2.2)
theorem cDr.cg {μ μ' : sh_Mem} {t : Nat} {P : sp_T} {L : sl_T} (h : cDr μ t P L) (e : ∀ j, j < 20 → sh_i μ' (t + j) = sh_i μ (t + j)) : cDr μ' t P L := by
  obtain ⟨h1, h2, h3, h4, h5⟩ := h
  have e0 : sh_i μ' t = sh_i μ t := e 0 (by omega)
  exact ⟨h1.cg (fun j hj _ _ => e j (by omega)), h2.cg (fun j hj => by rw [show t + 14 + j = t + (14 + j) by omega]; exact e _ (by omega)), by rw [e0]; exact h3, by rw [e0]; exact h4, by rw [e0]; exact h5⟩
def fO (μ : sh_Mem) : Prop := ∃ f, sh_isF f ∧ sh_r μ 6 1 = some f
def cD (μ : sh_Mem) (T : Nat → Nat) (n t : Nat) (s : xs) (P : sp_T) (L : sl_T) : Prop := cS μ T n s ∧ cDr μ t P L ∧ sh_r μ 7 2 = some t ∧ sh_isP t ∧ fO μ
def cOD (μ : sh_Mem) (T : Nat → Nat) (n t : Nat) : xd → Prop
  | .inl e => sh_i μ 2 10 = zI e.1 ∧ sh_i μ 2 11 = zI e.2 ∧ fO μ
  | .inr q => cD μ T n t q.1 q.2.1 q.2.2
def cSst (T : Nat → Nat) (n t : Nat) (c : sh_Mem → Option (Int32 × sh_Mem)) (r : xd) (μ : sh_Mem) : Prop := ∃ μ', c μ = some (zI (bI r.isRight), μ') ∧ cFr t μ μ' ∧ cOD μ' T n t r
section Sc
variable {T : Nat → Nat} {n t : Nat} {μ μ' : sh_Mem} {s s' : xs} {P : sp_T} {L : sl_T}
theorem isP_b (h : sh_isP t) : 8 ≤ t ∧ t ≤ 29 := by
  unfold sh_isP at h
  omega
theorem fO.cg (h : fO μ) (e : sh_r μ' 6 1 = sh_r μ 6 1) : fO μ' := by
  obtain ⟨f, h1, h2⟩ := h
  exact ⟨f, h1, by rw [e]; exact h2⟩
theorem cD.lex (h : cD μ T n t s P L) (f : sh_fr nV μ μ') (hS : cS μ' T n s') : cD μ' T n t s' P L := by
  obtain ⟨h1, h2, h3, h4, h5⟩ := h
  have hb := isP_b h4
  exact ⟨hS, h2.cg (fun j hj => f.row _ (fun k => by unfold nV; omega)), by rw [f.1]; exact h3, h4, h5.cg (by rw [f.1])⟩
theorem dck (h : sh_r μ 7 2 = some t) (ht : sh_isP t) : sh_ref μ 7 2 = t ∧ (sh_r μ 7 2 = some t ∧ (t = 8 ∨ t = 29)) := ⟨by unfold sh_ref; rw [h]; rfl, h, ht⟩
theorem cDf {e : Nat × Nat} (h : cD μ T n t s P L) (f : sh_fr nV μ μ') (h1 : sh_i μ' 2 10 = zI e.1 ∧ sh_i μ' 2 11 = zI e.2) : cFr t μ μ' ∧ cOD μ' T n t (.inl e) := ⟨cFr.of f (fun _ _ z => nV_C z), h1.1, h1.2, h.2.2.2.2.cg (by rw [f.1])⟩
/-- a number taken, or a fault -/
theorem cD.num {lo hi : Nat} (h : cD μ T n t s P L) (h1 : lo < 20000) (h2 : hi < 20000) : (∃ e μ', x_num T n lo hi s = .inl e ∧ f_X8_takeNumber (zI lo) (zI hi) μ = some (-1, μ') ∧ cFr t μ μ' ∧ cOD μ' T n t (.inl e)) ∨ (∃ v s' μ', x_num T n lo hi s = .inr (v, s') ∧ v ≤ hi ∧ f_X8_takeNumber (zI lo) (zI hi) μ = some (zI (v : Int), μ') ∧ ¬ zI (v : Int) = -1 ∧ cFr t μ μ' ∧ cD μ' T n t s' P L ∧ sh_i μ' 2 9 = zI s.1) := by
  obtain ⟨m, a1, a2, a3, a4⟩ := cl_num h.1 h1 h2
  cases hn : x_num T n lo hi s with
  | inl e =>
    rw [hn] at a1 a3
    exact Or.inl ⟨e, m, rfl, a1, cDf h a2 a3⟩
  | inr q =>
    have hv := x_num_v hn
    rw [hn] at a1 a3 a4
    exact Or.inr ⟨q.1, q.2, m, rfl, hv, a1, ofN (by omega), cFr.of a2 (fun _ _ z => nV_C z), h.lex a2 a3, a4 rfl⟩
theorem cD.word {w : Nat} (h : cD μ T n t s P L) (hw : w < 100) : (∃ e μ', x_word T n w s = .inl e ∧ f_X8_takesWord (zI w) μ = some (0, μ') ∧ cFr t μ μ' ∧ cOD μ' T n t (.inl e)) ∨ (∃ s' μ', x_word T n w s = .inr s' ∧ f_X8_takesWord (zI w) μ = some (1, μ') ∧ cFr t μ μ' ∧ cD μ' T n t s' P L) := by
  obtain ⟨m, a1, a2, a3⟩ := cl_word h.1 hw
  cases hn : x_word T n w s with
  | inl e =>
    rw [hn] at a1 a3
    exact Or.inl ⟨e, m, rfl, a1, cDf h a2 a3⟩
  | inr q =>
    rw [hn] at a1 a3
    exact Or.inr ⟨q, m, rfl, a1, cFr.of a2 (fun _ _ z => nV_C z), h.lex a2 a3⟩
theorem cD.mark {c : Int} (h : cD μ T n t s P L) (hc : -10 ≤ c ∧ c < 256) : (∃ e μ', x_mark T n c s = .inl e ∧ f_X8_takesMark (zI c) μ = some (0, μ') ∧ cFr t μ μ' ∧ cOD μ' T n t (.inl e)) ∨ (∃ s' μ', x_mark T n c s = .inr s' ∧ f_X8_takesMark (zI c) μ = some (1, μ') ∧ cFr t μ μ' ∧ cD μ' T n t s' P L) := by
  obtain ⟨m, a1, a2, a3⟩ := cl_mark h.1 hc
  cases hn : x_mark T n c s with
  | inl e =>
    rw [hn] at a1 a3
    exact Or.inl ⟨e, m, rfl, a1, cDf h a2 a3⟩
  | inr q =>
    rw [hn] at a1 a3
    exact Or.inr ⟨q, m, rfl, a1, cFr.of a2 (fun _ _ z => nV_C z), h.lex a2 a3⟩
theorem sn_c_b {l : List Nat} (h : sn_ok l) : sn_c l < 1073741824 := by
  have key : ∀ l : List Nat, (∀ w ∈ l, 1 ≤ w ∧ w ≤ 26) → sn_c l < 32 ^ l.length := by
    intro l
    induction l with
    | nil => intro _; decide
    | cons w l ih =>
      intro hl
      have h1 := ih (fun v hv => hl v (List.mem_cons_of_mem _ hv))
      have h2 := hl w List.mem_cons_self
      show w + 32 * sn_c l < 32 ^ (l.length + 1)
      rw [Nat.pow_succ]
      omega
  have h1 := key l h.2.2
  have h2 : 32 ^ l.length ≤ 32 ^ 6 := Nat.pow_le_pow_right (by omega) h.2.1
  have h3 : 32 ^ 6 = 1073741824 := by decide
  omega
theorem cD.name (h : cD μ T n t s P L) : (∃ e μ', x_name T n s = .inl e ∧ f_X8_takeName μ = some (-1, μ') ∧ cFr t μ μ' ∧ cOD μ' T n t (.inl e)) ∨ (∃ w s' μ', x_name T n s = .inr (w, s') ∧ sn_ok w ∧ f_X8_takeName μ = some (zI (sn_c w : Nat), μ') ∧ ¬ zI (sn_c w : Nat) = -1 ∧ cFr t μ μ' ∧ cD μ' T n t s' P L ∧ sh_i μ' 2 9 = zI s.1) := by
  obtain ⟨m, a1, a2, a3, a4⟩ := cl_name h.1
  cases hn : x_name T n s with
  | inl e =>
    rw [hn] at a1 a3
    exact Or.inl ⟨e, m, rfl, a1, cDf h a2 a3⟩
  | inr q =>
    obtain ⟨-, -, hv⟩ := x_name_r hn
    have hb := sn_c_b hv
    rw [hn] at a1 a3 a4
    exact Or.inr ⟨q.1, q.2, m, rfl, hv, a1, fun z => by have := (zI_eq (b := -1) (by omega) (by omega) (by omega) (by omega)).mp z; omega, cFr.of a2 (fun _ _ z => nV_C z), h.lex a2 a3, a4 rfl⟩
theorem cD.adv (h : cD μ T n t s P L) : ∃ m, f_X8_advance μ = some m ∧ cFr t μ m ∧ cD m T n t (xA T n s) P L := by
  obtain ⟨m, a1, a2, a3, -⟩ := cl_adv h.1
  exact ⟨m, a1, cFr.of a2 (fun _ _ z => nV_C z), h.lex a2 a3⟩
theorem cD.fails {k p : Nat} (h : cD μ T n t s P L) : ∃ m, f_X8_fails (zI k) (zI p) μ = some (0, m) ∧ cFr t μ m ∧ cOD m T n t (.inl (k, p)) := by
  obtain ⟨m, a1, a2, a3⟩ := cl_fails (T := T) (n := n) (k := k) (p := p) h.1.2.2.2
  exact ⟨m, a1, cDf h a2 a3⟩
/-- the place of a name -/
theorem cl_plOf {w : List Nat} {r : Nat} {N : List (List Nat)} {m : Nat} (hw : sn_ok w) (hN : ∀ v ∈ N, sn_ok v) (hm : N.length ≤ m) (hm2 : m < 100) (h : ∀ j, j < N.length → sh_i μ r j = zI (sn_c (N.getD j []) : Nat)) : ∀ (g f i : Nat), i + g = N.length → g < f → F_X5_placeOf f 1 m (zI (sn_c w : Nat)) r (zI N.length) (zI i) μ = some (zI (wIx w (N.drop i) i), μ) := by
  have hwb := sn_c_b hw
  intro g
  induction g with
  | zero =>
    intro f i hi hf
    obtain ⟨f, rfl⟩ : ∃ f', f = f' + 1 := ⟨f - 1, by omega⟩
    rw [F_X5_placeOf, if_pos (zI_yes (by omega) (by omega)), List.drop_eq_nil_of_le (by omega)]
    rfl
  | succ g ih =>
    intro f i hi hf
    obtain ⟨f, rfl⟩ : ∃ f', f = f' + 1 := ⟨f - 1, by omega⟩
    have hd : N.drop i = N.getD i [] :: N.drop (i + 1) := by
      rw [List.drop_eq_getElem_cons (show i < N.length by omega), List.getD_eq_getElem?_getD, List.getElem?_eq_getElem (show i < N.length by omega)]
      rfl
    have hv : sn_ok (N.getD i []) := by
      apply hN
      rw [List.getD_eq_getElem?_getD, List.getElem?_eq_getElem (show i < N.length by omega)]
      exact List.getElem_mem _
    have hvb := sn_c_b hv
    rw [F_X5_placeOf, if_neg (zI_not (by omega) (by omega)), ofN_z, if_neg (zI_not (by omega) (by omega)), if_pos ((zI_in (by omega)).mpr (by omega)), tcN (by omega), h i (by omega), hd]
    by_cases c : N.getD i [] = w
    · rw [if_pos (by rw [c]), show wIx w (N.getD i [] :: N.drop (i + 1)) i = (i : Int) from if_pos c]
    · rw [if_neg (fun z => c (sn_c_inj _ _ hv.2.2 hw.2.2 (by have := (zI_eq (by omega) (by omega) (by omega) (by omega)).mp z; omega))), zI_s1, ih f (i + 1) (by omega) (by omega), show wIx w (N.getD i [] :: N.drop (i + 1)) i = wIx w (N.drop (i + 1)) (i + 1) from if_neg c]
theorem cl_topicOf {w : List Nat} (hw : sn_ok w) (hk : sp_ok P) (h : sm_cP μ t P) : f_X5_topicOf t (zI (sn_c w : Nat)) μ = some (zI (wIx w (sp_tn P) 0), μ) := by
  have hb := sp_bd hk
  have := cl_plOf (μ := μ) (r := t + 1) (m := 5) hw hk.2.2.2.2.2.2.1 hb.2.2.1 (by omega) (fun j hj => by rw [h.2.2.2.2.2.2.1 j hj, nI_z]) (sp_tn P).length sh_fuel 0 (by omega) (by rw [sh_fuel_eq]; have : (sp_tn P).length ≤ 5 := hb.2.2.1; omega)
  rw [List.drop_zero] at this
  unfold f_X5_topicOf f_X5_placeOf
  rw [h.2.2.1, nI_z]
  rw [show F_X5_placeOf sh_fuel 1 5 (zI (sn_c w : Nat)) (t + 1) (zI (sp_nt P)) 0 μ = some (zI (wIx w (sp_tn P) 0), μ) from this, shb_ap]
theorem cl_personOf {w : List Nat} (hw : sn_ok w) (hk : sp_ok P) (h : sm_cP μ t P) : f_X5_personOf t (zI (sn_c w : Nat)) μ = some (zI (wIx w (sp_pn P) 0), μ) := by
  have hb := sp_bd hk
  have := cl_plOf (μ := μ) (r := t + 2) (m := 7) hw hk.2.2.2.2.2.2.2.1 hb.2.2.2.1 (by omega) (fun j hj => by rw [h.2.2.2.2.2.2.2.1 j hj, nI_z]) (sp_pn P).length sh_fuel 0 (by omega) (by rw [sh_fuel_eq]; have : (sp_pn P).length ≤ 7 := hb.2.2.2.1; omega)
  rw [List.drop_zero] at this
  unfold f_X5_personOf f_X5_placeOf
  rw [h.2.2.2.1, nI_z]
  rw [show F_X5_placeOf sh_fuel 1 7 (zI (sn_c w : Nat)) (t + 2) (zI (sp_np P)) 0 μ = some (zI (wIx w (sp_pn P) 0), μ) from this, shb_ap]
/-- no name at all -/
theorem cl_plOfN {r : Nat} {N : List (List Nat)} {m : Nat} (hN : ∀ v ∈ N, sn_ok v) (hm : N.length ≤ m) (hm2 : m < 100) (h : ∀ j, j < N.length → sh_i μ r j = zI (sn_c (N.getD j []) : Nat)) : ∀ (g f i : Nat), i + g = N.length → g < f → F_X5_placeOf f 1 m (-1) r (zI N.length) (zI i) μ = some (-1, μ) := by
  intro g
  induction g with
  | zero =>
    intro f i hi hf
    obtain ⟨f, rfl⟩ : ∃ f', f = f' + 1 := ⟨f - 1, by omega⟩
    rw [F_X5_placeOf, if_pos (zI_yes (by omega) (by omega))]
  | succ g ih =>
    intro f i hi hf
    obtain ⟨f, rfl⟩ : ∃ f', f = f' + 1 := ⟨f - 1, by omega⟩
    have hv : sn_ok (N.getD i []) := by
      apply hN
      rw [List.getD_eq_getElem?_getD, List.getElem?_eq_getElem (show i < N.length by omega)]
      exact List.getElem_mem _
    have hvb := sn_c_b hv
    rw [F_X5_placeOf, if_neg (zI_not (by omega) (by omega)), ofN_z, if_neg (zI_not (by omega) (by omega)), if_pos ((zI_in (by omega)).mpr (by omega)), tcN (by omega), h i (by omega), if_neg (fun z => by have := (zI_eq (b := -1) (by omega) (by omega) (by omega) (by omega)).mp z; omega), zI_s1]
    exact ih f (i + 1) (by omega) (by omega)
theorem cl_topicOfN (hk : sp_ok P) (h : sm_cP μ t P) : f_X5_topicOf t (-1) μ = some (-1, μ) := by
  have hb := sp_bd hk
  have := cl_plOfN (μ := μ) (r := t + 1) (m := 5) hk.2.2.2.2.2.2.1 hb.2.2.1 (by omega) (fun j hj => by rw [h.2.2.2.2.2.2.1 j hj, nI_z]) (sp_tn P).length sh_fuel 0 (by omega) (by rw [sh_fuel_eq]; have : (sp_tn P).length ≤ 5 := hb.2.2.1; omega)
  unfold f_X5_topicOf f_X5_placeOf
  rw [h.2.2.1, nI_z]
  rw [show F_X5_placeOf sh_fuel 1 5 (-1) (t + 1) (zI (sp_nt P)) 0 μ = some (-1, μ) from this, shb_ap]
theorem cl_personOfN (hk : sp_ok P) (h : sm_cP μ t P) : f_X5_personOf t (-1) μ = some (-1, μ) := by
  have hb := sp_bd hk
  have := cl_plOfN (μ := μ) (r := t + 2) (m := 7) hk.2.2.2.2.2.2.2.1 hb.2.2.2.1 (by omega) (fun j hj => by rw [h.2.2.2.2.2.2.2.1 j hj, nI_z]) (sp_pn P).length sh_fuel 0 (by omega) (by rw [sh_fuel_eq]; have : (sp_pn P).length ≤ 7 := hb.2.2.2.1; omega)
  unfold f_X5_personOf f_X5_placeOf
  rw [h.2.2.2.1, nI_z]
  rw [show F_X5_placeOf sh_fuel 1 7 (-1) (t + 2) (zI (sp_np P)) 0 μ = some (-1, μ) from this, shb_ap]
theorem wIx_n1 {w : List Nat} {N : List (List Nat)} (hl : N.length < 100) (h : ¬ wIx w N 0 = -1) : ∃ k : Nat, wIx w N 0 = (k : Int) ∧ k < N.length ∧ ¬ zI (wIx w N 0) = -1 := by
  obtain ⟨k, h1, h2⟩ := wIx_l w N 0 h
  rw [Nat.zero_add] at h1
  exact ⟨k, h1, h2, by rw [h1]; exact ofN (by omega)⟩
end Sc
