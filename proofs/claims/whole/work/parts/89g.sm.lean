/-! THE REFERENCE reads statements -/
def nDm (r k : Nat) : Prop := nZq r k ∨ (r = 291 ∧ (k = 48 ∨ k = 49 ∨ k = 51)) ∨ (r = 321 ∧ k < 3) ∨ (r = 322 ∧ k < 3) ∨ (r = 323 ∧ k < 16) ∨ r = 324 ∨ r = 325 ∨ (r = 326 ∧ k < 24) ∨ (r = 327 ∧ k < 3) ∨ (r = 328 ∧ k < 3) ∨ (r = 329 ∧ k < 1600)
theorem nD_Z {r k : Nat} (h : nZq r k) : nDm r k := Or.inl h
theorem nD_M {r k : Nat} (h : nM r k) : nDm r k := Or.inl (Or.inl h)
theorem nD_L {r k : Nat} (h : nLk r k) : nDm r k := nD_M (nLk_M h)
/-- rule k of the reference's draft -/
def mF0 (μ : sh_Mem) (k : Nat) (told : Bool) (l : List Nat) (cod : Nat) : Prop := if told = false then sh_i μ 327 k = zI (-1) else ∃ a b : Nat, a ≤ b ∧ b ≤ cod ∧ b - a = l.length ∧ sh_i μ 327 k = zI a ∧ sh_i μ 328 k = zI b ∧ ∀ j, j < l.length → sh_i μ 329 (a + j) = zI (sg_m (l.getD j 0))
/-- the reference's draft -/
def mDr (μ : sh_Mem) (P : sp_T) (L : sl_T) (cod : Nat) : Prop := (sh_i μ 321 0 = zI (sp_c P : Nat) ∧ sh_i μ 321 1 = zI (sp_r P : Nat) ∧ sh_i μ 321 2 = zI (sp_cr P : Nat)) ∧ (sh_i μ 322 0 = zI (sp_nt P : Nat) ∧ sh_i μ 322 1 = zI (sp_np P : Nat) ∧ sh_i μ 322 2 = zI ((sp_li P).length : Nat)) ∧ ((∀ j, j < sp_nt P → sh_l μ 323 j = zL (sn_m ((sp_tn P).getD j []) : Nat)) ∧ (∀ j, j < sp_np P → sh_l μ 323 (8 + j) = zL (sn_m ((sp_pn P).getD j []) : Nat))) ∧ (∀ x y, x < sp_c P → y < sp_r P → sh_i μ 324 (x + 7 * y) = zI (sl_h L (y * sp_c P + x) : Nat)) ∧ (∀ p, p < sp_np P → sh_i μ 325 (3 * p) = zI ((sl_x L p + 7 * sl_y L p : Nat) : Int) ∧ sh_i μ 325 (3 * p + 1) = zI (sl_t L p : Nat) ∧ sh_i μ 325 (3 * p + 2) = zI (sl_k L p : Nat)) ∧ (∀ j, j < (sp_li P).length → sh_i μ 326 (2 * j) = zI (((sp_li P).getD j (0, 0)).1 : Nat) ∧ sh_i μ 326 (2 * j + 1) = zI (((sp_li P).getD j (0, 0)).2 : Nat)) ∧ (mF0 μ 0 (sp_told P).1 (sp_fl P) cod ∧ mF0 μ 1 (sp_told P).2.1 (sp_ft P) cod ∧ mF0 μ 2 (sp_told P).2.2 (sp_fh P) cod) ∧ sh_i μ 291 48 = zI (cod : Int)
section Sm
variable {T : Nat → Nat} {n : Nat} {μ0 μ μ' : sh_Mem} {s s' : xs} {P : sp_T} {L : sl_T} {cod stt : Nat}
theorem mF0.cg {k : Nat} {b : Bool} {l : List Nat} (h : mF0 μ k b l cod) (h1 : sh_i μ' 327 = sh_i μ 327) (h2 : sh_i μ' 328 = sh_i μ 328) (h3 : sh_i μ' 329 = sh_i μ 329) : mF0 μ' k b l cod := by unfold mF0 at h ⊢; rw [h1, h2, h3]; exact h
theorem mDr.cg (h : mDr μ P L cod) (h1 : ∀ r, 321 ≤ r → r ≤ 329 → sh_i μ' r = sh_i μ r) (h2 : sh_l μ' 323 = sh_l μ 323) (h3 : sh_i μ' 291 48 = sh_i μ 291 48) : mDr μ' P L cod := by
  obtain ⟨a1, a2, a3, a4, a5, a6, a7, a8⟩ := h
  refine ⟨?_, ?_, ?_, ?_, ?_, ?_, ⟨a7.1.cg (h1 _ (by omega) (by omega)) (h1 _ (by omega) (by omega)) (h1 _ (by omega) (by omega)), a7.2.1.cg (h1 _ (by omega) (by omega)) (h1 _ (by omega) (by omega)) (h1 _ (by omega) (by omega)), a7.2.2.cg (h1 _ (by omega) (by omega)) (h1 _ (by omega) (by omega)) (h1 _ (by omega) (by omega))⟩, by rw [h3]; exact a8⟩
  · rw [h1 321 (by omega) (by omega)]; exact a1
  · rw [h1 322 (by omega) (by omega)]; exact a2
  · rw [h2]; exact a3
  · rw [h1 324 (by omega) (by omega)]; exact a4
  · rw [h1 325 (by omega) (by omega)]; exact a5
  · rw [h1 326 (by omega) (by omega)]; exact a6
theorem mDr.fM (h : mDr μ P L cod) (f : sh_fr nM μ μ') : mDr μ' P L cod := h.cg (fun r h1 h2 => f.row r (fun k => by unfold nM; omega)) (f.lrow 323 (fun k => by unfold nM; omega)) (f.i 291 48 (by unfold nM; omega))
theorem mDr.fZ (h : mDr μ P L cod) (f : sh_fr nZq μ μ') : mDr μ' P L cod := h.cg (fun r h1 h2 => f.row r (fun k => by unfold nZq nM nWq; omega)) (f.lrow 323 (fun k => by unfold nZq nM nWq; omega)) (f.i 291 48 (by unfold nZq nM nWq; omega))
def mD (μ0 μ : sh_Mem) (T : Nat → Nat) (n : Nat) (s : xs) (P : sp_T) (L : sl_T) (cod stt : Nat) : Prop := sh_fr nDm μ0 μ ∧ mS μ T n s ∧ mDr μ P L cod ∧ cod ≤ s.1 ∧ sh_i μ 291 49 = zI (stt : Int)
def mXf (μ0 μ : sh_Mem) (e : Nat × Nat) : Prop := sh_fr nDm μ0 μ ∧ sh_i μ 291 5 = zI e.1 ∧ sh_i μ 291 6 = zI e.2 ∧ 1 ≤ e.1 ∧ e.1 < 10
def mOD (μ0 μ : sh_Mem) (T : Nat → Nat) (n stt cod : Nat) : xd → Prop
  | .inl e => mXf μ0 μ e
  | .inr q => ∃ cod', cod ≤ cod' ∧ mD μ0 μ T n q.1 q.2.1 q.2.2 cod' stt
def mSst (T : Nat → Nat) (n : Nat) (μ0 : sh_Mem) (stt cod : Nat) (c : sh_Mem → Option sh_Mem) (r : xd) (μ : sh_Mem) : Prop := ∃ μ', c μ = some μ' ∧ mOD μ0 μ' T n stt cod r
theorem mXf.ne {e : Nat × Nat} (h : mXf μ0 μ e) : ¬ sh_i μ 291 5 = 0 := by
  rw [h.2.1]
  intro z
  have := (zI_eq (b := 0) (by have := h.2.2.2.2; omega) (by have := h.2.2.2.2; omega) (by omega) (by omega)).mp z
  have := h.2.2.2.1
  omega
theorem nDm_a {r k : Nat} (h : 294 ≤ r) (h2 : r ≤ 320 ∨ (341 ≤ r ∧ r ≤ 363)) : ¬ nDm r k := by
  unfold nDm nZq nM nWq
  omega
theorem mD.A (h : mD μ0 μ T n s P L cod stt) (hw : hA μ0) : hA μ := fun w h1 j hj => by
  rw [h.1.i _ _ (nDm_a (by omega) (by omega))]
  exact hw w h1 j hj
theorem mD.lex (h : mD μ0 μ T n s P L cod stt) (f : sh_fr nM μ μ') (hS : mS μ' T n s') (hl : s.1 ≤ s'.1) : mD μ0 μ' T n s' P L cod stt := ⟨h.1.trans (f.mono (fun _ _ z => nD_M z)), hS, h.2.2.1.fM f, by have := h.2.2.2.1; omega, by rw [f.i 291 49 (by unfold nM; omega)]; exact h.2.2.2.2⟩
theorem mD.bad {e : Nat × Nat} (h : mD μ0 μ T n s P L cod stt) (f : sh_fr nM μ μ') (h1 : sh_i μ' 291 5 = zI e.1 ∧ sh_i μ' 291 6 = zI e.2) (he : 1 ≤ e.1 ∧ e.1 < 10) : mXf μ0 μ' e ∧ mDr μ' P L cod := ⟨⟨h.1.trans (f.mono (fun _ _ z => nD_M z)), h1.1, h1.2, he.1, he.2⟩, h.2.2.1.fM f⟩
theorem mD.num {lo hi : Nat} (h : mD μ0 μ T n s P L cod stt) (h1 : lo < 20000) (h2 : hi < 20000) : (∃ e v m, x_num T n lo hi s = .inl e ∧ f_X12_number (zI lo) (zI hi) μ = some (v, m) ∧ mXf μ0 m e ∧ mDr m P L cod) ∨ (∃ v s' m, x_num T n lo hi s = .inr (v, s') ∧ v ≤ hi ∧ f_X12_number (zI lo) (zI hi) μ = some (zI (v : Int), m) ∧ mD μ0 m T n s' P L cod stt ∧ sh_i m 291 10 = zI s.1) := by
  obtain ⟨v, m, a1, a2, a3, a4⟩ := rf_num h.2.1 h1 h2
  cases hn : x_num T n lo hi s with
  | inl e =>
    rw [hn] at a3
    obtain ⟨b1, b2⟩ := h.bad a2 a3 (x_num_e hn)
    exact Or.inl ⟨e, v, m, rfl, a1, b1, b2⟩
  | inr q =>
    have hv := x_num_v hn
    have hlt := num_lt hn
    rw [hn] at a3 a4
    refine Or.inr ⟨q.1, q.2, m, rfl, hv, ?_, h.lex a2 a3 (by omega), (a4 rfl).2⟩
    rw [a1, (a4 rfl).1]
    rfl
theorem mD.word {w r : Nat} (h : mD μ0 μ T n s P L cod stt) (hw : w < 33) (hc : hW μ r w) (hr : ¬ r = 291) : (∃ e m, x_word T n w s = .inl e ∧ f_X12_needs r (WD.getD w []).length μ = some m ∧ mXf μ0 m e ∧ mDr m P L cod) ∨ (∃ s' m, x_word T n w s = .inr s' ∧ f_X12_needs r (WD.getD w []).length μ = some m ∧ mD μ0 m T n s' P L cod stt) := by
  obtain ⟨m, a1, a2, a3⟩ := rf_word h.2.1 hw hc hr
  cases hn : x_word T n w s with
  | inl e =>
    rw [hn] at a3
    obtain ⟨b1, b2⟩ := h.bad a2 a3 (x_word_e hn)
    exact Or.inl ⟨e, m, rfl, a1, b1, b2⟩
  | inr q =>
    have hlt := word_lt hn
    rw [hn] at a3
    exact Or.inr ⟨q, m, rfl, a1, h.lex a2 a3 (by omega)⟩
theorem mD.mark {c : Int} (h : mD μ0 μ T n s P L cod stt) (hc : 0 ≤ c ∧ c < 256 ∧ ¬ (97 ≤ c ∧ c ≤ 122) ∧ ¬ (48 ≤ c ∧ c ≤ 57)) : (∃ e m, x_mark T n c s = .inl e ∧ f_X12_asksSign (zI c) μ = some m ∧ mXf μ0 m e) ∨ (∃ s' m, x_mark T n c s = .inr s' ∧ f_X12_asksSign (zI c) μ = some m ∧ mD μ0 m T n s' P L cod stt) := by
  obtain ⟨m, a1, a2, a3⟩ := rf_mark h.2.1 hc
  cases hn : x_mark T n c s with
  | inl e =>
    rw [hn] at a3
    exact Or.inl ⟨e, m, rfl, a1, (h.bad a2 a3 (x_mark_e hn)).1⟩
  | inr q =>
    obtain ⟨hK, hq⟩ := x_mark_r hn
    have hlt := xA_le (T := T) h.2.1.le.1
    rw [hn] at a3
    exact Or.inr ⟨q, m, rfl, a1, h.lex a2 a3 (by rw [hq]; omega)⟩
theorem mD.name (h : mD μ0 μ T n s P L cod stt) (hw : hA μ0) : (∃ e v m, x_name T n s = .inl e ∧ f_X12_name μ = some (v, m) ∧ mXf μ0 m e ∧ mDr m P L cod) ∨ (∃ w s' m, x_name T n s = .inr (w, s') ∧ sn_ok w ∧ f_X12_name μ = some (zL (sn_m w : Nat), m) ∧ mD μ0 m T n s' P L cod stt ∧ sh_i m 291 38 = zI s.1) := by
  obtain ⟨m, a1, a2, a3, a4⟩ := rf_name h.2.1 (h.A hw)
  cases hn : x_name T n s with
  | inl e =>
    rw [hn] at a3
    obtain ⟨b1, b2⟩ := h.bad a2 a3 (x_name_e hn)
    exact Or.inl ⟨e, _, m, rfl, a1, b1, b2⟩
  | inr q =>
    have hv := (x_name_r hn).2.2
    have hlt := name_lt hn
    rw [hn] at a1 a3 a4
    exact Or.inr ⟨q.1, q.2, m, rfl, hv, a1, h.lex a2 a3 (by omega), a4 rfl⟩
theorem sn_m_inj : ∀ l l' : List Nat, (∀ w ∈ l, 1 ≤ w ∧ w ≤ 26) → (∀ w ∈ l', 1 ≤ w ∧ w ≤ 26) → sn_m l = sn_m l' → l = l' := by
  have key : ∀ (k : Nat) (l l' : List Nat), l.length = k → (∀ w ∈ l, 1 ≤ w ∧ w ≤ 26) → (∀ w ∈ l', 1 ≤ w ∧ w ≤ 26) → sn_m l = sn_m l' → l = l' := by
    intro k
    induction k with
    | zero =>
      intro l l' hk _ h2 he
      have : l = [] := List.eq_nil_of_length_eq_zero hk
      subst this
      rcases List.eq_nil_or_concat l' with rfl | ⟨m, y, rfl⟩
      · rfl
      · rw [List.concat_eq_append] at *
        rw [sn_m_app] at he
        have := h2 y (List.mem_append.mpr (Or.inr (List.mem_singleton.mpr rfl)))
        have he' : 0 = 27 * sn_m m + y := he
        omega
    | succ k ih =>
      intro l l' hk h1 h2 he
      rcases List.eq_nil_or_concat l with rfl | ⟨m, y, rfl⟩
      · cases hk
      rw [List.concat_eq_append] at *
      rw [ln1] at hk
      rw [sn_m_app] at he
      have b1 := h1 y (List.mem_append.mpr (Or.inr (List.mem_singleton.mpr rfl)))
      rcases List.eq_nil_or_concat l' with rfl | ⟨m', y', rfl⟩
      · have he' : 27 * sn_m m + y = 0 := he
        omega
      rw [List.concat_eq_append] at *
      rw [sn_m_app] at he
      have b2 := h2 y' (List.mem_append.mpr (Or.inr (List.mem_singleton.mpr rfl)))
      have e1 : y = y' := by omega
      have e2 : sn_m m = sn_m m' := by omega
      rw [ih m m' (by omega) (fun w hw => h1 w (List.mem_append.mpr (Or.inl hw))) (fun w hw => h2 w (List.mem_append.mpr (Or.inl hw))) e2, e1]
  exact fun l l' => key l.length l l' rfl
theorem sn_m_b {l : List Nat} (h : sn_ok l) : sn_m l < 387420489 := by
  have := sn_m_40 h (Nat.le_refl l.length)
  rw [List.take_length] at this
  exact this
theorem lg_nm {l l' : List Nat} (h : sn_ok l) (h' : sn_ok l') : lg_cmp (zL (sn_m l : Nat)) (zL (sn_m l' : Nat)) = 0 ↔ l = l' := by
  have b1 := sn_m_b h
  have b2 := sn_m_b h'
  have e := lg_eq0 (a := (sn_m l : Nat)) (b := (sn_m l' : Nat)) (by omega)
  rw [show (0 : Int32) = zI 0 from rfl, e]
  constructor
  · intro z
    exact sn_m_inj l l' h.2.2 h'.2.2 (by omega)
  · intro z
    rw [z]
/-- one of a kind that is named -/
theorem rf_nmd {w : List Nat} {N : List (List Nat)} {k p : Nat} (hk : k < 2) (hw : sn_ok w) (hN : ∀ v ∈ N, sn_ok v) (hl : N.length ≤ 7) (h5 : sh_i μ 291 5 = 0) (h38 : sh_i μ 291 38 = zI p) (hm : sh_i μ 322 k = zI (N.length : Nat)) (h : ∀ j, j < N.length → sh_l μ 323 (8 * k + j) = zL (sn_m (N.getD j []) : Nat)) : ∀ (g f i : Nat), i + g = N.length → g < f → (∃ j : Nat, wIx w (N.drop i) i = (j : Int) ∧ j < N.length ∧ F_X12_named f 1 (zI k) (zL (sn_m w : Nat)) (zI i) μ = some (zI j, μ)) ∨ (wIx w (N.drop i) i = -1 ∧ ∃ m, F_X12_named f 1 (zI k) (zL (sn_m w : Nat)) (zI i) μ = some (0, m) ∧ sh_fr nM μ m ∧ sh_i m 291 5 = zI 3 ∧ sh_i m 291 6 = zI p) := by
  intro g
  induction g with
  | zero =>
    intro f i hi hf
    obtain ⟨f, rfl⟩ : ∃ f', f = f' + 1 := ⟨f - 1, by omega⟩
    obtain ⟨m, r1, r2, r3⟩ := rf_fail (T := fun _ => 0) (n := 0) (μ := μ) (k := 3) (p := p) h5
    refine Or.inr ⟨by rw [List.drop_eq_nil_of_le (by omega)]; rfl, m, ?_, r2, r3.1, r3.2⟩
    have hm' : sh_i μ 322 (zI (k : Int)).toNatClampNeg = zI (N.length : Nat) := by rw [tcN (by omega), hm]
    rw [F_X12_named, if_pos ((zI_in (by omega)).mpr (by omega)), hm', if_pos (zI_yes (by omega) (by omega)), h5, if_pos rfl, h38, show f_X12_fail 3 (zI (p : Int)) μ = some m from r1, shv_ap]
  | succ g ih =>
    intro f i hi hf
    obtain ⟨f, rfl⟩ : ∃ f', f = f' + 1 := ⟨f - 1, by omega⟩
    have hm' : sh_i μ 322 (zI (k : Int)).toNatClampNeg = zI (N.length : Nat) := by rw [tcN (by omega), hm]
    have hd : N.drop i = N.getD i [] :: N.drop (i + 1) := by
      rw [List.drop_eq_getElem_cons (show i < N.length by omega), List.getD_eq_getElem?_getD, List.getElem?_eq_getElem (show i < N.length by omega)]
      rfl
    have hv : sn_ok (N.getD i []) := by
      apply hN
      rw [List.getD_eq_getElem?_getD, List.getElem?_eq_getElem (show i < N.length by omega)]
      exact List.getElem_mem _
    have e8 : 8 * zI (k : Int) + zI (i : Int) = zI ((8 * k + i : Nat) : Int) := by
      rw [show (8 : Int32) = zI 8 from rfl, zI_mul, zI_add]
      congr 1
    have hv' : sh_l μ 323 (zI ((8 * k + i : Nat) : Int)).toNatClampNeg = zL (sn_m (N.getD i []) : Nat) := by rw [tcN (by omega), h i (by omega)]
    have st : F_X12_named (f + 1) 1 (zI k) (zL (sn_m w : Nat)) (zI i) μ = if lg_cmp (zL (sn_m (N.getD i []) : Nat)) (zL (sn_m w : Nat)) = 0 then some (zI (i : Int), μ) else F_X12_named f 1 (zI k) (zL (sn_m w : Nat)) (zI ((i + 1 : Nat) : Int)) μ := by
      rw [F_X12_named, if_pos ((zI_in (by omega)).mpr (by omega)), hm', if_neg (zI_not (by omega) (by omega)), e8, if_pos ((zI_in (by omega)).mpr (by omega)), hv', zI_s1]
    rw [hd, st]
    by_cases c : N.getD i [] = w
    · exact Or.inl ⟨i, if_pos c, by omega, by rw [if_pos ((lg_nm hv hw).mpr c)]⟩
    · rw [if_neg (fun z => c ((lg_nm hv hw).mp z)), show wIx w (N.getD i [] :: N.drop (i + 1)) i = wIx w (N.drop (i + 1)) (i + 1) from if_neg c]
      exact ih f (i + 1) (by omega) (by omega)
/-- with a fault: whichever -/
theorem rf_nmdX {k a : Nat} {v : Int64} (hk : k < 2) (ha : a ≤ 7) (h5 : ¬ sh_i μ 291 5 = 0) (hm : sh_i μ 322 k = zI (a : Nat)) : ∀ (g f i : Nat), i + g = a → g < f → ∃ u, F_X12_named f 1 (zI k) v (zI i) μ = some (u, μ) := by
  intro g
  have hm' : sh_i μ 322 (zI (k : Int)).toNatClampNeg = zI (a : Nat) := by rw [tcN (by omega), hm]
  induction g with
  | zero =>
    intro f i hi hf
    obtain ⟨f, rfl⟩ : ∃ f', f = f' + 1 := ⟨f - 1, by omega⟩
    exact ⟨0, by rw [F_X12_named, if_pos ((zI_in (by omega)).mpr (by omega)), hm', if_pos (zI_yes (by omega) (by omega)), if_neg h5]⟩
  | succ g ih =>
    intro f i hi hf
    obtain ⟨f, rfl⟩ : ∃ f', f = f' + 1 := ⟨f - 1, by omega⟩
    have e8 : 8 * zI (k : Int) + zI (i : Int) = zI ((8 * k + i : Nat) : Int) := by
      rw [show (8 : Int32) = zI 8 from rfl, zI_mul, zI_add]
      congr 1
    obtain ⟨u, hu⟩ := ih f (i + 1) (by omega) (by omega)
    by_cases c : lg_cmp (sh_l μ 323 (zI ((8 * k + i : Nat) : Int)).toNatClampNeg) v = 0
    · exact ⟨zI i, by rw [F_X12_named, if_pos ((zI_in (by omega)).mpr (by omega)), hm', if_neg (zI_not (by omega) (by omega)), e8, if_pos ((zI_in (by omega)).mpr (by omega)), if_pos c]⟩
    · exact ⟨u, by rw [F_X12_named, if_pos ((zI_in (by omega)).mpr (by omega)), hm', if_neg (zI_not (by omega) (by omega)), e8, if_pos ((zI_in (by omega)).mpr (by omega)), if_neg c, zI_s1]; exact hu⟩
theorem nm_X (h5 : ¬ sh_i μ 291 5 = 0) : f_X12_name μ = some (0, μ) := if_neg h5
theorem nu_X {a b : Int32} (h5 : ¬ sh_i μ 291 5 = 0) : f_X12_number a b μ = some (0, μ) := if_neg h5
theorem ne_X {a b : Nat} (h5 : ¬ sh_i μ 291 5 = 0) : f_X12_needs a b μ = some μ := if_neg h5
theorem as_X {a : Int32} (h5 : ¬ sh_i μ 291 5 = 0) : f_X12_asksSign a μ = some μ := if_neg h5
theorem named_X {k a : Nat} (hk : k < 2) (ha : a ≤ 7) (h5 : ¬ sh_i μ 291 5 = 0) (hm : sh_i μ 322 k = zI (a : Nat)) : ∃ u, f_X12_named (zI k) μ = some (u, μ) := by
  obtain ⟨u, hu⟩ := rf_nmdX (v := 0) hk ha h5 hm a sh_fuel 0 (by omega) (by rw [sh_fuel_eq]; omega)
  refine ⟨u, ?_⟩
  unfold f_X12_named
  rw [nm_X h5, shb_ap]
  exact hu
/-- whether a name is new -/
theorem rf_nw1 {w : List Nat} {N : List (List Nat)} {k : Nat} (hk : k < 2) (hw : sn_ok w) (hN : ∀ v ∈ N, sn_ok v) (hl : N.length ≤ 7) (h5 : sh_i μ 291 5 = 0) (hm : sh_i μ 322 k = zI (N.length : Nat)) (h : ∀ j, j < N.length → sh_l μ 323 (8 * k + j) = zL (sn_m (N.getD j []) : Nat)) : ∀ (g f i : Nat), i + g = N.length → wIx w (N.drop i) i = -1 → g < f → ∃ f', f ≤ f' + g + 1 ∧ F_X12_newName f 2 (zL (sn_m w : Nat)) (zI k) (zI i) μ = F_X12_newName f' 1 (zL (sn_m w : Nat)) (zI ((k + 1 : Nat) : Int)) 0 μ := by
  intro g
  have hm' : sh_i μ 322 (zI (k : Int)).toNatClampNeg = zI (N.length : Nat) := by rw [tcN (by omega), hm]
  induction g with
  | zero =>
    intro f i hi hx hf
    obtain ⟨f, rfl⟩ : ∃ f', f = f' + 1 := ⟨f - 1, by omega⟩
    refine ⟨f, by omega, ?_⟩
    rw [F_X12_newName, if_pos ((zI_in (by omega)).mpr (by omega)), hm', if_pos (zI_yes (by omega) (by omega)), zI_s1]
  | succ g ih =>
    intro f i hi hx hf
    obtain ⟨f, rfl⟩ : ∃ f', f = f' + 1 := ⟨f - 1, by omega⟩
    have hd : N.drop i = N.getD i [] :: N.drop (i + 1) := by
      rw [List.drop_eq_getElem_cons (show i < N.length by omega), List.getD_eq_getElem?_getD, List.getElem?_eq_getElem (show i < N.length by omega)]
      rfl
    have hv : sn_ok (N.getD i []) := by
      apply hN
      rw [List.getD_eq_getElem?_getD, List.getElem?_eq_getElem (show i < N.length by omega)]
      exact List.getElem_mem _
    have e8 : 8 * zI (k : Int) + zI (i : Int) = zI ((8 * k + i : Nat) : Int) := by
      rw [show (8 : Int32) = zI 8 from rfl, zI_mul, zI_add]
      congr 1
    have hv' : sh_l μ 323 (zI ((8 * k + i : Nat) : Int)).toNatClampNeg = zL (sn_m (N.getD i []) : Nat) := by rw [tcN (by omega), h i (by omega)]
    rw [hd] at hx
    have c : ¬ N.getD i [] = w := fun z => by
      rw [show wIx w (N.getD i [] :: N.drop (i + 1)) i = (i : Int) from if_pos z] at hx
      omega
    rw [show wIx w (N.getD i [] :: N.drop (i + 1)) i = wIx w (N.drop (i + 1)) (i + 1) from if_neg c] at hx
    obtain ⟨f', q1, q2⟩ := ih f (i + 1) (by omega) hx (by omega)
    refine ⟨f', by omega, ?_⟩
    rw [F_X12_newName, if_pos ((zI_in (by omega)).mpr (by omega)), hm', if_neg (zI_not (by omega) (by omega)), h5, if_pos rfl, e8, if_pos ((zI_in (by omega)).mpr (by omega)), hv', if_neg (fun z => c ((lg_nm hv hw).mp z)), zI_s1]
    exact q2
/-- with a fault -/
theorem rf_nwX {a b : Nat} {v : Int64} (ha : a ≤ 7) (hb : b ≤ 7) (h5 : ¬ sh_i μ 291 5 = 0) (hma : sh_i μ 322 0 = zI (a : Nat)) (hmb : sh_i μ 322 1 = zI (b : Nat)) : ∀ (k : Nat), k < 2 → ∀ (g f i : Nat), i + g = (if k = 0 then a else b) → 20 + g < f + 10 * k → F_X12_newName f 2 v (zI k) (zI i) μ = some (v, μ) := by
  have fin : ∀ f, 0 < f → F_X12_newName f 1 v (zI ((1 + 1 : Nat) : Int)) 0 μ = some (v, μ) := fun f hf => by
    obtain ⟨f, rfl⟩ : ∃ f', f = f' + 1 := ⟨f - 1, by omega⟩
    rw [F_X12_newName, if_pos (show (2 : Int32) ≤ zI ((1 + 1 : Nat) : Int) by decide)]
  have one : ∀ (g f i : Nat), i + g = b → 20 + g < f + 10 → F_X12_newName f 2 v (zI ((1 : Nat) : Int)) (zI i) μ = some (v, μ) := by
    intro g
    induction g with
    | zero =>
      intro f i hi hf
      obtain ⟨f, rfl⟩ : ∃ f', f = f' + 1 := ⟨f - 1, by omega⟩
      rw [F_X12_newName, if_pos ((zI_in (by omega)).mpr (by omega)), show sh_i μ 322 (zI ((1 : Nat) : Int)).toNatClampNeg = zI (b : Nat) from hmb, if_pos (zI_yes (by omega) (by omega)), zI_s1]
      exact fin f (by omega)
    | succ g ih =>
      intro f i hi hf
      obtain ⟨f, rfl⟩ : ∃ f', f = f' + 1 := ⟨f - 1, by omega⟩
      rw [F_X12_newName, if_pos ((zI_in (by omega)).mpr (by omega)), show sh_i μ 322 (zI ((1 : Nat) : Int)).toNatClampNeg = zI (b : Nat) from hmb, if_neg (zI_not (by omega) (by omega)), if_neg h5, zI_s1]
      exact ih f (i + 1) (by omega) (by omega)
  have zero : ∀ (g f i : Nat), i + g = a → 20 + g < f → F_X12_newName f 2 v (zI ((0 : Nat) : Int)) (zI i) μ = some (v, μ) := by
    intro g
    induction g with
    | zero =>
      intro f i hi hf
      obtain ⟨f, rfl⟩ : ∃ f', f = f' + 1 + 1 := ⟨f - 2, by omega⟩
      rw [F_X12_newName, if_pos ((zI_in (by omega)).mpr (by omega)), show sh_i μ 322 (zI ((0 : Nat) : Int)).toNatClampNeg = zI (a : Nat) from hma, if_pos (zI_yes (by omega) (by omega)), zI_s1, F_X12_newName, if_neg (show ¬ (2 : Int32) ≤ zI ((0 + 1 : Nat) : Int) by decide)]
      exact one b f 0 (by omega) (by omega)
    | succ g ih =>
      intro f i hi hf
      obtain ⟨f, rfl⟩ : ∃ f', f = f' + 1 := ⟨f - 1, by omega⟩
      rw [F_X12_newName, if_pos ((zI_in (by omega)).mpr (by omega)), show sh_i μ 322 (zI ((0 : Nat) : Int)).toNatClampNeg = zI (a : Nat) from hma, if_neg (zI_not (by omega) (by omega)), if_neg h5, zI_s1]
      exact ih f (i + 1) (by omega) (by omega)
  intro k hk g f i hi hf
  match k, hk with
  | 0, _ => exact zero g f i hi (by omega)
  | 1, _ => exact one g f i hi (by omega)
/-- a name that stands already -/
theorem rf_nw2 {w : List Nat} {N : List (List Nat)} {k p a b : Nat} (hk : k < 2) (hw : sn_ok w) (hN : ∀ v ∈ N, sn_ok v) (hl : N.length ≤ 7) (ha : a ≤ 7) (hb : b ≤ 7) (hma : sh_i μ 322 0 = zI (a : Nat)) (hmb : sh_i μ 322 1 = zI (b : Nat)) (hab : N.length = if k = 0 then a else b) (h5 : sh_i μ 291 5 = 0) (h38 : sh_i μ 291 38 = zI p) (hm : sh_i μ 322 k = zI (N.length : Nat)) (h : ∀ j, j < N.length → sh_l μ 323 (8 * k + j) = zL (sn_m (N.getD j []) : Nat)) : ∀ (g f i : Nat), i + g = N.length → ¬ wIx w (N.drop i) i = -1 → 50 + g < f → ∃ m, F_X12_newName f 2 (zL (sn_m w : Nat)) (zI k) (zI i) μ = some (zL (sn_m w : Nat), m) ∧ sh_fr nM μ m ∧ sh_i m 291 5 = zI 3 ∧ sh_i m 291 6 = zI p := by
  intro g
  have hm' : sh_i μ 322 (zI (k : Int)).toNatClampNeg = zI (N.length : Nat) := by rw [tcN (by omega), hm]
  induction g with
  | zero =>
    intro f i hi hx hf
    rw [List.drop_eq_nil_of_le (by omega)] at hx
    exact absurd rfl hx
  | succ g ih =>
    intro f i hi hx hf
    obtain ⟨f, rfl⟩ : ∃ f', f = f' + 1 := ⟨f - 1, by omega⟩
    have hd : N.drop i = N.getD i [] :: N.drop (i + 1) := by
      rw [List.drop_eq_getElem_cons (show i < N.length by omega), List.getD_eq_getElem?_getD, List.getElem?_eq_getElem (show i < N.length by omega)]
      rfl
    have hv : sn_ok (N.getD i []) := by
      apply hN
      rw [List.getD_eq_getElem?_getD, List.getElem?_eq_getElem (show i < N.length by omega)]
      exact List.getElem_mem _
    have e8 : 8 * zI (k : Int) + zI (i : Int) = zI ((8 * k + i : Nat) : Int) := by
      rw [show (8 : Int32) = zI 8 from rfl, zI_mul, zI_add]
      congr 1
    have hv' : sh_l μ 323 (zI ((8 * k + i : Nat) : Int)).toNatClampNeg = zL (sn_m (N.getD i []) : Nat) := by rw [tcN (by omega), h i (by omega)]
    have st : F_X12_newName (f + 1) 2 (zL (sn_m w : Nat)) (zI k) (zI i) μ = if lg_cmp (zL (sn_m (N.getD i []) : Nat)) (zL (sn_m w : Nat)) = 0 then sh_bindv (f_X12_fail 3 (zI (p : Int)) μ) (fun μ28 => F_X12_newName f 2 (zL (sn_m w : Nat)) (zI k) (zI ((i + 1 : Nat) : Int)) μ28) else F_X12_newName f 2 (zL (sn_m w : Nat)) (zI k) (zI ((i + 1 : Nat) : Int)) μ := by
      rw [F_X12_newName, if_pos ((zI_in (by omega)).mpr (by omega)), hm', if_neg (zI_not (by omega) (by omega)), h5, if_pos rfl, e8, if_pos ((zI_in (by omega)).mpr (by omega)), hv', h38, zI_s1]
    rw [st]
    by_cases c : N.getD i [] = w
    · obtain ⟨m, r1, r2, r3⟩ := rf_fail (T := fun _ => 0) (n := 0) (μ := μ) (k := 3) (p := p) h5
      have n5 : ¬ sh_i m 291 5 = 0 := by
        rw [r3.1]
        show ¬ zI ((3 : Nat) : Int) = 0
        decide
      refine ⟨m, ?_, r2, r3.1, r3.2⟩
      rw [if_pos ((lg_nm hv hw).mpr c), show f_X12_fail 3 (zI (p : Int)) μ = some m from r1, shv_ap]
      exact rf_nwX ha hb n5 (by rw [r2.i 322 0 (by unfold nM; omega)]; exact hma) (by rw [r2.i 322 1 (by unfold nM; omega)]; exact hmb) k hk g f (i + 1) (by rw [← hab]; omega) (by omega)
    · rw [if_neg (fun z => c ((lg_nm hv hw).mp z))]
      rw [hd, show wIx w (N.getD i [] :: N.drop (i + 1)) i = wIx w (N.drop (i + 1)) (i + 1) from if_neg c] at hx
      exact ih f (i + 1) (by omega) hx (by omega)
end Sm
