/-! the class reads sums and tests -/
/-- the formula at hand -/
def cY (μ : sh_Mem) (F kd : Nat) : Prop := sh_r μ 6 1 = some F ∧ F ∈ sh_FORMS ∧ sh_i μ 6 2 = zI kd
def nFm (F r k : Nat) : Prop := nV r k ∨ (r = F ∧ k = 1) ∨ r = F + 1
theorem FORMS_b {F : Nat} (h : F ∈ sh_FORMS) : 3 ≤ F ∧ F ≤ 40 ∧ ¬ F = 6 ∧ ¬ F + 1 = 6 ∧ ¬ F = 7 ∧ ¬ F + 1 = 7 := by
  have : ∀ F ∈ sh_FORMS, 3 ≤ F ∧ F ≤ 40 ∧ ¬ F = 6 ∧ ¬ F + 1 = 6 ∧ ¬ F = 7 ∧ ¬ F + 1 = 7 := by decide
  exact this F h
theorem cY.fr {μ μ' : sh_Mem} {F kd : Nat} (h : cY μ F kd) (hf : sh_fr (nFm F) μ μ') : cY μ' F kd := by
  have hb := FORMS_b h.2.1
  exact ⟨by rw [hf.1]; exact h.1, h.2.1, by rw [hf.i _ _ (by unfold nFm nV; omega)]; exact h.2.2⟩
theorem cY.ck {μ : sh_Mem} {F kd : Nat} (h : cY μ F kd) : sh_r μ 6 1 = some (sh_ref μ 6 1) ∧ sh_ref μ 6 1 ∈ sh_FORMS := by
  rw [shr_ap h.1]
  exact ⟨h.1, h.2.1⟩
section Gc
variable {T : Nat → Nat} {n kd F : Nat}
def cQ (μ : sh_Mem) (T : Nat → Nat) (n F : Nat) (l : List Nat) : xp → Prop
  | .inl e => sh_i μ 2 10 = zI e.1 ∧ sh_i μ 2 11 = zI e.2 ∧ ∃ m : Nat, m ≤ 1600 ∧ sh_i μ F 1 = zI m
  | .inr q => cS μ T n q.1 ∧ sm_form μ F (l ++ q.2)
theorem cl_add0 {μ : sh_Mem} {x : Int32} {m : Nat} (hF : F ∈ sh_FORMS) (hm : m ≤ 1600) (h : sh_i μ F 1 = zI m) : ∃ μ', f_X1_add F x μ = some μ' ∧ sh_fr (fun r k => (r = F ∧ k = 1) ∨ r = F + 1) μ μ' ∧ (∃ m' : Nat, m' ≤ 1600 ∧ sh_i μ' F 1 = zI m') ∧ (m < 1600 → sh_i μ' F 1 = zI ((m + 1 : Nat) : Int) ∧ sh_i μ' (F + 1) m = x ∧ ∀ j, ¬ j = m → sh_i μ' (F + 1) j = sh_i μ (F + 1) j) := by
  unfold f_X1_add
  rw [h, ofN_z]
  by_cases c : m < 1600
  · refine ⟨sh_setI (sh_setI μ (F + 1) m x) F 1 (zI m + 1), ?_, sh_fr_I (sh_fr_I sh_fr.rf (by omega)) (by omega), ⟨m + 1, by omega, by rw [ir_set, zI_s1]⟩, fun _ => ⟨by rw [ir_set, zI_s1], by rw [ir_set_r (by omega), ir_set], fun j hj => by rw [ir_set_r (by omega), ir_set_k hj]⟩⟩
    rw [if_neg (zI_not (by omega) (by omega)), if_pos ((zI_in (by omega)).mpr (by omega)), tcN (by omega), shl_ap, show sh_i (sh_setI μ (F + 1) m x) F 1 = zI m by rw [ir_set_r (by omega), h], shl_ap]
  · exact ⟨μ, by rw [if_pos (zI_yes (by omega) (by omega))], sh_fr.rf, ⟨m, hm, h⟩, fun z => absurd z c⟩
theorem cl_add {μ : sh_Mem} {l : List Nat} {t : Nat} (hF : F ∈ sh_FORMS) (hl : l.length < 1600) (h : sm_form μ F l) : ∃ μ', f_X1_add F (zI (sg_c t)) μ = some μ' ∧ sh_fr (fun r k => (r = F ∧ k = 1) ∨ r = F + 1) μ μ' ∧ sm_form μ' F (l ++ [t]) := by
  obtain ⟨μ', k1, k2, -, k4⟩ := cl_add0 (μ := μ) (x := zI (sg_c t)) (m := l.length) hF (by omega) (by rw [h.1, nI_z])
  obtain ⟨a, b, c⟩ := k4 hl
  refine ⟨μ', k1, k2, ?_, fun j hj => ?_⟩
  · rw [a, nI_z, List.length_append]
    rfl
  · rw [List.length_append] at hj
    have hj : j < l.length + 1 := hj
    by_cases z : j = l.length
    · subst z
      rw [b]
      congr 2
      rw [List.getD_eq_getElem?_getD, List.getElem?_append_right (Nat.le_refl _), Nat.sub_self]
      rfl
    · rw [c j z, h.2 j (by omega)]
      congr 2
      rw [List.getD_eq_getElem?_getD, List.getD_eq_getElem?_getD, List.getElem?_append_left (by omega)]
theorem cS.fr {μ μ' : sh_Mem} {s : xs} (h : cS μ T n s) (hF : F ∈ sh_FORMS) (hf : sh_fr (fun r k => (r = F ∧ k = 1) ∨ r = F + 1) μ μ') : cS μ' T n s := by
  have hb := FORMS_b hF
  exact h.cg (hf.row _ (fun k => by omega)) (hf.row _ (fun k => by omega))
theorem form_fr {μ μ' : sh_Mem} {l : List Nat} (h : sm_form μ F l) (hF : F ∈ sh_FORMS) (hf : sh_fr nV μ μ') : sm_form μ' F l := by
  have hb := FORMS_b hF
  exact ⟨by rw [hf.i _ _ (by unfold nV; omega)]; exact h.1, fun j hj => by rw [hf.i _ _ (by unfold nV; omega)]; exact h.2 j hj⟩
theorem form_len {μ : sh_Mem} {l : List Nat} (h : sm_form μ F l) (hl : l.length ≤ 1600) : ∃ m : Nat, m ≤ 1600 ∧ sh_i μ F 1 = zI m := ⟨l.length, hl, by rw [h.1, nI_z]⟩
/-- a reader: what it answers is what the rules say -/
def cR (T : Nat → Nat) (n kd F g o : Nat) (c : sh_Mem → Option (Int32 × sh_Mem)) : Prop := ∀ (s : xs) (l : List Nat) (μ : sh_Mem), cS μ T n s → cY μ F kd → sm_form μ F l → l.length ≤ s.1 → ∃ r μ', PT T n kd g o s r ∧ c μ = some (zI (bI r.isRight), μ') ∧ sh_fr (nFm F) μ μ' ∧ cQ μ' T n F l r
theorem cl_product1 {rec : Nat → Int32 → Int32 → Int32 → sh_Mem → Option (Int32 × sh_Mem)} {o : Nat} (IH : cR T n kd F 0 o (rec 5 (zI o) 0 0)) : ∀ (g f i : Nat) (s : xs) (l : List Nat) (μ : sh_Mem), s.1 + g = n → g < f → i ≤ s.1 → cS μ T n s → cY μ F kd → sm_form μ F l → l.length ≤ s.1 → ∃ r μ', PT T n kd 1 o s r ∧ F_X2_product rec f 1 (zI o) 1 (zI i) μ = some (zI (bI r.isRight), μ') ∧ sh_fr (nFm F) μ μ' ∧ cQ μ' T n F l r := by
  intro g
  induction g using Nat.strongRecOn with
  | _ g ih =>
    intro f i s l μ hg hf hi hS hY hl hls
    obtain ⟨f, rfl⟩ : ∃ q, f = q + 1 := ⟨f - 1, by omega⟩
    obtain ⟨hT, ht, ha, h0⟩ := id hS
    obtain ⟨c1, c2, c3, c4, -, -⟩ := id ht
    have hn := hT.1
    have hF := hY.2.1
    have hb := FORMS_b hF
    have kb := xK_b (a := s.1) (g := s.2) (fun j hj => (hT.2 j hj).1) hT.1
    have en : PT T n kd 1 o s (.inr (s, [])) → (F_X2_product rec (f + 1) 1 (zI o) 1 (zI i) μ = some (1, μ)) → ∃ r μ', PT T n kd 1 o s r ∧ F_X2_product rec (f + 1) 1 (zI o) 1 (zI i) μ = some (zI (bI r.isRight), μ') ∧ sh_fr (nFm F) μ μ' ∧ cQ μ' T n F l r := by
      intro hp e
      exact ⟨_, μ, hp, e, sh_fr.rf, hS, by rw [List.append_nil]; exact hl⟩
    by_cases c : xK T n s.1 s.2 = 42 ∨ xK T n s.1 s.2 = 47
    · have hlt := mk_lt2 (c := 42) (d := 47) c
      have e1 := xA_lt (T := T) hlt
      have e2 := xA_le (T := T) ha
      obtain ⟨m1, k1, k2, k3, -⟩ := cl_adv hS
      have f1 : sh_fr (nFm F) μ m1 := k2.mono (fun r k z => Or.inl z)
      obtain ⟨r1, m2, p1, p2, p3, p4⟩ := IH (xA T n s) l m1 k3 (hY.fr f1) (form_fr hl hF k2) (by omega)
      have hY2 := (hY.fr f1).fr p3
      have st : ∀ m3, f_X1_addMark F (zI (xK T n s.1 s.2)) m2 = some m3 → F_X2_product rec (f + 1) 1 (zI o) 1 (zI i) μ = F_X2_product rec f 1 (zI o) (zI (bI r1.isRight)) (zI ((i + 1 : Nat) : Int)) m3 := by
        intro m3 h3
        have n16 : ¬ (1600 : Int32) ≤ zI (i : Int) := zI_not (b := 1600) (by omega) (by omega)
        rcases c with c | c
        · rw [F_X2_product, if_neg n16, if_neg (show ¬ (1 : Int32) = 0 by decide), c3, if_pos (show zI (xK T n s.1 s.2) = 42 by rw [c]; rfl), shl_ap, k1, shv_ap, p2, shb_ap, if_pos hY2.ck, shr_ap hY2.1, shl_ap, h3, shv_ap, zI_s1]
        · rw [F_X2_product, if_neg n16, if_neg (show ¬ (1 : Int32) = 0 by decide), c3, if_neg (show ¬ zI (xK T n s.1 s.2) = 42 by rw [c]; decide), if_pos (show zI (xK T n s.1 s.2) = 47 by rw [c]; rfl), shl_ap, k1, shv_ap, p2, shb_ap, if_pos hY2.ck, shr_ap hY2.1, shl_ap, h3, shv_ap, zI_s1]
      have em : (-100 : Int32) - zI (xK T n s.1 s.2) = zI (sg_c (gK (xK T n s.1 s.2))) := by
        rcases c with c | c <;> (rw [c]; decide)
      cases r1 with
      | inl e =>
        obtain ⟨q1, q2, m, q3, q4⟩ := p4
        obtain ⟨m3, a1, a2, a3, -⟩ := cl_add0 (x := zI (sg_c (gK (xK T n s.1 s.2)))) hF q3 q4
        have h3 : f_X1_addMark F (zI (xK T n s.1 s.2)) m2 = some m3 := by
          unfold f_X1_addMark
          rw [em, a1, shv_ap]
        obtain ⟨f, rfl⟩ : ∃ q, f = q + 1 := ⟨f - 1, by omega⟩
        refine ⟨.inl e, m3, PT.prX c p1, ?_, (f1.trans p3).trans (a2.mono (fun r k z => Or.inr z)), by rw [a2.i _ _ (by omega)]; exact q1, by rw [a2.i _ _ (by omega)]; exact q2, a3⟩
        rw [st m3 h3, F_X2_product]
        by_cases c16 : i + 1 < 1600
        · rw [if_neg (show ¬ (1600 : Int32) ≤ zI ((i + 1 : Nat) : Int) from zI_not (b := 1600) (by omega) (by omega))]
          rfl
        · rw [if_pos (show (1600 : Int32) ≤ zI ((i + 1 : Nat) : Int) from zI_yes (a := 1600) (by omega) (by omega))]
          rfl
      | inr q =>
        obtain ⟨q1, q2⟩ := p4
        obtain ⟨w1, w2, w3, w4⟩ := p1.pos e2.2
        have w1 : (xA T n s).1 ≤ q.1.1 := w1
        have w2 : q.1.1 ≤ n := w2
        have w3 : (xA T n s).1 + q.2.length ≤ q.1.1 := w3
        have ll : (l ++ q.2).length = l.length + q.2.length := List.length_append
        obtain ⟨m3, a1, a2, a3⟩ := cl_add (t := gK (xK T n s.1 s.2)) hF (by omega) q2
        have h3 : f_X1_addMark F (zI (xK T n s.1 s.2)) m2 = some m3 := by
          unfold f_X1_addMark
          rw [em, a1, shv_ap]
        have fr3 : sh_fr (nFm F) m2 m3 := a2.mono (fun r k z => Or.inr z)
        obtain ⟨r2, m4, b1, b2, b3, b4⟩ := ih (n - q.1.1) (by omega) f (i + 1) q.1 (l ++ q.2 ++ [gK (xK T n s.1 s.2)]) m3 (by omega) (by omega) (by omega) (q1.fr hF a2) (hY2.fr fr3) a3 (by rw [List.length_append, ll]; show l.length + q.2.length + 1 ≤ q.1.1; omega)
        refine ⟨_, m4, PT.prG c (l1 := q.2) (s1 := q.1) p1 b1, ?_, ((f1.trans p3).trans fr3).trans b3, ?_⟩
        · rw [st m3 h3]
          have b2' : F_X2_product rec f 1 (zI o) (zI (bI true)) (zI ((i + 1 : Nat) : Int)) m3 = some (zI (bI r2.isRight), m4) := b2
          show F_X2_product rec f 1 (zI o) (zI (bI true)) (zI ((i + 1 : Nat) : Int)) m3 = _
          rw [b2']
          cases r2 with
          | inl e => rfl
          | inr q => rfl
        · cases r2 with
          | inl e => exact b4
          | inr q' =>
            refine ⟨b4.1, ?_⟩
            show sm_form m4 F (l ++ (q.2 ++ [gK (xK T n s.1 s.2)] ++ q'.2))
            have := b4.2
            rw [List.append_assoc, List.append_assoc] at this
            rw [List.append_assoc]
            exact this
    · refine en (PT.prE c) ?_
      rw [F_X2_product]
      by_cases c16 : i < 1600
      · rw [if_neg (show ¬ (1600 : Int32) ≤ zI (i : Int) from zI_not (b := 1600) (by omega) (by omega)), if_neg (show ¬ (1 : Int32) = 0 by decide), c3, if_neg (show ¬ zI (xK T n s.1 s.2) = 42 from fun z => c (Or.inl ((zI_eq (b := 42) (by omega) (by omega) (by omega) (by omega)).mp z))), if_neg (show ¬ zI (xK T n s.1 s.2) = 47 from fun z => c (Or.inr ((zI_eq (b := 47) (by omega) (by omega) (by omega) (by omega)).mp z))), if_pos (Or.inr rfl)]
      · rw [if_pos (show (1600 : Int32) ≤ zI (i : Int) from zI_yes (a := 1600) (by omega) (by omega)), if_pos (Or.inr rfl)]
theorem cl_sum1 {rec : Nat → Int32 → Int32 → Int32 → sh_Mem → Option (Int32 × sh_Mem)} {o : Nat} (IH : cR T n kd F 6 o (rec 4 (zI o) 0 0)) : ∀ (g f i : Nat) (s : xs) (l : List Nat) (μ : sh_Mem), s.1 + g = n → g < f → i ≤ s.1 → cS μ T n s → cY μ F kd → sm_form μ F l → l.length ≤ s.1 → ∃ r μ', PT T n kd 2 o s r ∧ F_X2_sum rec f 1 (zI o) 1 (zI i) μ = some (zI (bI r.isRight), μ') ∧ sh_fr (nFm F) μ μ' ∧ cQ μ' T n F l r := by
  intro g
  induction g using Nat.strongRecOn with
  | _ g ih =>
    intro f i s l μ hg hf hi hS hY hl hls
    obtain ⟨f, rfl⟩ : ∃ q, f = q + 1 := ⟨f - 1, by omega⟩
    obtain ⟨hT, ht, ha, h0⟩ := id hS
    obtain ⟨c1, c2, c3, c4, -, -⟩ := id ht
    have hn := hT.1
    have hF := hY.2.1
    have hb := FORMS_b hF
    have kb := xK_b (a := s.1) (g := s.2) (fun j hj => (hT.2 j hj).1) hT.1
    have en : PT T n kd 2 o s (.inr (s, [])) → (F_X2_sum rec (f + 1) 1 (zI o) 1 (zI i) μ = some (1, μ)) → ∃ r μ', PT T n kd 2 o s r ∧ F_X2_sum rec (f + 1) 1 (zI o) 1 (zI i) μ = some (zI (bI r.isRight), μ') ∧ sh_fr (nFm F) μ μ' ∧ cQ μ' T n F l r := by
      intro hp e
      exact ⟨_, μ, hp, e, sh_fr.rf, hS, by rw [List.append_nil]; exact hl⟩
    by_cases c : xK T n s.1 s.2 = 43 ∨ xK T n s.1 s.2 = 45
    · have hlt := mk_lt2 (c := 43) (d := 45) c
      have e1 := xA_lt (T := T) hlt
      have e2 := xA_le (T := T) ha
      obtain ⟨m1, k1, k2, k3, -⟩ := cl_adv hS
      have f1 : sh_fr (nFm F) μ m1 := k2.mono (fun r k z => Or.inl z)
      obtain ⟨r1, m2, p1, p2, p3, p4⟩ := IH (xA T n s) l m1 k3 (hY.fr f1) (form_fr hl hF k2) (by omega)
      have hY2 := (hY.fr f1).fr p3
      have st : ∀ m3, f_X1_addMark F (zI (xK T n s.1 s.2)) m2 = some m3 → F_X2_sum rec (f + 1) 1 (zI o) 1 (zI i) μ = F_X2_sum rec f 1 (zI o) (zI (bI r1.isRight)) (zI ((i + 1 : Nat) : Int)) m3 := by
        intro m3 h3
        have n16 : ¬ (1600 : Int32) ≤ zI (i : Int) := zI_not (b := 1600) (by omega) (by omega)
        rcases c with c | c
        · rw [F_X2_sum, if_neg n16, if_neg (show ¬ (1 : Int32) = 0 by decide), c3, if_pos (show zI (xK T n s.1 s.2) = 43 by rw [c]; rfl), shl_ap, k1, shv_ap, p2, shb_ap, if_pos hY2.ck, shr_ap hY2.1, shl_ap, h3, shv_ap, zI_s1]
        · rw [F_X2_sum, if_neg n16, if_neg (show ¬ (1 : Int32) = 0 by decide), c3, if_neg (show ¬ zI (xK T n s.1 s.2) = 43 by rw [c]; decide), if_pos (show zI (xK T n s.1 s.2) = 45 by rw [c]; rfl), shl_ap, k1, shv_ap, p2, shb_ap, if_pos hY2.ck, shr_ap hY2.1, shl_ap, h3, shv_ap, zI_s1]
      have em : (-100 : Int32) - zI (xK T n s.1 s.2) = zI (sg_c (gK (xK T n s.1 s.2))) := by
        rcases c with c | c <;> (rw [c]; decide)
      cases r1 with
      | inl e =>
        obtain ⟨q1, q2, m, q3, q4⟩ := p4
        obtain ⟨m3, a1, a2, a3, -⟩ := cl_add0 (x := zI (sg_c (gK (xK T n s.1 s.2)))) hF q3 q4
        have h3 : f_X1_addMark F (zI (xK T n s.1 s.2)) m2 = some m3 := by
          unfold f_X1_addMark
          rw [em, a1, shv_ap]
        obtain ⟨f, rfl⟩ : ∃ q, f = q + 1 := ⟨f - 1, by omega⟩
        refine ⟨.inl e, m3, PT.suX c p1, ?_, (f1.trans p3).trans (a2.mono (fun r k z => Or.inr z)), by rw [a2.i _ _ (by omega)]; exact q1, by rw [a2.i _ _ (by omega)]; exact q2, a3⟩
        rw [st m3 h3, F_X2_sum]
        by_cases c16 : i + 1 < 1600
        · rw [if_neg (show ¬ (1600 : Int32) ≤ zI ((i + 1 : Nat) : Int) from zI_not (b := 1600) (by omega) (by omega))]
          rfl
        · rw [if_pos (show (1600 : Int32) ≤ zI ((i + 1 : Nat) : Int) from zI_yes (a := 1600) (by omega) (by omega))]
          rfl
      | inr q =>
        obtain ⟨q1, q2⟩ := p4
        obtain ⟨w1, w2, w3, w4⟩ := p1.pos e2.2
        have w1 : (xA T n s).1 ≤ q.1.1 := w1
        have w2 : q.1.1 ≤ n := w2
        have w3 : (xA T n s).1 + q.2.length ≤ q.1.1 := w3
        have ll : (l ++ q.2).length = l.length + q.2.length := List.length_append
        obtain ⟨m3, a1, a2, a3⟩ := cl_add (t := gK (xK T n s.1 s.2)) hF (by omega) q2
        have h3 : f_X1_addMark F (zI (xK T n s.1 s.2)) m2 = some m3 := by
          unfold f_X1_addMark
          rw [em, a1, shv_ap]
        have fr3 : sh_fr (nFm F) m2 m3 := a2.mono (fun r k z => Or.inr z)
        obtain ⟨r2, m4, b1, b2, b3, b4⟩ := ih (n - q.1.1) (by omega) f (i + 1) q.1 (l ++ q.2 ++ [gK (xK T n s.1 s.2)]) m3 (by omega) (by omega) (by omega) (q1.fr hF a2) (hY2.fr fr3) a3 (by rw [List.length_append, ll]; show l.length + q.2.length + 1 ≤ q.1.1; omega)
        refine ⟨_, m4, PT.suG c (l1 := q.2) (s1 := q.1) p1 b1, ?_, ((f1.trans p3).trans fr3).trans b3, ?_⟩
        · rw [st m3 h3]
          have b2' : F_X2_sum rec f 1 (zI o) (zI (bI true)) (zI ((i + 1 : Nat) : Int)) m3 = some (zI (bI r2.isRight), m4) := b2
          show F_X2_sum rec f 1 (zI o) (zI (bI true)) (zI ((i + 1 : Nat) : Int)) m3 = _
          rw [b2']
          cases r2 with
          | inl e => rfl
          | inr q => rfl
        · cases r2 with
          | inl e => exact b4
          | inr q' =>
            refine ⟨b4.1, ?_⟩
            show sm_form m4 F (l ++ (q.2 ++ [gK (xK T n s.1 s.2)] ++ q'.2))
            have := b4.2
            rw [List.append_assoc, List.append_assoc] at this
            rw [List.append_assoc]
            exact this
    · refine en (PT.suE c) ?_
      rw [F_X2_sum]
      by_cases c16 : i < 1600
      · rw [if_neg (show ¬ (1600 : Int32) ≤ zI (i : Int) from zI_not (b := 1600) (by omega) (by omega)), if_neg (show ¬ (1 : Int32) = 0 by decide), c3, if_neg (show ¬ zI (xK T n s.1 s.2) = 43 from fun z => c (Or.inl ((zI_eq (b := 43) (by omega) (by omega) (by omega) (by omega)).mp z))), if_neg (show ¬ zI (xK T n s.1 s.2) = 45 from fun z => c (Or.inr ((zI_eq (b := 45) (by omega) (by omega) (by omega) (by omega)).mp z))), if_pos (Or.inr rfl)]
      · rw [if_pos (show (1600 : Int32) ≤ zI (i : Int) from zI_yes (a := 1600) (by omega) (by omega)), if_pos (Or.inr rfl)]
end Gc
