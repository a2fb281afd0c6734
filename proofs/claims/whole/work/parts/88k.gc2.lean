/-! the class reads tests -/
section Gd
variable {T : Nat → Nat} {n kd F : Nat}
theorem cl_both1 {rec : Nat → Int32 → Int32 → Int32 → sh_Mem → Option (Int32 × sh_Mem)} {o : Nat} (IH : cR T n kd F 3 o (rec 2 (zI o) 0 0)) : ∀ (g f i : Nat) (s : xs) (l : List Nat) (μ : sh_Mem), s.1 + g = n → g < f → i ≤ s.1 → cS μ T n s → cY μ F kd → sm_form μ F l → l.length ≤ s.1 → ∃ r μ', PT T n kd 4 o s r ∧ F_X2_both rec f 1 (zI o) 1 (zI i) μ = some (zI (bI r.isRight), μ') ∧ sh_fr (nFm F) μ μ' ∧ cQ μ' T n F l r := by
  intro g
  induction g using Nat.strongRecOn with
  | _ g ih =>
    intro f i s l μ hg hf hi hS hY hl hls
    obtain ⟨f, rfl⟩ : ∃ q, f = q + 1 := ⟨f - 1, by omega⟩
    obtain ⟨hT, ht, ha, h0⟩ := id hS
    have hn := hT.1
    have hF := hY.2.1
    have hb := FORMS_b hF
    have hw : f_X8_isWord μ 22 = zI (bI (decide (xw T n s = (22 : Int)))) := cl_isWord (w := 22) hS (by omega)
    by_cases c : xw T n s = 22
    · rw [decide_eq_true c] at hw
      have hlt := wd_lt1 c (by omega)
      have e1 := xA_lt (T := T) hlt
      have e2 := xA_le (T := T) ha
      obtain ⟨m1, k1, k2, k3, -⟩ := cl_adv hS
      have f1 : sh_fr (nFm F) μ m1 := k2.mono (fun r k z => Or.inl z)
      obtain ⟨r1, m2, p1, p2, p3, p4⟩ := IH (xA T n s) l m1 k3 (hY.fr f1) (form_fr hl hF k2) (by omega)
      have hY2 := (hY.fr f1).fr p3
      have st : ∀ m3, f_X1_addWord F 22 m2 = some m3 → F_X2_both rec (f + 1) 1 (zI o) 1 (zI i) μ = F_X2_both rec f 1 (zI o) (zI (bI r1.isRight)) (zI ((i + 1 : Nat) : Int)) m3 := by
        intro m3 h3
        have n16 : ¬ (1600 : Int32) ≤ zI (i : Int) := zI_not (b := 1600) (by omega) (by omega)
        rw [F_X2_both, if_neg n16, if_neg (show ¬ (1 : Int32) = 0 by decide), hw, if_neg (show ¬ zI (bI true) = 0 by decide), k1, shv_ap, p2, shb_ap, if_pos hY2.ck, shr_ap hY2.1, shl_ap, h3, shv_ap, zI_s1]
      have em : (-1 : Int32) - 22 = zI (sg_c 20) := by decide
      cases r1 with
      | inl e =>
        obtain ⟨q1, q2, m, q3, q4⟩ := p4
        obtain ⟨m3, a1, a2, a3, -⟩ := cl_add0 (x := zI (sg_c 20)) hF q3 q4
        have h3 : f_X1_addWord F 22 m2 = some m3 := by
          unfold f_X1_addWord
          rw [em, a1, shv_ap]
        obtain ⟨f, rfl⟩ : ∃ q, f = q + 1 := ⟨f - 1, by omega⟩
        refine ⟨.inl e, m3, PT.anX c p1, ?_, (f1.trans p3).trans (a2.mono (fun r k z => Or.inr z)), by rw [a2.i _ _ (by omega)]; exact q1, by rw [a2.i _ _ (by omega)]; exact q2, a3⟩
        rw [st m3 h3, F_X2_both]
        by_cases c16 : i + 1 < 1600
        · rw [if_neg (show ¬ (1600 : Int32) ≤ zI ((i + 1 : Nat) : Int) from zI_not (b := 1600) (by omega) (by omega))]
          rfl
        · rw [if_pos (show (1600 : Int32) ≤ zI ((i + 1 : Nat) : Int) from zI_yes (a := 1600) (by omega) (by omega))]
          rfl
      | inr q =>
        obtain ⟨q1, q2⟩ := p4
        obtain ⟨w1, w2, w3, w4⟩ := p1.pos e2.2
        have w1 : (xA T n s).1 ≤ q.1.1 := w1
        have w2 : q.1.1 ≤ n := w2
        have w3 : (xA T n s).1 + q.2.length ≤ q.1.1 := w3
        have ll : (l ++ q.2).length = l.length + q.2.length := List.length_append
        obtain ⟨m3, a1, a2, a3⟩ := cl_add (t := 20) hF (by omega) q2
        have h3 : f_X1_addWord F 22 m2 = some m3 := by
          unfold f_X1_addWord
          rw [em, a1, shv_ap]
        have fr3 : sh_fr (nFm F) m2 m3 := a2.mono (fun r k z => Or.inr z)
        obtain ⟨r2, m4, b1, b2, b3, b4⟩ := ih (n - q.1.1) (by omega) f (i + 1) q.1 (l ++ q.2 ++ [20]) m3 (by omega) (by omega) (by omega) (q1.fr hF a2) (hY2.fr fr3) a3 (by rw [List.length_append, ll]; show l.length + q.2.length + 1 ≤ q.1.1; omega)
        refine ⟨_, m4, PT.anG c (l1 := q.2) (s1 := q.1) p1 b1, ?_, ((f1.trans p3).trans fr3).trans b3, ?_⟩
        · rw [st m3 h3]
          have b2' : F_X2_both rec f 1 (zI o) (zI (bI true)) (zI ((i + 1 : Nat) : Int)) m3 = some (zI (bI r2.isRight), m4) := b2
          show F_X2_both rec f 1 (zI o) (zI (bI true)) (zI ((i + 1 : Nat) : Int)) m3 = _
          rw [b2']
          cases r2 with
          | inl e => rfl
          | inr q => rfl
        · cases r2 with
          | inl e => exact b4
          | inr q' =>
            refine ⟨b4.1, ?_⟩
            show sm_form m4 F (l ++ (q.2 ++ [20] ++ q'.2))
            have := b4.2
            rw [List.append_assoc, List.append_assoc] at this
            rw [List.append_assoc]
            exact this
    · rw [decide_eq_false c] at hw
      refine ⟨_, μ, PT.anE c, ?_, sh_fr.rf, hS, by rw [List.append_nil]; exact hl⟩
      rw [F_X2_both]
      by_cases c16 : i < 1600
      · rw [if_neg (show ¬ (1600 : Int32) ≤ zI (i : Int) from zI_not (b := 1600) (by omega) (by omega)), if_neg (show ¬ (1 : Int32) = 0 by decide), hw, if_pos (show zI (bI false) = 0 from rfl), if_pos (Or.inr rfl)]
        rfl
      · rw [if_pos (show (1600 : Int32) ≤ zI (i : Int) from zI_yes (a := 1600) (by omega) (by omega)), if_pos (Or.inr rfl)]
        rfl
theorem cl_test1 {rec : Nat → Int32 → Int32 → Int32 → sh_Mem → Option (Int32 × sh_Mem)} {o : Nat} (IH : cR T n kd F 8 o (rec 1 (zI o) 0 0)) : ∀ (g f i : Nat) (s : xs) (l : List Nat) (μ : sh_Mem), s.1 + g = n → g < f → i ≤ s.1 → cS μ T n s → cY μ F kd → sm_form μ F l → l.length ≤ s.1 → ∃ r μ', PT T n kd 5 o s r ∧ F_X2_test rec f 1 (zI o) 1 (zI i) μ = some (zI (bI r.isRight), μ') ∧ sh_fr (nFm F) μ μ' ∧ cQ μ' T n F l r := by
  intro g
  induction g using Nat.strongRecOn with
  | _ g ih =>
    intro f i s l μ hg hf hi hS hY hl hls
    obtain ⟨f, rfl⟩ : ∃ q, f = q + 1 := ⟨f - 1, by omega⟩
    obtain ⟨hT, ht, ha, h0⟩ := id hS
    have hn := hT.1
    have hF := hY.2.1
    have hb := FORMS_b hF
    have hw : f_X8_isWord μ 21 = zI (bI (decide (xw T n s = (21 : Int)))) := cl_isWord (w := 21) hS (by omega)
    by_cases c : xw T n s = 21
    · rw [decide_eq_true c] at hw
      have hlt := wd_lt1 c (by omega)
      have e1 := xA_lt (T := T) hlt
      have e2 := xA_le (T := T) ha
      obtain ⟨m1, k1, k2, k3, -⟩ := cl_adv hS
      have f1 : sh_fr (nFm F) μ m1 := k2.mono (fun r k z => Or.inl z)
      obtain ⟨r1, m2, p1, p2, p3, p4⟩ := IH (xA T n s) l m1 k3 (hY.fr f1) (form_fr hl hF k2) (by omega)
      have hY2 := (hY.fr f1).fr p3
      have st : ∀ m3, f_X1_addWord F 21 m2 = some m3 → F_X2_test rec (f + 1) 1 (zI o) 1 (zI i) μ = F_X2_test rec f 1 (zI o) (zI (bI r1.isRight)) (zI ((i + 1 : Nat) : Int)) m3 := by
        intro m3 h3
        have n16 : ¬ (1600 : Int32) ≤ zI (i : Int) := zI_not (b := 1600) (by omega) (by omega)
        rw [F_X2_test, if_neg n16, if_neg (show ¬ (1 : Int32) = 0 by decide), hw, if_neg (show ¬ zI (bI true) = 0 by decide), k1, shv_ap, p2, shb_ap, if_pos hY2.ck, shr_ap hY2.1, shl_ap, h3, shv_ap, zI_s1]
      have em : (-1 : Int32) - 21 = zI (sg_c 21) := by decide
      cases r1 with
      | inl e =>
        obtain ⟨q1, q2, m, q3, q4⟩ := p4
        obtain ⟨m3, a1, a2, a3, -⟩ := cl_add0 (x := zI (sg_c 21)) hF q3 q4
        have h3 : f_X1_addWord F 21 m2 = some m3 := by
          unfold f_X1_addWord
          rw [em, a1, shv_ap]
        obtain ⟨f, rfl⟩ : ∃ q, f = q + 1 := ⟨f - 1, by omega⟩
        refine ⟨.inl e, m3, PT.orX c p1, ?_, (f1.trans p3).trans (a2.mono (fun r k z => Or.inr z)), by rw [a2.i _ _ (by omega)]; exact q1, by rw [a2.i _ _ (by omega)]; exact q2, a3⟩
        rw [st m3 h3, F_X2_test]
        by_cases c16 : i + 1 < 1600
        · rw [if_neg (show ¬ (1600 : Int32) ≤ zI ((i + 1 : Nat) : Int) from zI_not (b := 1600) (by omega) (by omega))]
          rfl
        · rw [if_pos (show (1600 : Int32) ≤ zI ((i + 1 : Nat) : Int) from zI_yes (a := 1600) (by omega) (by omega))]
          rfl
      | inr q =>
        obtain ⟨q1, q2⟩ := p4
        obtain ⟨w1, w2, w3, w4⟩ := p1.pos e2.2
        have w1 : (xA T n s).1 ≤ q.1.1 := w1
        have w2 : q.1.1 ≤ n := w2
        have w3 : (xA T n s).1 + q.2.length ≤ q.1.1 := w3
        have ll : (l ++ q.2).length = l.length + q.2.length := List.length_append
        obtain ⟨m3, a1, a2, a3⟩ := cl_add (t := 21) hF (by omega) q2
        have h3 : f_X1_addWord F 21 m2 = some m3 := by
          unfold f_X1_addWord
          rw [em, a1, shv_ap]
        have fr3 : sh_fr (nFm F) m2 m3 := a2.mono (fun r k z => Or.inr z)
        obtain ⟨r2, m4, b1, b2, b3, b4⟩ := ih (n - q.1.1) (by omega) f (i + 1) q.1 (l ++ q.2 ++ [21]) m3 (by omega) (by omega) (by omega) (q1.fr hF a2) (hY2.fr fr3) a3 (by rw [List.length_append, ll]; show l.length + q.2.length + 1 ≤ q.1.1; omega)
        refine ⟨_, m4, PT.orG c (l1 := q.2) (s1 := q.1) p1 b1, ?_, ((f1.trans p3).trans fr3).trans b3, ?_⟩
        · rw [st m3 h3]
          have b2' : F_X2_test rec f 1 (zI o) (zI (bI true)) (zI ((i + 1 : Nat) : Int)) m3 = some (zI (bI r2.isRight), m4) := b2
          show F_X2_test rec f 1 (zI o) (zI (bI true)) (zI ((i + 1 : Nat) : Int)) m3 = _
          rw [b2']
          cases r2 with
          | inl e => rfl
          | inr q => rfl
        · cases r2 with
          | inl e => exact b4
          | inr q' =>
            refine ⟨b4.1, ?_⟩
            show sm_form m4 F (l ++ (q.2 ++ [21] ++ q'.2))
            have := b4.2
            rw [List.append_assoc, List.append_assoc] at this
            rw [List.append_assoc]
            exact this
    · rw [decide_eq_false c] at hw
      refine ⟨_, μ, PT.orE c, ?_, sh_fr.rf, hS, by rw [List.append_nil]; exact hl⟩
      rw [F_X2_test]
      by_cases c16 : i < 1600
      · rw [if_neg (show ¬ (1600 : Int32) ≤ zI (i : Int) from zI_not (b := 1600) (by omega) (by omega)), if_neg (show ¬ (1 : Int32) = 0 by decide), hw, if_pos (show zI (bI false) = 0 from rfl), if_pos (Or.inr rfl)]
        rfl
      · rw [if_pos (show (1600 : Int32) ≤ zI (i : Int) from zI_yes (a := 1600) (by omega) (by omega)), if_pos (Or.inr rfl)]
        rfl
theorem cl_product {rec : Nat → Int32 → Int32 → Int32 → sh_Mem → Option (Int32 × sh_Mem)} {o : Nat} (IH : cR T n kd F 0 o (rec 5 (zI o) 0 0)) : cR T n kd F 6 o (f_X2_product rec (zI o)) := by
  intro s l μ hS hY hl hls
  have fu := sh_fuel_eq
  have hn := hS.1.1
  obtain ⟨r1, m1, p1, p2, p3, p4⟩ := IH s l μ hS hY hl hls
  cases r1 with
  | inl e =>
    obtain ⟨f, hf⟩ : ∃ f, sh_fuel = f + 1 := ⟨sh_fuel - 1, by omega⟩
    refine ⟨.inl e, m1, PT.p6X p1, ?_, p3, p4⟩
    unfold f_X2_product
    rw [p2, shb_ap, hf]
    rfl
  | inr q =>
    obtain ⟨q1, q2⟩ := p4
    obtain ⟨w1, w2, w3, w4⟩ := p1.pos hS.2.2.1
    have w2 : q.1.1 ≤ n := w2
    have w3 : s.1 + q.2.length ≤ q.1.1 := w3
    obtain ⟨r2, m2, b1, b2, b3, b4⟩ := cl_product1 IH (n - q.1.1) sh_fuel 0 q.1 (l ++ q.2) m1 (by omega) (by omega) (by omega) q1 (hY.fr p3) q2 (by rw [List.length_append]; omega)
    refine ⟨_, m2, PT.p6G (l1 := q.2) (s1 := q.1) p1 b1, ?_, p3.trans b3, ?_⟩
    · unfold f_X2_product
      have b2' : F_X2_product rec sh_fuel 1 (zI o) (zI (bI true)) 0 m1 = some (zI (bI r2.isRight), m2) := b2
      rw [p2, shb_ap]
      show F_X2_product rec sh_fuel 1 (zI o) (zI (bI true)) 0 m1 = _
      rw [b2']
      cases r2 with
      | inl e => rfl
      | inr q => rfl
    · cases r2 with
      | inl e => exact b4
      | inr q' =>
        refine ⟨b4.1, ?_⟩
        show sm_form m2 F (l ++ (q.2 ++ q'.2))
        rw [← List.append_assoc]
        exact b4.2
theorem cl_sum {rec : Nat → Int32 → Int32 → Int32 → sh_Mem → Option (Int32 × sh_Mem)} {o : Nat} (IH : cR T n kd F 6 o (rec 4 (zI o) 0 0)) : cR T n kd F 7 o (f_X2_sum rec (zI o)) := by
  intro s l μ hS hY hl hls
  have fu := sh_fuel_eq
  have hn := hS.1.1
  obtain ⟨r1, m1, p1, p2, p3, p4⟩ := IH s l μ hS hY hl hls
  cases r1 with
  | inl e =>
    obtain ⟨f, hf⟩ : ∃ f, sh_fuel = f + 1 := ⟨sh_fuel - 1, by omega⟩
    refine ⟨.inl e, m1, PT.p7X p1, ?_, p3, p4⟩
    unfold f_X2_sum
    rw [p2, shb_ap, hf]
    rfl
  | inr q =>
    obtain ⟨q1, q2⟩ := p4
    obtain ⟨w1, w2, w3, w4⟩ := p1.pos hS.2.2.1
    have w2 : q.1.1 ≤ n := w2
    have w3 : s.1 + q.2.length ≤ q.1.1 := w3
    obtain ⟨r2, m2, b1, b2, b3, b4⟩ := cl_sum1 IH (n - q.1.1) sh_fuel 0 q.1 (l ++ q.2) m1 (by omega) (by omega) (by omega) q1 (hY.fr p3) q2 (by rw [List.length_append]; omega)
    refine ⟨_, m2, PT.p7G (l1 := q.2) (s1 := q.1) p1 b1, ?_, p3.trans b3, ?_⟩
    · unfold f_X2_sum
      have b2' : F_X2_sum rec sh_fuel 1 (zI o) (zI (bI true)) 0 m1 = some (zI (bI r2.isRight), m2) := b2
      rw [p2, shb_ap]
      show F_X2_sum rec sh_fuel 1 (zI o) (zI (bI true)) 0 m1 = _
      rw [b2']
      cases r2 with
      | inl e => rfl
      | inr q => rfl
    · cases r2 with
      | inl e => exact b4
      | inr q' =>
        refine ⟨b4.1, ?_⟩
        show sm_form m2 F (l ++ (q.2 ++ q'.2))
        rw [← List.append_assoc]
        exact b4.2
theorem cl_both {rec : Nat → Int32 → Int32 → Int32 → sh_Mem → Option (Int32 × sh_Mem)} {o : Nat} (IH : cR T n kd F 3 o (rec 2 (zI o) 0 0)) : cR T n kd F 8 o (f_X2_both rec (zI o)) := by
  intro s l μ hS hY hl hls
  have fu := sh_fuel_eq
  have hn := hS.1.1
  obtain ⟨r1, m1, p1, p2, p3, p4⟩ := IH s l μ hS hY hl hls
  cases r1 with
  | inl e =>
    obtain ⟨f, hf⟩ : ∃ f, sh_fuel = f + 1 := ⟨sh_fuel - 1, by omega⟩
    refine ⟨.inl e, m1, PT.p8X p1, ?_, p3, p4⟩
    unfold f_X2_both
    rw [p2, shb_ap, hf]
    rfl
  | inr q =>
    obtain ⟨q1, q2⟩ := p4
    obtain ⟨w1, w2, w3, w4⟩ := p1.pos hS.2.2.1
    have w2 : q.1.1 ≤ n := w2
    have w3 : s.1 + q.2.length ≤ q.1.1 := w3
    obtain ⟨r2, m2, b1, b2, b3, b4⟩ := cl_both1 IH (n - q.1.1) sh_fuel 0 q.1 (l ++ q.2) m1 (by omega) (by omega) (by omega) q1 (hY.fr p3) q2 (by rw [List.length_append]; omega)
    refine ⟨_, m2, PT.p8G (l1 := q.2) (s1 := q.1) p1 b1, ?_, p3.trans b3, ?_⟩
    · unfold f_X2_both
      have b2' : F_X2_both rec sh_fuel 1 (zI o) (zI (bI true)) 0 m1 = some (zI (bI r2.isRight), m2) := b2
      rw [p2, shb_ap]
      show F_X2_both rec sh_fuel 1 (zI o) (zI (bI true)) 0 m1 = _
      rw [b2']
      cases r2 with
      | inl e => rfl
      | inr q => rfl
    · cases r2 with
      | inl e => exact b4
      | inr q' =>
        refine ⟨b4.1, ?_⟩
        show sm_form m2 F (l ++ (q.2 ++ q'.2))
        rw [← List.append_assoc]
        exact b4.2
theorem cl_test {rec : Nat → Int32 → Int32 → Int32 → sh_Mem → Option (Int32 × sh_Mem)} {o : Nat} (IH : cR T n kd F 8 o (rec 1 (zI o) 0 0)) : cR T n kd F 9 o (f_X2_test rec (zI o)) := by
  intro s l μ hS hY hl hls
  have fu := sh_fuel_eq
  have hn := hS.1.1
  obtain ⟨r1, m1, p1, p2, p3, p4⟩ := IH s l μ hS hY hl hls
  cases r1 with
  | inl e =>
    obtain ⟨f, hf⟩ : ∃ f, sh_fuel = f + 1 := ⟨sh_fuel - 1, by omega⟩
    refine ⟨.inl e, m1, PT.p9X p1, ?_, p3, p4⟩
    unfold f_X2_test
    rw [p2, shb_ap, hf]
    rfl
  | inr q =>
    obtain ⟨q1, q2⟩ := p4
    obtain ⟨w1, w2, w3, w4⟩ := p1.pos hS.2.2.1
    have w2 : q.1.1 ≤ n := w2
    have w3 : s.1 + q.2.length ≤ q.1.1 := w3
    obtain ⟨r2, m2, b1, b2, b3, b4⟩ := cl_test1 IH (n - q.1.1) sh_fuel 0 q.1 (l ++ q.2) m1 (by omega) (by omega) (by omega) q1 (hY.fr p3) q2 (by rw [List.length_append]; omega)
    refine ⟨_, m2, PT.p9G (l1 := q.2) (s1 := q.1) p1 b1, ?_, p3.trans b3, ?_⟩
    · unfold f_X2_test
      have b2' : F_X2_test rec sh_fuel 1 (zI o) (zI (bI true)) 0 m1 = some (zI (bI r2.isRight), m2) := b2
      rw [p2, shb_ap]
      show F_X2_test rec sh_fuel 1 (zI o) (zI (bI true)) 0 m1 = _
      rw [b2']
      cases r2 with
      | inl e => rfl
      | inr q => rfl
    · cases r2 with
      | inl e => exact b4
      | inr q' =>
        refine ⟨b4.1, ?_⟩
        show sm_form m2 F (l ++ (q.2 ++ q'.2))
        rw [← List.append_assoc]
        exact b4.2
end Gd
