section Gj
variable {T : Nat → Nat} {n kd F : Nat}
theorem cl_fact {rec : Nat → Int32 → Int32 → Int32 → sh_Mem → Option (Int32 × sh_Mem)} {o : Nat} (ho : o ≤ 6) (IHs : cR T n kd F 7 o (rec 3 (zI o) 0 0)) (IHf : o < 6 → cR T n kd F 3 (o + 1) (rec 2 (zI ((o + 1 : Nat) : Int)) 0 0)) (IHt : o < 6 → cR T n kd F 9 (o + 1) (rec 0 (zI ((o + 1 : Nat) : Int)) 0 0)) : cR T n kd F 3 o (f_X2_fact rec (zI o)) := by
  intro s l μ hS hY hl hls
  have hF := hY.2.1
  have hn := hS.1.1
  have ha := hS.2.2.1
  have g2 := xA_le (T := T) ha
  have bb : ∀ b : Bool, zI (bI b) = 0 ∨ zI (bI b) = 1 := fun b => by cases b; exact Or.inl rfl; exact Or.inr rfl
  have h23 : f_X8_isWord μ 23 = zI (bI (decide (xw T n s = (23 : Int)))) := cl_isWord (w := 23) hS (by omega)
  have h24 : f_X8_isWord μ 24 = zI (bI (decide (xw T n s = (24 : Int)))) := cl_isWord (w := 24) hS (by omega)
  unfold f_X2_fact
  rw [h23, h24]
  by_cases c23 : xw T n s = 23
  · rw [decide_eq_true c23, if_neg (show ¬ zI (bI true) = 0 by decide)]
    have g1 := xA_lt (T := T) (wd_lt1 c23 (by omega))
    by_cases c6 : o < 6
    · obtain ⟨m1, p1, p2, p3⟩ := cl_opensG hS c6
      have f1 : sh_fr (nFm F) μ m1 := p2.mono (fun r k z => nV_F z)
      obtain ⟨r1, m2, q1, q2, q3, q4⟩ := IHf c6 (xA T n s) l m1 p3 (hY.fr f1) (form_fr hl hF p2) (by omega)
      have hp := PT.notG c23 c6 q1
      have hY2 := (hY.fr f1).fr q3
      rw [p1, shb_ap, if_neg (show ¬ (1 : Int32) = 0 by decide), zI_s1, q2, shb_ap]
      cases r1 with
      | inl e =>
        obtain ⟨m3, a1, a2, a3⟩ := cl_aw0 (x := 23) hF q4
        refine ⟨_, m3, hp, ?_, (f1.trans q3).trans a2, a3⟩
        show (if zI (bI false) = 0 then _ else _) = _
        rw [if_pos (show zI (bI false) = 0 from rfl), if_pos hY2.ck, shr_ap hY2.1, shl_ap, a1, shv_ap]
        rfl
      | inr q =>
        obtain ⟨w1, w2, w3, -⟩ := q1.pos g2.2
        have w2 : q.1.1 ≤ n := w2
        have w3 : (xA T n s).1 + q.2.length ≤ q.1.1 := w3
        obtain ⟨m3, a1, a2, a3⟩ := cl_aw1 (x := 23) (t := 22) hF (by decide) q4 (by omega)
        refine ⟨_, m3, hp, ?_, (f1.trans q3).trans a2, a3⟩
        show (if zI (bI true) = 0 then _ else _) = _
        rw [if_neg (show ¬ zI (bI true) = 0 by decide), if_pos hY2.ck, shr_ap hY2.1, shl_ap, a1, shv_ap]
        rfl
    · obtain ⟨m1, p1, p2, p3⟩ := cl_opensX hS (show 6 ≤ o ∧ o < 100 by omega)
      have f1 : sh_fr (nFm F) μ m1 := p2.mono (fun r k z => nV_F z)
      have hY1 := hY.fr f1
      obtain ⟨m3, a1, a2, a3⟩ := cl_aw0 (x := 23) hF (cO_Q hF hl (by omega) p2 p3)
      refine ⟨_, m3, PT.notX c23 (by omega), ?_, f1.trans a2, a3⟩
      rw [p1, shb_ap, if_pos rfl, if_pos hY1.ck, shr_ap hY1.1, shl_ap, a1, shv_ap]
      rfl
  rw [decide_eq_false c23, if_pos (show zI (bI false) = 0 from rfl)]
  by_cases c91 : xK T n s.1 s.2 = 91
  · rw [if_pos (show sh_i μ 2 3 = 91 from K_eq hS c91)]
    have g1 := xA_lt (T := T) (mk_lt c91 (by omega))
    by_cases c6 : o < 6
    · obtain ⟨m1, p1, p2, p3⟩ := cl_opensG hS c6
      have f1 : sh_fr (nFm F) μ m1 := p2.mono (fun r k z => nV_F z)
      rw [p1, shb_ap, if_neg (show ¬ (1 : Int32) = 0 by decide), zI_s1]
      obtain ⟨r1, m2, q1, q2, q3, q4⟩ := IHt c6 (xA T n s) l m1 p3 (hY.fr f1) (form_fr hl hF p2) (by omega)
      have hp := PT.sqG c91 c6 q1
      rw [q2, shb_ap]
      cases r1 with
      | inl e => exact ⟨_, m2, hp, rfl, f1.trans q3, q4⟩
      | inr q =>
        obtain ⟨w1, w2, w3, -⟩ := q1.pos g2.2
        have w2 : q.1.1 ≤ n := w2
        have w3 : (xA T n s).1 + q.2.length ≤ q.1.1 := w3
        obtain ⟨m3, a1, a2, a3⟩ := cl_gM (c := 93) hF (by omega) q4 (by omega)
        have a1' : f_X8_takesMark 93 m2 = some (zI (bI (gM T n 93 (.inr q)).isRight), m3) := a1
        refine ⟨_, m3, hp, ?_, (f1.trans q3).trans a2, a3⟩
        show (if zI (bI true) = 0 then _ else _) = _
        rw [if_neg (show ¬ zI (bI true) = 0 by decide), a1', shb_ap]
        cases (gM T n 93 (.inr q)) with
        | inl e => rfl
        | inr q' => rfl
    · obtain ⟨m1, p1, p2, p3⟩ := cl_opensX hS (show 6 ≤ o ∧ o < 100 by omega)
      refine ⟨_, m1, PT.sqX c91 (by omega), ?_, p2.mono (fun r k z => nV_F z), cO_Q hF hl (by omega) p2 p3⟩
      rw [p1, shb_ap, if_pos rfl]
      rfl
  rw [if_neg (show ¬ sh_i μ 2 3 = 91 from K_ne hS (by omega) c91)]
  by_cases c24 : xw T n s = 24
  · rw [decide_eq_true c24, if_neg (show ¬ zI (bI true) = 0 by decide)]
    have g1 := xA_lt (T := T) (wd_lt1 c24 (by omega))
    obtain ⟨m1, k1, k2, k3, -⟩ := cl_adv hS
    have f1 : sh_fr (nFm F) μ m1 := k2.mono (fun r k z => nV_F z)
    have hY1 := hY.fr f1
    obtain ⟨m2, b1, b2, b3⟩ := cl_add (t := 23) hF (by omega) (form_fr hl hF k2)
    have b1' : f_X1_add F 1 m1 = some m2 := b1
    refine ⟨_, m2, PT.all c24, ?_, f1.trans (b2.mono (fun r k z => Or.inr z)), k3.fr hF b2, b3⟩
    rw [k1, shv_ap, if_pos hY1.ck, shr_ap hY1.1, shl_ap, b1', shv_ap]
    rfl
  rw [decide_eq_false c24, if_pos (show zI (bI false) = 0 from rfl)]
  obtain ⟨r1, m1, q1, q2, q3, q4⟩ := IHs s l μ hS hY hl hls
  have hY1 := hY.fr q3
  rw [q2, shb_ap]
  cases r1 with
  | inl e => exact ⟨_, m1, PT.cmX c23 c91 c24 q1, rfl, q3, q4⟩
  | inr q =>
    obtain ⟨w1, w2, w3, -⟩ := q1.pos ha
    have w2 : q.1.1 ≤ n := w2
    have w3 : s.1 + q.2.length ≤ q.1.1 := w3
    have hll : (l ++ q.2).length = l.length + q.2.length := List.length_append
    obtain ⟨d1, d2⟩ := q4
    show ∃ r μ', PT T n kd 3 o s r ∧ (if zI (bI true) = 0 then _ else _) = _ ∧ _
    rw [if_neg (show ¬ zI (bI true) = 0 by decide), shl_ap, d1.2.1.2.2.1]
    have go : ∀ c : Int, xK T n q.1.1 q.1.2 = c → (c = 60 ∨ c = 62 ∨ c = 61) → ∃ r μ', PT T n kd 3 o s r ∧ sh_bindv (f_X8_advance m1) (fun μ10 => sh_bind (rec 3 (zI o) 0 0 μ10) (fun y15 μ13 => (if (sh_r μ13 6 1 = some (sh_ref μ13 6 1) ∧ (sh_ref μ13 6 1) ∈ sh_FORMS) then sh_let (sh_ref μ13 6 1) (fun r17 => sh_bindv (f_X1_addMark r17 (zI (xK T n q.1.1 q.1.2)) μ13) (fun μ18 => (if y15 = 0 ∨ y15 = 1 then some (y15, μ18) else none))) else none))) = some (zI (bI r.isRight), μ') ∧ sh_fr (nFm F) μ μ' ∧ cQ μ' T n F l r := by
      intro c hc hcc
      have hlt := mk_lt hc (by omega)
      have e1 := xA_lt (T := T) hlt
      have e2 := xA_le (T := T) (s := q.1) w2
      obtain ⟨m2, k1, k2, k3, -⟩ := cl_adv d1
      have f2 : sh_fr (nFm F) m1 m2 := k2.mono (fun r k z => nV_F z)
      obtain ⟨r2, m3, b1, b2, b3, b4⟩ := IHs (xA T n q.1) (l ++ q.2) m2 k3 (hY1.fr f2) (form_fr d2 hF k2) (by omega)
      have hY3 := (hY1.fr f2).fr b3
      have hp := PT.cmG (l1 := q.2) (s1 := q.1) c23 c91 c24 q1 (by omega) b1
      have em : (-100 : Int32) - zI (xK T n q.1.1 q.1.2) = zI (sg_c (gK (xK T n q.1.1 q.1.2))) := by
        rw [hc]
        rcases hcc with h | h | h <;> (rw [h]; decide)
      have fr3 := (q3.trans f2).trans b3
      rw [k1, shv_ap, b2, shb_ap, if_pos hY3.ck, shr_ap hY3.1, shl_ap]
      cases r2 with
      | inl e =>
        obtain ⟨v1, v2, k, v3, v4⟩ := b4
        have hb := FORMS_b hF
        obtain ⟨m4, a1, a2, a3, -⟩ := cl_add0 (x := zI (sg_c (gK (xK T n q.1.1 q.1.2)))) hF v3 v4
        refine ⟨_, m4, hp, ?_, fr3.trans (a2.mono (fun r k z => Or.inr z)), by rw [a2.i _ _ (by omega)]; exact v1, by rw [a2.i _ _ (by omega)]; exact v2, a3⟩
        unfold f_X1_addMark
        rw [em, a1, shv_ap, shv_ap, if_pos (bb _)]
        rfl
      | inr q' =>
        obtain ⟨x1, x2, x3, -⟩ := b1.pos e2.2
        have x2 : q'.1.1 ≤ n := x2
        have x3 : (xA T n q.1).1 + q'.2.length ≤ q'.1.1 := x3
        obtain ⟨m4, a1, a2, a3⟩ := cl_add (t := gK (xK T n q.1.1 q.1.2)) hF (by rw [List.length_append]; omega) b4.2
        refine ⟨_, m4, hp, ?_, fr3.trans (a2.mono (fun r k z => Or.inr z)), b4.1.fr hF a2, ?_⟩
        · unfold f_X1_addMark
          rw [em, a1, shv_ap, shv_ap, if_pos (bb _)]
          rfl
        · show sm_form m4 F (l ++ (q.2 ++ (q'.2 ++ [gK (xK T n q.1.1 q.1.2)])))
          rw [← List.append_assoc, ← List.append_assoc]
          exact a3
    by_cases c60 : xK T n q.1.1 q.1.2 = 60
    · rw [if_pos (show zI (xK T n q.1.1 q.1.2) = 60 by rw [c60]; rfl)]
      exact go 60 c60 (by omega)
    have kb := xK_b (a := q.1.1) (g := q.1.2) (fun j hj => (hS.1.2 j hj).1) hS.1.1
    rw [if_neg (show ¬ zI (xK T n q.1.1 q.1.2) = 60 from fun z => c60 ((zI_eq (b := 60) (by omega) (by omega) (by omega) (by omega)).mp z))]
    by_cases c62 : xK T n q.1.1 q.1.2 = 62
    · rw [if_pos (show zI (xK T n q.1.1 q.1.2) = 62 by rw [c62]; rfl)]
      exact go 62 c62 (by omega)
    rw [if_neg (show ¬ zI (xK T n q.1.1 q.1.2) = 62 from fun z => c62 ((zI_eq (b := 62) (by omega) (by omega) (by omega) (by omega)).mp z))]
    by_cases c61 : xK T n q.1.1 q.1.2 = 61
    · rw [if_pos (show zI (xK T n q.1.1 q.1.2) = 61 by rw [c61]; rfl)]
      exact go 61 c61 (by omega)
    rw [if_neg (show ¬ zI (xK T n q.1.1 q.1.2) = 61 from fun z => c61 ((zI_eq (b := 61) (by omega) (by omega) (by omega) (by omega)).mp z))]
    obtain ⟨m2, k1, k2, k3⟩ := cl_fails (T := T) (n := n) (k := 1) (p := q.1.1) d1.2.2.2
    have k1' : f_X8_fails 1 (zI (q.1.1 : Int)) m1 = some (0, m2) := k1
    have hQ := cO_Q (T := T) (n := n) (l := l ++ q.2) hF d2 (by omega) k2 k3
    refine ⟨_, m2, PT.cmN c23 c91 c24 q1 (by omega), ?_, q3.trans (k2.mono (fun r k z => nV_F z)), hQ⟩
    rw [d1.2.1.2.2.2.1, k1', shb_ap, if_pos (Or.inl rfl)]
    rfl
end Gj
