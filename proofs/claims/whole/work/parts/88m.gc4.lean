section Gf
variable {T : Nat → Nat} {n kd F : Nat}
theorem K_ne {μ : sh_Mem} {s : xs} {c : Int} (hS : cS μ T n s) (hc : -10 ≤ c ∧ c < 256) (h : ¬ xK T n s.1 s.2 = c) : ¬ sh_i μ 2 3 = zI c := by
  have kb := xK_b (a := s.1) (g := s.2) (fun j hj => (hS.1.2 j hj).1) hS.1.1
  rw [hS.2.1.2.2.1]
  exact fun z => h ((zI_eq (by omega) (by omega) (by omega) (by omega)).mp z)
theorem K_eq {μ : sh_Mem} {s : xs} {c : Int} (hS : cS μ T n s) (h : xK T n s.1 s.2 = c) : sh_i μ 2 3 = zI c := by
  rw [hS.2.1.2.2.1, h]
/-- smallest and largest of two sums -/
theorem cl_twoS {rec : Nat → Int32 → Int32 → Int32 → sh_Mem → Option (Int32 × sh_Mem)} {o w : Nat} (ho : o ≤ 6) (hw : w = 25 ∨ w = 26) (IH : o < 6 → cR T n kd F 7 (o + 1) (rec 3 (zI ((o + 1 : Nat) : Int)) 0 0)) (s : xs) (l : List Nat) (μ : sh_Mem) (hS : cS μ T n s) (hY : cY μ F kd) (hl : sm_form μ F l) (hls : l.length ≤ s.1) (hx : xw T n s = (w : Int)) : ∃ r μ', PT T n kd 0 o s r ∧ f_X2_ofTwoSums rec (zI o) (zI w) μ = some (zI (bI r.isRight), μ') ∧ sh_fr (nFm F) μ μ' ∧ cQ μ' T n F l r := by
  have hF := hY.2.1
  have hn := hS.1.1
  have hx2 : xw T n s = 25 ∨ xw T n s = 26 := by omega
  have hlt := wd_lt1 hx (by omega)
  have e1 := xA_lt (T := T) hlt
  have e2 := xA_le (T := T) hS.2.2.1
  obtain ⟨m1, k1, k2, k3, -⟩ := cl_adv hS
  have f1 : sh_fr (nFm F) μ m1 := k2.mono (fun r k z => nV_F z)
  have hY1 := hY.fr f1
  have hl1 := form_fr hl hF k2
  unfold f_X2_ofTwoSums
  rw [k1, shv_ap]
  by_cases c40 : xK T n (xA T n s).1 (xA T n s).2 = 40
  · rw [if_pos (show sh_i m1 2 3 = 40 from K_eq k3 c40)]
    by_cases c6 : o < 6
    · obtain ⟨m2, p1, p2, p3⟩ := cl_opensG k3 c6
      have f2 : sh_fr (nFm F) m1 m2 := p2.mono (fun r k z => nV_F z)
      have hY2 := hY1.fr f2
      have g1 := xA_lt (T := T) (mk_lt c40 (by omega))
      have g2 := xA_le (T := T) e2.2
      rw [p1, shb_ap, if_neg (show ¬ (1 : Int32) = 0 by decide), zI_s1]
      obtain ⟨r1, m3, q1, q2, q3, q4⟩ := IH c6 (xA T n (xA T n s)) l m2 p3 hY2 (form_fr hl1 hF p2) (by omega)
      have hY3 := hY2.fr q3
      have f3 := (f1.trans f2).trans q3
      rw [q2, shb_ap]
      cases r1 with
      | inl e =>
        obtain ⟨m4, a1, a2, a3⟩ := cl_aw0 (x := zI w) hF q4
        refine ⟨.inl e, m4, PT.two1 hx2 c40 c6 q1, ?_, f3.trans a2, a3⟩
        show (if zI (bI false) = 0 then _ else _) = _
        rw [if_pos (show zI (bI false) = 0 from rfl), if_pos hY3.ck, shr_ap hY3.1, shl_ap, a1, shv_ap]
        rfl
      | inr q =>
        obtain ⟨w1, w2, w3, -⟩ := q1.pos g2.2
        have w1 : (xA T n (xA T n s)).1 ≤ q.1.1 := w1
        have w2 : q.1.1 ≤ n := w2
        have w3 : (xA T n (xA T n s)).1 + q.2.length ≤ q.1.1 := w3
        obtain ⟨m4, a1, a2, a3⟩ := cl_gM (c := 44) hF (by omega) q4 (by omega)
        have a1' : f_X8_takesMark 44 m3 = some (zI (bI (gM T n 44 (.inr q)).isRight), m4) := a1
        have hY4 := hY3.fr a2
        have f4 := f3.trans a2
        show ∃ r μ', PT T n kd 0 o s r ∧ (if zI (bI true) = 0 then _ else _) = _ ∧ _
        rw [if_neg (show ¬ zI (bI true) = 0 by decide), a1', shb_ap]
        by_cases c44 : xK T n q.1.1 q.1.2 = 44
        · rw [gM_t c44] at a3 ⊢
          have h1 := xA_lt (T := T) (mk_lt c44 (by omega))
          have h2 := xA_le (T := T) (s := q.1) w2
          show ∃ r μ', PT T n kd 0 o s r ∧ (if zI (bI true) = 0 then _ else _) = _ ∧ _
          rw [if_neg (show ¬ zI (bI true) = 0 by decide)]
          obtain ⟨r2, m5, b1, b2, b3, b4⟩ := IH c6 (xA T n q.1) (l ++ q.2) m4 a3.1 hY4 a3.2 (by rw [List.length_append]; omega)
          have hY5 := hY4.fr b3
          have f5 := f4.trans b3
          have hp := PT.two3 (s := s) (o := o) (s1 := q.1) (l1 := q.2) hx2 c40 c6 q1 c44 b1
          rw [b2, shb_ap]
          cases r2 with
          | inl e =>
            obtain ⟨m6, d1, d2, d3⟩ := cl_aw0 (x := zI w) hF b4
            refine ⟨_, m6, hp, ?_, f5.trans d2, d3⟩
            show (if zI (bI false) = 0 then _ else _) = _
            rw [if_pos (show zI (bI false) = 0 from rfl), if_pos hY5.ck, shr_ap hY5.1, shl_ap, d1, shv_ap]
            rfl
          | inr q' =>
            obtain ⟨v1, v2, v3, -⟩ := b1.pos h2.2
            have v1 : (xA T n q.1).1 ≤ q'.1.1 := v1
            have v2 : q'.1.1 ≤ n := v2
            have v3 : (xA T n q.1).1 + q'.2.length ≤ q'.1.1 := v3
            have b4' : cQ m5 T n F l (.inr (q'.1, q.2 ++ q'.2)) := ⟨b4.1, by rw [← List.append_assoc]; exact b4.2⟩
            have hlen : (q.2 ++ q'.2).length = q.2.length + q'.2.length := List.length_append
            obtain ⟨m6, d1, d2, d3⟩ := cl_gM (c := 41) hF (by omega) b4' (by show l.length + (q.2 ++ q'.2).length ≤ 1600; omega)
            have d1' : f_X8_takesMark 41 m5 = some (zI (bI (gM T n 41 (.inr (q'.1, q.2 ++ q'.2))).isRight), m6) := d1
            have hY6 := hY5.fr d2
            show ∃ r μ', PT T n kd 0 o s r ∧ (if zI (bI true) = 0 then _ else _) = _ ∧ _
            rw [if_neg (show ¬ zI (bI true) = 0 by decide), d1', shb_ap]
            have hp' : PT T n kd 0 o s (gB [if xw T n s = 25 then 15 else 16] (gM T n 41 (.inr (q'.1, q.2 ++ q'.2)))) := hp
            by_cases c41 : xK T n q'.1.1 q'.1.2 = 41
            · have gt : gM T n 41 (.inr (q'.1, q.2 ++ q'.2)) = .inr (xA T n q'.1, q.2 ++ q'.2) := gM_t c41
              rw [gt] at d3 hp' ⊢
              have hem : (-1 : Int32) - zI w = zI (sg_c (if xw T n s = 25 then 15 else 16)) := by
                rcases hw with rfl | rfl
                · rw [if_pos (show xw T n s = 25 from hx)]; decide
                · rw [if_neg (show ¬ xw T n s = 25 by omega)]; decide
              obtain ⟨m7, u1, u2, u3⟩ := cl_aw1 hF hem d3 (by show l.length + (q.2 ++ q'.2).length < 1600; omega)
              refine ⟨_, m7, hp', ?_, (f5.trans d2).trans u2, u3⟩
              show (if zI (bI true) = 0 then _ else _) = _
              rw [if_neg (show ¬ zI (bI true) = 0 by decide), if_pos hY6.ck, shr_ap hY6.1, shl_ap, u1, shv_ap]
              rfl
            · have gt : gM T n 41 (.inr (q'.1, q.2 ++ q'.2)) = .inl (1, q'.1.1) := gM_f c41
              rw [gt] at d3 hp' ⊢
              obtain ⟨m7, u1, u2, u3⟩ := cl_aw0 (x := zI w) hF d3
              refine ⟨_, m7, hp', ?_, (f5.trans d2).trans u2, u3⟩
              show (if zI (bI false) = 0 then _ else _) = _
              rw [if_pos (show zI (bI false) = 0 from rfl), if_pos hY6.ck, shr_ap hY6.1, shl_ap, u1, shv_ap]
              rfl
        · rw [gM_f c44] at a3 ⊢
          obtain ⟨m5, d1, d2, d3⟩ := cl_aw0 (x := zI w) hF a3
          refine ⟨_, m5, PT.two2 hx2 c40 c6 q1 c44, ?_, f4.trans d2, d3⟩
          show (if zI (bI false) = 0 then _ else _) = _
          rw [if_pos (show zI (bI false) = 0 from rfl), if_pos hY4.ck, shr_ap hY4.1, shl_ap, d1, shv_ap]
          rfl
    · obtain ⟨m2, p1, p2, p3⟩ := cl_opensX k3 (show 6 ≤ o ∧ o < 100 by omega)
      have f2 : sh_fr (nFm F) m1 m2 := p2.mono (fun r k z => nV_F z)
      have hY2 := hY1.fr f2
      obtain ⟨m3, a1, a2, a3⟩ := cl_aw0 (x := zI w) hF (cO_Q hF hl1 (by omega) p2 p3)
      refine ⟨_, m3, PT.twoX hx2 c40 (by omega), ?_, (f1.trans f2).trans a2, a3⟩
      rw [p1, shb_ap, if_pos rfl, if_pos hY2.ck, shr_ap hY2.1, shl_ap, a1, shv_ap]
      rfl
  · rw [if_neg (show ¬ sh_i m1 2 3 = 40 from K_ne k3 (by omega) c40)]
    obtain ⟨m2, p1, p2, p3⟩ := cl_fails (T := T) (n := n) (k := 1) (p := (xA T n s).1) k3.2.2.2
    have p1' : f_X8_fails 1 (zI ((xA T n s).1 : Int)) m1 = some (0, m2) := p1
    refine ⟨_, m2, PT.twoN hx2 c40, ?_, f1.trans (p2.mono (fun r k z => nV_F z)), cO_Q hF hl1 (by omega) p2 p3⟩
    rw [k3.2.1.2.2.2.1, p1', shb_ap, if_pos (Or.inl rfl)]
    rfl
end Gf
