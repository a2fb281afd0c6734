section Gi
variable {T : Nat → Nat} {n kd F : Nat}
theorem cl_part {rec : Nat → Int32 → Int32 → Int32 → sh_Mem → Option (Int32 × sh_Mem)} {o : Nat} (ho : o ≤ 6) (hk : kd < 3) (IHs : o < 6 → cR T n kd F 7 (o + 1) (rec 3 (zI ((o + 1 : Nat) : Int)) 0 0)) (IHp : o < 6 → cR T n kd F 0 (o + 1) (rec 5 (zI ((o + 1 : Nat) : Int)) 0 0)) (IH2 : ∀ w : Nat, w = 25 ∨ w = 26 → ∀ (s : xs) (l : List Nat) (μ : sh_Mem), cS μ T n s → cY μ F kd → sm_form μ F l → l.length ≤ s.1 → xw T n s = (w : Int) → ∃ r μ', PT T n kd 0 o s r ∧ rec 6 (zI o) (zI w) 0 μ = some (zI (bI r.isRight), μ') ∧ sh_fr (nFm F) μ μ' ∧ cQ μ' T n F l r) : cR T n kd F 0 o (f_X2_part rec (zI o)) := by
  intro s l μ hS hY hl hls
  have hF := hY.2.1
  have hn := hS.1.1
  have ha := hS.2.2.1
  have bb : ∀ b : Bool, zI (bI b) = 0 ∨ zI (bI b) = 1 := fun b => by cases b; exact Or.inl rfl; exact Or.inr rfl
  unfold f_X2_part
  by_cases c40 : xK T n s.1 s.2 = 40
  · rw [if_pos (show sh_i μ 2 3 = 40 from K_eq hS c40)]
    by_cases c6 : o < 6
    · obtain ⟨m1, p1, p2, p3⟩ := cl_opensG hS c6
      have f1 : sh_fr (nFm F) μ m1 := p2.mono (fun r k z => nV_F z)
      have g1 := xA_lt (T := T) (mk_lt c40 (by omega))
      have g2 := xA_le (T := T) ha
      rw [p1, shb_ap, if_neg (show ¬ (1 : Int32) = 0 by decide), zI_s1]
      obtain ⟨r1, m2, q1, q2, q3, q4⟩ := IHs c6 (xA T n s) l m1 p3 (hY.fr f1) (form_fr hl hF p2) (by omega)
      have hp := PT.openG c40 c6 q1
      rw [q2, shb_ap]
      cases r1 with
      | inl e => exact ⟨_, m2, hp, rfl, f1.trans q3, q4⟩
      | inr q =>
        obtain ⟨w1, w2, w3, -⟩ := q1.pos g2.2
        have w2 : q.1.1 ≤ n := w2
        have w3 : (xA T n s).1 + q.2.length ≤ q.1.1 := w3
        obtain ⟨m3, a1, a2, a3⟩ := cl_gM (c := 41) hF (by omega) q4 (by omega)
        have a1' : f_X8_takesMark 41 m2 = some (zI (bI (gM T n 41 (.inr q)).isRight), m3) := a1
        refine ⟨_, m3, hp, ?_, (f1.trans q3).trans a2, a3⟩
        show (if zI (bI true) = 0 then _ else _) = _
        rw [if_neg (show ¬ zI (bI true) = 0 by decide), a1', shb_ap]
        cases (gM T n 41 (.inr q)) with
        | inl e => rfl
        | inr q' => rfl
    · obtain ⟨m1, p1, p2, p3⟩ := cl_opensX hS (show 6 ≤ o ∧ o < 100 by omega)
      refine ⟨_, m1, PT.openX c40 (by omega), ?_, p2.mono (fun r k z => nV_F z), cO_Q hF hl (by omega) p2 p3⟩
      rw [p1, shb_ap, if_pos rfl]
      rfl
  rw [if_neg (show ¬ sh_i μ 2 3 = 40 from K_ne hS (by omega) c40)]
  by_cases c2 : xK T n s.1 s.2 = -2
  · have hb := xw_b (T := T) (n := n) (s := s)
    have hlt := (xK_2 c2).1
    have g1 := xA_lt (T := T) hlt
    have g2 := xA_le (T := T) ha
    rw [if_pos (show sh_i μ 2 3 = -2 from K_eq hS c2), cS_w hS c2, shl_ap]
    by_cases c25 : xw T n s = 25
    · obtain ⟨r, m1, a1, a2, a3, a4⟩ := IH2 25 (Or.inl rfl) s l μ hS hY hl hls c25
      refine ⟨r, m1, a1, ?_, a3, a4⟩
      rw [if_pos (show zI (xw T n s) = 25 by rw [c25]; rfl), show zI (xw T n s) = zI ((25 : Nat) : Int) by rw [c25]; rfl, a2, shb_ap, if_pos (bb _)]
    rw [if_neg (show ¬ zI (xw T n s) = 25 from w_ne (by omega) c25)]
    by_cases c26 : xw T n s = 26
    · obtain ⟨r, m1, a1, a2, a3, a4⟩ := IH2 26 (Or.inr rfl) s l μ hS hY hl hls c26
      refine ⟨r, m1, a1, ?_, a3, a4⟩
      rw [if_pos (show zI (xw T n s) = 26 by rw [c26]; rfl), show zI (xw T n s) = zI ((26 : Nat) : Int) by rw [c26]; rfl, a2, shb_ap, if_pos (bb _)]
    rw [if_neg (show ¬ zI (xw T n s) = 26 from w_ne (by omega) c26), hY.2.2]
    have h25 : ¬ (xw T n s = 25 ∨ xw T n s = 26) := by omega
    by_cases ck : kd = 2
    · rw [if_pos (show zI (kd : Int) = 2 by rw [ck]; rfl)]
      have ofs : ∀ t : Nat, (xw T n s = 7 ∨ xw T n s = 10) → (if xw T n s = 7 then 9 else 10) = t → (-1 : Int32) - zI (xw T n s) = zI (sg_c t) → ∃ r μ', PT T n kd 0 o s r ∧ sh_bind (f_X2_opens (zI o) μ) (fun y30 μ28 => (if y30 = 0 then (if (sh_r μ28 6 1 = some (sh_ref μ28 6 1) ∧ (sh_ref μ28 6 1) ∈ sh_FORMS) then sh_let (sh_ref μ28 6 1) (fun r33 => sh_bindv (f_X1_addWord r33 (zI (xw T n s)) μ28) (fun μ34 => some (0, μ34))) else none) else sh_bind (rec 5 (zI o + 1) 0 0 μ28) (fun y39 μ37 => (if y39 = 0 then (if (sh_r μ37 6 1 = some (sh_ref μ37 6 1) ∧ (sh_ref μ37 6 1) ∈ sh_FORMS) then sh_let (sh_ref μ37 6 1) (fun r42 => sh_bindv (f_X1_addWord r42 (zI (xw T n s)) μ37) (fun μ43 => some (0, μ43))) else none) else (if (sh_r μ37 6 1 = some (sh_ref μ37 6 1) ∧ (sh_ref μ37 6 1) ∈ sh_FORMS) then sh_let (sh_ref μ37 6 1) (fun r47 => sh_bindv (f_X1_addWord r47 (zI (xw T n s)) μ37) (fun μ48 => some (1, μ48))) else none))))) = some (zI (bI r.isRight), μ') ∧ sh_fr (nFm F) μ μ' ∧ cQ μ' T n F l r := by
        intro t hw ht em
        by_cases c6 : o < 6
        · obtain ⟨m1, p1, p2, p3⟩ := cl_opensG hS c6
          have f1 : sh_fr (nFm F) μ m1 := p2.mono (fun r k z => nV_F z)
          obtain ⟨r1, m2, q1, q2, q3, q4⟩ := IHp c6 (xA T n s) l m1 p3 (hY.fr f1) (form_fr hl hF p2) (by omega)
          have hp := PT.ofG ck hw c6 q1
          have hY2 := (hY.fr f1).fr q3
          rw [ht] at hp
          rw [p1, shb_ap, if_neg (show ¬ (1 : Int32) = 0 by decide), zI_s1, q2, shb_ap]
          cases r1 with
          | inl e =>
            obtain ⟨m3, a1, a2, a3⟩ := cl_aw0 (x := zI (xw T n s)) hF q4
            refine ⟨_, m3, hp, ?_, (f1.trans q3).trans a2, a3⟩
            show (if zI (bI false) = 0 then _ else _) = _
            rw [if_pos (show zI (bI false) = 0 from rfl), if_pos hY2.ck, shr_ap hY2.1, shl_ap, a1, shv_ap]
            rfl
          | inr q =>
            obtain ⟨w1, w2, w3, -⟩ := q1.pos g2.2
            have w2 : q.1.1 ≤ n := w2
            have w3 : (xA T n s).1 + q.2.length ≤ q.1.1 := w3
            obtain ⟨m3, a1, a2, a3⟩ := cl_aw1 hF em q4 (by omega)
            refine ⟨_, m3, hp, ?_, (f1.trans q3).trans a2, a3⟩
            show (if zI (bI true) = 0 then _ else _) = _
            rw [if_neg (show ¬ zI (bI true) = 0 by decide), if_pos hY2.ck, shr_ap hY2.1, shl_ap, a1, shv_ap]
            rfl
        · obtain ⟨m1, p1, p2, p3⟩ := cl_opensX hS (show 6 ≤ o ∧ o < 100 by omega)
          have f1 : sh_fr (nFm F) μ m1 := p2.mono (fun r k z => nV_F z)
          have hY1 := hY.fr f1
          obtain ⟨m3, a1, a2, a3⟩ := cl_aw0 (x := zI (xw T n s)) hF (cO_Q hF hl (by omega) p2 p3)
          refine ⟨_, m3, PT.ofX ck hw (by omega), ?_, f1.trans a2, a3⟩
          rw [p1, shb_ap, if_pos rfl, if_pos hY1.ck, shr_ap hY1.1, shl_ap, a1, shv_ap]
          rfl
      by_cases c7 : xw T n s = 7
      · rw [if_pos (show zI (xw T n s) = 7 by rw [c7]; rfl)]
        exact ofs 9 (Or.inl c7) (by rw [if_pos c7]) (by rw [c7]; decide)
      rw [if_neg (show ¬ zI (xw T n s) = 7 from w_ne (by omega) c7)]
      by_cases c10 : xw T n s = 10
      · rw [if_pos (show zI (xw T n s) = 10 by rw [c10]; rfl)]
        exact ofs 10 (Or.inr c10) (by rw [if_neg c7]) (by rw [c10]; decide)
      rw [if_neg (show ¬ zI (xw T n s) = 10 from w_ne (by omega) c10)]
      exact cl_factP hS hY hk hl hls c2 h25 (by omega)
    · rw [if_neg (show ¬ zI (kd : Int) = 2 from fun z => ck (by have := (zI_eq (b := 2) (by omega) (by omega) (by omega) (by omega)).mp z; omega))]
      exact cl_factP hS hY hk hl hls c2 h25 (fun z => ck z.1)
  · rw [if_neg (show ¬ sh_i μ 2 3 = -2 from K_ne (c := -2) hS (by omega) c2)]
    obtain ⟨m1, k1, k2, k3, -⟩ := cl_num (lo := 0) (hi := 9999) hS (by omega) (by omega)
    have k1' : f_X8_takeNumber 0 9999 μ = some (zI (xv (x_num T n 0 9999 s)), m1) := k1
    have f1 : sh_fr (nFm F) μ m1 := k2.mono (fun r k z => nV_F z)
    have hY1 := hY.fr f1
    have hp : PT T n kd 0 o s (gN (x_num T n 0 9999 s)) := PT.num c40 c2
    rw [k1', shb_ap]
    cases e : x_num T n 0 9999 s with
    | inl q =>
      rw [e] at k3 hp
      refine ⟨_, m1, hp, ?_, f1, cO_Q hF hl (by omega) k2 k3⟩
      show (if zI (-1) = (-1) then _ else _) = _
      rw [if_pos (show zI (-1) = -1 from rfl), if_pos (show zI (xv (Sum.inl q)) = -1 from rfl)]
      rfl
    | inr q =>
      rw [e] at k3 hp
      have hlt : s.1 < n := xK_lt (T := T) (g := s.2) (by rw [(x_num_r e).1]; omega)
      have hq : q.1 ≤ 9999 := by
        unfold x_num at e
        split at e
        · split at e
          · split at e
            · cases e
            · rename_i h
              cases e
              show xV T s.1 (xE T n s.1 - s.1) ≤ 9999
              omega
          · cases e
        · cases e
      have em : zI (sg_c (100 + q.1)) = zI (q.1 : Int) := by
        unfold sg_c
        rw [if_pos (by omega)]
        congr 1
        omega
      obtain ⟨m2, b1, b2, b3⟩ := cl_add (t := 100 + q.1) hF (by omega) (form_fr hl hF k2)
      rw [em] at b1
      refine ⟨_, m2, hp, ?_, f1.trans (b2.mono (fun r k z => Or.inr z)), k3.fr hF b2, b3⟩
      show (if zI (q.1 : Int) = (-1) then _ else _) = _
      have nq : ¬ zI (q.1 : Int) = -1 := fun z => by
        have := (zI_eq (b := -1) (by omega) (by omega) (by omega) (by omega)).mp (show zI (q.1 : Int) = zI (-1) from z)
        omega
      rw [if_neg nq, if_pos hY1.ck, shr_ap hY1.1, shl_ap]
      show sh_bindv (f_X1_add F (zI (q.1 : Int)) m1) (fun μ102 => (if zI (q.1 : Int) = (-1) then some (0, μ102) else some (1, μ102))) = _
      rw [b1, shv_ap, if_neg nq]
      rfl
end Gi
