/-! ASK: how a question is read -/
def QRt (T : Nat → Nat) (n : Nat) (s : xs) (r : xo (Nat × List Nat)) : Prop := if 27 ≤ xw T n s then (∃ q, PT T n 2 (if xw T n s ≤ 29 then 9 else 7) 0 (xA T n s) q ∧ r = xb q fun a => xb (x_mark T n (-1) a.1) fun _ => .inr ((xw T n s).toNat, a.2)) else r = .inl (1, s.1)
section Aq6
variable {T : Nat → Nat} {n : Nat} {μ : sh_Mem} {s : xs}
def nQc (r k : Nat) : Prop := nV r k ∨ (r = 3 ∧ k = 1) ∨ r = 4 ∨ (r = 6 ∧ k = 2)
/-- the class reads a question -/
theorem cl_quest (hS : cS μ T n s) : ∃ (r : xo (Nat × List Nat)) (v : Int32) (m : sh_Mem), QRt T n s r ∧ f_X2_readQuestion 3 μ = some (v, m) ∧ (∀ x k, ¬ nQc x k → sh_i m x k = sh_i μ x k ∧ sh_l m x k = sh_l μ x k) ∧ (∀ x k, ¬ (x = 6 ∧ k = 1) → sh_r m x k = sh_r μ x k) ∧ (sh_r m 6 1 = sh_r μ 6 1 ∨ sh_r m 6 1 = some 3) ∧ (∀ e, r = .inl e → sh_i m 2 10 = zI e.1 ∧ sh_i m 2 11 = zI e.2 ∧ 1 ≤ e.1 ∧ e.1 < 10) ∧ (∀ q, r = .inr q → v = zI (q.1 : Nat) ∧ sm_form m 3 q.2 ∧ sh_i m 2 10 = 0 ∧ 27 ≤ q.1 ∧ q.1 ≤ 32 ∧ q.2.length ≤ 1600 ∧ sg_ok 2 (decide (q.1 < 30)) q.2 []) := by
  obtain ⟨w1, w2, w3, -⟩ := cl_kw hS
  have hxb := xw_b (T := T) (n := n) (s := s)
  have fl : ∀ m, sh_fr nV μ m → (∀ x k, ¬ nQc x k → sh_i m x k = sh_i μ x k ∧ sh_l m x k = sh_l μ x k) := fun m f x k z => f.2 x k (fun q => z (Or.inl q))
  have bad : ¬ 27 ≤ xw T n s → ∀ y : Int32, (∃ m, f_X8_fails 1 (sh_i μ 2 4) μ = some (0, m) ∧ f_X2_readQuestion 3 μ = some (y, m)) → ∃ (r : xo (Nat × List Nat)) (v : Int32) (m : sh_Mem), QRt T n s r ∧ f_X2_readQuestion 3 μ = some (v, m) ∧ (∀ x k, ¬ nQc x k → sh_i m x k = sh_i μ x k ∧ sh_l m x k = sh_l μ x k) ∧ (∀ x k, ¬ (x = 6 ∧ k = 1) → sh_r m x k = sh_r μ x k) ∧ (sh_r m 6 1 = sh_r μ 6 1 ∨ sh_r m 6 1 = some 3) ∧ (∀ e, r = .inl e → sh_i m 2 10 = zI e.1 ∧ sh_i m 2 11 = zI e.2 ∧ 1 ≤ e.1 ∧ e.1 < 10) ∧ (∀ q, r = .inr q → v = zI (q.1 : Nat) ∧ sm_form m 3 q.2 ∧ sh_i m 2 10 = 0 ∧ 27 ≤ q.1 ∧ q.1 ≤ 32 ∧ q.2.length ≤ 1600 ∧ sg_ok 2 (decide (q.1 < 30)) q.2 []) := fun h27 y ⟨m, f1, f2⟩ => by
    obtain ⟨m', g1, g2, g3⟩ := cl_fails (T := T) (n := n) (k := 1) (p := s.1) hS.2.2.2
    rw [w3, show f_X8_fails 1 (zI (s.1 : Int)) μ = some (0, m') from g1] at f1
    have em : m' = m := (Prod.mk.inj (Option.some.inj f1)).2
    subst em
    refine ⟨.inl (1, s.1), y, m', by unfold QRt; rw [if_neg h27], f2, fl m' g2, fun x k _ => by rw [g2.1], Or.inl (by rw [g2.1]), fun e he => by cases he; exact ⟨g3.1, g3.2, by simp, by simp⟩, fun q hq => (by cases hq)⟩
  by_cases hK : xK T n s.1 s.2 = -2
  rotate_left
  · have hx : xw T n s = -1 := if_neg hK
    obtain ⟨m', g1, -, -⟩ := cl_fails (T := T) (n := n) (k := 1) (p := s.1) hS.2.2.2
    refine bad (by omega) (-1) ⟨m', by rw [w3]; exact g1, ?_⟩
    unfold f_X2_readQuestion
    rw [if_neg (w2 hK), w3, show f_X8_fails 1 (zI (s.1 : Int)) μ = some (0, m') from g1, shb_ap]
  obtain ⟨w4, w5⟩ := w1 hK
  by_cases h27 : 27 ≤ xw T n s
  rotate_left
  · obtain ⟨m', g1, -, -⟩ := cl_fails (T := T) (n := n) (k := 1) (p := s.1) hS.2.2.2
    refine bad h27 (-1) ⟨m', by rw [w3]; exact g1, ?_⟩
    unfold f_X2_readQuestion
    rw [w4, if_pos rfl, w5, shl_ap, if_pos (show zI (xw T n s) < 27 from (zI_lt (b := 27) (by omega) (by omega) (by omega) (by omega)).mpr (by omega)), w3, show f_X8_fails 1 (zI (s.1 : Int)) μ = some (0, m') from g1, shb_ap]
  obtain ⟨m1, a1, a2, a3, -⟩ := cl_adv hS
  obtain ⟨m2, hm2⟩ : ∃ m, m = sh_setI (sh_setI (sh_setR m1 6 1 (some 3)) 3 1 0) 6 2 (zI ((2 : Nat) : Int)) := ⟨_, rfl⟩
  have i2 : ∀ r j, ¬ (r = 3 ∧ j = 1) → ¬ (r = 6 ∧ j = 2) → sh_i m2 r j = sh_i m1 r j := fun r j z1 z2 => by
    rw [hm2, sh_i_set, if_neg (fun q => z2 ⟨q.1, q.2⟩), sh_i_set, if_neg (fun q => z1 ⟨q.1, q.2⟩)]
    rfl
  have S2 : cS m2 T n (xA T n s) := a3.cg (funext fun j => i2 1 j (by omega) (by omega)) (funext fun j => i2 2 j (by omega) (by omega))
  have ref2 : sh_r m2 6 1 = some 3 := by
    rw [hm2]
    show sh_r (sh_setR m1 6 1 (some 3)) 6 1 = _
    rw [sh_r_set, if_pos ⟨rfl, rfl⟩]
  have ref2' : ∀ r j, ¬ (r = 6 ∧ j = 1) → sh_r m2 r j = sh_r m1 r j := fun r j z => by
    rw [hm2]
    show sh_r (sh_setR m1 6 1 (some 3)) r j = _
    rw [sh_r_set, if_neg (fun q => z ⟨q.1, q.2⟩)]
  have hF : 3 ∈ sh_FORMS := by decide
  have Y2 : cY m2 3 2 := ⟨ref2, hF, by rw [hm2, ir_set]⟩
  have F2 : sm_form m2 3 [] := by
    refine ⟨?_, fun j hj => absurd hj (Nat.not_lt_zero j)⟩
    rw [hm2, ir_set_r (by omega), ir_set]
    rfl
  have hbeg : f_X2_begin 3 2 m1 = some m2 := by
    unfold f_X2_begin
    have rs : sh_r (sh_setR m1 6 1 (some 3)) 6 1 = some 3 := by rw [sh_r_set, if_pos ⟨rfl, rfl⟩]
    have rf : sh_ref (sh_setR m1 6 1 (some 3)) 6 1 = 3 := by unfold sh_ref; rw [rs]; rfl
    rw [shl_ap, rf, if_pos ⟨rs, hF⟩, shl_ap, shl_ap, shl_ap, hm2]
    rfl
  have hlt := (xK_2 hK).1
  have hA := xA_le (T := T) hS.2.2.1
  have hn16 := hS.1.1
  have main : ∀ (g : Nat) (c : sh_Mem → Option (Int32 × sh_Mem)), g = (if xw T n s ≤ 29 then 9 else 7) → cR T n 2 3 g 0 c → f_X2_readQuestion 3 μ = sh_bind (c m2) (fun y20 μ18 => (if y20 = 0 then some ((-1), μ18) else sh_bind (f_X8_takesMark (-1) μ18) (fun y24 μ22 => (if y24 = 0 then some ((-1), μ22) else some (zI (xw T n s), μ22))))) → ∃ (r : xo (Nat × List Nat)) (v : Int32) (m : sh_Mem), QRt T n s r ∧ f_X2_readQuestion 3 μ = some (v, m) ∧ (∀ x k, ¬ nQc x k → sh_i m x k = sh_i μ x k ∧ sh_l m x k = sh_l μ x k) ∧ (∀ x k, ¬ (x = 6 ∧ k = 1) → sh_r m x k = sh_r μ x k) ∧ (sh_r m 6 1 = sh_r μ 6 1 ∨ sh_r m 6 1 = some 3) ∧ (∀ e, r = .inl e → sh_i m 2 10 = zI e.1 ∧ sh_i m 2 11 = zI e.2 ∧ 1 ≤ e.1 ∧ e.1 < 10) ∧ (∀ q, r = .inr q → v = zI (q.1 : Nat) ∧ sm_form m 3 q.2 ∧ sh_i m 2 10 = 0 ∧ 27 ≤ q.1 ∧ q.1 ≤ 32 ∧ q.2.length ≤ 1600 ∧ sg_ok 2 (decide (q.1 < 30)) q.2 []) := fun g c hg hR hrun => by
    obtain ⟨q, m3, c1, c2, c3, c4⟩ := hR (xA T n s) [] m2 S2 Y2 F2 (Nat.zero_le _)
    have fT : ∀ m, sh_fr nV m3 m → (∀ x k, ¬ nQc x k → sh_i m x k = sh_i μ x k ∧ sh_l m x k = sh_l μ x k) := fun m f x k z => by
      have y1 := f.2 x k (fun q => z (Or.inl q))
      have y2 := c3.2 x k (by unfold nFm; rintro (q | q | q) <;> first | exact z (Or.inl q) | exact z (Or.inr (Or.inl q)) | exact z (Or.inr (Or.inr (Or.inl q))))
      have y3 := a2.2 x k (fun q => z (Or.inl q))
      refine ⟨y1.1.trans (y2.1.trans ((i2 x k (fun q => z (Or.inr (Or.inl q))) (fun q => z (Or.inr (Or.inr (Or.inr q))))).trans y3.1)), y1.2.trans (y2.2.trans (Eq.trans ?_ y3.2))⟩
      rw [hm2]
      rfl
    have rT : ∀ m, sh_fr nV m3 m → (∀ x k, ¬ (x = 6 ∧ k = 1) → sh_r m x k = sh_r μ x k) ∧ sh_r m 6 1 = some 3 := fun m f => ⟨fun x k z => by rw [f.1, c3.1, ref2' x k z, a2.1], by rw [f.1, c3.1]; exact ref2⟩
    cases q with
    | inl e =>
      have e1 : sh_i m3 2 10 = zI e.1 ∧ sh_i m3 2 11 = zI e.2 ∧ _ := c4
      have fk : 1 ≤ e.1 ∧ e.1 < 10 := c1.fe
      refine ⟨.inl e, -1, m3, by unfold QRt; rw [if_pos h27, ← hg]; exact ⟨.inl e, c1, rfl⟩, ?_, fT m3 sh_fr.rf, (rT m3 sh_fr.rf).1, Or.inr (rT m3 sh_fr.rf).2, fun e' he => by cases he; exact ⟨e1.1, e1.2.1, fk.1, fk.2⟩, fun q hq => (by cases hq)⟩
      rw [hrun, show c m2 = some (0, m3) from c2, shb_ap, if_pos rfl]
    | inr a =>
      have e1 : cS m3 T n a.1 ∧ sm_form m3 3 ([] ++ a.2) := c4
      rw [List.nil_append] at e1
      obtain ⟨m4, d1, d2, d3⟩ := cl_mark (c := -1) e1.1 (by omega)
      have run2 : f_X2_readQuestion 3 μ = sh_bind (f_X8_takesMark (-1) m3) (fun y24 μ22 => (if y24 = 0 then some ((-1), μ22) else some (zI (xw T n s), μ22))) := by
        rw [hrun, show c m2 = some (1, m3) from c2, shb_ap, if_neg (show ¬ (1 : Int32) = 0 by decide)]
      cases hx : x_mark T n (-1) a.1 with
      | inl e =>
        rw [hx] at d1 d3
        have fk := x_mark_e hx
        refine ⟨.inl e, -1, m4, by unfold QRt; rw [if_pos h27, ← hg]; exact ⟨.inr a, c1, by show _ = xb (x_mark T n (-1) a.1) _; rw [hx]; rfl⟩, ?_, fT m4 d2, (rT m4 d2).1, Or.inr (rT m4 d2).2, fun e' he => by cases he; exact ⟨d3.1, d3.2, fk.1, fk.2⟩, fun q hq => (by cases hq)⟩
        rw [run2, show f_X8_takesMark (-1) m3 = some (0, m4) from d1, shb_ap, if_pos rfl]
      | inr s5 =>
        rw [hx] at d1 d3
        have hpos := c1.pos hA.2
        obtain ⟨-, p2, p3, -⟩ := hpos
        refine ⟨.inr ((xw T n s).toNat, a.2), zI (xw T n s), m4, by unfold QRt; rw [if_pos h27, ← hg]; exact ⟨.inr a, c1, by show _ = xb (x_mark T n (-1) a.1) _; rw [hx]; rfl⟩, ?_, fT m4 d2, (rT m4 d2).1, Or.inr (rT m4 d2).2, fun e' he => (by cases he), fun q hq => ?_⟩
        · rw [run2, show f_X8_takesMark (-1) m3 = some (1, m4) from d1, shb_ap, if_neg (show ¬ (1 : Int32) = 0 by decide)]
        · cases hq
          refine ⟨?_, e1.2.cg (d2.row 3 (fun k => by unfold nV; omega)) (d2.row (3 + 1) (fun k => by unfold nV; omega)), (show cS m4 T n s5 from d3).2.2.2, by show 27 ≤ (xw T n s).toNat; omega, by show (xw T n s).toNat ≤ 32; omega, by show a.2.length ≤ 1600; omega, ?_⟩
          · show _ = zI (((xw T n s).toNat : Nat) : Int)
            rw [show (((xw T n s).toNat : Nat) : Int) = xw T n s by omega]
          · show sg_ok 2 (decide ((xw T n s).toNat < 30)) a.2 []
            by_cases c29 : xw T n s ≤ 29
            · rw [if_pos c29] at hg
              rw [decide_eq_true (by omega)]
              rw [hg] at c1
              exact c1.ok9
            · rw [if_neg c29] at hg
              rw [decide_eq_false (by omega)]
              rw [hg] at c1
              exact c1.ok7
  have x27 : ¬ zI (xw T n s) < 27 := fun z => by have := (zI_lt (b := 27) (by omega) (by omega) (by omega) (by omega)).mp z; omega
  have x32 : zI (xw T n s) ≤ 32 := (zI_le (b := 32) (by omega) (by omega) (by omega) (by omega)).mpr (by omega)
  by_cases c29 : xw T n s ≤ 29
  · refine main 9 (f_X2_test_top 0) (by rw [if_pos c29]) (cl_testTop (by omega)) ?_
    unfold f_X2_readQuestion
    rw [w4, if_pos rfl, w5, shl_ap, if_neg x27, if_pos x32, a1, shv_ap, hbeg, shv_ap, if_neg (show ¬ (29 : Int32) < zI (xw T n s) from fun z => by have := (zI_lt (a := 29) (by omega) (by omega) (by omega) (by omega)).mp z; omega)]
  · refine main 7 (f_X2_sum_top 0) (by rw [if_neg c29]) (cl_sumTop (by omega)) ?_
    unfold f_X2_readQuestion
    rw [w4, if_pos rfl, w5, shl_ap, if_neg x27, if_pos x32, a1, shv_ap, hbeg, shv_ap, if_pos (show (29 : Int32) < zI (xw T n s) from (zI_lt (a := 29) (by omega) (by omega) (by omega) (by omega)).mpr (by omega))]
end Aq6
