/-! THE REFERENCE: a whole text -/
section Sm6
variable {T : Nat → Nat} {n : Nat} {μ0 μ μ' : sh_Mem} {s s' : xs} {P : sp_T} {L : sl_T} {cod stt : Nat}
/-- the end of it -/
noncomputable def endT (m : sh_Mem) : Option (Int32 × sh_Mem) := sh_let (sh_setI m 291 7 (sh_i m 291 5)) (fun μ90 => sh_let (sh_setI μ90 291 8 (sh_i μ90 291 6)) (fun μ91 => (if (sh_i μ91 291 5) = 0 then sh_bindv (f_X12_stands μ91) (fun μ93 => some ((sh_i μ93 291 49), μ93)) else sh_let (sh_setI μ91 293 (Int32.toNatClampNeg 1) ((sh_i μ91 293 (Int32.toNatClampNeg 1)) + 1)) (fun μ96 => some ((-1), μ96)))))
theorem endX {f : Nat} {i1 : Int32} {e : Nat × Nat} (h : mXf μ0 μ e) : F_X12_plain (f + 1) 3 i1 μ = endT μ := by
  rw [F_X12_plain, if_neg h.ne]
  rfl
/-- what it leaves -/
def mOT (μ0 m : sh_Mem) (r : xo (Nat × dT)) : Prop := (∀ e, r = .inl e → mXf μ0 m e) ∧ (∀ q, r = .inr q → sh_fr nDm μ0 m ∧ sh_i m 291 5 = 0 ∧ sh_i m 291 49 = zI (q.1 : Nat) ∧ ∃ cod, cod ≤ 1600 ∧ mDr m q.2.1 q.2.2 cod)
theorem rf_loop (hw : hA μ0) (hb0 : hB μ0) {i1 : Int32} : ∀ (k f : Nat) (s : xs) (P : sp_T) (L : sl_T) (cod : Nat) (μ : sh_Mem) (r : xo (Nat × dT)), k ≤ 79 → k + 3 ≤ f → LRt T n k s P L r → mD μ0 μ T n s P L cod (80 - k) → dOK P L → (sh_i μ 291 6 = -1 ∧ sh_G μ) → ∃ m, F_X12_plain f 3 i1 μ = endT m ∧ mOT μ0 m r ∧ (sh_i m 291 5 = 0 → sh_i m 291 6 = -1) := by
  have goodE : ∀ (f : Nat) (s : xs) (P : sp_T) (L : sl_T) (cod st : Nat) (μ : sh_Mem), xK T n s.1 s.2 = -1 → mD μ0 μ T n s P L cod st → dOK P L → sh_i μ 291 6 = -1 → ∃ m, F_X12_plain (f + 1) 3 i1 μ = endT m ∧ mOT μ0 m (.inr (st, P, L)) ∧ (sh_i m 291 5 = 0 → sh_i m 291 6 = -1) := fun f s P L cod st μ hK h hd h6 => by
    obtain ⟨m1, a1, a2, a3⟩ := rf_look h.2.1
    have h1 := h.lex (a2.mono (fun _ _ z => nLk_M z)) a3.S (Nat.le_refl _)
    refine ⟨m1, ?_, ⟨fun e he => (by cases he), fun q hq => ?_⟩, fun _ => by rw [a2.i 291 6 (by unfold nLk; omega)]; exact h6⟩
    · rw [F_X12_plain, h.2.1.2.2.1, if_pos rfl, a1, shb_ap, xc_eq h.2.1 (Or.inr rfl) hK, if_pos (show zI (-1) = -1 from rfl)]
      rfl
    · cases hq
      have hle := h1.2.1.le
      exact ⟨h1.1, h1.2.1.2.2.1, h1.2.2.2.2, cod, by have := h1.2.2.2.1; omega, h1.2.2.1⟩
  intro k
  induction k with
  | zero =>
    intro f s P L cod μ r hk hf hr h hd h6
    obtain ⟨f, rfl⟩ : ∃ f', f = f' + 1 + 1 := ⟨f - 2, by omega⟩
    unfold LRt at hr
    by_cases c : xK T n s.1 s.2 = -1
    · rw [if_pos c] at hr
      rw [hr]
      exact goodE (f + 1) s P L cod 80 μ c h hd h6.1
    · rw [if_neg c] at hr
      obtain ⟨m1, a1, a2, a3⟩ := rf_look h.2.1
      have h1 := h.lex (a2.mono (fun _ _ z => nLk_M z)) a3.S (Nat.le_refl _)
      obtain ⟨m2, r1, r2, r3⟩ := rf_fail (T := fun _ => 0) (n := 0) (μ := m1) (k := 5) (p := s.1) a3.2.2.1
      have F : mXf μ0 m2 (5, s.1) := ⟨h1.1.trans (r2.mono (fun _ _ z => nD_M z)), r3.1, r3.2, by simp, by simp⟩
      refine ⟨m2, ?_, ⟨fun e he => by rw [hr] at he; cases he; exact F, fun q hq => by rw [hr] at hq; cases hq⟩, fun z => absurd z F.ne⟩
      have e1 : f_X12_statementTold m1 = some m2 := by
        unfold f_X12_statementTold
        rw [a3.2.2.2.2.1, shl_ap, if_pos (show sh_i m1 291 49 = 80 by rw [h1.2.2.2.2]; rfl), show f_X12_fail 5 (zI (s.1 : Int)) m1 = some m2 from r1, shv_ap]
      rw [F_X12_plain, h.2.1.2.2.1, if_pos rfl, a1, shb_ap, if_neg (show ¬ zI (xc T n s) = -1 from xc_ne (c := -1) h.2.1 (Or.inr rfl) c), e1, shv_ap]
      exact endX F
  | succ k ih =>
    intro f s P L cod μ r hk hf hr h hd h6
    obtain ⟨f, rfl⟩ : ∃ f', f = f' + 1 + 1 := ⟨f - 2, by omega⟩
    unfold LRt at hr
    by_cases c : xK T n s.1 s.2 = -1
    · rw [if_pos c] at hr
      rw [hr]
      exact goodE (f + 1) s P L cod (80 - (k + 1)) μ c h hd h6.1
    rw [if_neg c] at hr
    obtain ⟨rs, q1, q2⟩ := hr
    have hle := h.2.1.le
    have hok := q1.ok hd hle.1 hle.2
    obtain ⟨m1, a1, a2, a3⟩ := rf_look h.2.1
    have h1 := h.lex (a2.mono (fun _ _ z => nLk_M z)) a3.S (Nat.le_refl _)
    have G1 := gp_X12_look h6.2 a1
    have I1 : rI μ m1 := ri_X12_look h6.2 a1
    obtain ⟨m2, e1, e2, e3⟩ := rf_stmt hw hb0 h1 a3 hd (by omega) q1
    have G2 := gp_X12_statementTold G1 e1
    have I2 : rI m1 m2 := ri_X12_statementTold G1 e1
    have i6 := (I1.trans I2) (fun _ => h6.1)
    have st : F_X12_plain (f + 1 + 1) 3 i1 μ = F_X12_plain (f + 1) 3 i1 m2 := by
      rw [F_X12_plain, h.2.1.2.2.1, if_pos rfl, a1, shb_ap, if_neg (show ¬ zI (xc T n s) = -1 from xc_ne (c := -1) h.2.1 (Or.inr rfl) c), e1, shv_ap]
    have bad : ∀ e, mXf μ0 m2 e → r = .inl e → ∃ m, F_X12_plain (f + 1 + 1) 3 i1 μ = endT m ∧ mOT μ0 m r ∧ (sh_i m 291 5 = 0 → sh_i m 291 6 = -1) := fun e F he => ⟨m2, by rw [st]; exact endX F, ⟨fun e' z => by rw [he] at z; cases z; exact F, fun q z => by rw [he] at z; cases z⟩, fun z => absurd z F.ne⟩
    cases rs with
    | inl e => exact bad e (e2 e rfl) q2
    | inr q =>
      obtain ⟨hd1, -, -⟩ := hok
      obtain ⟨g1, g2⟩ := e3 q rfl
      have q2' : (match x_mark T n 59 q.1 with | .inl e => r = .inl e | .inr s2 => LRt T n k s2 q.2.1 q.2.2 r) := q2
      cases hx : x_mark T n 59 q.1 with
      | inl e =>
        rw [hx] at q2'
        exact bad e (g1 e hx) q2'
      | inr s2 =>
        rw [hx] at q2'
        obtain ⟨cod', D⟩ := g2 s2 hx
        rw [show 80 - (k + 1) + 1 = 80 - k by omega] at D
        rw [st]
        exact ih (f + 1) s2 q.2.1 q.2.2 cod' m2 r (by omega) (by omega) q2' D hd1 ⟨i6 D.2.1.2.2.1, G2⟩
/-- the head of a text -/
theorem rf_head (hS : mS μ T n s) (hw : hA μ) : ∃ m, f_X12_plainTold μ = some m ∧ sh_fr (fun r k => nM r k ∨ (r = 321 ∧ k < 2)) μ m ∧ (∀ e, st_plain T n s = .inl e → sh_i m 291 5 = zI e.1 ∧ sh_i m 291 6 = zI e.2 ∧ 1 ≤ e.1 ∧ e.1 < 10) ∧ (∀ q, st_plain T n s = .inr q → mS m T n q.2.2 ∧ sh_i m 321 0 = zI (q.1 : Nat) ∧ sh_i m 321 1 = zI (q.2.1 : Nat)) := sorry
end Sm6
