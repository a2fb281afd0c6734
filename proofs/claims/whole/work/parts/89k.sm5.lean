/-! THE REFERENCE: any statement -/
section Sm5
variable {T : Nat → Nat} {n : Nat} {μ0 μ μ' : sh_Mem} {s s' : xs} {P : sp_T} {L : sl_T} {cod stt : Nat}
/-- behind a statement and its mark -/
def mOQ (μ0 m : sh_Mem) (T : Nat → Nat) (n stt : Nat) (r : xd) : Prop := (∀ e, r = .inl e → mXf μ0 m e) ∧ (∀ q, r = .inr q → (∀ e, x_mark T n 59 q.1 = .inl e → mXf μ0 m e) ∧ (∀ s2, x_mark T n 59 q.1 = .inr s2 → ∃ cod', mD μ0 m T n s2 q.2.1 q.2.2 cod' (stt + 1)))
noncomputable def tlT (x : Option sh_Mem) : Option sh_Mem := sh_bindv x (fun μ46 => sh_bindv (f_X12_asksSign 59 μ46) (fun μ49 => sh_let (sh_setI μ49 291 49 ((sh_i μ49 291 49) + 1)) (fun μ52 => some μ52)))
theorem mXf.st {e : Nat × Nat} {v : Int32} (h : mXf μ0 μ e) : mXf μ0 (sh_setI μ 291 49 v) e := ⟨h.1.trans (sh_fr_I sh_fr.rf (by unfold nDm; omega)), by rw [ir_set_k (by omega)]; exact h.2.1, by rw [ir_set_k (by omega)]; exact h.2.2.1, h.2.2.2⟩
theorem rf_tlX {e : Nat × Nat} {r : xd} {m : sh_Mem} (h : mXf μ0 m e) (hr : r = .inl e) : ∃ m', tlT (some m) = some m' ∧ mOQ μ0 m' T n stt r := by
  refine ⟨sh_setI m 291 49 (sh_i m 291 49 + 1), ?_, fun e' he => by rw [hr] at he; cases he; exact h.st, fun q hq => by rw [hr] at hq; cases hq⟩
  unfold tlT
  rw [shv_ap, as_X h.ne, shv_ap, shl_ap]
theorem rf_tl {c : sh_Mem → Option sh_Mem} {r : xd} (h : mSst T n μ0 stt cod c r μ) : ∃ m, tlT (c μ) = some m ∧ mOQ μ0 m T n stt r := sorry
theorem mD.tk {w : Nat} (h : mD μ0 μ T n s P L cod stt) (hw : hA μ0) (hw2 : w < 27) : ∃ m, f_X12_takes (294 + w) (WD.getD w []).length μ = some (zI (bI (decide (xw T n s = (w : Int)))), m) ∧ (xw T n s = (w : Int) → mD μ0 m T n (xA T n s) P L cod stt) ∧ (¬ xw T n s = (w : Int) → mD μ0 m T n s P L cod stt) := by
  obtain ⟨m, a1, a2, a3, a4⟩ := rf_takes h.2.1 (show w < 33 by omega) (h.A hw w hw2) (show ¬ 294 + w = 291 by omega)
  have hle := xA_le (T := T) h.2.1.le.1
  exact ⟨m, a1, fun z => h.lex a2 (a3 z) (by omega), fun z => h.lex a2 (a4 z).1.S (Nat.le_refl _)⟩
theorem rf_stmt {r : xd} (hw : hA μ0) (hb0 : hB μ0) (h : mD μ0 μ T n s P L cod stt) (hN : mN μ T n s) (hd : dOK P L) (hst : stt < 80) (hr : SRt T n s P L r) : ∃ m, f_X12_statementTold μ = some m ∧ mOQ μ0 m T n stt r := sorry
end Sm5
