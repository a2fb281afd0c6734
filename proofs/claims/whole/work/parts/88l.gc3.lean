/-! the class reads parts -/
section Ge
variable {T : Nat → Nat} {n kd F : Nat}
theorem cl_opensG {μ : sh_Mem} {s : xs} {o : Nat} (hS : cS μ T n s) (ho : o < 6) : ∃ μ', f_X2_opens (zI o) μ = some (1, μ') ∧ sh_fr nV μ μ' ∧ cS μ' T n (xA T n s) := by
  obtain ⟨m1, k1, k2, k3, -⟩ := cl_adv hS
  refine ⟨m1, ?_, k2, k3⟩
  unfold f_X2_opens
  rw [if_pos (show zI (o : Int) < 6 from (zI_lt (b := 6) (by omega) (by omega) (by omega) (by omega)).mpr (by omega)), k1, shv_ap]
theorem cl_opensX {μ : sh_Mem} {s : xs} {o : Nat} (hS : cS μ T n s) (ho : 6 ≤ o ∧ o < 100) : ∃ μ', f_X2_opens (zI o) μ = some (0, μ') ∧ sh_fr nV μ μ' ∧ cO μ' T n (.inl (4, s.1)) := by
  obtain ⟨m1, k1, k2, k3⟩ := cl_fails (T := T) (n := n) (k := 4) (p := s.1) hS.2.2.2
  have k1' : f_X8_fails 4 (zI (s.1 : Int)) μ = some (0, m1) := k1
  refine ⟨m1, ?_, k2, k3⟩
  unfold f_X2_opens
  rw [if_neg (show ¬ zI (o : Int) < 6 from fun z => by have := (zI_lt (b := 6) (by omega) (by omega) (by omega) (by omega)).mp z; omega), hS.2.1.2.2.2.1, k1', shb_ap, if_pos (Or.inl rfl)]
theorem cO_Q {μ μ' : sh_Mem} {l : List Nat} {e : Nat × Nat} (hF : F ∈ sh_FORMS) (hl : sm_form μ F l) (hll : l.length ≤ 1600) (hf : sh_fr nV μ μ') (h : cO μ' T n (.inl e)) : cQ μ' T n F l (.inl e) := ⟨h.1, h.2, form_len (form_fr hl hF hf) hll⟩
theorem nV_F {r k : Nat} (h : nV r k) : nFm F r k := Or.inl h
theorem cl_aw0 {m : sh_Mem} {l : List Nat} {e : Nat × Nat} {x : Int32} (hF : F ∈ sh_FORMS) (h : cQ m T n F l (.inl e)) : ∃ m3, f_X1_addWord F x m = some m3 ∧ sh_fr (nFm F) m m3 ∧ cQ m3 T n F l (.inl e) := by
  have hb := FORMS_b hF
  obtain ⟨q1, q2, k, q3, q4⟩ := h
  obtain ⟨m3, a1, a2, a3, -⟩ := cl_add0 (x := -1 - x) hF q3 q4
  refine ⟨m3, ?_, a2.mono (fun r k z => Or.inr z), by rw [a2.i _ _ (by omega)]; exact q1, by rw [a2.i _ _ (by omega)]; exact q2, a3⟩
  unfold f_X1_addWord
  rw [a1, shv_ap]
theorem cl_aw1 {m : sh_Mem} {l : List Nat} {q : xs × List Nat} {x : Int32} {t : Nat} (hF : F ∈ sh_FORMS) (em : (-1 : Int32) - x = zI (sg_c t)) (h : cQ m T n F l (.inr q)) (hlen : l.length + q.2.length < 1600) : ∃ m3, f_X1_addWord F x m = some m3 ∧ sh_fr (nFm F) m m3 ∧ cQ m3 T n F l (gB [t] (.inr q)) := by
  obtain ⟨q1, q2⟩ := h
  obtain ⟨m3, a1, a2, a3⟩ := cl_add (t := t) hF (by rw [List.length_append]; exact hlen) q2
  refine ⟨m3, ?_, a2.mono (fun r k z => Or.inr z), q1.fr hF a2, ?_⟩
  · unfold f_X1_addWord
    rw [em, a1, shv_ap]
  · show sm_form m3 F (l ++ (q.2 ++ [t]))
    rw [← List.append_assoc]
    exact a3
theorem cl_gM {m : sh_Mem} {l : List Nat} {q : xs × List Nat} {c : Int} (hF : F ∈ sh_FORMS) (hc : -10 ≤ c ∧ c < 256) (h : cQ m T n F l (.inr q)) (hlen : l.length + q.2.length ≤ 1600) : ∃ m3, f_X8_takesMark (zI c) m = some (zI (bI (gM T n c (.inr q)).isRight), m3) ∧ sh_fr (nFm F) m m3 ∧ cQ m3 T n F l (gM T n c (.inr q)) := by
  obtain ⟨q1, q2⟩ := h
  obtain ⟨m3, k1, k2, k3⟩ := cl_mark q1 hc
  have hlen' : (l ++ q.2).length ≤ 1600 := by rw [List.length_append]; exact hlen
  refine ⟨m3, ?_, k2.mono (fun r k z => nV_F z), ?_⟩
  · rw [k1]
    by_cases z : xK T n q.1.1 q.1.2 = c
    · rw [gM_t z, show x_mark T n c q.1 = .inr (xA T n q.1) from if_pos z]
      rfl
    · rw [gM_f z, show x_mark T n c q.1 = .inl (1, q.1.1) from if_neg z]
      rfl
  · by_cases z : xK T n q.1.1 q.1.2 = c
    · rw [show x_mark T n c q.1 = .inr (xA T n q.1) from if_pos z] at k3
      rw [gM_t z]
      exact ⟨k3, form_fr q2 hF k2⟩
    · rw [show x_mark T n c q.1 = .inl (1, q.1.1) from if_neg z] at k3
      rw [gM_f z]
      exact ⟨k3.1, k3.2, form_len (form_fr q2 hF k2) hlen'⟩
end Ge
