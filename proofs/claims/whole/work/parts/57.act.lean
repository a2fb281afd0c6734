/-! acts: teach, go, ease, undo -/
theorem sm_mP.off {μ μ' : sh_Mem} {P : sp_T} (h : sm_mP μ P) (hf : sh_offM μ μ') : sm_mP μ' P := h.cg (by rw [(hf 291 (by omega)).1]) (fun j h1 h2 => (hf j (by omega)).1) (hf 323 (by omega)).2.1
theorem off290 {μ : sh_Mem} {k : Nat} {x : Int32} : sh_offM μ (sh_setI μ 290 k x) := sh_offM_I sh_offM.rf (by omega)
def sm_NA (r k : Nat) : Prop := r < 291 ∧ (¬ sm_A r k ∨ (49 ≤ r ∧ r ≤ 54) ∨ r = 64 ∨ (r = 63 ∧ k = 1) ∨ (r = 0 ∧ k = 16))
def sm_NB (r k : Nat) : Prop := 291 ≤ r ∧ (¬ sm_A r k ∨ r = 330 ∨ (r = 291 ∧ (k = 57 ∨ k = 60 ∨ k = 78)))
theorem A1 {r k : Nat} (h1 : 8 ≤ r) (h2 : r ≤ 54) (h3 : ¬ (r = 15 ∨ r = 18 ∨ r = 21 ∨ r = 28 ∨ r = 36 ∨ r = 39 ∨ r = 42)) : sm_A r k := Or.inl (Or.inl ⟨h1, h2, h3⟩)
theorem A2 {r k : Nat} (h1 : 63 ≤ r) (h2 : r ≤ 207) : sm_A r k := Or.inl (Or.inr (Or.inl ⟨h1, h2⟩))
theorem A3 {k : Nat} : sm_A 216 k := Or.inl (Or.inr (Or.inr (Or.inr (Or.inl rfl))))
theorem A4 {r k : Nat} (h1 : 321 ≤ r) (h2 : r ≤ 330) : sm_A r k := Or.inl (Or.inr (Or.inr (Or.inr (Or.inr (Or.inl ⟨h1, h2⟩)))))
theorem A5 {k : Nat} : sm_A 338 k := Or.inl (Or.inr (Or.inr (Or.inr (Or.inr (Or.inr (Or.inl rfl))))))
theorem A6 {k : Nat} : sm_A 340 k := Or.inl (Or.inr (Or.inr (Or.inr (Or.inr (Or.inr (Or.inr (Or.inl rfl)))))))
theorem A7 {k : Nat} (h : k = 50 ∨ k = 57 ∨ k = 60 ∨ k = 71 ∨ k = 76 ∨ k = 77) : sm_A 291 k := Or.inl (Or.inr (Or.inr (Or.inr (Or.inr (Or.inr (Or.inr (Or.inr (Or.inl ⟨rfl, h⟩))))))))
theorem AW {r k : Nat} (h : (294 ≤ r ∧ r ≤ 320) ∨ (341 ≤ r ∧ r ≤ 363)) : sm_A r k := Or.inl (Or.inr (Or.inr (Or.inr (Or.inr (Or.inr (Or.inr (Or.inr (Or.inr h))))))))
theorem A8 : sm_A 208 4 := Or.inl (Or.inr (Or.inr (Or.inl ⟨rfl, rfl⟩)))
theorem A9 {k : Nat} (h : k = 1 ∨ k = 14 ∨ k = 15 ∨ k = 16 ∨ k = 18) : sm_A 0 k := Or.inr (Or.inl ⟨rfl, h⟩)
theorem A10 {r k : Nat} (h : r = 1 ∨ r = 289 ∨ r = 290 ∨ r = 292 ∨ r = 293 ∨ r = 367) : sm_A r k := by
  rcases h with rfl | rfl | rfl | rfl | rfl | rfl
  · exact Or.inr (Or.inr (Or.inl rfl))
  · exact Or.inr (Or.inr (Or.inr (Or.inl rfl)))
  · exact Or.inr (Or.inr (Or.inr (Or.inr (Or.inl rfl))))
  · exact Or.inr (Or.inr (Or.inr (Or.inr (Or.inr (Or.inr (Or.inl rfl))))))
  · exact Or.inr (Or.inr (Or.inr (Or.inr (Or.inr (Or.inr (Or.inr (Or.inl rfl)))))))
  · exact Or.inr (Or.inr (Or.inr (Or.inr (Or.inr (Or.inr (Or.inr (Or.inr rfl)))))))
theorem A11 {k : Nat} (h : k = 1 ∨ k = 7 ∨ k = 8 ∨ k = 78 ∨ k = 113) : sm_A 291 k := Or.inr (Or.inr (Or.inr (Or.inr (Or.inr (Or.inl ⟨rfl, h⟩)))))
theorem NA_n {r k : Nat} (h : sm_A r k) (h2 : ¬ (49 ≤ r ∧ r ≤ 54)) (h3 : ¬ r = 64) (h4 : ¬ (r = 63 ∧ k = 1)) (h5 : ¬ (r = 0 ∧ k = 16)) : ¬ sm_NA r k := by
  rintro ⟨-, z | z | z | z | z⟩
  · exact z h
  · exact h2 z
  · exact h3 z
  · exact h4 z
  · exact h5 z
theorem NB_n {r k : Nat} (h : sm_A r k) (h2 : ¬ r = 330) (h3 : ¬ (r = 291 ∧ (k = 57 ∨ k = 60 ∨ k = 78))) : ¬ sm_NB r k := by
  rintro ⟨-, z | z | z⟩
  · exact z h
  · exact h2 z
  · exact h3 z
theorem Sim.act {μ μr μ1 μs μ2 : sh_Mem} {t : Nat} {P : sp_T} {L L' : sl_T} (h : Sim μ) (hG2 : sh_G μ2) (hR : sm_rest μ t P L) (hr : f_X4_remember 49 μ = some μr) (fA : sh_fr sm_NA μr μ1) (hs : f_X12_stores μ1 = some μs) (fB : sh_fr sm_NB μs μ2) (l1 : sl_ok P L') (l2 : sm_cL μ2 49 P L') (l3 : sm_mL (sh_i μ2 330) 0 P L') (l4 : sm_kept (sh_i μ2 64) (sh_i μ2 63 1) (sh_i μ2 330) 0) (l5 : sh_i μ2 291 57 = 0) (l6 : sh_i μ2 291 60 = 0) (l7 : sm_seed μ2) : Sim μ2 := by
  obtain ⟨a1, a2, a3, a4, a5, a6, a7, a8, a9, a10, a11, a12, a13, a14, a15⟩ := hR
  obtain ⟨b1, b2, b3, b4, b5, b6, -⟩ := h
  have hr0 := hr
  obtain ⟨a, o, w, c1, c2, c3, c4, c5, c6, c7, -⟩ := id a9
  obtain ⟨μr', x1, x2, -⟩ := cl_remember c1 c2 c4 c5
  obtain rfl : μr' = μr := Option.some.inj (x1.symm.trans hr)
  have x3 : sh_fr (fun r k => (67 ≤ r ∧ r ≤ 207) ∨ (r = 63 ∧ (k = 2 ∨ k = 3))) μ μr' := x2.mono (fun r k q => by omega)
  have n1 : ∀ r k, 291 ≤ r → sh_i μ1 r k = sh_i μ r k := fun r k q => (fA.i r k (fun z => by have := z.1; omega)).trans (x3.i r k (by omega))
  have nr1 : ∀ r, 291 ≤ r → sh_i μ1 r = sh_i μ r := fun r q => funext fun k => n1 r k q
  obtain ⟨μs', y1, y2, -⟩ := rf_stores c1 c3 ((n1 291 76 (by omega)).trans c6) ((n1 291 77 (by omega)).trans c7)
  obtain rfl : μs' = μs := Option.some.inj (y1.symm.trans hs)
  have y3 : sh_fr (fun r k => r = 340 ∨ (r = 291 ∧ (k = 76 ∨ k = 77))) μ1 μs' := y2.mono (fun r k q => by omega)
  have hi : ∀ r k, sm_A r k → ¬ (63 ≤ r ∧ r ≤ 207) → ¬ (49 ≤ r ∧ r ≤ 54) → ¬ (r = 0 ∧ k = 16) → ¬ r = 340 → ¬ r = 330 → ¬ (r = 291 ∧ (k = 57 ∨ k = 60 ∨ k = 76 ∨ k = 77 ∨ k = 78)) → sh_i μ2 r k = sh_i μ r k ∧ sh_l μ2 r k = sh_l μ r k := by
    intro r k q0 q1 q3 q5 q6 q7 q8
    have z1 := fB.2 r k (NB_n q0 q7 (by omega))
    have z2 := y3.2 r k (by omega)
    have z3 := fA.2 r k (NA_n q0 q3 (by omega) (by omega) q5)
    have z4 := x3.2 r k (by omega)
    exact ⟨z1.1.trans (z2.1.trans (z3.1.trans z4.1)), z1.2.trans (z2.2.trans (z3.2.trans z4.2))⟩
  have hrow : ∀ r, (∀ k, sm_A r k) → ¬ (63 ≤ r ∧ r ≤ 207) → ¬ (49 ≤ r ∧ r ≤ 54) → ¬ r = 0 → ¬ r = 340 → ¬ r = 330 → ¬ r = 291 → sh_i μ2 r = sh_i μ r := fun r q0 q1 q3 q5 q6 q7 q8 => funext fun k => (hi r k (q0 k) q1 q3 (fun z => q5 z.1) q6 q7 (fun z => q8 z.1)).1
  have z10 : ∀ r, r = 1 ∨ r = 289 ∨ r = 290 ∨ r = 292 ∨ r = 293 ∨ r = 367 → sh_i μ2 r = sh_i μ r := fun r q => hrow r (fun k => A10 q) (by omega) (by omega) (by omega) (by omega) (by omega) (by omega)
  have z1 : ∀ r, 8 ≤ r → r ≤ 48 → ¬ (r = 15 ∨ r = 18 ∨ r = 21 ∨ r = 28 ∨ r = 36 ∨ r = 39 ∨ r = 42) → sh_i μ2 r = sh_i μ r := fun r q1 q2 q3 => hrow r (fun k => A1 q1 (by omega) q3) (by omega) (by omega) (by omega) (by omega) (by omega) (by omega)
  have z4 : ∀ r, 321 ≤ r → r ≤ 329 → sh_i μ2 r = sh_i μ r := fun r q1 q2 => hrow r (fun k => A4 q1 (by omega)) (by omega) (by omega) (by omega) (by omega) (by omega) (by omega)
  have z0 : ∀ k, k = 1 ∨ k = 14 ∨ k = 15 ∨ k = 18 → sh_i μ2 0 k = sh_i μ 0 k := fun k q => (hi 0 k (A9 (by omega)) (by omega) (by omega) (by omega) (by omega) (by omega) (by omega)).1
  have z9 : ∀ k, k = 1 ∨ k = 7 ∨ k = 8 ∨ k = 113 → sh_i μ2 291 k = sh_i μ 291 k := fun k q => (hi 291 k (A11 (by omega)) (by omega) (by omega) (by omega) (by omega) (by omega) (by omega)).1
  have z7 : ∀ k, k = 50 ∨ k = 71 → sh_i μ2 291 k = sh_i μ 291 k := fun k q => (hi 291 k (A7 (by omega)) (by omega) (by omega) (by omega) (by omega) (by omega) (by omega)).1
  have ht : sh_isP t := a1.1
  have t4 : ∀ j, j ≤ 12 → ¬ j = 7 → ¬ j = 10 → sh_i μ2 (t + j) = sh_i μ (t + j) := by
    intro j hj hj7 hj10
    rcases ht with rfl | rfl
    · exact z1 _ (by omega) (by omega) (by omega)
    · exact z1 _ (by omega) (by omega) (by omega)
  have w2 : ∀ r k, (67 ≤ r ∧ r ≤ 207) ∨ (r = 63 ∧ (k = 2 ∨ k = 3)) → sh_i μ2 r k = sh_i μr' r k := fun r k q => by
    rw [fB.i r k (fun z => by have := z.1; omega), y3.i r k (by omega), fA.i r k (NA_n (A2 (by omega) (by omega)) (by omega) (by omega) (by omega) (by omega))]
  refine ⟨hG2, b2.cg (z0 _ (by omega)) (z9 _ (by omega)) (z10 _ (by omega)) (z10 _ (by omega)), b3.cg (z0 _ (by omega)) (z0 _ (by omega)) (z9 _ (by omega)) (z9 _ (by omega)), b4.cg (z10 _ (by omega)) (z10 _ (by omega)), l7, b6.cg (z0 _ (by omega)) (z9 _ (by omega)) (z10 _ (by omega)) (z10 _ (by omega)), t, P, L', a1.cg (fB.1.trans (y3.1.trans (fA.1.trans x3.1))), a2, l1, a4.cg t4, a5.cg (z7 _ (by omega)) z4 (funext fun k => (hi 323 k (A4 (by omega) (by omega)) (by omega) (by omega) (by omega) (by omega) (by omega) (by omega)).2), l2, l3, l4, ?_, a10.cg (hi 208 4 A8 (by omega) (by omega) (by omega) (by omega) (by omega) (by omega)).1 (z7 _ (by omega)) (hrow 216 (fun k => A3) (by omega) (by omega) (by omega) (by omega) (by omega) (by omega)) (hrow 338 (fun k => A5) (by omega) (by omega) (by omega) (by omega) (by omega) (by omega)), l5, l6, by rw [z1 22 (by omega) (by omega) (by omega)]; exact a13, by rw [z1 43 (by omega) (by omega) (by omega)]; exact a14, fun q hq j hj => (hi _ _ (AW (sw_rng q hq)) (by have := sw_rng q hq; omega) (by have := sw_rng q hq; omega) (by have := sw_rng q hq; omega) (by have := sw_rng q hq; omega) (by have := sw_rng q hq; omega) (by have := sw_rng q hq; omega)).1.trans (a15 q hq j hj)⟩
  exact a9.push a2 a3 a6 a7 a8 hr0 (nr1 330 (by omega)) (nr1 340 (by omega)) (n1 291 76 (by omega)) (n1 291 77 (by omega)) hs (fun r z1 z2 => funext fun k => w2 r k (by omega)) (w2 63 2 (by omega)) (w2 63 3 (by omega)) (funext fun k => fB.i 340 k (NB_n A6 (by omega) (by omega))) (fB.i 291 76 (NB_n (A7 (by omega)) (by omega) (by omega))) (fB.i 291 77 (NB_n (A7 (by omega)) (by omega) (by omega)))
theorem rf_isRefused {μ : sh_Mem} : f_X12_isRefused μ = some (0, sh_setI μ 293 2 (sh_i μ 293 2 + 1)) := rfl
