/-! PLAIN -/
section Pn3
variable {T : Nat → Nat} {n t t2 : Nat} {μ μ' : sh_Mem} {P : sp_T} {L : sl_T}
theorem nP_n {r k : Nat} (z : r < 291 ∨ (r = 291 ∧ (k = 50 ∨ k = 57 ∨ k = 60 ∨ k = 71 ∨ k = 76 ∨ k = 77 ∨ k = 78 ∨ k = 113)) ∨ r = 292 ∨ r = 293 ∨ (294 ≤ r ∧ r ≤ 320) ∨ ((r = 321 ∨ r = 322 ∨ r = 327 ∨ r = 328) ∧ 3 ≤ k) ∨ (r = 323 ∧ 16 ≤ k) ∨ (r = 326 ∧ 24 ≤ k) ∨ (r = 329 ∧ 1600 ≤ k) ∨ (330 ≤ r ∧ r ≤ 363) ∨ 366 ≤ r) : ¬ nPl r k := fun q => by
  rcases q with ((q | q) | q | q | q | q | q | q | q | q | q | q) | q
  · unfold nM at q; omega
  · unfold nWq at q; omega
  all_goals omega
/-- where the text is faulty -/
theorem plF {e : Nat × Nat} {m m2 μ2 : sh_Mem} (h : Sim μ) (hR : sm_rest μ t P L) (ht2 : sh_isP t2) (hne : ¬ t2 = t) (hr2 : sh_r μ 7 2 = some t2) (hG2 : sh_G μ2) (c1 : ∀ r k, ¬ nKp t2 r k → sh_i m r k = sh_i μ r k ∧ sh_l m r k = sh_l μ r k) (c2 : ∀ r k, ¬ (r = 6 ∧ k = 1) → sh_r m r k = sh_r μ r k) (c3 : fO m) (c4 : sh_i m 0 1 = 0) (c5 : sh_i m 0 14 = zI e.1) (c6 : sh_i m 0 15 = zI e.2) (r1 : sh_fr nPl (sh_setI m 290 1 (sh_i m 290 1 + 1)) m2) (r2 : sh_i m2 291 1 = 0) (r3 : sh_i m2 291 5 = zI e.1) (r4 : sh_i m2 291 6 = zI e.2) (e2 : μ2 = sh_setI (sh_setI (sh_setI m2 291 7 (zI e.1)) 291 8 (zI e.2)) 293 1 (sh_i m2 293 1 + 1)) : Sim μ2 := by
  have hf2 : sh_fr (fun r k => (r = 291 ∧ (k = 7 ∨ k = 8)) ∨ (r = 293 ∧ k = 1)) m2 μ2 := by
    rw [e2]
    exact sh_fr_I (sh_fr_I (sh_fr_I sh_fr.rf (by omega)) (by omega)) (by omega)
  have hf1 : sh_fr (fun r k => r = 290 ∧ k = 1) m (sh_setI m 290 1 (sh_i m 290 1 + 1)) := sh_fr_I sh_fr.rf ⟨rfl, rfl⟩
  have toM : ∀ r k, ¬ nPl r k → ¬ (r = 291 ∧ (k = 7 ∨ k = 8)) → ¬ (r = 293 ∧ k = 1) → ¬ (r = 290 ∧ k = 1) → sh_i μ2 r k = sh_i m r k ∧ sh_l μ2 r k = sh_l m r k := fun r k z1 z2 z3 z4 => by
    have y1 := hf2.2 r k (by omega)
    have y2 := r1.2 r k z1
    have y3 := hf1.2 r k z4
    exact ⟨y1.1.trans (y2.1.trans y3.1), y1.2.trans (y2.2.trans y3.2)⟩
  have nP : ∀ r k, r < 291 ∨ (r = 291 ∧ (k = 50 ∨ k = 57 ∨ k = 60 ∨ k = 71 ∨ k = 76 ∨ k = 77 ∨ k = 78 ∨ k = 113)) ∨ r = 292 ∨ r = 293 ∨ (294 ≤ r ∧ r ≤ 320) ∨ ((r = 321 ∨ r = 322 ∨ r = 327 ∨ r = 328) ∧ 3 ≤ k) ∨ (r = 323 ∧ 16 ≤ k) ∨ (r = 326 ∧ 24 ≤ k) ∨ (r = 329 ∧ 1600 ≤ k) ∨ (330 ≤ r ∧ r ≤ 363) ∨ 366 ≤ r → ¬ nPl r k := fun r k z => nP_n z
  have all : ∀ r k, ¬ nPl r k → ¬ (r = 291 ∧ (k = 7 ∨ k = 8)) → ¬ (r = 293 ∧ k = 1) → ¬ (r = 290 ∧ k = 1) → ¬ nKp t2 r k → sh_i μ2 r k = sh_i μ r k ∧ sh_l μ2 r k = sh_l μ r k := fun r k z1 z2 z3 z4 z5 => by
    have y1 := toM r k z1 z2 z3 z4
    have y2 := c1 r k z5
    exact ⟨y1.1.trans y2.1, y1.2.trans y2.2⟩
  have nK : ∀ r k, ¬ (r = 0 ∧ (k = 1 ∨ k = 14 ∨ k = 15)) → ¬ r = 2 → ¬ r = 6 → ¬ (t2 ≤ r ∧ r < t2 + 20 ∧ ¬ r = t2 + 14) → ¬ nKp t2 r k := fun r k z1 z2 z3 z4 q => by
    unfold nKp nCt at q
    omega
  have hpb := isP_b ht2
  obtain ⟨a1, a2, a3, a4, a5, a6, -⟩ := h
  obtain ⟨b1, b2, b3, b4, b5, b6, b7, b8, b9, b10, b11, b12, b13, b14, b15⟩ := hR
  have hpt := isP_b b1.1
  have dis : ∀ r, (t ≤ r ∧ r ≤ t + 12) → ¬ (t2 ≤ r ∧ r < t2 + 20) := fun r z => by
    have h1 := b1.1
    have h2 := ht2
    unfold sh_isP at h1 h2
    omega
  have lowR : ∀ r, r < 290 → ¬ r = 0 → ¬ r = 2 → ¬ r = 6 → ¬ (t2 ≤ r ∧ r < t2 + 20 ∧ ¬ r = t2 + 14) → sh_i μ2 r = sh_i μ r := fun r z1 z2 z3 z4 z5 => funext fun k => (all r k (nP r k (by omega)) (by omega) (by omega) (by omega) (nK r k (by omega) z3 z4 z5)).1
  have hiR : ∀ r, r = 292 ∨ (294 ≤ r ∧ r ≤ 320) ∨ (330 ≤ r ∧ r ≤ 363) ∨ 366 ≤ r → sh_i μ2 r = sh_i μ r := fun r z => funext fun k => (all r k (nP r k (by omega)) (by omega) (by omega) (by omega) (nK r k (by omega) (by omega) (by omega) (by omega))).1
  have h291 : ∀ k, (k = 50 ∨ k = 57 ∨ k = 60 ∨ k = 71 ∨ k = 76 ∨ k = 77 ∨ k = 78 ∨ k = 113) → sh_i μ2 291 k = sh_i μ 291 k ∧ sh_l μ2 291 k = sh_l μ 291 k := fun k z => all 291 k (nP 291 k (by omega)) (by omega) (by omega) (by omega) (nK 291 k (by omega) (by omega) (by omega) (by omega))
  have rr : sh_r μ2 = sh_r m := by rw [hf2.1, r1.1, hf1.1]
  have t58 : ¬ (t2 ≤ 49 ∧ 49 < t2 + 20) := by
    have h2 := ht2
    unfold sh_isP at h2
    omega
  refine ⟨hG2, ?_, ⟨?_, ?_⟩, ?_, a5.cg ?_ (h291 78 (by omega)).2, a6.cg ?_ (h291 113 (by omega)).1 (lowR 289 (by omega) (by omega) (by omega) (by omega) (by omega)) (hiR 367 (by omega)), t, P, L, ?_⟩
  · obtain ⟨n', -, -, -, b⟩ := a2
    refine ⟨0, by omega, ?_, ?_, ?_⟩
    · rw [(toM 0 1 (nP 0 1 (by omega)) (by omega) (by omega) (by omega)).1, c4]; rfl
    · rw [hf2.i 291 1 (by omega), r2]; rfl
    · rw [lowR 1 (by omega) (by omega) (by omega) (by omega) (by omega), hiR 292 (by omega)]
      exact b
  · rw [(toM 0 14 (nP 0 14 (by omega)) (by omega) (by omega) (by omega)).1, c5, e2, ir_set_r (by omega), ir_set_k (by omega), ir_set]
  · rw [(toM 0 15 (nP 0 15 (by omega)) (by omega) (by omega) (by omega)).1, c6, e2, ir_set_r (by omega), ir_set]
  · refine sm_ref.bp (k := 1) a4 (fun j hj => (all 290 j (nP 290 j (by omega)) (by omega) (by omega) (by omega) (nK 290 j (by omega) (by omega) (by omega) (by omega))).1) (fun j hj => (all 293 j (nP 293 j (by omega)) (by omega) (by omega) (by omega) (nK 293 j (by omega) (by omega) (by omega) (by omega))).1) ?_ ?_
    · rw [hf2.i 290 1 (by omega), r1.i 290 1 (nP 290 1 (by omega)), ir_set, (c1 290 1 (nK 290 1 (by omega) (by omega) (by omega) (by omega))).1]
    · rw [e2, ir_set, r1.i 293 1 (nP 293 1 (by omega)), hf1.i 293 1 (by omega), (c1 293 1 (nK 293 1 (by omega) (by omega) (by omega) (by omega))).1]
  · exact (all 0 16 (nP 0 16 (by omega)) (by omega) (by omega) (by omega) (nK 0 16 (by omega) (by omega) (by omega) (by omega))).2
  · exact (all 0 18 (nP 0 18 (by omega)) (by omega) (by omega) (by omega) (nK 0 18 (by omega) (by omega) (by omega) (by omega))).1
  · refine ⟨⟨b1.1, ?_, ?_, ⟨t2, ht2, hne, ?_⟩, ?_⟩, b2, b3, b4.cg (fun j hj _ _ => lowR _ (by omega) (by omega) (by omega) (by omega) (fun z => dis _ (by omega) ⟨z.1, z.2.1⟩)), sm_mP.hi b5 b2 (h291 50 (by omega)).1 (fun r k z1 z2 => (all r k (nP r k (by omega)) (by omega) (by omega) (by omega) (nK r k (by omega) (by omega) (by omega) (by omega))).1) (fun k z => (all 326 k (nP 326 k (by omega)) (by omega) (by omega) (by omega) (nK 326 k (by omega) (by omega) (by omega) (by omega))).1) (fun k z => (all 329 k (nP 329 k (by omega)) (by omega) (by omega) (by omega) (nK 329 k (by omega) (by omega) (by omega) (by omega))).1) (fun k z => (all 323 k (nP 323 k (by omega)) (by omega) (by omega) (by omega) (nK 323 k (by omega) (by omega) (by omega) (by omega))).2), b6.cg (fun j hj => lowR _ (by omega) (by omega) (by omega) (by omega) (by omega)), by rw [hiR 330 (by omega)]; exact b7, by rw [hiR 330 (by omega), lowR 64 (by omega) (by omega) (by omega) (by omega) (by omega), lowR 63 (by omega) (by omega) (by omega) (by omega) (by omega)]; exact b8, b9.cg (lowR 63 (by omega) (by omega) (by omega) (by omega) (by omega)) (h291 76 (by omega)).1 (h291 77 (by omega)).1 (fun j z1 z2 => lowR j (by omega) (by omega) (by omega) (by omega) (by omega)) (hiR 340 (by omega)), b10.cg (by rw [lowR 208 (by omega) (by omega) (by omega) (by omega) (by omega)]) (h291 71 (by omega)).1 (lowR 216 (by omega) (by omega) (by omega) (by omega) (by omega)) (hiR 338 (by omega)), by rw [(h291 57 (by omega)).1]; exact b11, by rw [(h291 60 (by omega)).1]; exact b12, ?_, ?_, fun q hq j hj => ?_⟩
    · rw [rr, c2 0 7 (by omega)]; exact b1.2.1
    · rw [rr, c2 55 0 (by omega)]; exact b1.2.2.1
    · rw [rr, c2 7 2 (by omega)]; exact hr2
    · obtain ⟨f, f1, f2⟩ := c3
      exact ⟨f, f1, by rw [rr]; exact f2⟩
    · rw [lowR 22 (by omega) (by omega) (by omega) (by omega) (by have h2 := ht2; unfold sh_isP at h2; omega)]; exact b13
    · rw [lowR 43 (by omega) (by omega) (by omega) (by omega) (by have h2 := ht2; unfold sh_isP at h2; omega)]; exact b14
    · have := sw_rng q hq
      rw [hiR q.1 (by omega)]
      exact b15 q hq j hj
end Pn3
