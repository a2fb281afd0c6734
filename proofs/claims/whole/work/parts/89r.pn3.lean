/-! PLAIN -/
section Pn3
variable {T : Nat → Nat} {n t t2 : Nat} {μ μ' : sh_Mem} {P : sp_T} {L : sl_T}
theorem nPl_r {r k : Nat} (h : nPl r k) : (r = 291 ∧ (k = 1 ∨ k = 2 ∨ k = 3 ∨ k = 4 ∨ k = 5 ∨ k = 6 ∨ k = 10 ∨ k = 38 ∨ k = 48 ∨ k = 49 ∨ k = 51 ∨ k = 103 ∨ k = 105 ∨ k = 106 ∨ k = 107)) ∨ (r = 321 ∧ k < 3) ∨ (r = 322 ∧ k < 3) ∨ (r = 323 ∧ k < 16) ∨ r = 324 ∨ r = 325 ∨ (r = 326 ∧ k < 24) ∨ (r = 327 ∧ k < 3) ∨ (r = 328 ∧ k < 3) ∨ (r = 329 ∧ k < 1600) ∨ r = 364 ∨ r = 365 := sorry
/-- where the text is faulty -/
theorem plF {e : Nat × Nat} {m m2 μ2 : sh_Mem} (h : Sim μ) (hR : sm_rest μ t P L) (ht2 : sh_isP t2) (hne : ¬ t2 = t) (hr2 : sh_r μ 7 2 = some t2) (hG2 : sh_G μ2) (c1 : ∀ r k, ¬ nKp t2 r k → sh_i m r k = sh_i μ r k ∧ sh_l m r k = sh_l μ r k) (c2 : ∀ r k, ¬ (r = 6 ∧ k = 1) → sh_r m r k = sh_r μ r k) (c3 : fO m) (c4 : sh_i m 0 1 = 0) (c5 : sh_i m 0 14 = zI e.1) (c6 : sh_i m 0 15 = zI e.2) (r1 : sh_fr nPl (sh_setI m 290 1 (sh_i m 290 1 + 1)) m2) (r2 : sh_i m2 291 1 = 0) (r3 : sh_i m2 291 5 = zI e.1) (r4 : sh_i m2 291 6 = zI e.2) (e2 : μ2 = sh_setI (sh_setI (sh_setI m2 291 7 (zI e.1)) 291 8 (zI e.2)) 293 1 (sh_i m2 293 1 + 1)) : Sim μ2 := sorry
end Pn3
