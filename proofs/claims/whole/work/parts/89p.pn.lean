/-! PLAIN: the reference from the start of a text on -/
section Pn
variable {T : Nat → Nat} {n : Nat} {μ0 μ μ' : sh_Mem} {s s' : xs}
theorem pl_1 : ∀ (g f i : Nat) (μ : sh_Mem), i + g = 3 → g + 1 < f → ∃ (f' : Nat) (m : sh_Mem), F_X12_plain f 1 (zI i) μ = F_X12_plain f' 2 0 m ∧ f ≤ f' + g + 1 ∧ sh_fr (fun r k => (r = 322 ∨ r = 327) ∧ i ≤ k ∧ k < 3) μ m ∧ (∀ k, i ≤ k → k < 3 → sh_i m 322 k = 0 ∧ sh_i m 327 k = -1) ∧ (sh_G μ → sh_G m) := by
  intro g
  induction g with
  | zero =>
    intro f i μ hi hf
    obtain ⟨f, rfl⟩ : ∃ f', f = f' + 1 := ⟨f - 1, by omega⟩
    exact ⟨f, μ, by rw [F_X12_plain, if_pos (show (3 : Int32) ≤ zI (i : Int) from zI_yes (a := 3) (by omega) (by omega))], by omega, sh_fr.rf, fun k h1 h2 => by omega, fun h => h⟩
  | succ g ih =>
    intro f i μ hi hf
    obtain ⟨f, rfl⟩ : ∃ f', f = f' + 1 := ⟨f - 1, by omega⟩
    obtain ⟨n1, hn1⟩ : ∃ m, m = sh_setI (sh_setI μ 322 i 0) 327 i (-1) := ⟨_, rfl⟩
    have fN : sh_fr (fun r k => (r = 322 ∨ r = 327) ∧ i ≤ k ∧ k < 3) μ n1 := by rw [hn1]; exact sh_fr_I (sh_fr_I sh_fr.rf (by omega)) (by omega)
    obtain ⟨f', m, a1, a2, a3, a4, aG⟩ := ih f (i + 1) n1 (by omega) (by omega)
    refine ⟨f', m, ?_, by omega, fN.trans (a3.mono (fun r k z => by omega)), fun k h1 h2 => ?_, fun h => aG (by rw [hn1]; exact h)⟩
    · have i1 : sh_in (zI (i : Int)) 6 := (zI_in (by omega)).mpr (by omega)
      rw [F_X12_plain, if_neg (show ¬ (3 : Int32) ≤ zI (i : Int) from zI_not (b := 3) (by omega) (by omega)), if_pos i1, shl_ap, if_pos i1, shl_ap, tcN (by omega), ← hn1, zI_s1]
      exact a1
    · by_cases e : k = i
      · rw [e, a3.i _ _ (by omega), a3.i _ _ (by omega), hn1, ir_set_r (by omega), ir_set, ir_set]
        exact ⟨rfl, rfl⟩
      · exact a4 k (by omega) h2
theorem pl_2 : ∀ (g f i : Nat) (μ : sh_Mem), i + g = 49 → g + 1 < f → ∃ (f' : Nat) (m : sh_Mem), F_X12_plain f 2 (zI i) μ = sh_bindv (f_X12_plainTold m) (fun μ83 => sh_let (sh_setI μ83 291 49 1) (fun μ86 => F_X12_plain f' 3 (zI ((49 : Nat) : Int)) μ86)) ∧ f ≤ f' + g + 1 ∧ sh_fr (fun r k => r = 324) μ m ∧ (∀ k, i ≤ k → k < 49 → sh_i m 324 k = zI 50) ∧ (∀ k, k < i → sh_i m 324 k = sh_i μ 324 k) ∧ (sh_G μ → sh_G m) := by
  intro g
  induction g with
  | zero =>
    intro f i μ hi hf
    obtain ⟨f, rfl⟩ : ∃ f', f = f' + 1 := ⟨f - 1, by omega⟩
    exact ⟨f, μ, by rw [F_X12_plain, if_pos (show (49 : Int32) ≤ zI (i : Int) from zI_yes (a := 49) (by omega) (by omega)), show i = 49 by omega], by omega, sh_fr.rf, fun k h1 h2 => by omega, fun k _ => rfl, fun h => h⟩
  | succ g ih =>
    intro f i μ hi hf
    obtain ⟨f, rfl⟩ : ∃ f', f = f' + 1 := ⟨f - 1, by omega⟩
    obtain ⟨n1, hn1⟩ : ∃ m, m = sh_setI μ 324 i (zI 50) := ⟨_, rfl⟩
    have fN : sh_fr (fun r k => r = 324) μ n1 := by rw [hn1]; exact sh_fr_I sh_fr.rf rfl
    obtain ⟨f', m, a1, a2, a3, a4, a5, aG⟩ := ih f (i + 1) n1 (by omega) (by omega)
    refine ⟨f', m, ?_, by omega, fN.trans a3, fun k h1 h2 => ?_, fun k hk => by rw [a5 k (by omega), hn1, ir_set_k (by omega)], fun h => aG (by rw [hn1]; exact h)⟩
    · rw [F_X12_plain, if_neg (show ¬ (49 : Int32) ≤ zI (i : Int) from zI_not (b := 49) (by omega) (by omega)), if_pos ((zI_in (by omega)).mpr (by omega)), tcN (by omega), show sh_setI μ 324 i 50 = n1 from hn1.symm, shl_ap, zI_s1]
      exact a1
    · by_cases e : k = i
      · rw [e, a5 i (by omega), hn1, ir_set]
      · exact a4 k (by omega) h2
theorem xb_r {α β : Type} {x : xo α} {f : α → xo β} {b : β} (h : xb x f = .inr b) : ∃ a, x = .inr a ∧ f a = .inr b := by
  cases x with
  | inl e => cases h
  | inr a => exact ⟨a, rfl, h⟩
theorem x_num_lo {lo hi : Nat} {q : Nat × xs} (h : x_num T n lo hi s = .inr q) : lo ≤ q.1 := by
  unfold x_num at h
  split at h
  · split at h
    · split at h
      · cases h
      · rename_i c
        cases h
        show lo ≤ xV T s.1 (xE T n s.1 - s.1)
        omega
    · cases h
  · cases h
theorem sp_headr {q : Nat × Nat × xs} (h : st_plain T n s = .inr q) : (3 ≤ q.1 ∧ q.1 ≤ 7) ∧ (3 ≤ q.2.1 ∧ q.2.1 ≤ 7) := by
  unfold st_plain at h
  obtain ⟨s1, -, h⟩ := xb_r h
  obtain ⟨x, hx, h⟩ := xb_r h
  obtain ⟨s3, -, h⟩ := xb_r h
  obtain ⟨y, hy, h⟩ := xb_r h
  obtain ⟨s5, -, h⟩ := xb_r h
  cases h
  show (3 ≤ x.1 ∧ x.1 ≤ 7) ∧ (3 ≤ y.1 ∧ y.1 ≤ 7)
  exact ⟨⟨x_num_lo hx, x_num_v hx⟩, x_num_lo hy, x_num_v hy⟩
def nPl (r k : Nat) : Prop := nDm r k ∨ (r = 291 ∧ (k = 1 ∨ k = 3))
theorem nPl_3 {r k : Nat} (h : ((r = 291 ∧ (k = 3 ∨ k = 1 ∨ k = 2 ∨ k = 4 ∨ k = 5 ∨ k = 6 ∨ k = 48)) ∨ (r = 321 ∧ k = 2)) ∨ ((r = 322 ∨ r = 327) ∧ k < 3) ∨ r = 324) : nPl r k := by
  rcases h with (⟨h1, h2⟩ | ⟨h1, h2⟩) | ⟨h1 | h1, h2⟩ | h1
  · by_cases c : k = 3 ∨ k = 1
    · exact Or.inr ⟨h1, by omega⟩
    · by_cases c2 : k = 48
      · exact Or.inl (Or.inr (Or.inl ⟨h1, Or.inl c2⟩))
      · exact Or.inl (nD_M ⟨h1, by omega⟩)
  · exact Or.inl (Or.inr (Or.inr (Or.inl ⟨h1, by omega⟩)))
  · exact Or.inl (Or.inr (Or.inr (Or.inr (Or.inl ⟨h1, h2⟩))))
  · exact Or.inl (Or.inr (Or.inr (Or.inr (Or.inr (Or.inr (Or.inr (Or.inr (Or.inr (Or.inl ⟨h1, h2⟩)))))))))
  · exact Or.inl (Or.inr (Or.inr (Or.inr (Or.inr (Or.inr (Or.inl h1))))))
theorem nDm_5 {r k : Nat} (h : (nM r k ∨ (r = 321 ∧ k < 2)) ∨ (r = 291 ∧ k = 49)) : nDm r k := by
  rcases h with (h | ⟨h1, h2⟩) | ⟨h1, h2⟩
  · exact nD_M h
  · exact Or.inr (Or.inr (Or.inl ⟨h1, by omega⟩))
  · exact Or.inr (Or.inl ⟨h1, Or.inr (Or.inl h2)⟩)
theorem nDm_1 : ¬ nDm 291 1 := by
  unfold nDm nZq nM nWq
  omega
def s00 (T : Nat → Nat) (n : Nat) : xs := (xS T n 0, false)
/-- a whole text -/
theorem rf_plainR {r : xo (Nat × dT)} (hG : sh_G μ) (hT : xT μ 292 T n) (h1 : sh_i μ 291 1 = zI n) (hw : hA μ) (hb : hB μ) (hr : TRt T n (s00 T n) r) : ∃ m, f_X12_plain μ = endT m ∧ sh_fr nPl μ m ∧ sh_i m 291 1 = 0 ∧ (∀ e, r = .inl e → sh_i m 291 5 = zI e.1 ∧ sh_i m 291 6 = zI e.2 ∧ 1 ≤ e.1 ∧ e.1 < 10) ∧ (∀ q, r = .inr q → sh_i m 291 5 = 0 ∧ sh_i m 291 6 = -1 ∧ sh_i m 291 49 = zI (q.1 : Nat) ∧ ∃ cod, cod ≤ 1600 ∧ mDr m q.2.1 q.2.2 cod) := by
  have hfu := sh_fuel_eq
  obtain ⟨m1, hm1⟩ : ∃ m, m = sh_setI (sh_setI (sh_setI (sh_setI (sh_setI (sh_setI (sh_setI (sh_setI μ 291 3 (zI n)) 291 1 0) 291 2 0) 291 4 (-1)) 291 5 0) 291 6 (-1)) 291 48 0) 321 2 0 := ⟨_, rfl⟩
  have F1 : sh_fr (fun r k => (r = 291 ∧ (k = 3 ∨ k = 1 ∨ k = 2 ∨ k = 4 ∨ k = 5 ∨ k = 6 ∨ k = 48)) ∨ (r = 321 ∧ k = 2)) μ m1 := by
    rw [hm1]
    exact sh_fr_I (sh_fr_I (sh_fr_I (sh_fr_I (sh_fr_I (sh_fr_I (sh_fr_I (sh_fr_I sh_fr.rf (by omega)) (by omega)) (by omega)) (by omega)) (by omega)) (by omega)) (by omega)) (by omega)
  have e0 : f_X12_plain μ = F_X12_plain sh_fuel 1 (zI ((0 : Nat) : Int)) m1 := by
    unfold f_X12_plain
    rw [h1, shl_ap, shl_ap, shl_ap, shl_ap, shl_ap, shl_ap, shl_ap, shl_ap]
    rw [show (Int32.toNatClampNeg 2) = 2 from rfl, ← hm1]
    rfl
  have G1 : sh_G m1 := by rw [hm1]; exact hG
  obtain ⟨f2, m2, a1, a2, a3, a4, aG⟩ := pl_1 3 sh_fuel 0 m1 (by omega) (by omega)
  obtain ⟨f3, m3, b1, b2, b3, b4, -, bG⟩ := pl_2 49 f2 0 m2 (by omega) (by omega)
  have F3 : sh_fr (fun r k => ((r = 291 ∧ (k = 3 ∨ k = 1 ∨ k = 2 ∨ k = 4 ∨ k = 5 ∨ k = 6 ∨ k = 48)) ∨ (r = 321 ∧ k = 2)) ∨ ((r = 322 ∨ r = 327) ∧ k < 3) ∨ r = 324) μ m3 := ((F1.mono (fun r k z => Or.inl z)).trans (a3.mono (fun r k z => by omega))).trans (b3.mono (fun r k z => Or.inr (Or.inr z)))
  have v3 : ∀ r k, ¬ (r = 322 ∨ r = 327) → ¬ r = 324 → sh_i m3 r k = sh_i m1 r k := fun r k z1 z2 => by rw [b3.i r k z2, a3.i r k (by omega)]
  have w : ∀ k, k = 1 ∨ k = 2 ∨ k = 5 ∨ k = 48 → sh_i m1 291 k = 0 := fun k hk => by
    rw [hm1, ir_set_r (by omega)]
    rcases hk with z | z | z | z <;> rw [z]
    · rw [ir_set_k (by omega), ir_set_k (by omega), ir_set_k (by omega), ir_set_k (by omega), ir_set_k (by omega), ir_set]
    · rw [ir_set_k (by omega), ir_set_k (by omega), ir_set_k (by omega), ir_set_k (by omega), ir_set]
    · rw [ir_set_k (by omega), ir_set_k (by omega), ir_set]
    · rw [ir_set]
  have w6 : sh_i m1 291 6 = -1 := by rw [hm1, ir_set_r (by omega), ir_set_k (by omega), ir_set]
  have w4 : sh_i m1 291 4 = zI (-1) := by rw [hm1, ir_set_r (by omega), ir_set_k (by omega), ir_set_k (by omega), ir_set_k (by omega), ir_set]; rfl
  have w3 : sh_i m1 291 3 = zI n := by rw [hm1, ir_set_r (by omega), ir_set_k (by omega), ir_set_k (by omega), ir_set_k (by omega), ir_set_k (by omega), ir_set_k (by omega), ir_set_k (by omega), ir_set]
  have w32 : sh_i m1 321 2 = 0 := by rw [hm1, ir_set]
  have S3 : mS m3 T n (s00 T n) := by
    refine ⟨hT.cg (F3.row 292 (fun k => by omega)), by rw [v3 _ _ (by omega) (by omega)]; exact w3, by rw [v3 _ _ (by omega) (by omega)]; exact w 5 (by omega), 0, -1, Nat.zero_le n, by rw [v3 _ _ (by omega) (by omega), w 2 (by omega)]; rfl, rfl, by rw [v3 _ _ (by omega) (by omega)]; exact w4, by omega, by omega, ?_⟩
    constructor
    · intro z; cases z
    · intro z
      exact absurd z (by show ¬ (-1 : Int) = ((xS T n 0 : Nat) : Int); omega)
  have A3 : hA m3 := fun w h1 j hj => by
    rw [F3.i _ _ (by omega)]
    exact hw w h1 j hj
  have B3 : hB m3 := fun j hj x hx => by
    rw [F3.i _ _ (by omega)]
    exact hb j hj x hx
  have G3 : sh_G m3 := bG (aG G1)
  obtain ⟨m4, c1, c2, c3, c4⟩ := rf_head S3 A3
  have G4 : sh_G m4 := gp_X12_plainTold G3 c1
  have I4 : rI m3 m4 := ri_X12_plainTold G3 c1
  have i6 : sh_i m3 291 6 = -1 := by rw [v3 _ _ (by omega) (by omega)]; exact w6
  obtain ⟨m5, hm5⟩ : ∃ m, m = sh_setI m4 291 49 1 := ⟨_, rfl⟩
  have G5 : sh_G m5 := by rw [hm5]; exact G4
  have F5 : sh_fr (fun r k => (nM r k ∨ (r = 321 ∧ k < 2)) ∨ (r = 291 ∧ k = 49)) m3 m5 := by
    rw [hm5]
    exact sh_fr_I (c2.mono (fun r k z => Or.inl z)) (Or.inr ⟨rfl, rfl⟩)
  have F5D : sh_fr nDm m3 m5 := F5.mono (fun r k z => nDm_5 z)
  have e1 : f_X12_plain μ = F_X12_plain f3 3 (zI ((49 : Nat) : Int)) m5 := by
    rw [e0, a1]
    rw [show F_X12_plain f2 2 0 m2 = _ from b1, c1, shv_ap, ← hm5, shl_ap]
  have FP : ∀ m, sh_fr nDm m3 m → sh_fr nPl μ m := fun m z => (F3.mono (fun r k q => nPl_3 q)).trans (z.mono (fun _ _ q => Or.inl q))
  have z1 : ∀ m, sh_fr nDm m3 m → sh_i m 291 1 = 0 := fun m z => by
    rw [z.i 291 1 nDm_1, v3 _ _ (by omega) (by omega)]
    exact w 1 (by omega)
  unfold TRt at hr
  cases hp : st_plain T n (s00 T n) with
  | inl e =>
    rw [hp] at hr
    have hr' : r = .inl e := hr
    obtain ⟨p1, p2, p3, p4⟩ := c3 e hp
    have X : mXf m3 m5 e := ⟨F5D, by rw [hm5, ir_set_k (by omega)]; exact p1, by rw [hm5, ir_set_k (by omega)]; exact p2, p3, p4⟩
    obtain ⟨f3, rfl⟩ : ∃ f, f3 = f + 1 := ⟨f3 - 1, by omega⟩
    refine ⟨m5, by rw [e1]; exact endX X, FP m5 F5D, z1 m5 F5D, fun e' he => by rw [hr'] at he; cases he; exact X.2, fun q hq => by rw [hr'] at hq; cases hq⟩
  | inr q =>
    rw [hp] at hr
    have hr' : LRt T n 79 q.2.2 (dp_n q.1 q.2.1) dl_n r := hr
    obtain ⟨p1, p2, p3⟩ := c4 q hp
    have S5 : mS m5 T n q.2.2 := by
      obtain ⟨h1, h2, h3, e, d, d1, d2, d3, d4, d5⟩ := p1
      rw [hm5]
      exact ⟨h1.cg (ir_set_r (by omega)), by rw [ir_set_k (by omega)]; exact h2, by rw [ir_set_k (by omega)]; exact h3, e, d, d1, by rw [ir_set_k (by omega)]; exact d2, d3, by rw [ir_set_k (by omega)]; exact d4, d5⟩
    have hi : sh_i m4 291 5 = 0 := p1.2.2.1
    have rg := sp_headr hp
    have hd : dOK (dp_n q.1 q.2.1) dl_n := dOK.n0 rg.1 rg.2
    have q5 : ∀ r k, ¬ r = 291 → ¬ r = 321 → sh_i m5 r k = sh_i m3 r k := fun r k y1 y2 => F5.i r k (by unfold nM; omega)
    have D5 : mDr m5 (dp_n q.1 q.2.1) dl_n 0 := by
      have k22 : ∀ k, k < 3 → sh_i m5 322 k = 0 ∧ sh_i m5 327 k = -1 := fun k hk => by
        rw [q5 _ _ (by omega) (by omega), q5 _ _ (by omega) (by omega), b3.i _ _ (by omega), b3.i _ _ (by omega)]
        exact a4 k (by omega) hk
      refine ⟨⟨?_, ?_, ?_⟩, ⟨?_, ?_, ?_⟩, ⟨fun j hj => absurd hj (Nat.not_lt_zero j), fun j hj => absurd hj (Nat.not_lt_zero j)⟩, fun x y hx hy => ?_, fun p hp => absurd hp (Nat.not_lt_zero p), fun j hj => absurd hj (Nat.not_lt_zero j), ⟨?_, ?_, ?_⟩, ?_⟩
      · rw [hm5, ir_set_r (by omega)]; exact p2
      · rw [hm5, ir_set_r (by omega)]; exact p3
      · rw [F5.i _ _ (by unfold nM; omega), v3 _ _ (by omega) (by omega), w32]; rfl
      · rw [(k22 0 (by omega)).1]; rfl
      · rw [(k22 1 (by omega)).1]; rfl
      · rw [(k22 2 (by omega)).1]; rfl
      · have hx' : x < q.1 := hx
        have hy' : y < q.2.1 := hy
        have := rg.1.2
        have := rg.2.2
        rw [q5 _ _ (by omega) (by omega), b4 _ (by omega) (by omega)]
        rfl
      · show sh_i m5 327 0 = zI (-1); rw [(k22 0 (by omega)).2]; rfl
      · show sh_i m5 327 1 = zI (-1); rw [(k22 1 (by omega)).2]; rfl
      · show sh_i m5 327 2 = zI (-1); rw [(k22 2 (by omega)).2]; rfl
      · rw [F5.i _ _ (by unfold nM; omega), v3 _ _ (by omega) (by omega), w 48 (by omega)]; rfl
    have D : mD m3 m5 T n q.2.2 (dp_n q.1 q.2.1) dl_n 0 (80 - 79) := ⟨F5D, S5, D5, Nat.zero_le _, by rw [hm5, ir_set]; rfl⟩
    obtain ⟨m6, g1, g2, g3⟩ := rf_loop (i1 := zI ((49 : Nat) : Int)) A3 B3 79 f3 q.2.2 _ _ 0 m5 r (by omega) (by omega) hr' D hd ⟨by rw [hm5, ir_set_k (by omega)]; exact I4 (fun _ => i6) hi, G5⟩
    cases r with
    | inl e =>
      have X := g2.1 e rfl
      exact ⟨m6, by rw [e1]; exact g1, FP m6 X.1, z1 m6 X.1, fun e' he => by cases he; exact X.2, fun q hq => (by cases hq)⟩
    | inr a =>
      obtain ⟨y1, y2, y3, y4⟩ := g2.2 a rfl
      exact ⟨m6, by rw [e1]; exact g1, FP m6 y1, z1 m6 y1, fun e he => (by cases he), fun q hq => by cases hq; exact ⟨y2, g3 y2, y3, y4⟩⟩
end Pn
