/-! FRAMES by places; the relation's parts depend on few cells -/
def sh_fr (N : Nat → Nat → Prop) (μ μ' : sh_Mem) : Prop := sh_r μ' = sh_r μ ∧ ∀ r k, ¬ N r k → sh_i μ' r k = sh_i μ r k ∧ sh_l μ' r k = sh_l μ r k
theorem sh_fr.rf {N : Nat → Nat → Prop} {μ : sh_Mem} : sh_fr N μ μ := ⟨rfl, fun _ _ _ => ⟨rfl, rfl⟩⟩
theorem sh_fr.trans {N : Nat → Nat → Prop} {a b c : sh_Mem} (h : sh_fr N a b) (g : sh_fr N b c) : sh_fr N a c := ⟨g.1.trans h.1, fun r k q => ⟨(g.2 r k q).1.trans (h.2 r k q).1, (g.2 r k q).2.trans (h.2 r k q).2⟩⟩
theorem sh_fr.mono {N N' : Nat → Nat → Prop} {μ μ' : sh_Mem} (h : sh_fr N μ μ') (hN : ∀ r k, N r k → N' r k) : sh_fr N' μ μ' := ⟨h.1, fun r k q => h.2 r k (fun z => q (hN r k z))⟩
theorem sh_fr_I {N : Nat → Nat → Prop} {a μ : sh_Mem} {r k : Nat} {x : Int32} (h : sh_fr N a μ) (hN : N r k) : sh_fr N a (sh_setI μ r k x) := ⟨h.1, fun r' k' q => ⟨by rw [sh_i_set, if_neg (by rintro ⟨rfl, rfl⟩; exact q hN)]; exact (h.2 r' k' q).1, (h.2 r' k' q).2⟩⟩
theorem sh_fr_row {N : Nat → Nat → Prop} {a μ : sh_Mem} {r : Nat} {g : Nat → Int32} (h : sh_fr N a μ) (hN : ∀ k, N r k) : sh_fr N a (sh_rowI μ r g) := ⟨h.1, fun r' k' q => ⟨by rw [sh_i_row, if_neg (by rintro rfl; exact q (hN k'))]; exact (h.2 r' k' q).1, (h.2 r' k' q).2⟩⟩
theorem sh_fr_L {N : Nat → Nat → Prop} {a μ : sh_Mem} {r k : Nat} {x : Int64} (h : sh_fr N a μ) (hN : N r k) : sh_fr N a (sh_setL μ r k x) := ⟨h.1, fun r' k' q => ⟨(h.2 r' k' q).1, by rw [sh_l_set, if_neg (by rintro ⟨rfl, rfl⟩; exact q hN)]; exact (h.2 r' k' q).2⟩⟩
theorem sh_fr.i {N : Nat → Nat → Prop} {μ μ' : sh_Mem} (h : sh_fr N μ μ') (r k : Nat) (q : ¬ N r k) : sh_i μ' r k = sh_i μ r k := (h.2 r k q).1
theorem sh_fr.row {N : Nat → Nat → Prop} {μ μ' : sh_Mem} (h : sh_fr N μ μ') (r : Nat) (q : ∀ k, ¬ N r k) : sh_i μ' r = sh_i μ r := funext fun k => (h.2 r k (q k)).1
theorem sh_fr.lrow {N : Nat → Nat → Prop} {μ μ' : sh_Mem} (h : sh_fr N μ μ') (r : Nat) (q : ∀ k, ¬ N r k) : sh_l μ' r = sh_l μ r := funext fun k => (h.2 r k (q k)).2
theorem sh_G_i {μ μ' : sh_Mem} (h : sh_G μ) (h1 : sh_lay μ' = sh_lay μ) (h2 : sh_r μ' = sh_r μ) : sh_G μ' := ⟨h1.trans h.1, fun q hq => by rw [h2]; exact h.2 q hq⟩
theorem sw_rng : ∀ q ∈ sw_T, (294 ≤ q.1 ∧ q.1 ≤ 320) ∨ (341 ≤ q.1 ∧ q.1 ≤ 363) := by decide +kernel
section Cg
variable {μ μ' : sh_Mem} {t r : Nat} {P : sp_T} {L : sl_T}
theorem sm_tape.cg (h : sm_tape μ) (h1 : sh_i μ' 0 1 = sh_i μ 0 1) (h2 : sh_i μ' 291 1 = sh_i μ 291 1) (h3 : sh_i μ' 1 = sh_i μ 1) (h4 : sh_i μ' 292 = sh_i μ 292) : sm_tape μ' := by unfold sm_tape at h ⊢; rw [h1, h2, h3, h4]; exact h
theorem sm_fault.cg (h : sm_fault μ) (h1 : sh_i μ' 0 14 = sh_i μ 0 14) (h2 : sh_i μ' 0 15 = sh_i μ 0 15) (h3 : sh_i μ' 291 7 = sh_i μ 291 7) (h4 : sh_i μ' 291 8 = sh_i μ 291 8) : sm_fault μ' := by unfold sm_fault at h ⊢; rw [h1, h2, h3, h4]; exact h
theorem sm_ref.cg (h : sm_ref μ) (h1 : sh_i μ' 290 = sh_i μ 290) (h2 : sh_i μ' 293 = sh_i μ 293) : sm_ref μ' := by unfold sm_ref at h ⊢; rw [h1, h2]; exact h
theorem sm_seed.cg (h : sm_seed μ) (h1 : sh_l μ' 0 16 = sh_l μ 0 16) (h2 : sh_l μ' 291 78 = sh_l μ 291 78) : sm_seed μ' := by unfold sm_seed at h ⊢; rw [h1, h2]; exact h
theorem sm_pic.cg (h : sm_pic μ) (h1 : sh_i μ' 0 18 = sh_i μ 0 18) (h2 : sh_i μ' 291 113 = sh_i μ 291 113) (h3 : sh_i μ' 289 = sh_i μ 289) (h4 : sh_i μ' 367 = sh_i μ 367) : sm_pic μ' := by unfold sm_pic at h ⊢; rw [h1, h2, h3, h4]; exact h
theorem sm_form.cg {f : Nat} {l : List Nat} (h : sm_form μ f l) (h0 : sh_i μ' f = sh_i μ f) (h1 : sh_i μ' (f + 1) = sh_i μ (f + 1)) : sm_form μ' f l := by unfold sm_form at h ⊢; rw [h0, h1]; exact h
theorem sm_cP.cg (h : sm_cP μ t P) (h1 : ∀ j, j ≤ 12 → ¬ j = 7 → ¬ j = 10 → sh_i μ' (t + j) = sh_i μ (t + j)) : sm_cP μ' t P := by
  unfold sm_cP at h ⊢
  have h0 : sh_i μ' t = sh_i μ t := h1 0 (by omega) (by omega) (by omega)
  rw [h0, h1 1 (by omega) (by omega) (by omega), h1 2 (by omega) (by omega) (by omega), h1 3 (by omega) (by omega) (by omega), h1 4 (by omega) (by omega) (by omega)]
  obtain ⟨a1, a2, a3, a4, a5, a6, a7, a8, a9, a10, a11, a12⟩ := h
  exact ⟨a1, a2, a3, a4, a5, a6, a7, a8, a9, a10.cg (h1 5 (by omega) (by omega) (by omega)) (h1 6 (by omega) (by omega) (by omega)), a11.cg (h1 8 (by omega) (by omega) (by omega)) (h1 9 (by omega) (by omega) (by omega)), a12.cg (h1 11 (by omega) (by omega) (by omega)) (h1 12 (by omega) (by omega) (by omega))⟩
theorem sm_cL.cg (h : sm_cL μ r P L) (h1 : ∀ j, j ≤ 5 → sh_i μ' (r + j) = sh_i μ (r + j)) : sm_cL μ' r P L := by
  unfold sm_cL at h ⊢
  have h0 : sh_i μ' r = sh_i μ r := h1 0 (by omega)
  rw [h0, h1 1 (by omega), h1 2 (by omega), h1 3 (by omega), h1 4 (by omega), h1 5 (by omega)]
  exact h
theorem sm_mF.cg {k : Nat} {b : Bool} {l : List Nat} (h : sm_mF μ k b l) (h1 : sh_i μ' 327 = sh_i μ 327) (h2 : sh_i μ' 328 = sh_i μ 328) (h3 : sh_i μ' 329 = sh_i μ 329) : sm_mF μ' k b l := by unfold sm_mF at h ⊢; rw [h1, h2, h3]; exact h
theorem sm_mP.cg (h : sm_mP μ P) (h0 : sh_i μ' 291 50 = sh_i μ 291 50) (h1 : ∀ j, 321 ≤ j → j ≤ 329 → sh_i μ' j = sh_i μ j) (h2 : sh_l μ' 323 = sh_l μ 323) : sm_mP μ' P := by
  unfold sm_mP at h ⊢
  obtain ⟨a1, a2, a3, a4, a5, a6, a7, a8, a9, a10, a11, a12, a13⟩ := h
  rw [h0, h1 321 (by omega) (by omega), h1 322 (by omega) (by omega), h1 326 (by omega) (by omega), h2]
  have q1 := h1 327 (by omega) (by omega)
  have q2 := h1 328 (by omega) (by omega)
  have q3 := h1 329 (by omega) (by omega)
  exact ⟨a1, a2, a3, a4, a5, a6, a7, a8, a9, a10, a11.cg q1 q2 q3, a12.cg q1 q2 q3, a13.cg q1 q2 q3⟩
theorem sm_undo.cg (h : sm_undo μ P) (h1 : sh_i μ' 63 = sh_i μ 63) (h2 : sh_i μ' 291 76 = sh_i μ 291 76) (h3 : sh_i μ' 291 77 = sh_i μ 291 77) (h4 : ∀ j, 67 ≤ j → j ≤ 207 → sh_i μ' j = sh_i μ j) (h5 : sh_i μ' 340 = sh_i μ 340) : sm_undo μ' P := by
  unfold sm_undo at h ⊢
  obtain ⟨a, o, w, b1, b2, b3, b4, b5, b6, b7, b8⟩ := h
  refine ⟨a, o, w, b1, b2, b3, by rw [h1]; exact b4, by rw [h1]; exact b5, by rw [h2]; exact b6, by rw [h3]; exact b7, fun i hi => ?_⟩
  obtain ⟨⟨L, c1, c2, c3⟩, c4⟩ := b8 i hi
  refine ⟨⟨L, c1, c2.cg (fun j hj => h4 _ (by omega) (by omega)), by rw [h5]; exact c3⟩, ?_⟩
  rw [h5, h4 _ (by omega) (by omega), h4 87 (by omega) (by omega)]
  exact c4
theorem sm_seen.cg (h : sm_seen μ P) (h1 : sh_i μ' 208 4 = sh_i μ 208 4) (h2 : sh_i μ' 291 71 = sh_i μ 291 71) (h3 : sh_i μ' 216 = sh_i μ 216) (h4 : sh_i μ' 338 = sh_i μ 338) : sm_seen μ' P := by unfold sm_seen at h ⊢; rw [h1, h2, h3, h4]; exact h
theorem sm_refs.cg (h : sm_refs μ t) (h1 : sh_r μ' = sh_r μ) : sm_refs μ' t := by unfold sm_refs at h ⊢; rw [h1]; exact h
/-- the places that the rest speaks of -/
def sm_S (r k : Nat) : Prop := (8 ≤ r ∧ r ≤ 54 ∧ ¬ (r = 15 ∨ r = 18 ∨ r = 21 ∨ r = 28 ∨ r = 36 ∨ r = 39 ∨ r = 42)) ∨ (63 ≤ r ∧ r ≤ 207) ∨ (r = 208 ∧ k = 4) ∨ r = 216 ∨ (321 ≤ r ∧ r ≤ 330) ∨ r = 338 ∨ r = 340 ∨ (r = 291 ∧ (k = 50 ∨ k = 57 ∨ k = 60 ∨ k = 71 ∨ k = 76 ∨ k = 77)) ∨ (294 ≤ r ∧ r ≤ 320) ∨ (341 ≤ r ∧ r ≤ 363)
theorem sm_rest.cg (h : sm_rest μ t P L) (h1 : sh_r μ' = sh_r μ) (h2 : ∀ r k, sm_S r k → sh_i μ' r k = sh_i μ r k) (h3 : sh_l μ' 323 = sh_l μ 323) : sm_rest μ' t P L := by
  have hrow : ∀ r, (∀ k, sm_S r k) → sh_i μ' r = sh_i μ r := fun r q => funext fun k => h2 r k (q k)
  obtain ⟨a1, a2, a3, a4, a5, a6, a7, a8, a9, a10, a11, a12, a13, a14, a15⟩ := h
  have ht : sh_isP t := a1.1
  have q330 := hrow 330 (fun k => by unfold sm_S; omega)
  refine ⟨a1.cg h1, a2, a3, a4.cg (fun j hj hj7 hj10 => hrow _ (fun k => ?_)), a5.cg (h2 _ _ (by unfold sm_S; omega)) (fun j hj hj2 => hrow _ (fun k => by unfold sm_S; omega)) h3, a6.cg (fun j hj => hrow _ (fun k => by unfold sm_S; omega)), by rw [q330]; exact a7, ?_, a9.cg (hrow _ (fun k => by unfold sm_S; omega)) (h2 _ _ (by unfold sm_S; omega)) (h2 _ _ (by unfold sm_S; omega)) (fun j hj hj2 => hrow _ (fun k => by unfold sm_S; omega)) (hrow _ (fun k => by unfold sm_S; omega)), a10.cg (h2 _ _ (by unfold sm_S; omega)) (h2 _ _ (by unfold sm_S; omega)) (hrow _ (fun k => by unfold sm_S; omega)) (hrow _ (fun k => by unfold sm_S; omega)), ?_, ?_, ?_, ?_, fun q hq j hj => (h2 _ _ ?_).trans (a15 q hq j hj)⟩
  · rcases ht with rfl | rfl <;> (unfold sm_S; omega)
  · rw [q330, hrow 64 (fun k => by unfold sm_S; omega), hrow 63 (fun k => by unfold sm_S; omega)]; exact a8
  · rw [h2 _ _ (by unfold sm_S; omega)]; exact a11
  · rw [h2 _ _ (by unfold sm_S; omega)]; exact a12
  · rw [h2 _ _ (by unfold sm_S; omega)]; exact a13
  · rw [h2 _ _ (by unfold sm_S; omega)]; exact a14
  · have := sw_rng q hq
    unfold sm_S; omega
end Cg
/-- all places that the relation speaks of -/
def sm_A (r k : Nat) : Prop := sm_S r k ∨ (r = 0 ∧ (k = 1 ∨ k = 14 ∨ k = 15 ∨ k = 16 ∨ k = 18)) ∨ r = 1 ∨ r = 289 ∨ r = 290 ∨ (r = 291 ∧ (k = 1 ∨ k = 7 ∨ k = 8 ∨ k = 78 ∨ k = 113)) ∨ r = 292 ∨ r = 293 ∨ r = 367
theorem Sim.fr {μ μ' : sh_Mem} (h : Sim μ) (hG : sh_G μ') (hf : sh_fr (fun r k => ¬ sm_A r k) μ μ') : Sim μ' := by
  have hi : ∀ r k, sm_A r k → sh_i μ' r k = sh_i μ r k := fun r k q => (hf.2 r k (fun z => z q)).1
  have hl : ∀ r k, sm_A r k → sh_l μ' r k = sh_l μ r k := fun r k q => (hf.2 r k (fun z => z q)).2
  have hrow : ∀ r, (∀ k, sm_A r k) → sh_i μ' r = sh_i μ r := fun r q => funext fun k => hi r k (q k)
  obtain ⟨a1, a2, a3, a4, a5, a6, t, P, L, a7⟩ := h
  refine ⟨hG, a2.cg (hi _ _ (by unfold sm_A; omega)) (hi _ _ (by unfold sm_A; omega)) (hrow _ (fun k => by unfold sm_A; omega)) (hrow _ (fun k => by unfold sm_A; omega)), a3.cg (hi _ _ (by unfold sm_A; omega)) (hi _ _ (by unfold sm_A; omega)) (hi _ _ (by unfold sm_A; omega)) (hi _ _ (by unfold sm_A; omega)), a4.cg (hrow _ (fun k => by unfold sm_A; omega)) (hrow _ (fun k => by unfold sm_A; omega)), a5.cg (hl _ _ (by unfold sm_A; omega)) (hl _ _ (by unfold sm_A; omega)), a6.cg (hi _ _ (by unfold sm_A; omega)) (hi _ _ (by unfold sm_A; omega)) (hrow _ (fun k => by unfold sm_A; omega)) (hrow _ (fun k => by unfold sm_A; omega)), t, P, L, a7.cg hf.1 (fun r k q => hi _ _ (Or.inl q)) (funext fun k => hl _ _ (by unfold sm_A sm_S; omega))⟩
/-- a refused call is counted on both sides -/
theorem Sim.bump {μ : sh_Mem} (h : Sim μ) {k : Nat} (hk : k < 6) : Sim (sh_setI (sh_setI μ 290 k (sh_i μ 290 k + 1)) 293 k (sh_i μ 293 k + 1)) := by
  have hi : ∀ r k', ¬ r = 290 → ¬ r = 293 → sh_i (sh_setI (sh_setI μ 290 k (sh_i μ 290 k + 1)) 293 k (sh_i μ 293 k + 1)) r k' = sh_i μ r k' := fun r k' q1 q2 => by rw [ir_set_r q2, ir_set_r q1]
  have hrow : ∀ r, ¬ r = 290 → ¬ r = 293 → sh_i (sh_setI (sh_setI μ 290 k (sh_i μ 290 k + 1)) 293 k (sh_i μ 293 k + 1)) r = sh_i μ r := fun r q1 q2 => by rw [ir_set_r q2, ir_set_r q1]
  obtain ⟨a1, a2, a3, a4, a5, a6, t, P, L, a7⟩ := h
  refine ⟨a1, a2.cg (hi _ _ (by omega) (by omega)) (hi _ _ (by omega) (by omega)) (hrow _ (by omega) (by omega)) (hrow _ (by omega) (by omega)), a3.cg (hi _ _ (by omega) (by omega)) (hi _ _ (by omega) (by omega)) (hi _ _ (by omega) (by omega)) (hi _ _ (by omega) (by omega)), ?_, a5.cg rfl rfl, a6.cg (hi _ _ (by omega) (by omega)) (hi _ _ (by omega) (by omega)) (hrow _ (by omega) (by omega)) (hrow _ (by omega) (by omega)), t, P, L, a7.cg rfl (fun r k q => hi _ _ (by unfold sm_S at q; omega) (by unfold sm_S at q; omega)) rfl⟩
  intro j hj
  rw [ir_set_r (show ¬ (290 : Nat) = 293 by omega)]
  by_cases e : j = k
  · subst e
    rw [ir_set, ir_set, a4 j hj]
  · rw [ir_set_k e, ir_set_k e, ir_set_r (show ¬ (293 : Nat) = 290 by omega)]
    exact a4 j hj
