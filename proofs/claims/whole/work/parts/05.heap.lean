/-! rows of the judgement that read, write, make cells -/
theorem sh_ent_obj {B : Nat} {ca : Nat → ClassId} {μ : sh_Mem} {r ci n : Nat} (h : ci < 13) : sh_ent B ca μ r (ci, n) = .inr (ci, (List.range (sh_n ci)).map fun k => sh_fv B μ r k (sh_kd (sh_ty ci k))) := if_pos h
theorem sh_ent_i {B : Nat} {ca : Nat → ClassId} {μ : sh_Mem} {r n : Nat} : sh_ent B ca μ r (13, n) = .inl (ca 13, n, .inl (sh_i μ r)) := rfl
theorem sh_ent_l {B : Nat} {ca : Nat → ClassId} {μ : sh_Mem} {r n : Nat} : sh_ent B ca μ r (14, n) = .inl (ca 14, n, .inr (.inl (sh_l μ r))) := rfl
theorem sh_ent_c {B : Nat} {ca : Nat → ClassId} {μ : sh_Mem} {r n : Nat} : sh_ent B ca μ r (15, n) = .inl (ca 15, n, .inl (sh_i μ r)) := rfl
theorem sh_ent_q {B : Nat} {ca : Nat → ClassId} {μ : sh_Mem} {r n : Nat} : sh_ent B ca μ r (16, n) = .inl (ca 16, n, .inr (.inr (.inr (.inr fun j => (sh_r μ r j).map (B + ·))))) := rfl
theorem sh_ent_qq {B : Nat} {ca : Nat → ClassId} {μ : sh_Mem} {r n : Nat} : sh_ent B ca μ r (17, n) = .inl (ca 17, n, .inr (.inr (.inr (.inr fun j => (sh_r μ r j).map (B + ·))))) := rfl
theorem sh_flds_at {B : Nat} {μ : sh_Mem} {r ci k : Nat} (hk : k < sh_n ci) : ((List.range (sh_n ci)).map fun k => sh_fv B μ r k (sh_kd (sh_ty ci k)))[k]? = some (sh_fv B μ r k (sh_kd (sh_ty ci k))) := by
  rw [List.getElem?_map, List.getElem?_range hk]
  rfl
/-- the memory behind a store into cell r -/
theorem sh_store {B : Nat} {D : va_G} {ca : Nat → ClassId} {μ μ' : sh_Mem} {H H' : Heap} {s : State} {locs : List Loc} {r k : Nat} {q : Nat × Nat} (hR : sh_Rep B D ca μ H) (hS : va_S (fun q => B ≤ q) s.heap H locs) (hlay : sh_lay μ' = sh_lay μ) (h : (sh_lay μ)[r]? = some q)
    (hat : va_at D sh_cl (B + r, sh_ent B ca μ' r q) H') (ho : ∀ r', r' ≠ r → ∀ q', sh_ent B ca μ' r' q' = sh_ent B ca μ r' q') (z : H'.size = H.size) (oq : ∀ x : Nat, x ≠ B + r → H'[x]? = H[x]?) : sh_Rep B D ca μ' H' ∧ va_S (fun q => B ≤ q) s.heap H' (locs ++ [⟨B + r, k⟩]) := by
  refine ⟨⟨by rw [z, hR.1, hlay], ?_⟩, hS.put z oq (Nat.le_add_right B r)⟩
  rw [← sh_ws_set hlay h rfl ho]
  exact hR.2.set (sh_D B ca μ) (sh_ws_at h) hat oq
theorem sh_at {B : Nat} {D : va_G} {ca : Nat → ClassId} {μ : sh_Mem} {H : Heap} {r : Nat} {q : Nat × Nat} (hR : sh_Rep B D ca μ H) (h : (sh_lay μ)[r]? = some q) : va_at D sh_cl (B + r, sh_ent B ca μ r q) H := hR.2 r _ (sh_ws_at h)
/-- a field of ours: which place of the pool, of which class, which number -/
def sh_FL (own : String) (idx ci k : Nat) : Prop := ci < 13 ∧ k < sh_n ci ∧ Cond.fieldLink own idx (sh_T ci k).1 (sh_T ci k).2.1 (sh_T ci k).2.2.1 ∈ sh_tb
section VHeap
variable {l : Launch} {B : Nat} {D : va_G} {ca : Nat → ClassId} {d mc ms : Nat} {M : sh_M} {lv : List (Nat × Value)} {st : List Value} {μ : sh_Mem} {cells slots : Nat} {Q : Option Value → sh_Mem → Prop}
theorem vv_get {idx ci k n r : Nat} {v : Value} (pc : Nat) (hd : decode M.2.1 pc = .ok (.getfield idx, 3)) (hf : sh_FL M.1.cls idx ci k) (hl : (sh_lay μ)[r]? = some (ci, n)) (hv : sh_fv B μ r k (sh_kd (sh_ty ci k)) = sh_cv B v) (kk : sh_V l B D ca d mc ms M (pc + 3) lv (v :: st) μ cells slots Q) : sh_V l B D ca d mc ms M pc lv (.ref r :: st) μ cells slots Q := by
  intro p e s m args below meth c H locs ls C hR hS hls
  have ha := sh_ws_at (B := B) (ca := ca) hl
  rw [sh_ent_obj hf.1] at ha
  exact va_get C.1 C.2.1 C.2.2.2.2.2.1 (sh_inu hf.1) C.2.2.2.2.1 C.2.2.2.2.2.2.2.2.1 hR.2 r ha (sh_cl_at hf.1) k hf.2.1 (C.2.2.2.2.2.1 _ hf.2.2) (fun _ h => h) (by rw [sh_flds_at hf.2.1, hv]) hd (kk p e s m args below meth c H locs ls C hR hS hls)
/-- a number field -/
theorem vv_getI {idx ci k n r : Nat} (pc : Nat) (hd : decode M.2.1 pc = .ok (.getfield idx, 3)) (hf : sh_FL M.1.cls idx ci k) (ht : sh_kd (sh_ty ci k) = 0) (hl : (sh_lay μ)[r]? = some (ci, n)) (kk : sh_V l B D ca d mc ms M (pc + 3) lv (.int (sh_i μ r k) :: st) μ cells slots Q) : sh_V l B D ca d mc ms M pc lv (.ref r :: st) μ cells slots Q := vv_get pc hd hf hl (by rw [ht]; rfl) kk
theorem vv_getL {idx ci k n r : Nat} (pc : Nat) (hd : decode M.2.1 pc = .ok (.getfield idx, 3)) (hf : sh_FL M.1.cls idx ci k) (ht : sh_kd (sh_ty ci k) = 1) (hl : (sh_lay μ)[r]? = some (ci, n)) (kk : sh_V l B D ca d mc ms M (pc + 3) lv (.long (sh_l μ r k) :: st) μ cells slots Q) : sh_V l B D ca d mc ms M pc lv (.ref r :: st) μ cells slots Q := vv_get pc hd hf hl (by rw [ht]; rfl) kk
theorem vv_getR {idx ci k n r r' : Nat} (pc : Nat) (hd : decode M.2.1 pc = .ok (.getfield idx, 3)) (hf : sh_FL M.1.cls idx ci k) (ht : sh_kd (sh_ty ci k) = 2) (hl : (sh_lay μ)[r]? = some (ci, n)) (hr : sh_r μ r k = some r') (kk : sh_V l B D ca d mc ms M (pc + 3) lv (.ref r' :: st) μ cells slots Q) : sh_V l B D ca d mc ms M pc lv (.ref r :: st) μ cells slots Q := vv_get pc hd hf hl (by rw [ht]; show va_rf ((sh_r μ r k).map (B + ·)) = _; rw [hr]; rfl) kk
theorem sh_flds_set {B : Nat} {μ μ' : sh_Mem} {r ci k : Nat} {v : Value} (hk : k < sh_n ci) (hv : sh_fv B μ' r k (sh_kd (sh_ty ci k)) = v) (ho : ∀ j, j ≠ k → sh_fv B μ' r j (sh_kd (sh_ty ci j)) = sh_fv B μ r j (sh_kd (sh_ty ci j))) : ((List.range (sh_n ci)).map fun k => sh_fv B μ r k (sh_kd (sh_ty ci k))).set k v = (List.range (sh_n ci)).map fun k => sh_fv B μ' r k (sh_kd (sh_ty ci k)) := by
  apply List.ext_getElem?
  intro j
  rw [List.getElem?_set]
  by_cases hj : k = j
  · subst hj
    rw [if_pos rfl, if_pos (by rw [List.length_map, List.length_range]; exact hk), sh_flds_at hk, hv]
  · rw [if_neg hj]
    by_cases hn : j < sh_n ci
    · rw [sh_flds_at hn, sh_flds_at hn, ho j (fun e => hj e.symm)]
    · rw [List.getElem?_eq_none (by rw [List.length_map, List.length_range]; omega), List.getElem?_eq_none (by rw [List.length_map, List.length_range]; omega)]
/-- a store into a field: 'fin': final ones, in a constructor -/
theorem vv_put {idx ci k n r : Nat} {v : Value} {μ' : sh_Mem} (pc : Nat) (hd : decode M.2.1 pc = .ok (.putfield idx, 3)) (hf : sh_FL M.1.cls idx ci k) (hfin : (sh_T ci k).2.2.2 = false ∨ ((sh_T ci k).2.2.2 = true ∧ M.1.name = "<init>" ∧ (sh_T ci k).1 = M.1.cls)) (hl : (sh_lay μ)[r]? = some (ci, n)) (hlay : sh_lay μ' = sh_lay μ) (hv : sh_fv B μ' r k (sh_kd (sh_ty ci k)) = sh_cv B v) (hn : narrow (sh_ty ci k) (sh_cv B v) = sh_cv B v) (hfit : fits (sh_ty ci k) (sh_cv B v) = true)
    (ho : ∀ j, j ≠ k → sh_fv B μ' r j (sh_kd (sh_ty ci j)) = sh_fv B μ r j (sh_kd (sh_ty ci j))) (hoo : ∀ r', r' ≠ r → ∀ q', sh_ent B ca μ' r' q' = sh_ent B ca μ r' q') (kk : sh_V l B D ca d mc ms M (pc + 3) lv st μ' cells slots Q) : sh_V l B D ca d mc ms M pc lv (v :: .ref r :: st) μ cells slots Q := by
  intro p e s m args below meth c H locs ls C hR hS hls
  obtain ⟨hx, hb, hr, hml, hown, hts, hlocks, hnm, hK, hB, hE⟩ := id C
  have hci := hf.1
  have hk := hf.2.1
  have hin := sh_inu hci
  have hc := sh_cl_at hci
  have hat := sh_at hR hl
  rw [sh_ent_obj hci] at hat
  have hap := va_apart (own := M.1.cls) hts hin (sh_ty ci) (sh_ty_at hci) (sh_nm_at hci) hK hc
  obtain ⟨q, h1, cell, q1, q2, q3, q4⟩ := hat
  have hq : q = (sh_R ci, sh_T ci, sh_n ci) := Option.some.inj (h1.symm.trans hc)
  subst hq
  obtain ⟨hSl, hfc, kC, hkC, hkind⟩ := hK.1 ci _ hc
  obtain ⟨cf, kf, fi, f, hi, hsl⟩ := hSl k hk
  have hst := (u_facts hfc hkC (u_lays hts hin hk) hi).1
  have hlink := hts _ hf.2.2
  have hd2 := sh_ty_at hci k hk
  have fini : ∀ (H' : Heap), H'[B + r]? = some (cell.setSlot (D.2 ci k) (sh_cv B v)) → H'.size = H.size → (∀ x, x ≠ B + r → H'[x]? = H[x]?) → sh_Rep B D ca μ' H' ∧ va_S (fun q => B ≤ q) s.heap H' (locs ++ [⟨B + r, D.2 ci k⟩]) := by
    intro H' e1 e2 e3
    refine sh_store hR hS hlay hl ?_ hoo e2 e3
    rw [sh_ent_obj hci]
    refine ⟨_, hc, ?_⟩
    show t_OB (B + r) (D.1 ci) (sh_n ci) (D.2 ci) H' (vp_V _)
    rw [← sh_flds_set (v := sh_cv B v) hk hv ho]
    exact t_OB.to (V := updV (vp_V ((List.range (sh_n ci)).map fun k => sh_fv B μ r k (sh_kd (sh_ty ci k)))) k (sh_cv B v)) ⟨_, e1, q2, q3, t_set q4 hap hk (sh_cv B v)⟩ (fun j _ => vp_updV_set (by rw [List.length_map, List.length_range]; exact hk) (sh_cv B v) j)
  have hlay0 := hts _ (hin _ (u_in_lay hk))
  rcases hfin with hfin | ⟨hfin, hini, hdecl⟩
  · unfold u_lay at hlay0
    rw [if_neg (by rw [hfin]; decide)] at hlay0
    have h6 := u_store hfc hkC hkind hlay0 hi hd2 hn hfit
    refine W.putK hx hb (f := f) ⟨hown, hlink, ⟨_, _, _, hi⟩, hst⟩ (by rw [q2]; exact h6) q1 q3 (by rw [hsl]; exact k2_hasslot (q4 k hk)) rfl rfl hd fun H' e1 e2 e3 => ?_
    rw [hsl] at e1 ⊢
    obtain ⟨hR', hS'⟩ := fini H' e1 e2 e3
    exact kk p e s m args below meth c H' _ ls C hR' hS' hls
  · unfold u_lay at hlay0
    rw [if_pos hfin] at hlay0
    have hcf : m.cls = cf := by
      obtain ⟨_, _, c', _, _, _, -, -, hf', -, -, -, hown2, -⟩ := Cond.laysFinal_spec hlay0
      have e1 : c' = cf := by have := hi.symm.trans hf'; simp at this; exact this.1.symm
      rw [hdecl] at hown2
      rw [← e1]; exact Option.some.inj (hown.symm.trans hown2)
    have h6 := u_fits hfc hkC hkind (Or.inr hlay0) hi hd2 hn hfit
    refine W.putFinK hx hb hown hlink hi hst hcf (hnm.trans hini) (by rw [q2]; exact h6) q1 q3 (by rw [hsl]; exact k2_hasslot (q4 k hk)) rfl rfl hd fun H' e1 e2 e3 => ?_
    rw [hsl] at e1 ⊢
    obtain ⟨hR', hS'⟩ := fini H' e1 e2 e3
    exact kk p e s m args below meth c H' _ ls C hR' hS' hls
theorem sh_oth_i {B : Nat} {ca : Nat → ClassId} {μ : sh_Mem} {r : Nat} {g : Nat → Int32} : ∀ r', r' ≠ r → ∀ q', sh_ent B ca (sh_rowI μ r g) r' q' = sh_ent B ca μ r' q' := fun _ h q' => sh_ent_congr (μ := μ) (μ' := sh_rowI μ r g) (sh_row_n h) rfl rfl q'
theorem sh_oth_l {B : Nat} {ca : Nat → ClassId} {μ : sh_Mem} {r : Nat} {g : Nat → Int64} : ∀ r', r' ≠ r → ∀ q', sh_ent B ca (sh_rowL μ r g) r' q' = sh_ent B ca μ r' q' := fun _ h q' => sh_ent_congr (μ := μ) (μ' := sh_rowL μ r g) rfl (sh_row_n h) rfl q'
theorem sh_oth_r {B : Nat} {ca : Nat → ClassId} {μ : sh_Mem} {r : Nat} {g : Nat → Option Nat} : ∀ r', r' ≠ r → ∀ q', sh_ent B ca (sh_rowR μ r g) r' q' = sh_ent B ca μ r' q' := fun _ h q' => sh_ent_congr (μ := μ) (μ' := sh_rowR μ r g) rfl rfl (sh_row_n h) q'
theorem sh_setI_at {μ : sh_Mem} {r k : Nat} {x : Int32} : sh_i (sh_setI μ r k x) r k = x := by
  show sh_row _ r _ r k = x
  rw [sh_row_s]
  exact if_pos rfl
theorem sh_setL_at {μ : sh_Mem} {r k : Nat} {x : Int64} : sh_l (sh_setL μ r k x) r k = x := by
  show sh_row _ r _ r k = x
  rw [sh_row_s]
  exact if_pos rfl
theorem sh_setR_at {μ : sh_Mem} {r k : Nat} {x : Option Nat} : sh_r (sh_setR μ r k x) r k = x := by
  show sh_row _ r _ r k = x
  rw [sh_row_s]
  exact if_pos rfl
theorem sh_setI_ne {μ : sh_Mem} {r k j : Nat} {x : Int32} (h : j ≠ k) : sh_i (sh_setI μ r k x) r j = sh_i μ r j := by
  show sh_row _ r _ r j = _
  rw [sh_row_s]
  exact if_neg h
theorem sh_setL_ne {μ : sh_Mem} {r k j : Nat} {x : Int64} (h : j ≠ k) : sh_l (sh_setL μ r k x) r j = sh_l μ r j := by
  show sh_row _ r _ r j = _
  rw [sh_row_s]
  exact if_neg h
theorem sh_setR_ne {μ : sh_Mem} {r k j : Nat} {x : Option Nat} (h : j ≠ k) : sh_r (sh_setR μ r k x) r j = sh_r μ r j := by
  show sh_row _ r _ r j = _
  rw [sh_row_s]
  exact if_neg h
theorem vv_putI {idx ci k n r : Nat} {x : Int32} (pc : Nat) (hd : decode M.2.1 pc = .ok (.putfield idx, 3)) (hf : sh_FL M.1.cls idx ci k) (hfin : (sh_T ci k).2.2.2 = false ∨ ((sh_T ci k).2.2.2 = true ∧ M.1.name = "<init>" ∧ (sh_T ci k).1 = M.1.cls)) (ht : sh_ty ci k = .int) (hl : (sh_lay μ)[r]? = some (ci, n)) (kk : sh_V l B D ca d mc ms M (pc + 3) lv st (sh_setI μ r k x) cells slots Q) : sh_V l B D ca d mc ms M pc lv (.int x :: .ref r :: st) μ cells slots Q :=
  vv_put (μ' := sh_setI μ r k x) pc hd hf hfin hl rfl (by rw [ht]; show Value.int (sh_i (sh_setI μ r k x) r k) = _; rw [sh_setI_at]; rfl) (by rw [ht]; rfl) (by rw [ht]; rfl) (fun j hj => by unfold sh_fv; rw [sh_setI_ne hj]; rfl) sh_oth_i kk
/-- a boolean field -/
theorem vv_putZ {idx ci k n r : Nat} {x : Int32} (pc : Nat) (hd : decode M.2.1 pc = .ok (.putfield idx, 3)) (hf : sh_FL M.1.cls idx ci k) (hfin : (sh_T ci k).2.2.2 = false ∨ ((sh_T ci k).2.2.2 = true ∧ M.1.name = "<init>" ∧ (sh_T ci k).1 = M.1.cls)) (ht : sh_ty ci k = .boolean) (hx : x = 0 ∨ x = 1) (hl : (sh_lay μ)[r]? = some (ci, n)) (kk : sh_V l B D ca d mc ms M (pc + 3) lv st (sh_setI μ r k x) cells slots Q) : sh_V l B D ca d mc ms M pc lv (.int x :: .ref r :: st) μ cells slots Q :=
  vv_put (μ' := sh_setI μ r k x) pc hd hf hfin hl rfl (by rw [ht]; show Value.int (sh_i (sh_setI μ r k x) r k) = _; rw [sh_setI_at]; rfl) (by rw [ht]; rcases hx with rfl | rfl <;> rfl) (by rw [ht]; rcases hx with rfl | rfl <;> rfl) (fun j hj => by unfold sh_fv; rw [sh_setI_ne hj]; rfl) sh_oth_i kk
theorem vv_putL {idx ci k n r : Nat} {x : Int64} (pc : Nat) (hd : decode M.2.1 pc = .ok (.putfield idx, 3)) (hf : sh_FL M.1.cls idx ci k) (hfin : (sh_T ci k).2.2.2 = false ∨ ((sh_T ci k).2.2.2 = true ∧ M.1.name = "<init>" ∧ (sh_T ci k).1 = M.1.cls)) (ht : sh_ty ci k = .long) (hl : (sh_lay μ)[r]? = some (ci, n)) (kk : sh_V l B D ca d mc ms M (pc + 3) lv st (sh_setL μ r k x) cells slots Q) : sh_V l B D ca d mc ms M pc lv (.long x :: .ref r :: st) μ cells slots Q :=
  vv_put (μ' := sh_setL μ r k x) pc hd hf hfin hl rfl (by rw [ht]; show Value.long (sh_l (sh_setL μ r k x) r k) = _; rw [sh_setL_at]; rfl) (by rw [ht]; rfl) (by rw [ht]; rfl) (fun j hj => by unfold sh_fv; rw [sh_setL_ne hj]; rfl) sh_oth_l kk
def sh_isq (ty : FieldType) : Bool := match ty with
  | .object _ => true
  | .array _ => true
  | _ => false
theorem vv_putR {idx ci k n r x : Nat} (pc : Nat) (hd : decode M.2.1 pc = .ok (.putfield idx, 3)) (hf : sh_FL M.1.cls idx ci k) (hfin : (sh_T ci k).2.2.2 = false ∨ ((sh_T ci k).2.2.2 = true ∧ M.1.name = "<init>" ∧ (sh_T ci k).1 = M.1.cls)) (ht : sh_isq (sh_ty ci k) = true) (hl : (sh_lay μ)[r]? = some (ci, n)) (kk : sh_V l B D ca d mc ms M (pc + 3) lv st (sh_setR μ r k (some x)) cells slots Q) : sh_V l B D ca d mc ms M pc lv (.ref x :: .ref r :: st) μ cells slots Q := by
  have h2 : sh_kd (sh_ty ci k) = 2 := by
    revert ht
    cases sh_ty ci k <;> first | (intro h; cases h; done) | (intro _; rfl)
  refine vv_put (μ' := sh_setR μ r k (some x)) pc hd hf hfin hl rfl (by rw [h2]; show va_rf ((sh_r (sh_setR μ r k (some x)) r k).map _) = _; rw [sh_setR_at]; rfl) ?_ ?_ (fun j hj => by unfold sh_fv; rw [sh_setR_ne hj]; rfl) sh_oth_r kk
  · revert ht
    cases sh_ty ci k <;> first | (intro h; cases h; done) | (intro _; rfl)
  · revert ht
    cases sh_ty ci k <;> first | (intro h; cases h; done) | (intro _; rfl)
theorem vv_iald {r n : Nat} {i : Int32} (pc : Nat) (hd : decode M.2.1 pc = .ok (.iaload, 1)) (hl : (sh_lay μ)[r]? = some (13, n)) (hi : vp_in i n) (kk : sh_V l B D ca d mc ms M (pc + 1) lv (.int (sh_i μ r i.toNatClampNeg) :: st) μ cells slots Q) : sh_V l B D ca d mc ms M pc lv (.int i :: .ref r :: st) μ cells slots Q := by
  intro p e s m args below meth c H locs ls C hR hS hls
  exact va_iald C.1 C.2.1 C.2.2.2.2.2.2.2.2.1 hR.2 r 0 (sh_ws_at hl) rfl hi hd (kk p e s m args below meth c H locs ls C hR hS hls)
theorem vv_cald {r n : Nat} {i : Int32} (pc : Nat) (hd : decode M.2.1 pc = .ok (.caload, 1)) (hl : (sh_lay μ)[r]? = some (15, n)) (hi : vp_in i n) (kk : sh_V l B D ca d mc ms M (pc + 1) lv (.int (sh_i μ r i.toNatClampNeg) :: st) μ cells slots Q) : sh_V l B D ca d mc ms M pc lv (.int i :: .ref r :: st) μ cells slots Q := by
  intro p e s m args below meth c H locs ls C hR hS hls
  exact va_cald C.1 C.2.1 C.2.2.2.2.2.2.2.2.1 hR.2 r 2 (sh_ws_at hl) rfl hi hd (kk p e s m args below meth c H locs ls C hR hS hls)
theorem vv_lald {r n : Nat} {i : Int32} (pc : Nat) (hd : decode M.2.1 pc = .ok (.laload, 1)) (hl : (sh_lay μ)[r]? = some (14, n)) (hi : vp_in i n) (kk : sh_V l B D ca d mc ms M (pc + 1) lv (.long (sh_l μ r i.toNatClampNeg) :: st) μ cells slots Q) : sh_V l B D ca d mc ms M pc lv (.int i :: .ref r :: st) μ cells slots Q := by
  intro p e s m args below meth c H locs ls C hR hS hls
  exact va_lald C.1 C.2.1 C.2.2.2.2.2.2.2.2.1 hR.2 r 1 (sh_ws_at hl) rfl hi hd (kk p e s m args below meth c H locs ls C hR hS hls)
theorem vv_aald {r n r' : Nat} {i : Int32} (pc : Nat) (hd : decode M.2.1 pc = .ok (.aaload, 1)) (hl : (sh_lay μ)[r]? = some (16, n)) (hi : vp_in i n) (hr : sh_r μ r i.toNatClampNeg = some r') (kk : sh_V l B D ca d mc ms M (pc + 1) lv (.ref r' :: st) μ cells slots Q) : sh_V l B D ca d mc ms M pc lv (.int i :: .ref r :: st) μ cells slots Q := by
  intro p e s m args below meth c H locs ls C hR hS hls
  refine va_aldq C.1 C.2.1 C.2.2.2.2.2.2.2.2.1 hR.2 r 3 (sh_ws_at hl) rfl hi hd ?_
  rw [hr]
  exact kk p e s m args below meth c H locs ls C hR hS hls
theorem vv_aaldq {r n r' : Nat} {i : Int32} (pc : Nat) (hd : decode M.2.1 pc = .ok (.aaload, 1)) (hl : (sh_lay μ)[r]? = some (17, n)) (hi : vp_in i n) (hr : sh_r μ r i.toNatClampNeg = some r') (kk : sh_V l B D ca d mc ms M (pc + 1) lv (.ref r' :: st) μ cells slots Q) : sh_V l B D ca d mc ms M pc lv (.int i :: .ref r :: st) μ cells slots Q := by
  intro p e s m args below meth c H locs ls C hR hS hls
  have hat := sh_at hR hl
  have hK := C.2.2.2.2.2.2.2.2.1
  have hlt : i.toNatClampNeg < n := Nat.not_le.mp fun q => hi (Or.inr q)
  refine W.aald (v := va_rf ((sh_r μ r i.toNatClampNeg).map (B + ·))) (ty := .array .int) C.1 C.2.1 (a := B + r) (cell := arrV (ca 17) n (fun j => va_rf ((sh_r μ r j).map (B + ·)))) hat ((hK.2 4 _ rfl).1 n _) rfl (fun q => by cases q) (by rw [arrV_size]; exact hi) (by rw [arrV_read _ _ hlt]) rfl rfl hd ?_
  rw [hr]
  exact kk p e s m args below meth c H locs ls C hR hS hls
theorem vv_alen {r n ci : Nat} (pc : Nat) (hd : decode M.2.1 pc = .ok (.arraylength, 1)) (hl : (sh_lay μ)[r]? = some (ci, n)) (hci : ci = 13 ∨ ci = 15) (kk : sh_V l B D ca d mc ms M (pc + 1) lv (.int (Int32.ofNat n) :: st) μ cells slots Q) : sh_V l B D ca d mc ms M pc lv (.ref r :: st) μ cells slots Q := by
  intro p e s m args below meth c H locs ls C hR hS hls
  rcases hci with rfl | rfl
  · exact va_alen C.1 C.2.1 C.2.2.2.2.2.2.2.2.1 hR.2 r 0 (sh_ws_at hl) rfl rfl hd (kk p e s m args below meth c H locs ls C hR hS hls)
  · exact va_alen C.1 C.2.1 C.2.2.2.2.2.2.2.2.1 hR.2 r 2 (sh_ws_at hl) rfl rfl hd (kk p e s m args below meth c H locs ls C hR hS hls)
theorem vv_iast {r n : Nat} {i x : Int32} (pc : Nat) (hd : decode M.2.1 pc = .ok (.iastore, 1)) (hl : (sh_lay μ)[r]? = some (13, n)) (hi : vp_in i n) (kk : sh_V l B D ca d mc ms M (pc + 1) lv st (sh_setI μ r i.toNatClampNeg x) cells slots Q) : sh_V l B D ca d mc ms M pc lv (.int x :: .int i :: .ref r :: st) μ cells slots Q := by
  intro p e s m args below meth c H locs ls C hR hS hls
  have hK := C.2.2.2.2.2.2.2.2.1
  refine W.iast C.1 C.2.1 (a := B + r) (cell := arrV (ca 13) n (fun j => .int (sh_i μ r j))) (sh_at hR hl) ((hK.2 0 _ rfl).1 n _) (fun q => by cases q) (by rw [arrV_size]; exact hi) rfl rfl hd fun H' e1 z oq => ?_
  rw [arrV_store] at e1
  obtain ⟨hR', hS'⟩ := sh_store (μ' := sh_setI μ r i.toNatClampNeg x) (k := i.toNatClampNeg) hR hS rfl hl (by
    rw [sh_ent_i]
    show H'[B + r]? = some (vp_cell _ _)
    rw [vp_cell_i, e1]
    congr 2
    funext q
    show _ = Value.int (sh_row _ r _ r q)
    rw [sh_row_s]
    by_cases hq : q = i.toNatClampNeg
    · subst hq; simp [updV, va_up]
    · simp [updV, va_up, hq]) sh_oth_i z oq
  exact kk p e s m args below meth c H' _ ls C hR' hS' hls
theorem vv_cast {r n : Nat} {i x : Int32} (pc : Nat) (hd : decode M.2.1 pc = .ok (.castore, 1)) (hl : (sh_lay μ)[r]? = some (15, n)) (hi : vp_in i n) (hx : narrow .char (.int x) = .int x) (kk : sh_V l B D ca d mc ms M (pc + 1) lv st (sh_setI μ r i.toNatClampNeg x) cells slots Q) : sh_V l B D ca d mc ms M pc lv (.int x :: .int i :: .ref r :: st) μ cells slots Q := by
  intro p e s m args below meth c H locs ls C hR hS hls
  have hK := C.2.2.2.2.2.2.2.2.1
  refine W.cast C.1 C.2.1 (a := B + r) (cell := arrV (ca 15) n (fun j => .int (sh_i μ r j))) (sh_at hR hl) ((hK.2 2 _ rfl).1 n _) (fun q => by cases q) (by rw [arrV_size]; exact hi) rfl rfl hd fun H' e1 z oq => ?_
  rw [arrV_store, hx] at e1
  obtain ⟨hR', hS'⟩ := sh_store (μ' := sh_setI μ r i.toNatClampNeg x) (k := i.toNatClampNeg) hR hS rfl hl (by
    rw [sh_ent_c]
    show H'[B + r]? = some (vp_cell _ _)
    rw [vp_cell_i, e1]
    congr 2
    funext q
    show _ = Value.int (sh_row _ r _ r q)
    rw [sh_row_s]
    by_cases hq : q = i.toNatClampNeg
    · subst hq; simp [updV, va_up]
    · simp [updV, va_up, hq]) sh_oth_i z oq
  exact kk p e s m args below meth c H' _ ls C hR' hS' hls
theorem vv_last {r n : Nat} {i : Int32} {x : Int64} (pc : Nat) (hd : decode M.2.1 pc = .ok (.lastore, 1)) (hl : (sh_lay μ)[r]? = some (14, n)) (hi : vp_in i n) (kk : sh_V l B D ca d mc ms M (pc + 1) lv st (sh_setL μ r i.toNatClampNeg x) cells slots Q) : sh_V l B D ca d mc ms M pc lv (.long x :: .int i :: .ref r :: st) μ cells slots Q := by
  intro p e s m args below meth c H locs ls C hR hS hls
  have hK := C.2.2.2.2.2.2.2.2.1
  refine W.last C.1 C.2.1 (a := B + r) (cell := arrV (ca 14) n (fun j => .long (sh_l μ r j))) (sh_at hR hl) ((hK.2 1 _ rfl).1 n _) (fun q => by cases q) (by rw [arrV_size]; exact hi) rfl rfl hd fun H' e1 z oq => ?_
  rw [arrV_store] at e1
  obtain ⟨hR', hS'⟩ := sh_store (μ' := sh_setL μ r i.toNatClampNeg x) (k := i.toNatClampNeg) hR hS rfl hl (by
    rw [sh_ent_l]
    show H'[B + r]? = some (vp_cell _ _)
    rw [vp_cell_l, e1]
    congr 2
    funext q
    show _ = Value.long (sh_row _ r _ r q)
    rw [sh_row_s]
    by_cases hq : q = i.toNatClampNeg
    · subst hq; simp [updV, va_up]
    · simp [updV, va_up, hq]) sh_oth_l z oq
  exact kk p e s m args below meth c H' _ ls C hR' hS' hls
end VHeap
