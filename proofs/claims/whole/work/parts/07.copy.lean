/-! System.arraycopy between two int arrays; new cells -/
section VCopy
variable {l : Launch} {B : Nat} {D : va_G} {ca : Nat → ClassId} {d mc ms : Nat} {M : sh_M} {lv : List (Nat × Value)} {st : List Value} {μ : sh_Mem} {cells slots : Nat} {Q : Option Value → sh_Mem → Prop}
theorem sh_nfw : nativeFrameWords "java/lang/System" "arraycopy" 5 ≤ 80 := by decide +kernel
theorem sh_nn (z : Int32) (hz : ¬ z < 0) : z.toInt = (z.toNatClampNeg : Int) := by
  have hz0 : (0 : Int) ≤ z.toInt := by
    have := Int32.not_lt.mp hz
    simpa using Int32.le_iff_toInt_le.mp this
  show z.toInt = ((z.toInt.toNat : Nat) : Int)
  omega
def sh_CP (own : String) (idx : Nat) : Prop := Cond.methodLink own idx arraycopyName ∈ sh_tb ∧ Cond.native arraycopyName ∈ sh_tb ∧ Cond.static arraycopyName ∈ sh_tb ∧ Cond.initialized "java/lang/System" ∈ sh_tb
theorem vv_copy {idx r0 r1 n0 n1 : Nat} {sp dp n : Int32} (pc : Nat) (hd : decode M.2.1 pc = .ok (.invokestatic idx, 3)) (hc : sh_CP M.1.cls idx) (hl0 : (sh_lay μ)[r0]? = some (13, n0)) (hl1 : (sh_lay μ)[r1]? = some (13, n1)) (h1 : ¬ sp < 0) (h2 : ¬ dp < 0) (h3 : ¬ n < 0) (h4 : sp.toNatClampNeg + n.toNatClampNeg ≤ n0) (h5 : dp.toNatClampNeg + n.toNatClampNeg ≤ n1) (hdd : 1 ≤ d) (hst : (st.map fun v => v.category).sum ≤ 8)
    (kk : sh_V l B D ca d mc ms M (pc + 3) lv st (sh_rowI μ r1 (va_cpy (sh_i μ r0) (sh_i μ r1) sp.toNatClampNeg dp.toNatClampNeg n.toNatClampNeg)) cells slots Q) : sh_V l B D ca d mc ms M pc lv (.int n :: .int dp :: .ref r1 :: .int sp :: .ref r0 :: st) μ cells slots Q := by
  intro p e s m args below meth c H locs ls C hR hS hls T hT X
  have hts := C.2.2.2.2.2.1
  have hK := C.2.2.2.2.2.2.2.2.1
  have hc0 : H[B + r0]? = some (vp_cell (ca 13) (n0, .inl (sh_i μ r0))) := sh_at hR hl0
  have hc1 : H[B + r1]? = some (vp_cell (ca 13) (n1, .inl (sh_i μ r1))) := sh_at hR hl1
  obtain ⟨-, k0, hk0, cm0, hkk0⟩ := (hK.2 0 _ rfl).1 n0 (fun j => .int (sh_i μ r0 j))
  obtain ⟨-, k1, hk1, cm1, hkk1⟩ := (hK.2 0 _ rfl).1 n1 (fun j => .int (sh_i μ r1 j))
  obtain ⟨vm', X', step⟩ := X.arraycopy C.1 C.2.2.2.2.1 (hts _ hc.1) (hts _ hc.2.1) (hts _ hc.2.2.1) (hts _ hc.2.2.2) (src := B + r0) (dst := B + r1) (cs := vp_cell (ca 13) (n0, .inl (sh_i μ r0))) (cd := vp_cell (ca 13) (n1, .inl (sh_i μ r1))) (srcPos := sp) (destPos := dp) (n := n) (by rw [hT]; exact hc0) (by rw [hT]; exact hc1)
    (fun _ h => by cases h) (fun _ h => by cases h) (fun h => by cases h) (fun h => by cases h) hk0 hk1 hkk0 hkk1 (by simp [refKind]) h1 h2 h3
    (by rw [sh_nn sp h1, sh_nn n h3]; show ¬ _ > ((arrV (ca 13) n0 (fun j => .int (sh_i μ r0 j))).slots.size : Int); rw [arrV_size]; omega)
    (by rw [sh_nn dp h2, sh_nn n h3]; show ¬ _ > ((arrV (ca 13) n1 (fun j => .int (sh_i μ r1 j))).slots.size : Int); rw [arrV_size]; omega)
    (fun vm₁ _ i hi => by
      have e : (vp_cell (ca 13) (n0, .inl (sh_i μ r0))).slots.getD (sp.toNatClampNeg + i) .null = .int (sh_i μ r0 (sp.toNatClampNeg + i)) := by
        show (arrV (ca 13) n0 (fun j => .int (sh_i μ r0 j))).slots.getD _ _ = _
        rw [Array.getD_eq_getD_getElem?, arrV_read _ _ (by omega)]
        rfl
      refine ⟨?_, ?_⟩
      · rw [e]
        rfl
      · rw [e]
        exact trivial)
    (g := F0 m pc ls ((.int n :: .int dp :: .ref r1 :: .int sp :: .ref r0 :: st).map (sh_cv B))) rfl (by show ls.size = _; rw [C.2.2.2.1]; exact hls.1) (rest := st.map (sh_cv B)) rfl (by rw [C.2.1]; exact hd) hdd (by
      show 2 * 0 + ((st.map (sh_cv B)).map fun v => v.category).sum + _ ≤ 100 * d
      rw [sh_cat]
      have := sh_nfw
      omega)
  have e1 : copied (vp_cell (ca 13) (n0, .inl (sh_i μ r0))) (vp_cell (ca 13) (n1, .inl (sh_i μ r1))) sp dp n = vp_cell (ca 13) (n1, .inl (va_cpy (sh_i μ r0) (sh_i μ r1) sp.toNatClampNeg dp.toNatClampNeg n.toNatClampNeg)) := va_copied (fun z => .int z) (ca 13) (ca 13) (sh_i μ r0) (sh_i μ r1) h4
  rw [e1] at X' step
  generalize hf : va_cpy (sh_i μ r0) (sh_i μ r1) sp.toNatClampNeg dp.toNatClampNeg n.toNatClampNeg = f at X' step kk
  have hlt : B + r1 < H.size := (Array.getElem?_eq_some_iff.mp hc1).1
  have hheap : ((T.setVm vm').setCell (B + r1) (vp_cell (ca 13) (n1, .inl f))).heap = H.setIfInBounds (B + r1) (vp_cell (ca 13) (n1, .inl f)) := by rw [← hT]; rfl
  have oq : ∀ q : Nat, q ≠ B + r1 → (H.setIfInBounds (B + r1) (vp_cell (ca 13) (n1, .inl f)))[q]? = H[q]? := fun q hq => by simp [Array.getElem?_setIfInBounds, Ne.symm hq]
  have hat : va_at D sh_cl (B + r1, sh_ent B ca (sh_rowI μ r1 f) r1 (13, n1)) (H.setIfInBounds (B + r1) (vp_cell (ca 13) (n1, .inl f))) := by
    rw [sh_ent_i]
    show (H.setIfInBounds (B + r1) _)[B + r1]? = some (vp_cell _ _)
    rw [show sh_i (sh_rowI μ r1 f) r1 = f from sh_row_s]
    simp [Array.getElem?_setIfInBounds, hlt]
  obtain ⟨hR', -⟩ := sh_store (μ' := sh_rowI μ r1 f) (k := 0) hR hS rfl hl1 hat sh_oth_i (by simp) oq
  obtain ⟨t, a1, b1⟩ := kk p e s m args below meth c _ _ ls C hR' ⟨by simp; exact hS.1, fun q g1 g2 => by
      rw [oq q (fun e => g2 (by rw [e]; exact Nat.le_add_right B r1))]
      exact hS.2.1 q g1 g2, fun q hq => by
      rcases List.mem_append.mp hq with h | h
      · exact hS.2.2 q h
      · obtain ⟨z, -, hz⟩ := List.mem_map.mp h
        rw [← hz]
        exact Nat.le_add_right B r1⟩ hls _ hheap X'
  exact ⟨t, step t a1, b1⟩
theorem sh_push {H H1 : Heap} {q : Nat × Nat} {s : State} {locs : List Loc} (hR : sh_Rep B D ca μ H) (hS : va_S (fun q => B ≤ q) s.heap H locs) (hat : va_at D sh_cl (B + (sh_lay μ).length, sh_ent B ca (sh_add μ q) (sh_lay μ).length q) H1) (z : H1.size = H.size + 1) (o1 : ∀ x : Nat, x < H.size → H1[x]? = H[x]?) : sh_Rep B D ca (sh_add μ q) H1 ∧ va_S (fun q => B ≤ q) s.heap H1 locs := by
  refine ⟨⟨?_, ?_⟩, ⟨by rw [z]; exact Nat.le_succ_of_le hS.1, fun x h1 h2 => (o1 x (Nat.lt_of_lt_of_le h1 hS.1)).trans (hS.2.1 x h1 h2), hS.2.2⟩⟩
  · rw [z, hR.1]
    show _ = B + (μ.1 ++ [q]).length
    rw [List.length_append]
    rfl
  · rw [← sh_ws_push rfl]
    refine (hR.2.kept (fun k x hx => o1 x.1 ((hR.2 k x hx).lt))).app (fun k x hx => ?_)
    have h0 : k < 1 := (List.getElem?_eq_some_iff.mp hx).1
    rw [show k = 0 by omega] at hx
    cases hx
    exact hat
/-- new int[n], long[n], char[n] -/
theorem vv_newa {n : Int32} {N : Nat} (t : Nat) (atype : ArrayType) (hta : (t = 13 ∧ atype = .int) ∨ (t = 14 ∧ atype = .long) ∨ (t = 15 ∧ atype = .char)) (pc : Nat) (hd : decode M.2.1 pc = .ok (.newarray atype, 2)) (hw : Cond.arrayClass (newarray.typeOf atype) ∈ sh_tb) (hn : ¬ n < 0) (hN : n.toNatClampNeg = N) (hN2 : N ≤ 20000) (hm : cells + 1 ≤ mc) (hs : slots + N ≤ ms)
    (kk : sh_V l B D ca d mc ms M (pc + 2) lv (.ref (sh_lay μ).length :: st) (sh_add μ (t, N)) (cells + 1) (slots + N) Q) : sh_V l B D ca d mc ms M pc lv (.int n :: st) μ cells slots Q := by
  intro p e s m args below meth c H locs ls C hR hS hls
  have hts := C.2.2.2.2.2.1
  have hK := C.2.2.2.2.2.2.2.2.1
  refine va_newaK (R := sh_rm d mc ms) C.1 C.2.1 (hts _ hw) (g := F0 m pc ls ((.int n :: st).map (sh_cv B))) rfl hd (rest := st.map (sh_cv B)) rfl hn hN (by rcases hta with ⟨-, rfl⟩ | ⟨-, rfl⟩ | ⟨-, rfl⟩ <;> simp [componentBytes, newarray.typeOf] <;> omega) hm hs hR.1 fun H1 cA e1 z1 o1 hAr hNm => ?_
  have hcA : cA = ca t := by
    rcases hta with ⟨rfl, rfl⟩ | ⟨rfl, rfl⟩ | ⟨rfl, rfl⟩
    · have h2 : s.vm.findClass ("[" ++ FieldType.int.toString) = some (ca 13) := (hK.2 0 _ rfl).2
      exact Option.some.inj (hNm.symm.trans h2)
    · have h2 : s.vm.findClass ("[" ++ FieldType.long.toString) = some (ca 14) := (hK.2 1 _ rfl).2
      exact Option.some.inj (hNm.symm.trans h2)
    · have h2 : s.vm.findClass ("[" ++ FieldType.char.toString) = some (ca 15) := (hK.2 2 _ rfl).2
      exact Option.some.inj (hNm.symm.trans h2)
  subst hcA
  obtain ⟨hR', hS'⟩ := sh_push (q := (t, N)) (H1 := H1) hR hS (by
    rcases hta with ⟨rfl, rfl⟩ | ⟨rfl, rfl⟩ | ⟨rfl, rfl⟩
    · rw [sh_ent_i]
      show H1[_]? = some (vp_cell _ _)
      rw [e1, show sh_i (sh_add μ (13, N)) (sh_lay μ).length = fun _ => 0 from sh_row_s]
      rfl
    · rw [sh_ent_l]
      show H1[_]? = some (vp_cell _ _)
      rw [e1, show sh_l (sh_add μ (14, N)) (sh_lay μ).length = fun _ => 0 from sh_row_s]
      rfl
    · rw [sh_ent_c]
      show H1[_]? = some (vp_cell _ _)
      rw [e1, show sh_i (sh_add μ (15, N)) (sh_lay μ).length = fun _ => 0 from sh_row_s]
      rfl) (by rw [z1, hR.1]) (fun x hx => o1 x (by rw [← hR.1]; exact hx))
  exact kk p e s m args below meth c H1 locs ls C hR' hS' hls
/-- new C -/
def sh_NW (own : String) (idx ci : Nat) : Prop := ci < 13 ∧ Cond.classLink own idx (sh_R ci) ∈ sh_tb ∧ Cond.instantiable (sh_R ci) (sh_n ci) ∈ sh_tb ∧ Cond.initialized (sh_R ci) ∈ sh_tb
def sh_nkd (ty : FieldType) : Bool := match ty with
  | .int => true
  | .boolean => true
  | .long => true
  | .object _ => true
  | .array _ => true
  | _ => false
theorem sh_kinds {ci : Nat} (h : ci < 13) : ∀ k, k < sh_n ci → sh_nkd (sh_ty ci k) = true := by
  rcases (show ci = 0 ∨ ci = 1 ∨ ci = 2 ∨ ci = 3 ∨ ci = 4 ∨ ci = 5 ∨ ci = 6 ∨ ci = 7 ∨ ci = 8 ∨ ci = 9 ∨ ci = 10 ∨ ci = 11 ∨ ci = 12 by omega) with rfl | rfl | rfl | rfl | rfl | rfl | rfl | rfl | rfl | rfl | rfl | rfl | rfl <;> decide +kernel
theorem sh_fv_new {q : Nat × Nat} {k : Nat} {ty : FieldType} (h : sh_nkd ty = true) : sh_fv B (sh_add μ q) (sh_lay μ).length k (sh_kd ty) = defaultValue ty := by
  unfold sh_fv
  rw [show sh_i (sh_add μ q) (sh_lay μ).length = fun _ => 0 from sh_row_s, show sh_l (sh_add μ q) (sh_lay μ).length = fun _ => 0 from sh_row_s, show sh_r (sh_add μ q) (sh_lay μ).length = fun _ => none from sh_row_s]
  revert h
  cases ty <;> first | (intro h; cases h; done) | (intro _; rfl)
theorem vv_new {idx ci : Nat} (pc : Nat) (hd : decode M.2.1 pc = .ok (.new idx, 3)) (hc : sh_NW M.1.cls idx ci) (hm : cells + 1 ≤ mc) (hs : slots + sh_n ci ≤ ms)
    (kk : sh_V l B D ca d mc ms M (pc + 3) lv (.ref (sh_lay μ).length :: st) (sh_add μ (ci, 0)) (cells + 1) (slots + sh_n ci) Q) : sh_V l B D ca d mc ms M pc lv st μ cells slots Q := by
  intro p e s m args below meth c H locs ls C hR hS hls
  have hts := C.2.2.2.2.2.1
  have hK := C.2.2.2.2.2.2.2.2.1
  have hci := hc.1
  have hKn := hK.1 ci _ (sh_cl_at hci)
  refine W.newcK (R := sh_rm d mc ms) C.1 C.2.1 C.2.2.2.2.1 (hts _ hc.2.1) (hts _ hc.2.2.1) (hts _ hc.2.2.2) (g := F0 m pc ls (st.map (sh_cv B))) rfl hd hm hs hKn.2.1 hR.1 fun H1 kC hkC e1 z1 o1 => ?_
  obtain ⟨hR', hS'⟩ := sh_push (q := (ci, 0)) (H1 := H1) hR hS (by
    rw [sh_ent_obj hci]
    refine ⟨_, sh_cl_at hci, ?_⟩
    refine (u_born (sh_ty ci) hts (sh_inu hci) hKn hkC e1 (sh_ty_at hci)).to fun j hj => ?_
    show defaultValue _ = vp_V _ j
    unfold vp_V
    rw [List.getD_eq_getElem?_getD, sh_flds_at hj]
    exact (sh_fv_new (sh_kinds hci j hj)).symm) (by rw [z1, hR.1]) (fun x hx => o1 x (by rw [← hR.1]; exact hx))
  exact kk p e s m args below meth c H1 locs ls C hR' hS' hls
end VCopy
