/-! rows for the constructors: new cells, by their numbers -/
section VCtor
variable {l : Launch} {B : Nat} {D : va_G} {ca : Nat → ClassId} {d mc ms d' mc' ms' : Nat} {M M' : sh_M} {lv : List (Nat × Value)} {st : List Value} {μ μ1 : sh_Mem} {cells slots c1 s1 : Nat} {Q : Option Value → sh_Mem → Prop}
theorem vk_new {idx ci n : Nat} (pc : Nat) (hd : decode M.2.1 pc = .ok (.new idx, 3)) (hc : sh_NW M.1.cls idx ci) (hn : (sh_lay μ).length = n) (e1 : μ1 = sh_add μ (ci, 0)) (h1 : cells + 1 = c1) (h2 : slots + sh_n ci = s1) (hm : c1 ≤ mc) (hs : s1 ≤ ms)
    (kk : sh_V l B D ca d mc ms M (pc + 3) lv (.ref n :: st) μ1 c1 s1 Q) : sh_V l B D ca d mc ms M pc lv st μ cells slots Q := by
  subst hn; subst e1; subst h1; subst h2
  exact vv_new pc hd hc hm hs kk
theorem vk_newa {i : Int32} {N n : Nat} (t : Nat) (atype : ArrayType) (hta : (t = 13 ∧ atype = .int) ∨ (t = 14 ∧ atype = .long) ∨ (t = 15 ∧ atype = .char)) (pc : Nat) (hd : decode M.2.1 pc = .ok (.newarray atype, 2)) (hw : Cond.arrayClass (newarray.typeOf atype) ∈ sh_tb) (hi : ¬ i < 0) (hN : i.toNatClampNeg = N) (hN2 : N ≤ 20000) (hn : (sh_lay μ).length = n) (e1 : μ1 = sh_add μ (t, N)) (h1 : cells + 1 = c1) (h2 : slots + N = s1) (hm : c1 ≤ mc) (hs : s1 ≤ ms)
    (kk : sh_V l B D ca d mc ms M (pc + 2) lv (.ref n :: st) μ1 c1 s1 Q) : sh_V l B D ca d mc ms M pc lv (.int i :: st) μ cells slots Q := by
  subst hn; subst e1; subst h1; subst h2
  exact vv_newa t atype hta pc hd hw hi hN hN2 hm hs kk
theorem sh_fc16 {s : State} (hK : va_K D sh_cl (sh_tys ca) s) : ∃ (kA : Class) (comp : ClassId), s.vm.classes[ca 16]? = some kA ∧ kA.kind = .array comp (.object "ShrugHills$Land") ∧ s.vm.findClass "ShrugHills$Land" = some comp ∧ s.vm.findClass ("[" ++ (FieldType.object "ShrugHills$Land").toString) = some (ca 16) := (hK.2 3 _ rfl).2
/-- new Land[n] -/
theorem vk_anew {idx : Nat} {i : Int32} {N n : Nat} (pc : Nat) (hd : decode M.2.1 pc = .ok (.anewarray idx, 3)) (hc : sh_NW M.1.cls idx 3) (hi : ¬ i < 0) (hN : i.toNatClampNeg = N) (hN2 : N ≤ 20000) (hn : (sh_lay μ).length = n) (e1 : μ1 = sh_add μ (16, N)) (h1 : cells + 1 = c1) (h2 : slots + N = s1) (hm : c1 ≤ mc) (hs : s1 ≤ ms)
    (kk : sh_V l B D ca d mc ms M (pc + 3) lv (.ref n :: st) μ1 c1 s1 Q) : sh_V l B D ca d mc ms M pc lv (.int i :: st) μ cells slots Q := by
  subst hn; subst e1; subst h1; subst h2; subst hN
  intro p e s m args below meth c H locs ls C hR hS hls
  have hts := C.2.2.2.2.2.1
  have hK := C.2.2.2.2.2.2.2.2.1
  have hE := C.2.2.2.2.2.2.2.2.2.2
  refine W.anew (R := sh_rm d mc ms) C.1 C.2.1 C.2.2.2.2.1 (hts _ hc.2.1) (va_AO.use hE.2.1) (g := F0 m pc ls ((.int i :: st).map (sh_cv B))) rfl hd (rest := st.map (sh_cv B)) rfl hi (by omega) hm hs fun cA kA comp f1 f2 f3 f4 => ?_
  obtain ⟨-, -, -, -, -, g4⟩ := sh_fc16 hK
  have hcA : cA = ca 16 := Option.some.inj (f1.symm.trans g4)
  subst hcA
  generalize hH1 : H.push ({ cls := ca 16, slots := Array.replicate i.toNatClampNeg .null, vm := .none } : Cell) = H1
  have z1 : H1.size = H.size + 1 := by rw [← hH1, Array.size_push]
  have e2 : H1[H.size]? = some (arrV (ca 16) i.toNatClampNeg (fun _ => .null)) := by rw [← hH1, Array.getElem?_push_size, ← arrV_new]
  have o1 : ∀ q : Nat, q < H.size → H1[q]? = H[q]? := fun q hq => by rw [← hH1, Array.getElem?_push, if_neg (Nat.ne_of_lt hq)]
  obtain ⟨hR', hS'⟩ := sh_push (q := (16, i.toNatClampNeg)) (H1 := H1) hR hS (by
    rw [sh_ent_q]
    show H1[B + _]? = some (vp_cell _ _)
    rw [← hR.1, e2, show sh_r (sh_add μ (16, i.toNatClampNeg)) (sh_lay μ).length = fun _ => none from sh_row_s]
    rfl) z1 o1
  have := kk p e s m args below meth c H1 locs ls C hR' hS' hls
  rw [hR.1]
  exact this
/-- lands[i] = a land -/
theorem vk_aast {r n v nn : Nat} {i : Int32} (pc : Nat) (hd : decode M.2.1 pc = .ok (.aastore, 1)) (hl : (sh_lay μ)[r]? = some (16, n)) (hv : (sh_lay μ)[v]? = some (3, nn)) (hi : vp_in i n) (e1 : μ1 = sh_setR μ r i.toNatClampNeg (some v)) (kk : sh_V l B D ca d mc ms M (pc + 1) lv st μ1 cells slots Q) : sh_V l B D ca d mc ms M pc lv (.ref v :: .int i :: .ref r :: st) μ cells slots Q := by
  subst e1
  intro p e s m args below meth c H locs ls C hR hS hls
  have hK := C.2.2.2.2.2.2.2.2.1
  obtain ⟨kA, comp, g1, g2, g3, g4⟩ := sh_fc16 hK
  have hav := sh_at hR hv
  rw [sh_ent_obj (show (3 : Nat) < 13 by decide)] at hav
  obtain ⟨q, h1, cell, q1, q2, q3, q4⟩ := hav
  have hq : q = (sh_R 3, sh_T 3, sh_n 3) := Option.some.inj (h1.symm.trans (sh_cl_at (ci := 3) (by decide)))
  subst hq
  obtain ⟨hSl, hfc, kC, hkC, hkind⟩ := hK.1 3 _ (sh_cl_at (ci := 3) (by decide))
  have hcomp : D.1 3 = comp := Option.some.inj (hfc.symm.trans g3)
  have hin2 : ¬ i < 0 ∧ i.toNatClampNeg < n := ⟨fun q => hi (Or.inl q), Nat.not_le.mp fun q => hi (Or.inr q)⟩
  refine W.aast C.1 C.2.1 (a := B + r) (v := B + v) (cell := arrV (ca 16) n (fun j => va_rf ((sh_r μ r j).map (B + ·)))) (cv := cell) (k := kA) (kv := kC) (kcomp := kC) (comp := comp) (t := .object "ShrugHills$Land") (sh_at hR hl) (fun q h => by cases h) (fun q => by cases q) g1 g2 rfl (by rw [← hcomp]; exact hkC) (by rw [arrV_size]; exact hin2) q1 (fun q h => by rw [q3] at h; cases h) (by rw [q2]; exact hkC) (by rw [q2, ← hcomp]; exact va_assign ⟨hfc, kC, hkC, hkind⟩) rfl rfl hd fun H' e1 z oq => ?_
  rw [arrV_store] at e1
  obtain ⟨hR', hS'⟩ := sh_store (μ' := sh_setR μ r i.toNatClampNeg (some v)) (k := i.toNatClampNeg) hR hS rfl hl (by
    rw [sh_ent_q]
    show H'[B + r]? = some (vp_cell _ _)
    rw [vp_cell_q, e1]
    congr 2
    funext q
    show _ = va_rf (Option.map (B + ·) (sh_row (sh_r μ) r (va_up (sh_r μ r) i.toNatClampNeg (some v)) r q))
    rw [sh_row_s]
    by_cases hq : q = i.toNatClampNeg
    · subst hq; simp [updV, va_up, va_rf]
    · simp [updV, va_up, hq]) sh_oth_r z oq
  exact kk p e s m args below meth c H' _ ls C hR' hS' hls
theorem vk_callI {idx n r : Nat} (as : List Value) (pc : Nat) (hd : decode M.2.1 pc = .ok (.invokespecial idx, 3)) (hc : sh_CI M.1.cls idx M' n) (hcon : sh_Con l B D ca d' mc' ms' M' (.ref r :: as) μ (fun v μ' => v = none ∧ μ' = μ1)) (hdd : d' + 1 ≤ d) (hL : (lg_sl (.ref r :: as)).length ≤ M'.2.2.1 ∧ M'.2.2.1 ≤ 81) (hn : as.length = n) (hst : (st.map fun v => v.category).sum ≤ 8) (h1 : cells + mc' = c1) (h2 : slots + ms' = s1) (hm : c1 ≤ mc) (hs : s1 ≤ ms)
    (kk : sh_V l B D ca d mc ms M (pc + 3) lv st μ1 c1 s1 Q) : sh_V l B D ca d mc ms M pc lv (as.reverse ++ .ref r :: st) μ cells slots Q := by
  subst h1; subst h2
  exact vv_callI as pc hd hc hcon hdd hL hn hst hm hs (fun v μ' hq => by rw [hq.1, hq.2]; exact kk)
theorem vk_callIN {idx n r : Nat} (as : List Value) (pc : Nat) (hd : decode M.2.1 pc = .ok (.invokespecial idx, 3)) (hc : sh_CIN M.1.cls idx M' n) (hcon : sh_Con l B D ca d' mc' ms' M' (.ref r :: as) μ (fun v μ' => v = none ∧ μ' = μ1)) (hdd : d' + 1 ≤ d) (hL : (lg_sl (.ref r :: as)).length ≤ M'.2.2.1 ∧ M'.2.2.1 ≤ 81) (hn : as.length = n) (hst : (st.map fun v => v.category).sum ≤ 8) (h1 : cells + mc' = c1) (h2 : slots + ms' = s1) (hm : c1 ≤ mc) (hs : s1 ≤ ms)
    (kk : sh_V l B D ca d mc ms M (pc + 3) lv st μ1 c1 s1 Q) : sh_V l B D ca d mc ms M pc lv (as.reverse ++ .ref r :: st) μ cells slots Q := by
  subst h1; subst h2
  exact vv_callIN as pc hd hc hcon hdd hL hn hst hm hs (fun v μ' hq => by rw [hq.1, hq.2]; exact kk)
/-- the memory behind new int[N][K] -/
def sh_mna (μ : sh_Mem) (N K : Nat) : sh_Mem := (μ.1 ++ (17, N) :: List.replicate N (13, K), (fun r => if μ.1.length ≤ r then (fun _ => 0) else μ.2.1 r), (fun r => if μ.1.length ≤ r then (fun _ => 0) else μ.2.2.1 r), (fun r => if r = μ.1.length then (fun j => if j < N then some (μ.1.length + 1 + j) else none) else if μ.1.length ≤ r then (fun _ => none) else μ.2.2.2 r))
theorem vk_outer (c : ClassId) (N h0 : Nat) : ∀ i : Nat, Jvm.Free.Multi.outerC c N h0 i = arrV c N (fun j => va_rf (if j < i then some (h0 + 1 + j) else none))
  | 0 => by
    show ({ cls := c, slots := Array.replicate N .null, vm := .none } : Cell) = _
    rw [arrV_new]
    refine congrArg (arrV c N) (funext fun j => ?_)
    simp [va_rf]
  | i + 1 => by
    show (Jvm.Free.Multi.outerC c N h0 i).setSlot i (.ref (h0 + 1 + i)) = _
    rw [vk_outer c N h0 i, arrV_store]
    refine congrArg (arrV c N) (funext fun j => ?_)
    by_cases e : j = i
    · subst e
      simp [updV, va_rf]
    · by_cases h : j < i
      · simp [updV, e, h, Nat.lt_succ_of_lt h]
      · simp [updV, e, h, show ¬ j < i + 1 by omega]
theorem vk_mna {idx : Nat} {i k : Int32} {N K n : Nat} (pc : Nat) (hd : decode M.2.1 pc = .ok (.multianewarray idx 2, 4)) (hc : Cond.classLink M.1.cls idx "[[I" ∈ sh_tb) (hw : Cond.arrayClass .int ∈ sh_tb) (hi : ¬ i < 0) (hk : ¬ k < 0) (hN : i.toNatClampNeg = N) (hK2 : k.toNatClampNeg = K) (hb : N ≤ 1000 ∧ K ≤ 1000) (hn : (sh_lay μ).length = n) (e1 : μ1 = sh_mna μ N K) (h1 : cells + 1 + N = c1) (h2 : slots + N + N * K = s1) (hm : c1 ≤ mc) (hs : s1 ≤ ms)
    (kk : sh_V l B D ca d mc ms M (pc + 4) lv (.ref n :: st) μ1 c1 s1 Q) : sh_V l B D ca d mc ms M pc lv (.int k :: .int i :: st) μ cells slots Q := by
  subst hn; subst e1; subst h1; subst h2; subst hN; subst hK2
  intro p e s m args below meth c H locs ls C hR hS hls T hT Xs
  have hts := C.2.2.2.2.2.1
  have hK := C.2.2.2.2.2.2.2.2.1
  have hE := C.2.2.2.2.2.2.2.2.2.2
  obtain ⟨vm₁, cA, comp, -, fA, fC, hO, -, X', step⟩ := Xs.multianewarray2F C.1 C.2.2.2.2.1 (ty := .int) (hts _ hc) (hE.2.2.1 _) (hts _ hw) (g := F0 m pc ls ((.int k :: .int i :: st).map (sh_cv B))) rfl (by rw [C.2.1]; exact hd) (rest := st.map (sh_cv B)) rfl hi hk (by omega) (by simp [componentBytes]; omega) (by omega) rfl rfl (by show _ ≤ mc; omega) (by show _ ≤ ms; omega)
  have hc17 : s.vm.findClass ("[" ++ (FieldType.array .int).toString) = some (ca 17) := (hK.2 4 _ rfl).2
  have hc13 : s.vm.findClass ("[" ++ FieldType.int.toString) = some (ca 13) := (hK.2 0 _ rfl).2
  have ecA : cA = ca 17 := Option.some.inj (fA.symm.trans hc17)
  have ecB : comp = ca 13 := Option.some.inj (fC.symm.trans hc13)
  subst ecA; subst ecB
  generalize hF : Jvm.Free.Multi.fill (T.setVm vm₁) (ca 17) (ca 13) i.toNatClampNeg k.toNatClampNeg (defaultValue .int) i.toNatClampNeg = F at X' step
  have hTh : (T.setVm vm₁).heap = H := hT
  obtain ⟨f1, f2, -, -⟩ := Jvm.Free.Multi.fill_facts (T.setVm vm₁) (ca 17) (ca 13) i.toNatClampNeg k.toNatClampNeg (defaultValue .int) i.toNatClampNeg
  rw [hF, hTh] at f1 f2
  have hold : ∀ x : Nat, x < H.size → F.heap[x]? = H[x]? := fun x hx => by
    have := Jvm.Free.Multi.fill_old (T.setVm vm₁) (ca 17) (ca 13) i.toNatClampNeg k.toNatClampNeg (defaultValue .int) (a := x) (by rw [hTh]; exact hx) i.toNatClampNeg
    rw [hF, hTh] at this
    exact this
  have hrow : ∀ j : Nat, j < i.toNatClampNeg → F.heap[H.size + 1 + j]? = some (arrV (ca 13) k.toNatClampNeg (fun _ => .int 0)) := fun j hj => by
    have := Jvm.Free.Multi.fill_inner (T.setVm vm₁) (ca 17) (ca 13) i.toNatClampNeg k.toNatClampNeg (defaultValue .int) i.toNatClampNeg j hj
    rw [hF, hTh] at this
    rw [this, ← arrV_new]
    rfl
  rw [vk_outer] at f2
  generalize hN : i.toNatClampNeg = N at *
  generalize hKK : k.toNatClampNeg = K at *
  have hsz : H.size = B + μ.1.length := hR.1
  have hR' : sh_Rep B D ca (sh_mna μ N K) F.heap := by
    refine ⟨by rw [f1, hsz]; show _ = B + (μ.1 ++ (17, N) :: List.replicate N (13, K)).length; rw [List.length_append, List.length_cons, List.length_replicate]; omega, fun r x hx => ?_⟩
    obtain ⟨q, hq, rfl⟩ := sh_ws_inv hx
    have hq : (μ.1 ++ (17, N) :: List.replicate N (13, K))[r]? = some q := hq
    by_cases hr1 : r < μ.1.length
    · rw [List.getElem?_append_left hr1] at hq
      have h2 := sh_at hR hq
      have hne : ¬ μ.1.length ≤ r := by omega
      have h3 : sh_ent B ca (sh_mna μ N K) r q = sh_ent B ca μ r q := sh_ent_congr (μ := μ) (μ' := sh_mna μ N K) (by show (if _ then _ else _) = _; rw [if_neg hne]) (by show (if _ then _ else _) = _; rw [if_neg hne]) (by show (if _ then _ else if _ then _ else _) = _; rw [if_neg (by omega), if_neg hne]) q
      rw [h3]
      exact h2.kept (hold _ (by show B + r < H.size; omega))
    · rw [List.getElem?_append_right (by omega)] at hq
      by_cases hr2 : r = μ.1.length
      · subst hr2
        rw [Nat.sub_self] at hq
        have hq : some (17, N) = some q := hq
        cases hq
        rw [sh_ent_qq]
        show F.heap[B + μ.1.length]? = some (vp_cell _ _)
        rw [← hsz, f2, vp_cell_q]
        congr 2
        funext j
        have hrw : sh_r (sh_mna μ N K) μ.1.length = (fun j => if j < N then some (μ.1.length + 1 + j) else none) := if_pos rfl
        rw [hrw]
        show va_rf (if j < N then some (H.size + 1 + j) else none) = va_rf (Option.map (fun x => B + x) (if j < N then some (μ.1.length + 1 + j) else none))
        by_cases hj : j < N
        · rw [if_pos hj, if_pos hj, hsz]
          show _ = va_rf (some (B + (μ.1.length + 1 + j)))
          congr 2
          omega
        · rw [if_neg hj, if_neg hj]
          rfl
      · obtain ⟨j, rfl⟩ : ∃ j, r = μ.1.length + 1 + j := ⟨r - μ.1.length - 1, by omega⟩
        rw [show μ.1.length + 1 + j - μ.1.length = j + 1 by omega, List.getElem?_cons_succ] at hq
        have hjN : j < N := by have := (List.getElem?_eq_some_iff.mp hq).1; rw [List.length_replicate] at this; exact this
        rw [List.getElem?_replicate, if_pos hjN] at hq
        cases hq
        rw [sh_ent_i]
        show F.heap[B + (μ.1.length + 1 + j)]? = some (vp_cell _ _)
        rw [show B + (μ.1.length + 1 + j) = H.size + 1 + j by omega, hrow j hjN, vp_cell_i]
        congr 2
        funext q
        have hrw : sh_i (sh_mna μ N K) (μ.1.length + 1 + j) = (fun _ => 0) := if_pos (by omega)
        rw [hrw]
  have hS' : va_S (fun q => B ≤ q) s.heap F.heap locs := ⟨by rw [f1]; have := hS.1; omega, fun x h1 h2 => (hold x (Nat.lt_of_lt_of_le h1 hS.1)).trans (hS.2.1 x h1 h2), hS.2.2⟩
  obtain ⟨t, a1, b1⟩ := kk p e s m args below meth c F.heap locs ls C hR' hS' hls F rfl X'
  refine ⟨t, step t ?_, b1⟩
  have e : T.heap.size = B + (sh_lay μ).length := by rw [hT]; exact hsz
  rw [e]
  exact a1
end VCtor
