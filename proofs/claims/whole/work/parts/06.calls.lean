/-! calls -/
section VCall
variable {l : Launch} {B : Nat} {D : va_G} {ca : Nat → ClassId} {d mc ms d' mc' ms' : Nat} {M M' : sh_M} {lv : List (Nat × Value)} {st : List Value} {μ : sh_Mem} {cells slots : Nat} {Q Q' : Option Value → sh_Mem → Prop}
/-- what a call leaves on the stack -/
def sh_psh : Option Value → List Value → List Value
  | some v, st => v :: st
  | none, st => st
theorem sh_psh_cv (B : Nat) (v : Option Value) (st : List Value) : (sh_psh v st).map (sh_cv B) = (v.map (sh_cv B)).toList ++ st.map (sh_cv B) := by cases v <;> rfl
theorem sh_after {p : Program} {e : Env} {R : Room} {s : State} {m : MethodId} {args a : Array Value} {below : List Frame} {meth : Method} {c : Code} {H : Heap} {locs : List Loc} {pc : Nat} {ls : Array Slot} {st0 rest : List Value} {Qw : State → Prop}
    (hr : va_Run p l e R s m args below meth c H locs cells slots mc' ms' (F0 m pc ls st0) rest (sh_Qc B D ca Q' a) (fun q => B ≤ q)) (hS : va_S (fun q => B ≤ q) s.heap H locs)
    (kk : ∀ (v : Option Value) (μ' : sh_Mem) (H' : Heap) (locs' : List Loc), Q' v μ' → sh_Rep B D ca μ' H' → va_S (fun q => B ≤ q) s.heap H' locs' → W p l e R s m args below meth c H' locs' (cells + mc') (slots + ms') Qw (F0 m (pc + 3) ls ((v.map (sh_cv B)).toList ++ rest))) : W p l e R s m args below meth c H locs cells slots Qw (F0 m pc ls st0) := by
  intro T hT X
  obtain ⟨v0, st₀, t, T', L, h0, X', hL, e1, e2, ⟨⟨v, μ', hv, hq, hR'⟩, hz, hk⟩, stp⟩ := hr T hT X
  rw [h0] at hz hk
  have hv0 : v0 = v.map (sh_cv B) := by injection hv
  subst hv0
  obtain ⟨t2, a1, b1⟩ := kk v μ' T'.heap (locs ++ L) hq (by rw [e1]; exact hR') ⟨Nat.le_trans hS.1 (by rw [e1]; exact hz), fun q h1 h2 => by rw [e1, hk q (Nat.lt_of_lt_of_le h1 hS.1) h2]; exact hS.2.1 q h1 h2, fun q hq => by
      rcases List.mem_append.mp hq with h | h
      · exact hS.2.2 q h
      · exact hL q h⟩ T' rfl X'
  exact ⟨t2, stp t2 a1, b1⟩
theorem sh_pre {s : State} {args : Array Value} {meth : Method} {c : Code} {p : Program} {m : MethodId} {H : Heap} {locs : List Loc} {as : List Value} (C : sh_Cx B D ca M p s m args meth c) (hR : sh_Rep B D ca μ H) (hS : va_S (fun q => B ≤ q) s.heap H locs) :
    FrameBlind (va_Pc (as.map (sh_cv B)) (fun U => B ≤ U.heap.size ∧ sh_Rep B D ca μ U.heap ∧ va_K D sh_cl (sh_tys ca) U ∧ sh_Env B U)) ∧ ∀ U : State, U.heap = H → s.WarmedH U.vm → va_Pc (as.map (sh_cv B)) (fun U => B ≤ U.heap.size ∧ sh_Rep B D ca μ U.heap ∧ va_K D sh_cl (sh_tys ca) U ∧ sh_Env B U) (as.map (sh_cv B)).toArray U := by
  obtain ⟨-, -, -, -, -, -, -, -, hK, hB, hE⟩ := C
  refine ⟨fun a U g mk q => ?_, fun U hU hW => ?_⟩
  · obtain ⟨h0, h1, h2, h3, h4⟩ := q
    exact ⟨h0, h1, h2, va_K.moved (u := U) (U := U.calling g mk a) (Vm.Alike.refl U.vm) h3, h4.call⟩
  · exact ⟨rfl, by rw [hU]; exact Nat.le_trans hB hS.1, by rw [hU]; exact hR, va_K.moved hW.alike hK, hE.moved hW (fun q h1 h2 => by rw [hU]; exact hS.2.1 q h1 h2)⟩
theorem sh_cat (B : Nat) (st : List Value) : ((st.map (sh_cv B)).map fun v => v.category).sum = (st.map fun v => v.category).sum := by
  rw [List.map_map]
  congr 1
  apply List.map_congr_left
  intro v _
  exact sh_cv_cat B v
/-- a call of M' by the place idx of own's pool; n: how many arguments -/
def sh_CV (own : String) (idx : Nat) (M' : sh_M) (n : Nat) : Prop := sh_MT M' ∧ Cond.methodLink own idx M'.1 ∈ sh_tb ∧ Cond.instanceMethod M'.1 ∈ sh_tb ∧ Cond.selects M'.1.cls M'.1 M'.1 ∈ sh_tb ∧ (parseMethodDescriptor M'.1.desc).map (fun d => d.parameters.length) = some n
def sh_CS (own : String) (idx : Nat) (M' : sh_M) (n : Nat) : Prop := sh_MT M' ∧ Cond.methodLink own idx M'.1 ∈ sh_tb ∧ Cond.static M'.1 ∈ sh_tb ∧ (parseMethodDescriptor M'.1.desc).map (fun d => d.parameters.length) = some n
def sh_CI (own : String) (idx : Nat) (M' : sh_M) (n : Nat) : Prop := sh_MT M' ∧ Cond.methodLink own idx M'.1 ∈ sh_tb ∧ Cond.instanceMethod M'.1 ∈ sh_tb ∧ M'.1.name = "<init>" ∧ M'.2.2.2 = none ∧ (parseMethodDescriptor M'.1.desc).map (fun d => d.parameters.length) = some n
def sh_CVN (own : String) (idx : Nat) (M' : sh_M) (n : Nat) : Prop := sh_MT M' ∧ (own, idx, M'.1, "ShrugHills") ∈ sh_nst ∧ Cond.instanceMethod M'.1 ∈ sh_tb ∧ Cond.selects M'.1.cls M'.1 M'.1 ∈ sh_tb ∧ (parseMethodDescriptor M'.1.desc).map (fun d => d.parameters.length) = some n
def sh_CIN (own : String) (idx : Nat) (M' : sh_M) (n : Nat) : Prop := sh_MT M' ∧ (own, idx, M'.1, "ShrugHills") ∈ sh_nst ∧ Cond.instanceMethod M'.1 ∈ sh_tb ∧ M'.1.name = "<init>" ∧ M'.2.2.2 = none ∧ (parseMethodDescriptor M'.1.desc).map (fun d => d.parameters.length) = some n
theorem sh_rooms (hdd : d' + 1 ≤ d) (hL : M'.2.2.1 ≤ 81) : (sh_rm d' mc' ms').frames + 1 ≤ (sh_rm d mc ms).frames ∧ 8 + (M'.2.2.1 + 11) + (sh_rm d' mc' ms').locals ≤ (sh_rm d mc ms).locals := by
  refine ⟨hdd, ?_⟩
  show 8 + (M'.2.2.1 + 11) + 100 * d' ≤ 100 * d
  omega
theorem vv_callV {idx n ci nn r : Nat} (as : List Value) (pc : Nat) (hd : decode M.2.1 pc = .ok (.invokevirtual idx, 3)) (hc : sh_CV M.1.cls idx M' n) (hl : (sh_lay μ)[r]? = some (ci, nn)) (hci : ci < 13 ∧ sh_R ci = M'.1.cls) (hcon : sh_Con l B D ca d' mc' ms' M' (.ref r :: as) μ Q') (hdd : d' + 1 ≤ d) (hL : (lg_sl (.ref r :: as)).length ≤ M'.2.2.1 ∧ M'.2.2.1 ≤ 81) (hn : as.length = n) (hst : (st.map fun v => v.category).sum ≤ 8) (hm : cells + mc' ≤ mc) (hs : slots + ms' ≤ ms)
    (kk : ∀ (v : Option Value) (μ' : sh_Mem), Q' v μ' → sh_V l B D ca d mc ms M (pc + 3) lv (sh_psh v st) μ' (cells + mc') (slots + ms') Q) : sh_V l B D ca d mc ms M pc lv (as.reverse ++ .ref r :: st) μ cells slots Q := by
  intro p e s m args below meth c H locs ls C hR hS hls
  obtain ⟨hM, h1, h2, h3, h4⟩ := hc
  have hmet := sh_met hM hL.1 hcon
  have ha := sh_ws_at (B := B) (ca := ca) hl
  rw [sh_ent_obj hci.1] at ha
  have hrecv := va_recv C.2.2.2.2.2.2.2.2.1 hR.2 (sh_cl_at hci.1) ha
  rw [show (sh_R ci, sh_T ci, sh_n ci).1 = M'.1.cls from hci.2] at hrecv
  have hG : GoodIn sh_tb (wsV M.1.cls idx M'.1.cls M'.1 (sh_tw M')) := by
    intro w hw
    rcases List.mem_append.mp hw with h | h
    · simp only [List.mem_cons, List.not_mem_nil, or_false] at h
      rcases h with rfl | rfl | rfl | rfl
      · exact sh_good _ h1
      · exact sh_good _ h2
      · exact sh_good _ h3
      · exact sh_good _ hM.2.1
    · exact sh_goodM hM w h
  have hpre := sh_pre (as := .ref r :: as) C hR hS
  have hrun := va_runV (g := F0 m pc ls ((as.reverse ++ .ref r :: st).map (sh_cv B))) (As := as.map (sh_cv B)) (b := B + r) (rest := st.map (sh_cv B)) (C := M'.1.cls) (cells := cells) (slots := slots) (locs := locs) (e := e) (below := below) (meth := meth) (R := sh_rm d mc ms) ⟨C.1, C.2.1, C.2.2.2.1, C.2.2.2.2.1, C.2.2.2.2.2.1⟩ hmet
    (cwV n C.2.2.2.2.2.1 hG rfl rfl rfl ⟨rfl, hM.2.2.2.1, hM.2.2.2.2, h4⟩ (sh_rooms hdd hL.2)) ⟨hpre.1, hrecv, hpre.2⟩ rfl (by rw [List.length_map]; exact hn) hls.1 (by simp [sh_cv]) (lv_room (by rw [sh_cat]; exact hst)) hd ⟨hm, hs⟩
  refine sh_after hrun hS fun v μ' H' locs' hq hR' hS' => ?_
  have := kk v μ' hq p e s m args below meth c H' locs' ls C hR' hS' hls
  rw [sh_psh_cv] at this
  exact this
theorem vv_callVN {idx n ci nn r : Nat} (as : List Value) (pc : Nat) (hd : decode M.2.1 pc = .ok (.invokevirtual idx, 3)) (hc : sh_CVN M.1.cls idx M' n) (hl : (sh_lay μ)[r]? = some (ci, nn)) (hci : ci < 13 ∧ sh_R ci = M'.1.cls) (hcon : sh_Con l B D ca d' mc' ms' M' (.ref r :: as) μ Q') (hdd : d' + 1 ≤ d) (hL : (lg_sl (.ref r :: as)).length ≤ M'.2.2.1 ∧ M'.2.2.1 ≤ 81) (hn : as.length = n) (hst : (st.map fun v => v.category).sum ≤ 8) (hm : cells + mc' ≤ mc) (hs : slots + ms' ≤ ms)
    (kk : ∀ (v : Option Value) (μ' : sh_Mem), Q' v μ' → sh_V l B D ca d mc ms M (pc + 3) lv (sh_psh v st) μ' (cells + mc') (slots + ms') Q) : sh_V l B D ca d mc ms M pc lv (as.reverse ++ .ref r :: st) μ cells slots Q := by
  intro p e s m args below meth c H locs ls C hR hS hls
  obtain ⟨hM, h1, h2, h3, h4⟩ := hc
  have hmet := sh_met hM hL.1 hcon
  have ha := sh_ws_at (B := B) (ca := ca) hl
  rw [sh_ent_obj hci.1] at ha
  have hrecv := va_recv C.2.2.2.2.2.2.2.2.1 hR.2 (sh_cl_at hci.1) ha
  rw [show (sh_R ci, sh_T ci, sh_n ci).1 = M'.1.cls from hci.2] at hrecv
  have hpre := sh_pre (as := .ref r :: as) C hR hS
  have hrun := va_runVN (g := F0 m pc ls ((as.reverse ++ .ref r :: st).map (sh_cv B))) (As := as.map (sh_cv B)) (b := B + r) (rest := st.map (sh_cv B)) (C := M'.1.cls) (host := "ShrugHills") (cells := cells) (slots := slots) (locs := locs) (e := e) (below := below) (meth := meth) (R := sh_rm d mc ms) ⟨C.1, C.2.1, C.2.2.2.1, C.2.2.2.2.1, C.2.2.2.2.2.1⟩ hmet
    ⟨va_cnB n C.2.2.2.2.2.1 (sh_goodM hM) rfl rfl rfl (C.2.2.2.2.2.2.2.2.2.2.1 _ h1) (C.2.2.2.2.2.1 _ hM.2.1) ⟨hM.2.2.2.1, hM.2.2.2.2, h4⟩ (sh_rooms hdd hL.2), C.2.2.2.2.2.1 _ h2, C.2.2.2.2.2.1 _ h3⟩ ⟨hpre.1, hrecv, hpre.2⟩ rfl (by rw [List.length_map]; exact hn) hls.1 (by simp [sh_cv]) (lv_room (by rw [sh_cat]; exact hst)) hd ⟨hm, hs⟩
  refine sh_after hrun hS fun v μ' H' locs' hq hR' hS' => ?_
  have := kk v μ' hq p e s m args below meth c H' locs' ls C hR' hS' hls
  rw [sh_psh_cv] at this
  exact this
theorem vv_callS {idx n : Nat} (as : List Value) (pc : Nat) (hd : decode M.2.1 pc = .ok (.invokestatic idx, 3)) (hc : sh_CS M.1.cls idx M' n) (hcon : sh_Con l B D ca d' mc' ms' M' as μ Q') (hdd : d' + 1 ≤ d) (hL : (lg_sl as).length ≤ M'.2.2.1 ∧ M'.2.2.1 ≤ 81) (hn : as.length = n) (hst : (st.map fun v => v.category).sum ≤ 8) (hm : cells + mc' ≤ mc) (hs : slots + ms' ≤ ms)
    (kk : ∀ (v : Option Value) (μ' : sh_Mem), Q' v μ' → sh_V l B D ca d mc ms M (pc + 3) lv (sh_psh v st) μ' (cells + mc') (slots + ms') Q) : sh_V l B D ca d mc ms M pc lv (as.reverse ++ st) μ cells slots Q := by
  intro p e s m args below meth c H locs ls C hR hS hls
  obtain ⟨hM, h1, h2, h4⟩ := hc
  have hmet := sh_met hM hL.1 hcon
  have hG : GoodIn sh_tb (va_wsS M.1.cls idx M'.1 (sh_tw M')) := by
    intro w hw
    rcases List.mem_append.mp hw with h | h
    · simp only [List.mem_cons, List.not_mem_nil, or_false] at h
      rcases h with rfl | rfl | rfl
      · exact sh_good _ h1
      · exact sh_good _ h2
      · exact sh_good _ hM.2.1
    · exact sh_goodM hM w h
  have hpre := sh_pre (as := as) C hR hS
  have hrun := va_runS (g := F0 m pc ls ((as.reverse ++ st).map (sh_cv B))) (As := as.map (sh_cv B)) (rest := st.map (sh_cv B)) (cells := cells) (slots := slots) (locs := locs) (e := e) (below := below) (meth := meth) (R := sh_rm d mc ms) ⟨C.1, C.2.1, C.2.2.2.1, C.2.2.2.2.1, C.2.2.2.2.2.1⟩ hmet
    (va_cwS n C.2.2.2.2.2.1 hG rfl rfl rfl ⟨hM.2.2.2.1, hM.2.2.2.2, h4⟩ (sh_rooms hdd hL.2)) hpre rfl (by rw [List.length_map]; exact hn) hls.1 (by simp) (lv_room (by rw [sh_cat]; exact hst)) hd ⟨hm, hs⟩
  refine sh_after hrun hS fun v μ' H' locs' hq hR' hS' => ?_
  have := kk v μ' hq p e s m args below meth c H' locs' ls C hR' hS' hls
  rw [sh_psh_cv] at this
  exact this
theorem vv_callI {idx n r : Nat} (as : List Value) (pc : Nat) (hd : decode M.2.1 pc = .ok (.invokespecial idx, 3)) (hc : sh_CI M.1.cls idx M' n) (hcon : sh_Con l B D ca d' mc' ms' M' (.ref r :: as) μ Q') (hdd : d' + 1 ≤ d) (hL : (lg_sl (.ref r :: as)).length ≤ M'.2.2.1 ∧ M'.2.2.1 ≤ 81) (hn : as.length = n) (hst : (st.map fun v => v.category).sum ≤ 8) (hm : cells + mc' ≤ mc) (hs : slots + ms' ≤ ms)
    (kk : ∀ (v : Option Value) (μ' : sh_Mem), Q' v μ' → sh_V l B D ca d mc ms M (pc + 3) lv (sh_psh v st) μ' (cells + mc') (slots + ms') Q) : sh_V l B D ca d mc ms M pc lv (as.reverse ++ .ref r :: st) μ cells slots Q := by
  intro p e s m args below meth c H locs ls C hR hS hls
  obtain ⟨hM, h1, h2, h5, h6, h4⟩ := hc
  have hmet := sh_met hM hL.1 hcon
  have hpre := sh_pre (as := .ref r :: as) C hR hS
  have hrun := va_runI (g := F0 m pc ls ((as.reverse ++ .ref r :: st).map (sh_cv B))) (As := as.map (sh_cv B)) (b := B + r) (rest := st.map (sh_cv B)) (cells := cells) (slots := slots) (locs := locs) (e := e) (below := below) (meth := meth) (R := sh_rm d mc ms) ⟨C.1, C.2.1, C.2.2.2.1, C.2.2.2.2.1, C.2.2.2.2.2.1⟩ hmet
    (cwI (bytes := M'.2.1) (maxL := M'.2.2.1) n C.2.2.2.2.2.1 (sh_goodM hM) (by rw [← h6]; rfl) rfl rfl (C.2.2.2.2.2.1 _ hM.2.1) (C.2.2.2.2.2.1 _ h1) (C.2.2.2.2.2.1 _ h2) h5 ⟨hM.2.2.2.1, hM.2.2.2.2, h4⟩ (sh_rooms hdd hL.2)) hpre rfl (by rw [List.length_map]; exact hn) hls.1 (by simp [sh_cv]) (lv_room (by rw [sh_cat]; exact hst)) hd ⟨hm, hs⟩
  refine sh_after hrun hS fun v μ' H' locs' hq hR' hS' => ?_
  have := kk v μ' hq p e s m args below meth c H' locs' ls C hR' hS' hls
  rw [sh_psh_cv] at this
  exact this
theorem vv_callIN {idx n r : Nat} (as : List Value) (pc : Nat) (hd : decode M.2.1 pc = .ok (.invokespecial idx, 3)) (hc : sh_CIN M.1.cls idx M' n) (hcon : sh_Con l B D ca d' mc' ms' M' (.ref r :: as) μ Q') (hdd : d' + 1 ≤ d) (hL : (lg_sl (.ref r :: as)).length ≤ M'.2.2.1 ∧ M'.2.2.1 ≤ 81) (hn : as.length = n) (hst : (st.map fun v => v.category).sum ≤ 8) (hm : cells + mc' ≤ mc) (hs : slots + ms' ≤ ms)
    (kk : ∀ (v : Option Value) (μ' : sh_Mem), Q' v μ' → sh_V l B D ca d mc ms M (pc + 3) lv (sh_psh v st) μ' (cells + mc') (slots + ms') Q) : sh_V l B D ca d mc ms M pc lv (as.reverse ++ .ref r :: st) μ cells slots Q := by
  intro p e s m args below meth c H locs ls C hR hS hls
  obtain ⟨hM, h1, h2, h5, h6, h4⟩ := hc
  have hmet := sh_met hM hL.1 hcon
  have hpre := sh_pre (as := .ref r :: as) C hR hS
  have hrun := va_runIN (g := F0 m pc ls ((as.reverse ++ .ref r :: st).map (sh_cv B))) (As := as.map (sh_cv B)) (b := B + r) (rest := st.map (sh_cv B)) (host := "ShrugHills") (cells := cells) (slots := slots) (locs := locs) (e := e) (below := below) (meth := meth) (R := sh_rm d mc ms) ⟨C.1, C.2.1, C.2.2.2.1, C.2.2.2.2.1, C.2.2.2.2.2.1⟩ hmet
    ⟨va_cnB (bytes := M'.2.1) (maxL := M'.2.2.1) n C.2.2.2.2.2.1 (sh_goodM hM) (by rw [← h6]; rfl) rfl rfl (C.2.2.2.2.2.2.2.2.2.2.1 _ h1) (C.2.2.2.2.2.1 _ hM.2.1) ⟨hM.2.2.2.1, hM.2.2.2.2, h4⟩ (sh_rooms hdd hL.2), h5, C.2.2.2.2.2.1 _ h2⟩ hpre rfl (by rw [List.length_map]; exact hn) hls.1 (by simp [sh_cv]) (lv_room (by rw [sh_cat]; exact hst)) hd ⟨hm, hs⟩
  refine sh_after hrun hS fun v μ' H' locs' hq hR' hS' => ?_
  have := kk v μ' hq p e s m args below meth c H' locs' ls C hR' hS' hls
  rw [sh_psh_cv] at this
  exact this
/-- Object's constructor -/
theorem vv_objInit {idx r : Nat} (pc : Nat) (hd : decode M.2.1 pc = .ok (.invokespecial idx, 3)) (hc : Cond.methodLink M.1.cls idx Lib.objectInit ∈ sh_tb ∧ Cond.instanceMethod Lib.objectInit ∈ sh_tb ∧ Cond.code Lib.objectInit ⟨#[0xb1]⟩ 1 none ∈ sh_tb) (hdd : 1 ≤ d) (hst : (st.map fun v => v.category).sum ≤ 8) (kk : sh_V l B D ca d mc ms M (pc + 3) lv st μ cells slots Q) : sh_V l B D ca d mc ms M pc lv (.ref r :: st) μ cells slots Q := by
  intro p e s m args below meth c H locs ls C hR hS hls
  have ht := C.2.2.2.2.2.1
  refine W.objInit C.1 C.2.1 C.2.2.2.2.1 (ht _ hc.1) (ht _ hc.2.1) (ht _ hc.2.2) (g := F0 m pc ls ((Value.ref r :: st).map (sh_cv B))) rfl (by rw [C.2.2.2.1]; exact hls.1) rfl hd hdd ?_ (kk p e s m args below meth c H locs ls C hR hS hls)
  have h1 : 2 * (F0 m pc ls ((Value.ref r :: st).map (sh_cv B))).monitorRoom + ((st.map (sh_cv B)).map fun v => v.category).sum ≤ 8 := lv_room (by rw [sh_cat]; exact hst)
  show _ ≤ 100 * d
  omega
end VCall
