theorem jf_9 : Cond.fieldLink RJ0 9 "java/lang/String" "value" "[B" ∈ sh_tb := (sh_w9 (sh_tl50 (sh_tl50 (sh_tl50 (sh_tl50 (sh_tl10 (sh_tl10 (sh_tl1 (sh_tl1 sh_hd)))))))) rfl)
theorem jf_15 : Cond.fieldLink RJ0 15 "java/lang/String" "coder" "B" ∈ sh_tb := (sh_w9 (sh_tl50 (sh_tl50 (sh_tl50 (sh_tl50 (sh_tl10 (sh_tl10 (sh_tl1 (sh_tl1 (sh_tl1 sh_hd))))))))) rfl)
theorem jf_38 : Cond.fieldLink RJ0 38 "java/lang/String" "COMPACT_STRINGS" "Z" ∈ sh_tb := (sh_w3 (sh_tl50 (sh_tl10 (sh_tl10 (sh_tl10 (sh_tl1 sh_hd))))) rfl)
theorem jf_1053 : Cond.fieldLink RJ0 1053 "jdk/internal/util/Preconditions" "SIOOBE_FORMATTER" "Ljava/util/function/BiFunction;" ∈ sh_tb := (sh_w3 (sh_tl50 (sh_tl10 (sh_tl10 (sh_tl10 (sh_tl10 (sh_tl1 (sh_tl1 (sh_tl1 (sh_tl1 (sh_tl1 (sh_tl1 (sh_tl1 sh_hd)))))))))))) rfl)
/-! the words' text: its length, its letters: String's own methods, walked on the constant -/
def sh_ch (i : Int32) : Int32 := sh_txb.getD i.toNatClampNeg 0
def sh_S (B aK aV : Nat) (U : State) : Prop := vk_R "ShrugHills$Text" 68 sh_tx aK U ∧ vk_S 1 [171] [sh_txb] (fun _ => aK) (fun _ => aV) (fun q => B ≤ q) U U.heap
theorem sh_S.moved {B aK aV : Nat} {s U : State} (hW : s.WarmedH U.vm) (hh : ∀ q : Nat, q < s.heap.size → ¬ B ≤ q → U.heap[q]? = s.heap[q]?) (h : sh_S B aK aV s) : sh_S B aK aV U := ⟨h.1.warm hW, (h.2.moved hW.alike).kept hh⟩
theorem sh_S.call {B aK aV : Nat} {U : State} {g : JFrame} {mk : MethodId} {a : Array Value} (h : sh_S B aK aV U) : sh_S B aK aV (U.calling g mk a) := sh_S.moved (s := U) (U := U.calling g mk a) (State.WarmedH.refl U) (fun _ _ _ => rfl) h
def sh_JP (B : Nat) (D : va_G) (ca : Nat → ClassId) (aK aV : Nat) (μ : sh_Mem) : State → Prop := fun U => (B ≤ U.heap.size ∧ sh_Rep B D ca μ U.heap ∧ va_K D sh_cl (sh_tys ca) U ∧ sh_Env B U) ∧ sh_S B aK aV U
/-- a method of the JDK that reads the words' text alone: the memory stays -/
def sh_JC (l : Launch) (B : Nat) (D : va_G) (ca : Nat → ClassId) (aK aV d : Nat) (M : sh_M) (av : List Value) (μ : sh_Mem) (Q : Option Value → Prop) : Prop :=
  ∀ (p : Program) (e : Env) (s : State) (m : MethodId) (args : Array Value) (below : List Frame) (meth : Method) (c : Code) (H : Heap) (locs : List Loc) (ls : Array Slot),
    sh_Cx B D ca M p s m args meth c → sh_S B aK aV s → sh_Rep B D ca μ H → va_S (fun q => B ≤ q) s.heap H locs → lv_has ls M.2.2.1 (lv_args 0 av) →
    W p l e (sh_rm d 0 0) s m args below meth c H locs 0 0 (MQ below (sh_Qc B D ca (fun v μ' => Q v ∧ μ' = μ)) args s 0 0 (fun q => B ≤ q)) (F0 m 0 ls [])
section VStr
variable {l : Launch} {B : Nat} {D : va_G} {ca : Nat → ClassId} {aK aV d d' mc ms : Nat} {M M' : sh_M} {μ : sh_Mem} {Q Q' : Option Value → Prop}
theorem sh_jmet {av : List Value} (hM : sh_MT M) (hlen : (lg_sl av).length ≤ M.2.2.1) (h : sh_JC l B D ca aK aV d M av μ Q) :
    Met l M.1 (sh_tw M) (sh_rm d 0 0) (va_Pc av (sh_JP B D ca aK aV μ)) (sh_Qc B D ca (fun v μ' => Q v ∧ μ' = μ)) 0 0 (fun q => B ≤ q) := by
  refine va_MetF (cc := M.2.1) (maxL := M.2.2.1) (ret := M.2.2.2) hM.2.2.1 rfl ?_
  intro p e s m args below meth c s₁ X hml hv
  obtain ⟨rfl, ⟨hB, hR, hK, hE⟩, hSS⟩ := hv
  have hts := atoms_spec (ws := sh_tw M) X.pre
  have hown : s.vm.findClass M.1.cls = some m.cls := findClass_of_methodNamed X.named
  have hnm : meth.name = M.1.name := (name_of_methodNamed X.named X.method).1
  have hl := lv_entry av (n := M.2.2.1) hlen
  rw [lg_entry_eq]
  exact h p e s m _ below meth c s.heap [] _ ⟨X.exec, X.bytes, X.returns, hml, hown, fun w hw => hts w (List.mem_cons_of_mem _ hw), X.notSynchronized, hnm, hK, hB, hE⟩ hSS hR va_S.rf hl
variable {p : Program} {e : Env} {s : State} {m : MethodId} {args : Array Value} {below : List Frame} {meth : Method} {c : Code} {H : Heap} {locs : List Loc} {ls : Array Slot} {cells slots : Nat} {Qw : State → Prop} {rest : List Value}
theorem sh_jpre (C : sh_Cx B D ca M p s m args meth c) (hSS : sh_S B aK aV s) (hR : sh_Rep B D ca μ H) (hS : va_S (fun q => B ≤ q) s.heap H locs) (av : List Value) : FrameBlind (va_Pc av (sh_JP B D ca aK aV μ)) ∧ ∀ U : State, U.heap = H → s.WarmedH U.vm → va_Pc av (sh_JP B D ca aK aV μ) av.toArray U := by
  obtain ⟨-, -, -, -, -, -, -, -, hK, hB, hE⟩ := C
  refine ⟨fun a U g mk q => ?_, fun U hU hW => ?_⟩
  · obtain ⟨h0, ⟨h1, h2, h3, h4⟩, h5⟩ := q
    exact ⟨h0, ⟨h1, h2, va_K.moved (u := U) (U := U.calling g mk a) (Vm.Alike.refl U.vm) h3, h4.call⟩, h5.call⟩
  · exact ⟨rfl, ⟨by rw [hU]; exact Nat.le_trans hB hS.1, by rw [hU]; exact hR, va_K.moved hW.alike hK, hE.moved hW (fun q h1 h2 => by rw [hU]; exact hS.2.1 q h1 h2)⟩, hSS.moved hW (fun q h1 h2 => by rw [hU]; exact hS.2.1 q h1 h2)⟩
theorem jj_callV {idx n pc : Nat} (as : List Value) (C : sh_Cx B D ca M p s m args meth c) (hSS : sh_S B aK aV s) (hR : sh_Rep B D ca μ H) (hS : va_S (fun q => B ≤ q) s.heap H locs) (hsz : ls.size = M.2.2.1) (hd : decode M.2.1 pc = .ok (.invokevirtual idx, 3)) (hc : sh_CV M.1.cls idx M' n) (hcls : M'.1.cls = "java/lang/String") (hcon : sh_JC l B D ca aK aV d' M' (.ref aK :: as) μ Q') (hdd : d' + 1 ≤ d) (hL : (lg_sl (.ref aK :: as)).length ≤ M'.2.2.1 ∧ M'.2.2.1 ≤ 81) (hn : as.length = n) (hst : (rest.map fun v => v.category).sum ≤ 8) (hm : cells ≤ mc) (hs : slots ≤ ms)
    (kk : ∀ v : Option Value, Q' v → ∀ (H' : Heap) (locs' : List Loc), sh_Rep B D ca μ H' → va_S (fun q => B ≤ q) s.heap H' locs' → W p l e (sh_rm d mc ms) s m args below meth c H' locs' cells slots Qw (F0 m (pc + 3) ls ((v.map (sh_cv B)).toList ++ rest))) : W p l e (sh_rm d mc ms) s m args below meth c H locs cells slots Qw (F0 m pc ls (as.reverse ++ .ref aK :: rest)) := by
  obtain ⟨hM, h1, h2, h3, h4⟩ := hc
  have hmet := sh_jmet hM hL.1 hcon
  have hrecv := vk_recv (i := 0) hSS.2 (by omega) hS
  rw [← hcls] at hrecv
  have hG : GoodIn sh_tb (wsV M.1.cls idx M'.1.cls M'.1 (sh_tw M')) := by
    intro w hw
    rcases List.mem_append.mp hw with h | h
    · simp only [List.mem_cons, List.not_mem_nil, or_false] at h
      rcases h with rfl | rfl | rfl | rfl
      · exact sh_good _ h1
      · exact sh_good _ h2
      · exact sh_good _ h3
      · exact sh_good _ hM.2.1
    · exact sh_goodM hM w h
  have hpre := sh_jpre C hSS hR hS (.ref aK :: as)
  have hrun := va_runV (g := F0 m pc ls (as.reverse ++ .ref aK :: rest)) (As := as) (b := aK) (rest := rest) (C := M'.1.cls) (cells := cells) (slots := slots) (locs := locs) (e := e) (below := below) (meth := meth) (R := sh_rm d mc ms) ⟨C.1, C.2.1, C.2.2.2.1, C.2.2.2.2.1, C.2.2.2.2.2.1⟩ hmet
    (cwV n C.2.2.2.2.2.1 hG rfl rfl rfl ⟨rfl, hM.2.2.2.1, hM.2.2.2.2, h4⟩ (sh_rooms hdd hL.2)) ⟨hpre.1, hrecv, hpre.2⟩ rfl hn hsz rfl (lv_room hst) hd ⟨hm, hs⟩
  exact sh_after hrun hS fun v μ' H' locs' hq hR' hS' => kk v hq.1 H' locs' (by rw [← hq.2]; exact hR') hS'
theorem jj_callS {idx n pc : Nat} (as : List Value) (C : sh_Cx B D ca M p s m args meth c) (hSS : sh_S B aK aV s) (hR : sh_Rep B D ca μ H) (hS : va_S (fun q => B ≤ q) s.heap H locs) (hsz : ls.size = M.2.2.1) (hd : decode M.2.1 pc = .ok (.invokestatic idx, 3)) (hc : sh_CS M.1.cls idx M' n) (hcon : sh_JC l B D ca aK aV d' M' as μ Q') (hdd : d' + 1 ≤ d) (hL : (lg_sl as).length ≤ M'.2.2.1 ∧ M'.2.2.1 ≤ 81) (hn : as.length = n) (hst : (rest.map fun v => v.category).sum ≤ 8) (hm : cells ≤ mc) (hs : slots ≤ ms)
    (kk : ∀ v : Option Value, Q' v → ∀ (H' : Heap) (locs' : List Loc), sh_Rep B D ca μ H' → va_S (fun q => B ≤ q) s.heap H' locs' → W p l e (sh_rm d mc ms) s m args below meth c H' locs' cells slots Qw (F0 m (pc + 3) ls ((v.map (sh_cv B)).toList ++ rest))) : W p l e (sh_rm d mc ms) s m args below meth c H locs cells slots Qw (F0 m pc ls (as.reverse ++ rest)) := by
  obtain ⟨hM, h1, h2, h4⟩ := hc
  have hmet := sh_jmet hM hL.1 hcon
  have hG : GoodIn sh_tb (va_wsS M.1.cls idx M'.1 (sh_tw M')) := by
    intro w hw
    rcases List.mem_append.mp hw with h | h
    · simp only [List.mem_cons, List.not_mem_nil, or_false] at h
      rcases h with rfl | rfl | rfl
      · exact sh_good _ h1
      · exact sh_good _ h2
      · exact sh_good _ hM.2.1
    · exact sh_goodM hM w h
  have hpre := sh_jpre C hSS hR hS as
  have hrun := va_runS (g := F0 m pc ls (as.reverse ++ rest)) (As := as) (rest := rest) (cells := cells) (slots := slots) (locs := locs) (e := e) (below := below) (meth := meth) (R := sh_rm d mc ms) ⟨C.1, C.2.1, C.2.2.2.1, C.2.2.2.2.1, C.2.2.2.2.2.1⟩ hmet
    (va_cwS n C.2.2.2.2.2.1 hG rfl rfl rfl ⟨hM.2.2.2.1, hM.2.2.2.2, h4⟩ (sh_rooms hdd hL.2)) hpre rfl hn hsz rfl (lv_room hst) hd ⟨hm, hs⟩
  exact sh_after hrun hS fun v μ' H' locs' hq hR' hS' => kk v hq.1 H' locs' (by rw [← hq.2]; exact hR') hS'
/-- the end of such a method, with an int of a narrow kind -/
theorem jj_ret {pc : Nat} {x : Int32} {ty : FieldType} (C : sh_Cx B D ca M p s m args meth c) (hR : sh_Rep B D ca μ H) (hS : va_S (fun q => B ≤ q) s.heap H locs) (hd : decode M.2.1 pc = .ok (.ireturn, 1)) (hr : M.2.2.2 = some ty) (hn : narrow ty (.int x) = .int x) (hq : Q (some (.int x))) : W p l e (sh_rm d 0 0) s m args below meth c H locs 0 0 (MQ below (sh_Qc B D ca (fun v μ' => Q v ∧ μ' = μ)) args s 0 0 (fun q => B ≤ q)) (F0 m pc ls [.int x]) := by
  have hlocks := C.2.2.2.2.2.2.1
  exact W.zret C.1 C.2.1 (C.2.2.1.trans hr) hn (fun t ht _ => ⟨⟨some (.int x), μ, rfl, ⟨hq, rfl⟩, by rw [ht]; exact hR⟩, hS.F ht⟩) hS.2.2 hd
theorem jc_coder : sh_JC l B D ca aK aV 1 M_J0_coder_7d493 [.ref aK] μ (fun v => v = some (.int 0)) := by
  intro p e s m args below meth c H locs ls C hSS hR hS hl
  have hx := C.1; have hb := C.2.1; have hown := C.2.2.2.2.1; have hts := C.2.2.2.2.2.1
  have hE := C.2.2.2.2.2.2.2.2.2.2
  obtain ⟨f1, f2, f3, f4⟩ := hSS.2.1 0 (by omega)
  refine va_gets hx hb hE.2.2.2.2.1 hS hown (hts _ jf_38) (fun _ h => h) dJ0_coder_7d493_0 ?_
  refine lv_if_eq (tgt := 13) hx hb dJ0_coder_7d493_3 (by decide) (fun h => absurd h (by decide)) (fun _ => ?_)
  refine lv_aload_n hx hb dJ0_coder_7d493_6 rfl (lv_at hl 0 rfl) ?_
  refine vk_getf hx hb f2 hS hown (hts _ jf_15) (fun _ h => h) dJ0_coder_7d493_7 ?_
  refine lv_goto (tgt := 14) hx hb dJ0_coder_7d493_10 (by decide) ?_
  exact jj_ret C hR hS dJ0_coder_7d493_14 rfl rfl rfl
theorem jc_isLatin1 : sh_JC l B D ca aK aV 1 M_J0_isLatin1_aae02 [.ref aK] μ (fun v => v = some (.int 1)) := by
  intro p e s m args below meth c H locs ls C hSS hR hS hl
  have hx := C.1; have hb := C.2.1; have hown := C.2.2.2.2.1; have hts := C.2.2.2.2.2.1
  have hE := C.2.2.2.2.2.2.2.2.2.2
  obtain ⟨f1, f2, f3, f4⟩ := hSS.2.1 0 (by omega)
  refine va_gets hx hb hE.2.2.2.2.1 hS hown (hts _ jf_38) (fun _ h => h) dJ0_isLatin1_aae02_0 ?_
  refine lv_if_eq (tgt := 17) hx hb dJ0_isLatin1_aae02_3 (by decide) (fun h => absurd h (by decide)) (fun _ => ?_)
  refine lv_aload_n hx hb dJ0_isLatin1_aae02_6 rfl (lv_at hl 0 rfl) ?_
  refine vk_getf hx hb f2 hS hown (hts _ jf_15) (fun _ h => h) dJ0_isLatin1_aae02_7 ?_
  refine lv_if_ne (tgt := 17) hx hb dJ0_isLatin1_aae02_10 (by decide) (fun h => absurd rfl h) (fun _ => ?_)
  refine lv_iconst (v := 1) hx hb dJ0_isLatin1_aae02_13 (by decide) ?_
  refine lv_goto (tgt := 18) hx hb dJ0_isLatin1_aae02_14 (by decide) ?_
  exact jj_ret C hR hS dJ0_isLatin1_aae02_18 rfl rfl rfl
theorem jc_length : sh_JC l B D ca aK aV 2 M_J0_length_8abf5 [.ref aK] μ (fun v => v = some (.int 171)) := by
  intro p e s m args below meth c H locs ls C hSS hR hS hl
  have hx := C.1; have hb := C.2.1; have hown := C.2.2.2.2.1; have hts := C.2.2.2.2.2.1
  obtain ⟨f1, f2, f3, f4⟩ := hSS.2.1 0 (by omega)
  refine lv_aload_n hx hb dJ0_length_8abf5_0 rfl (lv_at hl 0 rfl) ?_
  refine vk_getf hx hb f3 hS hown (hts _ jf_9) (fun _ h => h) dJ0_length_8abf5_1 ?_
  refine va_tlen hx hb f4 hS (v := 171) rfl dJ0_length_8abf5_4 ?_
  refine lv_aload_n hx hb dJ0_length_8abf5_5 rfl (lv_at hl 0 rfl) ?_
  refine jj_callV [] C hSS hR hS hl.1 dJ0_length_8abf5_6 ck_J0_335 rfl jc_coder (Nat.le_of_ble_eq_true rfl) ⟨Nat.le_of_ble_eq_true rfl, Nat.le_of_ble_eq_true rfl⟩ rfl (Nat.le_of_ble_eq_true rfl) (Nat.le_refl _) (Nat.le_refl _) (fun v hv H' locs' hR' hS' => ?_)
  subst hv
  refine lv_ishr hx hb dJ0_length_8abf5_9 ?_
  exact jj_ret C hR' hS' dJ0_length_8abf5_10 rfl rfl rfl
theorem jc_pre {x : Int32} {w : Value} (hx0 : sh_in x 171) (hw : w = .null ∨ ∃ t, w = .ref t) : sh_JC l B D ca aK aV 1 M_J3_checkIndex_8e157 [.int x, .int 171, w] μ (fun v => v = some (.int x)) := by
  intro p e s m args below meth c H locs ls C hSS hR hS hl
  have hx := C.1; have hb := C.2.1
  have h1 : ¬ x < 0 := fun q => hx0 (Or.inl q)
  have h2 : x.toNatClampNeg < 171 := Nat.lt_of_not_le fun q => hx0 (Or.inr q)
  have h3 : x < 171 := by
    rw [Int32.lt_iff_toInt_lt, sh_nn x h1]
    have : (171 : Int32).toInt = 171 := by decide
    rw [this]
    omega
  refine lv_iload_n hx hb dJ3_checkIndex_8e157_0 rfl (lv_at hl 0 rfl) ?_
  refine lv_if_lt (tgt := 9) hx hb dJ3_checkIndex_8e157_1 (by decide) (fun h => absurd h h1) (fun _ => ?_)
  refine lv_iload_n hx hb dJ3_checkIndex_8e157_4 rfl (lv_at hl 0 rfl) ?_
  refine lv_iload_n hx hb dJ3_checkIndex_8e157_5 rfl (lv_at hl 1 rfl) ?_
  refine lv_icmp_lt (tgt := 16) hx hb dJ3_checkIndex_8e157_6 (by decide) (fun _ => ?_) (fun h => absurd h3 h)
  refine lv_iload_n hx hb dJ3_checkIndex_8e157_16 rfl (lv_at hl 0 rfl) ?_
  exact jj_ret C hR hS dJ3_checkIndex_8e157_17 rfl rfl rfl
theorem jc_check {x : Int32} (hx0 : sh_in x 171) : sh_JC l B D ca aK aV 2 M_J0_checkIndex_df160 [.int x, .int 171] μ (fun v => v = none) := by
  intro p e s m args below meth c H locs ls C hSS hR hS hl
  have hx := C.1; have hb := C.2.1; have hown := C.2.2.2.2.1; have hts := C.2.2.2.2.2.1
  have hE := C.2.2.2.2.2.2.2.2.2.2
  have hlocks := C.2.2.2.2.2.2.1
  refine lv_iload_n hx hb dJ0_checkIndex_df160_0 rfl (lv_at hl 0 rfl) ?_
  refine lv_iload_n hx hb dJ0_checkIndex_df160_1 rfl (lv_at hl 1 rfl) ?_
  have go : ∀ w : Value, (w = .null ∨ ∃ t, w = .ref t) → W p l e (sh_rm 2 0 0) s m args below meth c H locs 0 0 (MQ below (sh_Qc B D ca (fun v μ' => v = none ∧ μ' = μ)) args s 0 0 (fun q => B ≤ q)) (F0 m 5 ls [w, .int 171, .int x]) := by
    intro w hw
    refine jj_callS [.int x, .int 171, w] C hSS hR hS hl.1 dJ0_checkIndex_df160_5 ck_J0_1059 (jc_pre hx0 hw) (Nat.le_of_ble_eq_true rfl) ⟨by rcases hw with rfl | ⟨t, rfl⟩ <;> exact Nat.le_of_ble_eq_true rfl, Nat.le_of_ble_eq_true rfl⟩ rfl (Nat.le_of_ble_eq_true rfl) (Nat.le_refl _) (Nat.le_refl _) (fun v hv H' locs' hR' hS' => ?_)
    subst hv
    refine lv_pop hx hb dJ0_checkIndex_df160_8 rfl ?_
    exact W.vret hx hb (C.2.2.1.trans rfl) (fun t ht _ => ⟨⟨none, μ, rfl, ⟨rfl, rfl⟩, by rw [ht]; exact hR'⟩, hS'.F ht⟩) hS'.2.2 dJ0_checkIndex_df160_9
  rcases hE.2.2.2.2.2 with hz | ⟨t, hz⟩
  · exact va_gets hx hb hz hS hown (hts _ jf_1053) (fun _ h => h) dJ0_checkIndex_df160_2 (go .null (Or.inl rfl))
  · exact va_gets hx hb hz hS hown (hts _ jf_1053) (fun _ h => h) dJ0_checkIndex_df160_2 (go (.ref t) (Or.inr ⟨t, rfl⟩))
theorem sh_ch_ok : ∀ j, j < 171 → (((sh_txb.getD j 0 &&& 255).toUInt32 % 65536).toInt32 = sh_txb.getD j 0 ∧ narrow .char (.int (sh_txb.getD j 0)) = .int (sh_txb.getD j 0)) := by decide +kernel
theorem jc_latin {x : Int32} (hx0 : sh_in x 171) : sh_JC l B D ca aK aV 3 M_J1_charAt_3b067 [.ref aV, .int x] μ (fun v => v = some (.int (sh_ch x))) := by
  intro p e s m args below meth c H locs ls C hSS hR hS hl
  have hx := C.1; have hb := C.2.1
  obtain ⟨f1, f2, f3, f4⟩ := hSS.2.1 0 (by omega)
  refine lv_iload_n hx hb dJ1_charAt_3b067_0 rfl (lv_at hl 1 rfl) ?_
  refine lv_aload_n hx hb dJ1_charAt_3b067_1 rfl (lv_at hl 0 rfl) ?_
  refine va_tlen hx hb f4 hS (v := 171) rfl dJ1_charAt_3b067_2 ?_
  refine jj_callS [.int x, .int 171] C hSS hR hS hl.1 dJ1_charAt_3b067_3 ck_J1_9 (jc_check hx0) (Nat.le_of_ble_eq_true rfl) ⟨Nat.le_of_ble_eq_true rfl, Nat.le_of_ble_eq_true rfl⟩ rfl (Nat.le_of_ble_eq_true rfl) (Nat.le_refl _) (Nat.le_refl _) (fun v hv H' locs' hR' hS' => ?_)
  subst hv
  refine lv_aload_n hx hb dJ1_charAt_3b067_6 rfl (lv_at hl 0 rfl) ?_
  refine lv_iload_n hx hb dJ1_charAt_3b067_7 rfl (lv_at hl 1 rfl) ?_
  have hlt : x.toNatClampNeg < 171 := Nat.lt_of_not_le fun q => hx0 (Or.inr q)
  refine va_tb hx hb f4 hS' hx0 (v := .int (sh_ch x)) rfl dJ1_charAt_3b067_8 ?_
  refine lv_sipush (v := 255) hx hb dJ1_charAt_3b067_9 (by decide) ?_
  refine lv_iand hx hb dJ1_charAt_3b067_12 ?_
  refine lv_i2c hx hb dJ1_charAt_3b067_13 (sh_ch_ok _ hlt).1 ?_
  exact jj_ret C hR' hS' dJ1_charAt_3b067_14 rfl (sh_ch_ok _ hlt).2 rfl
theorem jc_charAt {x : Int32} (hx0 : sh_in x 171) : sh_JC l B D ca aK aV 4 M_J0_charAt_5068e [.ref aK, .int x] μ (fun v => v = some (.int (sh_ch x))) := by
  intro p e s m args below meth c H locs ls C hSS hR hS hl
  have hx := C.1; have hb := C.2.1; have hown := C.2.2.2.2.1; have hts := C.2.2.2.2.2.1
  obtain ⟨f1, f2, f3, f4⟩ := hSS.2.1 0 (by omega)
  refine lv_aload_n hx hb dJ0_charAt_5068e_0 rfl (lv_at hl 0 rfl) ?_
  refine jj_callV [] C hSS hR hS hl.1 dJ0_charAt_5068e_1 ck_J0_492 rfl jc_isLatin1 (Nat.le_of_ble_eq_true rfl) ⟨Nat.le_of_ble_eq_true rfl, Nat.le_of_ble_eq_true rfl⟩ rfl (Nat.le_of_ble_eq_true rfl) (Nat.le_refl _) (Nat.le_refl _) (fun v hv H' locs' hR' hS' => ?_)
  subst hv
  refine lv_if_eq (tgt := 16) hx hb dJ0_charAt_5068e_4 (by decide) (fun h => absurd h (by decide)) (fun _ => ?_)
  refine lv_aload_n hx hb dJ0_charAt_5068e_7 rfl (lv_at hl 0 rfl) ?_
  refine vk_getf hx hb f3 hS' hown (hts _ jf_9) (fun _ h => h) dJ0_charAt_5068e_8 ?_
  refine lv_iload_n hx hb dJ0_charAt_5068e_11 rfl (lv_at hl 1 rfl) ?_
  refine jj_callS [.ref aV, .int x] C hSS hR' hS' hl.1 dJ0_charAt_5068e_12 ck_J0_495 (jc_latin hx0) (Nat.le_of_ble_eq_true rfl) ⟨Nat.le_of_ble_eq_true rfl, Nat.le_of_ble_eq_true rfl⟩ rfl (Nat.le_of_ble_eq_true rfl) (Nat.le_refl _) (Nat.le_refl _) (fun v hv H' locs' hR' hS' => ?_)
  subst hv
  have hlt : x.toNatClampNeg < 171 := Nat.lt_of_not_le fun q => hx0 (Or.inr q)
  exact jj_ret C hR' hS' dJ0_charAt_5068e_15 rfl (sh_ch_ok _ hlt).2 rfl
end VStr
section VStr2
variable {l : Launch} {B : Nat} {D : va_G} {ca : Nat → ClassId} {d mc ms : Nat} {lv : List (Nat × Value)} {st : List Value} {μ : sh_Mem} {cells slots : Nat} {Q : Option Value → sh_Mem → Prop}
theorem vv_strlen (pc : Nat) (hd : decode M_X8_wordOf.2.1 pc = .ok (.ldc 68, 2)) (hd2 : decode M_X8_wordOf.2.1 (pc + 2) = .ok (.invokevirtual 70, 3)) (hdd : 6 ≤ d) (hst : (st.map fun v => v.category).sum ≤ 8) (hm : cells ≤ mc) (hs : slots ≤ ms) (k : sh_V l B D ca d mc ms M_X8_wordOf (pc + 5) lv (.int 171 :: st) μ cells slots Q) : sh_V l B D ca d mc ms M_X8_wordOf pc lv st μ cells slots Q := by
  intro p e s m args below meth c H locs ls C hR hS hl
  obtain ⟨-, -, -, ⟨aK, aV, g1, g2⟩, -, -⟩ := C.2.2.2.2.2.2.2.2.2.2
  have hSS : sh_S B aK aV s := ⟨g1, g2⟩
  refine va_ldcS C.1 C.2.1 C.2.2.2.2.1 g1 hd ?_
  refine jj_callV [] C hSS hR hS hl.1 hd2 ck_X8_70 rfl jc_length (by omega) ⟨Nat.le_of_ble_eq_true rfl, Nat.le_of_ble_eq_true rfl⟩ rfl (by rw [sh_cat]; exact hst) hm hs (fun v hv H' locs' hR' hS' => ?_)
  subst hv
  exact k p e s m args below meth c H' locs' ls C hR' hS' hl
theorem vv_strchr {x : Int32} (pc i : Nat) (hd : decode M_X8_wordOf.2.1 pc = .ok (.ldc 68, 2)) (hd2 : decode M_X8_wordOf.2.1 (pc + 2) = .ok (.iload i, 2)) (hd3 : decode M_X8_wordOf.2.1 (pc + 4) = .ok (.invokevirtual 75, 3)) (hk : sh_lk lv i = some (.int x)) (hi : sh_in x 171) (hdd : 6 ≤ d) (hst : (st.map fun v => v.category).sum ≤ 8) (hm : cells ≤ mc) (hs : slots ≤ ms) (k : sh_V l B D ca d mc ms M_X8_wordOf (pc + 7) lv (.int (sh_ch x) :: st) μ cells slots Q) : sh_V l B D ca d mc ms M_X8_wordOf pc lv st μ cells slots Q := by
  intro p e s m args below meth c H locs ls C hR hS hl
  obtain ⟨-, -, -, ⟨aK, aV, g1, g2⟩, -, -⟩ := C.2.2.2.2.2.2.2.2.2.2
  have hSS : sh_S B aK aV s := ⟨g1, g2⟩
  refine va_ldcS C.1 C.2.1 C.2.2.2.2.1 g1 hd ?_
  refine lv_iload C.1 C.2.1 hd2 (sh_has hl hk) ?_
  refine jj_callV [.int x] C hSS hR hS hl.1 hd3 ck_X8_75 rfl (jc_charAt hi) (by omega) ⟨Nat.le_of_ble_eq_true rfl, Nat.le_of_ble_eq_true rfl⟩ rfl (by rw [sh_cat]; exact hst) hm hs (fun v hv H' locs' hR' hS' => ?_)
  subst hv
  exact k p e s m args below meth c H' locs' ls C hR' hS' hl
end VStr2
