theorem sh_inst {ci : Nat} (h : ci < 13) : Cond.instantiable (sh_R ci) (sh_n ci) ∈ sh_tb := by
  rcases (show ci = 0 ∨ ci = 1 ∨ ci = 2 ∨ ci = 3 ∨ ci = 4 ∨ ci = 5 ∨ ci = 6 ∨ ci = 7 ∨ ci = 8 ∨ ci = 9 ∨ ci = 10 ∨ ci = 11 ∨ ci = 12 by omega) with rfl | rfl | rfl | rfl | rfl | rfl | rfl | rfl | rfl | rfl | rfl | rfl | rfl
  · exact (sh_w2 (sh_tl50 (sh_tl50 (sh_tl10 (sh_tl10 (sh_tl1 (sh_tl1 (sh_tl1 (sh_tl1 sh_hd)))))))) rfl)
  · exact (sh_w1 (sh_tl50 (sh_tl10 (sh_tl10 (sh_tl10 (sh_tl1 (sh_tl1 (sh_tl1 (sh_tl1 sh_hd)))))))) rfl)
  · exact (sh_w1 (sh_tl50 (sh_tl50 (sh_tl1 (sh_tl1 (sh_tl1 sh_hd))))) rfl)
  · exact (sh_w1 (sh_tl50 (sh_tl50 (sh_tl10 (sh_tl10 (sh_tl10 (sh_tl1 (sh_tl1 (sh_tl1 sh_hd)))))))) rfl)
  · exact (sh_w2 (sh_tl50 (sh_tl10 (sh_tl10 (sh_tl10 (sh_tl1 (sh_tl1 (sh_tl1 (sh_tl1 (sh_tl1 (sh_tl1 (sh_tl1 (sh_tl1 sh_hd)))))))))))) rfl)
  · exact (sh_w1 (sh_tl50 (sh_tl50 (sh_tl10 (sh_tl10 (sh_tl1 (sh_tl1 (sh_tl1 (sh_tl1 (sh_tl1 sh_hd))))))))) rfl)
  · exact (sh_w1 (sh_tl50 (sh_tl50 (sh_tl10 (sh_tl1 (sh_tl1 (sh_tl1 (sh_tl1 (sh_tl1 (sh_tl1 (sh_tl1 (sh_tl1 (sh_tl1 sh_hd)))))))))))) rfl)
  · exact (sh_w2 (sh_tl50 (sh_tl50 (sh_tl50 (sh_tl10 (sh_tl1 (sh_tl1 (sh_tl1 (sh_tl1 (sh_tl1 sh_hd))))))))) rfl)
  · exact (sh_w1 (sh_tl10 (sh_tl10 (sh_tl10 (sh_tl1 sh_hd)))) rfl)
  · exact (sh_w2 (sh_tl50 (sh_tl50 (sh_tl50 (sh_tl10 (sh_tl10 (sh_tl10 (sh_tl10 (sh_tl1 (sh_tl1 (sh_tl1 (sh_tl1 (sh_tl1 (sh_tl1 sh_hd))))))))))))) rfl)
  · exact (sh_w2 (sh_tl10 (sh_tl10 (sh_tl10 (sh_tl10 (sh_tl1 (sh_tl1 (sh_tl1 (sh_tl1 (sh_tl1 (sh_tl1 (sh_tl1 (sh_tl1 sh_hd)))))))))))) rfl)
  · exact (sh_w1 (sh_tl10 (sh_tl10 (sh_tl1 (sh_tl1 (sh_tl1 sh_hd))))) rfl)
  · exact (sh_w5 (sh_tl50 (sh_tl50 (sh_tl50 (sh_tl50 (sh_tl10 (sh_tl10 (sh_tl10 (sh_tl1 (sh_tl1 (sh_tl1 (sh_tl1 (sh_tl1 (sh_tl1 sh_hd))))))))))))) rfl)
theorem sh_K0 {s : State} {args : Array Value} (hts : ∀ w ∈ lw_tbl, w.before args s = true) : ∃ (D : va_G) (ca : Nat → ClassId), va_K D sh_cl (sh_tys ca) s := by
  have hts' : ∀ w ∈ sh_tb, w.before args s = true := fun w hw => hts w (List.mem_filter.mp hw).1
  have h1 : ∀ ci : Nat, ∃ q : ClassId × (Nat → Nat), ci < 13 → u_Kn s (sh_R ci) (sh_T ci) (sh_n ci) q.1 q.2 := by
    intro ci
    by_cases h : ci < 13
    · obtain ⟨cC, iS, hk⟩ := u_known hts' (sh_inu h) (hts' _ (sh_inst h))
      exact ⟨(cC, iS), fun _ => hk⟩
    · exact ⟨(0, fun _ => 0), fun h2 => absurd h2 h⟩
  obtain ⟨c13, k13, m13, a1, a2, a3⟩ := Cond.arrayClass_spec (hts' _ ac_13)
  obtain ⟨c14, k14, m14, b1, b2, b3⟩ := Cond.arrayClass_spec (hts' _ ac_14)
  obtain ⟨c15, k15, m15, d1, d2, d3⟩ := Cond.arrayClass_spec (hts' _ ac_15)
  obtain ⟨m16, c16, k16, e1, -, e2, e3, e4⟩ := Cond.arrayOver_spec (hts (.arrayOver (.object "ShrugHills$Land")) (List.mem_append_right _ (show _ ∈ tables_1 from List.mem_append_right _ (List.mem_append_left _ (sh_tl50 (sh_tl10 (sh_tl10 (sh_tl10 (sh_tl10 (sh_tl1 (sh_tl1 (sh_tl1 (sh_tl1 sh_hd)))))))))))))
  obtain ⟨m17, c17, k17, g1, -, g2, g3, g4⟩ := arrayOverA_spec (hts (.arrayOver (.array .int)) (List.mem_append_right _ (show _ ∈ tables_1 from List.mem_append_right _ (List.mem_append_left _ (sh_tl50 (sh_tl10 (sh_tl10 (sh_tl10 (sh_tl10 (sh_tl1 (sh_tl1 (sh_tl1 (sh_tl1 (sh_tl1 (sh_tl1 sh_hd)))))))))))))))
  refine ⟨(fun ci => (h1 ci).choose.1, fun ci => (h1 ci).choose.2), fun t => if t = 13 then c13 else if t = 14 then c14 else if t = 15 then c15 else if t = 16 then c16 else c17, fun ci q hq => ?_, fun k q hq => ?_⟩
  · have hlt : ci < 13 := (List.getElem?_eq_some_iff.mp hq).1
    rw [sh_cl_at hlt] at hq
    cases hq
    exact (h1 ci).choose_spec hlt
  · have hlt : k < 5 := (List.getElem?_eq_some_iff.mp hq).1
    rcases (show k = 0 ∨ k = 1 ∨ k = 2 ∨ k = 3 ∨ k = 4 by omega) with rfl | rfl | rfl | rfl | rfl
    · cases hq; exact ⟨fun n z => ⟨fun k h => (by cases h), k13, a2, m13, a3⟩, a1⟩
    · cases hq; exact ⟨fun n z => ⟨fun k h => (by cases h), k14, b2, m14, b3⟩, b1⟩
    · cases hq; exact ⟨fun n z => ⟨fun k h => (by cases h), k15, d2, m15, d3⟩, d1⟩
    · cases hq; exact ⟨fun n z => ⟨fun k h => (by cases h), k16, e2, m16, e3⟩, k16, m16, e2, e3, e1, e4⟩
    · cases hq; exact ⟨fun n z => ⟨fun k h => (by cases h), k17, g2, m17, g3⟩, g4⟩
theorem sh_nst_in : ∀ q ∈ sh_nst, Cond.methodLinkNest q.1 q.2.1 q.2.2.1 q.2.2.2 ∈ lw_tbl := by decide +kernel
def sh_wT : Term := .field (.string "ShrugHills$Text" 68) "java/lang/String" "value" "[B"
theorem sh_txat : ∀ j, j < 171 → (flatC (Jvm.Cond.and given_1 narrow_1))[13 + j]? = some (Cond.eq (.elem sh_wT (.int (Int32.ofNat j))) (.int (sh_txb.getD j 0))) := by decide +kernel
theorem sh_txin : ∀ j, j < 171 → Cond.eq (.elem sh_wT (.int (Int32.ofNat j))) (.int (sh_txb.getD j 0)) ∈ flatC (Jvm.Cond.and given_1 narrow_1) := fun j hj => List.mem_of_getElem? (sh_txat j hj)
theorem sh_Env0 {s : State} {args : Array Value} (hts : ∀ w ∈ lw_tbl, w.before args s = true) (hgv : (Jvm.Cond.and given_1 narrow_1).before args s = true) : sh_Env s.heap.size s := by
  have hf := flat_of_before _ hgv
  have hA : ∀ a : Nat, a < s.heap.size → ¬ s.heap.size ≤ a := fun a h => by omega
  refine ⟨fun q hq => va_Nw.of rfl (hts _ (sh_nst_in q hq)), va_AO.of (hts (.arrayOver (.object "ShrugHills$Land")) (List.mem_append_right _ (show _ ∈ tables_1 from List.mem_append_right _ (List.mem_append_left _ (sh_tl50 (sh_tl10 (sh_tl10 (sh_tl10 (sh_tl10 (sh_tl1 (sh_tl1 (sh_tl1 (sh_tl1 sh_hd))))))))))))), fun a => over_moved (a := args) (a' := a) (Vm.Alike.refl s.vm) (hts (.arrayOver (.array .int)) (List.mem_append_right _ (show _ ∈ tables_1 from List.mem_append_right _ (List.mem_append_left _ (sh_tl50 (sh_tl10 (sh_tl10 (sh_tl10 (sh_tl10 (sh_tl1 (sh_tl1 (sh_tl1 (sh_tl1 (sh_tl1 (sh_tl1 sh_hd))))))))))))))), ?_, ?_, ?_⟩
  · obtain ⟨adK, adV, h1, h2⟩ := vk_Sof (args := args) (s := s) (N := 1) (tm := fun _ => .string "ShrugHills$Text" 68) (len := [171]) (byt := [sh_txb]) (A := fun q => s.heap.size ≤ q) (fun i hi => by obtain rfl : i = 0 := (by omega); decide) (fun i _ => hf _ (by decide +kernel)) (fun i _ => hf _ (by decide +kernel)) (fun i _ => hf _ (by decide +kernel)) (fun i hi => by obtain rfl : i = 0 := (by omega); exact hf _ (by decide +kernel)) (fun i hi j hj => by obtain rfl : i = 0 := (by omega); exact hf _ (sh_txin j hj)) (fun i j hi hj hn => absurd (show i = j by omega) hn) hA
    exact ⟨adK 0, adV 0, vk_R.of (hts (.stringRef "ShrugHills$Text" 68 sh_tx) (List.mem_append_right _ (show _ ∈ tables_1 from List.mem_append_right _ (List.mem_append_right _ (List.mem_append_left _ (sh_tl50 (sh_tl10 (sh_tl10 (sh_tl1 (sh_tl1 sh_hd)))))))))) (h2 0 (by omega)), fun i hi => by obtain rfl : i = 0 := (by omega); exact h1.1 0 (by omega), fun i j hi hj _ => by omega⟩
  · refine va_Zof (hts (.laysStatic "java/lang/String" "COMPACT_STRINGS" "Z") (List.mem_append_right _ (show _ ∈ tables_1 from List.mem_append_right _ (List.mem_append_right _ (List.mem_append_left _ (sh_tl50 (sh_tl10 (sh_tl10 (sh_tl10 (sh_tl1 (sh_tl1 sh_hd))))))))))) (hts (.initialized "java/lang/String") (List.mem_append_right _ (show _ ∈ tables_1 from List.mem_append_left _ (sh_tl10 (sh_tl1 (sh_tl1 (sh_tl1 (sh_tl1 (sh_tl1 sh_hd))))))))) ?_ hA
    obtain ⟨w, h1, h2⟩ := Cond.eq_one (hf (.eq (.static "java/lang/String" "COMPACT_STRINGS" "Z") (.int 1)) (by decide +kernel))
    cases h2
    exact h1
  · exact va_Zqof (hts (.laysStatic "jdk/internal/util/Preconditions" "SIOOBE_FORMATTER" "Ljava/util/function/BiFunction;") (List.mem_append_right _ (show _ ∈ tables_1 from List.mem_append_right _ (List.mem_append_right _ (List.mem_append_left _ (sh_tl50 (sh_tl10 (sh_tl10 (sh_tl10 (sh_tl10 (sh_tl1 (sh_tl1 (sh_tl1 (sh_tl1 (sh_tl1 (sh_tl1 (sh_tl1 (sh_tl1 sh_hd)))))))))))))))))) (hts (.initialized "jdk/internal/util/Preconditions") (List.mem_append_right _ (show _ ∈ tables_1 from List.mem_append_left _ (sh_tl10 (sh_tl1 (sh_tl1 (sh_tl1 (sh_tl1 (sh_tl1 (sh_tl1 (sh_tl1 sh_hd))))))))))) (hf _ (by decide +kernel)) hA
/-- the law's entry: the two objects are made -/
theorem whole_from {Sim : sh_Mem → Prop} (hSG : ∀ μ, Sim μ → sh_G μ) (p0 : ∀ (μ : sh_Mem) (b1 b2 b3 b4 b5 : Int32), Sim μ → ∃ (v : Int32) (μ1 μ2 : sh_Mem), f_X11_feed b1 b2 b3 b4 b5 μ = some (v, μ1) ∧ f_X12_feed b1 b2 b3 b4 b5 μ1 = some (v, μ2) ∧ Sim μ2) (p1 : ∀ (μ : sh_Mem) (b1 : Int32), Sim μ → ∃ (v : Int32) (μ1 μ2 : sh_Mem), f_X11_end b1 μ = some (v, μ1) ∧ f_X12_end b1 μ1 = some (v, μ2) ∧ Sim μ2) (p2 : ∀ (μ : sh_Mem), Sim μ → ∃ (v : Int32) (μ1 μ2 : sh_Mem), f_X11_plain μ = some (v, μ1) ∧ f_X12_plain μ1 = some (v, μ2) ∧ Sim μ2) (p3 : ∀ (μ : sh_Mem) (b1 : Int32), Sim μ → ∃ (v : Int32) (μ1 μ2 : sh_Mem), f_X11_fault μ b1 = v ∧ μ1 = μ ∧ f_X12_fault μ1 b1 = v ∧ μ2 = μ1 ∧ Sim μ2) (p4 : ∀ (μ : sh_Mem) (b1 : Int32), Sim μ → ∃ (v : Int32) (μ1 μ2 : sh_Mem), f_X11_has b1 μ = some (v, μ1) ∧ f_X12_has b1 μ1 = some (v, μ2) ∧ Sim μ2) (p5 : ∀ (μ : sh_Mem) (b1 b2 b3 : Int32), Sim μ → ∃ (v : Int32) (μ1 μ2 : sh_Mem), f_X11_letter b1 b2 b3 μ = some (v, μ1) ∧ f_X12_letter b1 b2 b3 μ1 = some (v, μ2) ∧ Sim μ2) (p6 : ∀ (μ : sh_Mem) (b1 b2 : Int32), Sim μ → ∃ (v : Int32) (μ1 μ2 : sh_Mem), f_X11_height b1 b2 μ = some (v, μ1) ∧ f_X12_height b1 b2 μ1 = some (v, μ2) ∧ Sim μ2) (p7 : ∀ (μ : sh_Mem) (b1 b2 : Int32), Sim μ → ∃ (v : Int32) (μ1 μ2 : sh_Mem), f_X11_person b1 b2 μ = some (v, μ1) ∧ f_X12_person b1 b2 μ1 = some (v, μ2) ∧ Sim μ2) (p8 : ∀ (μ : sh_Mem) (b1 b2 : Int32), Sim μ → ∃ (v : Int32) (μ1 μ2 : sh_Mem), f_X11_list b1 b2 μ = some (v, μ1) ∧ f_X12_list b1 b2 μ1 = some (v, μ2) ∧ Sim μ2) (p9 : ∀ (μ : sh_Mem) (b1 b2 : Int32), Sim μ → ∃ (v : Int32) (μ1 μ2 : sh_Mem), f_X11_would b1 b2 μ = some (v, μ1) ∧ f_X12_would b1 b2 μ1 = some (v, μ2) ∧ Sim μ2) (p10 : ∀ (μ : sh_Mem) (b1 b2 : Int32), Sim μ → ∃ (v : Int32) (μ1 μ2 : sh_Mem), f_X11_kept b1 b2 μ = some (v, μ1) ∧ f_X12_kept b1 b2 μ1 = some (v, μ2) ∧ Sim μ2) (p11 : ∀ (μ : sh_Mem) (b1 b2 b3 : Int32), Sim μ → ∃ (v : Int32) (μ1 μ2 : sh_Mem), f_X11_later b1 b2 b3 μ = some (v, μ1) ∧ f_X12_later b1 b2 b3 μ1 = some (v, μ2) ∧ Sim μ2) (p12 : ∀ (μ : sh_Mem) (b1 b2 : Int32), Sim μ → ∃ (v : Int32) (μ1 μ2 : sh_Mem), f_X11_tired b1 b2 μ = some (v, μ1) ∧ f_X12_tired b1 b2 μ1 = some (v, μ2) ∧ Sim μ2) (p13 : ∀ (μ : sh_Mem) (b1 b2 b3 : Int32), Sim μ → ∃ (v : Int32) (μ1 μ2 : sh_Mem), f_X11_rises b1 b2 b3 μ = some (v, μ1) ∧ f_X12_rises b1 b2 b3 μ1 = some (v, μ2) ∧ Sim μ2) (p14 : ∀ (μ : sh_Mem) (b1 b2 b3 b4 : Int32), Sim μ → ∃ (v : Int32) (μ1 μ2 : sh_Mem), f_X11_plan b1 b2 b3 b4 μ = some (v, μ1) ∧ f_X12_plan b1 b2 b3 b4 μ1 = some (v, μ2) ∧ Sim μ2) (p15 : ∀ (μ : sh_Mem) (b1 b2 : Int32), Sim μ → ∃ (v : Int32) (μ1 μ2 : sh_Mem), f_X11_way b1 b2 μ = some (v, μ1) ∧ f_X12_way b1 b2 μ1 = some (v, μ2) ∧ Sim μ2) (p16 : ∀ (μ : sh_Mem) (b1 b2 : Int32), Sim μ → ∃ (v : Int32) (μ1 μ2 : sh_Mem), f_X11_pond b1 b2 μ = some (v, μ1) ∧ f_X12_pond b1 b2 μ1 = some (v, μ2) ∧ Sim μ2) (p17 : ∀ (μ : sh_Mem) (b1 b2 b3 : Int32), Sim μ → ∃ (v : Int32) (μ1 μ2 : sh_Mem), f_X11_keeps b1 b2 b3 μ = some (v, μ1) ∧ f_X12_keeps b1 b2 b3 μ1 = some (v, μ2) ∧ Sim μ2) (p18 : ∀ (μ : sh_Mem) (b1 : Int32), Sim μ → ∃ (v : Int32) (μ1 μ2 : sh_Mem), f_X11_rest b1 μ = some (v, μ1) ∧ f_X12_rest b1 μ1 = some (v, μ2) ∧ Sim μ2) (p19 : ∀ (μ : sh_Mem), Sim μ → ∃ (v : Int32) (μ1 μ2 : sh_Mem), f_X11_see μ = some (v, μ1) ∧ f_X12_see μ1 = some (v, μ2) ∧ Sim μ2) (p20 : ∀ (μ : sh_Mem) (b1 : Int32), Sim μ → ∃ (v : Int32) (μ1 μ2 : sh_Mem), f_X11_who b1 μ = some (v, μ1) ∧ f_X12_who b1 μ1 = some (v, μ2) ∧ Sim μ2) (p21 : ∀ (μ : sh_Mem) (b1 b2 : Int32), Sim μ → ∃ (v : Int32) (μ1 μ2 : sh_Mem), f_X11_tells b1 b2 μ = some (v, μ1) ∧ f_X12_tells b1 b2 μ1 = some (v, μ2) ∧ Sim μ2) (p22 : ∀ (μ : sh_Mem) (b1 b2 : Int32), Sim μ → ∃ (v : Int32) (μ1 μ2 : sh_Mem), f_X11_asks b1 b2 μ = some (v, μ1) ∧ f_X12_asks b1 b2 μ1 = some (v, μ2) ∧ Sim μ2) (p23 : ∀ (μ : sh_Mem) (b1 b2 b3 : Int32), Sim μ → ∃ (v : Int32) (μ1 μ2 : sh_Mem), f_X11_teach b1 b2 b3 μ = some (v, μ1) ∧ f_X12_teach b1 b2 b3 μ1 = some (v, μ2) ∧ Sim μ2) (p24 : ∀ (μ : sh_Mem) (b1 b2 b3 : Int32), Sim μ → ∃ (v : Int32) (μ1 μ2 : sh_Mem), f_X11_go b1 b2 b3 μ = some (v, μ1) ∧ f_X12_go b1 b2 b3 μ1 = some (v, μ2) ∧ Sim μ2) (p25 : ∀ (μ : sh_Mem) (b1 : Int32), Sim μ → ∃ (v : Int32) (μ1 μ2 : sh_Mem), f_X11_ease b1 μ = some (v, μ1) ∧ f_X12_ease b1 μ1 = some (v, μ2) ∧ Sim μ2) (p26 : ∀ (μ : sh_Mem) (b1 : Int32), Sim μ → ∃ (v : Int32) (μ1 μ2 : sh_Mem), f_X11_days b1 μ = some (v, μ1) ∧ f_X12_days b1 μ1 = some (v, μ2) ∧ Sim μ2) (p27 : ∀ (μ : sh_Mem) (b1 : Int32), Sim μ → ∃ (v : Int32) (μ1 μ2 : sh_Mem), f_X11_chance b1 μ = some (v, μ1) ∧ f_X12_chance b1 μ1 = some (v, μ2) ∧ Sim μ2) (p28 : ∀ (μ : sh_Mem), Sim μ → ∃ (v : Int32) (μ1 μ2 : sh_Mem), f_X11_undo μ = some (v, μ1) ∧ f_X12_undo μ1 = some (v, μ2) ∧ Sim μ2) (p29 : ∀ (μ : sh_Mem) (b1 : Int32), Sim μ → ∃ (v : Int32) (μ1 μ2 : sh_Mem), f_X11_seed b1 μ = some (v, μ1) ∧ f_X12_seed b1 μ1 = some (v, μ2) ∧ Sim μ2) (p30 : ∀ (μ : sh_Mem), Sim μ → ∃ (v : Int64) (μ1 μ2 : sh_Mem), f_X11_ask μ = some (v, μ1) ∧ f_X12_ask μ1 = some (v, μ2) ∧ Sim μ2) (p31 : ∀ (μ : sh_Mem), Sim μ → ∃ (v : Int32) (μ1 μ2 : sh_Mem), f_X11_image μ = some (v, μ1) ∧ f_X12_image μ1 = some (v, μ2) ∧ Sim μ2) (p32 : ∀ (μ : sh_Mem) (b1 : Int32), Sim μ → ∃ (v : Int32) (μ1 μ2 : sh_Mem), f_X11_octet b1 μ = some (v, μ1) ∧ f_X12_octet b1 μ1 = some (v, μ2) ∧ Sim μ2) (p33 : ∀ (μ : sh_Mem), Sim μ → ∃ (v : Int32) (μ1 μ2 : sh_Mem), f_X11_on μ = some (v, μ1) ∧ f_X12_on μ1 = some (v, μ2) ∧ Sim μ2) (p34 : ∀ (μ : sh_Mem) (b1 : Int32), Sim μ → ∃ (v : Int32) (μ1 μ2 : sh_Mem), f_X11_status b1 μ = some (v, μ1) ∧ f_X12_status b1 μ1 = some (v, μ2) ∧ Sim μ2) (h0 : Sim km_920) {p : Program} {e : Env} {s : State} {m : MethodId} {below : List Frame} {meth : Method} {c : Code} (l : Launch) {b L : Nat} {xs : Nat → Int32} (hL : L ≤ 3072) (C0 : lw_At p s m meth c b L xs) : W p l e room_1 s m #[Value.ref b] below meth c s.heap [] 0 0 (lw_Z below #[Value.ref b] s) (entryFrame m ([Value.ref b] : List Value).toArray 4) := by
  obtain ⟨hx, hb, hr, hml, hown, hts0, hX, hbl, hlocks, hgv⟩ := id C0
  obtain ⟨D, ca, hK⟩ := sh_K0 hts0
  have hE := sh_Env0 hts0 hgv
  have hts : ∀ w ∈ sh_tb, w.before #[Value.ref b] s = true := fun w hw => hts0 w (List.mem_filter.mp hw).1
  obtain ⟨B, hB⟩ : ∃ B : Nat, B = s.heap.size := ⟨_, rfl⟩
  rw [← hB] at hE
  have C : sh_LC B D ca b L xs p s m meth c := ⟨C0, hB, hK, hE⟩
  have hS : va_S (fun q => B ≤ q) s.heap s.heap [] := va_S.rf
  have hR : sh_Rep B D ca km_0 s.heap := ⟨by rw [hB]; rfl, fun k q h => by have h : ([] : va_W)[k]? = some q := h; simp at h⟩
  have hl := lv_entry ([.ref b]) (n := 4) (Nat.le_of_ble_eq_true rfl)
  rw [lg_entry_eq]
  generalize (lg_sl ([.ref b]) ++ List.replicate (4 - (lg_sl ([.ref b])).length) Slot.unset).toArray = ls at hl ⊢
  have hl : lv_has ls 4 [(0, .ref b)] := hl
  -- one object made
  have mk : ∀ {H : Heap} {locs : List Loc} {ls : Array Slot} {μ μ1 : sh_Mem} {cells slots mc' ms' d' : Nat} {M' : sh_M} {idx idx2 ci n pc : Nat}, sh_Rep B D ca μ H → va_S (fun q => B ≤ q) s.heap H locs → ls.size = 4 → decode code pc = .ok (.new idx, 3) → decode code (pc + 3) = .ok (.dup, 1) → decode code (pc + 4) = .ok (.invokespecial idx2, 3) → sh_NW "ShrugHillsLaw" idx ci → sh_CI "ShrugHillsLaw" idx2 M' 0 → (sh_lay μ).length = n → sh_Con l B D ca d' mc' ms' M' [.ref n] (sh_add μ (ci, 0)) (fun v μ' => v = none ∧ μ' = μ1) → d' ≤ 800 → 1 ≤ M'.2.2.1 ∧ M'.2.2.1 ≤ 81 → cells + 1 + mc' ≤ 600000 → slots + sh_n ci + ms' ≤ 7302249 →
      (∀ (H1 : Heap) (locs1 : List Loc), sh_Rep B D ca μ1 H1 → va_S (fun q => B ≤ q) s.heap H1 locs1 → W p l e room_1 s m #[Value.ref b] below meth c H1 locs1 (cells + 1 + mc') (slots + sh_n ci + ms') (lw_Z below #[Value.ref b] s) (F0 m (pc + 7) ls [.ref (B + n)])) → W p l e room_1 s m #[Value.ref b] below meth c H locs cells slots (lw_Z below #[Value.ref b] s) (F0 m pc ls []) := by
    intro H locs ls μ μ1 cells slots mc' ms' d' M' idx idx2 ci n pc hR hS hsz g0 g1 g2 hw hc hn hcon hd hm k1 k2 kk
    subst hn
    have hci := hw.1
    have hKn := hK.1 ci _ (sh_cl_at hci)
    refine W.newcK (R := room_1) hx hb hown (hts _ hw.2.1) (hts _ hw.2.2.1) (hts _ hw.2.2.2) (g := F0 m pc ls []) rfl g0 (by show cells + 1 ≤ 600000; omega) (by show slots + sh_n ci ≤ 7302249; omega) hKn.2.1 hR.1 fun H1 kC hkC e1 z1 o1 => ?_
    obtain ⟨hR', hS'⟩ := sh_push (q := (ci, 0)) (H1 := H1) hR hS (by
      rw [sh_ent_obj hci]
      refine ⟨_, sh_cl_at hci, ?_⟩
      refine (u_born (sh_ty ci) hts (sh_inu hci) hKn hkC e1 (sh_ty_at hci)).to fun j hj => ?_
      show defaultValue _ = vp_V _ j
      unfold vp_V
      rw [List.getD_eq_getElem?_getD, sh_flds_at hj]
      exact (sh_fv_new (sh_kinds hci j hj)).symm) (by rw [z1, hR.1]) (fun x hx => o1 x (by rw [← hR.1]; exact hx))
    refine lv_dup hx hb g1 rfl ?_
    obtain ⟨hM, h1, h2, h5, h6, h4⟩ := hc
    have hmet := sh_met hM (by show 1 ≤ _; exact hm.1) hcon
    have hpre : FrameBlind (va_Pc (([Value.ref (sh_lay μ).length] : List Value).map (sh_cv B)) (fun U => B ≤ U.heap.size ∧ sh_Rep B D ca (sh_add μ (ci, 0)) U.heap ∧ va_K D sh_cl (sh_tys ca) U ∧ sh_Env B U)) ∧ ∀ U : State, U.heap = H1 → s.WarmedH U.vm → va_Pc (([Value.ref (sh_lay μ).length] : List Value).map (sh_cv B)) (fun U => B ≤ U.heap.size ∧ sh_Rep B D ca (sh_add μ (ci, 0)) U.heap ∧ va_K D sh_cl (sh_tys ca) U ∧ sh_Env B U) (([Value.ref (sh_lay μ).length] : List Value).map (sh_cv B)).toArray U := by
      refine ⟨fun a U g mk q => ?_, fun U hU hW => ?_⟩
      · obtain ⟨h0, h1, h2, h3, h4⟩ := q
        exact ⟨h0, h1, h2, va_K.moved (u := U) (U := U.calling g mk a) (Vm.Alike.refl U.vm) h3, h4.call⟩
      · exact ⟨rfl, by rw [hU, hB]; exact hS'.1, by rw [hU]; exact hR', va_K.moved hW.alike hK, hE.moved hW (fun q h1 h2 => by rw [hU]; exact hS'.2.1 q h1 h2)⟩
    have hrun := va_runI (g := F0 m (pc + 3 + 1) ls [.ref (B + (sh_lay μ).length), .ref (B + (sh_lay μ).length)]) (As := []) (b := B + (sh_lay μ).length) (rest := [.ref (B + (sh_lay μ).length)]) (cells := cells + 1) (slots := slots + sh_n ci) (locs := locs) (e := e) (below := below) (meth := meth) (R := room_1) (Ts := sh_tb) (own := "ShrugHillsLaw") ⟨hx, hb, hml, hown, hts⟩ hmet
      (cwI (bytes := M'.2.1) (maxL := M'.2.2.1) 0 hts (sh_goodM hM) (by rw [← h6]; rfl) rfl rfl (hts _ hM.2.1) (hts _ h1) (hts _ h2) h5 ⟨hM.2.2.2.1, hM.2.2.2.2, h4⟩ ⟨by show d' + 1 ≤ 2048; omega, by show 8 + (M'.2.2.1 + 11) + 100 * d' ≤ 84000; have := hm.2; omega⟩) hpre rfl rfl hsz rfl (lv_room (Nat.le_of_ble_eq_true rfl)) g2 ⟨by show cells + 1 + mc' ≤ 600000; omega, by show slots + sh_n ci + ms' ≤ 7302249; omega⟩
    refine sh_after hrun hS' fun v μ' H' locs' hq hR2 hS2 => ?_
    have := kk H' locs' (by rw [← hq.2]; exact hR2) hS2
    rw [hq.1]
    exact this
  refine mk (n := 0) hR hS hl.1 dL_0 dL_3 dL_4 nwL_7 ckL_9 rfl (kc_54 (l := l) (B := B) (D := D) (ca := ca)) (by decide) (by decide) (by decide) (by decide) (fun H locs hR hS => ?_)
  refine lv_astore_n (lv' := [(1, .ref (B + 0)), (0, .ref b)]) hx hb dL_7 rfl hl (by decide) rfl (fun ls hl => ?_)
  refine mk (n := 291) hR hS hl.1 dL_8 dL_11 dL_12 nwL_10 ckL_12 (by decide +kernel) (kc_55 (l := l) (B := B) (D := D) (ca := ca)) (by decide) (by decide) (by decide) (by decide) (fun H locs hR hS => ?_)
  refine lv_astore_n (lv' := [(2, .ref (B + 291)), (1, .ref (B + 0)), (0, .ref b)]) hx hb dL_15 rfl hl (by decide) rfl (fun ls hl => ?_)
  refine lv_iconst (v := 0) hx hb dL_16 (by decide) ?_
  refine lv_istore_n (lv' := sh_Ul B b 0) hx hb dL_17 rfl hl (by decide) rfl (fun ls hl => ?_)
  exact law_loop hSG p0 p1 p2 p3 p4 p5 p6 p7 p8 p9 p10 p11 p12 p13 p14 p15 p16 p17 p18 p19 p20 p21 p22 p23 p24 p25 p26 p27 p28 p29 p30 p31 p32 p33 p34 hL L 0 rfl (Nat.zero_le L) km_920 h0 p e s m below meth c H locs ls C hR hS hl
