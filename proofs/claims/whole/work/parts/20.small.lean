section
variable {l : Launch} {B : Nat} {D : va_G} {ca : Nat → ClassId} {μ : sh_Mem}

theorem c_X12_topicMany (hG : sh_G μ) : sh_C0 l B D ca 1 M_X12_topicMany [.ref 291] μ (fun v μ' => v = some (.int (sh_i μ 322 3)) ∧ μ' = μ) := by
  refine vv_aload_n 0 0 dX12_topicMany_0 rfl rfl ?_
  refine vv_getR 1 dX12_topicMany_1 fl_12_105 rfl (g_l_291 hG) (g_r_291_40 hG) ?_
  refine vv_iconst 4 dX12_topicMany_4 ik_3 ?_
  refine vv_iald 5 dX12_topicMany_5 (g_l_322 hG) (by unfold vp_in; decide) ?_
  refine vv_iret 6 dX12_topicMany_6 rfl (Nat.le_refl _) (Nat.le_refl _) ⟨rfl, rfl⟩
theorem c_X12_personMany (hG : sh_G μ) : sh_C0 l B D ca 1 M_X12_personMany [.ref 291] μ (fun v μ' => v = some (.int (sh_i μ 322 4)) ∧ μ' = μ) := by
  refine vv_aload_n 0 0 dX12_personMany_0 rfl rfl ?_
  refine vv_getR 1 dX12_personMany_1 fl_12_105 rfl (g_l_291 hG) (g_r_291_40 hG) ?_
  refine vv_iconst 4 dX12_personMany_4 ik_4 ?_
  refine vv_iald 5 dX12_personMany_5 (g_l_322 hG) (by unfold vp_in; decide) ?_
  refine vv_iret 6 dX12_personMany_6 rfl (Nat.le_refl _) (Nat.le_refl _) ⟨rfl, rfl⟩
theorem c_X12_listMany (hG : sh_G μ) : sh_C0 l B D ca 1 M_X12_listMany [.ref 291] μ (fun v μ' => v = some (.int (sh_i μ 322 5)) ∧ μ' = μ) := by
  refine vv_aload_n 0 0 dX12_listMany_0 rfl rfl ?_
  refine vv_getR 1 dX12_listMany_1 fl_12_105 rfl (g_l_291 hG) (g_r_291_40 hG) ?_
  refine vv_iconst 4 dX12_listMany_4 ik_5 ?_
  refine vv_iald 5 dX12_listMany_5 (g_l_322 hG) (by unfold vp_in; decide) ?_
  refine vv_iret 6 dX12_listMany_6 rfl (Nat.le_refl _) (Nat.le_refl _) ⟨rfl, rfl⟩
theorem c_X11_refuse (hG : sh_G μ) {k : Int32} (hk : vp_in k 6) : sh_C0 l B D ca 1 M_X11_refuse [.ref 0, .int k] μ (fun v μ' => v = some (.int 0) ∧ μ' = sh_setI μ 290 k.toNatClampNeg (sh_i μ 290 k.toNatClampNeg + 1)) := by
  refine vv_aload_n 0 0 dX11_refuse_0 rfl rfl ?_
  refine vv_getR 1 dX11_refuse_1 fl_11_114 rfl (g_l_0 hG) (g_r_0_19 hG) ?_
  refine vv_iload_n 4 1 dX11_refuse_4 rfl rfl ?_
  refine vv_dup2_ri 5 dX11_refuse_5 ?_
  refine vv_iald 6 dX11_refuse_6 (g_l_290 hG) hk ?_
  refine vv_iconst 7 dX11_refuse_7 ik_1 ?_
  refine vv_iadd 8 dX11_refuse_8 ?_
  refine vv_iast 9 dX11_refuse_9 (g_l_290 hG) hk ?_
  refine vv_iconst 10 dX11_refuse_10 ik_0 ?_
  refine vv_zret 11 dX11_refuse_11 rfl rfl (Nat.le_refl _) (Nat.le_refl _) ⟨rfl, rfl⟩
theorem c_X11_refuseNumber (hG : sh_G μ) {k : Int32} (hk : vp_in k 6) : sh_C0 l B D ca 1 M_X11_refuseNumber [.ref 0, .int k] μ (fun v μ' => v = some (.int (-1)) ∧ μ' = sh_setI μ 290 k.toNatClampNeg (sh_i μ 290 k.toNatClampNeg + 1)) := by
  refine vv_aload_n 0 0 dX11_refuseNumber_0 rfl rfl ?_
  refine vv_getR 1 dX11_refuseNumber_1 fl_11_114 rfl (g_l_0 hG) (g_r_0_19 hG) ?_
  refine vv_iload_n 4 1 dX11_refuseNumber_4 rfl rfl ?_
  refine vv_dup2_ri 5 dX11_refuseNumber_5 ?_
  refine vv_iald 6 dX11_refuseNumber_6 (g_l_290 hG) hk ?_
  refine vv_iconst 7 dX11_refuseNumber_7 ik_1 ?_
  refine vv_iadd 8 dX11_refuseNumber_8 ?_
  refine vv_iast 9 dX11_refuseNumber_9 (g_l_290 hG) hk ?_
  refine vv_iconst 10 dX11_refuseNumber_10 ik_m1 ?_
  refine vv_iret 11 dX11_refuseNumber_11 rfl (Nat.le_refl _) (Nat.le_refl _) ⟨rfl, rfl⟩
theorem c_X12_refuses (hG : sh_G μ) {k : Int32} (hk : vp_in k 6) : sh_C0 l B D ca 1 M_X12_refuses [.ref 291, .int k] μ (fun v μ' => v = some (.int (-1)) ∧ μ' = sh_setI μ 293 k.toNatClampNeg (sh_i μ 293 k.toNatClampNeg + 1)) := by
  refine vv_aload_n 0 0 dX12_refuses_0 rfl rfl ?_
  refine vv_getR 1 dX12_refuses_1 fl_12_17 rfl (g_l_291 hG) (g_r_291_9 hG) ?_
  refine vv_iload_n 4 1 dX12_refuses_4 rfl rfl ?_
  refine vv_dup2_ri 5 dX12_refuses_5 ?_
  refine vv_iald 6 dX12_refuses_6 (g_l_293 hG) hk ?_
  refine vv_iconst 7 dX12_refuses_7 ik_1 ?_
  refine vv_iadd 8 dX12_refuses_8 ?_
  refine vv_iast 9 dX12_refuses_9 (g_l_293 hG) hk ?_
  refine vv_iconst 10 dX12_refuses_10 ik_m1 ?_
  refine vv_iret 11 dX12_refuses_11 rfl (Nat.le_refl _) (Nat.le_refl _) ⟨rfl, rfl⟩
theorem c_X12_isRefused (hG : sh_G μ) : sh_C0 l B D ca 1 M_X12_isRefused [.ref 291] μ (fun v μ' => v = some (.int 0) ∧ μ' = sh_setI μ 293 2 (sh_i μ 293 2 + 1)) := by
  refine vv_aload_n 0 0 dX12_isRefused_0 rfl rfl ?_
  refine vv_getR 1 dX12_isRefused_1 fl_12_17 rfl (g_l_291 hG) (g_r_291_9 hG) ?_
  refine vv_iconst 4 dX12_isRefused_4 ik_2 ?_
  refine vv_dup2_ri 5 dX12_isRefused_5 ?_
  refine vv_iald 6 dX12_isRefused_6 (g_l_293 hG) (by unfold vp_in; decide) ?_
  refine vv_iconst 7 dX12_isRefused_7 ik_1 ?_
  refine vv_iadd 8 dX12_isRefused_8 ?_
  refine vv_iast 9 dX12_isRefused_9 (g_l_293 hG) (by unfold vp_in; decide) ?_
  refine vv_iconst 10 dX12_isRefused_10 ik_0 ?_
  refine vv_zret 11 dX12_isRefused_11 rfl rfl (Nat.le_refl _) (Nat.le_refl _) ⟨rfl, rfl⟩
/-- whether one of the first n people of the land r is at column a, row b -/
def sh_some (μ : sh_Mem) (r n : Nat) (a b : Int32) : Prop := ∃ j, j < n ∧ sh_i μ (r + 2) j = a ∧ sh_i μ (r + 3) j = b
theorem c_X3_isSomeoneAt (hG : sh_G μ) {r : Nat} (hr : sh_isL r) {a b : Int32} {n : Nat} (hn : n ≤ 7) : sh_C0 l B D ca 1 M_X3_isSomeoneAt [.ref r, .int a, .int b, .int (nI n)] μ (fun v μ' => ((v = some (.int 1) ∧ sh_some μ r n a b) ∨ (v = some (.int 0) ∧ ¬ sh_some μ r n a b)) ∧ μ' = μ) := by
  refine vv_iconst 0 dX3_isSomeoneAt_0 ik_0 ?_
  refine vv_istore (lv' := [(4, _), (0, _), (1, _), (2, _), (3, _)]) 1 4 dX3_isSomeoneAt_1 (by decide) rfl ?_
  have loop : ∀ k i : Nat, n - i = k → i ≤ n → (∀ j, j < i → ¬ (sh_i μ (r + 2) j = a ∧ sh_i μ (r + 3) j = b)) → sh_V0 l B D ca 1 M_X3_isSomeoneAt 3 [(4, .int (nI i)), (0, .ref r), (1, .int a), (2, .int b), (3, .int (nI n))] [] μ (fun v μ' => ((v = some (.int 1) ∧ sh_some μ r n a b) ∨ (v = some (.int 0) ∧ ¬ sh_some μ r n a b)) ∧ μ' = μ) := by
    refine sh_ind ?_
    intro k ih i hk hi hno
    refine vv_iload 3 4 dX3_isSomeoneAt_3 rfl ?_
    refine vv_iload_n 5 3 dX3_isSomeoneAt_5 rfl rfl ?_
    refine vv_icmp_ge 6 46 dX3_isSomeoneAt_6 (by decide) (fun hc => ?_) (fun hc => ?_)
    · refine vv_iconst 46 dX3_isSomeoneAt_46 ik_0 ?_
      have h1 : n ≤ i := nI_le' hc (by omega) (by omega)
      refine vv_zret 47 dX3_isSomeoneAt_47 rfl rfl (Nat.le_refl _) (Nat.le_refl _) ⟨Or.inr ⟨rfl, fun ⟨j, h2, h3⟩ => hno j (by omega) h3⟩, rfl⟩
    · have h1 : i < n := Nat.lt_of_not_le (fun h => hc ((nI_leI (by omega) (by omega)).mpr h))
      refine vv_iload 9 4 dX3_isSomeoneAt_9 rfl ?_
      refine vv_bipush 11 dX3_isSomeoneAt_11 bk_7 ?_
      refine vv_icmp_ge 13 46 dX3_isSomeoneAt_13 (by decide) (fun hc => absurd (nI_le' (b := i) (a := 7) hc (by omega) (by omega)) (by omega)) (fun hc => ?_)
      refine vv_aload_n 16 0 dX3_isSomeoneAt_16 rfl rfl ?_
      refine vv_getR 17 dX3_isSomeoneAt_17 fl_3_15 rfl (gL_l hG hr) (gL_r2 hG hr) ?_
      refine vv_iload 20 4 dX3_isSomeoneAt_20 rfl ?_
      refine vv_iald 22 dX3_isSomeoneAt_22 (gL_a2 hG hr) (vp_in_nI (by omega) (by omega)) ?_
      refine vv_iload_n 23 1 dX3_isSomeoneAt_23 rfl rfl ?_
      refine vv_icmp_ne 24 40 dX3_isSomeoneAt_24 (by decide) (fun hx => ?_) (fun hx => ?_)
      · refine vv_iincc (lv' := [(4, _), (0, _), (1, _), (2, _), (3, _)]) 40 4 dX3_isSomeoneAt_40 rfl ik_1 (by decide) rfl ?_
        refine vv_goto 43 3 dX3_isSomeoneAt_43 (by decide) ?_
        rw [nI_1]
        exact ih (n - (i + 1)) (by omega) (i + 1) rfl (by omega) (fun j hj h3 => by
          rcases Nat.lt_succ_iff_lt_or_eq.mp hj with h | h
          · exact hno j h h3
          · subst h
            rw [nI_clamp (by omega)] at hx
            exact hx h3.1)
      · refine vv_aload_n 27 0 dX3_isSomeoneAt_27 rfl rfl ?_
        refine vv_getR 28 dX3_isSomeoneAt_28 fl_3_18 rfl (gL_l hG hr) (gL_r3 hG hr) ?_
        refine vv_iload 31 4 dX3_isSomeoneAt_31 rfl ?_
        refine vv_iald 33 dX3_isSomeoneAt_33 (gL_a3 hG hr) (vp_in_nI (by omega) (by omega)) ?_
        refine vv_iload_n 34 2 dX3_isSomeoneAt_34 rfl rfl ?_
        refine vv_icmp_ne 35 40 dX3_isSomeoneAt_35 (by decide) (fun hy => ?_) (fun hy => ?_)
        · refine vv_iincc (lv' := [(4, _), (0, _), (1, _), (2, _), (3, _)]) 40 4 dX3_isSomeoneAt_40 rfl ik_1 (by decide) rfl ?_
          refine vv_goto 43 3 dX3_isSomeoneAt_43 (by decide) ?_
          rw [nI_1]
          exact ih (n - (i + 1)) (by omega) (i + 1) rfl (by omega) (fun j hj h3 => by
            rcases Nat.lt_succ_iff_lt_or_eq.mp hj with h | h
            · exact hno j h h3
            · subst h
              rw [nI_clamp (by omega)] at hy
              exact hy h3.2)
        · refine vv_iconst 38 dX3_isSomeoneAt_38 ik_1 ?_
          rw [nI_clamp (by omega)] at hx hy
          refine vv_zret 39 dX3_isSomeoneAt_39 rfl rfl (Nat.le_refl _) (Nat.le_refl _) ⟨Or.inl ⟨rfl, i, h1, hx, hy⟩, rfl⟩
  exact loop n 0 rfl (Nat.zero_le _) (fun j hj => absurd hj (Nat.not_lt_zero j))
end

