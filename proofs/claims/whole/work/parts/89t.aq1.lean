/-! ASK: how far each would lift, in the reference -/
section Aq1
variable {μ1 : sh_Mem} {P : sp_T} {L : sl_T}
def liI (μ1 m μ0 : sh_Mem) : Prop := thk μ0 m ∧ sh_fr (fun r _ => r = 332) μ1 μ0 ∧ sh_i m 330 = sh_i μ1 330 ∧ sh_i m 291 60 = zI 0
theorem liI.pl {m μ0 : sh_Mem} (h : liI μ1 m μ0) (hM : sm_mP μ1 P) : sm_mP m P := hM.f3 (fun r k z => (h.1.1.i r k (by unfold rN6 rN5; omega)).trans (h.2.1.i r k (by omega))) ((h.1.1.lrow 323 (fun k => by unfold rN6 rN5; omega)).trans (h.2.1.lrow 323 (fun k => by omega)))
theorem rf_li2 {p : Nat} {K : kS} (hk : sp_ok P) (hl : sl_in P L) (hd : sl_d L ≤ 999) (hM : sm_mP μ1 P) (hm : sm_mL (sh_i μ1 330) 0 P L) (hK : mkp μ1 K) (hp : p < sp_np P) : ∀ (g f q : Nat) (m μ0 : sh_Mem), q + g = sp_nt P → g + 1 < f → liI μ1 m μ0 → (∀ p' q', q' < sp_nt P → (p' < p ∨ (p' = p ∧ q' < q)) → sh_i m 332 (5 * p' + q') = zI (aM P L p' q' : Nat)) → ∃ (f' : Nat) (m' μ0' : sh_Mem), F_X12_laysLifted f 2 (zI p) (zI q) m = F_X12_laysLifted f' 1 (zI ((p + 1 : Nat) : Int)) 0 m' ∧ f ≤ f' + g + 1 ∧ liI μ1 m' μ0' ∧ (∀ p' q', q' < sp_nt P → p' < p + 1 → sh_i m' 332 (5 * p' + q') = zI (aM P L p' q' : Nat)) := by
  have hb := sp_bd hk
  have hnp : sp_np P ≤ 7 := hb.2.2.2.1
  have hnt : sp_nt P ≤ 5 := hb.2.2.1
  intro g
  induction g with
  | zero =>
    intro f q m μ0 hq hf hI hE
    obtain ⟨f, rfl⟩ : ∃ f', f = f' + 1 := ⟨f - 1, by omega⟩
    refine ⟨f, m, μ0, ?_, by omega, hI, fun p' q' h1 h2 => hE p' q' h1 (by omega)⟩
    rw [F_X12_laysLifted, rf_topicMany (hI.pl hM), shb_ap, if_pos (zI_yes (by omega) (by omega)), zI_s1]
  | succ g ih =>
    intro f q m μ0 hq hf hI hE
    obtain ⟨f, rfl⟩ : ∃ f', f = f' + 1 := ⟨f - 1, by omega⟩
    have hMm := hI.pl hM
    obtain ⟨i1, i2, i3, i4⟩ := id hI
    obtain ⟨m1, a1, a2, a3, -, a5, a6, a7⟩ := rf_asked (L := L) (s := 0) (n0 := K.1) (p := p) (q := q) hMm (by rw [i3]; exact hm) hk hl (by omega) hp (by omega) (by omega) i4 (by rw [Nat.zero_div]) hK.1 (by rw [i3]; exact hK.2.1)
    have T1 : thk μ0 m1 := i1.st a5 (fun k hk2 => by
      by_cases c : wd P L p q = 2
      · exact (a6 c).1 i1.n0 k hk2
      · rw [a7 c])
    obtain ⟨m2, hm2⟩ : ∃ m', m' = sh_setI m1 332 (5 * p + q) (zI (aM P L p q : Nat)) := ⟨_, rfl⟩
    have f2 : sh_fr (fun r _ => r = 332) m1 m2 := by rw [hm2]; exact sh_fr_I sh_fr.rf rfl
    obtain ⟨μ0', T2, g0, g1⟩ := T1.off f2 (by omega)
    obtain ⟨m3, b1, b2, b3, b4⟩ := rf_anew T2
    have I3 : liI μ1 m3 μ0' := ⟨b2, i2.trans g0, by rw [b3, g1, i2.row 330 (fun k => by omega)], by rw [b4.i _ _ (by omega), f2.i _ _ (by omega), a5.i _ _ (by unfold rN5; omega)]; exact i4⟩
    obtain ⟨f', m4, μ0'', c1, c2, c3, c4⟩ := ih f (q + 1) m3 μ0' (by omega) (by omega) I3 (fun p' q' h1 h2 => by
      rw [b4.i _ _ (by omega), hm2]
      by_cases e : p' = p ∧ q' = q
      · rw [e.1, e.2, ir_set]
      · rw [ir_set_k (by omega), a5.i _ _ (by unfold rN5; omega)]
        exact hE p' q' h1 (by omega))
    refine ⟨f', m4, μ0'', ?_, by omega, c3, c4⟩
    have e5 : 5 * zI (p : Int) + zI (q : Int) = zI ((5 * p + q : Nat) : Int) := by
      rw [show (5 : Int32) = zI 5 from rfl, zI_mul, zI_add]
      rfl
    rw [F_X12_laysLifted, rf_topicMany hMm, shb_ap, if_neg (zI_not (by omega) (by omega)), a1, shb_ap, e5, if_pos ((zI_in (by omega)).mpr (by omega)), tcN (by omega), a3, ← hm2, shl_ap, b1, shv_ap, zI_s1]
    exact c1
theorem rf_li1 {K : kS} (hk : sp_ok P) (hl : sl_in P L) (hd : sl_d L ≤ 999) (hM : sm_mP μ1 P) (hm : sm_mL (sh_i μ1 330) 0 P L) (hK : mkp μ1 K) : ∀ (g f p : Nat) (m μ0 : sh_Mem), p + g = sp_np P → 10 * g + 2 < f → liI μ1 m μ0 → (∀ p' q', q' < sp_nt P → p' < p → sh_i m 332 (5 * p' + q') = zI (aM P L p' q' : Nat)) → ∃ m', F_X12_laysLifted f 1 (zI p) 0 m = some m' ∧ sh_i m' 330 = sh_i μ1 330 ∧ sh_i m' 291 57 = 0 ∧ sh_i m' 291 60 = 0 ∧ sh_fr (fun r k => rN6 r k ∨ r = 332) μ1 m' ∧ (∀ p' q', q' < sp_nt P → p' < sp_np P → sh_i m' 332 (5 * p' + q') = zI (aM P L p' q' : Nat)) := by
  have hb := sp_bd hk
  have hnp : sp_np P ≤ 7 := hb.2.2.2.1
  have hnt : sp_nt P ≤ 5 := hb.2.2.1
  intro g
  induction g with
  | zero =>
    intro f p m μ0 hp hf hI hE
    obtain ⟨f, rfl⟩ : ∃ f', f = f' + 1 := ⟨f - 1, by omega⟩
    obtain ⟨m', a1, a2, a3, a4, a5, a6⟩ := rf_back hI.1
    refine ⟨m', ?_, by rw [a2, hI.2.1.row 330 (fun k => by omega)], a3, a4, (hI.2.1.mono (fun r k z => Or.inr z)).trans (a5.mono (fun r k z => Or.inl z)), fun p' q' h1 h2 => by rw [a6.i _ _ (by omega)]; exact hE p' q' h1 (by omega)⟩
    rw [F_X12_laysLifted, rf_personMany (hI.pl hM), shb_ap, if_pos (zI_yes (by omega) (by omega)), a1, shv_ap]
  | succ g ih =>
    intro f p m μ0 hp hf hI hE
    obtain ⟨f, rfl⟩ : ∃ f', f = f' + 1 := ⟨f - 1, by omega⟩
    obtain ⟨f', m1, μ0', a1, a2, a3, a4⟩ := rf_li2 (p := p) hk hl hd hM hm hK (by omega) (sp_nt P) f 0 m μ0 (by omega) (by omega) hI (fun p' q' h1 h2 => hE p' q' h1 (by omega))
    obtain ⟨m2, b1, b2⟩ := ih f' (p + 1) m1 μ0' (by omega) (by omega) a3 a4
    refine ⟨m2, ?_, b2⟩
    rw [F_X12_laysLifted, rf_personMany (hI.pl hM), shb_ap, if_neg (zI_not (by omega) (by omega))]
    exact Eq.trans a1 b1
theorem rf_lays {K : kS} (hk : sp_ok P) (hl : sl_in P L) (hd : sl_d L ≤ 999) (hM : sm_mP μ1 P) (hm : sm_mL (sh_i μ1 330) 0 P L) (hK : mkp μ1 K) (h60 : sh_i μ1 291 60 = 0) : ∃ m', f_X12_laysLifted μ1 = some m' ∧ sh_i m' 330 = sh_i μ1 330 ∧ sh_i m' 291 57 = 0 ∧ sh_i m' 291 60 = 0 ∧ sh_fr (fun r k => rN6 r k ∨ r = 332) μ1 m' ∧ (∀ p' q', q' < sp_nt P → p' < sp_np P → sh_i m' 332 (5 * p' + q') = zI (aM P L p' q' : Nat)) := by
  have hb := sp_bd hk
  have hnp : sp_np P ≤ 7 := hb.2.2.2.1
  obtain ⟨m, a1, a2, a3, a4, a5⟩ := rf_aside (μ := μ1)
  obtain ⟨m', b1, b2⟩ := rf_li1 hk hl hd hM hm hK (sp_np P) sh_fuel 0 m μ1 (by omega) (by rw [sh_fuel_eq]; omega) ⟨a2, sh_fr.rf, a3, by rw [a4, h60]; rfl⟩ (fun p' q' h1 h2 => absurd h2 (Nat.not_lt_zero _))
  refine ⟨m', ?_, b2⟩
  unfold f_X12_laysLifted
  rw [a1, shv_ap]
  exact b1
end Aq1
