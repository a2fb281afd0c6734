/-! ASK: the class's answer, joined -/
section Aq5
variable {μ : sh_Mem} {P : sp_T} {L : sl_T} {t p : Nat}
/-- what one knows, what he would lift: of a number -/
theorem cl_ofQ {a : Int} {b : Bool} (hk : sp_ok P) (hl : sl_in P L) (hp : p < sp_np P) (ha : ein a) (h7 : sh_i μ 28 7 = zI (sl_k L p : Nat)) (h33 : ∀ q', q' < 5 → sh_i μ 28 (33 + q') = zI (wQ P L p b (q' : Nat))) : f_X1_ofOne (zI 7) (zL a) 28 μ = some (zL (kQ P L p a), μ) ∧ f_X1_ofOne (zI 10) (zL a) 28 μ = some (zL (wQ P L p b a), μ) := by
  have hb := sp_bd hk
  have hnt : sp_nt P ≤ 5 := hb.2.2.1
  have b7 := sl_k32 hk hl hp
  have hk4 := (hl.2 p hp).2.2.2
  have ha' := ha
  unfold ein at ha'
  have l1 : (lg_cmp (zL a) 0 < 0) = (a < 0) := lg_lt0 (a := a) (b := 0) (by omega)
  have l2 : (lg_cmp (zL a) 5 < 0) = (a < 5) := lg_lt0 (a := a) (b := 5) (by omega)
  have st : ∀ w : Int32, ¬ w = 23 → f_X1_ofOne w (zL a) 28 μ = (if a < 0 then some (0, μ) else (if a < 5 then sh_let ((zL a).toInt32 : Int32) (fun x4 => (if w = 7 then some (((((sh_i μ 28 (Int32.toNatClampNeg 7)) >>> (x4 &&& 31)) &&& 1)).toInt64, μ) else (if sh_in (33 + x4) 38 then some (((sh_i μ 28 ((33 + x4)).toNatClampNeg)).toInt64, μ) else none))) else some (0, μ))) := fun w hw => by
    unfold f_X1_ofOne
    rw [if_neg hw]
    by_cases c1 : a < 0
    · rw [if_pos c1, if_pos (show lg_cmp (zL a) 0 < 0 by rw [l1]; exact c1)]
    · rw [if_neg c1, if_neg (show ¬ lg_cmp (zL a) 0 < 0 by rw [l1]; exact c1)]
      by_cases c2 : a < 5
      · rw [if_pos c2, if_pos (show lg_cmp (zL a) 5 < 0 by rw [l2]; exact c2)]
      · rw [if_neg c2, if_neg (show ¬ lg_cmp (zL a) 5 < 0 by rw [l2]; exact c2)]
  rw [st (zI 7) (by decide), st (zI 10) (by decide)]
  by_cases c1 : a < 0
  · rw [if_pos c1, if_pos c1]
    unfold kQ wQ
    rw [if_neg (by omega), if_neg (fun z => by omega)]
    exact ⟨rfl, rfl⟩
  rw [if_neg c1, if_neg c1]
  by_cases c2 : a < 5
  rotate_left
  · rw [if_neg c2, if_neg c2]
    unfold kQ wQ
    rw [if_neg (by omega), if_neg (fun z => by omega)]
    exact ⟨rfl, rfl⟩
  rw [if_pos c2, if_pos c2, shl_ap, shl_ap, if_pos (show zI 7 = 7 from rfl), if_neg (show ¬ zI 10 = 7 by decide)]
  obtain ⟨q, hq⟩ : ∃ q : Nat, a = (q : Int) := ⟨a.toNat, by omega⟩
  subst hq
  have hq5 : q < 5 := by omega
  have e33 : 33 + zI (q : Int) = zI ((33 + q : Nat) : Int) := by
    rw [show (33 : Int32) = zI 33 from rfl, zI_add]
    rfl
  have hwb := wQ_in (P := P) (L := L) (p := p) (b := b) (q : Nat)
  unfold ein at hwb
  have h7' : sh_i μ 28 (Int32.toNatClampNeg 7) = zI (sl_k L p : Nat) := h7
  constructor
  · rw [h7', zL_i, bitL _ (by omega) q hq5, zI_l (by have := Nat.mod_lt (sl_k L p / 2 ^ q) (show 0 < 2 by omega); omega) (by have := Nat.mod_lt (sl_k L p / 2 ^ q) (show 0 < 2 by omega); omega)]
    unfold kQ
    by_cases c : q < sp_nt P
    · rw [if_pos (by omega), Int.toNat_natCast]
    · rw [if_neg (by omega)]
      have hp2 : 2 ^ sp_nt P ≤ 2 ^ q := Nat.pow_le_pow_right (by omega) (by omega)
      rw [Nat.div_eq_of_lt (by omega)]
      rfl
  · rw [zL_i, e33, if_pos ((zI_in (by omega)).mpr (by omega)), tcN (by omega), h33 q hq5, zI_l (by omega) (by omega)]
theorem cl_joined {w : Nat} {res v : Int} (hw : 27 ≤ w ∧ w ≤ 32) (hp : p < 7) (hr : -100000000 ≤ res ∧ res ≤ 100000000) (hv : ein v) : f_X11_joined (zI w) (zL res) (zI p) (zL v) μ = some (zL (jn w res p v), μ) := by
  unfold ein at hv
  have v0 : (lg_cmp (zL v) 0 = 0) = (v = 0) := lg_eq0 (a := v) (b := 0) (by omega)
  have neg : (lg_cmp (zL res) (-1) = 0) = (res = -1) := by
    rw [show (-1 : Int64) = -(1 : Int64) from rfl, show (1 : Int64) = zL 1 from rfl, zL_neg]
    exact lg_eq0 (a := res) (b := -1) (by omega)
  have le : (lg_cmp (zL v) (zL res) ≤ 0) = (v ≤ res) := lg_le0 (by omega)
  have ge : ((0 : Int32) ≤ lg_cmp (zL v) (zL res)) = (res ≤ v) := lg_ge0 (by omega)
  have pl : (zI (p : Int)).toInt64 = zL (p : Int) := zI_l (by omega) (by omega)
  have p0 : (zI (p : Int) = 0) = (p = 0) := by
    apply propext
    constructor
    · intro z
      have := (zI_eq (b := 0) (by omega) (by omega) (by omega) (by omega)).mp z
      omega
    · intro z
      rw [z]
      rfl
  unfold f_X11_joined jn
  have c : w = 27 ∨ w = 28 ∨ w = 29 ∨ w = 30 ∨ w = 31 ∨ w = 32 := by omega
  rcases c with rfl | rfl | rfl | rfl | rfl | rfl
  · rw [if_pos (show zI ((27 : Nat) : Int) = 27 from rfl), if_pos rfl, pl]
    by_cases c1 : res = -1
    · rw [if_pos (show lg_cmp (zL res) (-1) = 0 by rw [neg]; exact c1)]
      by_cases c2 : v = 0
      · rw [if_pos (show lg_cmp (zL v) 0 = 0 by rw [v0]; exact c2), if_neg (fun z => z.2 c2)]
      · rw [if_neg (show ¬ lg_cmp (zL v) 0 = 0 by rw [v0]; exact c2), if_pos ⟨c1, c2⟩]
    · rw [if_neg (show ¬ lg_cmp (zL res) (-1) = 0 by rw [neg]; exact c1), if_neg (fun z => c1 z.1)]
  · rw [if_neg (show ¬ zI ((28 : Nat) : Int) = 27 by decide), if_pos (show zI ((28 : Nat) : Int) = 28 from rfl), if_neg (show ¬ (28 : Nat) = 27 by decide), if_pos rfl, pl]
    by_cases c2 : v = 0
    · rw [if_pos (show lg_cmp (zL v) 0 = 0 by rw [v0]; exact c2), if_neg (fun z => z c2)]
    · rw [if_neg (show ¬ lg_cmp (zL v) 0 = 0 by rw [v0]; exact c2), if_pos c2]
  · rw [if_neg (show ¬ zI ((29 : Nat) : Int) = 27 by decide), if_neg (show ¬ zI ((29 : Nat) : Int) = 28 by decide), if_pos (show zI ((29 : Nat) : Int) = 29 from rfl), if_neg (show ¬ (29 : Nat) = 27 by decide), if_neg (show ¬ (29 : Nat) = 28 by decide), if_pos rfl]
    by_cases c2 : v = 0
    · rw [if_pos (show lg_cmp (zL v) 0 = 0 by rw [v0]; exact c2), if_neg (fun z => z c2)]
    · rw [if_neg (show ¬ lg_cmp (zL v) 0 = 0 by rw [v0]; exact c2), if_pos c2, show (1 : Int64) = zL 1 from rfl, zL_add]
  · rw [if_neg (show ¬ zI ((30 : Nat) : Int) = 27 by decide), if_neg (show ¬ zI ((30 : Nat) : Int) = 28 by decide), if_neg (show ¬ zI ((30 : Nat) : Int) = 29 by decide), if_pos (show zI ((30 : Nat) : Int) = 30 from rfl), if_neg (show ¬ (30 : Nat) = 27 by decide), if_neg (show ¬ (30 : Nat) = 28 by decide), if_neg (show ¬ (30 : Nat) = 29 by decide), if_pos rfl, zL_add]
  · rw [if_neg (show ¬ zI ((31 : Nat) : Int) = 27 by decide), if_neg (show ¬ zI ((31 : Nat) : Int) = 28 by decide), if_neg (show ¬ zI ((31 : Nat) : Int) = 29 by decide), if_neg (show ¬ zI ((31 : Nat) : Int) = 30 by decide), if_pos (show zI ((31 : Nat) : Int) = 31 from rfl), if_neg (show ¬ (31 : Nat) = 27 by decide), if_neg (show ¬ (31 : Nat) = 28 by decide), if_neg (show ¬ (31 : Nat) = 29 by decide), if_neg (show ¬ (31 : Nat) = 30 by decide), if_pos rfl]
    by_cases c0 : p = 0
    · rw [if_pos (show zI (p : Int) = 0 by rw [p0]; exact c0), if_pos (Or.inl c0)]
    · rw [if_neg (show ¬ zI (p : Int) = 0 by rw [p0]; exact c0)]
      by_cases c1 : v ≤ res
      · rw [if_pos (show lg_cmp (zL v) (zL res) ≤ 0 by rw [le]; exact c1), if_neg (by omega)]
      · rw [if_neg (show ¬ lg_cmp (zL v) (zL res) ≤ 0 by rw [le]; exact c1), if_pos (by omega)]
  · rw [if_neg (show ¬ zI ((32 : Nat) : Int) = 27 by decide), if_neg (show ¬ zI ((32 : Nat) : Int) = 28 by decide), if_neg (show ¬ zI ((32 : Nat) : Int) = 29 by decide), if_neg (show ¬ zI ((32 : Nat) : Int) = 30 by decide), if_neg (show ¬ zI ((32 : Nat) : Int) = 31 by decide), if_neg (show ¬ (32 : Nat) = 27 by decide), if_neg (show ¬ (32 : Nat) = 28 by decide), if_neg (show ¬ (32 : Nat) = 29 by decide), if_neg (show ¬ (32 : Nat) = 30 by decide), if_neg (show ¬ (32 : Nat) = 31 by decide)]
    by_cases c0 : p = 0
    · rw [if_pos (show zI (p : Int) = 0 by rw [p0]; exact c0), if_pos (Or.inl c0)]
    · rw [if_neg (show ¬ zI (p : Int) = 0 by rw [p0]; exact c0)]
      by_cases c1 : res ≤ v
      · rw [if_pos (show (0 : Int32) ≤ lg_cmp (zL v) (zL res) by rw [ge]; exact c1), if_neg (by omega)]
      · rw [if_neg (show ¬ (0 : Int32) ≤ lg_cmp (zL v) (zL res) by rw [ge]; exact c1), if_pos (by omega)]
/-- the class's answer -/
def anN (t r k : Nat) : Prop := dsN t r k ∨ r = 5
theorem cl_ansL {l : List Nat} {res b : Bool} {w : Nat} (hw : 27 ≤ w ∧ w ≤ 32) (hr7 : sh_r μ 0 7 = some t) (hr0 : sh_r μ 55 0 = some t) (ht : sh_isP t) (hk : sp_ok P) (hl : sl_in P L) (hd : sl_d L ≤ 999) (hn : l.length ≤ 1600) (hok : sg_ok 2 res l []) (hP : sm_cP μ t P) (hL : sm_cL μ 49 P L) (hF : sm_form μ 3 l) : ∀ (g f p : Nat) (m : sh_Mem), p + g = sp_np P → g < f → sh_fr (anN t) μ m → (∀ p', p' < p → ein (qV P L l b p')) → ∃ m', F_X11_answer f 1 (zI w) (zI (bI b)) (zL (jnA w (qV P L l b) p)) (zI p) m = some (zL (jnA w (qV P L l b) (sp_np P)), m') ∧ sh_fr (anN t) μ m' := by
  have hb := sp_bd hk
  have hnp : sp_np P ≤ 7 := hb.2.2.2.1
  have hpb := isP_b ht
  have h2 := ht
  unfold sh_isP at h2
  intro g
  induction g with
  | zero =>
    intro f p m hp hf hFr hE
    obtain ⟨f, rfl⟩ : ∃ f', f = f' + 1 := ⟨f - 1, by omega⟩
    have rr : sh_r m 0 7 = some t := by rw [hFr.1]; exact hr7
    have kr : sh_ref m 0 7 = t := by unfold sh_ref; rw [rr]; rfl
    have e3 : sh_i m t 3 = zI (sp_np P : Nat) := by rw [hFr.i _ _ (by unfold anN dsN; omega), hP.2.2.2.1, nI_z]
    refine ⟨m, ?_, hFr⟩
    rw [F_X11_answer, kr, if_pos ⟨rr, ht⟩, shl_ap, e3, if_pos (zI_yes (by omega) (by omega)), show p = sp_np P by omega]
  | succ g ih =>
    intro f p m hp hf hFr hE
    obtain ⟨f, rfl⟩ : ∃ f', f = f' + 1 := ⟨f - 1, by omega⟩
    have rr : sh_r m 0 7 = some t := by rw [hFr.1]; exact hr7
    have rr0 : sh_r m 55 0 = some t := by rw [hFr.1]; exact hr0
    have kr : sh_ref m 0 7 = t := by unfold sh_ref; rw [rr]; rfl
    have Pm : sm_cP m t P := hP.cg (fun j hj h7 h10 => hFr.row _ (fun k => by unfold anN dsN; omega))
    have Lm : sm_cL m 49 P L := hL.cg (fun j hj => hFr.row _ (fun k => by unfold anN dsN; omega))
    have e3 : sh_i m t 3 = zI (sp_np P : Nat) := by rw [Pm.2.2.2.1, nI_z]
    have hp7 : p < sp_np P := by omega
    have hG := cl_gather (g := 28) (r := 49) (μ := m) (t := t) (P := P) (L := L) (p := p) ⟨rr0, ht, Pm, hk⟩ Lm hl hp7 (Or.inr rfl) (Or.inl rfl)
    obtain ⟨q1, q2, q3, q4⟩ := Lm.2.2 p hp7
    rw [nI_z] at q1 q2 q3 q4
    obtain ⟨n0, hn0⟩ : ∃ m', m' = sh_setI (sh_setI (sh_setI (sh_setI m 28 6 (zI (sl_t L p))) 28 14 (zI (sl_h L (sl_y L p * sp_c P + sl_x L p)))) 28 15 (zI (pc (sl_k L p)))) 28 16 (zI (sl_d L)) := ⟨_, rfl⟩
    obtain ⟨n1, hn1⟩ : ∃ m', m' = sh_setI (sh_setI (sh_setI (sh_setI n0 28 18 (zI p)) 28 19 (zI (sl_x L p : Nat))) 28 20 (zI (sl_y L p : Nat))) 28 7 (zI (sl_k L p : Nat)) := ⟨_, rfl⟩
    have F0 : sh_fr (fun r _ => r = 28) m n0 := by rw [hn0]; exact sh_fr_I (sh_fr_I (sh_fr_I (sh_fr_I sh_fr.rf rfl) rfl) rfl) rfl
    have F1 : sh_fr (fun r _ => r = 28) m n1 := by
      rw [hn1]
      exact sh_fr_I (sh_fr_I (sh_fr_I (sh_fr_I F0 rfl) rfl) rfl) rfl
    have P1 : sm_cP n1 t P := Pm.cg (fun j hj h7 h10 => F1.row _ (fun k => by omega))
    have L1 : sm_cL n1 49 P L := Lm.cg (fun j hj => F1.row _ (fun k => by omega))
    obtain ⟨m2, d1, d2, d3, d4⟩ := cl_dsc (μ := n1) (P := P) (L := L) (t := t) (p := p) (b := b) (by rw [F1.1]; exact rr0) ht hk hl hd hp7 5 sh_fuel 0 n1 (by omega) (by rw [sh_fuel_eq]; omega) rfl P1 L1 (fun q' h' => absurd h' (Nat.not_lt_zero _))
    have hdesc : f_X10_describe 49 (zI p) 28 (zI (bI b)) m = some m2 := by
      have hin : sh_in (zI (p : Int)) 7 := (zI_in (by omega)).mpr (by omega)
      have r49 : ∀ r, ¬ r = 28 → sh_i n0 r = sh_i m r := fun r h => F0.row r (fun k => by omega)
      unfold f_X10_describe
      rw [hG, ← hn0, shv_ap, shl_ap, if_pos hin, shl_ap, if_pos hin, shl_ap, if_pos hin, shl_ap, tcN (by omega)]
      rw [show (Int32.toNatClampNeg 18) = 18 from rfl, show (Int32.toNatClampNeg 19) = 19 from rfl, show (Int32.toNatClampNeg 20) = 20 from rfl, show (Int32.toNatClampNeg 7) = 7 from rfl]
      rw [show sh_i (sh_setI n0 28 18 (zI p)) (49 + 2) p = zI (sl_x L p : Nat) by rw [ir_set_r (by omega), r49 _ (by omega)]; exact q1]
      rw [show sh_i (sh_setI (sh_setI n0 28 18 (zI p)) 28 19 (zI (sl_x L p : Nat))) (49 + 3) p = zI (sl_y L p : Nat) by rw [ir_set_r (by omega), ir_set_r (by omega), r49 _ (by omega)]; exact q2]
      rw [show sh_i (sh_setI (sh_setI (sh_setI n0 28 18 (zI p)) 28 19 (zI (sl_x L p : Nat))) 28 20 (zI (sl_y L p : Nat))) (49 + 5) p = zI (sl_k L p : Nat) by rw [ir_set_r (by omega), ir_set_r (by omega), ir_set_r (by omega), r49 _ (by omega)]; exact q4]
      rw [← hn1]
      exact d1
    have fa28 : ∀ tt ww : Nat, tt < 9 → sg_may 2 tt → sg_c tt = -1 - (ww : Int) → sh_i m2 28 ww = zI (fa P L p 0 0 tt) := fun tt ww h9 hmay hc => by
      have cs : (tt = 0 ∧ ww = 6) ∨ (tt = 1 ∧ ww = 14) ∨ (tt = 2 ∧ ww = 15) ∨ (tt = 3 ∧ ww = 16) ∨ (tt = 6 ∧ ww = 18) ∨ (tt = 7 ∧ ww = 19) ∨ (tt = 8 ∧ ww = 20) := by
        have c : tt = 0 ∨ tt = 1 ∨ tt = 2 ∨ tt = 3 ∨ tt = 4 ∨ tt = 5 ∨ tt = 6 ∨ tt = 7 ∨ tt = 8 := by omega
        rcases c with rfl | rfl | rfl | rfl | rfl | rfl | rfl | rfl | rfl
        · have : (-7 : Int) = -1 - (ww : Int) := hc; omega
        · have : (-15 : Int) = -1 - (ww : Int) := hc; omega
        · have : (-16 : Int) = -1 - (ww : Int) := hc; omega
        · have : (-17 : Int) = -1 - (ww : Int) := hc; omega
        · unfold sg_may at hmay; exact absurd hmay (by decide)
        · unfold sg_may at hmay; exact absurd hmay (by decide)
        · have : (-19 : Int) = -1 - (ww : Int) := hc; omega
        · have : (-20 : Int) = -1 - (ww : Int) := hc; omega
        · have : (-21 : Int) = -1 - (ww : Int) := hc; omega
      rcases cs with ⟨rfl, rfl⟩ | ⟨rfl, rfl⟩ | ⟨rfl, rfl⟩ | ⟨rfl, rfl⟩ | ⟨rfl, rfl⟩ | ⟨rfl, rfl⟩ | ⟨rfl, rfl⟩
      · rw [d3 _ (by omega), hn1, ir_set_k (by omega), ir_set_k (by omega), ir_set_k (by omega), ir_set_k (by omega), hn0, ir_set_k (by omega), ir_set_k (by omega), ir_set_k (by omega), ir_set]; rfl
      · rw [d3 _ (by omega), hn1, ir_set_k (by omega), ir_set_k (by omega), ir_set_k (by omega), ir_set_k (by omega), hn0, ir_set_k (by omega), ir_set_k (by omega), ir_set]; rfl
      · rw [d3 _ (by omega), hn1, ir_set_k (by omega), ir_set_k (by omega), ir_set_k (by omega), ir_set_k (by omega), hn0, ir_set_k (by omega), ir_set]; rfl
      · rw [d3 _ (by omega), hn1, ir_set_k (by omega), ir_set_k (by omega), ir_set_k (by omega), ir_set_k (by omega), hn0, ir_set]; rfl
      · rw [d3 _ (by omega), hn1, ir_set_k (by omega), ir_set_k (by omega), ir_set_k (by omega), ir_set]; rfl
      · rw [d3 _ (by omega), hn1, ir_set_k (by omega), ir_set_k (by omega), ir_set]; rfl
      · rw [d3 _ (by omega), hn1, ir_set_k (by omega), ir_set]; rfl
    have F2 : sh_fr (anN t) μ m2 := (hFr.trans (F1.mono (fun r k z => Or.inl (Or.inl z)))).trans (d2.mono (fun r k z => Or.inl z))
    have form2 : sm_form m2 3 l := hF.cg (F2.row 3 (fun k => by unfold anN dsN; omega)) (F2.row (3 + 1) (fun k => by unfold anN dsN; omega))
    have i7 : sh_i m2 28 7 = zI (sl_k L p : Nat) := by rw [d3 _ (by omega), hn1, ir_set]
    obtain ⟨v, m3, e1, e2, e3', e4⟩ := cl_value (F := fa P L p 0 0) (K := kQ P L p) (W := wQ P L p b) (kd := 2) (res := res) (f := 3) (g := 28) (l := l) (μ := m2) (fa_in hk hl (by omega) hp7 (by omega) (by omega)) kQ_in wQ_in hn hok form2 fa28 (fun _ m' hm' a ha => cl_ofQ hk hl hp7 ha (by rw [hm']; exact i7) (fun q' h' => by rw [hm']; exact d4 q' h'))
    have hv : ein v := e3'.1
    have eV : qV P L l b p = v := by unfold qV; rw [e2]; rfl
    have jb := jnA_b (w := w) (V := qV P L l b) p hE
    have F3 : sh_fr (anN t) μ m3 := F2.trans (e4.fr.mono (fun r k z => Or.inr z))
    obtain ⟨m4, c1, c2⟩ := ih f (p + 1) m3 (by omega) (by omega) F3 (fun p' h' => by
      by_cases e : p' = p
      · rw [e, eV]; exact hv
      · exact hE p' (by omega))
    refine ⟨m4, ?_, c2⟩
    rw [F_X11_answer, kr, if_pos ⟨rr, ht⟩, shl_ap, e3, if_neg (zI_not (by omega) (by omega)), hdesc, shv_ap, e1, shb_ap, cl_joined hw (by omega) (by omega) hv, shb_ap, zI_s1]
    rw [show jnA w (qV P L l b) (p + 1) = jn w (jnA w (qV P L l b) p) p v by show jn w (jnA w (qV P L l b) p) p (qV P L l b p) = _; rw [eV]] at c1
    exact c1
end Aq5
