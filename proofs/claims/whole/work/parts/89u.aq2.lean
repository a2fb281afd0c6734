/-! ASK: what a question tells of one, in the reference -/
def kQ (P : sp_T) (L : sl_T) (p : Nat) (a : Int) : Int := if 0 ≤ a ∧ a < sp_nt P then ((sl_k L p / 2 ^ a.toNat % 2 : Nat) : Int) else 0
def wQ (P : sp_T) (L : sl_T) (p : Nat) (b : Bool) (a : Int) : Int := if b = true ∧ 0 ≤ a ∧ a < sp_nt P then ((aM P L p a.toNat : Nat) : Int) else 0
theorem kQ_in {P : sp_T} {L : sl_T} {p : Nat} (a : Int) : ein (kQ P L p a) := by
  unfold kQ ein
  split
  · have := Nat.mod_lt (sl_k L p / 2 ^ a.toNat) (show 0 < 2 by omega)
    omega
  · omega
theorem wQ_in {P : sp_T} {L : sl_T} {p : Nat} {b : Bool} (a : Int) : ein (wQ P L p b a) := by
  unfold wQ ein
  split
  · have := aM_le (P := P) (L := L) (p := p) (q := a.toNat)
    omega
  · omega
theorem e1_W {F : Nat → Int} {K W W' : Int → Int} {t : Nat} {s : List Int} (h : ¬ t = 10) : e1 F K W t s = e1 F K W' t s := by
  unfold e1
  split
  · rfl
  · split
    · rfl
    · split
      · rfl
      · cases s with
        | nil => rfl
        | cons a r =>
          simp [h]
theorem ev_W {F : Nat → Int} {K W W' : Int → Int} : ∀ (l : List Nat) (s : List Int), ¬ 10 ∈ l → ev F K W l s = ev F K W' l s
  | [], _, _ => rfl
  | t :: l, s, h => by
    have h1 : ¬ t = 10 := fun z => h (by rw [z]; exact List.mem_cons_self)
    show ev F K W l (e1 F K W t s) = ev F K W' l (e1 F K W' t s)
    rw [e1_W h1]
    exact ev_W l _ (fun z => h (List.mem_cons_of_mem _ z))
theorem ec_id {v : Int} (h : ein v) : ec v = v := by
  unfold ein at h
  unfold ec
  rw [if_neg (by omega), if_neg (by omega)]
section Aq2
theorem rf_t1 {F : Nat → Int} {K W : Int → Int} {t p fu i n : Nat} {B B' : List Bool} {s : List Int} {μ : sh_Mem} (h : sg_st 2 t B B') (hs : es B s) (hB : B.length ≤ 60) (hk : rk μ s) (h1 : sh_i μ 291 103 = zI n) (hn : n ≤ 1600) (hi : i < n) (e : sh_i μ 364 i = zI (sg_m t)) (hF : ∀ t, t < 9 → ein (F t)) (hK : ∀ a, ein (K a)) (hW : ∀ a, ein (W a))
    (h2 : ∀ t : Nat, t < 9 → sg_may 2 t → f_X12_qPartOf (zI t) (zI p) μ = some (zL (F t), μ)) (h3 : ∀ a, ein a → f_X12_qOf 0 (zL a) (zI p) μ = some (zL (K a), μ) ∧ f_X12_qOf 1 (zL a) (zI p) μ = some (zL (W a), μ)) :
    ∃ μ', F_X12_qTold (fu + 1) 1 (zI p) (zI i) μ = F_X12_qTold fu 1 (zI p) (zI (i + 1 : Nat)) μ' ∧ rk μ' (e1 F K W t s) ∧ sh_fr rN μ μ' := by
  have hl := es_len hs
  have e' : sh_i μ 364 (zI (i : Int)).toNatClampNeg = zI (sg_m t) := by rw [tcN (by omega)]; exact e
  have lt : ∀ (a b : Int), -100000 ≤ a ∧ a < 100000 → -100000 ≤ b ∧ b < 100000 → (zI a < zI b ↔ a < b) := fun a b q1 q2 => zI_lt (by omega) (by omega) (by omega) (by omega)
  have eq : ∀ (a b : Int), -100000 ≤ a ∧ a < 100000 → -100000 ≤ b ∧ b < 100000 → (zI a = zI b ↔ a = b) := fun a b q1 q2 => zI_eq (by omega) (by omega) (by omega) (by omega)
  have cl : ∀ v, ein v → f_X12_qClip μ (zL v) = zL v := fun v hv => by
    rw [rf_clip (by unfold ein at hv; omega), ec_id hv]
  rw [F_X12_qTold, h1, if_neg (zI_not (by omega) (by omega)), if_pos ((zI_in (by omega)).mpr (by omega)), e', shl_ap]
  rcases sg_st_rng h with q | q | ⟨q, q2, B, rfl⟩ | q | ⟨q, B, rfl⟩ | q
  · obtain ⟨μ', p1, p2, p3⟩ := rf_puts (v := (t : Int) - 100) hk (by omega)
    rw [e1_num q.1]
    refine ⟨μ', ?_, p2, p3⟩
    rw [sgm_num q.1, if_neg (show ¬ zI (900 + (t : Int)) < 1000 from fun z => by have := (lt _ 1000 (by omega) (by omega)).mp z; omega), show (1000 : Int32) = zI 1000 from rfl, zI_sub, show 900 + (t : Int) - 1000 = (t : Int) - 100 by omega, zI_l (by omega) (by omega), p1, shv_ap, zI_s1]
  · obtain ⟨μ', p1, p2, p3⟩ := rf_puts (v := F t) hk (by omega)
    rw [e1_fact q.1]
    refine ⟨μ', ?_, p2, p3⟩
    rw [sgm_fact q.1, if_pos (show zI (40 + (t : Int)) < 1000 from (lt _ 1000 (by omega) (by omega)).mpr (by omega)), if_pos (show zI (40 + (t : Int)) < 60 from (lt _ 60 (by omega) (by omega)).mpr (by omega)), if_neg (show ¬ zI (40 + (t : Int)) < 40 from fun z => by have := (lt _ 40 (by omega) (by omega)).mp z; omega), show (40 : Int32) = zI 40 from rfl, zI_sub, show 40 + (t : Int) - 40 = (t : Int) by omega, h2 t q.1 q.2, shb_ap, cl _ (hF t q.1), p1, shv_ap, zI_s1]
  · obtain ⟨a, r, rfl, h4, h5, h6⟩ := es_pop hs
    have hl3 : r.length + 1 = B.length + 1 := hl
    have hB3 : B.length + 1 ≤ 60 := hB
    have e0 : sh_i μ 291 109 = zI ((r.length + 1 : Nat) : Int) := hk.1
    have e2 : sh_l μ 366 (zI (r.length : Int)).toNatClampNeg = zL a := by rw [tcN (by omega)]; exact hk.2.1
    have e1' : zI ((r.length + 1 : Nat) : Int) - 1 = zI (r.length : Int) := by
      rw [show (1 : Int32) = zI 1 from rfl, zI_sub]
      congr 1
      omega
    have hin : sh_in (zI (r.length : Int)) 1700 := (zI_in (by omega)).mpr (by omega)
    obtain ⟨k1, k2⟩ := h3 a h4
    rcases q with rfl | rfl
    · rw [e1_kn]
      refine ⟨sh_setL μ 366 r.length (zL (K a)), ?_, ⟨hk.1, sk_set hk.2.2⟩, sh_fr_L sh_fr.rf (Or.inl rfl)⟩
      rw [show sg_m 9 = 60 from rfl, if_pos (show zI 60 < 1000 by decide), if_neg (show ¬ zI 60 < 60 by decide), e0, e1', if_pos hin, e2, show zI 60 - 60 = 0 from rfl, k1, shb_ap, if_pos hin, cl _ (hK a), tcN (by omega), shl_ap, zI_s1]
    · rw [e1_li]
      refine ⟨sh_setL μ 366 r.length (zL (W a)), ?_, ⟨hk.1, sk_set hk.2.2⟩, sh_fr_L sh_fr.rf (Or.inl rfl)⟩
      rw [show sg_m 10 = 61 from rfl, if_pos (show zI 61 < 1000 by decide), if_neg (show ¬ zI 61 < 60 by decide), e0, e1', if_pos hin, e2, show zI 61 - 60 = 1 from rfl, k2, shb_ap, if_pos hin, cl _ (hW a), tcN (by omega), shl_ap, zI_s1]
  · obtain ⟨x, y, B, z, rfl, rfl, hxy⟩ := sg_st_two h q.1 q.2
    obtain ⟨b, r', rfl, h4, h5, h6⟩ := es_pop hs
    obtain ⟨a, r, rfl, h7, h8, h9⟩ := es_pop h6
    have hl3 : r.length + 1 + 1 = B.length + 1 + 1 := hl
    have hB3 : B.length + 1 + 1 ≤ 60 := hB
    obtain ⟨μ', p1, p2, p3⟩ := rf_joins q.1 q.2 h7 h4 (fun z => ⟨h8 (hxy z).2, h5 (hxy z).1⟩) hk (by omega)
    rw [e1_two q.1 q.2]
    refine ⟨μ', ?_, p2, p3⟩
    rw [sgm_two q.1 q.2] at p1 ⊢
    rw [if_pos (show zI ((t : Int) - 10) < 1000 from (lt _ 1000 (by omega) (by omega)).mpr (by omega)), if_pos (show zI ((t : Int) - 10) < 60 from (lt _ 60 (by omega) (by omega)).mpr (by omega)), if_pos (show zI ((t : Int) - 10) < 40 from (lt _ 40 (by omega) (by omega)).mpr (by omega)), if_neg (show ¬ zI ((t : Int) - 10) = 13 from fun z => by have := (eq _ 13 (by omega) (by omega)).mp z; omega), if_neg (show ¬ zI ((t : Int) - 10) = 12 from fun z => by have := (eq _ 12 (by omega) (by omega)).mp z; omega), p1, shv_ap, zI_s1]
  · obtain ⟨a, r, rfl, h4, h5, h6⟩ := es_pop hs
    subst q
    have hl3 : r.length + 1 = B.length + 1 := hl
    have hB3 : B.length + 1 ≤ 60 := hB
    have e0 : sh_i μ 291 109 = zI ((r.length + 1 : Nat) : Int) := hk.1
    have e2 : sh_l μ 366 (zI (r.length : Int)).toNatClampNeg = zL a := by rw [tcN (by omega)]; exact hk.2.1
    have e1' : zI ((r.length + 1 : Nat) : Int) - 1 = zI (r.length : Int) := by
      rw [show (1 : Int32) = zI 1 from rfl, zI_sub]
      congr 1
      omega
    have hin : sh_in (zI (r.length : Int)) 1700 := (zI_in (by omega)).mpr (by omega)
    rw [e1_not]
    refine ⟨sh_setL μ 366 r.length (zL (1 - a)), ?_, ⟨hk.1, sk_set hk.2.2⟩, sh_fr_L sh_fr.rf (Or.inl rfl)⟩
    rw [show sg_m 22 = 12 from rfl, if_pos (show zI 12 < 1000 by decide), if_pos (show zI 12 < 60 by decide), if_pos (show zI 12 < 40 by decide), if_neg (show ¬ zI 12 = 13 by decide), if_pos (show zI 12 = 12 from rfl), e0, e1', if_pos hin, if_pos hin, e2, tcN (by omega), show (1 : Int64) = zL 1 from rfl, zL_sub, shl_ap, zI_s1]
  · subst q
    obtain ⟨μ', p1, p2, p3⟩ := rf_puts (v := 1) hk (by omega)
    rw [e1_all]
    refine ⟨μ', ?_, p2, p3⟩
    rw [show sg_m 23 = 13 from rfl, if_pos (show zI 13 < 1000 by decide), if_pos (show zI 13 < 60 by decide), if_pos (show zI 13 < 40 by decide), if_pos (show zI 13 = 13 from rfl), show f_X12_qPuts 1 μ = some μ' from p1, shv_ap, zI_s1]
theorem rf_tv {F : Nat → Int} {K W : Int → Int} {res : Bool} {n p : Nat} (hF : ∀ t, t < 9 → ein (F t)) (hK : ∀ a, ein (K a)) (hW : ∀ a, ein (W a)) (hn : n ≤ 1600) : ∀ (l : List Nat) (i fu : Nat) (B : List Bool) (s : List Int) (μ : sh_Mem), sg_ok 2 res l B → es B s → B.length ≤ 60 → rk μ s → i + l.length = n → l.length < fu → sh_i μ 291 103 = zI n → (∀ j, j < l.length → sh_i μ 364 (i + j) = zI (sg_m (l.getD j 0))) →
    (∀ μ', sh_fr rN μ μ' → (∀ t : Nat, t < 9 → sg_may 2 t → f_X12_qPartOf (zI t) (zI p) μ' = some (zL (F t), μ')) ∧ (∀ a, ein a → f_X12_qOf 0 (zL a) (zI p) μ' = some (zL (K a), μ') ∧ f_X12_qOf 1 (zL a) (zI p) μ' = some (zL (W a), μ'))) →
    ∃ (v : Int) (μ' : sh_Mem), F_X12_qTold fu 1 (zI p) (zI i) μ = some (zL v, μ') ∧ ev F K W l s = [v] ∧ es [res] [v] ∧ sh_fr rN μ μ' := by
  intro l
  induction l with
  | nil =>
    intro i fu B s μ hok hs hB hk hi hf h1 hc h2
    obtain ⟨fu, rfl⟩ : ∃ q, fu = q + 1 := ⟨fu - 1, by have : 0 < fu := hf; omega⟩
    have hB2 : B = [res] := hok
    subst hB2
    obtain ⟨v, r, rfl, h4, h5, h6⟩ := es_pop hs
    have hr : r = [] := by
      cases r with
      | nil => rfl
      | cons a b => exact h6.elim
    subst hr
    have hi : i = n := hi
    refine ⟨v, μ, ?_, rfl, hs, sh_fr.rf⟩
    rw [F_X12_qTold, h1, if_pos (zI_yes (by omega) (by omega)), show sh_l μ 366 (Int32.toNatClampNeg 0) = zL v from sk_0 hk.2]
  | cons t l ih =>
    intro i fu B s μ hok hs hB hk hi hf h1 hc h2
    have hlen : (t :: l).length = l.length + 1 := rfl
    obtain ⟨fu, rfl⟩ : ∃ q, fu = q + 1 := ⟨fu - 1, by omega⟩
    obtain ⟨B', b1, b2, b3⟩ := hok
    have hc0 : sh_i μ 364 i = zI (sg_m t) := hc 0 (by omega)
    obtain ⟨k2, k3⟩ := h2 μ sh_fr.rf
    obtain ⟨μ1, c1, c2, c3⟩ := rf_t1 (fu := fu) b1 hs hB hk h1 hn (by omega) hc0 hF hK hW k2 k3
    obtain ⟨v', μ', d1, d2, d3, d4⟩ := ih (i + 1) fu B' (e1 F K W t s) μ1 b3 (e1_ty hF hK hW b1 hs) b2 c2 (by omega) (by omega) (by rw [c3.i _ _ (by unfold rN; omega)]; exact h1) (fun j hj => by rw [c3.i _ _ (by unfold rN; omega), show i + 1 + j = i + (j + 1) by omega]; exact hc (j + 1) (by omega)) (fun μ' hf => h2 μ' (c3.trans hf))
    exact ⟨v', μ', c1.trans d1, d2, d3, c3.trans d4⟩
variable {μ : sh_Mem} {P : sp_T} {L : sl_T} {p : Nat}
theorem rf_isT {a : Int} (hM : sm_mP μ P) (hk : sp_ok P) (ha : ein a) : f_X12_isTopic (zL a) μ = some (if 0 ≤ a ∧ a < sp_nt P then 1 else 0, μ) := by
  have hb := sp_bd hk
  have hnt : sp_nt P ≤ 5 := hb.2.2.1
  unfold ein at ha
  have e : f_X12_isIn μ (zL a) 0 ((zI (sp_nt P : Nat) - 1)).toInt64 = if 0 ≤ a ∧ a < sp_nt P then 1 else 0 := by
    unfold f_X12_isIn
    rw [show (1 : Int32) = zI 1 from rfl, zI_sub, zI_l (by omega) (by omega), show (0 : Int64) = zL 0 from rfl]
    have l1 : (lg_cmp (zL a) (zL 0) < 0) = (a < 0) := lg_lt0 (by omega)
    have l2 : ((0 : Int32) < lg_cmp (zL a) (zL ((sp_nt P : Nat) - 1))) = (((sp_nt P : Nat) : Int) - 1 < a) := lg_gt0 (by omega)
    simp only [l1, l2]
    by_cases c : 0 ≤ a ∧ a < sp_nt P
    · rw [if_pos c, if_neg (by omega), if_neg (by omega)]
    · rw [if_neg c]
      by_cases c1 : a < 0
      · rw [if_pos c1]
      · rw [if_neg c1, if_pos (by omega)]
  unfold f_X12_isTopic
  rw [rf_topicMany hM, shb_ap, e]
  by_cases c : 0 ≤ a ∧ a < sp_nt P
  · rw [if_pos c, if_pos (Or.inr rfl)]
  · rw [if_neg c, if_pos (Or.inl rfl)]
theorem rf_qOf {a : Int} (hM : sm_mP μ P) (hm : sm_mL (sh_i μ 330) 0 P L) (hk : sp_ok P) (hl : sl_in P L) (hp : p < sp_np P) (ha : ein a) (h332 : ∀ q, q < sp_nt P → sh_i μ 332 (5 * p + q) = zI (aM P L p q : Nat)) : f_X12_qOf 0 (zL a) (zI p) μ = some (zL (kQ P L p a), μ) ∧ f_X12_qOf 1 (zL a) (zI p) μ = some (zL (wQ P L p true a), μ) := by
  have hb := sp_bd hk
  have hnt : sp_nt P ≤ 5 := hb.2.2.1
  have hnp : sp_np P ≤ 7 := hb.2.2.2.1
  have b7 := sl_k32 hk hl hp
  have ha' := ha
  unfold ein at ha'
  constructor
  · unfold f_X12_qOf kQ
    rw [if_pos rfl, rf_isT hM hk ha, shb_ap]
    by_cases c : 0 ≤ a ∧ a < sp_nt P
    · obtain ⟨q, hq⟩ : ∃ q : Nat, a = (q : Int) := ⟨a.toNat, by omega⟩
      subst hq
      have hq5 : q < 5 := by omega
      rw [if_pos c, if_pos c, if_neg (show ¬ (1 : Int32) = 0 by decide), rf_knowsOf hm hk hp, shb_ap, zL_i, bitL _ (by omega) q hq5, Int.toNat_natCast]
      by_cases c1 : sl_k L p / 2 ^ q % 2 = 1
      · rw [c1, if_pos (show zI ((1 : Nat) : Int) = 1 from rfl)]
        rfl
      · rw [show sl_k L p / 2 ^ q % 2 = 0 by omega, if_neg (show ¬ zI ((0 : Nat) : Int) = 1 by decide)]
        rfl
    · rw [if_neg c, if_neg c, if_pos rfl]
      rfl
  · unfold f_X12_qOf wQ
    rw [if_neg (show ¬ (1 : Int32) = 0 by decide), rf_isT hM hk ha, shb_ap]
    by_cases c : 0 ≤ a ∧ a < sp_nt P
    · obtain ⟨q, hq⟩ : ∃ q : Nat, a = (q : Int) := ⟨a.toNat, by omega⟩
      subst hq
      have hq5 : q < sp_nt P := by omega
      have e5 : 5 * zI (p : Int) + zI (q : Int) = zI ((5 * p + q : Nat) : Int) := by
        rw [show (5 : Int32) = zI 5 from rfl, zI_mul, zI_add]
        rfl
      have ham := aM_le (P := P) (L := L) (p := p) (q := q)
      rw [if_pos c, if_neg (show ¬ (1 : Int32) = 0 by decide), if_pos (show true = true ∧ 0 ≤ (q : Int) ∧ (q : Int) < sp_nt P from ⟨rfl, c⟩), zL_i, e5, if_pos ((zI_in (by omega)).mpr (by omega)), tcN (by omega), h332 q hq5, Int.toNat_natCast, zI_l (by omega) (by omega)]
    · rw [if_neg c, if_pos rfl, if_neg (show ¬ (true = true ∧ 0 ≤ a ∧ a < sp_nt P) from fun z => c z.2)]
      rfl
/-- what a question tells of one -/
theorem rf_toldP {l : List Nat} {res : Bool} (hM : sm_mP μ P) (hm : sm_mL (sh_i μ 330) 0 P L) (hk : sp_ok P) (hl : sl_in P L) (hd : sl_d L ≤ 999) (hp : p < sp_np P) (h332 : ∀ q, q < sp_nt P → sh_i μ 332 (5 * p + q) = zI (aM P L p q : Nat)) (h54 : sh_i μ 291 54 = zI p) (hn : l.length ≤ 1600) (h103 : sh_i μ 291 103 = zI (l.length : Nat)) (h364 : ∀ j, j < l.length → sh_i μ 364 j = zI (sg_m (l.getD j 0))) (hok : sg_ok 2 res l []) : ∃ (v : Int) (μ' : sh_Mem), f_X12_qTold (zI p) μ = some (zL v, μ') ∧ ev (fa P L p 0 0) (kQ P L p) (wQ P L p true) l [] = [v] ∧ es [res] [v] ∧ sh_fr rN μ μ' := by
  have F1 : sh_fr rN μ (sh_setI μ 291 109 0) := sh_fr_I sh_fr.rf (by unfold rN; omega)
  obtain ⟨v, μ', a1, a2, a3, a4⟩ := rf_tv (F := fa P L p 0 0) (K := kQ P L p) (W := wQ P L p true) (res := res) (n := l.length) (p := p) (fa_in hk hl (by omega) hp (by omega) (by omega)) kQ_in wQ_in hn l 0 sh_fuel [] [] (sh_setI μ 291 109 0) hok trivial (by show 0 ≤ 60; omega) ⟨by rw [ir_set]; rfl, trivial⟩ (by omega) (by rw [sh_fuel_eq]; omega) (by rw [ir_set_k (by omega)]; exact h103) (fun j hj => by rw [ir_set_r (by omega), Nat.zero_add]; exact h364 j hj) (fun m hf => by
    have fm := F1.trans hf
    have mM : sm_mP m P := hM.f3 (fun r k z => fm.i r k (by unfold rN; omega)) (fm.lrow 323 (fun k => by unfold rN; omega))
    have mL : sm_mL (sh_i m 330) 0 P L := by rw [fm.row 330 (fun k => by unfold rN; omega)]; exact hm
    refine ⟨fun t ht hmay => ?_, fun a ha => rf_qOf mM mL hk hl hp ha (fun q hq => by rw [fm.i _ _ (by unfold rN; omega)]; exact h332 q hq)⟩
    have e54 : sh_i m 291 54 = zI p := by rw [fm.i _ _ (by unfold rN; omega)]; exact h54
    have := rf_part (μ := m) (P := P) (L := L) (p := p) (q := 0) (sd := 0) (t := t) ht mL hk hl (by omega) hp (by omega) (by omega) e54 (fun z => by unfold sg_may at hmay; rw [z] at hmay; exact absurd hmay (by decide)) (fun z => by unfold sg_may at hmay; rw [z] at hmay; exact absurd hmay (by decide))
    rw [e54] at this
    exact this)
  refine ⟨v, μ', ?_, a2, a3, F1.trans a4⟩
  unfold f_X12_qTold
  rw [shl_ap]
  exact a1
end Aq2
