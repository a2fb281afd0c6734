/-! ASK: answers put together -/
def jn (w : Nat) (res : Int) (p : Nat) (v : Int) : Int := if w = 27 then (if res = -1 ∧ ¬ v = 0 then (p : Int) else res) else if w = 28 then (if ¬ v = 0 then (p : Int) else res) else if w = 29 then (if ¬ v = 0 then res + 1 else res) else if w = 30 then res + v else if w = 31 then (if p = 0 ∨ res < v then v else res) else (if p = 0 ∨ v < res then v else res)
def jnA (w : Nat) (V : Nat → Int) : Nat → Int
  | 0 => if w = 27 ∨ w = 28 then -1 else 0
  | p + 1 => jn w (jnA w V p) p (V p)
theorem jn_b {w p : Nat} {res v : Int} (hr : -1000000 * ((p : Int) + 1) ≤ res ∧ res ≤ 1000000 * ((p : Int) + 1)) (hv : ein v) : -1000000 * ((p : Int) + 1 + 1) ≤ jn w res p v ∧ jn w res p v ≤ 1000000 * ((p : Int) + 1 + 1) := by
  unfold ein at hv
  unfold jn
  repeat' split
  all_goals omega
theorem jnA_b {w : Nat} {V : Nat → Int} : ∀ p, (∀ p', p' < p → ein (V p')) → -1000000 * ((p : Int) + 1) ≤ jnA w V p ∧ jnA w V p ≤ 1000000 * ((p : Int) + 1)
  | 0, _ => by
    show -1000000 * (((0 : Nat) : Int) + 1) ≤ (if w = 27 ∨ w = 28 then (-1 : Int) else 0) ∧ (if w = 27 ∨ w = 28 then (-1 : Int) else 0) ≤ 1000000 * (((0 : Nat) : Int) + 1)
    split <;> omega
  | p + 1, h => jn_b (jnA_b p (fun p' h' => h p' (by omega))) (h p (by omega))
section Aq3
theorem qT8 {f : Nat} {k i5 p : Int32} {v : Int64} {μ : sh_Mem} : F_X12_qTakes (f + 1) 8 k v p i5 μ = some (sh_setI μ 291 111 0) := by
  rw [F_X12_qTakes, shl_ap]
theorem rf_takesQ {w p : Nat} {res v : Int} {μ : sh_Mem} (hw : 27 ≤ w ∧ w ≤ 32) (hp : p < 7) (hr : -100000000 ≤ res ∧ res ≤ 100000000) (hv : ein v) (h01 : w < 30 → v = 0 ∨ v = 1) (h110 : sh_l μ 291 110 = zL res) (h111 : sh_i μ 291 111 = if p = 0 then 1 else 0) : ∃ μ', f_X12_qTakes (zI ((w : Int) - 27)) (zL v) (zI p) μ = some μ' ∧ sh_fr (fun r k => r = 291 ∧ (k = 110 ∨ k = 111)) μ μ' ∧ sh_l μ' 291 110 = zL (jn w res p v) ∧ sh_i μ' 291 111 = 0 := sorry
def qV (P : sp_T) (L : sl_T) (l : List Nat) (b : Bool) (p : Nat) : Int := hd0 (ev (fa P L p 0 0) (kQ P L p) (wQ P L p b) l [])
/-- all of them -/
theorem rf_askL {P : sp_T} {L : sl_T} {l : List Nat} {res : Bool} {w : Nat} {μ1 : sh_Mem} (hw : 27 ≤ w ∧ w ≤ 32) (hres : res = decide (w < 30)) (hk : sp_ok P) (hl : sl_in P L) (hd : sl_d L ≤ 999) (hn : l.length ≤ 1600) (hok : sg_ok 2 res l []) (hM : sm_mP μ1 P) (hm : sm_mL (sh_i μ1 330) 0 P L) (h332 : ∀ p q, q < sp_nt P → p < sp_np P → sh_i μ1 332 (5 * p + q) = zI (aM P L p q : Nat)) (h103 : sh_i μ1 291 103 = zI (l.length : Nat)) (h364 : ∀ j, j < l.length → sh_i μ1 364 j = zI (sg_m (l.getD j 0))) : ∀ (g f p : Nat) (m : sh_Mem), p + g = sp_np P → g < f → sh_fr (fun r k => rN r k ∨ (r = 291 ∧ (k = 54 ∨ k = 110 ∨ k = 111))) μ1 m → sh_l m 291 110 = zL (jnA w (qV P L l true) p) → sh_i m 291 111 = (if p = 0 then 1 else 0) → (∀ p', p' < p → ein (qV P L l true p')) → ∃ m', F_X12_ask f 4 (zI ((w : Int) - 27)) (zI p) m = some (zL (jnA w (qV P L l true) (sp_np P)), m') ∧ sh_fr (fun r k => rN r k ∨ (r = 291 ∧ (k = 54 ∨ k = 110 ∨ k = 111))) μ1 m' := sorry
end Aq3
