/-! frames: the class's methods leave the reference's cells (291 on), the reference's leave the class's -/
def sh_offM (μ μ' : sh_Mem) : Prop := ∀ r, 291 ≤ r → sh_i μ' r = sh_i μ r ∧ sh_l μ' r = sh_l μ r ∧ sh_r μ' r = sh_r μ r
def sh_offX (μ μ' : sh_Mem) : Prop := ∀ r, r < 291 → sh_i μ' r = sh_i μ r ∧ sh_l μ' r = sh_l μ r ∧ sh_r μ' r = sh_r μ r
theorem sh_offM.rf {μ : sh_Mem} : sh_offM μ μ := fun _ _ => ⟨rfl, rfl, rfl⟩
theorem sh_offM.trans {a b c : sh_Mem} (h : sh_offM a b) (g : sh_offM b c) : sh_offM a c := fun r hr => ⟨(g r hr).1.trans (h r hr).1, (g r hr).2.1.trans (h r hr).2.1, (g r hr).2.2.trans (h r hr).2.2⟩
theorem sh_offM_row {a μ : sh_Mem} {r : Nat} {g : Nat → Int32} (h : sh_offM a μ) (hr : r < 291) : sh_offM a (sh_rowI μ r g) := fun q hq => ⟨(sh_row_n (by omega)).trans (h q hq).1, (h q hq).2.1, (h q hq).2.2⟩
theorem sh_offM_I {a μ : sh_Mem} {r k : Nat} {x : Int32} (h : sh_offM a μ) (hr : r < 291) : sh_offM a (sh_setI μ r k x) := sh_offM_row h hr
theorem sh_offM_L {a μ : sh_Mem} {r k : Nat} {x : Int64} (h : sh_offM a μ) (hr : r < 291) : sh_offM a (sh_setL μ r k x) := fun q hq => ⟨(h q hq).1, (sh_row_n (by omega)).trans (h q hq).2.1, (h q hq).2.2⟩
theorem sh_offM_R {a μ : sh_Mem} {r k : Nat} {x : Option Nat} (h : sh_offM a μ) (hr : r < 291) : sh_offM a (sh_setR μ r k x) := fun q hq => ⟨(h q hq).1, (h q hq).2.1, (sh_row_n (by omega)).trans (h q hq).2.2⟩
theorem sh_offX.rf {μ : sh_Mem} : sh_offX μ μ := fun _ _ => ⟨rfl, rfl, rfl⟩
theorem sh_offX.trans {a b c : sh_Mem} (h : sh_offX a b) (g : sh_offX b c) : sh_offX a c := fun r hr => ⟨(g r hr).1.trans (h r hr).1, (g r hr).2.1.trans (h r hr).2.1, (g r hr).2.2.trans (h r hr).2.2⟩
theorem sh_offX_row {a μ : sh_Mem} {r : Nat} {g : Nat → Int32} (h : sh_offX a μ) (hr : 291 ≤ r) : sh_offX a (sh_rowI μ r g) := fun q hq => ⟨(sh_row_n (by omega)).trans (h q hq).1, (h q hq).2.1, (h q hq).2.2⟩
theorem sh_offX_I {a μ : sh_Mem} {r k : Nat} {x : Int32} (h : sh_offX a μ) (hr : 291 ≤ r) : sh_offX a (sh_setI μ r k x) := sh_offX_row h hr
theorem sh_offX_L {a μ : sh_Mem} {r k : Nat} {x : Int64} (h : sh_offX a μ) (hr : 291 ≤ r) : sh_offX a (sh_setL μ r k x) := fun q hq => ⟨(h q hq).1, (sh_row_n (by omega)).trans (h q hq).2.1, (h q hq).2.2⟩
theorem sh_offX_R {a μ : sh_Mem} {r k : Nat} {x : Option Nat} (h : sh_offX a μ) (hr : 291 ≤ r) : sh_offX a (sh_setR μ r k x) := fun q hq => ⟨(h q hq).1, (h q hq).2.1, (sh_row_n (by omega)).trans (h q hq).2.2⟩
theorem sh_lt1 : ∀ r ∈ sh_LANDS, r + 5 < 291 := by decide +kernel
theorem sh_ltL {r : Nat} (hr : sh_isL r) (k : Nat) (hk : k ≤ 5) : r + k < 291 := by have := sh_lt1 r hr; omega
theorem sh_lt2 : ∀ r ∈ sh_FORMS, r + 2 < 291 := by decide +kernel
theorem sh_ltF {r : Nat} (hr : sh_isF r) (k : Nat) (hk : k ≤ 2) : r + k < 291 := by have := sh_lt2 r hr; omega
theorem sh_ltP {r : Nat} (hr : sh_isP r) (k : Nat) (hk : k ≤ 19) : r + k < 291 := by rcases hr with rfl | rfl <;> omega
theorem sh_ltR66 {i : Int32} (hi : sh_in i 20) : 67 + i.toNatClampNeg < 291 := by have : i.toNatClampNeg < 20 := Nat.lt_of_not_le fun q => hi (Or.inr q); omega
