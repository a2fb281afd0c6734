/-! the words' text: its length, its letters -/
def sh_ch (i : Int32) : Int32 := sh_txb.getD i.toNatClampNeg 0
section VStr
variable {l : Launch} {B : Nat} {D : va_G} {ca : Nat → ClassId} {d mc ms : Nat} {lv : List (Nat × Value)} {st : List Value} {μ : sh_Mem} {cells slots : Nat} {Q : Option Value → sh_Mem → Prop}
theorem vv_strlen (pc : Nat) (hd : decode M_X8_wordOf.2.1 pc = .ok (.ldc 68, 2)) (hd2 : decode M_X8_wordOf.2.1 (pc + 2) = .ok (.invokevirtual 70, 3)) (hdd : 6 ≤ d) (hst : (st.map fun v => v.category).sum ≤ 8) (k : sh_V l B D ca d mc ms M_X8_wordOf (pc + 5) lv (.int 171 :: st) μ cells slots Q) : sh_V l B D ca d mc ms M_X8_wordOf pc lv st μ cells slots Q := sorry
theorem vv_strchr {x : Int32} (pc i : Nat) (hd : decode M_X8_wordOf.2.1 pc = .ok (.ldc 68, 2)) (hd2 : decode M_X8_wordOf.2.1 (pc + 2) = .ok (.iload i, 2)) (hd3 : decode M_X8_wordOf.2.1 (pc + 4) = .ok (.invokevirtual 75, 3)) (hk : sh_lk lv i = some (.int x)) (hi : sh_in x 171) (hdd : 6 ≤ d) (hst : (st.map fun v => v.category).sum ≤ 8) (k : sh_V l B D ca d mc ms M_X8_wordOf (pc + 7) lv (.int (sh_ch x) :: st) μ cells slots Q) : sh_V l B D ca d mc ms M_X8_wordOf pc lv st μ cells slots Q := sorry
end VStr
