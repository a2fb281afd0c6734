/-! the start: what the memory is, event by event (the latest first) -/
abbrev ke : Type := Nat × Nat × Nat × Int
def kE (e : ke) (m : sh_Mem) : sh_Mem := match e.1 with
  | 0 => sh_add m (e.2.1, e.2.2.1)
  | 1 => sh_setI m e.2.1 e.2.2.1 (Int32.ofInt e.2.2.2)
  | 2 => sh_setL m e.2.1 e.2.2.1 (Int64.ofInt e.2.2.2)
  | 3 => sh_setR m e.2.1 e.2.2.1 (some e.2.2.2.toNat)
  | _ => sh_mna m e.2.1 e.2.2.1
def kF : List ke → sh_Mem
  | [] => km_0
  | e :: l => kE e (kF l)
def kN : List ke → Nat
  | [] => 0
  | e :: l => match e.1 with
    | 0 => kN l + 1
    | 1 => kN l
    | 2 => kN l
    | 3 => kN l
    | _ => kN l + 1 + e.2.1
def kw : List ke → Bool
  | [] => true
  | e :: l => kw l && (match e.1 with
    | 0 => true
    | 1 => decide (e.2.1 < kN l)
    | 2 => decide (e.2.1 < kN l)
    | 3 => decide (e.2.1 < kN l)
    | _ => true)
def kI (r k : Nat) : List ke → Int32
  | [] => 0
  | e :: l => if e.1 = 1 ∧ r = e.2.1 ∧ k = e.2.2.1 then Int32.ofInt e.2.2.2 else kI r k l
def kL (r k : Nat) : List ke → Int64
  | [] => 0
  | e :: l => if e.1 = 2 ∧ r = e.2.1 ∧ k = e.2.2.1 then Int64.ofInt e.2.2.2 else kL r k l
def kR (r k : Nat) : List ke → Option Nat
  | [] => none
  | e :: l => if e.1 = 3 ∧ r = e.2.1 ∧ k = e.2.2.1 then some e.2.2.2.toNat else if 4 ≤ e.1 ∧ r = kN l then (if k < e.2.1 then some (kN l + 1 + k) else none) else kR r k l
theorem va_up_if {α : Type} {f : Nat → α} {k j : Nat} {v : α} : va_up f k v j = if j = k then v else f j := rfl
theorem kz : ∀ l : List ke, kw l = true → (sh_lay (kF l)).length = kN l ∧ (∀ r, kN l ≤ r → ∀ k, kI r k l = 0 ∧ kL r k l = 0 ∧ kR r k l = none) ∧ ∀ r k, sh_i (kF l) r k = kI r k l ∧ sh_l (kF l) r k = kL r k l ∧ sh_r (kF l) r k = kR r k l := by
  intro l
  induction l with
  | nil => exact fun _ => ⟨rfl, fun r _ k => ⟨rfl, rfl, rfl⟩, fun r k => ⟨rfl, rfl, rfl⟩⟩
  | cons e l ih =>
    intro h
    obtain ⟨g, a, b, c⟩ := e
    have h0 : (kw l && _) = true := h
    rw [Bool.and_eq_true] at h0
    obtain ⟨h1, h2⟩ := h0
    obtain ⟨i1, i2, i3⟩ := ih h1
    match g, h2 with
    | 0, _ =>
      refine ⟨?_, fun r hr k => ?_, fun r k => ?_⟩
      · show (sh_lay (kF l) ++ [_]).length = kN l + 1
        rw [List.length_append, i1]
        rfl
      · have hr' : kN l + 1 ≤ r := hr
        have := i2 r (by omega) k
        unfold kI kL kR
        rw [if_neg (by omega), if_neg (by omega), if_neg (by omega), if_neg (by omega)]
        exact this
      · have q := i3 r k
        unfold kI kL kR
        rw [if_neg (by omega), if_neg (by omega), if_neg (by omega), if_neg (by omega)]
        by_cases c : r = (kF l).1.length
        · have z := i2 r (by rw [c]; exact Nat.le_of_eq i1.symm) k
          refine ⟨?_, ?_, ?_⟩
          · rw [z.1]; show sh_row _ _ _ r k = 0; rw [c, sh_row_s]
          · rw [z.2.1]; show sh_row _ _ _ r k = 0; rw [c, sh_row_s]
          · rw [z.2.2]; show sh_row _ _ _ r k = none; rw [c, sh_row_s]
        · refine ⟨?_, ?_, ?_⟩
          · rw [← q.1]; show sh_row _ _ _ r k = _; rw [sh_row_n c]
          · rw [← q.2.1]; show sh_row _ _ _ r k = _; rw [sh_row_n c]
          · rw [← q.2.2]; show sh_row _ _ _ r k = _; rw [sh_row_n c]
    | 1, h2 =>
      have ha : a < kN l := of_decide_eq_true h2
      refine ⟨i1, fun r hr k => ?_, fun r k => ?_⟩
      · have hr' : kN l ≤ r := hr
        have := i2 r hr' k
        unfold kI kL kR
        rw [if_neg (by show ¬ (_ ∧ r = a ∧ _); omega), if_neg (by omega), if_neg (by omega), if_neg (by omega)]
        exact this
      · have q := i3 r k
        unfold kI kL kR
        rw [if_neg (show ¬ (1 = 2 ∧ _) by omega), if_neg (show ¬ (1 = 3 ∧ _) by omega), if_neg (show ¬ (4 ≤ 1 ∧ _) by omega)]
        refine ⟨?_, q.2.1, q.2.2⟩
        show sh_row _ a _ r k = _
        by_cases c1 : r = a
        · subst c1
          rw [sh_row_s, va_up_if]
          by_cases c2 : k = b
          · rw [if_pos c2, if_pos ⟨rfl, rfl, c2⟩]
          · rw [if_neg c2, if_neg (fun z => c2 z.2.2)]
            exact q.1
        · rw [sh_row_n c1, if_neg (fun z => c1 z.2.1)]
          exact q.1
    | 2, h2 =>
      have ha : a < kN l := of_decide_eq_true h2
      refine ⟨i1, fun r hr k => ?_, fun r k => ?_⟩
      · have hr' : kN l ≤ r := hr
        have := i2 r hr' k
        unfold kI kL kR
        rw [if_neg (show ¬ (2 = 1 ∧ _) by omega), if_neg (by show ¬ (_ ∧ r = a ∧ _); omega), if_neg (show ¬ (2 = 3 ∧ _) by omega), if_neg (by omega)]
        exact this
      · have q := i3 r k
        unfold kI kL kR
        rw [if_neg (show ¬ (2 = 1 ∧ _) by omega), if_neg (show ¬ (2 = 3 ∧ _) by omega), if_neg (show ¬ (4 ≤ 2 ∧ _) by omega)]
        refine ⟨q.1, ?_, q.2.2⟩
        show sh_row _ a _ r k = _
        by_cases c1 : r = a
        · subst c1
          rw [sh_row_s, va_up_if]
          by_cases c2 : k = b
          · rw [if_pos c2, if_pos ⟨rfl, rfl, c2⟩]
          · rw [if_neg c2, if_neg (fun z => c2 z.2.2)]
            exact q.2.1
        · rw [sh_row_n c1, if_neg (fun z => c1 z.2.1)]
          exact q.2.1
    | 3, h2 =>
      have ha : a < kN l := of_decide_eq_true h2
      refine ⟨i1, fun r hr k => ?_, fun r k => ?_⟩
      · have hr' : kN l ≤ r := hr
        have := i2 r hr' k
        unfold kI kL kR
        rw [if_neg (show ¬ (3 = 1 ∧ _) by omega), if_neg (show ¬ (3 = 2 ∧ _) by omega), if_neg (by show ¬ (_ ∧ r = a ∧ _); omega), if_neg (by omega)]
        exact this
      · have q := i3 r k
        unfold kI kL kR
        rw [if_neg (show ¬ (3 = 1 ∧ _) by omega), if_neg (show ¬ (3 = 2 ∧ _) by omega), if_neg (show ¬ (4 ≤ 3 ∧ _) by omega)]
        refine ⟨q.1, q.2.1, ?_⟩
        show sh_row _ a _ r k = _
        by_cases c1 : r = a
        · subst c1
          rw [sh_row_s, va_up_if]
          by_cases c2 : k = b
          · rw [if_pos c2, if_pos ⟨rfl, rfl, c2⟩]
          · rw [if_neg c2, if_neg (fun z => c2 z.2.2)]
            exact q.2.2
        · rw [sh_row_n c1, if_neg (fun z => c1 z.2.1)]
          exact q.2.2
    | g + 4, _ =>
      have i1' : (kF l).1.length = kN l := i1
      refine ⟨?_, fun r hr k => ?_, fun r k => ?_⟩
      · show (sh_lay (kF l) ++ _ :: List.replicate a _).length = kN l + 1 + a
        rw [List.length_append, i1, List.length_cons, List.length_replicate]
        omega
      · have hr' : kN l + 1 + a ≤ r := hr
        have := i2 r (by omega) k
        unfold kI kL kR
        rw [if_neg (show ¬ (g + 4 = 1 ∧ _) by omega), if_neg (show ¬ (g + 4 = 2 ∧ _) by omega), if_neg (show ¬ (g + 4 = 3 ∧ _) by omega), if_neg (by omega)]
        exact this
      · have q := i3 r k
        unfold kI kL kR
        rw [if_neg (show ¬ (g + 4 = 1 ∧ _) by omega), if_neg (show ¬ (g + 4 = 2 ∧ _) by omega), if_neg (show ¬ (g + 4 = 3 ∧ _) by omega)]
        by_cases c1 : kN l ≤ r
        · have z := i2 r c1 k
          refine ⟨?_, ?_, ?_⟩
          · rw [z.1]; show (if (kF l).1.length ≤ r then _ else _ : Nat → Int32) k = _; rw [if_pos (by omega)]
          · rw [z.2.1]; show (if (kF l).1.length ≤ r then _ else _ : Nat → Int64) k = _; rw [if_pos (by omega)]
          · show (if r = (kF l).1.length then _ else _ : Nat → Option Nat) k = _
            by_cases c2 : r = kN l
            · rw [if_pos (by omega), if_pos (show 4 ≤ g + 4 ∧ r = kN l from ⟨by omega, c2⟩), i1']
            · rw [if_neg (by omega), if_pos (by omega), if_neg (fun y => c2 y.2), z.2.2]
        · refine ⟨?_, ?_, ?_⟩
          · rw [← q.1]; show (if (kF l).1.length ≤ r then _ else _ : Nat → Int32) k = _; rw [if_neg (by omega)]
          · rw [← q.2.1]; show (if (kF l).1.length ≤ r then _ else _ : Nat → Int64) k = _; rw [if_neg (by omega)]
          · rw [if_neg (fun y => c1 (by omega)), ← q.2.2]
            show (if r = (kF l).1.length then _ else _ : Nat → Option Nat) k = _
            rw [if_neg (by omega), if_neg (by omega)]
theorem kI_row {r : Nat} : ∀ l : List ke, l.all (fun e => !(e.1 == 1 && e.2.1 == r)) = true → ∀ k, kI r k l = 0 := by
  intro l
  induction l with
  | nil => exact fun _ _ => rfl
  | cons e l ih =>
    intro h k
    rw [List.all_cons, Bool.and_eq_true] at h
    unfold kI
    rw [if_neg (fun z => ?_), ih h.2 k]
    have h1 := h.1
    rw [z.1, z.2.1] at h1
    simp at h1
def kl_0 : List ke := []
theorem kk_0 : km_0 = kF kl_0 := rfl
def kl_1 : List ke := (0, 11, 0, 0) :: kl_0
theorem kk_1 : km_1 = kF kl_1 := (show km_1 = kE (0, 11, 0, 0) km_0 from rfl).trans (congrArg (kE (0, 11, 0, 0)) kk_0)
def kl_2 : List ke := (0, 13, 1600, 0) :: kl_1
theorem kk_2 : km_2 = kF kl_2 := (show km_2 = kE (0, 13, 1600, 0) km_1 from rfl).trans (congrArg (kE (0, 13, 1600, 0)) kk_1)
def kl_3 : List ke := (3, 0, 0, 1) :: kl_2
theorem kk_3 : km_3 = kF kl_3 := (show km_3 = kE (3, 0, 0, 1) km_2 from rfl).trans (congrArg (kE (3, 0, 0, 1)) kk_2)
def kl_4 : List ke := (0, 8, 0, 0) :: kl_3
theorem kk_4 : km_4 = kF kl_4 := (show km_4 = kE (0, 8, 0, 0) km_3 from rfl).trans (congrArg (kE (0, 8, 0, 0)) kk_3)
def kl_5 : List ke := (3, 2, 0, 1) :: kl_4
theorem kk_5 : km_5 = kF kl_5 := (show km_5 = kE (3, 2, 0, 1) km_4 from rfl).trans (congrArg (kE (3, 2, 0, 1)) kk_4)
def kl_6 : List ke := (3, 0, 2, 2) :: kl_5
theorem kk_6 : km_6 = kF kl_6 := (show km_6 = kE (3, 0, 2, 2) km_5 from rfl).trans (congrArg (kE (3, 0, 2, 2)) kk_5)
def kl_7 : List ke := (0, 1, 0, 0) :: kl_6
theorem kk_7 : km_7 = kF kl_7 := (show km_7 = kE (0, 1, 0, 0) km_6 from rfl).trans (congrArg (kE (0, 1, 0, 0)) kk_6)
def kl_8 : List ke := (0, 13, 1600, 0) :: kl_7
theorem kk_8 : km_8 = kF kl_8 := (show km_8 = kE (0, 13, 1600, 0) km_7 from rfl).trans (congrArg (kE (0, 13, 1600, 0)) kk_7)
def kl_9 : List ke := (3, 3, 0, 4) :: kl_8
theorem kk_9 : km_9 = kF kl_9 := (show km_9 = kE (3, 3, 0, 4) km_8 from rfl).trans (congrArg (kE (3, 3, 0, 4)) kk_8)
def kl_10 : List ke := (0, 14, 64, 0) :: kl_9
theorem kk_10 : km_10 = kF kl_10 := (show km_10 = kE (0, 14, 64, 0) km_9 from rfl).trans (congrArg (kE (0, 14, 64, 0)) kk_9)
def kl_11 : List ke := (3, 3, 2, 5) :: kl_10
theorem kk_11 : km_11 = kF kl_11 := (show km_11 = kE (3, 3, 2, 5) km_10 from rfl).trans (congrArg (kE (3, 3, 2, 5)) kk_10)
def kl_12 : List ke := (3, 0, 3, 3) :: kl_11
theorem kk_12 : km_12 = kF kl_12 := (show km_12 = kE (3, 0, 3, 3) km_11 from rfl).trans (congrArg (kE (3, 0, 3, 3)) kk_11)
def kl_13 : List ke := (0, 2, 0, 0) :: kl_12
theorem kk_13 : km_13 = kF kl_13 := (show km_13 = kE (0, 2, 0, 0) km_12 from rfl).trans (congrArg (kE (0, 2, 0, 0)) kk_12)
def kl_14 : List ke := (3, 6, 0, 2) :: kl_13
theorem kk_14 : km_14 = kF kl_14 := (show km_14 = kE (3, 6, 0, 2) km_13 from rfl).trans (congrArg (kE (3, 6, 0, 2)) kk_13)
def kl_15 : List ke := (3, 6, 1, 3) :: kl_14
theorem kk_15 : km_15 = kF kl_15 := (show km_15 = kE (3, 6, 1, 3) km_14 from rfl).trans (congrArg (kE (3, 6, 1, 3)) kk_14)
def kl_16 : List ke := (3, 0, 4, 6) :: kl_15
theorem kk_16 : km_16 = kF kl_16 := (show km_16 = kE (3, 0, 4, 6) km_15 from rfl).trans (congrArg (kE (3, 0, 4, 6)) kk_15)
def kl_17 : List ke := (0, 6, 0, 0) :: kl_16
theorem kk_17 : km_17 = kF kl_17 := (show km_17 = kE (0, 6, 0, 0) km_16 from rfl).trans (congrArg (kE (0, 6, 0, 0)) kk_16)
def kl_18 : List ke := (0, 5, 0, 0) :: kl_17
theorem kk_18 : km_18 = kF kl_18 := (show km_18 = kE (0, 5, 0, 0) km_17 from rfl).trans (congrArg (kE (0, 5, 0, 0)) kk_17)
def kl_19 : List ke := (0, 13, 5, 0) :: kl_18
theorem kk_19 : km_19 = kF kl_19 := (show km_19 = kE (0, 13, 5, 0) km_18 from rfl).trans (congrArg (kE (0, 13, 5, 0)) kk_18)
def kl_20 : List ke := (3, 8, 6, 9) :: kl_19
theorem kk_20 : km_20 = kF kl_20 := (show km_20 = kE (3, 8, 6, 9) km_19 from rfl).trans (congrArg (kE (3, 8, 6, 9)) kk_19)
def kl_21 : List ke := (0, 13, 7, 0) :: kl_20
theorem kk_21 : km_21 = kF kl_21 := (show km_21 = kE (0, 13, 7, 0) km_20 from rfl).trans (congrArg (kE (0, 13, 7, 0)) kk_20)
def kl_22 : List ke := (3, 8, 7, 10) :: kl_21
theorem kk_22 : km_22 = kF kl_22 := (show km_22 = kE (3, 8, 7, 10) km_21 from rfl).trans (congrArg (kE (3, 8, 7, 10)) kk_21)
def kl_23 : List ke := (0, 13, 12, 0) :: kl_22
theorem kk_23 : km_23 = kF kl_23 := (show km_23 = kE (0, 13, 12, 0) km_22 from rfl).trans (congrArg (kE (0, 13, 12, 0)) kk_22)
def kl_24 : List ke := (3, 8, 8, 11) :: kl_23
theorem kk_24 : km_24 = kF kl_24 := (show km_24 = kE (3, 8, 8, 11) km_23 from rfl).trans (congrArg (kE (3, 8, 8, 11)) kk_23)
def kl_25 : List ke := (0, 13, 12, 0) :: kl_24
theorem kk_25 : km_25 = kF kl_25 := (show km_25 = kE (0, 13, 12, 0) km_24 from rfl).trans (congrArg (kE (0, 13, 12, 0)) kk_24)
def kl_26 : List ke := (3, 8, 9, 12) :: kl_25
theorem kk_26 : km_26 = kF kl_26 := (show km_26 = kE (3, 8, 9, 12) km_25 from rfl).trans (congrArg (kE (3, 8, 9, 12)) kk_25)
def kl_27 : List ke := (0, 1, 0, 0) :: kl_26
theorem kk_27 : km_27 = kF kl_27 := (show km_27 = kE (0, 1, 0, 0) km_26 from rfl).trans (congrArg (kE (0, 1, 0, 0)) kk_26)
def kl_28 : List ke := (0, 13, 1600, 0) :: kl_27
theorem kk_28 : km_28 = kF kl_28 := (show km_28 = kE (0, 13, 1600, 0) km_27 from rfl).trans (congrArg (kE (0, 13, 1600, 0)) kk_27)
def kl_29 : List ke := (3, 13, 0, 14) :: kl_28
theorem kk_29 : km_29 = kF kl_29 := (show km_29 = kE (3, 13, 0, 14) km_28 from rfl).trans (congrArg (kE (3, 13, 0, 14)) kk_28)
def kl_30 : List ke := (0, 14, 64, 0) :: kl_29
theorem kk_30 : km_30 = kF kl_30 := (show km_30 = kE (0, 14, 64, 0) km_29 from rfl).trans (congrArg (kE (0, 14, 64, 0)) kk_29)
def kl_31 : List ke := (3, 13, 2, 15) :: kl_30
theorem kk_31 : km_31 = kF kl_31 := (show km_31 = kE (3, 13, 2, 15) km_30 from rfl).trans (congrArg (kE (3, 13, 2, 15)) kk_30)
def kl_32 : List ke := (3, 8, 10, 13) :: kl_31
theorem kk_32 : km_32 = kF kl_32 := (show km_32 = kE (3, 8, 10, 13) km_31 from rfl).trans (congrArg (kE (3, 8, 10, 13)) kk_31)
def kl_33 : List ke := (0, 1, 0, 0) :: kl_32
theorem kk_33 : km_33 = kF kl_33 := (show km_33 = kE (0, 1, 0, 0) km_32 from rfl).trans (congrArg (kE (0, 1, 0, 0)) kk_32)
def kl_34 : List ke := (0, 13, 1600, 0) :: kl_33
theorem kk_34 : km_34 = kF kl_34 := (show km_34 = kE (0, 13, 1600, 0) km_33 from rfl).trans (congrArg (kE (0, 13, 1600, 0)) kk_33)
def kl_35 : List ke := (3, 16, 0, 17) :: kl_34
theorem kk_35 : km_35 = kF kl_35 := (show km_35 = kE (3, 16, 0, 17) km_34 from rfl).trans (congrArg (kE (3, 16, 0, 17)) kk_34)
def kl_36 : List ke := (0, 14, 64, 0) :: kl_35
theorem kk_36 : km_36 = kF kl_36 := (show km_36 = kE (0, 14, 64, 0) km_35 from rfl).trans (congrArg (kE (0, 14, 64, 0)) kk_35)
def kl_37 : List ke := (3, 16, 2, 18) :: kl_36
theorem kk_37 : km_37 = kF kl_37 := (show km_37 = kE (3, 16, 2, 18) km_36 from rfl).trans (congrArg (kE (3, 16, 2, 18)) kk_36)
def kl_38 : List ke := (3, 8, 11, 16) :: kl_37
theorem kk_38 : km_38 = kF kl_38 := (show km_38 = kE (3, 8, 11, 16) km_37 from rfl).trans (congrArg (kE (3, 8, 11, 16)) kk_37)
def kl_39 : List ke := (0, 1, 0, 0) :: kl_38
theorem kk_39 : km_39 = kF kl_39 := (show km_39 = kE (0, 1, 0, 0) km_38 from rfl).trans (congrArg (kE (0, 1, 0, 0)) kk_38)
def kl_40 : List ke := (0, 13, 1600, 0) :: kl_39
theorem kk_40 : km_40 = kF kl_40 := (show km_40 = kE (0, 13, 1600, 0) km_39 from rfl).trans (congrArg (kE (0, 13, 1600, 0)) kk_39)
def kl_41 : List ke := (3, 19, 0, 20) :: kl_40
theorem kk_41 : km_41 = kF kl_41 := (show km_41 = kE (3, 19, 0, 20) km_40 from rfl).trans (congrArg (kE (3, 19, 0, 20)) kk_40)
def kl_42 : List ke := (0, 14, 64, 0) :: kl_41
theorem kk_42 : km_42 = kF kl_42 := (show km_42 = kE (0, 14, 64, 0) km_41 from rfl).trans (congrArg (kE (0, 14, 64, 0)) kk_41)
def kl_43 : List ke := (3, 19, 2, 21) :: kl_42
theorem kk_43 : km_43 = kF kl_43 := (show km_43 = kE (3, 19, 2, 21) km_42 from rfl).trans (congrArg (kE (3, 19, 2, 21)) kk_42)
def kl_44 : List ke := (3, 8, 12, 19) :: kl_43
theorem kk_44 : km_44 = kF kl_44 := (show km_44 = kE (3, 8, 12, 19) km_43 from rfl).trans (congrArg (kE (3, 8, 12, 19)) kk_43)
def kl_45 : List ke := (0, 3, 0, 0) :: kl_44
theorem kk_45 : km_45 = kF kl_45 := (show km_45 = kE (0, 3, 0, 0) km_44 from rfl).trans (congrArg (kE (0, 3, 0, 0)) kk_44)
def kl_46 : List ke := (0, 13, 49, 0) :: kl_45
theorem kk_46 : km_46 = kF kl_46 := (show km_46 = kE (0, 13, 49, 0) km_45 from rfl).trans (congrArg (kE (0, 13, 49, 0)) kk_45)
def kl_47 : List ke := (3, 22, 1, 23) :: kl_46
theorem kk_47 : km_47 = kF kl_47 := (show km_47 = kE (3, 22, 1, 23) km_46 from rfl).trans (congrArg (kE (3, 22, 1, 23)) kk_46)
def kl_48 : List ke := (0, 13, 7, 0) :: kl_47
theorem kk_48 : km_48 = kF kl_48 := (show km_48 = kE (0, 13, 7, 0) km_47 from rfl).trans (congrArg (kE (0, 13, 7, 0)) kk_47)
def kl_49 : List ke := (3, 22, 2, 24) :: kl_48
theorem kk_49 : km_49 = kF kl_49 := (show km_49 = kE (3, 22, 2, 24) km_48 from rfl).trans (congrArg (kE (3, 22, 2, 24)) kk_48)
def kl_50 : List ke := (0, 13, 7, 0) :: kl_49
theorem kk_50 : km_50 = kF kl_50 := (show km_50 = kE (0, 13, 7, 0) km_49 from rfl).trans (congrArg (kE (0, 13, 7, 0)) kk_49)
def kl_51 : List ke := (3, 22, 3, 25) :: kl_50
theorem kk_51 : km_51 = kF kl_51 := (show km_51 = kE (3, 22, 3, 25) km_50 from rfl).trans (congrArg (kE (3, 22, 3, 25)) kk_50)
def kl_52 : List ke := (0, 13, 7, 0) :: kl_51
theorem kk_52 : km_52 = kF kl_52 := (show km_52 = kE (0, 13, 7, 0) km_51 from rfl).trans (congrArg (kE (0, 13, 7, 0)) kk_51)
def kl_53 : List ke := (3, 22, 4, 26) :: kl_52
theorem kk_53 : km_53 = kF kl_53 := (show km_53 = kE (3, 22, 4, 26) km_52 from rfl).trans (congrArg (kE (3, 22, 4, 26)) kk_52)
def kl_54 : List ke := (0, 13, 7, 0) :: kl_53
theorem kk_54 : km_54 = kF kl_54 := (show km_54 = kE (0, 13, 7, 0) km_53 from rfl).trans (congrArg (kE (0, 13, 7, 0)) kk_53)
def kl_55 : List ke := (3, 22, 5, 27) :: kl_54
theorem kk_55 : km_55 = kF kl_55 := (show km_55 = kE (3, 22, 5, 27) km_54 from rfl).trans (congrArg (kE (3, 22, 5, 27)) kk_54)
def kl_56 : List ke := (3, 8, 16, 22) :: kl_55
theorem kk_56 : km_56 = kF kl_56 := (show km_56 = kE (3, 8, 16, 22) km_55 from rfl).trans (congrArg (kE (3, 8, 16, 22)) kk_55)
def kl_57 : List ke := (3, 7, 2, 8) :: kl_56
theorem kk_57 : km_57 = kF kl_57 := (show km_57 = kE (3, 7, 2, 8) km_56 from rfl).trans (congrArg (kE (3, 7, 2, 8)) kk_56)
def kl_58 : List ke := (3, 7, 0, 2) :: kl_57
theorem kk_58 : km_58 = kF kl_58 := (show km_58 = kE (3, 7, 0, 2) km_57 from rfl).trans (congrArg (kE (3, 7, 0, 2)) kk_57)
def kl_59 : List ke := (3, 7, 1, 6) :: kl_58
theorem kk_59 : km_59 = kF kl_59 := (show km_59 = kE (3, 7, 1, 6) km_58 from rfl).trans (congrArg (kE (3, 7, 1, 6)) kk_58)
def kl_60 : List ke := (3, 0, 5, 7) :: kl_59
theorem kk_60 : km_60 = kF kl_60 := (show km_60 = kE (3, 0, 5, 7) km_59 from rfl).trans (congrArg (kE (3, 0, 5, 7)) kk_59)
def kl_61 : List ke := (0, 13, 38, 0) :: kl_60
theorem kk_61 : km_61 = kF kl_61 := (show km_61 = kE (0, 13, 38, 0) km_60 from rfl).trans (congrArg (kE (0, 13, 38, 0)) kk_60)
def kl_62 : List ke := (3, 0, 6, 28) :: kl_61
theorem kk_62 : km_62 = kF kl_62 := (show km_62 = kE (3, 0, 6, 28) km_61 from rfl).trans (congrArg (kE (3, 0, 6, 28)) kk_61)
def kl_63 : List ke := (0, 5, 0, 0) :: kl_62
theorem kk_63 : km_63 = kF kl_63 := (show km_63 = kE (0, 5, 0, 0) km_62 from rfl).trans (congrArg (kE (0, 5, 0, 0)) kk_62)
def kl_64 : List ke := (0, 13, 5, 0) :: kl_63
theorem kk_64 : km_64 = kF kl_64 := (show km_64 = kE (0, 13, 5, 0) km_63 from rfl).trans (congrArg (kE (0, 13, 5, 0)) kk_63)
def kl_65 : List ke := (3, 29, 6, 30) :: kl_64
theorem kk_65 : km_65 = kF kl_65 := (show km_65 = kE (3, 29, 6, 30) km_64 from rfl).trans (congrArg (kE (3, 29, 6, 30)) kk_64)
def kl_66 : List ke := (0, 13, 7, 0) :: kl_65
theorem kk_66 : km_66 = kF kl_66 := (show km_66 = kE (0, 13, 7, 0) km_65 from rfl).trans (congrArg (kE (0, 13, 7, 0)) kk_65)
def kl_67 : List ke := (3, 29, 7, 31) :: kl_66
theorem kk_67 : km_67 = kF kl_67 := (show km_67 = kE (3, 29, 7, 31) km_66 from rfl).trans (congrArg (kE (3, 29, 7, 31)) kk_66)
def kl_68 : List ke := (0, 13, 12, 0) :: kl_67
theorem kk_68 : km_68 = kF kl_68 := (show km_68 = kE (0, 13, 12, 0) km_67 from rfl).trans (congrArg (kE (0, 13, 12, 0)) kk_67)
def kl_69 : List ke := (3, 29, 8, 32) :: kl_68
theorem kk_69 : km_69 = kF kl_69 := (show km_69 = kE (3, 29, 8, 32) km_68 from rfl).trans (congrArg (kE (3, 29, 8, 32)) kk_68)
def kl_70 : List ke := (0, 13, 12, 0) :: kl_69
theorem kk_70 : km_70 = kF kl_70 := (show km_70 = kE (0, 13, 12, 0) km_69 from rfl).trans (congrArg (kE (0, 13, 12, 0)) kk_69)
def kl_71 : List ke := (3, 29, 9, 33) :: kl_70
theorem kk_71 : km_71 = kF kl_71 := (show km_71 = kE (3, 29, 9, 33) km_70 from rfl).trans (congrArg (kE (3, 29, 9, 33)) kk_70)
def kl_72 : List ke := (0, 1, 0, 0) :: kl_71
theorem kk_72 : km_72 = kF kl_72 := (show km_72 = kE (0, 1, 0, 0) km_71 from rfl).trans (congrArg (kE (0, 1, 0, 0)) kk_71)
def kl_73 : List ke := (0, 13, 1600, 0) :: kl_72
theorem kk_73 : km_73 = kF kl_73 := (show km_73 = kE (0, 13, 1600, 0) km_72 from rfl).trans (congrArg (kE (0, 13, 1600, 0)) kk_72)
def kl_74 : List ke := (3, 34, 0, 35) :: kl_73
theorem kk_74 : km_74 = kF kl_74 := (show km_74 = kE (3, 34, 0, 35) km_73 from rfl).trans (congrArg (kE (3, 34, 0, 35)) kk_73)
def kl_75 : List ke := (0, 14, 64, 0) :: kl_74
theorem kk_75 : km_75 = kF kl_75 := (show km_75 = kE (0, 14, 64, 0) km_74 from rfl).trans (congrArg (kE (0, 14, 64, 0)) kk_74)
def kl_76 : List ke := (3, 34, 2, 36) :: kl_75
theorem kk_76 : km_76 = kF kl_76 := (show km_76 = kE (3, 34, 2, 36) km_75 from rfl).trans (congrArg (kE (3, 34, 2, 36)) kk_75)
def kl_77 : List ke := (3, 29, 10, 34) :: kl_76
theorem kk_77 : km_77 = kF kl_77 := (show km_77 = kE (3, 29, 10, 34) km_76 from rfl).trans (congrArg (kE (3, 29, 10, 34)) kk_76)
def kl_78 : List ke := (0, 1, 0, 0) :: kl_77
theorem kk_78 : km_78 = kF kl_78 := (show km_78 = kE (0, 1, 0, 0) km_77 from rfl).trans (congrArg (kE (0, 1, 0, 0)) kk_77)
def kl_79 : List ke := (0, 13, 1600, 0) :: kl_78
theorem kk_79 : km_79 = kF kl_79 := (show km_79 = kE (0, 13, 1600, 0) km_78 from rfl).trans (congrArg (kE (0, 13, 1600, 0)) kk_78)
def kl_80 : List ke := (3, 37, 0, 38) :: kl_79
theorem kk_80 : km_80 = kF kl_80 := (show km_80 = kE (3, 37, 0, 38) km_79 from rfl).trans (congrArg (kE (3, 37, 0, 38)) kk_79)
def kl_81 : List ke := (0, 14, 64, 0) :: kl_80
theorem kk_81 : km_81 = kF kl_81 := (show km_81 = kE (0, 14, 64, 0) km_80 from rfl).trans (congrArg (kE (0, 14, 64, 0)) kk_80)
def kl_82 : List ke := (3, 37, 2, 39) :: kl_81
theorem kk_82 : km_82 = kF kl_82 := (show km_82 = kE (3, 37, 2, 39) km_81 from rfl).trans (congrArg (kE (3, 37, 2, 39)) kk_81)
def kl_83 : List ke := (3, 29, 11, 37) :: kl_82
theorem kk_83 : km_83 = kF kl_83 := (show km_83 = kE (3, 29, 11, 37) km_82 from rfl).trans (congrArg (kE (3, 29, 11, 37)) kk_82)
def kl_84 : List ke := (0, 1, 0, 0) :: kl_83
theorem kk_84 : km_84 = kF kl_84 := (show km_84 = kE (0, 1, 0, 0) km_83 from rfl).trans (congrArg (kE (0, 1, 0, 0)) kk_83)
def kl_85 : List ke := (0, 13, 1600, 0) :: kl_84
theorem kk_85 : km_85 = kF kl_85 := (show km_85 = kE (0, 13, 1600, 0) km_84 from rfl).trans (congrArg (kE (0, 13, 1600, 0)) kk_84)
def kl_86 : List ke := (3, 40, 0, 41) :: kl_85
theorem kk_86 : km_86 = kF kl_86 := (show km_86 = kE (3, 40, 0, 41) km_85 from rfl).trans (congrArg (kE (3, 40, 0, 41)) kk_85)
def kl_87 : List ke := (0, 14, 64, 0) :: kl_86
theorem kk_87 : km_87 = kF kl_87 := (show km_87 = kE (0, 14, 64, 0) km_86 from rfl).trans (congrArg (kE (0, 14, 64, 0)) kk_86)
def kl_88 : List ke := (3, 40, 2, 42) :: kl_87
theorem kk_88 : km_88 = kF kl_88 := (show km_88 = kE (3, 40, 2, 42) km_87 from rfl).trans (congrArg (kE (3, 40, 2, 42)) kk_87)
def kl_89 : List ke := (3, 29, 12, 40) :: kl_88
theorem kk_89 : km_89 = kF kl_89 := (show km_89 = kE (3, 29, 12, 40) km_88 from rfl).trans (congrArg (kE (3, 29, 12, 40)) kk_88)
def kl_90 : List ke := (0, 3, 0, 0) :: kl_89
theorem kk_90 : km_90 = kF kl_90 := (show km_90 = kE (0, 3, 0, 0) km_89 from rfl).trans (congrArg (kE (0, 3, 0, 0)) kk_89)
def kl_91 : List ke := (0, 13, 49, 0) :: kl_90
theorem kk_91 : km_91 = kF kl_91 := (show km_91 = kE (0, 13, 49, 0) km_90 from rfl).trans (congrArg (kE (0, 13, 49, 0)) kk_90)
def kl_92 : List ke := (3, 43, 1, 44) :: kl_91
theorem kk_92 : km_92 = kF kl_92 := (show km_92 = kE (3, 43, 1, 44) km_91 from rfl).trans (congrArg (kE (3, 43, 1, 44)) kk_91)
def kl_93 : List ke := (0, 13, 7, 0) :: kl_92
theorem kk_93 : km_93 = kF kl_93 := (show km_93 = kE (0, 13, 7, 0) km_92 from rfl).trans (congrArg (kE (0, 13, 7, 0)) kk_92)
def kl_94 : List ke := (3, 43, 2, 45) :: kl_93
theorem kk_94 : km_94 = kF kl_94 := (show km_94 = kE (3, 43, 2, 45) km_93 from rfl).trans (congrArg (kE (3, 43, 2, 45)) kk_93)
def kl_95 : List ke := (0, 13, 7, 0) :: kl_94
theorem kk_95 : km_95 = kF kl_95 := (show km_95 = kE (0, 13, 7, 0) km_94 from rfl).trans (congrArg (kE (0, 13, 7, 0)) kk_94)
def kl_96 : List ke := (3, 43, 3, 46) :: kl_95
theorem kk_96 : km_96 = kF kl_96 := (show km_96 = kE (3, 43, 3, 46) km_95 from rfl).trans (congrArg (kE (3, 43, 3, 46)) kk_95)
def kl_97 : List ke := (0, 13, 7, 0) :: kl_96
theorem kk_97 : km_97 = kF kl_97 := (show km_97 = kE (0, 13, 7, 0) km_96 from rfl).trans (congrArg (kE (0, 13, 7, 0)) kk_96)
def kl_98 : List ke := (3, 43, 4, 47) :: kl_97
theorem kk_98 : km_98 = kF kl_98 := (show km_98 = kE (3, 43, 4, 47) km_97 from rfl).trans (congrArg (kE (3, 43, 4, 47)) kk_97)
def kl_99 : List ke := (0, 13, 7, 0) :: kl_98
theorem kk_99 : km_99 = kF kl_99 := (show km_99 = kE (0, 13, 7, 0) km_98 from rfl).trans (congrArg (kE (0, 13, 7, 0)) kk_98)
def kl_100 : List ke := (3, 43, 5, 48) :: kl_99
theorem kk_100 : km_100 = kF kl_100 := (show km_100 = kE (3, 43, 5, 48) km_99 from rfl).trans (congrArg (kE (3, 43, 5, 48)) kk_99)
def kl_101 : List ke := (3, 29, 16, 43) :: kl_100
theorem kk_101 : km_101 = kF kl_101 := (show km_101 = kE (3, 29, 16, 43) km_100 from rfl).trans (congrArg (kE (3, 29, 16, 43)) kk_100)
def kl_102 : List ke := (3, 0, 7, 29) :: kl_101
theorem kk_102 : km_102 = kF kl_102 := (show km_102 = kE (3, 0, 7, 29) km_101 from rfl).trans (congrArg (kE (3, 0, 7, 29)) kk_101)
def kl_103 : List ke := (0, 3, 0, 0) :: kl_102
theorem kk_103 : km_103 = kF kl_103 := (show km_103 = kE (0, 3, 0, 0) km_102 from rfl).trans (congrArg (kE (0, 3, 0, 0)) kk_102)
def kl_104 : List ke := (0, 13, 49, 0) :: kl_103
theorem kk_104 : km_104 = kF kl_104 := (show km_104 = kE (0, 13, 49, 0) km_103 from rfl).trans (congrArg (kE (0, 13, 49, 0)) kk_103)
def kl_105 : List ke := (3, 49, 1, 50) :: kl_104
theorem kk_105 : km_105 = kF kl_105 := (show km_105 = kE (3, 49, 1, 50) km_104 from rfl).trans (congrArg (kE (3, 49, 1, 50)) kk_104)
def kl_106 : List ke := (0, 13, 7, 0) :: kl_105
theorem kk_106 : km_106 = kF kl_106 := (show km_106 = kE (0, 13, 7, 0) km_105 from rfl).trans (congrArg (kE (0, 13, 7, 0)) kk_105)
def kl_107 : List ke := (3, 49, 2, 51) :: kl_106
theorem kk_107 : km_107 = kF kl_107 := (show km_107 = kE (3, 49, 2, 51) km_106 from rfl).trans (congrArg (kE (3, 49, 2, 51)) kk_106)
def kl_108 : List ke := (0, 13, 7, 0) :: kl_107
theorem kk_108 : km_108 = kF kl_108 := (show km_108 = kE (0, 13, 7, 0) km_107 from rfl).trans (congrArg (kE (0, 13, 7, 0)) kk_107)
def kl_109 : List ke := (3, 49, 3, 52) :: kl_108
theorem kk_109 : km_109 = kF kl_109 := (show km_109 = kE (3, 49, 3, 52) km_108 from rfl).trans (congrArg (kE (3, 49, 3, 52)) kk_108)
def kl_110 : List ke := (0, 13, 7, 0) :: kl_109
theorem kk_110 : km_110 = kF kl_110 := (show km_110 = kE (0, 13, 7, 0) km_109 from rfl).trans (congrArg (kE (0, 13, 7, 0)) kk_109)
def kl_111 : List ke := (3, 49, 4, 53) :: kl_110
theorem kk_111 : km_111 = kF kl_111 := (show km_111 = kE (3, 49, 4, 53) km_110 from rfl).trans (congrArg (kE (3, 49, 4, 53)) kk_110)
def kl_112 : List ke := (0, 13, 7, 0) :: kl_111
theorem kk_112 : km_112 = kF kl_112 := (show km_112 = kE (0, 13, 7, 0) km_111 from rfl).trans (congrArg (kE (0, 13, 7, 0)) kk_111)
def kl_113 : List ke := (3, 49, 5, 54) :: kl_112
theorem kk_113 : km_113 = kF kl_113 := (show km_113 = kE (3, 49, 5, 54) km_112 from rfl).trans (congrArg (kE (3, 49, 5, 54)) kk_112)
def kl_114 : List ke := (3, 0, 8, 49) :: kl_113
theorem kk_114 : km_114 = kF kl_114 := (show km_114 = kE (3, 0, 8, 49) km_113 from rfl).trans (congrArg (kE (3, 0, 8, 49)) kk_113)
def kl_115 : List ke := (0, 10, 0, 0) :: kl_114
theorem kk_115 : km_115 = kF kl_115 := (show km_115 = kE (0, 10, 0, 0) km_114 from rfl).trans (congrArg (kE (0, 10, 0, 0)) kk_114)
def kl_116 : List ke := (0, 13, 38, 0) :: kl_115
theorem kk_116 : km_116 = kF kl_116 := (show km_116 = kE (0, 13, 38, 0) km_115 from rfl).trans (congrArg (kE (0, 13, 38, 0)) kk_115)
def kl_117 : List ke := (3, 55, 2, 56) :: kl_116
theorem kk_117 : km_117 = kF kl_117 := (show km_117 = kE (3, 55, 2, 56) km_116 from rfl).trans (congrArg (kE (3, 55, 2, 56)) kk_116)
def kl_118 : List ke := (0, 3, 0, 0) :: kl_117
theorem kk_118 : km_118 = kF kl_118 := (show km_118 = kE (0, 3, 0, 0) km_117 from rfl).trans (congrArg (kE (0, 3, 0, 0)) kk_117)
def kl_119 : List ke := (0, 13, 49, 0) :: kl_118
theorem kk_119 : km_119 = kF kl_119 := (show km_119 = kE (0, 13, 49, 0) km_118 from rfl).trans (congrArg (kE (0, 13, 49, 0)) kk_118)
def kl_120 : List ke := (3, 57, 1, 58) :: kl_119
theorem kk_120 : km_120 = kF kl_120 := (show km_120 = kE (3, 57, 1, 58) km_119 from rfl).trans (congrArg (kE (3, 57, 1, 58)) kk_119)
def kl_121 : List ke := (0, 13, 7, 0) :: kl_120
theorem kk_121 : km_121 = kF kl_121 := (show km_121 = kE (0, 13, 7, 0) km_120 from rfl).trans (congrArg (kE (0, 13, 7, 0)) kk_120)
def kl_122 : List ke := (3, 57, 2, 59) :: kl_121
theorem kk_122 : km_122 = kF kl_122 := (show km_122 = kE (3, 57, 2, 59) km_121 from rfl).trans (congrArg (kE (3, 57, 2, 59)) kk_121)
def kl_123 : List ke := (0, 13, 7, 0) :: kl_122
theorem kk_123 : km_123 = kF kl_123 := (show km_123 = kE (0, 13, 7, 0) km_122 from rfl).trans (congrArg (kE (0, 13, 7, 0)) kk_122)
def kl_124 : List ke := (3, 57, 3, 60) :: kl_123
theorem kk_124 : km_124 = kF kl_124 := (show km_124 = kE (3, 57, 3, 60) km_123 from rfl).trans (congrArg (kE (3, 57, 3, 60)) kk_123)
def kl_125 : List ke := (0, 13, 7, 0) :: kl_124
theorem kk_125 : km_125 = kF kl_125 := (show km_125 = kE (0, 13, 7, 0) km_124 from rfl).trans (congrArg (kE (0, 13, 7, 0)) kk_124)
def kl_126 : List ke := (3, 57, 4, 61) :: kl_125
theorem kk_126 : km_126 = kF kl_126 := (show km_126 = kE (3, 57, 4, 61) km_125 from rfl).trans (congrArg (kE (3, 57, 4, 61)) kk_125)
def kl_127 : List ke := (0, 13, 7, 0) :: kl_126
theorem kk_127 : km_127 = kF kl_127 := (show km_127 = kE (0, 13, 7, 0) km_126 from rfl).trans (congrArg (kE (0, 13, 7, 0)) kk_126)
def kl_128 : List ke := (3, 57, 5, 62) :: kl_127
theorem kk_128 : km_128 = kF kl_128 := (show km_128 = kE (3, 57, 5, 62) km_127 from rfl).trans (congrArg (kE (3, 57, 5, 62)) kk_127)
def kl_129 : List ke := (3, 55, 3, 57) :: kl_128
theorem kk_129 : km_129 = kF kl_129 := (show km_129 = kE (3, 55, 3, 57) km_128 from rfl).trans (congrArg (kE (3, 55, 3, 57)) kk_128)
def kl_130 : List ke := (3, 55, 0, 29) :: kl_129
theorem kk_130 : km_130 = kF kl_130 := (show km_130 = kE (3, 55, 0, 29) km_129 from rfl).trans (congrArg (kE (3, 55, 0, 29)) kk_129)
def kl_131 : List ke := (3, 0, 9, 55) :: kl_130
theorem kk_131 : km_131 = kF kl_131 := (show km_131 = kE (3, 0, 9, 55) km_130 from rfl).trans (congrArg (kE (3, 0, 9, 55)) kk_130)
def kl_132 : List ke := (0, 4, 0, 0) :: kl_131
theorem kk_132 : km_132 = kF kl_132 := (show km_132 = kE (0, 4, 0, 0) km_131 from rfl).trans (congrArg (kE (0, 4, 0, 0)) kk_131)
def kl_133 : List ke := (0, 13, 160, 0) :: kl_132
theorem kk_133 : km_133 = kF kl_133 := (show km_133 = kE (0, 13, 160, 0) km_132 from rfl).trans (congrArg (kE (0, 13, 160, 0)) kk_132)
def kl_134 : List ke := (3, 63, 0, 64) :: kl_133
theorem kk_134 : km_134 = kF kl_134 := (show km_134 = kE (3, 63, 0, 64) km_133 from rfl).trans (congrArg (kE (3, 63, 0, 64)) kk_133)
def kl_135 : List ke := (0, 16, 20, 0) :: kl_134
theorem kk_135 : km_135 = kF kl_135 := (show km_135 = kE (0, 16, 20, 0) km_134 from rfl).trans (congrArg (kE (0, 16, 20, 0)) kk_134)
def kl_136 : List ke := (3, 63, 4, 65) :: kl_135
theorem kk_136 : km_136 = kF kl_136 := (show km_136 = kE (3, 63, 4, 65) km_135 from rfl).trans (congrArg (kE (3, 63, 4, 65)) kk_135)
def kl_137 : List ke := (4, 20, 160, 0) :: kl_136
theorem kk_137 : km_137 = kF kl_137 := (show km_137 = kE (4, 20, 160, 0) km_136 from rfl).trans (congrArg (kE (4, 20, 160, 0)) kk_136)
def kl_138 : List ke := (3, 63, 5, 66) :: kl_137
theorem kk_138 : km_138 = kF kl_138 := (show km_138 = kE (3, 63, 5, 66) km_137 from rfl).trans (congrArg (kE (3, 63, 5, 66)) kk_137)
def kl_139 : List ke := (0, 13, 20, 0) :: kl_138
theorem kk_139 : km_139 = kF kl_139 := (show km_139 = kE (0, 13, 20, 0) km_138 from rfl).trans (congrArg (kE (0, 13, 20, 0)) kk_138)
def kl_140 : List ke := (3, 63, 6, 87) :: kl_139
theorem kk_140 : km_140 = kF kl_140 := (show km_140 = kE (3, 63, 6, 87) km_139 from rfl).trans (congrArg (kE (3, 63, 6, 87)) kk_139)
def kl_141 : List ke := (0, 3, 0, 0) :: kl_140
theorem kk_141 : km_141 = kF kl_141 := (show km_141 = kE (0, 3, 0, 0) km_140 from rfl).trans (congrArg (kE (0, 3, 0, 0)) kk_140)
def kl_142 : List ke := (0, 13, 49, 0) :: kl_141
theorem kk_142 : km_142 = kF kl_142 := (show km_142 = kE (0, 13, 49, 0) km_141 from rfl).trans (congrArg (kE (0, 13, 49, 0)) kk_141)
def kl_143 : List ke := (3, 88, 1, 89) :: kl_142
theorem kk_143 : km_143 = kF kl_143 := (show km_143 = kE (3, 88, 1, 89) km_142 from rfl).trans (congrArg (kE (3, 88, 1, 89)) kk_142)
def kl_144 : List ke := (0, 13, 7, 0) :: kl_143
theorem kk_144 : km_144 = kF kl_144 := (show km_144 = kE (0, 13, 7, 0) km_143 from rfl).trans (congrArg (kE (0, 13, 7, 0)) kk_143)
def kl_145 : List ke := (3, 88, 2, 90) :: kl_144
theorem kk_145 : km_145 = kF kl_145 := (show km_145 = kE (3, 88, 2, 90) km_144 from rfl).trans (congrArg (kE (3, 88, 2, 90)) kk_144)
def kl_146 : List ke := (0, 13, 7, 0) :: kl_145
theorem kk_146 : km_146 = kF kl_146 := (show km_146 = kE (0, 13, 7, 0) km_145 from rfl).trans (congrArg (kE (0, 13, 7, 0)) kk_145)
def kl_147 : List ke := (3, 88, 3, 91) :: kl_146
theorem kk_147 : km_147 = kF kl_147 := (show km_147 = kE (3, 88, 3, 91) km_146 from rfl).trans (congrArg (kE (3, 88, 3, 91)) kk_146)
def kl_148 : List ke := (0, 13, 7, 0) :: kl_147
theorem kk_148 : km_148 = kF kl_148 := (show km_148 = kE (0, 13, 7, 0) km_147 from rfl).trans (congrArg (kE (0, 13, 7, 0)) kk_147)
def kl_149 : List ke := (3, 88, 4, 92) :: kl_148
theorem kk_149 : km_149 = kF kl_149 := (show km_149 = kE (3, 88, 4, 92) km_148 from rfl).trans (congrArg (kE (3, 88, 4, 92)) kk_148)
def kl_150 : List ke := (0, 13, 7, 0) :: kl_149
theorem kk_150 : km_150 = kF kl_150 := (show km_150 = kE (0, 13, 7, 0) km_149 from rfl).trans (congrArg (kE (0, 13, 7, 0)) kk_149)
def kl_151 : List ke := (3, 88, 5, 93) :: kl_150
theorem kk_151 : km_151 = kF kl_151 := (show km_151 = kE (3, 88, 5, 93) km_150 from rfl).trans (congrArg (kE (3, 88, 5, 93)) kk_150)
def kl_152 : List ke := (3, 65, 0, 88) :: kl_151
theorem kk_152 : km_152 = kF kl_152 := (show km_152 = kE (3, 65, 0, 88) km_151 from rfl).trans (congrArg (kE (3, 65, 0, 88)) kk_151)
def kl_153 : List ke := (0, 3, 0, 0) :: kl_152
theorem kk_153 : km_153 = kF kl_153 := (show km_153 = kE (0, 3, 0, 0) km_152 from rfl).trans (congrArg (kE (0, 3, 0, 0)) kk_152)
def kl_154 : List ke := (0, 13, 49, 0) :: kl_153
theorem kk_154 : km_154 = kF kl_154 := (show km_154 = kE (0, 13, 49, 0) km_153 from rfl).trans (congrArg (kE (0, 13, 49, 0)) kk_153)
def kl_155 : List ke := (3, 94, 1, 95) :: kl_154
theorem kk_155 : km_155 = kF kl_155 := (show km_155 = kE (3, 94, 1, 95) km_154 from rfl).trans (congrArg (kE (3, 94, 1, 95)) kk_154)
def kl_156 : List ke := (0, 13, 7, 0) :: kl_155
theorem kk_156 : km_156 = kF kl_156 := (show km_156 = kE (0, 13, 7, 0) km_155 from rfl).trans (congrArg (kE (0, 13, 7, 0)) kk_155)
def kl_157 : List ke := (3, 94, 2, 96) :: kl_156
theorem kk_157 : km_157 = kF kl_157 := (show km_157 = kE (3, 94, 2, 96) km_156 from rfl).trans (congrArg (kE (3, 94, 2, 96)) kk_156)
def kl_158 : List ke := (0, 13, 7, 0) :: kl_157
theorem kk_158 : km_158 = kF kl_158 := (show km_158 = kE (0, 13, 7, 0) km_157 from rfl).trans (congrArg (kE (0, 13, 7, 0)) kk_157)
def kl_159 : List ke := (3, 94, 3, 97) :: kl_158
theorem kk_159 : km_159 = kF kl_159 := (show km_159 = kE (3, 94, 3, 97) km_158 from rfl).trans (congrArg (kE (3, 94, 3, 97)) kk_158)
def kl_160 : List ke := (0, 13, 7, 0) :: kl_159
theorem kk_160 : km_160 = kF kl_160 := (show km_160 = kE (0, 13, 7, 0) km_159 from rfl).trans (congrArg (kE (0, 13, 7, 0)) kk_159)
def kl_161 : List ke := (3, 94, 4, 98) :: kl_160
theorem kk_161 : km_161 = kF kl_161 := (show km_161 = kE (3, 94, 4, 98) km_160 from rfl).trans (congrArg (kE (3, 94, 4, 98)) kk_160)
def kl_162 : List ke := (0, 13, 7, 0) :: kl_161
theorem kk_162 : km_162 = kF kl_162 := (show km_162 = kE (0, 13, 7, 0) km_161 from rfl).trans (congrArg (kE (0, 13, 7, 0)) kk_161)
def kl_163 : List ke := (3, 94, 5, 99) :: kl_162
theorem kk_163 : km_163 = kF kl_163 := (show km_163 = kE (3, 94, 5, 99) km_162 from rfl).trans (congrArg (kE (3, 94, 5, 99)) kk_162)
def kl_164 : List ke := (3, 65, 1, 94) :: kl_163
theorem kk_164 : km_164 = kF kl_164 := (show km_164 = kE (3, 65, 1, 94) km_163 from rfl).trans (congrArg (kE (3, 65, 1, 94)) kk_163)
def kl_165 : List ke := (0, 3, 0, 0) :: kl_164
theorem kk_165 : km_165 = kF kl_165 := (show km_165 = kE (0, 3, 0, 0) km_164 from rfl).trans (congrArg (kE (0, 3, 0, 0)) kk_164)
def kl_166 : List ke := (0, 13, 49, 0) :: kl_165
theorem kk_166 : km_166 = kF kl_166 := (show km_166 = kE (0, 13, 49, 0) km_165 from rfl).trans (congrArg (kE (0, 13, 49, 0)) kk_165)
def kl_167 : List ke := (3, 100, 1, 101) :: kl_166
theorem kk_167 : km_167 = kF kl_167 := (show km_167 = kE (3, 100, 1, 101) km_166 from rfl).trans (congrArg (kE (3, 100, 1, 101)) kk_166)
def kl_168 : List ke := (0, 13, 7, 0) :: kl_167
theorem kk_168 : km_168 = kF kl_168 := (show km_168 = kE (0, 13, 7, 0) km_167 from rfl).trans (congrArg (kE (0, 13, 7, 0)) kk_167)
def kl_169 : List ke := (3, 100, 2, 102) :: kl_168
theorem kk_169 : km_169 = kF kl_169 := (show km_169 = kE (3, 100, 2, 102) km_168 from rfl).trans (congrArg (kE (3, 100, 2, 102)) kk_168)
def kl_170 : List ke := (0, 13, 7, 0) :: kl_169
theorem kk_170 : km_170 = kF kl_170 := (show km_170 = kE (0, 13, 7, 0) km_169 from rfl).trans (congrArg (kE (0, 13, 7, 0)) kk_169)
def kl_171 : List ke := (3, 100, 3, 103) :: kl_170
theorem kk_171 : km_171 = kF kl_171 := (show km_171 = kE (3, 100, 3, 103) km_170 from rfl).trans (congrArg (kE (3, 100, 3, 103)) kk_170)
def kl_172 : List ke := (0, 13, 7, 0) :: kl_171
theorem kk_172 : km_172 = kF kl_172 := (show km_172 = kE (0, 13, 7, 0) km_171 from rfl).trans (congrArg (kE (0, 13, 7, 0)) kk_171)
def kl_173 : List ke := (3, 100, 4, 104) :: kl_172
theorem kk_173 : km_173 = kF kl_173 := (show km_173 = kE (3, 100, 4, 104) km_172 from rfl).trans (congrArg (kE (3, 100, 4, 104)) kk_172)
def kl_174 : List ke := (0, 13, 7, 0) :: kl_173
theorem kk_174 : km_174 = kF kl_174 := (show km_174 = kE (0, 13, 7, 0) km_173 from rfl).trans (congrArg (kE (0, 13, 7, 0)) kk_173)
def kl_175 : List ke := (3, 100, 5, 105) :: kl_174
theorem kk_175 : km_175 = kF kl_175 := (show km_175 = kE (3, 100, 5, 105) km_174 from rfl).trans (congrArg (kE (3, 100, 5, 105)) kk_174)
def kl_176 : List ke := (3, 65, 2, 100) :: kl_175
theorem kk_176 : km_176 = kF kl_176 := (show km_176 = kE (3, 65, 2, 100) km_175 from rfl).trans (congrArg (kE (3, 65, 2, 100)) kk_175)
def kl_177 : List ke := (0, 3, 0, 0) :: kl_176
theorem kk_177 : km_177 = kF kl_177 := (show km_177 = kE (0, 3, 0, 0) km_176 from rfl).trans (congrArg (kE (0, 3, 0, 0)) kk_176)
def kl_178 : List ke := (0, 13, 49, 0) :: kl_177
theorem kk_178 : km_178 = kF kl_178 := (show km_178 = kE (0, 13, 49, 0) km_177 from rfl).trans (congrArg (kE (0, 13, 49, 0)) kk_177)
def kl_179 : List ke := (3, 106, 1, 107) :: kl_178
theorem kk_179 : km_179 = kF kl_179 := (show km_179 = kE (3, 106, 1, 107) km_178 from rfl).trans (congrArg (kE (3, 106, 1, 107)) kk_178)
def kl_180 : List ke := (0, 13, 7, 0) :: kl_179
theorem kk_180 : km_180 = kF kl_180 := (show km_180 = kE (0, 13, 7, 0) km_179 from rfl).trans (congrArg (kE (0, 13, 7, 0)) kk_179)
def kl_181 : List ke := (3, 106, 2, 108) :: kl_180
theorem kk_181 : km_181 = kF kl_181 := (show km_181 = kE (3, 106, 2, 108) km_180 from rfl).trans (congrArg (kE (3, 106, 2, 108)) kk_180)
def kl_182 : List ke := (0, 13, 7, 0) :: kl_181
theorem kk_182 : km_182 = kF kl_182 := (show km_182 = kE (0, 13, 7, 0) km_181 from rfl).trans (congrArg (kE (0, 13, 7, 0)) kk_181)
def kl_183 : List ke := (3, 106, 3, 109) :: kl_182
theorem kk_183 : km_183 = kF kl_183 := (show km_183 = kE (3, 106, 3, 109) km_182 from rfl).trans (congrArg (kE (3, 106, 3, 109)) kk_182)
def kl_184 : List ke := (0, 13, 7, 0) :: kl_183
theorem kk_184 : km_184 = kF kl_184 := (show km_184 = kE (0, 13, 7, 0) km_183 from rfl).trans (congrArg (kE (0, 13, 7, 0)) kk_183)
def kl_185 : List ke := (3, 106, 4, 110) :: kl_184
theorem kk_185 : km_185 = kF kl_185 := (show km_185 = kE (3, 106, 4, 110) km_184 from rfl).trans (congrArg (kE (3, 106, 4, 110)) kk_184)
def kl_186 : List ke := (0, 13, 7, 0) :: kl_185
theorem kk_186 : km_186 = kF kl_186 := (show km_186 = kE (0, 13, 7, 0) km_185 from rfl).trans (congrArg (kE (0, 13, 7, 0)) kk_185)
def kl_187 : List ke := (3, 106, 5, 111) :: kl_186
theorem kk_187 : km_187 = kF kl_187 := (show km_187 = kE (3, 106, 5, 111) km_186 from rfl).trans (congrArg (kE (3, 106, 5, 111)) kk_186)
def kl_188 : List ke := (3, 65, 3, 106) :: kl_187
theorem kk_188 : km_188 = kF kl_188 := (show km_188 = kE (3, 65, 3, 106) km_187 from rfl).trans (congrArg (kE (3, 65, 3, 106)) kk_187)
def kl_189 : List ke := (0, 3, 0, 0) :: kl_188
theorem kk_189 : km_189 = kF kl_189 := (show km_189 = kE (0, 3, 0, 0) km_188 from rfl).trans (congrArg (kE (0, 3, 0, 0)) kk_188)
def kl_190 : List ke := (0, 13, 49, 0) :: kl_189
theorem kk_190 : km_190 = kF kl_190 := (show km_190 = kE (0, 13, 49, 0) km_189 from rfl).trans (congrArg (kE (0, 13, 49, 0)) kk_189)
def kl_191 : List ke := (3, 112, 1, 113) :: kl_190
theorem kk_191 : km_191 = kF kl_191 := (show km_191 = kE (3, 112, 1, 113) km_190 from rfl).trans (congrArg (kE (3, 112, 1, 113)) kk_190)
def kl_192 : List ke := (0, 13, 7, 0) :: kl_191
theorem kk_192 : km_192 = kF kl_192 := (show km_192 = kE (0, 13, 7, 0) km_191 from rfl).trans (congrArg (kE (0, 13, 7, 0)) kk_191)
def kl_193 : List ke := (3, 112, 2, 114) :: kl_192
theorem kk_193 : km_193 = kF kl_193 := (show km_193 = kE (3, 112, 2, 114) km_192 from rfl).trans (congrArg (kE (3, 112, 2, 114)) kk_192)
def kl_194 : List ke := (0, 13, 7, 0) :: kl_193
theorem kk_194 : km_194 = kF kl_194 := (show km_194 = kE (0, 13, 7, 0) km_193 from rfl).trans (congrArg (kE (0, 13, 7, 0)) kk_193)
def kl_195 : List ke := (3, 112, 3, 115) :: kl_194
theorem kk_195 : km_195 = kF kl_195 := (show km_195 = kE (3, 112, 3, 115) km_194 from rfl).trans (congrArg (kE (3, 112, 3, 115)) kk_194)
def kl_196 : List ke := (0, 13, 7, 0) :: kl_195
theorem kk_196 : km_196 = kF kl_196 := (show km_196 = kE (0, 13, 7, 0) km_195 from rfl).trans (congrArg (kE (0, 13, 7, 0)) kk_195)
def kl_197 : List ke := (3, 112, 4, 116) :: kl_196
theorem kk_197 : km_197 = kF kl_197 := (show km_197 = kE (3, 112, 4, 116) km_196 from rfl).trans (congrArg (kE (3, 112, 4, 116)) kk_196)
def kl_198 : List ke := (0, 13, 7, 0) :: kl_197
theorem kk_198 : km_198 = kF kl_198 := (show km_198 = kE (0, 13, 7, 0) km_197 from rfl).trans (congrArg (kE (0, 13, 7, 0)) kk_197)
def kl_199 : List ke := (3, 112, 5, 117) :: kl_198
theorem kk_199 : km_199 = kF kl_199 := (show km_199 = kE (3, 112, 5, 117) km_198 from rfl).trans (congrArg (kE (3, 112, 5, 117)) kk_198)
def kl_200 : List ke := (3, 65, 4, 112) :: kl_199
theorem kk_200 : km_200 = kF kl_200 := (show km_200 = kE (3, 65, 4, 112) km_199 from rfl).trans (congrArg (kE (3, 65, 4, 112)) kk_199)
def kl_201 : List ke := (0, 3, 0, 0) :: kl_200
theorem kk_201 : km_201 = kF kl_201 := (show km_201 = kE (0, 3, 0, 0) km_200 from rfl).trans (congrArg (kE (0, 3, 0, 0)) kk_200)
def kl_202 : List ke := (0, 13, 49, 0) :: kl_201
theorem kk_202 : km_202 = kF kl_202 := (show km_202 = kE (0, 13, 49, 0) km_201 from rfl).trans (congrArg (kE (0, 13, 49, 0)) kk_201)
def kl_203 : List ke := (3, 118, 1, 119) :: kl_202
theorem kk_203 : km_203 = kF kl_203 := (show km_203 = kE (3, 118, 1, 119) km_202 from rfl).trans (congrArg (kE (3, 118, 1, 119)) kk_202)
def kl_204 : List ke := (0, 13, 7, 0) :: kl_203
theorem kk_204 : km_204 = kF kl_204 := (show km_204 = kE (0, 13, 7, 0) km_203 from rfl).trans (congrArg (kE (0, 13, 7, 0)) kk_203)
def kl_205 : List ke := (3, 118, 2, 120) :: kl_204
theorem kk_205 : km_205 = kF kl_205 := (show km_205 = kE (3, 118, 2, 120) km_204 from rfl).trans (congrArg (kE (3, 118, 2, 120)) kk_204)
def kl_206 : List ke := (0, 13, 7, 0) :: kl_205
theorem kk_206 : km_206 = kF kl_206 := (show km_206 = kE (0, 13, 7, 0) km_205 from rfl).trans (congrArg (kE (0, 13, 7, 0)) kk_205)
def kl_207 : List ke := (3, 118, 3, 121) :: kl_206
theorem kk_207 : km_207 = kF kl_207 := (show km_207 = kE (3, 118, 3, 121) km_206 from rfl).trans (congrArg (kE (3, 118, 3, 121)) kk_206)
def kl_208 : List ke := (0, 13, 7, 0) :: kl_207
theorem kk_208 : km_208 = kF kl_208 := (show km_208 = kE (0, 13, 7, 0) km_207 from rfl).trans (congrArg (kE (0, 13, 7, 0)) kk_207)
def kl_209 : List ke := (3, 118, 4, 122) :: kl_208
theorem kk_209 : km_209 = kF kl_209 := (show km_209 = kE (3, 118, 4, 122) km_208 from rfl).trans (congrArg (kE (3, 118, 4, 122)) kk_208)
def kl_210 : List ke := (0, 13, 7, 0) :: kl_209
theorem kk_210 : km_210 = kF kl_210 := (show km_210 = kE (0, 13, 7, 0) km_209 from rfl).trans (congrArg (kE (0, 13, 7, 0)) kk_209)
def kl_211 : List ke := (3, 118, 5, 123) :: kl_210
theorem kk_211 : km_211 = kF kl_211 := (show km_211 = kE (3, 118, 5, 123) km_210 from rfl).trans (congrArg (kE (3, 118, 5, 123)) kk_210)
def kl_212 : List ke := (3, 65, 5, 118) :: kl_211
theorem kk_212 : km_212 = kF kl_212 := (show km_212 = kE (3, 65, 5, 118) km_211 from rfl).trans (congrArg (kE (3, 65, 5, 118)) kk_211)
def kl_213 : List ke := (0, 3, 0, 0) :: kl_212
theorem kk_213 : km_213 = kF kl_213 := (show km_213 = kE (0, 3, 0, 0) km_212 from rfl).trans (congrArg (kE (0, 3, 0, 0)) kk_212)
def kl_214 : List ke := (0, 13, 49, 0) :: kl_213
theorem kk_214 : km_214 = kF kl_214 := (show km_214 = kE (0, 13, 49, 0) km_213 from rfl).trans (congrArg (kE (0, 13, 49, 0)) kk_213)
def kl_215 : List ke := (3, 124, 1, 125) :: kl_214
theorem kk_215 : km_215 = kF kl_215 := (show km_215 = kE (3, 124, 1, 125) km_214 from rfl).trans (congrArg (kE (3, 124, 1, 125)) kk_214)
def kl_216 : List ke := (0, 13, 7, 0) :: kl_215
theorem kk_216 : km_216 = kF kl_216 := (show km_216 = kE (0, 13, 7, 0) km_215 from rfl).trans (congrArg (kE (0, 13, 7, 0)) kk_215)
def kl_217 : List ke := (3, 124, 2, 126) :: kl_216
theorem kk_217 : km_217 = kF kl_217 := (show km_217 = kE (3, 124, 2, 126) km_216 from rfl).trans (congrArg (kE (3, 124, 2, 126)) kk_216)
def kl_218 : List ke := (0, 13, 7, 0) :: kl_217
theorem kk_218 : km_218 = kF kl_218 := (show km_218 = kE (0, 13, 7, 0) km_217 from rfl).trans (congrArg (kE (0, 13, 7, 0)) kk_217)
def kl_219 : List ke := (3, 124, 3, 127) :: kl_218
theorem kk_219 : km_219 = kF kl_219 := (show km_219 = kE (3, 124, 3, 127) km_218 from rfl).trans (congrArg (kE (3, 124, 3, 127)) kk_218)
def kl_220 : List ke := (0, 13, 7, 0) :: kl_219
theorem kk_220 : km_220 = kF kl_220 := (show km_220 = kE (0, 13, 7, 0) km_219 from rfl).trans (congrArg (kE (0, 13, 7, 0)) kk_219)
def kl_221 : List ke := (3, 124, 4, 128) :: kl_220
theorem kk_221 : km_221 = kF kl_221 := (show km_221 = kE (3, 124, 4, 128) km_220 from rfl).trans (congrArg (kE (3, 124, 4, 128)) kk_220)
def kl_222 : List ke := (0, 13, 7, 0) :: kl_221
theorem kk_222 : km_222 = kF kl_222 := (show km_222 = kE (0, 13, 7, 0) km_221 from rfl).trans (congrArg (kE (0, 13, 7, 0)) kk_221)
def kl_223 : List ke := (3, 124, 5, 129) :: kl_222
theorem kk_223 : km_223 = kF kl_223 := (show km_223 = kE (3, 124, 5, 129) km_222 from rfl).trans (congrArg (kE (3, 124, 5, 129)) kk_222)
def kl_224 : List ke := (3, 65, 6, 124) :: kl_223
theorem kk_224 : km_224 = kF kl_224 := (show km_224 = kE (3, 65, 6, 124) km_223 from rfl).trans (congrArg (kE (3, 65, 6, 124)) kk_223)
def kl_225 : List ke := (0, 3, 0, 0) :: kl_224
theorem kk_225 : km_225 = kF kl_225 := (show km_225 = kE (0, 3, 0, 0) km_224 from rfl).trans (congrArg (kE (0, 3, 0, 0)) kk_224)
def kl_226 : List ke := (0, 13, 49, 0) :: kl_225
theorem kk_226 : km_226 = kF kl_226 := (show km_226 = kE (0, 13, 49, 0) km_225 from rfl).trans (congrArg (kE (0, 13, 49, 0)) kk_225)
def kl_227 : List ke := (3, 130, 1, 131) :: kl_226
theorem kk_227 : km_227 = kF kl_227 := (show km_227 = kE (3, 130, 1, 131) km_226 from rfl).trans (congrArg (kE (3, 130, 1, 131)) kk_226)
def kl_228 : List ke := (0, 13, 7, 0) :: kl_227
theorem kk_228 : km_228 = kF kl_228 := (show km_228 = kE (0, 13, 7, 0) km_227 from rfl).trans (congrArg (kE (0, 13, 7, 0)) kk_227)
def kl_229 : List ke := (3, 130, 2, 132) :: kl_228
theorem kk_229 : km_229 = kF kl_229 := (show km_229 = kE (3, 130, 2, 132) km_228 from rfl).trans (congrArg (kE (3, 130, 2, 132)) kk_228)
def kl_230 : List ke := (0, 13, 7, 0) :: kl_229
theorem kk_230 : km_230 = kF kl_230 := (show km_230 = kE (0, 13, 7, 0) km_229 from rfl).trans (congrArg (kE (0, 13, 7, 0)) kk_229)
def kl_231 : List ke := (3, 130, 3, 133) :: kl_230
theorem kk_231 : km_231 = kF kl_231 := (show km_231 = kE (3, 130, 3, 133) km_230 from rfl).trans (congrArg (kE (3, 130, 3, 133)) kk_230)
def kl_232 : List ke := (0, 13, 7, 0) :: kl_231
theorem kk_232 : km_232 = kF kl_232 := (show km_232 = kE (0, 13, 7, 0) km_231 from rfl).trans (congrArg (kE (0, 13, 7, 0)) kk_231)
def kl_233 : List ke := (3, 130, 4, 134) :: kl_232
theorem kk_233 : km_233 = kF kl_233 := (show km_233 = kE (3, 130, 4, 134) km_232 from rfl).trans (congrArg (kE (3, 130, 4, 134)) kk_232)
def kl_234 : List ke := (0, 13, 7, 0) :: kl_233
theorem kk_234 : km_234 = kF kl_234 := (show km_234 = kE (0, 13, 7, 0) km_233 from rfl).trans (congrArg (kE (0, 13, 7, 0)) kk_233)
def kl_235 : List ke := (3, 130, 5, 135) :: kl_234
theorem kk_235 : km_235 = kF kl_235 := (show km_235 = kE (3, 130, 5, 135) km_234 from rfl).trans (congrArg (kE (3, 130, 5, 135)) kk_234)
def kl_236 : List ke := (3, 65, 7, 130) :: kl_235
theorem kk_236 : km_236 = kF kl_236 := (show km_236 = kE (3, 65, 7, 130) km_235 from rfl).trans (congrArg (kE (3, 65, 7, 130)) kk_235)
def kl_237 : List ke := (0, 3, 0, 0) :: kl_236
theorem kk_237 : km_237 = kF kl_237 := (show km_237 = kE (0, 3, 0, 0) km_236 from rfl).trans (congrArg (kE (0, 3, 0, 0)) kk_236)
def kl_238 : List ke := (0, 13, 49, 0) :: kl_237
theorem kk_238 : km_238 = kF kl_238 := (show km_238 = kE (0, 13, 49, 0) km_237 from rfl).trans (congrArg (kE (0, 13, 49, 0)) kk_237)
def kl_239 : List ke := (3, 136, 1, 137) :: kl_238
theorem kk_239 : km_239 = kF kl_239 := (show km_239 = kE (3, 136, 1, 137) km_238 from rfl).trans (congrArg (kE (3, 136, 1, 137)) kk_238)
def kl_240 : List ke := (0, 13, 7, 0) :: kl_239
theorem kk_240 : km_240 = kF kl_240 := (show km_240 = kE (0, 13, 7, 0) km_239 from rfl).trans (congrArg (kE (0, 13, 7, 0)) kk_239)
def kl_241 : List ke := (3, 136, 2, 138) :: kl_240
theorem kk_241 : km_241 = kF kl_241 := (show km_241 = kE (3, 136, 2, 138) km_240 from rfl).trans (congrArg (kE (3, 136, 2, 138)) kk_240)
def kl_242 : List ke := (0, 13, 7, 0) :: kl_241
theorem kk_242 : km_242 = kF kl_242 := (show km_242 = kE (0, 13, 7, 0) km_241 from rfl).trans (congrArg (kE (0, 13, 7, 0)) kk_241)
def kl_243 : List ke := (3, 136, 3, 139) :: kl_242
theorem kk_243 : km_243 = kF kl_243 := (show km_243 = kE (3, 136, 3, 139) km_242 from rfl).trans (congrArg (kE (3, 136, 3, 139)) kk_242)
def kl_244 : List ke := (0, 13, 7, 0) :: kl_243
theorem kk_244 : km_244 = kF kl_244 := (show km_244 = kE (0, 13, 7, 0) km_243 from rfl).trans (congrArg (kE (0, 13, 7, 0)) kk_243)
def kl_245 : List ke := (3, 136, 4, 140) :: kl_244
theorem kk_245 : km_245 = kF kl_245 := (show km_245 = kE (3, 136, 4, 140) km_244 from rfl).trans (congrArg (kE (3, 136, 4, 140)) kk_244)
def kl_246 : List ke := (0, 13, 7, 0) :: kl_245
theorem kk_246 : km_246 = kF kl_246 := (show km_246 = kE (0, 13, 7, 0) km_245 from rfl).trans (congrArg (kE (0, 13, 7, 0)) kk_245)
def kl_247 : List ke := (3, 136, 5, 141) :: kl_246
theorem kk_247 : km_247 = kF kl_247 := (show km_247 = kE (3, 136, 5, 141) km_246 from rfl).trans (congrArg (kE (3, 136, 5, 141)) kk_246)
def kl_248 : List ke := (3, 65, 8, 136) :: kl_247
theorem kk_248 : km_248 = kF kl_248 := (show km_248 = kE (3, 65, 8, 136) km_247 from rfl).trans (congrArg (kE (3, 65, 8, 136)) kk_247)
def kl_249 : List ke := (0, 3, 0, 0) :: kl_248
theorem kk_249 : km_249 = kF kl_249 := (show km_249 = kE (0, 3, 0, 0) km_248 from rfl).trans (congrArg (kE (0, 3, 0, 0)) kk_248)
def kl_250 : List ke := (0, 13, 49, 0) :: kl_249
theorem kk_250 : km_250 = kF kl_250 := (show km_250 = kE (0, 13, 49, 0) km_249 from rfl).trans (congrArg (kE (0, 13, 49, 0)) kk_249)
def kl_251 : List ke := (3, 142, 1, 143) :: kl_250
theorem kk_251 : km_251 = kF kl_251 := (show km_251 = kE (3, 142, 1, 143) km_250 from rfl).trans (congrArg (kE (3, 142, 1, 143)) kk_250)
def kl_252 : List ke := (0, 13, 7, 0) :: kl_251
theorem kk_252 : km_252 = kF kl_252 := (show km_252 = kE (0, 13, 7, 0) km_251 from rfl).trans (congrArg (kE (0, 13, 7, 0)) kk_251)
def kl_253 : List ke := (3, 142, 2, 144) :: kl_252
theorem kk_253 : km_253 = kF kl_253 := (show km_253 = kE (3, 142, 2, 144) km_252 from rfl).trans (congrArg (kE (3, 142, 2, 144)) kk_252)
def kl_254 : List ke := (0, 13, 7, 0) :: kl_253
theorem kk_254 : km_254 = kF kl_254 := (show km_254 = kE (0, 13, 7, 0) km_253 from rfl).trans (congrArg (kE (0, 13, 7, 0)) kk_253)
def kl_255 : List ke := (3, 142, 3, 145) :: kl_254
theorem kk_255 : km_255 = kF kl_255 := (show km_255 = kE (3, 142, 3, 145) km_254 from rfl).trans (congrArg (kE (3, 142, 3, 145)) kk_254)
def kl_256 : List ke := (0, 13, 7, 0) :: kl_255
theorem kk_256 : km_256 = kF kl_256 := (show km_256 = kE (0, 13, 7, 0) km_255 from rfl).trans (congrArg (kE (0, 13, 7, 0)) kk_255)
def kl_257 : List ke := (3, 142, 4, 146) :: kl_256
theorem kk_257 : km_257 = kF kl_257 := (show km_257 = kE (3, 142, 4, 146) km_256 from rfl).trans (congrArg (kE (3, 142, 4, 146)) kk_256)
def kl_258 : List ke := (0, 13, 7, 0) :: kl_257
theorem kk_258 : km_258 = kF kl_258 := (show km_258 = kE (0, 13, 7, 0) km_257 from rfl).trans (congrArg (kE (0, 13, 7, 0)) kk_257)
def kl_259 : List ke := (3, 142, 5, 147) :: kl_258
theorem kk_259 : km_259 = kF kl_259 := (show km_259 = kE (3, 142, 5, 147) km_258 from rfl).trans (congrArg (kE (3, 142, 5, 147)) kk_258)
def kl_260 : List ke := (3, 65, 9, 142) :: kl_259
theorem kk_260 : km_260 = kF kl_260 := (show km_260 = kE (3, 65, 9, 142) km_259 from rfl).trans (congrArg (kE (3, 65, 9, 142)) kk_259)
def kl_261 : List ke := (0, 3, 0, 0) :: kl_260
theorem kk_261 : km_261 = kF kl_261 := (show km_261 = kE (0, 3, 0, 0) km_260 from rfl).trans (congrArg (kE (0, 3, 0, 0)) kk_260)
def kl_262 : List ke := (0, 13, 49, 0) :: kl_261
theorem kk_262 : km_262 = kF kl_262 := (show km_262 = kE (0, 13, 49, 0) km_261 from rfl).trans (congrArg (kE (0, 13, 49, 0)) kk_261)
def kl_263 : List ke := (3, 148, 1, 149) :: kl_262
theorem kk_263 : km_263 = kF kl_263 := (show km_263 = kE (3, 148, 1, 149) km_262 from rfl).trans (congrArg (kE (3, 148, 1, 149)) kk_262)
def kl_264 : List ke := (0, 13, 7, 0) :: kl_263
theorem kk_264 : km_264 = kF kl_264 := (show km_264 = kE (0, 13, 7, 0) km_263 from rfl).trans (congrArg (kE (0, 13, 7, 0)) kk_263)
def kl_265 : List ke := (3, 148, 2, 150) :: kl_264
theorem kk_265 : km_265 = kF kl_265 := (show km_265 = kE (3, 148, 2, 150) km_264 from rfl).trans (congrArg (kE (3, 148, 2, 150)) kk_264)
def kl_266 : List ke := (0, 13, 7, 0) :: kl_265
theorem kk_266 : km_266 = kF kl_266 := (show km_266 = kE (0, 13, 7, 0) km_265 from rfl).trans (congrArg (kE (0, 13, 7, 0)) kk_265)
def kl_267 : List ke := (3, 148, 3, 151) :: kl_266
theorem kk_267 : km_267 = kF kl_267 := (show km_267 = kE (3, 148, 3, 151) km_266 from rfl).trans (congrArg (kE (3, 148, 3, 151)) kk_266)
def kl_268 : List ke := (0, 13, 7, 0) :: kl_267
theorem kk_268 : km_268 = kF kl_268 := (show km_268 = kE (0, 13, 7, 0) km_267 from rfl).trans (congrArg (kE (0, 13, 7, 0)) kk_267)
def kl_269 : List ke := (3, 148, 4, 152) :: kl_268
theorem kk_269 : km_269 = kF kl_269 := (show km_269 = kE (3, 148, 4, 152) km_268 from rfl).trans (congrArg (kE (3, 148, 4, 152)) kk_268)
def kl_270 : List ke := (0, 13, 7, 0) :: kl_269
theorem kk_270 : km_270 = kF kl_270 := (show km_270 = kE (0, 13, 7, 0) km_269 from rfl).trans (congrArg (kE (0, 13, 7, 0)) kk_269)
def kl_271 : List ke := (3, 148, 5, 153) :: kl_270
theorem kk_271 : km_271 = kF kl_271 := (show km_271 = kE (3, 148, 5, 153) km_270 from rfl).trans (congrArg (kE (3, 148, 5, 153)) kk_270)
def kl_272 : List ke := (3, 65, 10, 148) :: kl_271
theorem kk_272 : km_272 = kF kl_272 := (show km_272 = kE (3, 65, 10, 148) km_271 from rfl).trans (congrArg (kE (3, 65, 10, 148)) kk_271)
def kl_273 : List ke := (0, 3, 0, 0) :: kl_272
theorem kk_273 : km_273 = kF kl_273 := (show km_273 = kE (0, 3, 0, 0) km_272 from rfl).trans (congrArg (kE (0, 3, 0, 0)) kk_272)
def kl_274 : List ke := (0, 13, 49, 0) :: kl_273
theorem kk_274 : km_274 = kF kl_274 := (show km_274 = kE (0, 13, 49, 0) km_273 from rfl).trans (congrArg (kE (0, 13, 49, 0)) kk_273)
def kl_275 : List ke := (3, 154, 1, 155) :: kl_274
theorem kk_275 : km_275 = kF kl_275 := (show km_275 = kE (3, 154, 1, 155) km_274 from rfl).trans (congrArg (kE (3, 154, 1, 155)) kk_274)
def kl_276 : List ke := (0, 13, 7, 0) :: kl_275
theorem kk_276 : km_276 = kF kl_276 := (show km_276 = kE (0, 13, 7, 0) km_275 from rfl).trans (congrArg (kE (0, 13, 7, 0)) kk_275)
def kl_277 : List ke := (3, 154, 2, 156) :: kl_276
theorem kk_277 : km_277 = kF kl_277 := (show km_277 = kE (3, 154, 2, 156) km_276 from rfl).trans (congrArg (kE (3, 154, 2, 156)) kk_276)
def kl_278 : List ke := (0, 13, 7, 0) :: kl_277
theorem kk_278 : km_278 = kF kl_278 := (show km_278 = kE (0, 13, 7, 0) km_277 from rfl).trans (congrArg (kE (0, 13, 7, 0)) kk_277)
def kl_279 : List ke := (3, 154, 3, 157) :: kl_278
theorem kk_279 : km_279 = kF kl_279 := (show km_279 = kE (3, 154, 3, 157) km_278 from rfl).trans (congrArg (kE (3, 154, 3, 157)) kk_278)
def kl_280 : List ke := (0, 13, 7, 0) :: kl_279
theorem kk_280 : km_280 = kF kl_280 := (show km_280 = kE (0, 13, 7, 0) km_279 from rfl).trans (congrArg (kE (0, 13, 7, 0)) kk_279)
def kl_281 : List ke := (3, 154, 4, 158) :: kl_280
theorem kk_281 : km_281 = kF kl_281 := (show km_281 = kE (3, 154, 4, 158) km_280 from rfl).trans (congrArg (kE (3, 154, 4, 158)) kk_280)
def kl_282 : List ke := (0, 13, 7, 0) :: kl_281
theorem kk_282 : km_282 = kF kl_282 := (show km_282 = kE (0, 13, 7, 0) km_281 from rfl).trans (congrArg (kE (0, 13, 7, 0)) kk_281)
def kl_283 : List ke := (3, 154, 5, 159) :: kl_282
theorem kk_283 : km_283 = kF kl_283 := (show km_283 = kE (3, 154, 5, 159) km_282 from rfl).trans (congrArg (kE (3, 154, 5, 159)) kk_282)
def kl_284 : List ke := (3, 65, 11, 154) :: kl_283
theorem kk_284 : km_284 = kF kl_284 := (show km_284 = kE (3, 65, 11, 154) km_283 from rfl).trans (congrArg (kE (3, 65, 11, 154)) kk_283)
def kl_285 : List ke := (0, 3, 0, 0) :: kl_284
theorem kk_285 : km_285 = kF kl_285 := (show km_285 = kE (0, 3, 0, 0) km_284 from rfl).trans (congrArg (kE (0, 3, 0, 0)) kk_284)
def kl_286 : List ke := (0, 13, 49, 0) :: kl_285
theorem kk_286 : km_286 = kF kl_286 := (show km_286 = kE (0, 13, 49, 0) km_285 from rfl).trans (congrArg (kE (0, 13, 49, 0)) kk_285)
def kl_287 : List ke := (3, 160, 1, 161) :: kl_286
theorem kk_287 : km_287 = kF kl_287 := (show km_287 = kE (3, 160, 1, 161) km_286 from rfl).trans (congrArg (kE (3, 160, 1, 161)) kk_286)
def kl_288 : List ke := (0, 13, 7, 0) :: kl_287
theorem kk_288 : km_288 = kF kl_288 := (show km_288 = kE (0, 13, 7, 0) km_287 from rfl).trans (congrArg (kE (0, 13, 7, 0)) kk_287)
def kl_289 : List ke := (3, 160, 2, 162) :: kl_288
theorem kk_289 : km_289 = kF kl_289 := (show km_289 = kE (3, 160, 2, 162) km_288 from rfl).trans (congrArg (kE (3, 160, 2, 162)) kk_288)
def kl_290 : List ke := (0, 13, 7, 0) :: kl_289
theorem kk_290 : km_290 = kF kl_290 := (show km_290 = kE (0, 13, 7, 0) km_289 from rfl).trans (congrArg (kE (0, 13, 7, 0)) kk_289)
def kl_291 : List ke := (3, 160, 3, 163) :: kl_290
theorem kk_291 : km_291 = kF kl_291 := (show km_291 = kE (3, 160, 3, 163) km_290 from rfl).trans (congrArg (kE (3, 160, 3, 163)) kk_290)
def kl_292 : List ke := (0, 13, 7, 0) :: kl_291
theorem kk_292 : km_292 = kF kl_292 := (show km_292 = kE (0, 13, 7, 0) km_291 from rfl).trans (congrArg (kE (0, 13, 7, 0)) kk_291)
def kl_293 : List ke := (3, 160, 4, 164) :: kl_292
theorem kk_293 : km_293 = kF kl_293 := (show km_293 = kE (3, 160, 4, 164) km_292 from rfl).trans (congrArg (kE (3, 160, 4, 164)) kk_292)
def kl_294 : List ke := (0, 13, 7, 0) :: kl_293
theorem kk_294 : km_294 = kF kl_294 := (show km_294 = kE (0, 13, 7, 0) km_293 from rfl).trans (congrArg (kE (0, 13, 7, 0)) kk_293)
def kl_295 : List ke := (3, 160, 5, 165) :: kl_294
theorem kk_295 : km_295 = kF kl_295 := (show km_295 = kE (3, 160, 5, 165) km_294 from rfl).trans (congrArg (kE (3, 160, 5, 165)) kk_294)
def kl_296 : List ke := (3, 65, 12, 160) :: kl_295
theorem kk_296 : km_296 = kF kl_296 := (show km_296 = kE (3, 65, 12, 160) km_295 from rfl).trans (congrArg (kE (3, 65, 12, 160)) kk_295)
def kl_297 : List ke := (0, 3, 0, 0) :: kl_296
theorem kk_297 : km_297 = kF kl_297 := (show km_297 = kE (0, 3, 0, 0) km_296 from rfl).trans (congrArg (kE (0, 3, 0, 0)) kk_296)
def kl_298 : List ke := (0, 13, 49, 0) :: kl_297
theorem kk_298 : km_298 = kF kl_298 := (show km_298 = kE (0, 13, 49, 0) km_297 from rfl).trans (congrArg (kE (0, 13, 49, 0)) kk_297)
def kl_299 : List ke := (3, 166, 1, 167) :: kl_298
theorem kk_299 : km_299 = kF kl_299 := (show km_299 = kE (3, 166, 1, 167) km_298 from rfl).trans (congrArg (kE (3, 166, 1, 167)) kk_298)
def kl_300 : List ke := (0, 13, 7, 0) :: kl_299
theorem kk_300 : km_300 = kF kl_300 := (show km_300 = kE (0, 13, 7, 0) km_299 from rfl).trans (congrArg (kE (0, 13, 7, 0)) kk_299)
def kl_301 : List ke := (3, 166, 2, 168) :: kl_300
theorem kk_301 : km_301 = kF kl_301 := (show km_301 = kE (3, 166, 2, 168) km_300 from rfl).trans (congrArg (kE (3, 166, 2, 168)) kk_300)
def kl_302 : List ke := (0, 13, 7, 0) :: kl_301
theorem kk_302 : km_302 = kF kl_302 := (show km_302 = kE (0, 13, 7, 0) km_301 from rfl).trans (congrArg (kE (0, 13, 7, 0)) kk_301)
def kl_303 : List ke := (3, 166, 3, 169) :: kl_302
theorem kk_303 : km_303 = kF kl_303 := (show km_303 = kE (3, 166, 3, 169) km_302 from rfl).trans (congrArg (kE (3, 166, 3, 169)) kk_302)
def kl_304 : List ke := (0, 13, 7, 0) :: kl_303
theorem kk_304 : km_304 = kF kl_304 := (show km_304 = kE (0, 13, 7, 0) km_303 from rfl).trans (congrArg (kE (0, 13, 7, 0)) kk_303)
def kl_305 : List ke := (3, 166, 4, 170) :: kl_304
theorem kk_305 : km_305 = kF kl_305 := (show km_305 = kE (3, 166, 4, 170) km_304 from rfl).trans (congrArg (kE (3, 166, 4, 170)) kk_304)
def kl_306 : List ke := (0, 13, 7, 0) :: kl_305
theorem kk_306 : km_306 = kF kl_306 := (show km_306 = kE (0, 13, 7, 0) km_305 from rfl).trans (congrArg (kE (0, 13, 7, 0)) kk_305)
def kl_307 : List ke := (3, 166, 5, 171) :: kl_306
theorem kk_307 : km_307 = kF kl_307 := (show km_307 = kE (3, 166, 5, 171) km_306 from rfl).trans (congrArg (kE (3, 166, 5, 171)) kk_306)
def kl_308 : List ke := (3, 65, 13, 166) :: kl_307
theorem kk_308 : km_308 = kF kl_308 := (show km_308 = kE (3, 65, 13, 166) km_307 from rfl).trans (congrArg (kE (3, 65, 13, 166)) kk_307)
def kl_309 : List ke := (0, 3, 0, 0) :: kl_308
theorem kk_309 : km_309 = kF kl_309 := (show km_309 = kE (0, 3, 0, 0) km_308 from rfl).trans (congrArg (kE (0, 3, 0, 0)) kk_308)
def kl_310 : List ke := (0, 13, 49, 0) :: kl_309
theorem kk_310 : km_310 = kF kl_310 := (show km_310 = kE (0, 13, 49, 0) km_309 from rfl).trans (congrArg (kE (0, 13, 49, 0)) kk_309)
def kl_311 : List ke := (3, 172, 1, 173) :: kl_310
theorem kk_311 : km_311 = kF kl_311 := (show km_311 = kE (3, 172, 1, 173) km_310 from rfl).trans (congrArg (kE (3, 172, 1, 173)) kk_310)
def kl_312 : List ke := (0, 13, 7, 0) :: kl_311
theorem kk_312 : km_312 = kF kl_312 := (show km_312 = kE (0, 13, 7, 0) km_311 from rfl).trans (congrArg (kE (0, 13, 7, 0)) kk_311)
def kl_313 : List ke := (3, 172, 2, 174) :: kl_312
theorem kk_313 : km_313 = kF kl_313 := (show km_313 = kE (3, 172, 2, 174) km_312 from rfl).trans (congrArg (kE (3, 172, 2, 174)) kk_312)
def kl_314 : List ke := (0, 13, 7, 0) :: kl_313
theorem kk_314 : km_314 = kF kl_314 := (show km_314 = kE (0, 13, 7, 0) km_313 from rfl).trans (congrArg (kE (0, 13, 7, 0)) kk_313)
def kl_315 : List ke := (3, 172, 3, 175) :: kl_314
theorem kk_315 : km_315 = kF kl_315 := (show km_315 = kE (3, 172, 3, 175) km_314 from rfl).trans (congrArg (kE (3, 172, 3, 175)) kk_314)
def kl_316 : List ke := (0, 13, 7, 0) :: kl_315
theorem kk_316 : km_316 = kF kl_316 := (show km_316 = kE (0, 13, 7, 0) km_315 from rfl).trans (congrArg (kE (0, 13, 7, 0)) kk_315)
def kl_317 : List ke := (3, 172, 4, 176) :: kl_316
theorem kk_317 : km_317 = kF kl_317 := (show km_317 = kE (3, 172, 4, 176) km_316 from rfl).trans (congrArg (kE (3, 172, 4, 176)) kk_316)
def kl_318 : List ke := (0, 13, 7, 0) :: kl_317
theorem kk_318 : km_318 = kF kl_318 := (show km_318 = kE (0, 13, 7, 0) km_317 from rfl).trans (congrArg (kE (0, 13, 7, 0)) kk_317)
def kl_319 : List ke := (3, 172, 5, 177) :: kl_318
theorem kk_319 : km_319 = kF kl_319 := (show km_319 = kE (3, 172, 5, 177) km_318 from rfl).trans (congrArg (kE (3, 172, 5, 177)) kk_318)
def kl_320 : List ke := (3, 65, 14, 172) :: kl_319
theorem kk_320 : km_320 = kF kl_320 := (show km_320 = kE (3, 65, 14, 172) km_319 from rfl).trans (congrArg (kE (3, 65, 14, 172)) kk_319)
def kl_321 : List ke := (0, 3, 0, 0) :: kl_320
theorem kk_321 : km_321 = kF kl_321 := (show km_321 = kE (0, 3, 0, 0) km_320 from rfl).trans (congrArg (kE (0, 3, 0, 0)) kk_320)
def kl_322 : List ke := (0, 13, 49, 0) :: kl_321
theorem kk_322 : km_322 = kF kl_322 := (show km_322 = kE (0, 13, 49, 0) km_321 from rfl).trans (congrArg (kE (0, 13, 49, 0)) kk_321)
def kl_323 : List ke := (3, 178, 1, 179) :: kl_322
theorem kk_323 : km_323 = kF kl_323 := (show km_323 = kE (3, 178, 1, 179) km_322 from rfl).trans (congrArg (kE (3, 178, 1, 179)) kk_322)
def kl_324 : List ke := (0, 13, 7, 0) :: kl_323
theorem kk_324 : km_324 = kF kl_324 := (show km_324 = kE (0, 13, 7, 0) km_323 from rfl).trans (congrArg (kE (0, 13, 7, 0)) kk_323)
def kl_325 : List ke := (3, 178, 2, 180) :: kl_324
theorem kk_325 : km_325 = kF kl_325 := (show km_325 = kE (3, 178, 2, 180) km_324 from rfl).trans (congrArg (kE (3, 178, 2, 180)) kk_324)
def kl_326 : List ke := (0, 13, 7, 0) :: kl_325
theorem kk_326 : km_326 = kF kl_326 := (show km_326 = kE (0, 13, 7, 0) km_325 from rfl).trans (congrArg (kE (0, 13, 7, 0)) kk_325)
def kl_327 : List ke := (3, 178, 3, 181) :: kl_326
theorem kk_327 : km_327 = kF kl_327 := (show km_327 = kE (3, 178, 3, 181) km_326 from rfl).trans (congrArg (kE (3, 178, 3, 181)) kk_326)
def kl_328 : List ke := (0, 13, 7, 0) :: kl_327
theorem kk_328 : km_328 = kF kl_328 := (show km_328 = kE (0, 13, 7, 0) km_327 from rfl).trans (congrArg (kE (0, 13, 7, 0)) kk_327)
def kl_329 : List ke := (3, 178, 4, 182) :: kl_328
theorem kk_329 : km_329 = kF kl_329 := (show km_329 = kE (3, 178, 4, 182) km_328 from rfl).trans (congrArg (kE (3, 178, 4, 182)) kk_328)
def kl_330 : List ke := (0, 13, 7, 0) :: kl_329
theorem kk_330 : km_330 = kF kl_330 := (show km_330 = kE (0, 13, 7, 0) km_329 from rfl).trans (congrArg (kE (0, 13, 7, 0)) kk_329)
def kl_331 : List ke := (3, 178, 5, 183) :: kl_330
theorem kk_331 : km_331 = kF kl_331 := (show km_331 = kE (3, 178, 5, 183) km_330 from rfl).trans (congrArg (kE (3, 178, 5, 183)) kk_330)
def kl_332 : List ke := (3, 65, 15, 178) :: kl_331
theorem kk_332 : km_332 = kF kl_332 := (show km_332 = kE (3, 65, 15, 178) km_331 from rfl).trans (congrArg (kE (3, 65, 15, 178)) kk_331)
def kl_333 : List ke := (0, 3, 0, 0) :: kl_332
theorem kk_333 : km_333 = kF kl_333 := (show km_333 = kE (0, 3, 0, 0) km_332 from rfl).trans (congrArg (kE (0, 3, 0, 0)) kk_332)
def kl_334 : List ke := (0, 13, 49, 0) :: kl_333
theorem kk_334 : km_334 = kF kl_334 := (show km_334 = kE (0, 13, 49, 0) km_333 from rfl).trans (congrArg (kE (0, 13, 49, 0)) kk_333)
def kl_335 : List ke := (3, 184, 1, 185) :: kl_334
theorem kk_335 : km_335 = kF kl_335 := (show km_335 = kE (3, 184, 1, 185) km_334 from rfl).trans (congrArg (kE (3, 184, 1, 185)) kk_334)
def kl_336 : List ke := (0, 13, 7, 0) :: kl_335
theorem kk_336 : km_336 = kF kl_336 := (show km_336 = kE (0, 13, 7, 0) km_335 from rfl).trans (congrArg (kE (0, 13, 7, 0)) kk_335)
def kl_337 : List ke := (3, 184, 2, 186) :: kl_336
theorem kk_337 : km_337 = kF kl_337 := (show km_337 = kE (3, 184, 2, 186) km_336 from rfl).trans (congrArg (kE (3, 184, 2, 186)) kk_336)
def kl_338 : List ke := (0, 13, 7, 0) :: kl_337
theorem kk_338 : km_338 = kF kl_338 := (show km_338 = kE (0, 13, 7, 0) km_337 from rfl).trans (congrArg (kE (0, 13, 7, 0)) kk_337)
def kl_339 : List ke := (3, 184, 3, 187) :: kl_338
theorem kk_339 : km_339 = kF kl_339 := (show km_339 = kE (3, 184, 3, 187) km_338 from rfl).trans (congrArg (kE (3, 184, 3, 187)) kk_338)
def kl_340 : List ke := (0, 13, 7, 0) :: kl_339
theorem kk_340 : km_340 = kF kl_340 := (show km_340 = kE (0, 13, 7, 0) km_339 from rfl).trans (congrArg (kE (0, 13, 7, 0)) kk_339)
def kl_341 : List ke := (3, 184, 4, 188) :: kl_340
theorem kk_341 : km_341 = kF kl_341 := (show km_341 = kE (3, 184, 4, 188) km_340 from rfl).trans (congrArg (kE (3, 184, 4, 188)) kk_340)
def kl_342 : List ke := (0, 13, 7, 0) :: kl_341
theorem kk_342 : km_342 = kF kl_342 := (show km_342 = kE (0, 13, 7, 0) km_341 from rfl).trans (congrArg (kE (0, 13, 7, 0)) kk_341)
def kl_343 : List ke := (3, 184, 5, 189) :: kl_342
theorem kk_343 : km_343 = kF kl_343 := (show km_343 = kE (3, 184, 5, 189) km_342 from rfl).trans (congrArg (kE (3, 184, 5, 189)) kk_342)
def kl_344 : List ke := (3, 65, 16, 184) :: kl_343
theorem kk_344 : km_344 = kF kl_344 := (show km_344 = kE (3, 65, 16, 184) km_343 from rfl).trans (congrArg (kE (3, 65, 16, 184)) kk_343)
def kl_345 : List ke := (0, 3, 0, 0) :: kl_344
theorem kk_345 : km_345 = kF kl_345 := (show km_345 = kE (0, 3, 0, 0) km_344 from rfl).trans (congrArg (kE (0, 3, 0, 0)) kk_344)
def kl_346 : List ke := (0, 13, 49, 0) :: kl_345
theorem kk_346 : km_346 = kF kl_346 := (show km_346 = kE (0, 13, 49, 0) km_345 from rfl).trans (congrArg (kE (0, 13, 49, 0)) kk_345)
def kl_347 : List ke := (3, 190, 1, 191) :: kl_346
theorem kk_347 : km_347 = kF kl_347 := (show km_347 = kE (3, 190, 1, 191) km_346 from rfl).trans (congrArg (kE (3, 190, 1, 191)) kk_346)
def kl_348 : List ke := (0, 13, 7, 0) :: kl_347
theorem kk_348 : km_348 = kF kl_348 := (show km_348 = kE (0, 13, 7, 0) km_347 from rfl).trans (congrArg (kE (0, 13, 7, 0)) kk_347)
def kl_349 : List ke := (3, 190, 2, 192) :: kl_348
theorem kk_349 : km_349 = kF kl_349 := (show km_349 = kE (3, 190, 2, 192) km_348 from rfl).trans (congrArg (kE (3, 190, 2, 192)) kk_348)
def kl_350 : List ke := (0, 13, 7, 0) :: kl_349
theorem kk_350 : km_350 = kF kl_350 := (show km_350 = kE (0, 13, 7, 0) km_349 from rfl).trans (congrArg (kE (0, 13, 7, 0)) kk_349)
def kl_351 : List ke := (3, 190, 3, 193) :: kl_350
theorem kk_351 : km_351 = kF kl_351 := (show km_351 = kE (3, 190, 3, 193) km_350 from rfl).trans (congrArg (kE (3, 190, 3, 193)) kk_350)
def kl_352 : List ke := (0, 13, 7, 0) :: kl_351
theorem kk_352 : km_352 = kF kl_352 := (show km_352 = kE (0, 13, 7, 0) km_351 from rfl).trans (congrArg (kE (0, 13, 7, 0)) kk_351)
def kl_353 : List ke := (3, 190, 4, 194) :: kl_352
theorem kk_353 : km_353 = kF kl_353 := (show km_353 = kE (3, 190, 4, 194) km_352 from rfl).trans (congrArg (kE (3, 190, 4, 194)) kk_352)
def kl_354 : List ke := (0, 13, 7, 0) :: kl_353
theorem kk_354 : km_354 = kF kl_354 := (show km_354 = kE (0, 13, 7, 0) km_353 from rfl).trans (congrArg (kE (0, 13, 7, 0)) kk_353)
def kl_355 : List ke := (3, 190, 5, 195) :: kl_354
theorem kk_355 : km_355 = kF kl_355 := (show km_355 = kE (3, 190, 5, 195) km_354 from rfl).trans (congrArg (kE (3, 190, 5, 195)) kk_354)
def kl_356 : List ke := (3, 65, 17, 190) :: kl_355
theorem kk_356 : km_356 = kF kl_356 := (show km_356 = kE (3, 65, 17, 190) km_355 from rfl).trans (congrArg (kE (3, 65, 17, 190)) kk_355)
def kl_357 : List ke := (0, 3, 0, 0) :: kl_356
theorem kk_357 : km_357 = kF kl_357 := (show km_357 = kE (0, 3, 0, 0) km_356 from rfl).trans (congrArg (kE (0, 3, 0, 0)) kk_356)
def kl_358 : List ke := (0, 13, 49, 0) :: kl_357
theorem kk_358 : km_358 = kF kl_358 := (show km_358 = kE (0, 13, 49, 0) km_357 from rfl).trans (congrArg (kE (0, 13, 49, 0)) kk_357)
def kl_359 : List ke := (3, 196, 1, 197) :: kl_358
theorem kk_359 : km_359 = kF kl_359 := (show km_359 = kE (3, 196, 1, 197) km_358 from rfl).trans (congrArg (kE (3, 196, 1, 197)) kk_358)
def kl_360 : List ke := (0, 13, 7, 0) :: kl_359
theorem kk_360 : km_360 = kF kl_360 := (show km_360 = kE (0, 13, 7, 0) km_359 from rfl).trans (congrArg (kE (0, 13, 7, 0)) kk_359)
def kl_361 : List ke := (3, 196, 2, 198) :: kl_360
theorem kk_361 : km_361 = kF kl_361 := (show km_361 = kE (3, 196, 2, 198) km_360 from rfl).trans (congrArg (kE (3, 196, 2, 198)) kk_360)
def kl_362 : List ke := (0, 13, 7, 0) :: kl_361
theorem kk_362 : km_362 = kF kl_362 := (show km_362 = kE (0, 13, 7, 0) km_361 from rfl).trans (congrArg (kE (0, 13, 7, 0)) kk_361)
def kl_363 : List ke := (3, 196, 3, 199) :: kl_362
theorem kk_363 : km_363 = kF kl_363 := (show km_363 = kE (3, 196, 3, 199) km_362 from rfl).trans (congrArg (kE (3, 196, 3, 199)) kk_362)
def kl_364 : List ke := (0, 13, 7, 0) :: kl_363
theorem kk_364 : km_364 = kF kl_364 := (show km_364 = kE (0, 13, 7, 0) km_363 from rfl).trans (congrArg (kE (0, 13, 7, 0)) kk_363)
def kl_365 : List ke := (3, 196, 4, 200) :: kl_364
theorem kk_365 : km_365 = kF kl_365 := (show km_365 = kE (3, 196, 4, 200) km_364 from rfl).trans (congrArg (kE (3, 196, 4, 200)) kk_364)
def kl_366 : List ke := (0, 13, 7, 0) :: kl_365
theorem kk_366 : km_366 = kF kl_366 := (show km_366 = kE (0, 13, 7, 0) km_365 from rfl).trans (congrArg (kE (0, 13, 7, 0)) kk_365)
def kl_367 : List ke := (3, 196, 5, 201) :: kl_366
theorem kk_367 : km_367 = kF kl_367 := (show km_367 = kE (3, 196, 5, 201) km_366 from rfl).trans (congrArg (kE (3, 196, 5, 201)) kk_366)
def kl_368 : List ke := (3, 65, 18, 196) :: kl_367
theorem kk_368 : km_368 = kF kl_368 := (show km_368 = kE (3, 65, 18, 196) km_367 from rfl).trans (congrArg (kE (3, 65, 18, 196)) kk_367)
def kl_369 : List ke := (0, 3, 0, 0) :: kl_368
theorem kk_369 : km_369 = kF kl_369 := (show km_369 = kE (0, 3, 0, 0) km_368 from rfl).trans (congrArg (kE (0, 3, 0, 0)) kk_368)
def kl_370 : List ke := (0, 13, 49, 0) :: kl_369
theorem kk_370 : km_370 = kF kl_370 := (show km_370 = kE (0, 13, 49, 0) km_369 from rfl).trans (congrArg (kE (0, 13, 49, 0)) kk_369)
def kl_371 : List ke := (3, 202, 1, 203) :: kl_370
theorem kk_371 : km_371 = kF kl_371 := (show km_371 = kE (3, 202, 1, 203) km_370 from rfl).trans (congrArg (kE (3, 202, 1, 203)) kk_370)
def kl_372 : List ke := (0, 13, 7, 0) :: kl_371
theorem kk_372 : km_372 = kF kl_372 := (show km_372 = kE (0, 13, 7, 0) km_371 from rfl).trans (congrArg (kE (0, 13, 7, 0)) kk_371)
def kl_373 : List ke := (3, 202, 2, 204) :: kl_372
theorem kk_373 : km_373 = kF kl_373 := (show km_373 = kE (3, 202, 2, 204) km_372 from rfl).trans (congrArg (kE (3, 202, 2, 204)) kk_372)
def kl_374 : List ke := (0, 13, 7, 0) :: kl_373
theorem kk_374 : km_374 = kF kl_374 := (show km_374 = kE (0, 13, 7, 0) km_373 from rfl).trans (congrArg (kE (0, 13, 7, 0)) kk_373)
def kl_375 : List ke := (3, 202, 3, 205) :: kl_374
theorem kk_375 : km_375 = kF kl_375 := (show km_375 = kE (3, 202, 3, 205) km_374 from rfl).trans (congrArg (kE (3, 202, 3, 205)) kk_374)
def kl_376 : List ke := (0, 13, 7, 0) :: kl_375
theorem kk_376 : km_376 = kF kl_376 := (show km_376 = kE (0, 13, 7, 0) km_375 from rfl).trans (congrArg (kE (0, 13, 7, 0)) kk_375)
def kl_377 : List ke := (3, 202, 4, 206) :: kl_376
theorem kk_377 : km_377 = kF kl_377 := (show km_377 = kE (3, 202, 4, 206) km_376 from rfl).trans (congrArg (kE (3, 202, 4, 206)) kk_376)
def kl_378 : List ke := (0, 13, 7, 0) :: kl_377
theorem kk_378 : km_378 = kF kl_378 := (show km_378 = kE (0, 13, 7, 0) km_377 from rfl).trans (congrArg (kE (0, 13, 7, 0)) kk_377)
def kl_379 : List ke := (3, 202, 5, 207) :: kl_378
theorem kk_379 : km_379 = kF kl_379 := (show km_379 = kE (3, 202, 5, 207) km_378 from rfl).trans (congrArg (kE (3, 202, 5, 207)) kk_378)
def kl_380 : List ke := (3, 65, 19, 202) :: kl_379
theorem kk_380 : km_380 = kF kl_380 := (show km_380 = kE (3, 65, 19, 202) km_379 from rfl).trans (congrArg (kE (3, 65, 19, 202)) kk_379)
def kl_381 : List ke := (3, 0, 10, 63) :: kl_380
theorem kk_381 : km_381 = kF kl_381 := (show km_381 = kE (3, 0, 10, 63) km_380 from rfl).trans (congrArg (kE (3, 0, 10, 63)) kk_380)
def kl_382 : List ke := (0, 0, 0, 0) :: kl_381
theorem kk_382 : km_382 = kF kl_382 := (show km_382 = kE (0, 0, 0, 0) km_381 from rfl).trans (congrArg (kE (0, 0, 0, 0)) kk_381)
def kl_383 : List ke := (0, 3, 0, 0) :: kl_382
theorem kk_383 : km_383 = kF kl_383 := (show km_383 = kE (0, 3, 0, 0) km_382 from rfl).trans (congrArg (kE (0, 3, 0, 0)) kk_382)
def kl_384 : List ke := (0, 13, 49, 0) :: kl_383
theorem kk_384 : km_384 = kF kl_384 := (show km_384 = kE (0, 13, 49, 0) km_383 from rfl).trans (congrArg (kE (0, 13, 49, 0)) kk_383)
def kl_385 : List ke := (3, 209, 1, 210) :: kl_384
theorem kk_385 : km_385 = kF kl_385 := (show km_385 = kE (3, 209, 1, 210) km_384 from rfl).trans (congrArg (kE (3, 209, 1, 210)) kk_384)
def kl_386 : List ke := (0, 13, 7, 0) :: kl_385
theorem kk_386 : km_386 = kF kl_386 := (show km_386 = kE (0, 13, 7, 0) km_385 from rfl).trans (congrArg (kE (0, 13, 7, 0)) kk_385)
def kl_387 : List ke := (3, 209, 2, 211) :: kl_386
theorem kk_387 : km_387 = kF kl_387 := (show km_387 = kE (3, 209, 2, 211) km_386 from rfl).trans (congrArg (kE (3, 209, 2, 211)) kk_386)
def kl_388 : List ke := (0, 13, 7, 0) :: kl_387
theorem kk_388 : km_388 = kF kl_388 := (show km_388 = kE (0, 13, 7, 0) km_387 from rfl).trans (congrArg (kE (0, 13, 7, 0)) kk_387)
def kl_389 : List ke := (3, 209, 3, 212) :: kl_388
theorem kk_389 : km_389 = kF kl_389 := (show km_389 = kE (3, 209, 3, 212) km_388 from rfl).trans (congrArg (kE (3, 209, 3, 212)) kk_388)
def kl_390 : List ke := (0, 13, 7, 0) :: kl_389
theorem kk_390 : km_390 = kF kl_390 := (show km_390 = kE (0, 13, 7, 0) km_389 from rfl).trans (congrArg (kE (0, 13, 7, 0)) kk_389)
def kl_391 : List ke := (3, 209, 4, 213) :: kl_390
theorem kk_391 : km_391 = kF kl_391 := (show km_391 = kE (3, 209, 4, 213) km_390 from rfl).trans (congrArg (kE (3, 209, 4, 213)) kk_390)
def kl_392 : List ke := (0, 13, 7, 0) :: kl_391
theorem kk_392 : km_392 = kF kl_392 := (show km_392 = kE (0, 13, 7, 0) km_391 from rfl).trans (congrArg (kE (0, 13, 7, 0)) kk_391)
def kl_393 : List ke := (3, 209, 5, 214) :: kl_392
theorem kk_393 : km_393 = kF kl_393 := (show km_393 = kE (3, 209, 5, 214) km_392 from rfl).trans (congrArg (kE (3, 209, 5, 214)) kk_392)
def kl_394 : List ke := (3, 208, 1, 209) :: kl_393
theorem kk_394 : km_394 = kF kl_394 := (show km_394 = kE (3, 208, 1, 209) km_393 from rfl).trans (congrArg (kE (3, 208, 1, 209)) kk_393)
def kl_395 : List ke := (0, 16, 7, 0) :: kl_394
theorem kk_395 : km_395 = kF kl_395 := (show km_395 = kE (0, 16, 7, 0) km_394 from rfl).trans (congrArg (kE (0, 16, 7, 0)) kk_394)
def kl_396 : List ke := (3, 208, 2, 215) :: kl_395
theorem kk_396 : km_396 = kF kl_396 := (show km_396 = kE (3, 208, 2, 215) km_395 from rfl).trans (congrArg (kE (3, 208, 2, 215)) kk_395)
def kl_397 : List ke := (0, 13, 64, 0) :: kl_396
theorem kk_397 : km_397 = kF kl_397 := (show km_397 = kE (0, 13, 64, 0) km_396 from rfl).trans (congrArg (kE (0, 13, 64, 0)) kk_396)
def kl_398 : List ke := (3, 208, 3, 216) :: kl_397
theorem kk_398 : km_398 = kF kl_398 := (show km_398 = kE (3, 208, 3, 216) km_397 from rfl).trans (congrArg (kE (3, 208, 3, 216)) kk_397)
def kl_399 : List ke := (0, 13, 896, 0) :: kl_398
theorem kk_399 : km_399 = kF kl_399 := (show km_399 = kE (0, 13, 896, 0) km_398 from rfl).trans (congrArg (kE (0, 13, 896, 0)) kk_398)
def kl_400 : List ke := (3, 208, 5, 217) :: kl_399
theorem kk_400 : km_400 = kF kl_400 := (show km_400 = kE (3, 208, 5, 217) km_399 from rfl).trans (congrArg (kE (3, 208, 5, 217)) kk_399)
def kl_401 : List ke := (3, 208, 0, 55) :: kl_400
theorem kk_401 : km_401 = kF kl_401 := (show km_401 = kE (3, 208, 0, 55) km_400 from rfl).trans (congrArg (kE (3, 208, 0, 55)) kk_400)
def kl_402 : List ke := (0, 3, 0, 0) :: kl_401
theorem kk_402 : km_402 = kF kl_402 := (show km_402 = kE (0, 3, 0, 0) km_401 from rfl).trans (congrArg (kE (0, 3, 0, 0)) kk_401)
def kl_403 : List ke := (0, 13, 49, 0) :: kl_402
theorem kk_403 : km_403 = kF kl_403 := (show km_403 = kE (0, 13, 49, 0) km_402 from rfl).trans (congrArg (kE (0, 13, 49, 0)) kk_402)
def kl_404 : List ke := (3, 218, 1, 219) :: kl_403
theorem kk_404 : km_404 = kF kl_404 := (show km_404 = kE (3, 218, 1, 219) km_403 from rfl).trans (congrArg (kE (3, 218, 1, 219)) kk_403)
def kl_405 : List ke := (0, 13, 7, 0) :: kl_404
theorem kk_405 : km_405 = kF kl_405 := (show km_405 = kE (0, 13, 7, 0) km_404 from rfl).trans (congrArg (kE (0, 13, 7, 0)) kk_404)
def kl_406 : List ke := (3, 218, 2, 220) :: kl_405
theorem kk_406 : km_406 = kF kl_406 := (show km_406 = kE (3, 218, 2, 220) km_405 from rfl).trans (congrArg (kE (3, 218, 2, 220)) kk_405)
def kl_407 : List ke := (0, 13, 7, 0) :: kl_406
theorem kk_407 : km_407 = kF kl_407 := (show km_407 = kE (0, 13, 7, 0) km_406 from rfl).trans (congrArg (kE (0, 13, 7, 0)) kk_406)
def kl_408 : List ke := (3, 218, 3, 221) :: kl_407
theorem kk_408 : km_408 = kF kl_408 := (show km_408 = kE (3, 218, 3, 221) km_407 from rfl).trans (congrArg (kE (3, 218, 3, 221)) kk_407)
def kl_409 : List ke := (0, 13, 7, 0) :: kl_408
theorem kk_409 : km_409 = kF kl_409 := (show km_409 = kE (0, 13, 7, 0) km_408 from rfl).trans (congrArg (kE (0, 13, 7, 0)) kk_408)
def kl_410 : List ke := (3, 218, 4, 222) :: kl_409
theorem kk_410 : km_410 = kF kl_410 := (show km_410 = kE (3, 218, 4, 222) km_409 from rfl).trans (congrArg (kE (3, 218, 4, 222)) kk_409)
def kl_411 : List ke := (0, 13, 7, 0) :: kl_410
theorem kk_411 : km_411 = kF kl_411 := (show km_411 = kE (0, 13, 7, 0) km_410 from rfl).trans (congrArg (kE (0, 13, 7, 0)) kk_410)
def kl_412 : List ke := (3, 218, 5, 223) :: kl_411
theorem kk_412 : km_412 = kF kl_412 := (show km_412 = kE (3, 218, 5, 223) km_411 from rfl).trans (congrArg (kE (3, 218, 5, 223)) kk_411)
def kl_413 : List ke := (3, 215, 0, 218) :: kl_412
theorem kk_413 : km_413 = kF kl_413 := (show km_413 = kE (3, 215, 0, 218) km_412 from rfl).trans (congrArg (kE (3, 215, 0, 218)) kk_412)
def kl_414 : List ke := (0, 3, 0, 0) :: kl_413
theorem kk_414 : km_414 = kF kl_414 := (show km_414 = kE (0, 3, 0, 0) km_413 from rfl).trans (congrArg (kE (0, 3, 0, 0)) kk_413)
def kl_415 : List ke := (0, 13, 49, 0) :: kl_414
theorem kk_415 : km_415 = kF kl_415 := (show km_415 = kE (0, 13, 49, 0) km_414 from rfl).trans (congrArg (kE (0, 13, 49, 0)) kk_414)
def kl_416 : List ke := (3, 224, 1, 225) :: kl_415
theorem kk_416 : km_416 = kF kl_416 := (show km_416 = kE (3, 224, 1, 225) km_415 from rfl).trans (congrArg (kE (3, 224, 1, 225)) kk_415)
def kl_417 : List ke := (0, 13, 7, 0) :: kl_416
theorem kk_417 : km_417 = kF kl_417 := (show km_417 = kE (0, 13, 7, 0) km_416 from rfl).trans (congrArg (kE (0, 13, 7, 0)) kk_416)
def kl_418 : List ke := (3, 224, 2, 226) :: kl_417
theorem kk_418 : km_418 = kF kl_418 := (show km_418 = kE (3, 224, 2, 226) km_417 from rfl).trans (congrArg (kE (3, 224, 2, 226)) kk_417)
def kl_419 : List ke := (0, 13, 7, 0) :: kl_418
theorem kk_419 : km_419 = kF kl_419 := (show km_419 = kE (0, 13, 7, 0) km_418 from rfl).trans (congrArg (kE (0, 13, 7, 0)) kk_418)
def kl_420 : List ke := (3, 224, 3, 227) :: kl_419
theorem kk_420 : km_420 = kF kl_420 := (show km_420 = kE (3, 224, 3, 227) km_419 from rfl).trans (congrArg (kE (3, 224, 3, 227)) kk_419)
def kl_421 : List ke := (0, 13, 7, 0) :: kl_420
theorem kk_421 : km_421 = kF kl_421 := (show km_421 = kE (0, 13, 7, 0) km_420 from rfl).trans (congrArg (kE (0, 13, 7, 0)) kk_420)
def kl_422 : List ke := (3, 224, 4, 228) :: kl_421
theorem kk_422 : km_422 = kF kl_422 := (show km_422 = kE (3, 224, 4, 228) km_421 from rfl).trans (congrArg (kE (3, 224, 4, 228)) kk_421)
def kl_423 : List ke := (0, 13, 7, 0) :: kl_422
theorem kk_423 : km_423 = kF kl_423 := (show km_423 = kE (0, 13, 7, 0) km_422 from rfl).trans (congrArg (kE (0, 13, 7, 0)) kk_422)
def kl_424 : List ke := (3, 224, 5, 229) :: kl_423
theorem kk_424 : km_424 = kF kl_424 := (show km_424 = kE (3, 224, 5, 229) km_423 from rfl).trans (congrArg (kE (3, 224, 5, 229)) kk_423)
def kl_425 : List ke := (3, 215, 1, 224) :: kl_424
theorem kk_425 : km_425 = kF kl_425 := (show km_425 = kE (3, 215, 1, 224) km_424 from rfl).trans (congrArg (kE (3, 215, 1, 224)) kk_424)
def kl_426 : List ke := (0, 3, 0, 0) :: kl_425
theorem kk_426 : km_426 = kF kl_426 := (show km_426 = kE (0, 3, 0, 0) km_425 from rfl).trans (congrArg (kE (0, 3, 0, 0)) kk_425)
def kl_427 : List ke := (0, 13, 49, 0) :: kl_426
theorem kk_427 : km_427 = kF kl_427 := (show km_427 = kE (0, 13, 49, 0) km_426 from rfl).trans (congrArg (kE (0, 13, 49, 0)) kk_426)
def kl_428 : List ke := (3, 230, 1, 231) :: kl_427
theorem kk_428 : km_428 = kF kl_428 := (show km_428 = kE (3, 230, 1, 231) km_427 from rfl).trans (congrArg (kE (3, 230, 1, 231)) kk_427)
def kl_429 : List ke := (0, 13, 7, 0) :: kl_428
theorem kk_429 : km_429 = kF kl_429 := (show km_429 = kE (0, 13, 7, 0) km_428 from rfl).trans (congrArg (kE (0, 13, 7, 0)) kk_428)
def kl_430 : List ke := (3, 230, 2, 232) :: kl_429
theorem kk_430 : km_430 = kF kl_430 := (show km_430 = kE (3, 230, 2, 232) km_429 from rfl).trans (congrArg (kE (3, 230, 2, 232)) kk_429)
def kl_431 : List ke := (0, 13, 7, 0) :: kl_430
theorem kk_431 : km_431 = kF kl_431 := (show km_431 = kE (0, 13, 7, 0) km_430 from rfl).trans (congrArg (kE (0, 13, 7, 0)) kk_430)
def kl_432 : List ke := (3, 230, 3, 233) :: kl_431
theorem kk_432 : km_432 = kF kl_432 := (show km_432 = kE (3, 230, 3, 233) km_431 from rfl).trans (congrArg (kE (3, 230, 3, 233)) kk_431)
def kl_433 : List ke := (0, 13, 7, 0) :: kl_432
theorem kk_433 : km_433 = kF kl_433 := (show km_433 = kE (0, 13, 7, 0) km_432 from rfl).trans (congrArg (kE (0, 13, 7, 0)) kk_432)
def kl_434 : List ke := (3, 230, 4, 234) :: kl_433
theorem kk_434 : km_434 = kF kl_434 := (show km_434 = kE (3, 230, 4, 234) km_433 from rfl).trans (congrArg (kE (3, 230, 4, 234)) kk_433)
def kl_435 : List ke := (0, 13, 7, 0) :: kl_434
theorem kk_435 : km_435 = kF kl_435 := (show km_435 = kE (0, 13, 7, 0) km_434 from rfl).trans (congrArg (kE (0, 13, 7, 0)) kk_434)
def kl_436 : List ke := (3, 230, 5, 235) :: kl_435
theorem kk_436 : km_436 = kF kl_436 := (show km_436 = kE (3, 230, 5, 235) km_435 from rfl).trans (congrArg (kE (3, 230, 5, 235)) kk_435)
def kl_437 : List ke := (3, 215, 2, 230) :: kl_436
theorem kk_437 : km_437 = kF kl_437 := (show km_437 = kE (3, 215, 2, 230) km_436 from rfl).trans (congrArg (kE (3, 215, 2, 230)) kk_436)
def kl_438 : List ke := (0, 3, 0, 0) :: kl_437
theorem kk_438 : km_438 = kF kl_438 := (show km_438 = kE (0, 3, 0, 0) km_437 from rfl).trans (congrArg (kE (0, 3, 0, 0)) kk_437)
def kl_439 : List ke := (0, 13, 49, 0) :: kl_438
theorem kk_439 : km_439 = kF kl_439 := (show km_439 = kE (0, 13, 49, 0) km_438 from rfl).trans (congrArg (kE (0, 13, 49, 0)) kk_438)
def kl_440 : List ke := (3, 236, 1, 237) :: kl_439
theorem kk_440 : km_440 = kF kl_440 := (show km_440 = kE (3, 236, 1, 237) km_439 from rfl).trans (congrArg (kE (3, 236, 1, 237)) kk_439)
def kl_441 : List ke := (0, 13, 7, 0) :: kl_440
theorem kk_441 : km_441 = kF kl_441 := (show km_441 = kE (0, 13, 7, 0) km_440 from rfl).trans (congrArg (kE (0, 13, 7, 0)) kk_440)
def kl_442 : List ke := (3, 236, 2, 238) :: kl_441
theorem kk_442 : km_442 = kF kl_442 := (show km_442 = kE (3, 236, 2, 238) km_441 from rfl).trans (congrArg (kE (3, 236, 2, 238)) kk_441)
def kl_443 : List ke := (0, 13, 7, 0) :: kl_442
theorem kk_443 : km_443 = kF kl_443 := (show km_443 = kE (0, 13, 7, 0) km_442 from rfl).trans (congrArg (kE (0, 13, 7, 0)) kk_442)
def kl_444 : List ke := (3, 236, 3, 239) :: kl_443
theorem kk_444 : km_444 = kF kl_444 := (show km_444 = kE (3, 236, 3, 239) km_443 from rfl).trans (congrArg (kE (3, 236, 3, 239)) kk_443)
def kl_445 : List ke := (0, 13, 7, 0) :: kl_444
theorem kk_445 : km_445 = kF kl_445 := (show km_445 = kE (0, 13, 7, 0) km_444 from rfl).trans (congrArg (kE (0, 13, 7, 0)) kk_444)
def kl_446 : List ke := (3, 236, 4, 240) :: kl_445
theorem kk_446 : km_446 = kF kl_446 := (show km_446 = kE (3, 236, 4, 240) km_445 from rfl).trans (congrArg (kE (3, 236, 4, 240)) kk_445)
def kl_447 : List ke := (0, 13, 7, 0) :: kl_446
theorem kk_447 : km_447 = kF kl_447 := (show km_447 = kE (0, 13, 7, 0) km_446 from rfl).trans (congrArg (kE (0, 13, 7, 0)) kk_446)
def kl_448 : List ke := (3, 236, 5, 241) :: kl_447
theorem kk_448 : km_448 = kF kl_448 := (show km_448 = kE (3, 236, 5, 241) km_447 from rfl).trans (congrArg (kE (3, 236, 5, 241)) kk_447)
def kl_449 : List ke := (3, 215, 3, 236) :: kl_448
theorem kk_449 : km_449 = kF kl_449 := (show km_449 = kE (3, 215, 3, 236) km_448 from rfl).trans (congrArg (kE (3, 215, 3, 236)) kk_448)
def kl_450 : List ke := (0, 3, 0, 0) :: kl_449
theorem kk_450 : km_450 = kF kl_450 := (show km_450 = kE (0, 3, 0, 0) km_449 from rfl).trans (congrArg (kE (0, 3, 0, 0)) kk_449)
def kl_451 : List ke := (0, 13, 49, 0) :: kl_450
theorem kk_451 : km_451 = kF kl_451 := (show km_451 = kE (0, 13, 49, 0) km_450 from rfl).trans (congrArg (kE (0, 13, 49, 0)) kk_450)
def kl_452 : List ke := (3, 242, 1, 243) :: kl_451
theorem kk_452 : km_452 = kF kl_452 := (show km_452 = kE (3, 242, 1, 243) km_451 from rfl).trans (congrArg (kE (3, 242, 1, 243)) kk_451)
def kl_453 : List ke := (0, 13, 7, 0) :: kl_452
theorem kk_453 : km_453 = kF kl_453 := (show km_453 = kE (0, 13, 7, 0) km_452 from rfl).trans (congrArg (kE (0, 13, 7, 0)) kk_452)
def kl_454 : List ke := (3, 242, 2, 244) :: kl_453
theorem kk_454 : km_454 = kF kl_454 := (show km_454 = kE (3, 242, 2, 244) km_453 from rfl).trans (congrArg (kE (3, 242, 2, 244)) kk_453)
def kl_455 : List ke := (0, 13, 7, 0) :: kl_454
theorem kk_455 : km_455 = kF kl_455 := (show km_455 = kE (0, 13, 7, 0) km_454 from rfl).trans (congrArg (kE (0, 13, 7, 0)) kk_454)
def kl_456 : List ke := (3, 242, 3, 245) :: kl_455
theorem kk_456 : km_456 = kF kl_456 := (show km_456 = kE (3, 242, 3, 245) km_455 from rfl).trans (congrArg (kE (3, 242, 3, 245)) kk_455)
def kl_457 : List ke := (0, 13, 7, 0) :: kl_456
theorem kk_457 : km_457 = kF kl_457 := (show km_457 = kE (0, 13, 7, 0) km_456 from rfl).trans (congrArg (kE (0, 13, 7, 0)) kk_456)
def kl_458 : List ke := (3, 242, 4, 246) :: kl_457
theorem kk_458 : km_458 = kF kl_458 := (show km_458 = kE (3, 242, 4, 246) km_457 from rfl).trans (congrArg (kE (3, 242, 4, 246)) kk_457)
def kl_459 : List ke := (0, 13, 7, 0) :: kl_458
theorem kk_459 : km_459 = kF kl_459 := (show km_459 = kE (0, 13, 7, 0) km_458 from rfl).trans (congrArg (kE (0, 13, 7, 0)) kk_458)
def kl_460 : List ke := (3, 242, 5, 247) :: kl_459
theorem kk_460 : km_460 = kF kl_460 := (show km_460 = kE (3, 242, 5, 247) km_459 from rfl).trans (congrArg (kE (3, 242, 5, 247)) kk_459)
def kl_461 : List ke := (3, 215, 4, 242) :: kl_460
theorem kk_461 : km_461 = kF kl_461 := (show km_461 = kE (3, 215, 4, 242) km_460 from rfl).trans (congrArg (kE (3, 215, 4, 242)) kk_460)
def kl_462 : List ke := (0, 3, 0, 0) :: kl_461
theorem kk_462 : km_462 = kF kl_462 := (show km_462 = kE (0, 3, 0, 0) km_461 from rfl).trans (congrArg (kE (0, 3, 0, 0)) kk_461)
def kl_463 : List ke := (0, 13, 49, 0) :: kl_462
theorem kk_463 : km_463 = kF kl_463 := (show km_463 = kE (0, 13, 49, 0) km_462 from rfl).trans (congrArg (kE (0, 13, 49, 0)) kk_462)
def kl_464 : List ke := (3, 248, 1, 249) :: kl_463
theorem kk_464 : km_464 = kF kl_464 := (show km_464 = kE (3, 248, 1, 249) km_463 from rfl).trans (congrArg (kE (3, 248, 1, 249)) kk_463)
def kl_465 : List ke := (0, 13, 7, 0) :: kl_464
theorem kk_465 : km_465 = kF kl_465 := (show km_465 = kE (0, 13, 7, 0) km_464 from rfl).trans (congrArg (kE (0, 13, 7, 0)) kk_464)
def kl_466 : List ke := (3, 248, 2, 250) :: kl_465
theorem kk_466 : km_466 = kF kl_466 := (show km_466 = kE (3, 248, 2, 250) km_465 from rfl).trans (congrArg (kE (3, 248, 2, 250)) kk_465)
def kl_467 : List ke := (0, 13, 7, 0) :: kl_466
theorem kk_467 : km_467 = kF kl_467 := (show km_467 = kE (0, 13, 7, 0) km_466 from rfl).trans (congrArg (kE (0, 13, 7, 0)) kk_466)
def kl_468 : List ke := (3, 248, 3, 251) :: kl_467
theorem kk_468 : km_468 = kF kl_468 := (show km_468 = kE (3, 248, 3, 251) km_467 from rfl).trans (congrArg (kE (3, 248, 3, 251)) kk_467)
def kl_469 : List ke := (0, 13, 7, 0) :: kl_468
theorem kk_469 : km_469 = kF kl_469 := (show km_469 = kE (0, 13, 7, 0) km_468 from rfl).trans (congrArg (kE (0, 13, 7, 0)) kk_468)
def kl_470 : List ke := (3, 248, 4, 252) :: kl_469
theorem kk_470 : km_470 = kF kl_470 := (show km_470 = kE (3, 248, 4, 252) km_469 from rfl).trans (congrArg (kE (3, 248, 4, 252)) kk_469)
def kl_471 : List ke := (0, 13, 7, 0) :: kl_470
theorem kk_471 : km_471 = kF kl_471 := (show km_471 = kE (0, 13, 7, 0) km_470 from rfl).trans (congrArg (kE (0, 13, 7, 0)) kk_470)
def kl_472 : List ke := (3, 248, 5, 253) :: kl_471
theorem kk_472 : km_472 = kF kl_472 := (show km_472 = kE (3, 248, 5, 253) km_471 from rfl).trans (congrArg (kE (3, 248, 5, 253)) kk_471)
def kl_473 : List ke := (3, 215, 5, 248) :: kl_472
theorem kk_473 : km_473 = kF kl_473 := (show km_473 = kE (3, 215, 5, 248) km_472 from rfl).trans (congrArg (kE (3, 215, 5, 248)) kk_472)
def kl_474 : List ke := (0, 3, 0, 0) :: kl_473
theorem kk_474 : km_474 = kF kl_474 := (show km_474 = kE (0, 3, 0, 0) km_473 from rfl).trans (congrArg (kE (0, 3, 0, 0)) kk_473)
def kl_475 : List ke := (0, 13, 49, 0) :: kl_474
theorem kk_475 : km_475 = kF kl_475 := (show km_475 = kE (0, 13, 49, 0) km_474 from rfl).trans (congrArg (kE (0, 13, 49, 0)) kk_474)
def kl_476 : List ke := (3, 254, 1, 255) :: kl_475
theorem kk_476 : km_476 = kF kl_476 := (show km_476 = kE (3, 254, 1, 255) km_475 from rfl).trans (congrArg (kE (3, 254, 1, 255)) kk_475)
def kl_477 : List ke := (0, 13, 7, 0) :: kl_476
theorem kk_477 : km_477 = kF kl_477 := (show km_477 = kE (0, 13, 7, 0) km_476 from rfl).trans (congrArg (kE (0, 13, 7, 0)) kk_476)
def kl_478 : List ke := (3, 254, 2, 256) :: kl_477
theorem kk_478 : km_478 = kF kl_478 := (show km_478 = kE (3, 254, 2, 256) km_477 from rfl).trans (congrArg (kE (3, 254, 2, 256)) kk_477)
def kl_479 : List ke := (0, 13, 7, 0) :: kl_478
theorem kk_479 : km_479 = kF kl_479 := (show km_479 = kE (0, 13, 7, 0) km_478 from rfl).trans (congrArg (kE (0, 13, 7, 0)) kk_478)
def kl_480 : List ke := (3, 254, 3, 257) :: kl_479
theorem kk_480 : km_480 = kF kl_480 := (show km_480 = kE (3, 254, 3, 257) km_479 from rfl).trans (congrArg (kE (3, 254, 3, 257)) kk_479)
def kl_481 : List ke := (0, 13, 7, 0) :: kl_480
theorem kk_481 : km_481 = kF kl_481 := (show km_481 = kE (0, 13, 7, 0) km_480 from rfl).trans (congrArg (kE (0, 13, 7, 0)) kk_480)
def kl_482 : List ke := (3, 254, 4, 258) :: kl_481
theorem kk_482 : km_482 = kF kl_482 := (show km_482 = kE (3, 254, 4, 258) km_481 from rfl).trans (congrArg (kE (3, 254, 4, 258)) kk_481)
def kl_483 : List ke := (0, 13, 7, 0) :: kl_482
theorem kk_483 : km_483 = kF kl_483 := (show km_483 = kE (0, 13, 7, 0) km_482 from rfl).trans (congrArg (kE (0, 13, 7, 0)) kk_482)
def kl_484 : List ke := (3, 254, 5, 259) :: kl_483
theorem kk_484 : km_484 = kF kl_484 := (show km_484 = kE (3, 254, 5, 259) km_483 from rfl).trans (congrArg (kE (3, 254, 5, 259)) kk_483)
def kl_485 : List ke := (3, 215, 6, 254) :: kl_484
theorem kk_485 : km_485 = kF kl_485 := (show km_485 = kE (3, 215, 6, 254) km_484 from rfl).trans (congrArg (kE (3, 215, 6, 254)) kk_484)
def kl_486 : List ke := (3, 0, 11, 208) :: kl_485
theorem kk_486 : km_486 = kF kl_486 := (show km_486 = kE (3, 0, 11, 208) km_485 from rfl).trans (congrArg (kE (3, 0, 11, 208)) kk_485)
def kl_487 : List ke := (0, 7, 0, 0) :: kl_486
theorem kk_487 : km_487 = kF kl_487 := (show km_487 = kE (0, 7, 0, 0) km_486 from rfl).trans (congrArg (kE (0, 7, 0, 0)) kk_486)
def kl_488 : List ke := (0, 16, 4, 0) :: kl_487
theorem kk_488 : km_488 = kF kl_488 := (show km_488 = kE (0, 16, 4, 0) km_487 from rfl).trans (congrArg (kE (0, 16, 4, 0)) kk_487)
def kl_489 : List ke := (3, 260, 1, 261) :: kl_488
theorem kk_489 : km_489 = kF kl_489 := (show km_489 = kE (3, 260, 1, 261) km_488 from rfl).trans (congrArg (kE (3, 260, 1, 261)) kk_488)
def kl_490 : List ke := (0, 13, 3, 0) :: kl_489
theorem kk_490 : km_490 = kF kl_490 := (show km_490 = kE (0, 13, 3, 0) km_489 from rfl).trans (congrArg (kE (0, 13, 3, 0)) kk_489)
def kl_491 : List ke := (3, 260, 2, 262) :: kl_490
theorem kk_491 : km_491 = kF kl_491 := (show km_491 = kE (3, 260, 2, 262) km_490 from rfl).trans (congrArg (kE (3, 260, 2, 262)) kk_490)
def kl_492 : List ke := (3, 260, 0, 55) :: kl_491
theorem kk_492 : km_492 = kF kl_492 := (show km_492 = kE (3, 260, 0, 55) km_491 from rfl).trans (congrArg (kE (3, 260, 0, 55)) kk_491)
def kl_493 : List ke := (0, 3, 0, 0) :: kl_492
theorem kk_493 : km_493 = kF kl_493 := (show km_493 = kE (0, 3, 0, 0) km_492 from rfl).trans (congrArg (kE (0, 3, 0, 0)) kk_492)
def kl_494 : List ke := (0, 13, 49, 0) :: kl_493
theorem kk_494 : km_494 = kF kl_494 := (show km_494 = kE (0, 13, 49, 0) km_493 from rfl).trans (congrArg (kE (0, 13, 49, 0)) kk_493)
def kl_495 : List ke := (3, 263, 1, 264) :: kl_494
theorem kk_495 : km_495 = kF kl_495 := (show km_495 = kE (3, 263, 1, 264) km_494 from rfl).trans (congrArg (kE (3, 263, 1, 264)) kk_494)
def kl_496 : List ke := (0, 13, 7, 0) :: kl_495
theorem kk_496 : km_496 = kF kl_496 := (show km_496 = kE (0, 13, 7, 0) km_495 from rfl).trans (congrArg (kE (0, 13, 7, 0)) kk_495)
def kl_497 : List ke := (3, 263, 2, 265) :: kl_496
theorem kk_497 : km_497 = kF kl_497 := (show km_497 = kE (3, 263, 2, 265) km_496 from rfl).trans (congrArg (kE (3, 263, 2, 265)) kk_496)
def kl_498 : List ke := (0, 13, 7, 0) :: kl_497
theorem kk_498 : km_498 = kF kl_498 := (show km_498 = kE (0, 13, 7, 0) km_497 from rfl).trans (congrArg (kE (0, 13, 7, 0)) kk_497)
def kl_499 : List ke := (3, 263, 3, 266) :: kl_498
theorem kk_499 : km_499 = kF kl_499 := (show km_499 = kE (3, 263, 3, 266) km_498 from rfl).trans (congrArg (kE (3, 263, 3, 266)) kk_498)
def kl_500 : List ke := (0, 13, 7, 0) :: kl_499
theorem kk_500 : km_500 = kF kl_500 := (show km_500 = kE (0, 13, 7, 0) km_499 from rfl).trans (congrArg (kE (0, 13, 7, 0)) kk_499)
def kl_501 : List ke := (3, 263, 4, 267) :: kl_500
theorem kk_501 : km_501 = kF kl_501 := (show km_501 = kE (3, 263, 4, 267) km_500 from rfl).trans (congrArg (kE (3, 263, 4, 267)) kk_500)
def kl_502 : List ke := (0, 13, 7, 0) :: kl_501
theorem kk_502 : km_502 = kF kl_502 := (show km_502 = kE (0, 13, 7, 0) km_501 from rfl).trans (congrArg (kE (0, 13, 7, 0)) kk_501)
def kl_503 : List ke := (3, 263, 5, 268) :: kl_502
theorem kk_503 : km_503 = kF kl_503 := (show km_503 = kE (3, 263, 5, 268) km_502 from rfl).trans (congrArg (kE (3, 263, 5, 268)) kk_502)
def kl_504 : List ke := (3, 261, 0, 263) :: kl_503
theorem kk_504 : km_504 = kF kl_504 := (show km_504 = kE (3, 261, 0, 263) km_503 from rfl).trans (congrArg (kE (3, 261, 0, 263)) kk_503)
def kl_505 : List ke := (0, 3, 0, 0) :: kl_504
theorem kk_505 : km_505 = kF kl_505 := (show km_505 = kE (0, 3, 0, 0) km_504 from rfl).trans (congrArg (kE (0, 3, 0, 0)) kk_504)
def kl_506 : List ke := (0, 13, 49, 0) :: kl_505
theorem kk_506 : km_506 = kF kl_506 := (show km_506 = kE (0, 13, 49, 0) km_505 from rfl).trans (congrArg (kE (0, 13, 49, 0)) kk_505)
def kl_507 : List ke := (3, 269, 1, 270) :: kl_506
theorem kk_507 : km_507 = kF kl_507 := (show km_507 = kE (3, 269, 1, 270) km_506 from rfl).trans (congrArg (kE (3, 269, 1, 270)) kk_506)
def kl_508 : List ke := (0, 13, 7, 0) :: kl_507
theorem kk_508 : km_508 = kF kl_508 := (show km_508 = kE (0, 13, 7, 0) km_507 from rfl).trans (congrArg (kE (0, 13, 7, 0)) kk_507)
def kl_509 : List ke := (3, 269, 2, 271) :: kl_508
theorem kk_509 : km_509 = kF kl_509 := (show km_509 = kE (3, 269, 2, 271) km_508 from rfl).trans (congrArg (kE (3, 269, 2, 271)) kk_508)
def kl_510 : List ke := (0, 13, 7, 0) :: kl_509
theorem kk_510 : km_510 = kF kl_510 := (show km_510 = kE (0, 13, 7, 0) km_509 from rfl).trans (congrArg (kE (0, 13, 7, 0)) kk_509)
def kl_511 : List ke := (3, 269, 3, 272) :: kl_510
theorem kk_511 : km_511 = kF kl_511 := (show km_511 = kE (3, 269, 3, 272) km_510 from rfl).trans (congrArg (kE (3, 269, 3, 272)) kk_510)
def kl_512 : List ke := (0, 13, 7, 0) :: kl_511
theorem kk_512 : km_512 = kF kl_512 := (show km_512 = kE (0, 13, 7, 0) km_511 from rfl).trans (congrArg (kE (0, 13, 7, 0)) kk_511)
def kl_513 : List ke := (3, 269, 4, 273) :: kl_512
theorem kk_513 : km_513 = kF kl_513 := (show km_513 = kE (3, 269, 4, 273) km_512 from rfl).trans (congrArg (kE (3, 269, 4, 273)) kk_512)
def kl_514 : List ke := (0, 13, 7, 0) :: kl_513
theorem kk_514 : km_514 = kF kl_514 := (show km_514 = kE (0, 13, 7, 0) km_513 from rfl).trans (congrArg (kE (0, 13, 7, 0)) kk_513)
def kl_515 : List ke := (3, 269, 5, 274) :: kl_514
theorem kk_515 : km_515 = kF kl_515 := (show km_515 = kE (3, 269, 5, 274) km_514 from rfl).trans (congrArg (kE (3, 269, 5, 274)) kk_514)
def kl_516 : List ke := (3, 261, 1, 269) :: kl_515
theorem kk_516 : km_516 = kF kl_516 := (show km_516 = kE (3, 261, 1, 269) km_515 from rfl).trans (congrArg (kE (3, 261, 1, 269)) kk_515)
def kl_517 : List ke := (0, 3, 0, 0) :: kl_516
theorem kk_517 : km_517 = kF kl_517 := (show km_517 = kE (0, 3, 0, 0) km_516 from rfl).trans (congrArg (kE (0, 3, 0, 0)) kk_516)
def kl_518 : List ke := (0, 13, 49, 0) :: kl_517
theorem kk_518 : km_518 = kF kl_518 := (show km_518 = kE (0, 13, 49, 0) km_517 from rfl).trans (congrArg (kE (0, 13, 49, 0)) kk_517)
def kl_519 : List ke := (3, 275, 1, 276) :: kl_518
theorem kk_519 : km_519 = kF kl_519 := (show km_519 = kE (3, 275, 1, 276) km_518 from rfl).trans (congrArg (kE (3, 275, 1, 276)) kk_518)
def kl_520 : List ke := (0, 13, 7, 0) :: kl_519
theorem kk_520 : km_520 = kF kl_520 := (show km_520 = kE (0, 13, 7, 0) km_519 from rfl).trans (congrArg (kE (0, 13, 7, 0)) kk_519)
def kl_521 : List ke := (3, 275, 2, 277) :: kl_520
theorem kk_521 : km_521 = kF kl_521 := (show km_521 = kE (3, 275, 2, 277) km_520 from rfl).trans (congrArg (kE (3, 275, 2, 277)) kk_520)
def kl_522 : List ke := (0, 13, 7, 0) :: kl_521
theorem kk_522 : km_522 = kF kl_522 := (show km_522 = kE (0, 13, 7, 0) km_521 from rfl).trans (congrArg (kE (0, 13, 7, 0)) kk_521)
def kl_523 : List ke := (3, 275, 3, 278) :: kl_522
theorem kk_523 : km_523 = kF kl_523 := (show km_523 = kE (3, 275, 3, 278) km_522 from rfl).trans (congrArg (kE (3, 275, 3, 278)) kk_522)
def kl_524 : List ke := (0, 13, 7, 0) :: kl_523
theorem kk_524 : km_524 = kF kl_524 := (show km_524 = kE (0, 13, 7, 0) km_523 from rfl).trans (congrArg (kE (0, 13, 7, 0)) kk_523)
def kl_525 : List ke := (3, 275, 4, 279) :: kl_524
theorem kk_525 : km_525 = kF kl_525 := (show km_525 = kE (3, 275, 4, 279) km_524 from rfl).trans (congrArg (kE (3, 275, 4, 279)) kk_524)
def kl_526 : List ke := (0, 13, 7, 0) :: kl_525
theorem kk_526 : km_526 = kF kl_526 := (show km_526 = kE (0, 13, 7, 0) km_525 from rfl).trans (congrArg (kE (0, 13, 7, 0)) kk_525)
def kl_527 : List ke := (3, 275, 5, 280) :: kl_526
theorem kk_527 : km_527 = kF kl_527 := (show km_527 = kE (3, 275, 5, 280) km_526 from rfl).trans (congrArg (kE (3, 275, 5, 280)) kk_526)
def kl_528 : List ke := (3, 261, 2, 275) :: kl_527
theorem kk_528 : km_528 = kF kl_528 := (show km_528 = kE (3, 261, 2, 275) km_527 from rfl).trans (congrArg (kE (3, 261, 2, 275)) kk_527)
def kl_529 : List ke := (0, 3, 0, 0) :: kl_528
theorem kk_529 : km_529 = kF kl_529 := (show km_529 = kE (0, 3, 0, 0) km_528 from rfl).trans (congrArg (kE (0, 3, 0, 0)) kk_528)
def kl_530 : List ke := (0, 13, 49, 0) :: kl_529
theorem kk_530 : km_530 = kF kl_530 := (show km_530 = kE (0, 13, 49, 0) km_529 from rfl).trans (congrArg (kE (0, 13, 49, 0)) kk_529)
def kl_531 : List ke := (3, 281, 1, 282) :: kl_530
theorem kk_531 : km_531 = kF kl_531 := (show km_531 = kE (3, 281, 1, 282) km_530 from rfl).trans (congrArg (kE (3, 281, 1, 282)) kk_530)
def kl_532 : List ke := (0, 13, 7, 0) :: kl_531
theorem kk_532 : km_532 = kF kl_532 := (show km_532 = kE (0, 13, 7, 0) km_531 from rfl).trans (congrArg (kE (0, 13, 7, 0)) kk_531)
def kl_533 : List ke := (3, 281, 2, 283) :: kl_532
theorem kk_533 : km_533 = kF kl_533 := (show km_533 = kE (3, 281, 2, 283) km_532 from rfl).trans (congrArg (kE (3, 281, 2, 283)) kk_532)
def kl_534 : List ke := (0, 13, 7, 0) :: kl_533
theorem kk_534 : km_534 = kF kl_534 := (show km_534 = kE (0, 13, 7, 0) km_533 from rfl).trans (congrArg (kE (0, 13, 7, 0)) kk_533)
def kl_535 : List ke := (3, 281, 3, 284) :: kl_534
theorem kk_535 : km_535 = kF kl_535 := (show km_535 = kE (3, 281, 3, 284) km_534 from rfl).trans (congrArg (kE (3, 281, 3, 284)) kk_534)
def kl_536 : List ke := (0, 13, 7, 0) :: kl_535
theorem kk_536 : km_536 = kF kl_536 := (show km_536 = kE (0, 13, 7, 0) km_535 from rfl).trans (congrArg (kE (0, 13, 7, 0)) kk_535)
def kl_537 : List ke := (3, 281, 4, 285) :: kl_536
theorem kk_537 : km_537 = kF kl_537 := (show km_537 = kE (3, 281, 4, 285) km_536 from rfl).trans (congrArg (kE (3, 281, 4, 285)) kk_536)
def kl_538 : List ke := (0, 13, 7, 0) :: kl_537
theorem kk_538 : km_538 = kF kl_538 := (show km_538 = kE (0, 13, 7, 0) km_537 from rfl).trans (congrArg (kE (0, 13, 7, 0)) kk_537)
def kl_539 : List ke := (3, 281, 5, 286) :: kl_538
theorem kk_539 : km_539 = kF kl_539 := (show km_539 = kE (3, 281, 5, 286) km_538 from rfl).trans (congrArg (kE (3, 281, 5, 286)) kk_538)
def kl_540 : List ke := (3, 261, 3, 281) :: kl_539
theorem kk_540 : km_540 = kF kl_540 := (show km_540 = kE (3, 261, 3, 281) km_539 from rfl).trans (congrArg (kE (3, 261, 3, 281)) kk_539)
def kl_541 : List ke := (3, 0, 12, 260) :: kl_540
theorem kk_541 : km_541 = kF kl_541 := (show km_541 = kE (3, 0, 12, 260) km_540 from rfl).trans (congrArg (kE (3, 0, 12, 260)) kk_540)
def kl_542 : List ke := (0, 9, 0, 0) :: kl_541
theorem kk_542 : km_542 = kF kl_542 := (show km_542 = kE (0, 9, 0, 0) km_541 from rfl).trans (congrArg (kE (0, 9, 0, 0)) kk_541)
def kl_543 : List ke := (0, 13, 49, 0) :: kl_542
theorem kk_543 : km_543 = kF kl_543 := (show km_543 = kE (0, 13, 49, 0) km_542 from rfl).trans (congrArg (kE (0, 13, 49, 0)) kk_542)
def kl_544 : List ke := (3, 287, 0, 288) :: kl_543
theorem kk_544 : km_544 = kF kl_544 := (show km_544 = kE (3, 287, 0, 288) km_543 from rfl).trans (congrArg (kE (3, 287, 0, 288)) kk_543)
def kl_545 : List ke := (3, 0, 13, 287) :: kl_544
theorem kk_545 : km_545 = kF kl_545 := (show km_545 = kE (3, 0, 13, 287) km_544 from rfl).trans (congrArg (kE (3, 0, 13, 287)) kk_544)
def kl_546 : List ke := (1, 0, 15, (-1)) :: kl_545
theorem kk_546 : km_546 = kF kl_546 := (show km_546 = kE (1, 0, 15, (-1)) km_545 from rfl).trans (congrArg (kE (1, 0, 15, (-1))) kk_545)
def kl_547 : List ke := (2, 0, 16, 1) :: kl_546
theorem kk_547 : km_547 = kF kl_547 := (show km_547 = kE (2, 0, 16, 1) km_546 from rfl).trans (congrArg (kE (2, 0, 16, 1)) kk_546)
def kl_548 : List ke := (0, 13, 80, 0) :: kl_547
theorem kk_548 : km_548 = kF kl_548 := (show km_548 = kE (0, 13, 80, 0) km_547 from rfl).trans (congrArg (kE (0, 13, 80, 0)) kk_547)
def kl_549 : List ke := (3, 0, 17, 289) :: kl_548
theorem kk_549 : km_549 = kF kl_549 := (show km_549 = kE (3, 0, 17, 289) km_548 from rfl).trans (congrArg (kE (3, 0, 17, 289)) kk_548)
def kl_550 : List ke := (0, 13, 6, 0) :: kl_549
theorem kk_550 : km_550 = kF kl_550 := (show km_550 = kE (0, 13, 6, 0) km_549 from rfl).trans (congrArg (kE (0, 13, 6, 0)) kk_549)
def kl_551 : List ke := (3, 0, 19, 290) :: kl_550
theorem kk_551 : km_551 = kF kl_551 := (show km_551 = kE (3, 0, 19, 290) km_550 from rfl).trans (congrArg (kE (3, 0, 19, 290)) kk_550)
def kl_552 : List ke := (0, 12, 0, 0) :: kl_551
theorem kk_552 : km_552 = kF kl_552 := (show km_552 = kE (0, 12, 0, 0) km_551 from rfl).trans (congrArg (kE (0, 12, 0, 0)) kk_551)
def kl_553 : List ke := (0, 13, 1600, 0) :: kl_552
theorem kk_553 : km_553 = kF kl_553 := (show km_553 = kE (0, 13, 1600, 0) km_552 from rfl).trans (congrArg (kE (0, 13, 1600, 0)) kk_552)
def kl_554 : List ke := (3, 291, 0, 292) :: kl_553
theorem kk_554 : km_554 = kF kl_554 := (show km_554 = kE (3, 291, 0, 292) km_553 from rfl).trans (congrArg (kE (3, 291, 0, 292)) kk_553)
def kl_555 : List ke := (1, 291, 8, (-1)) :: kl_554
theorem kk_555 : km_555 = kF kl_555 := (show km_555 = kE (1, 291, 8, (-1)) km_554 from rfl).trans (congrArg (kE (1, 291, 8, (-1))) kk_554)
def kl_556 : List ke := (0, 13, 6, 0) :: kl_555
theorem kk_556 : km_556 = kF kl_556 := (show km_556 = kE (0, 13, 6, 0) km_555 from rfl).trans (congrArg (kE (0, 13, 6, 0)) kk_555)
def kl_557 : List ke := (3, 291, 9, 293) :: kl_556
theorem kk_557 : km_557 = kF kl_557 := (show km_557 = kE (3, 291, 9, 293) km_556 from rfl).trans (congrArg (kE (3, 291, 9, 293)) kk_556)
def kl_558 : List ke := (0, 15, 5, 0) :: kl_557
theorem kk_558 : km_558 = kF kl_558 := (show km_558 = kE (0, 15, 5, 0) km_557 from rfl).trans (congrArg (kE (0, 15, 5, 0)) kk_557)
def kl_559 : List ke := (1, 294, 0, 112) :: kl_558
theorem kk_559 : km_559 = kF kl_559 := (show km_559 = kE (1, 294, 0, 112) km_558 from rfl).trans (congrArg (kE (1, 294, 0, 112)) kk_558)
def kl_560 : List ke := (1, 294, 1, 108) :: kl_559
theorem kk_560 : km_560 = kF kl_560 := (show km_560 = kE (1, 294, 1, 108) km_559 from rfl).trans (congrArg (kE (1, 294, 1, 108)) kk_559)
def kl_561 : List ke := (1, 294, 2, 97) :: kl_560
theorem kk_561 : km_561 = kF kl_561 := (show km_561 = kE (1, 294, 2, 97) km_560 from rfl).trans (congrArg (kE (1, 294, 2, 97)) kk_560)
def kl_562 : List ke := (1, 294, 3, 105) :: kl_561
theorem kk_562 : km_562 = kF kl_562 := (show km_562 = kE (1, 294, 3, 105) km_561 from rfl).trans (congrArg (kE (1, 294, 3, 105)) kk_561)
def kl_563 : List ke := (1, 294, 4, 110) :: kl_562
theorem kk_563 : km_563 = kF kl_563 := (show km_563 = kE (1, 294, 4, 110) km_562 from rfl).trans (congrArg (kE (1, 294, 4, 110)) kk_562)
def kl_564 : List ke := (3, 291, 11, 294) :: kl_563
theorem kk_564 : km_564 = kF kl_564 := (show km_564 = kE (3, 291, 11, 294) km_563 from rfl).trans (congrArg (kE (3, 291, 11, 294)) kk_563)
def kl_565 : List ke := (0, 15, 2, 0) :: kl_564
theorem kk_565 : km_565 = kF kl_565 := (show km_565 = kE (0, 15, 2, 0) km_564 from rfl).trans (congrArg (kE (0, 15, 2, 0)) kk_564)
def kl_566 : List ke := (1, 295, 0, 98) :: kl_565
theorem kk_566 : km_566 = kF kl_566 := (show km_566 = kE (1, 295, 0, 98) km_565 from rfl).trans (congrArg (kE (1, 295, 0, 98)) kk_565)
def kl_567 : List ke := (1, 295, 1, 121) :: kl_566
theorem kk_567 : km_567 = kF kl_567 := (show km_567 = kE (1, 295, 1, 121) km_566 from rfl).trans (congrArg (kE (1, 295, 1, 121)) kk_566)
def kl_568 : List ke := (3, 291, 12, 295) :: kl_567
theorem kk_568 : km_568 = kF kl_568 := (show km_568 = kE (3, 291, 12, 295) km_567 from rfl).trans (congrArg (kE (3, 291, 12, 295)) kk_567)
def kl_569 : List ke := (0, 15, 4, 0) :: kl_568
theorem kk_569 : km_569 = kF kl_569 := (show km_569 = kE (0, 15, 4, 0) km_568 from rfl).trans (congrArg (kE (0, 15, 4, 0)) kk_568)
def kl_570 : List ke := (1, 296, 0, 104) :: kl_569
theorem kk_570 : km_570 = kF kl_570 := (show km_570 = kE (1, 296, 0, 104) km_569 from rfl).trans (congrArg (kE (1, 296, 0, 104)) kk_569)
def kl_571 : List ke := (1, 296, 1, 105) :: kl_570
theorem kk_571 : km_571 = kF kl_571 := (show km_571 = kE (1, 296, 1, 105) km_570 from rfl).trans (congrArg (kE (1, 296, 1, 105)) kk_570)
def kl_572 : List ke := (1, 296, 2, 103) :: kl_571
theorem kk_572 : km_572 = kF kl_572 := (show km_572 = kE (1, 296, 2, 103) km_571 from rfl).trans (congrArg (kE (1, 296, 2, 103)) kk_571)
def kl_573 : List ke := (1, 296, 3, 104) :: kl_572
theorem kk_573 : km_573 = kF kl_573 := (show km_573 = kE (1, 296, 3, 104) km_572 from rfl).trans (congrArg (kE (1, 296, 3, 104)) kk_572)
def kl_574 : List ke := (3, 291, 13, 296) :: kl_573
theorem kk_574 : km_574 = kF kl_574 := (show km_574 = kE (3, 291, 13, 296) km_573 from rfl).trans (congrArg (kE (3, 291, 13, 296)) kk_573)
def kl_575 : List ke := (0, 15, 5, 0) :: kl_574
theorem kk_575 : km_575 = kF kl_575 := (show km_575 = kE (0, 15, 5, 0) km_574 from rfl).trans (congrArg (kE (0, 15, 5, 0)) kk_574)
def kl_576 : List ke := (1, 297, 0, 116) :: kl_575
theorem kk_576 : km_576 = kF kl_576 := (show km_576 = kE (1, 297, 0, 116) km_575 from rfl).trans (congrArg (kE (1, 297, 0, 116)) kk_575)
def kl_577 : List ke := (1, 297, 1, 111) :: kl_576
theorem kk_577 : km_577 = kF kl_577 := (show km_577 = kE (1, 297, 1, 111) km_576 from rfl).trans (congrArg (kE (1, 297, 1, 111)) kk_576)
def kl_578 : List ke := (1, 297, 2, 112) :: kl_577
theorem kk_578 : km_578 = kF kl_578 := (show km_578 = kE (1, 297, 2, 112) km_577 from rfl).trans (congrArg (kE (1, 297, 2, 112)) kk_577)
def kl_579 : List ke := (1, 297, 3, 105) :: kl_578
theorem kk_579 : km_579 = kF kl_579 := (show km_579 = kE (1, 297, 3, 105) km_578 from rfl).trans (congrArg (kE (1, 297, 3, 105)) kk_578)
def kl_580 : List ke := (1, 297, 4, 99) :: kl_579
theorem kk_580 : km_580 = kF kl_580 := (show km_580 = kE (1, 297, 4, 99) km_579 from rfl).trans (congrArg (kE (1, 297, 4, 99)) kk_579)
def kl_581 : List ke := (3, 291, 14, 297) :: kl_580
theorem kk_581 : km_581 = kF kl_581 := (show km_581 = kE (3, 291, 14, 297) km_580 from rfl).trans (congrArg (kE (3, 291, 14, 297)) kk_580)
def kl_582 : List ke := (0, 15, 6, 0) :: kl_581
theorem kk_582 : km_582 = kF kl_582 := (show km_582 = kE (0, 15, 6, 0) km_581 from rfl).trans (congrArg (kE (0, 15, 6, 0)) kk_581)
def kl_583 : List ke := (1, 298, 0, 112) :: kl_582
theorem kk_583 : km_583 = kF kl_583 := (show km_583 = kE (1, 298, 0, 112) km_582 from rfl).trans (congrArg (kE (1, 298, 0, 112)) kk_582)
def kl_584 : List ke := (1, 298, 1, 101) :: kl_583
theorem kk_584 : km_584 = kF kl_584 := (show km_584 = kE (1, 298, 1, 101) km_583 from rfl).trans (congrArg (kE (1, 298, 1, 101)) kk_583)
def kl_585 : List ke := (1, 298, 2, 114) :: kl_584
theorem kk_585 : km_585 = kF kl_585 := (show km_585 = kE (1, 298, 2, 114) km_584 from rfl).trans (congrArg (kE (1, 298, 2, 114)) kk_584)
def kl_586 : List ke := (1, 298, 3, 115) :: kl_585
theorem kk_586 : km_586 = kF kl_586 := (show km_586 = kE (1, 298, 3, 115) km_585 from rfl).trans (congrArg (kE (1, 298, 3, 115)) kk_585)
def kl_587 : List ke := (1, 298, 4, 111) :: kl_586
theorem kk_587 : km_587 = kF kl_587 := (show km_587 = kE (1, 298, 4, 111) km_586 from rfl).trans (congrArg (kE (1, 298, 4, 111)) kk_586)
def kl_588 : List ke := (1, 298, 5, 110) :: kl_587
theorem kk_588 : km_588 = kF kl_588 := (show km_588 = kE (1, 298, 5, 110) km_587 from rfl).trans (congrArg (kE (1, 298, 5, 110)) kk_587)
def kl_589 : List ke := (3, 291, 15, 298) :: kl_588
theorem kk_589 : km_589 = kF kl_589 := (show km_589 = kE (3, 291, 15, 298) km_588 from rfl).trans (congrArg (kE (3, 291, 15, 298)) kk_588)
def kl_590 : List ke := (0, 15, 2, 0) :: kl_589
theorem kk_590 : km_590 = kF kl_590 := (show km_590 = kE (0, 15, 2, 0) km_589 from rfl).trans (congrArg (kE (0, 15, 2, 0)) kk_589)
def kl_591 : List ke := (1, 299, 0, 97) :: kl_590
theorem kk_591 : km_591 = kF kl_591 := (show km_591 = kE (1, 299, 0, 97) km_590 from rfl).trans (congrArg (kE (1, 299, 0, 97)) kk_590)
def kl_592 : List ke := (1, 299, 1, 116) :: kl_591
theorem kk_592 : km_592 = kF kl_592 := (show km_592 = kE (1, 299, 1, 116) km_591 from rfl).trans (congrArg (kE (1, 299, 1, 116)) kk_591)
def kl_593 : List ke := (3, 291, 16, 299) :: kl_592
theorem kk_593 : km_593 = kF kl_593 := (show km_593 = kE (3, 291, 16, 299) km_592 from rfl).trans (congrArg (kE (3, 291, 16, 299)) kk_592)
def kl_594 : List ke := (0, 15, 5, 0) :: kl_593
theorem kk_594 : km_594 = kF kl_594 := (show km_594 = kE (0, 15, 5, 0) km_593 from rfl).trans (congrArg (kE (0, 15, 5, 0)) kk_593)
def kl_595 : List ke := (1, 300, 0, 116) :: kl_594
theorem kk_595 : km_595 = kF kl_595 := (show km_595 = kE (1, 300, 0, 116) km_594 from rfl).trans (congrArg (kE (1, 300, 0, 116)) kk_594)
def kl_596 : List ke := (1, 300, 1, 105) :: kl_595
theorem kk_596 : km_596 = kF kl_596 := (show km_596 = kE (1, 300, 1, 105) km_595 from rfl).trans (congrArg (kE (1, 300, 1, 105)) kk_595)
def kl_597 : List ke := (1, 300, 2, 114) :: kl_596
theorem kk_597 : km_597 = kF kl_597 := (show km_597 = kE (1, 300, 2, 114) km_596 from rfl).trans (congrArg (kE (1, 300, 2, 114)) kk_596)
def kl_598 : List ke := (1, 300, 3, 101) :: kl_597
theorem kk_598 : km_598 = kF kl_598 := (show km_598 = kE (1, 300, 3, 101) km_597 from rfl).trans (congrArg (kE (1, 300, 3, 101)) kk_597)
def kl_599 : List ke := (1, 300, 4, 100) :: kl_598
theorem kk_599 : km_599 = kF kl_599 := (show km_599 = kE (1, 300, 4, 100) km_598 from rfl).trans (congrArg (kE (1, 300, 4, 100)) kk_598)
def kl_600 : List ke := (3, 291, 17, 300) :: kl_599
theorem kk_600 : km_600 = kF kl_600 := (show km_600 = kE (3, 291, 17, 300) km_599 from rfl).trans (congrArg (kE (3, 291, 17, 300)) kk_599)
def kl_601 : List ke := (0, 15, 5, 0) :: kl_600
theorem kk_601 : km_601 = kF kl_601 := (show km_601 = kE (0, 15, 5, 0) km_600 from rfl).trans (congrArg (kE (0, 15, 5, 0)) kk_600)
def kl_602 : List ke := (1, 301, 0, 107) :: kl_601
theorem kk_602 : km_602 = kF kl_602 := (show km_602 = kE (1, 301, 0, 107) km_601 from rfl).trans (congrArg (kE (1, 301, 0, 107)) kk_601)
def kl_603 : List ke := (1, 301, 1, 110) :: kl_602
theorem kk_603 : km_603 = kF kl_603 := (show km_603 = kE (1, 301, 1, 110) km_602 from rfl).trans (congrArg (kE (1, 301, 1, 110)) kk_602)
def kl_604 : List ke := (1, 301, 2, 111) :: kl_603
theorem kk_604 : km_604 = kF kl_604 := (show km_604 = kE (1, 301, 2, 111) km_603 from rfl).trans (congrArg (kE (1, 301, 2, 111)) kk_603)
def kl_605 : List ke := (1, 301, 3, 119) :: kl_604
theorem kk_605 : km_605 = kF kl_605 := (show km_605 = kE (1, 301, 3, 119) km_604 from rfl).trans (congrArg (kE (1, 301, 3, 119)) kk_604)
def kl_606 : List ke := (1, 301, 4, 115) :: kl_605
theorem kk_606 : km_606 = kF kl_606 := (show km_606 = kE (1, 301, 4, 115) km_605 from rfl).trans (congrArg (kE (1, 301, 4, 115)) kk_605)
def kl_607 : List ke := (3, 291, 18, 301) :: kl_606
theorem kk_607 : km_607 = kF kl_607 := (show km_607 = kE (3, 291, 18, 301) km_606 from rfl).trans (congrArg (kE (3, 291, 18, 301)) kk_606)
def kl_608 : List ke := (0, 15, 2, 0) :: kl_607
theorem kk_608 : km_608 = kF kl_608 := (show km_608 = kE (0, 15, 2, 0) km_607 from rfl).trans (congrArg (kE (0, 15, 2, 0)) kk_607)
def kl_609 : List ke := (1, 302, 0, 111) :: kl_608
theorem kk_609 : km_609 = kF kl_609 := (show km_609 = kE (1, 302, 0, 111) km_608 from rfl).trans (congrArg (kE (1, 302, 0, 111)) kk_608)
def kl_610 : List ke := (1, 302, 1, 102) :: kl_609
theorem kk_610 : km_610 = kF kl_610 := (show km_610 = kE (1, 302, 1, 102) km_609 from rfl).trans (congrArg (kE (1, 302, 1, 102)) kk_609)
def kl_611 : List ke := (3, 291, 19, 302) :: kl_610
theorem kk_611 : km_611 = kF kl_611 := (show km_611 = kE (3, 291, 19, 302) km_610 from rfl).trans (congrArg (kE (3, 291, 19, 302)) kk_610)
def kl_612 : List ke := (0, 15, 4, 0) :: kl_611
theorem kk_612 : km_612 = kF kl_612 := (show km_612 = kE (0, 15, 4, 0) km_611 from rfl).trans (congrArg (kE (0, 15, 4, 0)) kk_611)
def kl_613 : List ke := (1, 303, 0, 97) :: kl_612
theorem kk_613 : km_613 = kF kl_613 := (show km_613 = kE (1, 303, 0, 97) km_612 from rfl).trans (congrArg (kE (1, 303, 0, 97)) kk_612)
def kl_614 : List ke := (1, 303, 1, 115) :: kl_613
theorem kk_614 : km_614 = kF kl_614 := (show km_614 = kE (1, 303, 1, 115) km_613 from rfl).trans (congrArg (kE (1, 303, 1, 115)) kk_613)
def kl_615 : List ke := (1, 303, 2, 107) :: kl_614
theorem kk_615 : km_615 = kF kl_615 := (show km_615 = kE (1, 303, 2, 107) km_614 from rfl).trans (congrArg (kE (1, 303, 2, 107)) kk_614)
def kl_616 : List ke := (1, 303, 3, 115) :: kl_615
theorem kk_616 : km_616 = kF kl_616 := (show km_616 = kE (1, 303, 3, 115) km_615 from rfl).trans (congrArg (kE (1, 303, 3, 115)) kk_615)
def kl_617 : List ke := (3, 291, 20, 303) :: kl_616
theorem kk_617 : km_617 = kF kl_617 := (show km_617 = kE (3, 291, 20, 303) km_616 from rfl).trans (congrArg (kE (3, 291, 20, 303)) kk_616)
def kl_618 : List ke := (0, 15, 5, 0) :: kl_617
theorem kk_618 : km_618 = kF kl_618 := (show km_618 = kE (0, 15, 5, 0) km_617 from rfl).trans (congrArg (kE (0, 15, 5, 0)) kk_617)
def kl_619 : List ke := (1, 304, 0, 108) :: kl_618
theorem kk_619 : km_619 = kF kl_619 := (show km_619 = kE (1, 304, 0, 108) km_618 from rfl).trans (congrArg (kE (1, 304, 0, 108)) kk_618)
def kl_620 : List ke := (1, 304, 1, 105) :: kl_619
theorem kk_620 : km_620 = kF kl_620 := (show km_620 = kE (1, 304, 1, 105) km_619 from rfl).trans (congrArg (kE (1, 304, 1, 105)) kk_619)
def kl_621 : List ke := (1, 304, 2, 102) :: kl_620
theorem kk_621 : km_621 = kF kl_621 := (show km_621 = kE (1, 304, 2, 102) km_620 from rfl).trans (congrArg (kE (1, 304, 2, 102)) kk_620)
def kl_622 : List ke := (1, 304, 3, 116) :: kl_621
theorem kk_622 : km_622 = kF kl_622 := (show km_622 = kE (1, 304, 3, 116) km_621 from rfl).trans (congrArg (kE (1, 304, 3, 116)) kk_621)
def kl_623 : List ke := (1, 304, 4, 115) :: kl_622
theorem kk_623 : km_623 = kF kl_623 := (show km_623 = kE (1, 304, 4, 115) km_622 from rfl).trans (congrArg (kE (1, 304, 4, 115)) kk_622)
def kl_624 : List ke := (3, 291, 21, 304) :: kl_623
theorem kk_624 : km_624 = kF kl_624 := (show km_624 = kE (3, 291, 21, 304) km_623 from rfl).trans (congrArg (kE (3, 291, 21, 304)) kk_623)
def kl_625 : List ke := (0, 15, 5, 0) :: kl_624
theorem kk_625 : km_625 = kF kl_625 := (show km_625 = kE (0, 15, 5, 0) km_624 from rfl).trans (congrArg (kE (0, 15, 5, 0)) kk_624)
def kl_626 : List ke := (1, 305, 0, 116) :: kl_625
theorem kk_626 : km_626 = kF kl_626 := (show km_626 = kE (1, 305, 0, 116) km_625 from rfl).trans (congrArg (kE (1, 305, 0, 116)) kk_625)
def kl_627 : List ke := (1, 305, 1, 105) :: kl_626
theorem kk_627 : km_627 = kF kl_627 := (show km_627 = kE (1, 305, 1, 105) km_626 from rfl).trans (congrArg (kE (1, 305, 1, 105)) kk_626)
def kl_628 : List ke := (1, 305, 2, 114) :: kl_627
theorem kk_628 : km_628 = kF kl_628 := (show km_628 = kE (1, 305, 2, 114) km_627 from rfl).trans (congrArg (kE (1, 305, 2, 114)) kk_627)
def kl_629 : List ke := (1, 305, 3, 101) :: kl_628
theorem kk_629 : km_629 = kF kl_629 := (show km_629 = kE (1, 305, 3, 101) km_628 from rfl).trans (congrArg (kE (1, 305, 3, 101)) kk_628)
def kl_630 : List ke := (1, 305, 4, 115) :: kl_629
theorem kk_630 : km_630 = kF kl_630 := (show km_630 = kE (1, 305, 4, 115) km_629 from rfl).trans (congrArg (kE (1, 305, 4, 115)) kk_629)
def kl_631 : List ke := (3, 291, 22, 305) :: kl_630
theorem kk_631 : km_631 = kF kl_631 := (show km_631 = kE (3, 291, 22, 305) km_630 from rfl).trans (congrArg (kE (3, 291, 22, 305)) kk_630)
def kl_632 : List ke := (0, 15, 5, 0) :: kl_631
theorem kk_632 : km_632 = kF kl_632 := (show km_632 = kE (0, 15, 5, 0) km_631 from rfl).trans (congrArg (kE (0, 15, 5, 0)) kk_631)
def kl_633 : List ke := (1, 306, 0, 104) :: kl_632
theorem kk_633 : km_633 = kF kl_633 := (show km_633 = kE (1, 306, 0, 104) km_632 from rfl).trans (congrArg (kE (1, 306, 0, 104)) kk_632)
def kl_634 : List ke := (1, 306, 1, 111) :: kl_633
theorem kk_634 : km_634 = kF kl_634 := (show km_634 = kE (1, 306, 1, 111) km_633 from rfl).trans (congrArg (kE (1, 306, 1, 111)) kk_633)
def kl_635 : List ke := (1, 306, 2, 108) :: kl_634
theorem kk_635 : km_635 = kF kl_635 := (show km_635 = kE (1, 306, 2, 108) km_634 from rfl).trans (congrArg (kE (1, 306, 2, 108)) kk_634)
def kl_636 : List ke := (1, 306, 3, 100) :: kl_635
theorem kk_636 : km_636 = kF kl_636 := (show km_636 = kE (1, 306, 3, 100) km_635 from rfl).trans (congrArg (kE (1, 306, 3, 100)) kk_635)
def kl_637 : List ke := (1, 306, 4, 115) :: kl_636
theorem kk_637 : km_637 = kF kl_637 := (show km_637 = kE (1, 306, 4, 115) km_636 from rfl).trans (congrArg (kE (1, 306, 4, 115)) kk_636)
def kl_638 : List ke := (3, 291, 23, 306) :: kl_637
theorem kk_638 : km_638 = kF kl_638 := (show km_638 = kE (3, 291, 23, 306) km_637 from rfl).trans (congrArg (kE (3, 291, 23, 306)) kk_637)
def kl_639 : List ke := (0, 15, 5, 0) :: kl_638
theorem kk_639 : km_639 = kF kl_639 := (show km_639 = kE (0, 15, 5, 0) km_638 from rfl).trans (congrArg (kE (0, 15, 5, 0)) kk_638)
def kl_640 : List ke := (1, 307, 0, 99) :: kl_639
theorem kk_640 : km_640 = kF kl_640 := (show km_640 = kE (1, 307, 0, 99) km_639 from rfl).trans (congrArg (kE (1, 307, 0, 99)) kk_639)
def kl_641 : List ke := (1, 307, 1, 114) :: kl_640
theorem kk_641 : km_641 = kF kl_641 := (show km_641 = kE (1, 307, 1, 114) km_640 from rfl).trans (congrArg (kE (1, 307, 1, 114)) kk_640)
def kl_642 : List ke := (1, 307, 2, 111) :: kl_641
theorem kk_642 : km_642 = kF kl_642 := (show km_642 = kE (1, 307, 2, 111) km_641 from rfl).trans (congrArg (kE (1, 307, 2, 111)) kk_641)
def kl_643 : List ke := (1, 307, 3, 119) :: kl_642
theorem kk_643 : km_643 = kF kl_643 := (show km_643 = kE (1, 307, 3, 119) km_642 from rfl).trans (congrArg (kE (1, 307, 3, 119)) kk_642)
def kl_644 : List ke := (1, 307, 4, 100) :: kl_643
theorem kk_644 : km_644 = kF kl_644 := (show km_644 = kE (1, 307, 4, 100) km_643 from rfl).trans (congrArg (kE (1, 307, 4, 100)) kk_643)
def kl_645 : List ke := (3, 291, 24, 307) :: kl_644
theorem kk_645 : km_645 = kF kl_645 := (show km_645 = kE (3, 291, 24, 307) km_644 from rfl).trans (congrArg (kE (3, 291, 24, 307)) kk_644)
def kl_646 : List ke := (0, 15, 6, 0) :: kl_645
theorem kk_646 : km_646 = kF kl_646 := (show km_646 = kE (0, 15, 6, 0) km_645 from rfl).trans (congrArg (kE (0, 15, 6, 0)) kk_645)
def kl_647 : List ke := (1, 308, 0, 104) :: kl_646
theorem kk_647 : km_647 = kF kl_647 := (show km_647 = kE (1, 308, 0, 104) km_646 from rfl).trans (congrArg (kE (1, 308, 0, 104)) kk_646)
def kl_648 : List ke := (1, 308, 1, 101) :: kl_647
theorem kk_648 : km_648 = kF kl_648 := (show km_648 = kE (1, 308, 1, 101) km_647 from rfl).trans (congrArg (kE (1, 308, 1, 101)) kk_647)
def kl_649 : List ke := (1, 308, 2, 105) :: kl_648
theorem kk_649 : km_649 = kF kl_649 := (show km_649 = kE (1, 308, 2, 105) km_648 from rfl).trans (congrArg (kE (1, 308, 2, 105)) kk_648)
def kl_650 : List ke := (1, 308, 3, 103) :: kl_649
theorem kk_650 : km_650 = kF kl_650 := (show km_650 = kE (1, 308, 3, 103) km_649 from rfl).trans (congrArg (kE (1, 308, 3, 103)) kk_649)
def kl_651 : List ke := (1, 308, 4, 104) :: kl_650
theorem kk_651 : km_651 = kF kl_651 := (show km_651 = kE (1, 308, 4, 104) km_650 from rfl).trans (congrArg (kE (1, 308, 4, 104)) kk_650)
def kl_652 : List ke := (1, 308, 5, 116) :: kl_651
theorem kk_652 : km_652 = kF kl_652 := (show km_652 = kE (1, 308, 5, 116) km_651 from rfl).trans (congrArg (kE (1, 308, 5, 116)) kk_651)
def kl_653 : List ke := (3, 291, 25, 308) :: kl_652
theorem kk_653 : km_653 = kF kl_653 := (show km_653 = kE (3, 291, 25, 308) km_652 from rfl).trans (congrArg (kE (3, 291, 25, 308)) kk_652)
def kl_654 : List ke := (0, 15, 5, 0) :: kl_653
theorem kk_654 : km_654 = kF kl_654 := (show km_654 = kE (0, 15, 5, 0) km_653 from rfl).trans (congrArg (kE (0, 15, 5, 0)) kk_653)
def kl_655 : List ke := (1, 309, 0, 107) :: kl_654
theorem kk_655 : km_655 = kF kl_655 := (show km_655 = kE (1, 309, 0, 107) km_654 from rfl).trans (congrArg (kE (1, 309, 0, 107)) kk_654)
def kl_656 : List ke := (1, 309, 1, 110) :: kl_655
theorem kk_656 : km_656 = kF kl_656 := (show km_656 = kE (1, 309, 1, 110) km_655 from rfl).trans (congrArg (kE (1, 309, 1, 110)) kk_655)
def kl_657 : List ke := (1, 309, 2, 111) :: kl_656
theorem kk_657 : km_657 = kF kl_657 := (show km_657 = kE (1, 309, 2, 111) km_656 from rfl).trans (congrArg (kE (1, 309, 2, 111)) kk_656)
def kl_658 : List ke := (1, 309, 3, 119) :: kl_657
theorem kk_658 : km_658 = kF kl_658 := (show km_658 = kE (1, 309, 3, 119) km_657 from rfl).trans (congrArg (kE (1, 309, 3, 119)) kk_657)
def kl_659 : List ke := (1, 309, 4, 110) :: kl_658
theorem kk_659 : km_659 = kF kl_659 := (show km_659 = kE (1, 309, 4, 110) km_658 from rfl).trans (congrArg (kE (1, 309, 4, 110)) kk_658)
def kl_660 : List ke := (3, 291, 26, 309) :: kl_659
theorem kk_660 : km_660 = kF kl_660 := (show km_660 = kE (3, 291, 26, 309) km_659 from rfl).trans (congrArg (kE (3, 291, 26, 309)) kk_659)
def kl_661 : List ke := (0, 15, 3, 0) :: kl_660
theorem kk_661 : km_661 = kF kl_661 := (show km_661 = kE (0, 15, 3, 0) km_660 from rfl).trans (congrArg (kE (0, 15, 3, 0)) kk_660)
def kl_662 : List ke := (1, 310, 0, 100) :: kl_661
theorem kk_662 : km_662 = kF kl_662 := (show km_662 = kE (1, 310, 0, 100) km_661 from rfl).trans (congrArg (kE (1, 310, 0, 100)) kk_661)
def kl_663 : List ke := (1, 310, 1, 97) :: kl_662
theorem kk_663 : km_663 = kF kl_663 := (show km_663 = kE (1, 310, 1, 97) km_662 from rfl).trans (congrArg (kE (1, 310, 1, 97)) kk_662)
def kl_664 : List ke := (1, 310, 2, 121) :: kl_663
theorem kk_664 : km_664 = kF kl_664 := (show km_664 = kE (1, 310, 2, 121) km_663 from rfl).trans (congrArg (kE (1, 310, 2, 121)) kk_663)
def kl_665 : List ke := (3, 291, 27, 310) :: kl_664
theorem kk_665 : km_665 = kF kl_665 := (show km_665 = kE (3, 291, 27, 310) km_664 from rfl).trans (congrArg (kE (3, 291, 27, 310)) kk_664)
def kl_666 : List ke := (0, 15, 4, 0) :: kl_665
theorem kk_666 : km_666 = kF kl_666 := (show km_666 = kE (0, 15, 4, 0) km_665 from rfl).trans (congrArg (kE (0, 15, 4, 0)) kk_665)
def kl_667 : List ke := (1, 311, 0, 115) :: kl_666
theorem kk_667 : km_667 = kF kl_667 := (show km_667 = kE (1, 311, 0, 115) km_666 from rfl).trans (congrArg (kE (1, 311, 0, 115)) kk_666)
def kl_668 : List ke := (1, 311, 1, 105) :: kl_667
theorem kk_668 : km_668 = kF kl_668 := (show km_668 = kE (1, 311, 1, 105) km_667 from rfl).trans (congrArg (kE (1, 311, 1, 105)) kk_667)
def kl_669 : List ke := (1, 311, 2, 100) :: kl_668
theorem kk_669 : km_669 = kF kl_669 := (show km_669 = kE (1, 311, 2, 100) km_668 from rfl).trans (congrArg (kE (1, 311, 2, 100)) kk_668)
def kl_670 : List ke := (1, 311, 3, 101) :: kl_669
theorem kk_670 : km_670 = kF kl_670 := (show km_670 = kE (1, 311, 3, 101) km_669 from rfl).trans (congrArg (kE (1, 311, 3, 101)) kk_669)
def kl_671 : List ke := (3, 291, 28, 311) :: kl_670
theorem kk_671 : km_671 = kF kl_671 := (show km_671 = kE (3, 291, 28, 311) km_670 from rfl).trans (congrArg (kE (3, 291, 28, 311)) kk_670)
def kl_672 : List ke := (0, 15, 6, 0) :: kl_671
theorem kk_672 : km_672 = kF kl_672 := (show km_672 = kE (0, 15, 6, 0) km_671 from rfl).trans (congrArg (kE (0, 15, 6, 0)) kk_671)
def kl_673 : List ke := (1, 312, 0, 110) :: kl_672
theorem kk_673 : km_673 = kF kl_673 := (show km_673 = kE (1, 312, 0, 110) km_672 from rfl).trans (congrArg (kE (1, 312, 0, 110)) kk_672)
def kl_674 : List ke := (1, 312, 1, 117) :: kl_673
theorem kk_674 : km_674 = kF kl_674 := (show km_674 = kE (1, 312, 1, 117) km_673 from rfl).trans (congrArg (kE (1, 312, 1, 117)) kk_673)
def kl_675 : List ke := (1, 312, 2, 109) :: kl_674
theorem kk_675 : km_675 = kF kl_675 := (show km_675 = kE (1, 312, 2, 109) km_674 from rfl).trans (congrArg (kE (1, 312, 2, 109)) kk_674)
def kl_676 : List ke := (1, 312, 3, 98) :: kl_675
theorem kk_676 : km_676 = kF kl_676 := (show km_676 = kE (1, 312, 3, 98) km_675 from rfl).trans (congrArg (kE (1, 312, 3, 98)) kk_675)
def kl_677 : List ke := (1, 312, 4, 101) :: kl_676
theorem kk_677 : km_677 = kF kl_677 := (show km_677 = kE (1, 312, 4, 101) km_676 from rfl).trans (congrArg (kE (1, 312, 4, 101)) kk_676)
def kl_678 : List ke := (1, 312, 5, 114) :: kl_677
theorem kk_678 : km_678 = kF kl_678 := (show km_678 = kE (1, 312, 5, 114) km_677 from rfl).trans (congrArg (kE (1, 312, 5, 114)) kk_677)
def kl_679 : List ke := (3, 291, 29, 312) :: kl_678
theorem kk_679 : km_679 = kF kl_679 := (show km_679 = kE (3, 291, 29, 312) km_678 from rfl).trans (congrArg (kE (3, 291, 29, 312)) kk_678)
def kl_680 : List ke := (0, 15, 6, 0) :: kl_679
theorem kk_680 : km_680 = kF kl_680 := (show km_680 = kE (0, 15, 6, 0) km_679 from rfl).trans (congrArg (kE (0, 15, 6, 0)) kk_679)
def kl_681 : List ke := (1, 313, 0, 99) :: kl_680
theorem kk_681 : km_681 = kF kl_681 := (show km_681 = kE (1, 313, 0, 99) km_680 from rfl).trans (congrArg (kE (1, 313, 0, 99)) kk_680)
def kl_682 : List ke := (1, 313, 1, 111) :: kl_681
theorem kk_682 : km_682 = kF kl_682 := (show km_682 = kE (1, 313, 1, 111) km_681 from rfl).trans (congrArg (kE (1, 313, 1, 111)) kk_681)
def kl_683 : List ke := (1, 313, 2, 108) :: kl_682
theorem kk_683 : km_683 = kF kl_683 := (show km_683 = kE (1, 313, 2, 108) km_682 from rfl).trans (congrArg (kE (1, 313, 2, 108)) kk_682)
def kl_684 : List ke := (1, 313, 3, 117) :: kl_683
theorem kk_684 : km_684 = kF kl_684 := (show km_684 = kE (1, 313, 3, 117) km_683 from rfl).trans (congrArg (kE (1, 313, 3, 117)) kk_683)
def kl_685 : List ke := (1, 313, 4, 109) :: kl_684
theorem kk_685 : km_685 = kF kl_685 := (show km_685 = kE (1, 313, 4, 109) km_684 from rfl).trans (congrArg (kE (1, 313, 4, 109)) kk_684)
def kl_686 : List ke := (1, 313, 5, 110) :: kl_685
theorem kk_686 : km_686 = kF kl_686 := (show km_686 = kE (1, 313, 5, 110) km_685 from rfl).trans (congrArg (kE (1, 313, 5, 110)) kk_685)
def kl_687 : List ke := (3, 291, 30, 313) :: kl_686
theorem kk_687 : km_687 = kF kl_687 := (show km_687 = kE (3, 291, 30, 313) km_686 from rfl).trans (congrArg (kE (3, 291, 30, 313)) kk_686)
def kl_688 : List ke := (0, 15, 3, 0) :: kl_687
theorem kk_688 : km_688 = kF kl_688 := (show km_688 = kE (0, 15, 3, 0) km_687 from rfl).trans (congrArg (kE (0, 15, 3, 0)) kk_687)
def kl_689 : List ke := (1, 314, 0, 114) :: kl_688
theorem kk_689 : km_689 = kF kl_689 := (show km_689 = kE (1, 314, 0, 114) km_688 from rfl).trans (congrArg (kE (1, 314, 0, 114)) kk_688)
def kl_690 : List ke := (1, 314, 1, 111) :: kl_689
theorem kk_690 : km_690 = kF kl_690 := (show km_690 = kE (1, 314, 1, 111) km_689 from rfl).trans (congrArg (kE (1, 314, 1, 111)) kk_689)
def kl_691 : List ke := (1, 314, 2, 119) :: kl_690
theorem kk_691 : km_691 = kF kl_691 := (show km_691 = kE (1, 314, 2, 119) km_690 from rfl).trans (congrArg (kE (1, 314, 2, 119)) kk_690)
def kl_692 : List ke := (3, 291, 31, 314) :: kl_691
theorem kk_692 : km_692 = kF kl_692 := (show km_692 = kE (3, 291, 31, 314) km_691 from rfl).trans (congrArg (kE (3, 291, 31, 314)) kk_691)
def kl_693 : List ke := (0, 15, 2, 0) :: kl_692
theorem kk_693 : km_693 = kF kl_693 := (show km_693 = kE (0, 15, 2, 0) km_692 from rfl).trans (congrArg (kE (0, 15, 2, 0)) kk_692)
def kl_694 : List ke := (1, 315, 0, 111) :: kl_693
theorem kk_694 : km_694 = kF kl_694 := (show km_694 = kE (1, 315, 0, 111) km_693 from rfl).trans (congrArg (kE (1, 315, 0, 111)) kk_693)
def kl_695 : List ke := (1, 315, 1, 114) :: kl_694
theorem kk_695 : km_695 = kF kl_695 := (show km_695 = kE (1, 315, 1, 114) km_694 from rfl).trans (congrArg (kE (1, 315, 1, 114)) kk_694)
def kl_696 : List ke := (3, 291, 32, 315) :: kl_695
theorem kk_696 : km_696 = kF kl_696 := (show km_696 = kE (3, 291, 32, 315) km_695 from rfl).trans (congrArg (kE (3, 291, 32, 315)) kk_695)
def kl_697 : List ke := (0, 15, 3, 0) :: kl_696
theorem kk_697 : km_697 = kF kl_697 := (show km_697 = kE (0, 15, 3, 0) km_696 from rfl).trans (congrArg (kE (0, 15, 3, 0)) kk_696)
def kl_698 : List ke := (1, 316, 0, 97) :: kl_697
theorem kk_698 : km_698 = kF kl_698 := (show km_698 = kE (1, 316, 0, 97) km_697 from rfl).trans (congrArg (kE (1, 316, 0, 97)) kk_697)
def kl_699 : List ke := (1, 316, 1, 110) :: kl_698
theorem kk_699 : km_699 = kF kl_699 := (show km_699 = kE (1, 316, 1, 110) km_698 from rfl).trans (congrArg (kE (1, 316, 1, 110)) kk_698)
def kl_700 : List ke := (1, 316, 2, 100) :: kl_699
theorem kk_700 : km_700 = kF kl_700 := (show km_700 = kE (1, 316, 2, 100) km_699 from rfl).trans (congrArg (kE (1, 316, 2, 100)) kk_699)
def kl_701 : List ke := (3, 291, 33, 316) :: kl_700
theorem kk_701 : km_701 = kF kl_701 := (show km_701 = kE (3, 291, 33, 316) km_700 from rfl).trans (congrArg (kE (3, 291, 33, 316)) kk_700)
def kl_702 : List ke := (0, 15, 3, 0) :: kl_701
theorem kk_702 : km_702 = kF kl_702 := (show km_702 = kE (0, 15, 3, 0) km_701 from rfl).trans (congrArg (kE (0, 15, 3, 0)) kk_701)
def kl_703 : List ke := (1, 317, 0, 110) :: kl_702
theorem kk_703 : km_703 = kF kl_703 := (show km_703 = kE (1, 317, 0, 110) km_702 from rfl).trans (congrArg (kE (1, 317, 0, 110)) kk_702)
def kl_704 : List ke := (1, 317, 1, 111) :: kl_703
theorem kk_704 : km_704 = kF kl_704 := (show km_704 = kE (1, 317, 1, 111) km_703 from rfl).trans (congrArg (kE (1, 317, 1, 111)) kk_703)
def kl_705 : List ke := (1, 317, 2, 116) :: kl_704
theorem kk_705 : km_705 = kF kl_705 := (show km_705 = kE (1, 317, 2, 116) km_704 from rfl).trans (congrArg (kE (1, 317, 2, 116)) kk_704)
def kl_706 : List ke := (3, 291, 34, 317) :: kl_705
theorem kk_706 : km_706 = kF kl_706 := (show km_706 = kE (3, 291, 34, 317) km_705 from rfl).trans (congrArg (kE (3, 291, 34, 317)) kk_705)
def kl_707 : List ke := (0, 15, 3, 0) :: kl_706
theorem kk_707 : km_707 = kF kl_707 := (show km_707 = kE (0, 15, 3, 0) km_706 from rfl).trans (congrArg (kE (0, 15, 3, 0)) kk_706)
def kl_708 : List ke := (1, 318, 0, 97) :: kl_707
theorem kk_708 : km_708 = kF kl_708 := (show km_708 = kE (1, 318, 0, 97) km_707 from rfl).trans (congrArg (kE (1, 318, 0, 97)) kk_707)
def kl_709 : List ke := (1, 318, 1, 108) :: kl_708
theorem kk_709 : km_709 = kF kl_709 := (show km_709 = kE (1, 318, 1, 108) km_708 from rfl).trans (congrArg (kE (1, 318, 1, 108)) kk_708)
def kl_710 : List ke := (1, 318, 2, 108) :: kl_709
theorem kk_710 : km_710 = kF kl_710 := (show km_710 = kE (1, 318, 2, 108) km_709 from rfl).trans (congrArg (kE (1, 318, 2, 108)) kk_709)
def kl_711 : List ke := (3, 291, 35, 318) :: kl_710
theorem kk_711 : km_711 = kF kl_711 := (show km_711 = kE (3, 291, 35, 318) km_710 from rfl).trans (congrArg (kE (3, 291, 35, 318)) kk_710)
def kl_712 : List ke := (0, 15, 3, 0) :: kl_711
theorem kk_712 : km_712 = kF kl_712 := (show km_712 = kE (0, 15, 3, 0) km_711 from rfl).trans (congrArg (kE (0, 15, 3, 0)) kk_711)
def kl_713 : List ke := (1, 319, 0, 109) :: kl_712
theorem kk_713 : km_713 = kF kl_713 := (show km_713 = kE (1, 319, 0, 109) km_712 from rfl).trans (congrArg (kE (1, 319, 0, 109)) kk_712)
def kl_714 : List ke := (1, 319, 1, 105) :: kl_713
theorem kk_714 : km_714 = kF kl_714 := (show km_714 = kE (1, 319, 1, 105) km_713 from rfl).trans (congrArg (kE (1, 319, 1, 105)) kk_713)
def kl_715 : List ke := (1, 319, 2, 110) :: kl_714
theorem kk_715 : km_715 = kF kl_715 := (show km_715 = kE (1, 319, 2, 110) km_714 from rfl).trans (congrArg (kE (1, 319, 2, 110)) kk_714)
def kl_716 : List ke := (3, 291, 36, 319) :: kl_715
theorem kk_716 : km_716 = kF kl_716 := (show km_716 = kE (3, 291, 36, 319) km_715 from rfl).trans (congrArg (kE (3, 291, 36, 319)) kk_715)
def kl_717 : List ke := (0, 15, 3, 0) :: kl_716
theorem kk_717 : km_717 = kF kl_717 := (show km_717 = kE (0, 15, 3, 0) km_716 from rfl).trans (congrArg (kE (0, 15, 3, 0)) kk_716)
def kl_718 : List ke := (1, 320, 0, 109) :: kl_717
theorem kk_718 : km_718 = kF kl_718 := (show km_718 = kE (1, 320, 0, 109) km_717 from rfl).trans (congrArg (kE (1, 320, 0, 109)) kk_717)
def kl_719 : List ke := (1, 320, 1, 97) :: kl_718
theorem kk_719 : km_719 = kF kl_719 := (show km_719 = kE (1, 320, 1, 97) km_718 from rfl).trans (congrArg (kE (1, 320, 1, 97)) kk_718)
def kl_720 : List ke := (1, 320, 2, 120) :: kl_719
theorem kk_720 : km_720 = kF kl_720 := (show km_720 = kE (1, 320, 2, 120) km_719 from rfl).trans (congrArg (kE (1, 320, 2, 120)) kk_719)
def kl_721 : List ke := (3, 291, 37, 320) :: kl_720
theorem kk_721 : km_721 = kF kl_721 := (show km_721 = kE (3, 291, 37, 320) km_720 from rfl).trans (congrArg (kE (3, 291, 37, 320)) kk_720)
def kl_722 : List ke := (0, 13, 6, 0) :: kl_721
theorem kk_722 : km_722 = kF kl_722 := (show km_722 = kE (0, 13, 6, 0) km_721 from rfl).trans (congrArg (kE (0, 13, 6, 0)) kk_721)
def kl_723 : List ke := (3, 291, 39, 321) :: kl_722
theorem kk_723 : km_723 = kF kl_723 := (show km_723 = kE (3, 291, 39, 321) km_722 from rfl).trans (congrArg (kE (3, 291, 39, 321)) kk_722)
def kl_724 : List ke := (0, 13, 6, 0) :: kl_723
theorem kk_724 : km_724 = kF kl_724 := (show km_724 = kE (0, 13, 6, 0) km_723 from rfl).trans (congrArg (kE (0, 13, 6, 0)) kk_723)
def kl_725 : List ke := (3, 291, 40, 322) :: kl_724
theorem kk_725 : km_725 = kF kl_725 := (show km_725 = kE (3, 291, 40, 322) km_724 from rfl).trans (congrArg (kE (3, 291, 40, 322)) kk_724)
def kl_726 : List ke := (0, 14, 32, 0) :: kl_725
theorem kk_726 : km_726 = kF kl_726 := (show km_726 = kE (0, 14, 32, 0) km_725 from rfl).trans (congrArg (kE (0, 14, 32, 0)) kk_725)
def kl_727 : List ke := (3, 291, 41, 323) :: kl_726
theorem kk_727 : km_727 = kF kl_727 := (show km_727 = kE (3, 291, 41, 323) km_726 from rfl).trans (congrArg (kE (3, 291, 41, 323)) kk_726)
def kl_728 : List ke := (0, 13, 49, 0) :: kl_727
theorem kk_728 : km_728 = kF kl_728 := (show km_728 = kE (0, 13, 49, 0) km_727 from rfl).trans (congrArg (kE (0, 13, 49, 0)) kk_727)
def kl_729 : List ke := (3, 291, 42, 324) :: kl_728
theorem kk_729 : km_729 = kF kl_729 := (show km_729 = kE (3, 291, 42, 324) km_728 from rfl).trans (congrArg (kE (3, 291, 42, 324)) kk_728)
def kl_730 : List ke := (0, 13, 21, 0) :: kl_729
theorem kk_730 : km_730 = kF kl_730 := (show km_730 = kE (0, 13, 21, 0) km_729 from rfl).trans (congrArg (kE (0, 13, 21, 0)) kk_729)
def kl_731 : List ke := (3, 291, 43, 325) :: kl_730
theorem kk_731 : km_731 = kF kl_731 := (show km_731 = kE (3, 291, 43, 325) km_730 from rfl).trans (congrArg (kE (3, 291, 43, 325)) kk_730)
def kl_732 : List ke := (0, 13, 48, 0) :: kl_731
theorem kk_732 : km_732 = kF kl_732 := (show km_732 = kE (0, 13, 48, 0) km_731 from rfl).trans (congrArg (kE (0, 13, 48, 0)) kk_731)
def kl_733 : List ke := (3, 291, 44, 326) :: kl_732
theorem kk_733 : km_733 = kF kl_733 := (show km_733 = kE (3, 291, 44, 326) km_732 from rfl).trans (congrArg (kE (3, 291, 44, 326)) kk_732)
def kl_734 : List ke := (0, 13, 6, 0) :: kl_733
theorem kk_734 : km_734 = kF kl_734 := (show km_734 = kE (0, 13, 6, 0) km_733 from rfl).trans (congrArg (kE (0, 13, 6, 0)) kk_733)
def kl_735 : List ke := (1, 327, 0, (-1)) :: kl_734
theorem kk_735 : km_735 = kF kl_735 := (show km_735 = kE (1, 327, 0, (-1)) km_734 from rfl).trans (congrArg (kE (1, 327, 0, (-1))) kk_734)
def kl_736 : List ke := (1, 327, 1, (-1)) :: kl_735
theorem kk_736 : km_736 = kF kl_736 := (show km_736 = kE (1, 327, 1, (-1)) km_735 from rfl).trans (congrArg (kE (1, 327, 1, (-1))) kk_735)
def kl_737 : List ke := (1, 327, 2, (-1)) :: kl_736
theorem kk_737 : km_737 = kF kl_737 := (show km_737 = kE (1, 327, 2, (-1)) km_736 from rfl).trans (congrArg (kE (1, 327, 2, (-1))) kk_736)
def kl_738 : List ke := (1, 327, 3, (-1)) :: kl_737
theorem kk_738 : km_738 = kF kl_738 := (show km_738 = kE (1, 327, 3, (-1)) km_737 from rfl).trans (congrArg (kE (1, 327, 3, (-1))) kk_737)
def kl_739 : List ke := (1, 327, 4, (-1)) :: kl_738
theorem kk_739 : km_739 = kF kl_739 := (show km_739 = kE (1, 327, 4, (-1)) km_738 from rfl).trans (congrArg (kE (1, 327, 4, (-1))) kk_738)
def kl_740 : List ke := (1, 327, 5, (-1)) :: kl_739
theorem kk_740 : km_740 = kF kl_740 := (show km_740 = kE (1, 327, 5, (-1)) km_739 from rfl).trans (congrArg (kE (1, 327, 5, (-1))) kk_739)
def kl_741 : List ke := (3, 291, 45, 327) :: kl_740
theorem kk_741 : km_741 = kF kl_741 := (show km_741 = kE (3, 291, 45, 327) km_740 from rfl).trans (congrArg (kE (3, 291, 45, 327)) kk_740)
def kl_742 : List ke := (0, 13, 6, 0) :: kl_741
theorem kk_742 : km_742 = kF kl_742 := (show km_742 = kE (0, 13, 6, 0) km_741 from rfl).trans (congrArg (kE (0, 13, 6, 0)) kk_741)
def kl_743 : List ke := (3, 291, 46, 328) :: kl_742
theorem kk_743 : km_743 = kF kl_743 := (show km_743 = kE (3, 291, 46, 328) km_742 from rfl).trans (congrArg (kE (3, 291, 46, 328)) kk_742)
def kl_744 : List ke := (0, 13, 3200, 0) :: kl_743
theorem kk_744 : km_744 = kF kl_744 := (show km_744 = kE (0, 13, 3200, 0) km_743 from rfl).trans (congrArg (kE (0, 13, 3200, 0)) kk_743)
def kl_745 : List ke := (3, 291, 47, 329) :: kl_744
theorem kk_745 : km_745 = kF kl_745 := (show km_745 = kE (3, 291, 47, 329) km_744 from rfl).trans (congrArg (kE (3, 291, 47, 329)) kk_744)
def kl_746 : List ke := (0, 13, 232, 0) :: kl_745
theorem kk_746 : km_746 = kF kl_746 := (show km_746 = kE (0, 13, 232, 0) km_745 from rfl).trans (congrArg (kE (0, 13, 232, 0)) kk_745)
def kl_747 : List ke := (3, 291, 52, 330) :: kl_746
theorem kk_747 : km_747 = kF kl_747 := (show km_747 = kE (3, 291, 52, 330) km_746 from rfl).trans (congrArg (kE (3, 291, 52, 330)) kk_746)
def kl_748 : List ke := (0, 13, 71, 0) :: kl_747
theorem kk_748 : km_748 = kF kl_748 := (show km_748 = kE (0, 13, 71, 0) km_747 from rfl).trans (congrArg (kE (0, 13, 71, 0)) kk_747)
def kl_749 : List ke := (3, 291, 53, 331) :: kl_748
theorem kk_749 : km_749 = kF kl_749 := (show km_749 = kE (3, 291, 53, 331) km_748 from rfl).trans (congrArg (kE (3, 291, 53, 331)) kk_748)
def kl_750 : List ke := (0, 13, 35, 0) :: kl_749
theorem kk_750 : km_750 = kF kl_750 := (show km_750 = kE (0, 13, 35, 0) km_749 from rfl).trans (congrArg (kE (0, 13, 35, 0)) kk_749)
def kl_751 : List ke := (3, 291, 61, 332) :: kl_750
theorem kk_751 : km_751 = kF kl_751 := (show km_751 = kE (3, 291, 61, 332) km_750 from rfl).trans (congrArg (kE (3, 291, 61, 332)) kk_750)
def kl_752 : List ke := (0, 13, 3, 0) :: kl_751
theorem kk_752 : km_752 = kF kl_752 := (show km_752 = kE (0, 13, 3, 0) km_751 from rfl).trans (congrArg (kE (0, 13, 3, 0)) kk_751)
def kl_753 : List ke := (3, 291, 62, 333) :: kl_752
theorem kk_753 : km_753 = kF kl_753 := (show km_753 = kE (3, 291, 62, 333) km_752 from rfl).trans (congrArg (kE (3, 291, 62, 333)) kk_752)
def kl_754 : List ke := (0, 13, 71, 0) :: kl_753
theorem kk_754 : km_754 = kF kl_754 := (show km_754 = kE (0, 13, 71, 0) km_753 from rfl).trans (congrArg (kE (0, 13, 71, 0)) kk_753)
def kl_755 : List ke := (3, 291, 63, 334) :: kl_754
theorem kk_755 : km_755 = kF kl_755 := (show km_755 = kE (3, 291, 63, 334) km_754 from rfl).trans (congrArg (kE (3, 291, 63, 334)) kk_754)
def kl_756 : List ke := (0, 13, 71, 0) :: kl_755
theorem kk_756 : km_756 = kF kl_756 := (show km_756 = kE (0, 13, 71, 0) km_755 from rfl).trans (congrArg (kE (0, 13, 71, 0)) kk_755)
def kl_757 : List ke := (3, 291, 64, 335) :: kl_756
theorem kk_757 : km_757 = kF kl_757 := (show km_757 = kE (3, 291, 64, 335) km_756 from rfl).trans (congrArg (kE (3, 291, 64, 335)) kk_756)
def kl_758 : List ke := (0, 13, 49, 0) :: kl_757
theorem kk_758 : km_758 = kF kl_758 := (show km_758 = kE (0, 13, 49, 0) km_757 from rfl).trans (congrArg (kE (0, 13, 49, 0)) kk_757)
def kl_759 : List ke := (3, 291, 69, 336) :: kl_758
theorem kk_759 : km_759 = kF kl_759 := (show km_759 = kE (3, 291, 69, 336) km_758 from rfl).trans (congrArg (kE (3, 291, 69, 336)) kk_758)
def kl_760 : List ke := (0, 13, 896, 0) :: kl_759
theorem kk_760 : km_760 = kF kl_760 := (show km_760 = kE (0, 13, 896, 0) km_759 from rfl).trans (congrArg (kE (0, 13, 896, 0)) kk_759)
def kl_761 : List ke := (3, 291, 70, 337) :: kl_760
theorem kk_761 : km_761 = kF kl_761 := (show km_761 = kE (3, 291, 70, 337) km_760 from rfl).trans (congrArg (kE (3, 291, 70, 337)) kk_760)
def kl_762 : List ke := (0, 13, 48, 0) :: kl_761
theorem kk_762 : km_762 = kF kl_762 := (show km_762 = kE (0, 13, 48, 0) km_761 from rfl).trans (congrArg (kE (0, 13, 48, 0)) kk_761)
def kl_763 : List ke := (3, 291, 72, 338) :: kl_762
theorem kk_763 : km_763 = kF kl_763 := (show km_763 = kE (3, 291, 72, 338) km_762 from rfl).trans (congrArg (kE (3, 291, 72, 338)) kk_762)
def kl_764 : List ke := (0, 13, 10633, 0) :: kl_763
theorem kk_764 : km_764 = kF kl_764 := (show km_764 = kE (0, 13, 10633, 0) km_763 from rfl).trans (congrArg (kE (0, 13, 10633, 0)) kk_763)
def kl_765 : List ke := (3, 291, 73, 339) :: kl_764
theorem kk_765 : km_765 = kF kl_765 := (show km_765 = kE (3, 291, 73, 339) km_764 from rfl).trans (congrArg (kE (3, 291, 73, 339)) kk_764)
def kl_766 : List ke := (0, 13, 4640, 0) :: kl_765
theorem kk_766 : km_766 = kF kl_766 := (show km_766 = kE (0, 13, 4640, 0) km_765 from rfl).trans (congrArg (kE (0, 13, 4640, 0)) kk_765)
def kl_767 : List ke := (3, 291, 75, 340) :: kl_766
theorem kk_767 : km_767 = kF kl_767 := (show km_767 = kE (3, 291, 75, 340) km_766 from rfl).trans (congrArg (kE (3, 291, 75, 340)) kk_766)
def kl_768 : List ke := (2, 291, 78, 1) :: kl_767
theorem kk_768 : km_768 = kF kl_768 := (show km_768 = kE (2, 291, 78, 1) km_767 from rfl).trans (congrArg (kE (2, 291, 78, 1)) kk_767)
def kl_769 : List ke := (0, 15, 5, 0) :: kl_768
theorem kk_769 : km_769 = kF kl_769 := (show km_769 = kE (0, 15, 5, 0) km_768 from rfl).trans (congrArg (kE (0, 15, 5, 0)) kk_768)
def kl_770 : List ke := (1, 341, 0, 102) :: kl_769
theorem kk_770 : km_770 = kF kl_770 := (show km_770 = kE (1, 341, 0, 102) km_769 from rfl).trans (congrArg (kE (1, 341, 0, 102)) kk_769)
def kl_771 : List ke := (1, 341, 1, 105) :: kl_770
theorem kk_771 : km_771 = kF kl_771 := (show km_771 = kE (1, 341, 1, 105) km_770 from rfl).trans (congrArg (kE (1, 341, 1, 105)) kk_770)
def kl_772 : List ke := (1, 341, 2, 114) :: kl_771
theorem kk_772 : km_772 = kF kl_772 := (show km_772 = kE (1, 341, 2, 114) km_771 from rfl).trans (congrArg (kE (1, 341, 2, 114)) kk_771)
def kl_773 : List ke := (1, 341, 3, 115) :: kl_772
theorem kk_773 : km_773 = kF kl_773 := (show km_773 = kE (1, 341, 3, 115) km_772 from rfl).trans (congrArg (kE (1, 341, 3, 115)) kk_772)
def kl_774 : List ke := (1, 341, 4, 116) :: kl_773
theorem kk_774 : km_774 = kF kl_774 := (show km_774 = kE (1, 341, 4, 116) km_773 from rfl).trans (congrArg (kE (1, 341, 4, 116)) kk_773)
def kl_775 : List ke := (3, 291, 79, 341) :: kl_774
theorem kk_775 : km_775 = kF kl_775 := (show km_775 = kE (3, 291, 79, 341) km_774 from rfl).trans (congrArg (kE (3, 291, 79, 341)) kk_774)
def kl_776 : List ke := (0, 15, 4, 0) :: kl_775
theorem kk_776 : km_776 = kF kl_776 := (show km_776 = kE (0, 15, 4, 0) km_775 from rfl).trans (congrArg (kE (0, 15, 4, 0)) kk_775)
def kl_777 : List ke := (1, 342, 0, 108) :: kl_776
theorem kk_777 : km_777 = kF kl_777 := (show km_777 = kE (1, 342, 0, 108) km_776 from rfl).trans (congrArg (kE (1, 342, 0, 108)) kk_776)
def kl_778 : List ke := (1, 342, 1, 97) :: kl_777
theorem kk_778 : km_778 = kF kl_778 := (show km_778 = kE (1, 342, 1, 97) km_777 from rfl).trans (congrArg (kE (1, 342, 1, 97)) kk_777)
def kl_779 : List ke := (1, 342, 2, 115) :: kl_778
theorem kk_779 : km_779 = kF kl_779 := (show km_779 = kE (1, 342, 2, 115) km_778 from rfl).trans (congrArg (kE (1, 342, 2, 115)) kk_778)
def kl_780 : List ke := (1, 342, 3, 116) :: kl_779
theorem kk_780 : km_780 = kF kl_780 := (show km_780 = kE (1, 342, 3, 116) km_779 from rfl).trans (congrArg (kE (1, 342, 3, 116)) kk_779)
def kl_781 : List ke := (3, 291, 80, 342) :: kl_780
theorem kk_781 : km_781 = kF kl_781 := (show km_781 = kE (3, 291, 80, 342) km_780 from rfl).trans (congrArg (kE (3, 291, 80, 342)) kk_780)
def kl_782 : List ke := (0, 15, 5, 0) :: kl_781
theorem kk_782 : km_782 = kF kl_782 := (show km_782 = kE (0, 15, 5, 0) km_781 from rfl).trans (congrArg (kE (0, 15, 5, 0)) kk_781)
def kl_783 : List ke := (1, 343, 0, 111) :: kl_782
theorem kk_783 : km_783 = kF kl_783 := (show km_783 = kE (1, 343, 0, 111) km_782 from rfl).trans (congrArg (kE (1, 343, 0, 111)) kk_782)
def kl_784 : List ke := (1, 343, 1, 102) :: kl_783
theorem kk_784 : km_784 = kF kl_784 := (show km_784 = kE (1, 343, 1, 102) km_783 from rfl).trans (congrArg (kE (1, 343, 1, 102)) kk_783)
def kl_785 : List ke := (1, 343, 2, 116) :: kl_784
theorem kk_785 : km_785 = kF kl_785 := (show km_785 = kE (1, 343, 2, 116) km_784 from rfl).trans (congrArg (kE (1, 343, 2, 116)) kk_784)
def kl_786 : List ke := (1, 343, 3, 101) :: kl_785
theorem kk_786 : km_786 = kF kl_786 := (show km_786 = kE (1, 343, 3, 101) km_785 from rfl).trans (congrArg (kE (1, 343, 3, 101)) kk_785)
def kl_787 : List ke := (1, 343, 4, 110) :: kl_786
theorem kk_787 : km_787 = kF kl_787 := (show km_787 = kE (1, 343, 4, 110) km_786 from rfl).trans (congrArg (kE (1, 343, 4, 110)) kk_786)
def kl_788 : List ke := (3, 291, 81, 343) :: kl_787
theorem kk_788 : km_788 = kF kl_788 := (show km_788 = kE (3, 291, 81, 343) km_787 from rfl).trans (congrArg (kE (3, 291, 81, 343)) kk_787)
def kl_789 : List ke := (0, 15, 5, 0) :: kl_788
theorem kk_789 : km_789 = kF kl_789 := (show km_789 = kE (0, 15, 5, 0) km_788 from rfl).trans (congrArg (kE (0, 15, 5, 0)) kk_788)
def kl_790 : List ke := (1, 344, 0, 116) :: kl_789
theorem kk_790 : km_790 = kF kl_790 := (show km_790 = kE (1, 344, 0, 116) km_789 from rfl).trans (congrArg (kE (1, 344, 0, 116)) kk_789)
def kl_791 : List ke := (1, 344, 1, 111) :: kl_790
theorem kk_791 : km_791 = kF kl_791 := (show km_791 = kE (1, 344, 1, 111) km_790 from rfl).trans (congrArg (kE (1, 344, 1, 111)) kk_790)
def kl_792 : List ke := (1, 344, 2, 116) :: kl_791
theorem kk_792 : km_792 = kF kl_792 := (show km_792 = kE (1, 344, 2, 116) km_791 from rfl).trans (congrArg (kE (1, 344, 2, 116)) kk_791)
def kl_793 : List ke := (1, 344, 3, 97) :: kl_792
theorem kk_793 : km_793 = kF kl_793 := (show km_793 = kE (1, 344, 3, 97) km_792 from rfl).trans (congrArg (kE (1, 344, 3, 97)) kk_792)
def kl_794 : List ke := (1, 344, 4, 108) :: kl_793
theorem kk_794 : km_794 = kF kl_794 := (show km_794 = kE (1, 344, 4, 108) km_793 from rfl).trans (congrArg (kE (1, 344, 4, 108)) kk_793)
def kl_795 : List ke := (3, 291, 82, 344) :: kl_794
theorem kk_795 : km_795 = kF kl_795 := (show km_795 = kE (3, 291, 82, 344) km_794 from rfl).trans (congrArg (kE (3, 291, 82, 344)) kk_794)
def kl_796 : List ke := (0, 15, 4, 0) :: kl_795
theorem kk_796 : km_796 = kF kl_796 := (show km_796 = kE (0, 15, 4, 0) km_795 from rfl).trans (congrArg (kE (0, 15, 4, 0)) kk_795)
def kl_797 : List ke := (1, 345, 0, 109) :: kl_796
theorem kk_797 : km_797 = kF kl_797 := (show km_797 = kE (1, 345, 0, 109) km_796 from rfl).trans (congrArg (kE (1, 345, 0, 109)) kk_796)
def kl_798 : List ke := (1, 345, 1, 111) :: kl_797
theorem kk_798 : km_798 = kF kl_798 := (show km_798 = kE (1, 345, 1, 111) km_797 from rfl).trans (congrArg (kE (1, 345, 1, 111)) kk_797)
def kl_799 : List ke := (1, 345, 2, 115) :: kl_798
theorem kk_799 : km_799 = kF kl_799 := (show km_799 = kE (1, 345, 2, 115) km_798 from rfl).trans (congrArg (kE (1, 345, 2, 115)) kk_798)
def kl_800 : List ke := (1, 345, 3, 116) :: kl_799
theorem kk_800 : km_800 = kF kl_800 := (show km_800 = kE (1, 345, 3, 116) km_799 from rfl).trans (congrArg (kE (1, 345, 3, 116)) kk_799)
def kl_801 : List ke := (3, 291, 83, 345) :: kl_800
theorem kk_801 : km_801 = kF kl_801 := (show km_801 = kE (3, 291, 83, 345) km_800 from rfl).trans (congrArg (kE (3, 291, 83, 345)) kk_800)
def kl_802 : List ke := (0, 15, 5, 0) :: kl_801
theorem kk_802 : km_802 = kF kl_802 := (show km_802 = kE (0, 15, 5, 0) km_801 from rfl).trans (congrArg (kE (0, 15, 5, 0)) kk_801)
def kl_803 : List ke := (1, 346, 0, 108) :: kl_802
theorem kk_803 : km_803 = kF kl_803 := (show km_803 = kE (1, 346, 0, 108) km_802 from rfl).trans (congrArg (kE (1, 346, 0, 108)) kk_802)
def kl_804 : List ke := (1, 346, 1, 101) :: kl_803
theorem kk_804 : km_804 = kF kl_804 := (show km_804 = kE (1, 346, 1, 101) km_803 from rfl).trans (congrArg (kE (1, 346, 1, 101)) kk_803)
def kl_805 : List ke := (1, 346, 2, 97) :: kl_804
theorem kk_805 : km_805 = kF kl_805 := (show km_805 = kE (1, 346, 2, 97) km_804 from rfl).trans (congrArg (kE (1, 346, 2, 97)) kk_804)
def kl_806 : List ke := (1, 346, 3, 115) :: kl_805
theorem kk_806 : km_806 = kF kl_806 := (show km_806 = kE (1, 346, 3, 115) km_805 from rfl).trans (congrArg (kE (1, 346, 3, 115)) kk_805)
def kl_807 : List ke := (1, 346, 4, 116) :: kl_806
theorem kk_807 : km_807 = kF kl_807 := (show km_807 = kE (1, 346, 4, 116) km_806 from rfl).trans (congrArg (kE (1, 346, 4, 116)) kk_806)
def kl_808 : List ke := (3, 291, 84, 346) :: kl_807
theorem kk_808 : km_808 = kF kl_808 := (show km_808 = kE (3, 291, 84, 346) km_807 from rfl).trans (congrArg (kE (3, 291, 84, 346)) kk_807)
def kl_809 : List ke := (0, 15, 3, 0) :: kl_808
theorem kk_809 : km_809 = kF kl_809 := (show km_809 = kE (0, 15, 3, 0) km_808 from rfl).trans (congrArg (kE (0, 15, 3, 0)) kk_808)
def kl_810 : List ke := (1, 347, 0, 110) :: kl_809
theorem kk_810 : km_810 = kF kl_810 := (show km_810 = kE (1, 347, 0, 110) km_809 from rfl).trans (congrArg (kE (1, 347, 0, 110)) kk_809)
def kl_811 : List ke := (1, 347, 1, 111) :: kl_810
theorem kk_811 : km_811 = kF kl_811 := (show km_811 = kE (1, 347, 1, 111) km_810 from rfl).trans (congrArg (kE (1, 347, 1, 111)) kk_810)
def kl_812 : List ke := (1, 347, 2, 116) :: kl_811
theorem kk_812 : km_812 = kF kl_812 := (show km_812 = kE (1, 347, 2, 116) km_811 from rfl).trans (congrArg (kE (1, 347, 2, 116)) kk_811)
def kl_813 : List ke := (3, 291, 85, 347) :: kl_812
theorem kk_813 : km_813 = kF kl_813 := (show km_813 = kE (3, 291, 85, 347) km_812 from rfl).trans (congrArg (kE (3, 291, 85, 347)) kk_812)
def kl_814 : List ke := (0, 15, 3, 0) :: kl_813
theorem kk_814 : km_814 = kF kl_814 := (show km_814 = kE (0, 15, 3, 0) km_813 from rfl).trans (congrArg (kE (0, 15, 3, 0)) kk_813)
def kl_815 : List ke := (1, 348, 0, 97) :: kl_814
theorem kk_815 : km_815 = kF kl_815 := (show km_815 = kE (1, 348, 0, 97) km_814 from rfl).trans (congrArg (kE (1, 348, 0, 97)) kk_814)
def kl_816 : List ke := (1, 348, 1, 110) :: kl_815
theorem kk_816 : km_816 = kF kl_816 := (show km_816 = kE (1, 348, 1, 110) km_815 from rfl).trans (congrArg (kE (1, 348, 1, 110)) kk_815)
def kl_817 : List ke := (1, 348, 2, 100) :: kl_816
theorem kk_817 : km_817 = kF kl_817 := (show km_817 = kE (1, 348, 2, 100) km_816 from rfl).trans (congrArg (kE (1, 348, 2, 100)) kk_816)
def kl_818 : List ke := (3, 291, 86, 348) :: kl_817
theorem kk_818 : km_818 = kF kl_818 := (show km_818 = kE (3, 291, 86, 348) km_817 from rfl).trans (congrArg (kE (3, 291, 86, 348)) kk_817)
def kl_819 : List ke := (0, 15, 2, 0) :: kl_818
theorem kk_819 : km_819 = kF kl_819 := (show km_819 = kE (0, 15, 2, 0) km_818 from rfl).trans (congrArg (kE (0, 15, 2, 0)) kk_818)
def kl_820 : List ke := (1, 349, 0, 111) :: kl_819
theorem kk_820 : km_820 = kF kl_820 := (show km_820 = kE (1, 349, 0, 111) km_819 from rfl).trans (congrArg (kE (1, 349, 0, 111)) kk_819)
def kl_821 : List ke := (1, 349, 1, 114) :: kl_820
theorem kk_821 : km_821 = kF kl_821 := (show km_821 = kE (1, 349, 1, 114) km_820 from rfl).trans (congrArg (kE (1, 349, 1, 114)) kk_820)
def kl_822 : List ke := (3, 291, 87, 349) :: kl_821
theorem kk_822 : km_822 = kF kl_822 := (show km_822 = kE (3, 291, 87, 349) km_821 from rfl).trans (congrArg (kE (3, 291, 87, 349)) kk_821)
def kl_823 : List ke := (0, 15, 3, 0) :: kl_822
theorem kk_823 : km_823 = kF kl_823 := (show km_823 = kE (0, 15, 3, 0) km_822 from rfl).trans (congrArg (kE (0, 15, 3, 0)) kk_822)
def kl_824 : List ke := (1, 350, 0, 97) :: kl_823
theorem kk_824 : km_824 = kF kl_824 := (show km_824 = kE (1, 350, 0, 97) km_823 from rfl).trans (congrArg (kE (1, 350, 0, 97)) kk_823)
def kl_825 : List ke := (1, 350, 1, 108) :: kl_824
theorem kk_825 : km_825 = kF kl_825 := (show km_825 = kE (1, 350, 1, 108) km_824 from rfl).trans (congrArg (kE (1, 350, 1, 108)) kk_824)
def kl_826 : List ke := (1, 350, 2, 108) :: kl_825
theorem kk_826 : km_826 = kF kl_826 := (show km_826 = kE (1, 350, 2, 108) km_825 from rfl).trans (congrArg (kE (1, 350, 2, 108)) kk_825)
def kl_827 : List ke := (3, 291, 88, 350) :: kl_826
theorem kk_827 : km_827 = kF kl_827 := (show km_827 = kE (3, 291, 88, 350) km_826 from rfl).trans (congrArg (kE (3, 291, 88, 350)) kk_826)
def kl_828 : List ke := (0, 15, 3, 0) :: kl_827
theorem kk_828 : km_828 = kF kl_828 := (show km_828 = kE (0, 15, 3, 0) km_827 from rfl).trans (congrArg (kE (0, 15, 3, 0)) kk_827)
def kl_829 : List ke := (1, 351, 0, 109) :: kl_828
theorem kk_829 : km_829 = kF kl_829 := (show km_829 = kE (1, 351, 0, 109) km_828 from rfl).trans (congrArg (kE (1, 351, 0, 109)) kk_828)
def kl_830 : List ke := (1, 351, 1, 105) :: kl_829
theorem kk_830 : km_830 = kF kl_830 := (show km_830 = kE (1, 351, 1, 105) km_829 from rfl).trans (congrArg (kE (1, 351, 1, 105)) kk_829)
def kl_831 : List ke := (1, 351, 2, 110) :: kl_830
theorem kk_831 : km_831 = kF kl_831 := (show km_831 = kE (1, 351, 2, 110) km_830 from rfl).trans (congrArg (kE (1, 351, 2, 110)) kk_830)
def kl_832 : List ke := (3, 291, 89, 351) :: kl_831
theorem kk_832 : km_832 = kF kl_832 := (show km_832 = kE (3, 291, 89, 351) km_831 from rfl).trans (congrArg (kE (3, 291, 89, 351)) kk_831)
def kl_833 : List ke := (0, 15, 3, 0) :: kl_832
theorem kk_833 : km_833 = kF kl_833 := (show km_833 = kE (0, 15, 3, 0) km_832 from rfl).trans (congrArg (kE (0, 15, 3, 0)) kk_832)
def kl_834 : List ke := (1, 352, 0, 109) :: kl_833
theorem kk_834 : km_834 = kF kl_834 := (show km_834 = kE (1, 352, 0, 109) km_833 from rfl).trans (congrArg (kE (1, 352, 0, 109)) kk_833)
def kl_835 : List ke := (1, 352, 1, 97) :: kl_834
theorem kk_835 : km_835 = kF kl_835 := (show km_835 = kE (1, 352, 1, 97) km_834 from rfl).trans (congrArg (kE (1, 352, 1, 97)) kk_834)
def kl_836 : List ke := (1, 352, 2, 120) :: kl_835
theorem kk_836 : km_836 = kF kl_836 := (show km_836 = kE (1, 352, 2, 120) km_835 from rfl).trans (congrArg (kE (1, 352, 2, 120)) kk_835)
def kl_837 : List ke := (3, 291, 90, 352) :: kl_836
theorem kk_837 : km_837 = kF kl_837 := (show km_837 = kE (3, 291, 90, 352) km_836 from rfl).trans (congrArg (kE (3, 291, 90, 352)) kk_836)
def kl_838 : List ke := (0, 15, 5, 0) :: kl_837
theorem kk_838 : km_838 = kF kl_838 := (show km_838 = kE (0, 15, 5, 0) km_837 from rfl).trans (congrArg (kE (0, 15, 5, 0)) kk_837)
def kl_839 : List ke := (1, 353, 0, 116) :: kl_838
theorem kk_839 : km_839 = kF kl_839 := (show km_839 = kE (1, 353, 0, 116) km_838 from rfl).trans (congrArg (kE (1, 353, 0, 116)) kk_838)
def kl_840 : List ke := (1, 353, 1, 105) :: kl_839
theorem kk_840 : km_840 = kF kl_840 := (show km_840 = kE (1, 353, 1, 105) km_839 from rfl).trans (congrArg (kE (1, 353, 1, 105)) kk_839)
def kl_841 : List ke := (1, 353, 2, 114) :: kl_840
theorem kk_841 : km_841 = kF kl_841 := (show km_841 = kE (1, 353, 2, 114) km_840 from rfl).trans (congrArg (kE (1, 353, 2, 114)) kk_840)
def kl_842 : List ke := (1, 353, 3, 101) :: kl_841
theorem kk_842 : km_842 = kF kl_842 := (show km_842 = kE (1, 353, 3, 101) km_841 from rfl).trans (congrArg (kE (1, 353, 3, 101)) kk_841)
def kl_843 : List ke := (1, 353, 4, 100) :: kl_842
theorem kk_843 : km_843 = kF kl_843 := (show km_843 = kE (1, 353, 4, 100) km_842 from rfl).trans (congrArg (kE (1, 353, 4, 100)) kk_842)
def kl_844 : List ke := (3, 291, 91, 353) :: kl_843
theorem kk_844 : km_844 = kF kl_844 := (show km_844 = kE (3, 291, 91, 353) km_843 from rfl).trans (congrArg (kE (3, 291, 91, 353)) kk_843)
def kl_845 : List ke := (0, 15, 6, 0) :: kl_844
theorem kk_845 : km_845 = kF kl_845 := (show km_845 = kE (0, 15, 6, 0) km_844 from rfl).trans (congrArg (kE (0, 15, 6, 0)) kk_844)
def kl_846 : List ke := (1, 354, 0, 104) :: kl_845
theorem kk_846 : km_846 = kF kl_846 := (show km_846 = kE (1, 354, 0, 104) km_845 from rfl).trans (congrArg (kE (1, 354, 0, 104)) kk_845)
def kl_847 : List ke := (1, 354, 1, 101) :: kl_846
theorem kk_847 : km_847 = kF kl_847 := (show km_847 = kE (1, 354, 1, 101) km_846 from rfl).trans (congrArg (kE (1, 354, 1, 101)) kk_846)
def kl_848 : List ke := (1, 354, 2, 105) :: kl_847
theorem kk_848 : km_848 = kF kl_848 := (show km_848 = kE (1, 354, 2, 105) km_847 from rfl).trans (congrArg (kE (1, 354, 2, 105)) kk_847)
def kl_849 : List ke := (1, 354, 3, 103) :: kl_848
theorem kk_849 : km_849 = kF kl_849 := (show km_849 = kE (1, 354, 3, 103) km_848 from rfl).trans (congrArg (kE (1, 354, 3, 103)) kk_848)
def kl_850 : List ke := (1, 354, 4, 104) :: kl_849
theorem kk_850 : km_850 = kF kl_850 := (show km_850 = kE (1, 354, 4, 104) km_849 from rfl).trans (congrArg (kE (1, 354, 4, 104)) kk_849)
def kl_851 : List ke := (1, 354, 5, 116) :: kl_850
theorem kk_851 : km_851 = kF kl_851 := (show km_851 = kE (1, 354, 5, 116) km_850 from rfl).trans (congrArg (kE (1, 354, 5, 116)) kk_850)
def kl_852 : List ke := (3, 291, 92, 354) :: kl_851
theorem kk_852 : km_852 = kF kl_852 := (show km_852 = kE (3, 291, 92, 354) km_851 from rfl).trans (congrArg (kE (3, 291, 92, 354)) kk_851)
def kl_853 : List ke := (0, 15, 5, 0) :: kl_852
theorem kk_853 : km_853 = kF kl_853 := (show km_853 = kE (0, 15, 5, 0) km_852 from rfl).trans (congrArg (kE (0, 15, 5, 0)) kk_852)
def kl_854 : List ke := (1, 355, 0, 107) :: kl_853
theorem kk_854 : km_854 = kF kl_854 := (show km_854 = kE (1, 355, 0, 107) km_853 from rfl).trans (congrArg (kE (1, 355, 0, 107)) kk_853)
def kl_855 : List ke := (1, 355, 1, 110) :: kl_854
theorem kk_855 : km_855 = kF kl_855 := (show km_855 = kE (1, 355, 1, 110) km_854 from rfl).trans (congrArg (kE (1, 355, 1, 110)) kk_854)
def kl_856 : List ke := (1, 355, 2, 111) :: kl_855
theorem kk_856 : km_856 = kF kl_856 := (show km_856 = kE (1, 355, 2, 111) km_855 from rfl).trans (congrArg (kE (1, 355, 2, 111)) kk_855)
def kl_857 : List ke := (1, 355, 3, 119) :: kl_856
theorem kk_857 : km_857 = kF kl_857 := (show km_857 = kE (1, 355, 3, 119) km_856 from rfl).trans (congrArg (kE (1, 355, 3, 119)) kk_856)
def kl_858 : List ke := (1, 355, 4, 110) :: kl_857
theorem kk_858 : km_858 = kF kl_858 := (show km_858 = kE (1, 355, 4, 110) km_857 from rfl).trans (congrArg (kE (1, 355, 4, 110)) kk_857)
def kl_859 : List ke := (3, 291, 93, 355) :: kl_858
theorem kk_859 : km_859 = kF kl_859 := (show km_859 = kE (3, 291, 93, 355) km_858 from rfl).trans (congrArg (kE (3, 291, 93, 355)) kk_858)
def kl_860 : List ke := (0, 15, 3, 0) :: kl_859
theorem kk_860 : km_860 = kF kl_860 := (show km_860 = kE (0, 15, 3, 0) km_859 from rfl).trans (congrArg (kE (0, 15, 3, 0)) kk_859)
def kl_861 : List ke := (1, 356, 0, 100) :: kl_860
theorem kk_861 : km_861 = kF kl_861 := (show km_861 = kE (1, 356, 0, 100) km_860 from rfl).trans (congrArg (kE (1, 356, 0, 100)) kk_860)
def kl_862 : List ke := (1, 356, 1, 97) :: kl_861
theorem kk_862 : km_862 = kF kl_862 := (show km_862 = kE (1, 356, 1, 97) km_861 from rfl).trans (congrArg (kE (1, 356, 1, 97)) kk_861)
def kl_863 : List ke := (1, 356, 2, 121) :: kl_862
theorem kk_863 : km_863 = kF kl_863 := (show km_863 = kE (1, 356, 2, 121) km_862 from rfl).trans (congrArg (kE (1, 356, 2, 121)) kk_862)
def kl_864 : List ke := (3, 291, 94, 356) :: kl_863
theorem kk_864 : km_864 = kF kl_864 := (show km_864 = kE (3, 291, 94, 356) km_863 from rfl).trans (congrArg (kE (3, 291, 94, 356)) kk_863)
def kl_865 : List ke := (0, 15, 5, 0) :: kl_864
theorem kk_865 : km_865 = kF kl_865 := (show km_865 = kE (0, 15, 5, 0) km_864 from rfl).trans (congrArg (kE (0, 15, 5, 0)) kk_864)
def kl_866 : List ke := (1, 357, 0, 116) :: kl_865
theorem kk_866 : km_866 = kF kl_866 := (show km_866 = kE (1, 357, 0, 116) km_865 from rfl).trans (congrArg (kE (1, 357, 0, 116)) kk_865)
def kl_867 : List ke := (1, 357, 1, 111) :: kl_866
theorem kk_867 : km_867 = kF kl_867 := (show km_867 = kE (1, 357, 1, 111) km_866 from rfl).trans (congrArg (kE (1, 357, 1, 111)) kk_866)
def kl_868 : List ke := (1, 357, 2, 112) :: kl_867
theorem kk_868 : km_868 = kF kl_868 := (show km_868 = kE (1, 357, 2, 112) km_867 from rfl).trans (congrArg (kE (1, 357, 2, 112)) kk_867)
def kl_869 : List ke := (1, 357, 3, 105) :: kl_868
theorem kk_869 : km_869 = kF kl_869 := (show km_869 = kE (1, 357, 3, 105) km_868 from rfl).trans (congrArg (kE (1, 357, 3, 105)) kk_868)
def kl_870 : List ke := (1, 357, 4, 99) :: kl_869
theorem kk_870 : km_870 = kF kl_870 := (show km_870 = kE (1, 357, 4, 99) km_869 from rfl).trans (congrArg (kE (1, 357, 4, 99)) kk_869)
def kl_871 : List ke := (3, 291, 95, 357) :: kl_870
theorem kk_871 : km_871 = kF kl_871 := (show km_871 = kE (3, 291, 95, 357) km_870 from rfl).trans (congrArg (kE (3, 291, 95, 357)) kk_870)
def kl_872 : List ke := (0, 15, 4, 0) :: kl_871
theorem kk_872 : km_872 = kF kl_872 := (show km_872 = kE (0, 15, 4, 0) km_871 from rfl).trans (congrArg (kE (0, 15, 4, 0)) kk_871)
def kl_873 : List ke := (1, 358, 0, 115) :: kl_872
theorem kk_873 : km_873 = kF kl_873 := (show km_873 = kE (1, 358, 0, 115) km_872 from rfl).trans (congrArg (kE (1, 358, 0, 115)) kk_872)
def kl_874 : List ke := (1, 358, 1, 105) :: kl_873
theorem kk_874 : km_874 = kF kl_874 := (show km_874 = kE (1, 358, 1, 105) km_873 from rfl).trans (congrArg (kE (1, 358, 1, 105)) kk_873)
def kl_875 : List ke := (1, 358, 2, 100) :: kl_874
theorem kk_875 : km_875 = kF kl_875 := (show km_875 = kE (1, 358, 2, 100) km_874 from rfl).trans (congrArg (kE (1, 358, 2, 100)) kk_874)
def kl_876 : List ke := (1, 358, 3, 101) :: kl_875
theorem kk_876 : km_876 = kF kl_876 := (show km_876 = kE (1, 358, 3, 101) km_875 from rfl).trans (congrArg (kE (1, 358, 3, 101)) kk_875)
def kl_877 : List ke := (3, 291, 96, 358) :: kl_876
theorem kk_877 : km_877 = kF kl_877 := (show km_877 = kE (3, 291, 96, 358) km_876 from rfl).trans (congrArg (kE (3, 291, 96, 358)) kk_876)
def kl_878 : List ke := (0, 15, 6, 0) :: kl_877
theorem kk_878 : km_878 = kF kl_878 := (show km_878 = kE (0, 15, 6, 0) km_877 from rfl).trans (congrArg (kE (0, 15, 6, 0)) kk_877)
def kl_879 : List ke := (1, 359, 0, 110) :: kl_878
theorem kk_879 : km_879 = kF kl_879 := (show km_879 = kE (1, 359, 0, 110) km_878 from rfl).trans (congrArg (kE (1, 359, 0, 110)) kk_878)
def kl_880 : List ke := (1, 359, 1, 117) :: kl_879
theorem kk_880 : km_880 = kF kl_880 := (show km_880 = kE (1, 359, 1, 117) km_879 from rfl).trans (congrArg (kE (1, 359, 1, 117)) kk_879)
def kl_881 : List ke := (1, 359, 2, 109) :: kl_880
theorem kk_881 : km_881 = kF kl_881 := (show km_881 = kE (1, 359, 2, 109) km_880 from rfl).trans (congrArg (kE (1, 359, 2, 109)) kk_880)
def kl_882 : List ke := (1, 359, 3, 98) :: kl_881
theorem kk_882 : km_882 = kF kl_882 := (show km_882 = kE (1, 359, 3, 98) km_881 from rfl).trans (congrArg (kE (1, 359, 3, 98)) kk_881)
def kl_883 : List ke := (1, 359, 4, 101) :: kl_882
theorem kk_883 : km_883 = kF kl_883 := (show km_883 = kE (1, 359, 4, 101) km_882 from rfl).trans (congrArg (kE (1, 359, 4, 101)) kk_882)
def kl_884 : List ke := (1, 359, 5, 114) :: kl_883
theorem kk_884 : km_884 = kF kl_884 := (show km_884 = kE (1, 359, 5, 114) km_883 from rfl).trans (congrArg (kE (1, 359, 5, 114)) kk_883)
def kl_885 : List ke := (3, 291, 97, 359) :: kl_884
theorem kk_885 : km_885 = kF kl_885 := (show km_885 = kE (3, 291, 97, 359) km_884 from rfl).trans (congrArg (kE (3, 291, 97, 359)) kk_884)
def kl_886 : List ke := (0, 15, 6, 0) :: kl_885
theorem kk_886 : km_886 = kF kl_886 := (show km_886 = kE (0, 15, 6, 0) km_885 from rfl).trans (congrArg (kE (0, 15, 6, 0)) kk_885)
def kl_887 : List ke := (1, 360, 0, 99) :: kl_886
theorem kk_887 : km_887 = kF kl_887 := (show km_887 = kE (1, 360, 0, 99) km_886 from rfl).trans (congrArg (kE (1, 360, 0, 99)) kk_886)
def kl_888 : List ke := (1, 360, 1, 111) :: kl_887
theorem kk_888 : km_888 = kF kl_888 := (show km_888 = kE (1, 360, 1, 111) km_887 from rfl).trans (congrArg (kE (1, 360, 1, 111)) kk_887)
def kl_889 : List ke := (1, 360, 2, 108) :: kl_888
theorem kk_889 : km_889 = kF kl_889 := (show km_889 = kE (1, 360, 2, 108) km_888 from rfl).trans (congrArg (kE (1, 360, 2, 108)) kk_888)
def kl_890 : List ke := (1, 360, 3, 117) :: kl_889
theorem kk_890 : km_890 = kF kl_890 := (show km_890 = kE (1, 360, 3, 117) km_889 from rfl).trans (congrArg (kE (1, 360, 3, 117)) kk_889)
def kl_891 : List ke := (1, 360, 4, 109) :: kl_890
theorem kk_891 : km_891 = kF kl_891 := (show km_891 = kE (1, 360, 4, 109) km_890 from rfl).trans (congrArg (kE (1, 360, 4, 109)) kk_890)
def kl_892 : List ke := (1, 360, 5, 110) :: kl_891
theorem kk_892 : km_892 = kF kl_892 := (show km_892 = kE (1, 360, 5, 110) km_891 from rfl).trans (congrArg (kE (1, 360, 5, 110)) kk_891)
def kl_893 : List ke := (3, 291, 98, 360) :: kl_892
theorem kk_893 : km_893 = kF kl_893 := (show km_893 = kE (3, 291, 98, 360) km_892 from rfl).trans (congrArg (kE (3, 291, 98, 360)) kk_892)
def kl_894 : List ke := (0, 15, 3, 0) :: kl_893
theorem kk_894 : km_894 = kF kl_894 := (show km_894 = kE (0, 15, 3, 0) km_893 from rfl).trans (congrArg (kE (0, 15, 3, 0)) kk_893)
def kl_895 : List ke := (1, 361, 0, 114) :: kl_894
theorem kk_895 : km_895 = kF kl_895 := (show km_895 = kE (1, 361, 0, 114) km_894 from rfl).trans (congrArg (kE (1, 361, 0, 114)) kk_894)
def kl_896 : List ke := (1, 361, 1, 111) :: kl_895
theorem kk_896 : km_896 = kF kl_896 := (show km_896 = kE (1, 361, 1, 111) km_895 from rfl).trans (congrArg (kE (1, 361, 1, 111)) kk_895)
def kl_897 : List ke := (1, 361, 2, 119) :: kl_896
theorem kk_897 : km_897 = kF kl_897 := (show km_897 = kE (1, 361, 2, 119) km_896 from rfl).trans (congrArg (kE (1, 361, 2, 119)) kk_896)
def kl_898 : List ke := (3, 291, 99, 361) :: kl_897
theorem kk_898 : km_898 = kF kl_898 := (show km_898 = kE (3, 291, 99, 361) km_897 from rfl).trans (congrArg (kE (3, 291, 99, 361)) kk_897)
def kl_899 : List ke := (0, 15, 5, 0) :: kl_898
theorem kk_899 : km_899 = kF kl_899 := (show km_899 = kE (0, 15, 5, 0) km_898 from rfl).trans (congrArg (kE (0, 15, 5, 0)) kk_898)
def kl_900 : List ke := (1, 362, 0, 107) :: kl_899
theorem kk_900 : km_900 = kF kl_900 := (show km_900 = kE (1, 362, 0, 107) km_899 from rfl).trans (congrArg (kE (1, 362, 0, 107)) kk_899)
def kl_901 : List ke := (1, 362, 1, 110) :: kl_900
theorem kk_901 : km_901 = kF kl_901 := (show km_901 = kE (1, 362, 1, 110) km_900 from rfl).trans (congrArg (kE (1, 362, 1, 110)) kk_900)
def kl_902 : List ke := (1, 362, 2, 111) :: kl_901
theorem kk_902 : km_902 = kF kl_902 := (show km_902 = kE (1, 362, 2, 111) km_901 from rfl).trans (congrArg (kE (1, 362, 2, 111)) kk_901)
def kl_903 : List ke := (1, 362, 3, 119) :: kl_902
theorem kk_903 : km_903 = kF kl_903 := (show km_903 = kE (1, 362, 3, 119) km_902 from rfl).trans (congrArg (kE (1, 362, 3, 119)) kk_902)
def kl_904 : List ke := (1, 362, 4, 115) :: kl_903
theorem kk_904 : km_904 = kF kl_904 := (show km_904 = kE (1, 362, 4, 115) km_903 from rfl).trans (congrArg (kE (1, 362, 4, 115)) kk_903)
def kl_905 : List ke := (3, 291, 100, 362) :: kl_904
theorem kk_905 : km_905 = kF kl_905 := (show km_905 = kE (3, 291, 100, 362) km_904 from rfl).trans (congrArg (kE (3, 291, 100, 362)) kk_904)
def kl_906 : List ke := (0, 15, 5, 0) :: kl_905
theorem kk_906 : km_906 = kF kl_906 := (show km_906 = kE (0, 15, 5, 0) km_905 from rfl).trans (congrArg (kE (0, 15, 5, 0)) kk_905)
def kl_907 : List ke := (1, 363, 0, 108) :: kl_906
theorem kk_907 : km_907 = kF kl_907 := (show km_907 = kE (1, 363, 0, 108) km_906 from rfl).trans (congrArg (kE (1, 363, 0, 108)) kk_906)
def kl_908 : List ke := (1, 363, 1, 105) :: kl_907
theorem kk_908 : km_908 = kF kl_908 := (show km_908 = kE (1, 363, 1, 105) km_907 from rfl).trans (congrArg (kE (1, 363, 1, 105)) kk_907)
def kl_909 : List ke := (1, 363, 2, 102) :: kl_908
theorem kk_909 : km_909 = kF kl_909 := (show km_909 = kE (1, 363, 2, 102) km_908 from rfl).trans (congrArg (kE (1, 363, 2, 102)) kk_908)
def kl_910 : List ke := (1, 363, 3, 116) :: kl_909
theorem kk_910 : km_910 = kF kl_910 := (show km_910 = kE (1, 363, 3, 116) km_909 from rfl).trans (congrArg (kE (1, 363, 3, 116)) kk_909)
def kl_911 : List ke := (1, 363, 4, 115) :: kl_910
theorem kk_911 : km_911 = kF kl_911 := (show km_911 = kE (1, 363, 4, 115) km_910 from rfl).trans (congrArg (kE (1, 363, 4, 115)) kk_910)
def kl_912 : List ke := (3, 291, 101, 363) :: kl_911
theorem kk_912 : km_912 = kF kl_912 := (show km_912 = kE (3, 291, 101, 363) km_911 from rfl).trans (congrArg (kE (3, 291, 101, 363)) kk_911)
def kl_913 : List ke := (0, 13, 1700, 0) :: kl_912
theorem kk_913 : km_913 = kF kl_913 := (show km_913 = kE (0, 13, 1700, 0) km_912 from rfl).trans (congrArg (kE (0, 13, 1700, 0)) kk_912)
def kl_914 : List ke := (3, 291, 102, 364) :: kl_913
theorem kk_914 : km_914 = kF kl_914 := (show km_914 = kE (3, 291, 102, 364) km_913 from rfl).trans (congrArg (kE (3, 291, 102, 364)) kk_913)
def kl_915 : List ke := (0, 13, 1700, 0) :: kl_914
theorem kk_915 : km_915 = kF kl_915 := (show km_915 = kE (0, 13, 1700, 0) km_914 from rfl).trans (congrArg (kE (0, 13, 1700, 0)) kk_914)
def kl_916 : List ke := (3, 291, 104, 365) :: kl_915
theorem kk_916 : km_916 = kF kl_916 := (show km_916 = kE (3, 291, 104, 365) km_915 from rfl).trans (congrArg (kE (3, 291, 104, 365)) kk_915)
def kl_917 : List ke := (0, 14, 1700, 0) :: kl_916
theorem kk_917 : km_917 = kF kl_917 := (show km_917 = kE (0, 14, 1700, 0) km_916 from rfl).trans (congrArg (kE (0, 14, 1700, 0)) kk_916)
def kl_918 : List ke := (3, 291, 108, 366) :: kl_917
theorem kk_918 : km_918 = kF kl_918 := (show km_918 = kE (3, 291, 108, 366) km_917 from rfl).trans (congrArg (kE (3, 291, 108, 366)) kk_917)
def kl_919 : List ke := (0, 13, 80, 0) :: kl_918
theorem kk_919 : km_919 = kF kl_919 := (show km_919 = kE (0, 13, 80, 0) km_918 from rfl).trans (congrArg (kE (0, 13, 80, 0)) kk_918)
def kl_920 : List ke := (3, 291, 112, 367) :: kl_919
theorem kk_920 : km_920 = kF kl_920 := (show km_920 = kE (3, 291, 112, 367) km_919 from rfl).trans (congrArg (kE (3, 291, 112, 367)) kk_919)
theorem kw_all : kw kl_920 = true := by decide +kernel
theorem km_i (r k : Nat) : sh_i km_920 r k = kI r k kl_920 := by rw [kk_920]; exact ((kz _ kw_all).2.2 r k).1
theorem km_l (r k : Nat) : sh_l km_920 r k = kL r k kl_920 := by rw [kk_920]; exact ((kz _ kw_all).2.2 r k).2.1
theorem km_r (r k : Nat) : sh_r km_920 r k = kR r k kl_920 := by rw [kk_920]; exact ((kz _ kw_all).2.2 r k).2.2
theorem km_row {r : Nat} (h : (kl_920).all (fun e => !(e.1 == 1 && e.2.1 == r)) = true) (k : Nat) : sh_i km_920 r k = 0 := by rw [km_i]; exact kI_row _ h k
theorem km_lay : sh_lay km_920 = sh_LAY := by decide +kernel
theorem km_hrl : ∀ q ∈ sh_HRL, kR q.1 q.2.1 kl_920 = some q.2.2 := by decide +kernel
theorem km_G : sh_G km_920 := ⟨km_lay, fun q hq => (km_r _ _).trans (km_hrl q hq)⟩
theorem km_W : ∀ q ∈ sw_T, ∀ j, j < q.2.length → kI q.1 j kl_920 = nI (q.2.getD j 0) := by decide +kernel
theorem sim_0 : Sim km_920 := by
  have z : ∀ r k, kI r k kl_920 = 0 → sh_i km_920 r k = 0 := fun r k h => (km_i r k).trans h
  refine ⟨km_G, ⟨0, by omega, z _ _ (by decide +kernel), z _ _ (by decide +kernel), fun j _ => ?_⟩, ⟨?_, ?_⟩, fun k _ => ?_, ⟨1, by omega, (km_l _ _).trans (by decide +kernel), (km_l _ _).trans (by decide +kernel)⟩, ⟨0, by omega, z _ _ (by decide +kernel), z _ _ (by decide +kernel), fun j h => by omega⟩, ?_⟩
  · rw [km_row (by decide +kernel) j, km_row (by decide +kernel) j]
    exact ⟨rfl, 0, by omega, rfl⟩
  · rw [km_i, km_i]; decide +kernel
  · rw [km_i, km_i]; decide +kernel
  · rw [km_row (by decide +kernel) k, km_row (by decide +kernel) k]
  · have c0 : ∀ q : Nat, ¬ q < 0 * 0 := fun q => by omega
    refine ⟨29, (0, 0, [], [], [], 0, [], [], [], (false, false, false)), (0, fun _ => 0, fun _ => 0, fun _ => 0, fun _ => 0, fun _ => 0), ⟨Or.inr rfl, (km_r _ _).trans (by decide +kernel), (km_r _ _).trans (by decide +kernel), ⟨8, Or.inl rfl, by omega, (km_r _ _).trans (by decide +kernel)⟩, ?_⟩, ?_, ?_, ?_, ?_, ?_, ?_, ?_, ?_, ?_, ?_, ?_, ?_, ?_, ?_⟩
    · exact ⟨3, (show 3 ∈ sh_FORMS by decide), (km_r _ _).trans (by decide +kernel)⟩
    · refine ⟨Or.inl ⟨rfl, rfl, rfl, rfl, rfl⟩, by decide, by decide, by decide, fun q hq => (by cases hq), by decide, fun q hq => (by cases hq), fun q hq => (by cases hq), by decide, by decide, by decide, fun h => ?_⟩
      exact absurd h (by decide)
    · exact ⟨by decide, fun j h => absurd h (c0 j), fun p h => absurd h (Nat.not_lt_zero p)⟩
    · exact ⟨z _ _ (by decide +kernel), z _ _ (by decide +kernel), z _ _ (by decide +kernel), z _ _ (by decide +kernel), z _ _ (by decide +kernel), z _ _ (by decide +kernel), fun j h => absurd h (Nat.not_lt_zero j), fun j h => absurd h (Nat.not_lt_zero j), fun j h => absurd h (Nat.not_lt_zero j), ⟨z _ _ (by decide +kernel), fun j h => absurd h (Nat.not_lt_zero j)⟩, ⟨z _ _ (by decide +kernel), fun j h => absurd h (Nat.not_lt_zero j)⟩, ⟨z _ _ (by decide +kernel), fun j h => absurd h (Nat.not_lt_zero j)⟩⟩
    · exact ⟨z _ _ (by decide +kernel), z _ _ (by decide +kernel), z _ _ (by decide +kernel), z _ _ (by decide +kernel), z _ _ (by decide +kernel), z _ _ (by decide +kernel), z _ _ (by decide +kernel), fun j h => absurd h (Nat.not_lt_zero j), fun j h => absurd h (Nat.not_lt_zero j), fun j h => absurd h (Nat.not_lt_zero j), (km_i _ _).trans (by decide +kernel), (km_i _ _).trans (by decide +kernel), (km_i _ _).trans (by decide +kernel)⟩
    · exact ⟨z _ _ (by decide +kernel), fun j h => absurd h (c0 j), fun p h => absurd h (Nat.not_lt_zero p)⟩
    · exact ⟨z _ _ (by decide +kernel), fun x y h => absurd h (Nat.not_lt_zero x), fun p h => absurd h (Nat.not_lt_zero p)⟩
    · exact ⟨0, by omega, z _ _ (by decide +kernel), z _ _ (by decide +kernel), fun j h => by omega⟩
    · exact ⟨0, 0, 0, by omega, by omega, by omega, z _ _ (by decide +kernel), z _ _ (by decide +kernel), z _ _ (by decide +kernel), z _ _ (by decide +kernel), fun i h => by omega⟩
    · exact ⟨0, by omega, z _ _ (by decide +kernel), z _ _ (by decide +kernel), fun i h => by omega⟩
    · exact z _ _ (by decide +kernel)
    · exact z _ _ (by decide +kernel)
    · exact z _ _ (by decide +kernel)
    · exact z _ _ (by decide +kernel)
    · exact fun q hq j hj => (km_i _ _).trans (km_W q hq j hj)
