/-! THE ABSTRACT MEMORY. All cells that the law makes lie one behind another from the address B on: cell r at B + r. 'sh_lay': what each is (class number below 13 and nothing, or 13 int[], 14 long[], 15 char[], 16 Land[], 17 int[][], and its length); then what its places hold: numbers, longs, references (as numbers of cells). -/
abbrev sh_Mem : Type := List (Nat × Nat) × (Nat → Nat → Int32) × (Nat → Nat → Int64) × (Nat → Nat → Option Nat)
abbrev sh_lay (μ : sh_Mem) : List (Nat × Nat) := μ.1
abbrev sh_i (μ : sh_Mem) : Nat → Nat → Int32 := μ.2.1
abbrev sh_l (μ : sh_Mem) : Nat → Nat → Int64 := μ.2.2.1
abbrev sh_r (μ : sh_Mem) : Nat → Nat → Option Nat := μ.2.2.2
/-- f, its row r being g -/
def sh_row {α : Type} (f : Nat → Nat → α) (r : Nat) (g : Nat → α) : Nat → Nat → α := fun r' => if r' = r then g else f r'
theorem sh_row_s {α : Type} {f : Nat → Nat → α} {r : Nat} {g : Nat → α} : sh_row f r g r = g := if_pos rfl
theorem sh_row_n {α : Type} {f : Nat → Nat → α} {r r' : Nat} {g : Nat → α} (h : r' ≠ r) : sh_row f r g r' = f r' := if_neg h
/-- row r of the numbers is g -/
def sh_rowI (μ : sh_Mem) (r : Nat) (g : Nat → Int32) : sh_Mem := (μ.1, sh_row μ.2.1 r g, μ.2.2.1, μ.2.2.2)
def sh_rowL (μ : sh_Mem) (r : Nat) (g : Nat → Int64) : sh_Mem := (μ.1, μ.2.1, sh_row μ.2.2.1 r g, μ.2.2.2)
def sh_rowR (μ : sh_Mem) (r : Nat) (g : Nat → Option Nat) : sh_Mem := (μ.1, μ.2.1, μ.2.2.1, sh_row μ.2.2.2 r g)
def sh_setI (μ : sh_Mem) (r k : Nat) (v : Int32) : sh_Mem := sh_rowI μ r (va_up (sh_i μ r) k v)
def sh_setL (μ : sh_Mem) (r k : Nat) (v : Int64) : sh_Mem := sh_rowL μ r (va_up (sh_l μ r) k v)
def sh_setR (μ : sh_Mem) (r k : Nat) (v : Option Nat) : sh_Mem := sh_rowR μ r (va_up (sh_r μ r) k v)
/-- a new cell: all its places 0 or null -/
def sh_add (μ : sh_Mem) (q : Nat × Nat) : sh_Mem := (μ.1 ++ [q], sh_row μ.2.1 μ.1.length (fun _ => 0), sh_row μ.2.2.1 μ.1.length (fun _ => 0), sh_row μ.2.2.2 μ.1.length (fun _ => none))
/-- a value of ours, as the machine has it -/
def sh_cv (B : Nat) : Value → Value
  | .ref k => .ref (B + k)
  | .int x => .int x
  | .long x => .long x
  | .null => .null
  | v => v
def sh_kd : FieldType → Nat
  | .long => 1
  | .object _ => 2
  | .array _ => 2
  | _ => 0
def sh_fv (B : Nat) (μ : sh_Mem) (r k : Nat) (n : Nat) : Value := match n with
  | 0 => .int (sh_i μ r k)
  | 1 => .long (sh_l μ r k)
  | _ => va_rf ((sh_r μ r k).map (B + ·))
def sh_ent (B : Nat) (ca : Nat → ClassId) (μ : sh_Mem) (r : Nat) (q : Nat × Nat) : va_E :=
  if q.1 < 13 then .inr (q.1, (List.range (sh_n q.1)).map fun k => sh_fv B μ r k (sh_kd (sh_ty q.1 k)))
  else if q.1 = 13 then .inl (ca 13, q.2, .inl (sh_i μ r))
  else if q.1 = 14 then .inl (ca 14, q.2, .inr (.inl (sh_l μ r)))
  else if q.1 = 15 then .inl (ca 15, q.2, .inl (sh_i μ r))
  else .inl (ca q.1, q.2, .inr (.inr (.inr (.inr fun j => (sh_r μ r j).map (B + ·)))))
def sh_ws (B : Nat) (ca : Nat → ClassId) (μ : sh_Mem) : va_W := (sh_lay μ).mapIdx fun r q => (B + r, sh_ent B ca μ r q)
def sh_tys (ca : Nat → ClassId) : List (ClassId × FieldType) := [(ca 13, .int), (ca 14, .long), (ca 15, .char), (ca 16, .object "ShrugHills$Land"), (ca 17, .array .int)]
def sh_Rep (B : Nat) (D : va_G) (ca : Nat → ClassId) (μ : sh_Mem) (H : Heap) : Prop := H.size = B + (sh_lay μ).length ∧ va_P D sh_cl (sh_ws B ca μ) H
theorem sh_cv_rf (B : Nat) (o : Option Nat) : sh_cv B (va_rf o) = va_rf (o.map (B + ·)) := by cases o <;> rfl
theorem sh_cv_cat (B : Nat) (v : Value) : (sh_cv B v).category = v.category := by cases v <;> rfl
theorem sh_ws_at {B : Nat} {ca : Nat → ClassId} {μ : sh_Mem} {r : Nat} {q : Nat × Nat} (h : (sh_lay μ)[r]? = some q) : (sh_ws B ca μ)[r]? = some (B + r, sh_ent B ca μ r q) := by
  unfold sh_ws
  rw [List.getElem?_mapIdx, h]
  rfl
theorem sh_ws_inv {B : Nat} {ca : Nat → ClassId} {μ : sh_Mem} {r : Nat} {x : Nat × va_E} (h : (sh_ws B ca μ)[r]? = some x) : ∃ q, (sh_lay μ)[r]? = some q ∧ x = (B + r, sh_ent B ca μ r q) := by
  unfold sh_ws at h
  rw [List.getElem?_mapIdx] at h
  cases hq : (sh_lay μ)[r]? with
  | none => rw [hq] at h; cases h
  | some q => rw [hq] at h; exact ⟨q, rfl, (Option.some.inj h).symm⟩
theorem sh_D (B : Nat) (ca : Nat → ClassId) (μ : sh_Mem) : va_D (fun q => B ≤ q) (sh_ws B ca μ) := by
  refine ⟨fun i j p q hi hj h => ?_, fun k q hk => ?_⟩
  · obtain ⟨a, -, rfl⟩ := sh_ws_inv hi
    obtain ⟨b, -, rfl⟩ := sh_ws_inv hj
    have h : B + i = B + j := h
    omega
  · obtain ⟨a, -, rfl⟩ := sh_ws_inv hk
    exact Nat.le_add_right B k
theorem sh_ws_set {B : Nat} {ca : Nat → ClassId} {μ μ' : sh_Mem} {r : Nat} {q : Nat × Nat} {e : va_E} (hlay : sh_lay μ' = sh_lay μ) (h : (sh_lay μ)[r]? = some q) (he : sh_ent B ca μ' r q = e) (ho : ∀ r', r' ≠ r → ∀ q', sh_ent B ca μ' r' q' = sh_ent B ca μ r' q') : (sh_ws B ca μ).set r (B + r, e) = sh_ws B ca μ' := by
  apply List.ext_getElem?
  intro k
  rw [List.getElem?_set]
  by_cases hk : r = k
  · subst hk
    have hlt : r < (sh_ws B ca μ).length := (List.getElem?_eq_some_iff.mp (sh_ws_at (B := B) (ca := ca) h)).1
    rw [if_pos rfl, if_pos hlt, sh_ws_at (μ := μ') (q := q) (by rw [hlay]; exact h), he]
  · rw [if_neg hk]
    unfold sh_ws
    rw [List.getElem?_mapIdx, List.getElem?_mapIdx, hlay]
    cases (sh_lay μ)[k]? with
    | none => rfl
    | some q' => show some (B + k, sh_ent B ca μ k q') = some (B + k, sh_ent B ca μ' k q'); rw [ho k (fun e => hk e.symm)]
theorem sh_fv_congr {B : Nat} {μ μ' : sh_Mem} {r : Nat} (hi : sh_i μ' r = sh_i μ r) (hl : sh_l μ' r = sh_l μ r) (hr : sh_r μ' r = sh_r μ r) (k n : Nat) : sh_fv B μ' r k n = sh_fv B μ r k n := by
  unfold sh_fv
  rw [hi, hl, hr]
theorem sh_ent_congr {B : Nat} {ca : Nat → ClassId} {μ μ' : sh_Mem} {r : Nat} (hi : sh_i μ' r = sh_i μ r) (hl : sh_l μ' r = sh_l μ r) (hr : sh_r μ' r = sh_r μ r) (q : Nat × Nat) : sh_ent B ca μ' r q = sh_ent B ca μ r q := by
  unfold sh_ent
  rw [hi, hl, hr]
  congr 4
  funext k
  exact sh_fv_congr hi hl hr k _
theorem sh_ws_push {B : Nat} {ca : Nat → ClassId} {μ : sh_Mem} {q : Nat × Nat} {e : va_E} (he : sh_ent B ca (sh_add μ q) (sh_lay μ).length q = e) : sh_ws B ca μ ++ [(B + (sh_lay μ).length, e)] = sh_ws B ca (sh_add μ q) := by
  apply List.ext_getElem?
  intro k
  have hlen : (sh_ws B ca μ).length = (sh_lay μ).length := by unfold sh_ws; rw [List.length_mapIdx]
  by_cases hk : k < (sh_lay μ).length
  · rw [List.getElem?_append_left (by rw [hlen]; exact hk)]
    obtain ⟨q', hq'⟩ : ∃ q', (sh_lay μ)[k]? = some q' := ⟨_, List.getElem?_eq_getElem hk⟩
    have h2 : (sh_lay (sh_add μ q))[k]? = some q' := by
      show (μ.1 ++ [q])[k]? = _
      rw [List.getElem?_append_left hk]
      exact hq'
    rw [sh_ws_at hq', sh_ws_at h2]
    congr 2
    exact (sh_ent_congr (sh_row_n (Nat.ne_of_lt hk)) (sh_row_n (Nat.ne_of_lt hk)) (sh_row_n (Nat.ne_of_lt hk)) q').symm
  · rw [List.getElem?_append_right (by rw [hlen]; omega), hlen]
    by_cases hk2 : k = (sh_lay μ).length
    · subst hk2
      have h2 : (sh_lay (sh_add μ q))[(sh_lay μ).length]? = some q := by
        show (μ.1 ++ [q])[_]? = _
        rw [List.getElem?_append_right (Nat.le_refl _)]
        simp
      rw [sh_ws_at h2, he]
      simp
    · have h2 : (sh_ws B ca (sh_add μ q)).length ≤ k := by
        unfold sh_ws
        rw [List.length_mapIdx]
        show (μ.1 ++ [q]).length ≤ k
        rw [List.length_append]
        show μ.1.length + 1 ≤ k
        have : ¬ k < μ.1.length := hk
        have : ¬ k = μ.1.length := hk2
        omega
      rw [List.getElem?_eq_none h2, List.getElem?_eq_none]
      show 1 ≤ _
      omega
/-- the tables' words that stay as they are wherever one looks -/
def sh_tb : List Cond := lw_tbl.filter goodWord
theorem sh_inb {w : Cond} (i : Nat) (h : lw_tbl[i]? = some w) (hg : goodWord w = true) : w ∈ sh_tb := List.mem_filter.mpr ⟨List.mem_of_getElem? h, hg⟩
theorem sh_good : GoodIn sh_tb sh_tb := fun w hw => ⟨hw, good_of_word (List.mem_filter.mp hw).2⟩
theorem sh_inu {ci : Nat} (h : ci < 13) : ∀ w ∈ u_ws (sh_R ci) (sh_T ci) (sh_n ci), w ∈ sh_tb := by
  intro w hw
  refine List.mem_filter.mpr ⟨sh_in_at h w hw, ?_⟩
  unfold u_ws at hw
  obtain ⟨k, -, rfl⟩ := List.mem_map.mp hw
  unfold u_lay
  split <;> rfl
/-- the words that hold of nest mates -/
def sh_nst : List (String × Nat × MethodName × String) := [("ShrugHills", 24, ⟨"ShrugHills$Formula", "<init>", "()V"⟩, "ShrugHills"), ("ShrugHills$PlainReader", 11, ⟨"ShrugHills$Plain", "<init>", "()V"⟩, "ShrugHills"), ("ShrugHills$Plain", 26, ⟨"ShrugHills$Formula", "<init>", "()V"⟩, "ShrugHills"), ("ShrugHills$Plain", 39, ⟨"ShrugHills$Land", "<init>", "()V"⟩, "ShrugHills"), ("ShrugHills", 52, ⟨"ShrugHills$Plain", "<init>", "()V"⟩, "ShrugHills"), ("ShrugHills", 59, ⟨"ShrugHills$Land", "<init>", "()V"⟩, "ShrugHills"), ("ShrugHills$World", 17, ⟨"ShrugHills$Land", "<init>", "()V"⟩, "ShrugHills"), ("ShrugHills$Past", 29, ⟨"ShrugHills$Land", "<init>", "()V"⟩, "ShrugHills"), ("ShrugHills$Foresight", 11, ⟨"ShrugHills$Land", "<init>", "()V"⟩, "ShrugHills"), ("ShrugHills$Planner", 25, ⟨"ShrugHills$Land", "<init>", "()V"⟩, "ShrugHills"), ("ShrugHills", 98, ⟨"ShrugHills$Ways", "<init>", "()V"⟩, "ShrugHills"), ("ShrugHills$PlainReader", 101, ⟨"ShrugHills$FormulaReader", "sum", "(I)Z"⟩, "ShrugHills"), ("ShrugHills$PlainReader", 116, ⟨"ShrugHills$FormulaReader", "test", "(I)Z"⟩, "ShrugHills")]
def sh_tx : String := "plain by high topic person at tired knows of asks lifts tires holds crowd height known day side number column row or and not all min max first last often total most least "
def sh_txb : List Int32 := [112, 108, 97, 105, 110, 32, 98, 121, 32, 104, 105, 103, 104, 32, 116, 111, 112, 105, 99, 32, 112, 101, 114, 115, 111, 110, 32, 97, 116, 32, 116, 105, 114, 101, 100, 32, 107, 110, 111, 119, 115, 32, 111, 102, 32, 97, 115, 107, 115, 32, 108, 105, 102, 116, 115, 32, 116, 105, 114, 101, 115, 32, 104, 111, 108, 100, 115, 32, 99, 114, 111, 119, 100, 32, 104, 101, 105, 103, 104, 116, 32, 107, 110, 111, 119, 110, 32, 100, 97, 121, 32, 115, 105, 100, 101, 32, 110, 117, 109, 98, 101, 114, 32, 99, 111, 108, 117, 109, 110, 32, 114, 111, 119, 32, 111, 114, 32, 97, 110, 100, 32, 110, 111, 116, 32, 97, 108, 108, 32, 109, 105, 110, 32, 109, 97, 120, 32, 102, 105, 114, 115, 116, 32, 108, 97, 115, 116, 32, 111, 102, 116, 101, 110, 32, 116, 111, 116, 97, 108, 32, 109, 111, 115, 116, 32, 108, 101, 97, 115, 116, 32]
/-- what the start gives besides, and what no call changes: nest mates, arrays of references, the words' text, the statics of String -/
def sh_Env (B : Nat) (U : State) : Prop :=
  (∀ q ∈ sh_nst, va_Nw (.methodLinkNest q.1 q.2.1 q.2.2.1 q.2.2.2) U) ∧ va_AO "ShrugHills$Land" U ∧ (∀ a : Array Value, (Cond.arrayOver (.array .int)).before a U = true) ∧
  (∃ aK aV : Nat, vk_R "ShrugHills$Text" 68 sh_tx aK U ∧ vk_S 1 [171] [sh_txb] (fun _ => aK) (fun _ => aV) (fun q => B ≤ q) U U.heap) ∧
  va_Z "java/lang/String" "COMPACT_STRINGS" "Z" (.int 1) (fun q => B ≤ q) U U.heap ∧ va_Zq "jdk/internal/util/Preconditions" "SIOOBE_FORMATTER" "Ljava/util/function/BiFunction;" (fun q => B ≤ q) U U.heap
theorem sh_Env.moved {B : Nat} {s U : State} (hW : s.WarmedH U.vm) (hh : ∀ q : Nat, q < s.heap.size → ¬ B ≤ q → U.heap[q]? = s.heap[q]?) (h : sh_Env B s) : sh_Env B U := by
  obtain ⟨h1, h2, h3, ⟨aK, aV, h4, h5⟩, h6, h7⟩ := h
  exact ⟨fun q hq => va_Nw.warmM hW (h1 q hq), h2.moved hW.alike, fun a => over_moved hW.alike (h3 a), ⟨aK, aV, h4.warm hW, (h5.moved hW.alike).kept hh⟩, (h6.moved hW.alike).kept hh, (h7.moved hW.alike).kept hh⟩
theorem sh_Env.call {B : Nat} {U : State} {g : JFrame} {mk : MethodId} {a : Array Value} (h : sh_Env B U) : sh_Env B (U.calling g mk a) := sh_Env.moved (s := U) (U := U.calling g mk a) (State.WarmedH.refl U) (fun _ _ _ => rfl) h
/-- a method: its name, bytes, locals, answer -/
abbrev sh_M : Type := MethodName × ByteArray × Nat × Option FieldType
def sh_rm (d mc ms : Nat) : Room := { frames := d, cells := mc, slots := ms, locals := 100 * d }
def sh_Qc (B : Nat) (D : va_G) (ca : Nat → ClassId) (Q : Option Value → sh_Mem → Prop) : Array Value → State → Outcome → State → Prop := fun _ st o t => (∃ (v : Option Value) (μ' : sh_Mem), o = .returned (v.map (sh_cv B)) ∧ Q v μ' ∧ sh_Rep B D ca μ' t.heap) ∧ va_F (fun q => B ≤ q) st t
/-- what holds all through a method's walk -/
def sh_Cx (B : Nat) (D : va_G) (ca : Nat → ClassId) (M : sh_M) (p : Program) (s : State) (m : MethodId) (args : Array Value) (meth : Method) (c : Code) : Prop :=
  p.tables.exec = Jvm.exec ∧ c.code = M.2.1 ∧ meth.sig.returnType = M.2.2.2 ∧ c.maxLocals = M.2.2.1 ∧ s.vm.findClass M.1.cls = some m.cls ∧ (∀ w ∈ sh_tb, w.before args s = true) ∧ meth.locks = false ∧ meth.name = M.1.name ∧ va_K D sh_cl (sh_tys ca) s ∧ B ≤ s.heap.size ∧ sh_Env B s
def sh_lv (B : Nat) (lv : List (Nat × Value)) : List (Nat × Value) := lv.map fun q => (q.1, sh_cv B q.2)
/-- THE JUDGEMENT: at pc, with these locals, this stack, this memory, the method comes to its end with Q; cells, slots: how many it has made so far -/
def sh_V (l : Launch) (B : Nat) (D : va_G) (ca : Nat → ClassId) (d mc ms : Nat) (M : sh_M) (pc : Nat) (lv : List (Nat × Value)) (st : List Value) (μ : sh_Mem) (cells slots : Nat) (Q : Option Value → sh_Mem → Prop) : Prop :=
  ∀ (p : Program) (e : Env) (s : State) (m : MethodId) (args : Array Value) (below : List Frame) (meth : Method) (c : Code) (H : Heap) (locs : List Loc) (ls : Array Slot),
    sh_Cx B D ca M p s m args meth c → sh_Rep B D ca μ H → va_S (fun q => B ≤ q) s.heap H locs → lv_has ls M.2.2.1 (sh_lv B lv) →
    W p l e (sh_rm d mc ms) s m args below meth c H locs cells slots (MQ below (sh_Qc B D ca Q) args s mc ms (fun q => B ≤ q)) (F0 m pc ls (st.map (sh_cv B)))
/-- a method's contract, at these arguments and this memory -/
def sh_Con (l : Launch) (B : Nat) (D : va_G) (ca : Nat → ClassId) (d mc ms : Nat) (M : sh_M) (as : List Value) (μ : sh_Mem) (Q : Option Value → sh_Mem → Prop) : Prop :=
  sh_V l B D ca d mc ms M 0 (lv_args 0 as) [] μ 0 0 Q
def sh_lk : List (Nat × Value) → Nat → Option Value
  | [], _ => none
  | q :: l, i => bif Nat.beq q.1 i then some q.2 else sh_lk l i
theorem sh_lk_mem {i : Nat} {v : Value} : ∀ {lv : List (Nat × Value)}, sh_lk lv i = some v → (i, v) ∈ lv
  | [], h => by cases h
  | q :: l, h => by
    unfold sh_lk at h
    cases hb : Nat.beq q.1 i with
    | true =>
      rw [hb] at h
      have h1 : q.1 = i := Nat.eq_of_beq_eq_true hb
      have h2 : q.2 = v := Option.some.inj h
      rw [← h1, ← h2]
      exact List.mem_cons_self
    | false =>
      rw [hb] at h
      exact List.mem_cons_of_mem _ (sh_lk_mem h)
theorem sh_has {B nL i : Nat} {lv : List (Nat × Value)} {ls : Array Slot} {v : Value} (h : lv_has ls nL (sh_lv B lv)) (hk : sh_lk lv i = some v) : ls[i]? = some (.val (sh_cv B v)) :=
  h.2.2 (i, sh_cv B v) (List.mem_map.mpr ⟨(i, v), sh_lk_mem hk, rfl⟩)
/-- the locals behind a store of one word, of two -/
def sh_s1 (lv : List (Nat × Value)) (i : Nat) (v : Value) : List (Nat × Value) := (i, v) :: lv.filter (fun q => !(q.1 == i) && !(q.1 + 1 == i && q.2.category == 2))
def sh_s2 (lv : List (Nat × Value)) (i : Nat) (v : Value) : List (Nat × Value) := (i, v) :: lv.filter (fun q => !(q.1 == i) && (!(q.1 == i + 1) && !(q.1 + 1 == i && q.2.category == 2)))
theorem sh_s1_cv (B : Nat) (lv : List (Nat × Value)) (i : Nat) (v : Value) : (i, sh_cv B v) :: (sh_lv B lv).filter (fun q => !(q.1 == i) && !(q.1 + 1 == i && q.2.category == 2)) = sh_lv B (sh_s1 lv i v) := by
  unfold sh_lv sh_s1
  rw [List.map_cons, List.filter_map]
  congr 3
  funext q
  show (!(q.1 == i) && !(q.1 + 1 == i && (sh_cv B q.2).category == 2)) = _
  rw [sh_cv_cat]
theorem sh_s2_cv (B : Nat) (lv : List (Nat × Value)) (i : Nat) (v : Value) : (i, sh_cv B v) :: (sh_lv B lv).filter (fun q => !(q.1 == i) && (!(q.1 == i + 1) && !(q.1 + 1 == i && q.2.category == 2))) = sh_lv B (sh_s2 lv i v) := by
  unfold sh_lv sh_s2
  rw [List.map_cons, List.filter_map]
  congr 3
  funext q
  show (!(q.1 == i) && (!(q.1 == i + 1) && !(q.1 + 1 == i && (sh_cv B q.2).category == 2))) = _
  rw [sh_cv_cat]
theorem sh_args_cv (B : Nat) : ∀ (as : List Value) (i : Nat), lv_args i (as.map (sh_cv B)) = sh_lv B (lv_args i as)
  | [], _ => rfl
  | a :: as, i => by
    show (i, sh_cv B a) :: lv_args (if (sh_cv B a).category = 2 then i + 2 else i + 1) (as.map (sh_cv B)) = _
    rw [sh_cv_cat, sh_args_cv B as]
    rfl
theorem sh_sl_len (B : Nat) : ∀ as : List Value, (lg_sl (as.map (sh_cv B))).length = (lg_sl as).length
  | [] => rfl
  | a :: as => by
    unfold lg_sl
    rw [List.map_cons, List.flatMap_cons, List.flatMap_cons, List.length_append, List.length_append, sh_cv_cat]
    have := sh_sl_len B as
    unfold lg_sl at this
    rw [this]
    congr 1
    split <;> rfl
def sh_tw (M : sh_M) : List Cond := .code M.1 M.2.1 M.2.2.1 M.2.2.2 :: sh_tb
/-- what the tables say of a method -/
def sh_MT (M : sh_M) : Prop := Cond.code M.1 M.2.1 M.2.2.1 M.2.2.2 ∈ sh_tb ∧ Cond.initialized M.1.cls ∈ sh_tb ∧ plainFor M.1 = true ∧ M.1.cls ≠ "java/lang/invoke/MethodHandle" ∧ M.1.cls ≠ "java/lang/invoke/VarHandle"
theorem sh_goodM {M : sh_M} (h : sh_MT M) : GoodIn sh_tb (sh_tw M) := fun w hw => (List.mem_cons.mp hw).elim (fun e => by rw [e]; exact sh_good _ h.1) (fun e => sh_good w e)
/-- a contract as the kit has it -/
theorem sh_met {l : Launch} {B : Nat} {D : va_G} {ca : Nat → ClassId} {d mc ms : Nat} {M : sh_M} {as : List Value} {μ : sh_Mem} {Q : Option Value → sh_Mem → Prop} (hM : sh_MT M) (hlen : (lg_sl as).length ≤ M.2.2.1) (h : sh_Con l B D ca d mc ms M as μ Q) :
    Met l M.1 (sh_tw M) (sh_rm d mc ms) (va_Pc (as.map (sh_cv B)) (fun U => B ≤ U.heap.size ∧ sh_Rep B D ca μ U.heap ∧ va_K D sh_cl (sh_tys ca) U ∧ sh_Env B U)) (sh_Qc B D ca Q) mc ms (fun q => B ≤ q) := by
  refine va_MetF (cc := M.2.1) (maxL := M.2.2.1) (ret := M.2.2.2) hM.2.2.1 rfl ?_
  intro p e s m args below meth c s₁ X hml hv
  obtain ⟨rfl, hB, hR, hK, hE⟩ := hv
  have hts := atoms_spec (ws := sh_tw M) X.pre
  have hown : s.vm.findClass M.1.cls = some m.cls := findClass_of_methodNamed X.named
  have hnm : meth.name = M.1.name := (name_of_methodNamed X.named X.method).1
  have hl := lv_entry (as.map (sh_cv B)) (n := M.2.2.1) (by rw [sh_sl_len]; exact hlen)
  rw [lg_entry_eq]
  rw [sh_args_cv] at hl
  exact h p e s m _ below meth c s.heap [] _ ⟨X.exec, X.bytes, X.returns, hml, hown, fun w hw => hts w (List.mem_cons_of_mem _ hw), X.notSynchronized, hnm, hK, hB, hE⟩ hR va_S.rf hl
