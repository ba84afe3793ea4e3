/-! THE MACHINE IN PLAIN NUMBERS. A world: int cells, long cells, references, shapes. am_S: 'from here the method ends so'. -/
/-- the words that a callee may ask for -/
def am_tg : List Cond := lw_tbl.filter goodWord
theorem am_tg_in {w : Cond} (h : w ∈ lw_tbl) (g : goodWord w = true) : w ∈ am_tg := List.mem_filter.mpr ⟨h, g⟩
theorem am_tg_lw {w : Cond} (h : w ∈ am_tg) : w ∈ lw_tbl := (List.mem_filter.mp h).1
theorem am_tg_good {w : Cond} (h : w ∈ am_tg) : goodWord w = true := (List.mem_filter.mp h).2
/-- the class's and the reference's classes: number, name, fields, how many -/
abbrev am_cl : List vw_C := [(RX0, TX0, 6), (RX1, TX1, 14), (RX2, TX2, 2), (RX3, TX3, 8), (RX4, TX4, 10), (RX5, TX5, 3), (RX6, TX6, 6), (RX7, TX7, 2), (RX8, TX8, 8), (RX9, TX9, 3), (RX10, TX10, 3), (RX11, TX11, 14), (RX12, TX12, 57)]
/-- references; shapes (16 on: number of the class below 20, or 20 int row, 21 long row, 22 on rows of references; how long); whether cells may still be made -/
abbrev am_G : Type := (Nat → Nat → Option Nat) × List (Nat × Nat) × Bool
/-- ints and longs: cell, place -/
abbrev am_D : Type := (Nat → Nat → Int32) × (Nat → Nat → Int64)
/-- launch; class numbers and slots; array classes; addresses of the special cells; the law's start; the script: its cell, length, ints -/
abbrev am_E : Type := Launch × va_G × (Nat → ClassId) × (Nat → Nat) × State × (Nat × Nat × (Nat → Int32))
abbrev am_s0 (E : am_E) : State := E.2.2.2.2.1
abbrev am_bs (E : am_E) : Nat := (am_s0 E).heap.size
abbrev am_A (E : am_E) : Nat → Prop := fun q => am_bs E ≤ q
def am_ph (E : am_E) (a : Nat) : Nat := if a < 16 then E.2.2.2.1 a else am_bs E + (a - 16)
def am_cv (E : am_E) (v : Value) : Value := match v with
  | .ref a => .ref (am_ph E a)
  | w => w
def am_cl1 (E : am_E) (q : Nat × Value) : Nat × Value := (q.1, am_cv E q.2)
theorem am_cat (E : am_E) (v : Value) : (am_cv E v).category = v.category := by cases v <;> rfl
theorem am_cats (E : am_E) (l : List Value) : ((l.map (am_cv E)).map fun v => v.category).sum = (l.map fun v => v.category).sum := by
  rw [List.map_map]
  congr 1
  exact List.map_congr_left fun v _ => am_cat E v
def am_field (E : am_E) (G : am_G) (D : am_D) (a : Nat) (ty : FieldType) (j : Nat) : Value := if ty.isReference = true then va_rf ((G.1 a j).map (am_ph E)) else .int (D.1 a j)
/-- the types of a class's fields -/
def am_ty (c : Nat) : Nat → FieldType := [tyX0, tyX1, tyX2, tyX3, tyX4, tyX5, tyX6, tyX7, tyX8, tyX9, tyX10, tyX11, tyX12].getD c tyX0
def am_fields (E : am_E) (G : am_G) (D : am_D) (a c n : Nat) : List Value := (List.range n).map (fun j => am_field E G D a (am_ty c j) j)
def am_arr (E : am_E) (G : am_G) (D : am_D) (a k : Nat) : (Nat → Int32) ⊕ (Nat → Int64) ⊕ (Nat → UInt32) ⊕ (Nat → UInt64) ⊕ (Nat → Option Nat) :=
  if k = 0 then .inl (D.1 a) else if k = 1 then .inr (.inl (D.2 a)) else .inr (.inr (.inr (.inr (fun j => (G.1 a j).map (am_ph E)))))
def am_cell (E : am_E) (G : am_G) (D : am_D) (a : Nat) (sh : Nat × Nat) : va_E :=
  if sh.1 < 20 then .inr (sh.1, am_fields E G D a sh.1 sh.2) else .inl (E.2.2.1 (sh.1 - 20), sh.2, am_arr E G D a (sh.1 - 20))
/-- the world lies in this heap; what was there before the law is as it was -/
def am_WH (E : am_E) (G : am_G) (D : am_D) (H : Heap) : Prop :=
  (∀ (i : Nat) (sh : Nat × Nat), G.2.1[i]? = some sh → va_at E.2.1 am_cl (am_bs E + i, am_cell E G D (16 + i) sh) H) ∧ (∀ q, q < am_bs E → H[q]? = (am_s0 E).heap[q]?) ∧ am_bs E ≤ H.size ∧ (G.2.2 = true → H.size = am_bs E + G.2.1.length)
/-- a method: name, code, locals, what it returns, handlers -/
abbrev am_M : Type := MethodName × ByteArray × Nat × Option FieldType × List (Nat × Nat × Nat × Nat)
/-- how a method ends: with a value or none, or with an exception of that class -/
abbrev am_O : Type := Option Value ⊕ String
def am_hw (M : am_M) : Cond := if M.2.2.2.2 = [] then .code M.1 M.2.1 M.2.2.1 M.2.2.2.1 else .codeWith M.1 M.2.1 M.2.2.1 M.2.2.2.1 M.2.2.2.2
def am_ws (M : am_M) : List Cond := am_hw M :: am_tg
def am_R (d mc ms : Nat) : Room := { frames := 16 + d, cells := mc, slots := ms, locals := 500 + 40 * d }
def am_Qc (E : am_E) (o : am_O) (G : am_G) (D : am_D) : Array Value → State → Outcome → State → Prop := fun _ st oc t => (∃ v, o = .inl v ∧ oc = .returned (v.map (am_cv E)) ∧ am_WH E G D t.heap) ∧ va_F (am_A E) st t
def am_XC (E : am_E) (o : am_O) (G : am_G) (D : am_D) : String → State → State → Prop := fun nm st t => o = .inr nm ∧ am_WH E G D t.heap ∧ va_F (am_A E) st t
/-- what a method's contract is: with these arguments, from this world, it ends so and leaves that world -/
def am_C (E : am_E) (M : am_M) (d mc ms : Nat) (As : List Value) (G : am_G) (D : am_D) (o : am_O) (G' : am_G) (D' : am_D) : Prop :=
  vx_Met E.1 M.1 (am_ws M) (am_R d mc ms) (va_Pc (As.map (am_cv E)) (fun U => (am_s0 E).WarmedH U.vm ∧ am_WH E G D U.heap)) (am_Qc E o G' D') (am_XC E o G' D') mc ms (am_A E)
/-- what stands fast in a method's body -/
def am_Fix (E : am_E) (M : am_M) (p : Program) (s : State) (m : MethodId) (args : Array Value) (meth : Method) (c : Code) : Prop :=
  p.tables.exec = Jvm.exec ∧ c.code = M.2.1 ∧ c.maxLocals = M.2.2.1 ∧ meth.sig.returnType = M.2.2.2.1 ∧ s.vm.findClass M.1.cls = some m.cls ∧ (∀ w ∈ am_tg, w.before args s = true) ∧ meth.locks = false ∧ c.exceptionTable.toList = tableOf M.2.2.2.2 ∧ meth.name = M.1.name ∧
    (am_s0 E).WarmedH s.vm ∧ (∀ q, q < am_bs E → s.heap[q]? = (am_s0 E).heap[q]?) ∧ am_bs E ≤ s.heap.size
/-- from here, with these locals, this stack, this world, the method ends so -/
def am_S (E : am_E) (M : am_M) (d mc ms : Nat) (o : am_O) (G' : am_G) (D' : am_D) (cu su pc : Nat) (lv : List (Nat × Value)) (st : List Value) (G : am_G) (D : am_D) : Prop :=
  ∀ (p : Program) (e : Env) (s : State) (m : MethodId) (args : Array Value) (below : List Frame) (meth : Method) (c : Code) (H : Heap) (locs : List Loc) (ls : Array Slot),
    am_Fix E M p s m args meth c → va_S (am_A E) s.heap H locs → lv_has ls M.2.2.1 (lv.map (am_cl1 E)) → am_WH E G D H →
    W p E.1 e (am_R d mc ms) s m args below meth c H locs cu su (vx_MQ below (am_Qc E o G' D') (am_XC E o G' D') args s mc ms (am_A E)) (F0 m pc ls (st.map (am_cv E)))
/-! locals -/
def am_get (lv : List (Nat × Value)) (i : Nat) : Option Value := match lv with
  | [] => none
  | (j, v) :: r => match Nat.beq j i with
    | true => some v
    | false => am_get r i
theorem am_get_mem : ∀ {lv : List (Nat × Value)} {i : Nat} {v : Value}, am_get lv i = some v → (i, v) ∈ lv
  | [], _, _, h => by cases h
  | (j, w) :: r, i, v, h => by
    unfold am_get at h
    cases e : Nat.beq j i with
    | true =>
      rw [e] at h
      cases h
      rw [Nat.eq_of_beq_eq_true e]
      exact List.mem_cons_self
    | false =>
      rw [e] at h
      exact List.mem_cons_of_mem _ (am_get_mem h)
theorem am_at {E : am_E} {ls : Array Slot} {n i : Nat} {lv : List (Nat × Value)} {v : Value} (h : lv_has ls n (lv.map (am_cl1 E))) (hv : am_get lv i = some v) : ls[i]? = some (.val (am_cv E v)) :=
  h.2.2 (i, am_cv E v) (List.mem_map.mpr ⟨(i, v), am_get_mem hv, rfl⟩)
def am_ins : List (Nat × Value) → Nat → Value → List (Nat × Value)
  | [], i, v => [(i, v)]
  | (j, w) :: r, i, v => match Nat.blt i j with
    | true => (i, v) :: (j, w) :: r
    | false => (j, w) :: am_ins r i v
theorem am_ins_mem : ∀ {l : List (Nat × Value)} {i : Nat} {v : Value} {q : Nat × Value}, q ∈ am_ins l i v → q = (i, v) ∨ q ∈ l
  | [], i, v, q, h => Or.inl (List.mem_singleton.mp h)
  | (j, w) :: r, i, v, q, h => by
    unfold am_ins at h
    cases e : Nat.blt i j with
    | true =>
      rw [e] at h
      rcases List.mem_cons.mp h with h | h
      · exact Or.inl h
      · exact Or.inr h
    | false =>
      rw [e] at h
      rcases List.mem_cons.mp h with h | h
      · exact Or.inr (by rw [h]; exact List.mem_cons_self)
      · rcases am_ins_mem h with h | h
        · exact Or.inl h
        · exact Or.inr (List.mem_cons_of_mem _ h)
/-- a value of two slots -/
def am_two (v : Value) : Bool := match v with
  | .long _ => true
  | .double _ => true
  | _ => false
theorem am_two_eq (v : Value) : am_two v = (v.category == 2) := by cases v <;> rfl
def am_or (a b : Bool) : Bool := match a with
  | true => true
  | false => b
def am_and (a b : Bool) : Bool := match a with
  | true => b
  | false => false
/-- what a store at i takes away -/
def am_d1 (i j : Nat) (w : Value) : Bool := am_or (Nat.beq j i) (am_and (Nat.beq (j + 1) i) (am_two w))
def am_d2 (i j : Nat) (w : Value) : Bool := am_or (Nat.beq j i) (am_or (Nat.beq j (i + 1)) (am_and (Nat.beq (j + 1) i) (am_two w)))
def am_del1 : List (Nat × Value) → Nat → List (Nat × Value)
  | [], _ => []
  | (j, w) :: r, i => match am_d1 i j w with
    | true => am_del1 r i
    | false => (j, w) :: am_del1 r i
def am_del2 : List (Nat × Value) → Nat → List (Nat × Value)
  | [], _ => []
  | (j, w) :: r, i => match am_d2 i j w with
    | true => am_del2 r i
    | false => (j, w) :: am_del2 r i
theorem am_del1_mem : ∀ {l : List (Nat × Value)} {i : Nat} {q : Nat × Value}, q ∈ am_del1 l i → q ∈ l ∧ am_d1 i q.1 q.2 = false
  | [], _, _, h => nomatch h
  | (j, w) :: r, i, q, h => by
    unfold am_del1 at h
    cases e : am_d1 i j w with
    | true =>
      rw [e] at h
      obtain ⟨h1, h2⟩ := am_del1_mem h
      exact ⟨List.mem_cons_of_mem _ h1, h2⟩
    | false =>
      rw [e] at h
      rcases List.mem_cons.mp h with h | h
      · rw [h]
        exact ⟨List.mem_cons_self, e⟩
      · obtain ⟨h1, h2⟩ := am_del1_mem h
        exact ⟨List.mem_cons_of_mem _ h1, h2⟩
theorem am_del2_mem : ∀ {l : List (Nat × Value)} {i : Nat} {q : Nat × Value}, q ∈ am_del2 l i → q ∈ l ∧ am_d2 i q.1 q.2 = false
  | [], _, _, h => nomatch h
  | (j, w) :: r, i, q, h => by
    unfold am_del2 at h
    cases e : am_d2 i j w with
    | true =>
      rw [e] at h
      obtain ⟨h1, h2⟩ := am_del2_mem h
      exact ⟨List.mem_cons_of_mem _ h1, h2⟩
    | false =>
      rw [e] at h
      rcases List.mem_cons.mp h with h | h
      · rw [h]
        exact ⟨List.mem_cons_self, e⟩
      · obtain ⟨h1, h2⟩ := am_del2_mem h
        exact ⟨List.mem_cons_of_mem _ h1, h2⟩
/-- the locals behind a store -/
def am_st1 (lv : List (Nat × Value)) (i : Nat) (v : Value) : List (Nat × Value) := am_ins (am_del1 lv i) i v
def am_st2 (lv : List (Nat × Value)) (i : Nat) (v : Value) : List (Nat × Value) := am_ins (am_del2 lv i) i v
theorem am_beq (a b : Nat) : Nat.beq a b = (a == b) := by
  cases h : Nat.beq a b with
  | true => rw [Nat.eq_of_beq_eq_true h]; simp
  | false => exact (beq_false_of_ne (Nat.ne_of_beq_eq_false h)).symm
theorem am_has {ls : Array Slot} {n : Nat} {l l' : List (Nat × Value)} (h : lv_has ls n l) (hs : ∀ q ∈ l', q ∈ l) : lv_has ls n l' := ⟨h.1, h.2.1, fun q hq => h.2.2 q (hs q hq)⟩
theorem am_has1 {E : am_E} {ls : Array Slot} {n i : Nat} {lv : List (Nat × Value)} {v : Value} (h : lv_has ls n ((i, am_cv E v) :: (lv.map (am_cl1 E)).filter (fun q => !(q.1 == i) && !(q.1 + 1 == i && q.2.category == 2)))) : lv_has ls n ((am_st1 lv i v).map (am_cl1 E)) := by
  refine am_has h fun q hq => ?_
  obtain ⟨r, hr, rfl⟩ := List.mem_map.mp hq
  rcases am_ins_mem hr with rfl | hr
  · exact List.mem_cons_self
  · obtain ⟨h1, h2⟩ := am_del1_mem hr
    refine List.mem_cons_of_mem _ (List.mem_filter.mpr ⟨List.mem_map.mpr ⟨r, h1, rfl⟩, ?_⟩)
    unfold am_d1 at h2
    rw [am_two_eq, am_beq, am_beq] at h2
    simp only [am_cl1, am_cat]
    revert h2
    cases (r.1 == i) <;> cases (r.1 + 1 == i) <;> cases (r.2.category == 2) <;> decide
theorem am_has2 {E : am_E} {ls : Array Slot} {n i : Nat} {lv : List (Nat × Value)} {v : Value} (h : lv_has ls n ((i, am_cv E v) :: (lv.map (am_cl1 E)).filter (fun q => !(q.1 == i) && (!(q.1 == i + 1) && !(q.1 + 1 == i && q.2.category == 2))))) : lv_has ls n ((am_st2 lv i v).map (am_cl1 E)) := by
  refine am_has h fun q hq => ?_
  obtain ⟨r, hr, rfl⟩ := List.mem_map.mp hq
  rcases am_ins_mem hr with rfl | hr
  · exact List.mem_cons_self
  · obtain ⟨h1, h2⟩ := am_del2_mem hr
    refine List.mem_cons_of_mem _ (List.mem_filter.mpr ⟨List.mem_map.mpr ⟨r, h1, rfl⟩, ?_⟩)
    unfold am_d2 at h2
    rw [am_two_eq, am_beq, am_beq, am_beq] at h2
    simp only [am_cl1, am_cat]
    revert h2
    cases (r.1 == i) <;> cases (r.1 == i + 1) <;> cases (r.1 + 1 == i) <;> cases (r.2.category == 2) <;> decide
