/-! rows of rows: multianewarray of two lengths, of ints (worked out beside the library's own law of it, which a round does not bear) -/
/-- the outer row when i of the inner ones stand -/
def mq_f (h : Nat) : Nat → Nat → Value
  | 0 => fun _ => .null
  | i + 1 => updV (mq_f h i) i (.ref (h + 1 + i))
theorem mq_f_at (h : Nat) : ∀ i j, mq_f h i j = if j < i then .ref (h + 1 + j) else .null
  | 0, j => by
    rw [if_neg (Nat.not_lt_zero j)]
    rfl
  | i + 1, j => by
    show updV (mq_f h i) i (.ref (h + 1 + i)) j = _
    unfold updV
    by_cases e : j = i
    · rw [if_pos e, if_pos (by omega), e]
    · rw [if_neg e, mq_f_at h i j]
      by_cases c : j < i
      · rw [if_pos c, if_pos (by omega)]
      · rw [if_neg c, if_neg (by omega)]
/-- the state when i of the inner rows stand -/
def mq_s (cA cI : ClassId) (N M : Nat) (s : State) : Nat → State
  | 0 => s.pushCell (arrV cA N (mq_f s.heap.size 0))
  | i + 1 => ((mq_s cA cI N M s i).pushCell (arrV cI M (fun _ => .int 0))).setCell s.heap.size (arrV cA N (mq_f s.heap.size (i + 1)))
theorem mq_is (cA cI : ClassId) (N M : Nat) (s : State) : ∀ i, (mq_s cA cI N M s i).heap.size = s.heap.size + 1 + i ∧ (mq_s cA cI N M s i).heap[s.heap.size]? = some (arrV cA N (mq_f s.heap.size i)) ∧ (mq_s cA cI N M s i).vm = s.vm ∧ (mq_s cA cI N M s i).slotsUsed = s.slotsUsed + N + i * M ∧
    (∀ a, a < s.heap.size → (mq_s cA cI N M s i).heap[a]? = s.heap[a]?) ∧ ∀ j, j < i → (mq_s cA cI N M s i).heap[s.heap.size + 1 + j]? = some (arrV cI M (fun _ => .int 0))
  | 0 => by
    refine ⟨by simp [mq_s], by simp [mq_s], rfl, by simp [mq_s, arrV_size], fun a ha => State.heap_pushCell_of_lt _ _ ha, fun j hj => absurd hj (Nat.not_lt_zero j)⟩
  | i + 1 => by
    obtain ⟨h1, h2, h3, h4, h5, h6⟩ := mq_is cA cI N M s i
    have hlt : s.heap.size < (mq_s cA cI N M s i).heap.size := by rw [h1]; omega
    have hb : ((mq_s cA cI N M s i).pushCell (arrV cI M (fun _ => .int 0))).heap[s.heap.size]? = some (arrV cA N (mq_f s.heap.size i)) := by rw [State.heap_pushCell_of_lt (h := hlt)]; exact h2
    refine ⟨?_, State.heap_setCell_self hb, by simp [mq_s, h3], ?_, fun a ha => ?_, fun j hj => ?_⟩
    · simp [mq_s, State.setCell, h1]; omega
    · simp [mq_s, h4, arrV_size, Nat.succ_mul]; omega
    · show (((mq_s cA cI N M s i).pushCell _).setCell s.heap.size _).heap[a]? = _
      have hl2 : a < (mq_s cA cI N M s i).heap.size := by rw [h1]; omega
      rw [State.heap_setCell_other (Nat.ne_of_gt ha), State.heap_pushCell_of_lt (h := hl2)]
      exact h5 a ha
    · show (((mq_s cA cI N M s i).pushCell _).setCell s.heap.size _).heap[s.heap.size + 1 + j]? = _
      rw [State.heap_setCell_other (show s.heap.size ≠ s.heap.size + 1 + j by omega)]
      by_cases c : j < i
      · have hl2 : s.heap.size + 1 + j < (mq_s cA cI N M s i).heap.size := by rw [h1]; omega
        rw [State.heap_pushCell_of_lt (h := hl2)]
        exact h6 j c
      · have e : j = i := by omega
        subst e
        rw [← h1]
        exact State.heap_pushCell_size _ _
theorem mq_top (cA cI : ClassId) (N M : Nat) (s : State) (f : JFrame) : ∀ i, mq_s cA cI N M (s.setTop f) i = (mq_s cA cI N M s i).setTop f
  | 0 => rfl
  | i + 1 => by simp only [mq_s, mq_top cA cI N M s f i, State.heap_setTop, State.pushCell_setTop, State.setCell_setTop]
section MQ
variable {Ec : CtlPost} {e : Env} {d : Bool} {acts : List Action} {s : State}
/-- one row, of any one value -/
theorem mq_row {c comp : ClassId} {k : Class} {ty : FieldType} {n : Nat} {x : Value} (hk : s.vm.classes[c]? = some k) (hkind : k.kind = .array comp ty) (hl : ¬ n > e.platform.arrayLengthLimit) (hb : ¬ n * componentBytes ty > e.platform.maxHeapBytes) (hf : fits ty x = true)
    (h1 : s.heap.size < e.platform.maxCells) (h2 : s.slotsUsed + n ≤ e.platform.maxSlots) {Q : Addr → Pre} (hq : ∀ acts', Q s.heap.size d acts' (s.pushCell (arrV c n fun _ => x))) : wp (Jvm.newArray c n x) Q Ec e d acts s := by
  have ht : ∀ i v, (Array.replicate n x)[i]? = some v → s.fitsSlot c .none i v = true := by
    intro i v hv
    rw [Array.getElem?_replicate] at hv
    by_cases ci : i < n
    · rw [if_pos ci] at hv
      cases hv
      simp [State.fitsSlot, State.slotType?, hk, hkind, hf]
    · rw [if_neg ci] at hv
      cases hv
  unfold Jvm.newArray Jvm.arrayFits
  simp only [wp_bind', W.ask, W.ite, hl, if_false, wp_pure', W.theClass, hk, hkind, hb, W.stop, W.alloc, Option.some.injEq, exists_eq_left', Array.size_replicate]
  rw [if_neg (by omega), arrV_new]
  exact ⟨h1, h2, ht, hq _⟩
/-- the machine's own making of n rows of m ints -/
theorem mq_make {c comp cc : ClassId} {k kc : Class} {n m : Int32} (hk : s.vm.classes[c]? = some k) (hkind : k.kind = .array comp (.array .int)) (hkc : s.vm.classes[comp]? = some kc) (hkindc : kc.kind = .array cc .int) (hn : ¬ n < 0) (hm : ¬ m < 0)
    (hl1 : ¬ n.toNatClampNeg > e.platform.arrayLengthLimit) (hh1 : ¬ n.toNatClampNeg * 4 > e.platform.maxHeapBytes) (hl2 : ¬ m.toNatClampNeg > e.platform.arrayLengthLimit) (hh2 : ¬ m.toNatClampNeg * 4 > e.platform.maxHeapBytes)
    (hc : s.heap.size + 1 + n.toNatClampNeg ≤ e.platform.maxCells) (hs : s.slotsUsed + n.toNatClampNeg + n.toNatClampNeg * m.toNatClampNeg ≤ e.platform.maxSlots) {Q : Addr → Pre}
    (hq : ∀ d' acts', Q s.heap.size d' acts' (mq_s c comp n.toNatClampNeg m.toNatClampNeg s n.toNatClampNeg)) : wp (multianewarray.make c [n, m]) Q Ec e d acts s := by
  have hfind : ([m].find? (· < 0)) = none := by simp [hm]
  have hpos := Nat.zero_le (n.toNatClampNeg * m.toNatClampNeg)
  rw [multianewarray.make]
  simp only [wp_bind', W.ite, hn, if_false, wp_pure', W.theClass, hk, hkind, Option.some.injEq, exists_eq_left']
  refine mq_row hk hkind hl1 hh1 rfl (by omega) (by omega) (fun acts1 => ?_)
  simp only [hfind]
  rw [ite_self, wp_bind', Std.Legacy.Range.forIn_eq_forIn_range']
  have hsz : ([:n.toNatClampNeg] : Std.Legacy.Range).size = n.toNatClampNeg := by simp [Std.Legacy.Range.size]
  rw [hsz]
  show wp (forIn (List.range' 0 n.toNatClampNeg 1) PUnit.unit _) _ Ec e d _ _
  refine wp_forIn_inv (fun rest s' => ∃ i, i + rest.length = n.toNatClampNeg ∧ rest = List.range' i rest.length ∧ s' = mq_s c comp n.toNatClampNeg m.toNatClampNeg s i) _ _ ⟨0, by simp, by simp, rfl⟩ ?_ ?_
  · intro x rest s' d' acts' Q' hI hnext
    obtain ⟨i, hi, hl, rfl⟩ := hI
    rw [List.length_cons] at hi hl
    rw [List.range'_succ] at hl
    obtain ⟨rfl, hrest⟩ := List.cons.inj hl
    obtain ⟨f1, f2, f3, f4, f5, f6⟩ := mq_is c comp n.toNatClampNeg m.toNatClampNeg s x
    have hmul : x * m.toNatClampNeg + m.toNatClampNeg ≤ n.toNatClampNeg * m.toNatClampNeg := by
      have := Nat.mul_le_mul_right m.toNatClampNeg (show x + 1 ≤ n.toNatClampNeg by omega)
      rw [Nat.succ_mul] at this
      exact this
    have hlt0 : s.heap.size < (mq_s c comp n.toNatClampNeg m.toNatClampNeg s x).heap.size := by rw [f1]; omega
    simp only [wp_bind']
    rw [multianewarray.make]
    simp only [wp_bind', W.ite, hm, if_false, wp_pure', W.theClass, f3, hkc, hkindc, Option.some.injEq, exists_eq_left']
    refine mq_row (by rw [f3]; exact hkc) hkindc hl2 hh2 rfl (by rw [f1]; omega) (by rw [f4]; omega) (fun acts2 => ?_)
    simp only [wp_bind', W.writeLoc, wp_pure']
    refine ⟨arrV c n.toNatClampNeg (mq_f s.heap.size x), by rw [State.heap_pushCell_of_lt (h := hlt0)]; exact f2, by simp [arrV], by rw [arrV_size]; omega, ?_, hnext _ _ _ ⟨x + 1, by omega, hrest, ?_⟩⟩
    · simp [State.fitsSlot, State.slotType?, arrV, f3, hk, hkind, fits]
    · rw [f1, arrV_store]
      rfl
  · intro s' d' acts' hI
    obtain ⟨i, hi, -, rfl⟩ := hI
    rw [List.length_nil] at hi
    simp only [wp_pure']
    have e : i = n.toNatClampNeg := by omega
    rw [e]
    exact hq _ _
end MQ
/-- the class of rows of rows of ints is there -/
def am_AA (U : State) : Prop := ∃ (comp c : ClassId) (k : Class), U.vm.findClass (FieldType.array .int).toString = some comp ∧ U.vm.classes[c]? = some k ∧ k.kind = .array comp (.array .int) ∧ U.vm.findClass ("[" ++ (FieldType.array .int).toString) = some c
theorem am_AA.moved {u U : State} (hvm : u.vm.Alike U.vm) (h : am_AA u) : am_AA U := by
  obtain ⟨comp, c, k, h1, h2, h3, h4⟩ := h
  obtain ⟨k', hk', he⟩ := hvm.2.2 _ _ h2
  exact ⟨comp, c, k', by rw [hvm.findClass]; exact h1, hk', by rw [he]; exact h3, by rw [hvm.findClass]; exact h4⟩
section MQW
variable {p : Program} {l : Launch} {e : Env} {R : Room} {s : State} {m : MethodId} {args : Array Value} {below : List Frame} {meth : Method} {c : Code} {T : State} {H : Heap} {locs : List Loc} {cells slots : Nat} {Q : State → Prop}
theorem mq_stand (X : Stand p l e R s m args below meth c T locs cells slots) (cA cI : ClassId) (N M : Nat) : ∀ i, Stand p l e R s m args below meth c (mq_s cA cI N M T i) (locs ++ (List.range i).map fun j => ⟨T.heap.size, j⟩) (cells + 1 + i) (slots + N + i * M)
  | 0 => by
    have h := X.pushed (arrV cA N (mq_f T.heap.size 0))
    rw [arrV_size] at h
    simpa [mq_s] using h
  | i + 1 => by
    have Xi := mq_stand X cA cI N M i
    obtain ⟨f1, f2, f3, f4, f5, f6⟩ := mq_is cA cI N M T i
    have hlt0 : T.heap.size < (mq_s cA cI N M T i).heap.size := by rw [f1]; omega
    have hcell : ((mq_s cA cI N M T i).pushCell (arrV cI M (fun _ => .int 0))).heap[T.heap.size]? = some (arrV cA N (mq_f T.heap.size i)) := by rw [State.heap_pushCell_of_lt (h := hlt0)]; exact f2
    have h := (Xi.pushed (arrV cI M (fun _ => .int 0))).stored hcell i (.ref (T.heap.size + 1 + i))
    rw [arrV_size, arrV_store] at h
    have e2 : (locs ++ (List.range (i + 1)).map fun j => (⟨T.heap.size, j⟩ : Loc)) = (locs ++ (List.range i).map fun j => (⟨T.heap.size, j⟩ : Loc)) ++ [⟨T.heap.size, i⟩] := by simp [List.range_succ, List.append_assoc]
    have e3 : slots + N + (i + 1) * M = slots + N + i * M + M := by rw [Nat.succ_mul]; omega
    rw [e2, e3]
    exact h
theorem mq_W {cc : ByteArray} (hexec : p.tables.exec = Jvm.exec) (hb : c.code = cc) {own : String} {index : Nat} (hown : s.vm.findClass own = some m.cls) (hclink : (Cond.classLink own index ("[" ++ (FieldType.array .int).toString)).before args s = true) (hover : am_AA s) (harr : (Cond.arrayClass .int).before args s = true)
    {g : JFrame} (hg : g.method = m) (hdg : decode cc g.pc = .ok (.multianewarray index 2, 4)) {n k : Int32} {rest : List Value} (hstack : g.stack = .int k :: .int n :: rest) (hn : ¬ n < 0) (hk : ¬ k < 0) (hb1 : n.toNatClampNeg ≤ 100000) (hb2 : k.toNatClampNeg ≤ 100000)
    (hcells : cells + (1 + n.toNatClampNeg) ≤ R.cells) (hslots : slots + (n.toNatClampNeg + n.toNatClampNeg * k.toNatClampNeg) ≤ R.slots)
    (kk : ∀ (cA cI : ClassId) (H1 : Heap), s.vm.findClass ("[" ++ (FieldType.array .int).toString) = some cA → s.vm.findClass (FieldType.array .int).toString = some cI → H1.size = H.size + 1 + n.toNatClampNeg → (∀ a, a < H.size → H1[a]? = H[a]?) →
      H1[H.size]? = some (arrV cA n.toNatClampNeg (mq_f H.size n.toNatClampNeg)) → (∀ j, j < n.toNatClampNeg → H1[H.size + 1 + j]? = some (arrV cI k.toNatClampNeg (fun _ => .int 0))) →
      W p l e R s m args below meth c H1 locs (cells + 1 + n.toNatClampNeg) (slots + n.toNatClampNeg + n.toNatClampNeg * k.toNatClampNeg) Q { g with pc := g.pc + 4, stack := .ref H.size :: rest }) : W p l e R s m args below meth c H locs cells slots Q g := by
  intro T hT X
  subst hT
  subst hb
  subst hg
  have hpl : e.platform.magicAccessors = ({} : Platform).magicAccessors := by rw [X.admits.platform]
  obtain ⟨comp, cA, kA, hcomp, hkA, hkindA, hnameA⟩ := hover
  obtain ⟨comp', kC, cc, hcomp', hkC, hkindC⟩ := Cond.arrayClass_spec harr
  have ecomp : comp' = comp := Option.some.inj (hcomp'.symm.trans hcomp)
  subst ecomp
  obtain ⟨c0, hfc0, hcl⟩ := Cond.classLink_spec hown hclink e.platform hpl
  cases hnameA.symm.trans hfc0
  obtain ⟨hg₁, hwarm₁, hready₁⟩ := State.classEntry (e := e) X.warmed hcl
  generalize T.vm.noted g.method.cls index (.cls cA) = vm₁ at hg₁ hwarm₁ hready₁
  have hal : s.vm.Alike vm₁ := hwarm₁.alike
  obtain ⟨kA₁, hkA₁, heA⟩ := hal.2.2 _ _ hkA
  obtain ⟨kC₁, hkC₁, heC⟩ := hal.2.2 _ _ hkC
  have hkindA₁ : kA₁.kind = .array comp' (.array .int) := by rw [heA]; exact hkindA
  have hkindC₁ : kC₁.kind = .array cc .int := by rw [heC]; exact hkindC
  have X₁ := X.noted hwarm₁
  obtain ⟨hr1, hr2⟩ := X.roomAbove hcells hslots
  have XF := mq_stand X₁ cA comp' n.toNatClampNeg k.toNatClampNeg n.toNatClampNeg
  obtain ⟨f1, f2, f3, f4, f5, f6⟩ := mq_is cA comp' n.toNatClampNeg k.toNatClampNeg (T.setVm vm₁) n.toNatClampNeg
  have XD := XF.dropFresh (fun x hx => by
    obtain ⟨j, -, rfl⟩ := List.mem_map.mp hx
    exact X.heapGrown)
  obtain ⟨t, a1, b1⟩ := kk cA comp' _ hnameA hcomp f1 f5 f2 f6 _ rfl XD
  refine ⟨t, ?_, b1⟩
  have hl1 : ¬ n.toNatClampNeg > e.platform.arrayLengthLimit := by rw [Launch.admits_arrayLengthLimit X.admits]; omega
  have hh1 : ¬ n.toNatClampNeg * 4 > e.platform.maxHeapBytes := by rw [Launch.admits_maxHeapBytes X.admits]; omega
  have hl2 : ¬ k.toNatClampNeg > e.platform.arrayLengthLimit := by rw [Launch.admits_arrayLengthLimit X.admits]; omega
  have hh2 : ¬ k.toNatClampNeg * 4 > e.platform.maxHeapBytes := by rw [Launch.admits_maxHeapBytes X.admits]; omega
  jvm_step X.here [hexec, hdg]
  simp only [multianewarray.sem, wp_bind', W.resolveClassAt_links (State.method?_setTop g X.here.top) hg₁]
  rw [W.popN, if_neg (by decide)]
  refine ⟨g, State.topJava?_setTop' (s := T.setVm vm₁) g X.here.top, [.int n, .int k], rest, rfl, hstack, ?_⟩
  simp only [List.mapM_cons, List.mapM_nil, wp_bind', wp_pure']
  refine mq_make (k := kA₁) (kc := kC₁) (comp := comp') (cc := cc) hkA₁ hkindA₁ hkC₁ hkindC₁ hn hk hl1 hh1 hl2 hh2 (by show T.heap.size + 1 + _ ≤ _; omega) (by show T.slotsUsed + _ + _ ≤ _; omega) (fun d' acts' => ?_)
  have eS : ((T.setTop g).setVm vm₁).setTop { g with stack := rest } = (T.setVm vm₁).setTop { g with stack := rest } := by
    show ((T.setVm vm₁).setTop g).setTop _ = _
    rw [State.setTop_setTop]
  rw [eS, mq_top]
  simp only [wp_bind', W.mark, W.pushRef, State.topJava?_setTop' _ XF.here.top, Option.some.injEq, exists_eq_left', State.setTop_setTop, State.heap_setTop]
  intro acts
  simp [jvm, XF.here.top]
  exact a1
end MQW
