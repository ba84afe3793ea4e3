/-! instructions that touch no cell -/
section AMR
variable {E : am_E} {M : am_M} {d mc ms : Nat} {o : am_O} {G' : am_G} {D' : am_D} {cu su pc : Nat} {lv : List (Nat × Value)} {st : List Value} {G : am_G} {D : am_D}

theorem am_iconst {n : Int} {v : Int32} (hd : decode M.2.1 pc = .ok (.iconst n, 1)) (hv : Int32.ofInt n = v) (k : am_S E M d mc ms o G' D' cu su (pc + 1) lv (.int v :: st) G D) : am_S E M d mc ms o G' D' cu su pc lv st G D :=
  fun p e s m args below meth c H locs ls F hS hl hW => lv_iconst F.1 F.2.1 hd hv (k p e s m args below meth c H locs ls F hS hl hW)
theorem am_bipush {n : Int} {v : Int32} (hd : decode M.2.1 pc = .ok (.bipush n, 2)) (hv : (Int8.ofInt n).toInt32 = v) (k : am_S E M d mc ms o G' D' cu su (pc + 2) lv (.int v :: st) G D) : am_S E M d mc ms o G' D' cu su pc lv st G D :=
  fun p e s m args below meth c H locs ls F hS hl hW => lv_bipush F.1 F.2.1 hd hv (k p e s m args below meth c H locs ls F hS hl hW)
theorem am_sipush {n : Int} {v : Int32} (hd : decode M.2.1 pc = .ok (.sipush n, 3)) (hv : (Int16.ofInt n).toInt32 = v) (k : am_S E M d mc ms o G' D' cu su (pc + 3) lv (.int v :: st) G D) : am_S E M d mc ms o G' D' cu su pc lv st G D :=
  fun p e s m args below meth c H locs ls F hS hl hW => lv_sipush F.1 F.2.1 hd hv (k p e s m args below meth c H locs ls F hS hl hW)
theorem am_lconst {n : Fin 2} {v : Int64} (hd : decode M.2.1 pc = .ok (.lconst n, 1)) (hv : Int64.ofNat (n : Nat) = v) (k : am_S E M d mc ms o G' D' cu su (pc + 1) lv (.long v :: st) G D) : am_S E M d mc ms o G' D' cu su pc lv st G D :=
  fun p e s m args below meth c H locs ls F hS hl hW => lv_lconst F.1 F.2.1 hd hv (k p e s m args below meth c H locs ls F hS hl hW)
theorem am_iload_n {k : Fin 4} {i : Nat} {x : Int32} (hd : decode M.2.1 pc = .ok (.iload_n k, 1)) (hi : (k : Nat) = i) (hv : am_get lv i = some (.int x)) (k : am_S E M d mc ms o G' D' cu su (pc + 1) lv (.int x :: st) G D) : am_S E M d mc ms o G' D' cu su pc lv st G D :=
  fun p e s m args below meth c H locs ls F hS hl hW => lv_iload_n F.1 F.2.1 hd hi (am_at hl hv) (k p e s m args below meth c H locs ls F hS hl hW)
theorem am_iload {i : Nat} {x : Int32} (hd : decode M.2.1 pc = .ok (.iload i, 2)) (hv : am_get lv i = some (.int x)) (k : am_S E M d mc ms o G' D' cu su (pc + 2) lv (.int x :: st) G D) : am_S E M d mc ms o G' D' cu su pc lv st G D :=
  fun p e s m args below meth c H locs ls F hS hl hW => lv_iload F.1 F.2.1 hd (am_at hl hv) (k p e s m args below meth c H locs ls F hS hl hW)
theorem am_lload_n {k : Fin 4} {i : Nat} {x : Int64} (hd : decode M.2.1 pc = .ok (.lload_n k, 1)) (hi : (k : Nat) = i) (hv : am_get lv i = some (.long x)) (k : am_S E M d mc ms o G' D' cu su (pc + 1) lv (.long x :: st) G D) : am_S E M d mc ms o G' D' cu su pc lv st G D :=
  fun p e s m args below meth c H locs ls F hS hl hW => lv_lload_n F.1 F.2.1 hd hi (am_at hl hv) (k p e s m args below meth c H locs ls F hS hl hW)
theorem am_lload {i : Nat} {x : Int64} (hd : decode M.2.1 pc = .ok (.lload i, 2)) (hv : am_get lv i = some (.long x)) (k : am_S E M d mc ms o G' D' cu su (pc + 2) lv (.long x :: st) G D) : am_S E M d mc ms o G' D' cu su pc lv st G D :=
  fun p e s m args below meth c H locs ls F hS hl hW => lv_lload F.1 F.2.1 hd (am_at hl hv) (k p e s m args below meth c H locs ls F hS hl hW)
theorem am_aload_n {k : Fin 4} {i : Nat} {x : Nat} (hd : decode M.2.1 pc = .ok (.aload_n k, 1)) (hi : (k : Nat) = i) (hv : am_get lv i = some (.ref x)) (k : am_S E M d mc ms o G' D' cu su (pc + 1) lv (.ref x :: st) G D) : am_S E M d mc ms o G' D' cu su pc lv st G D :=
  fun p e s m args below meth c H locs ls F hS hl hW => lv_aload_n F.1 F.2.1 hd hi (am_at hl hv) (k p e s m args below meth c H locs ls F hS hl hW)
theorem am_aload {i : Nat} {x : Nat} (hd : decode M.2.1 pc = .ok (.aload i, 2)) (hv : am_get lv i = some (.ref x)) (k : am_S E M d mc ms o G' D' cu su (pc + 2) lv (.ref x :: st) G D) : am_S E M d mc ms o G' D' cu su pc lv st G D :=
  fun p e s m args below meth c H locs ls F hS hl hW => lv_aload F.1 F.2.1 hd (am_at hl hv) (k p e s m args below meth c H locs ls F hS hl hW)
theorem am_aload_nN {k : Fin 4} {i : Nat} (hd : decode M.2.1 pc = .ok (.aload_n k, 1)) (hi : (k : Nat) = i) (hv : am_get lv i = some .null) (k : am_S E M d mc ms o G' D' cu su (pc + 1) lv (.null :: st) G D) : am_S E M d mc ms o G' D' cu su pc lv st G D :=
  fun p e s m args below meth c H locs ls F hS hl hW => lv_aload_nN F.1 F.2.1 hd hi (am_at hl hv) (k p e s m args below meth c H locs ls F hS hl hW)
theorem am_aloadN {i : Nat} (hd : decode M.2.1 pc = .ok (.aload i, 2)) (hv : am_get lv i = some .null) (k : am_S E M d mc ms o G' D' cu su (pc + 2) lv (.null :: st) G D) : am_S E M d mc ms o G' D' cu su pc lv st G D :=
  fun p e s m args below meth c H locs ls F hS hl hW => lv_aloadN F.1 F.2.1 hd (am_at hl hv) (k p e s m args below meth c H locs ls F hS hl hW)
theorem am_istore_n {k9 : Fin 4} {i : Nat} {x : Int32} {lv' : List (Nat × Value)} (hd : decode M.2.1 pc = .ok (.istore_n k9, 1)) (hi : (k9 : Nat) = i) (hn : i < M.2.2.1) (hl2 : am_st1 lv i (.int x) = lv') (k : am_S E M d mc ms o G' D' cu su (pc + 1) lv' st G D) : am_S E M d mc ms o G' D' cu su pc lv (.int x :: st) G D := by
  subst hl2
  exact fun p e s m args below meth c H locs ls F hS hl hW => lv_istore_n F.1 F.2.1 hd hi hl hn rfl (fun ls9 hl9 => k p e s m args below meth c H locs ls9 F hS (am_has1 hl9) hW)
theorem am_istore {i : Nat} {x : Int32} {lv' : List (Nat × Value)} (hd : decode M.2.1 pc = .ok (.istore i, 2)) (hn : i < M.2.2.1) (hl2 : am_st1 lv i (.int x) = lv') (k : am_S E M d mc ms o G' D' cu su (pc + 2) lv' st G D) : am_S E M d mc ms o G' D' cu su pc lv (.int x :: st) G D := by
  subst hl2
  exact fun p e s m args below meth c H locs ls F hS hl hW => lv_istore F.1 F.2.1 hd hl hn rfl (fun ls9 hl9 => k p e s m args below meth c H locs ls9 F hS (am_has1 hl9) hW)
theorem am_lstore_n {k9 : Fin 4} {i : Nat} {x : Int64} {lv' : List (Nat × Value)} (hd : decode M.2.1 pc = .ok (.lstore_n k9, 1)) (hi : (k9 : Nat) = i) (hn : i + 1 < M.2.2.1) (hl2 : am_st2 lv i (.long x) = lv') (k : am_S E M d mc ms o G' D' cu su (pc + 1) lv' st G D) : am_S E M d mc ms o G' D' cu su pc lv (.long x :: st) G D := by
  subst hl2
  exact fun p e s m args below meth c H locs ls F hS hl hW => lv_lstore_n F.1 F.2.1 hd hi hl hn rfl (fun ls9 hl9 => k p e s m args below meth c H locs ls9 F hS (am_has2 hl9) hW)
theorem am_lstore {i : Nat} {x : Int64} {lv' : List (Nat × Value)} (hd : decode M.2.1 pc = .ok (.lstore i, 2)) (hn : i + 1 < M.2.2.1) (hl2 : am_st2 lv i (.long x) = lv') (k : am_S E M d mc ms o G' D' cu su (pc + 2) lv' st G D) : am_S E M d mc ms o G' D' cu su pc lv (.long x :: st) G D := by
  subst hl2
  exact fun p e s m args below meth c H locs ls F hS hl hW => lv_lstore F.1 F.2.1 hd hl hn rfl (fun ls9 hl9 => k p e s m args below meth c H locs ls9 F hS (am_has2 hl9) hW)
theorem am_astore_n {k9 : Fin 4} {i : Nat} {x : Nat} {lv' : List (Nat × Value)} (hd : decode M.2.1 pc = .ok (.astore_n k9, 1)) (hi : (k9 : Nat) = i) (hn : i < M.2.2.1) (hl2 : am_st1 lv i (.ref x) = lv') (k : am_S E M d mc ms o G' D' cu su (pc + 1) lv' st G D) : am_S E M d mc ms o G' D' cu su pc lv (.ref x :: st) G D := by
  subst hl2
  exact fun p e s m args below meth c H locs ls F hS hl hW => lv_astore_n F.1 F.2.1 hd hi hl hn rfl (fun ls9 hl9 => k p e s m args below meth c H locs ls9 F hS (am_has1 hl9) hW)
theorem am_astore {i : Nat} {x : Nat} {lv' : List (Nat × Value)} (hd : decode M.2.1 pc = .ok (.astore i, 2)) (hn : i < M.2.2.1) (hl2 : am_st1 lv i (.ref x) = lv') (k : am_S E M d mc ms o G' D' cu su (pc + 2) lv' st G D) : am_S E M d mc ms o G' D' cu su pc lv (.ref x :: st) G D := by
  subst hl2
  exact fun p e s m args below meth c H locs ls F hS hl hW => lv_astore F.1 F.2.1 hd hl hn rfl (fun ls9 hl9 => k p e s m args below meth c H locs ls9 F hS (am_has1 hl9) hW)
theorem am_astore_nN {k9 : Fin 4} {i : Nat} {lv' : List (Nat × Value)} (hd : decode M.2.1 pc = .ok (.astore_n k9, 1)) (hi : (k9 : Nat) = i) (hn : i < M.2.2.1) (hl2 : am_st1 lv i .null = lv') (k : am_S E M d mc ms o G' D' cu su (pc + 1) lv' st G D) : am_S E M d mc ms o G' D' cu su pc lv (.null :: st) G D := by
  subst hl2
  exact fun p e s m args below meth c H locs ls F hS hl hW => lv_astore_nN F.1 F.2.1 hd hi hl hn rfl (fun ls9 hl9 => k p e s m args below meth c H locs ls9 F hS (am_has1 hl9) hW)
theorem am_astoreN {i : Nat} {lv' : List (Nat × Value)} (hd : decode M.2.1 pc = .ok (.astore i, 2)) (hn : i < M.2.2.1) (hl2 : am_st1 lv i .null = lv') (k : am_S E M d mc ms o G' D' cu su (pc + 2) lv' st G D) : am_S E M d mc ms o G' D' cu su pc lv (.null :: st) G D := by
  subst hl2
  exact fun p e s m args below meth c H locs ls F hS hl hW => lv_astoreN F.1 F.2.1 hd hl hn rfl (fun ls9 hl9 => k p e s m args below meth c H locs ls9 F hS (am_has1 hl9) hW)
theorem am_iinc {i : Nat} {n : Int} {x v : Int32} {lv' : List (Nat × Value)} (hd : decode M.2.1 pc = .ok (.iinc i n, 3)) (hx : am_get lv i = some (.int x)) (hv : Int32.ofInt n = v) (hn : i < M.2.2.1) (hl2 : am_st1 lv i (.int (x + v)) = lv') (k : am_S E M d mc ms o G' D' cu su (pc + 3) lv' st G D) : am_S E M d mc ms o G' D' cu su pc lv st G D := by
  subst hl2
  subst hv
  intro p e s m args below meth c H locs ls F hS hl hW
  obtain ⟨k9, hk9⟩ := List.getElem?_of_mem (List.mem_map.mpr ⟨(i, .int x), am_get_mem hx, rfl⟩ : am_cl1 E (i, .int x) ∈ lv.map (am_cl1 E))
  exact lv_iinc F.1 F.2.1 hd hl (k := k9) (x := x) hk9 rfl hn rfl (fun ls9 hl9 => k p e s m args below meth c H locs ls9 F hS (am_has1 (v := .int (x + Int32.ofInt n)) hl9) hW)
theorem am_iadd {x y : Int32} (hd : decode M.2.1 pc = .ok (.iadd, 1))  (k : am_S E M d mc ms o G' D' cu su (pc + 1) lv (.int (x + y) :: st) G D) : am_S E M d mc ms o G' D' cu su pc lv (.int y :: .int x :: st) G D :=
  fun p e s m args below meth c H locs ls F hS hl hW => lv_iadd F.1 F.2.1 hd (k p e s m args below meth c H locs ls F hS hl hW)
theorem am_isub {x y : Int32} (hd : decode M.2.1 pc = .ok (.isub, 1))  (k : am_S E M d mc ms o G' D' cu su (pc + 1) lv (.int (x - y) :: st) G D) : am_S E M d mc ms o G' D' cu su pc lv (.int y :: .int x :: st) G D :=
  fun p e s m args below meth c H locs ls F hS hl hW => lv_isub F.1 F.2.1 hd (k p e s m args below meth c H locs ls F hS hl hW)
theorem am_imul {x y : Int32} (hd : decode M.2.1 pc = .ok (.imul, 1))  (k : am_S E M d mc ms o G' D' cu su (pc + 1) lv (.int (x * y) :: st) G D) : am_S E M d mc ms o G' D' cu su pc lv (.int y :: .int x :: st) G D :=
  fun p e s m args below meth c H locs ls F hS hl hW => lv_imul F.1 F.2.1 hd (k p e s m args below meth c H locs ls F hS hl hW)
theorem am_iand {x y : Int32} (hd : decode M.2.1 pc = .ok (.iand, 1))  (k : am_S E M d mc ms o G' D' cu su (pc + 1) lv (.int (x &&& y) :: st) G D) : am_S E M d mc ms o G' D' cu su pc lv (.int y :: .int x :: st) G D :=
  fun p e s m args below meth c H locs ls F hS hl hW => lv_iand F.1 F.2.1 hd (k p e s m args below meth c H locs ls F hS hl hW)
theorem am_ior {x y : Int32} (hd : decode M.2.1 pc = .ok (.ior, 1))  (k : am_S E M d mc ms o G' D' cu su (pc + 1) lv (.int (x ||| y) :: st) G D) : am_S E M d mc ms o G' D' cu su pc lv (.int y :: .int x :: st) G D :=
  fun p e s m args below meth c H locs ls F hS hl hW => lv_ior F.1 F.2.1 hd (k p e s m args below meth c H locs ls F hS hl hW)
theorem am_ixor {x y : Int32} (hd : decode M.2.1 pc = .ok (.ixor, 1))  (k : am_S E M d mc ms o G' D' cu su (pc + 1) lv (.int (x ^^^ y) :: st) G D) : am_S E M d mc ms o G' D' cu su pc lv (.int y :: .int x :: st) G D :=
  fun p e s m args below meth c H locs ls F hS hl hW => lv_ixor F.1 F.2.1 hd (k p e s m args below meth c H locs ls F hS hl hW)
theorem am_ishl {x y : Int32} (hd : decode M.2.1 pc = .ok (.ishl, 1))  (k : am_S E M d mc ms o G' D' cu su (pc + 1) lv (.int (x <<< (y &&& 31)) :: st) G D) : am_S E M d mc ms o G' D' cu su pc lv (.int y :: .int x :: st) G D :=
  fun p e s m args below meth c H locs ls F hS hl hW => lv_ishl F.1 F.2.1 hd (k p e s m args below meth c H locs ls F hS hl hW)
theorem am_ishr {x y : Int32} (hd : decode M.2.1 pc = .ok (.ishr, 1))  (k : am_S E M d mc ms o G' D' cu su (pc + 1) lv (.int (x >>> (y &&& 31)) :: st) G D) : am_S E M d mc ms o G' D' cu su pc lv (.int y :: .int x :: st) G D :=
  fun p e s m args below meth c H locs ls F hS hl hW => lv_ishr F.1 F.2.1 hd (k p e s m args below meth c H locs ls F hS hl hW)
theorem am_idiv {x y : Int32} (hd : decode M.2.1 pc = .ok (.idiv, 1)) (hne : ¬ y = 0) (k : am_S E M d mc ms o G' D' cu su (pc + 1) lv (.int (x / y) :: st) G D) : am_S E M d mc ms o G' D' cu su pc lv (.int y :: .int x :: st) G D :=
  fun p e s m args below meth c H locs ls F hS hl hW => lv_idiv F.1 F.2.1 hd hne (k p e s m args below meth c H locs ls F hS hl hW)
theorem am_irem {x y : Int32} (hd : decode M.2.1 pc = .ok (.irem, 1)) (hne : ¬ y = 0) (k : am_S E M d mc ms o G' D' cu su (pc + 1) lv (.int (x - x / y * y) :: st) G D) : am_S E M d mc ms o G' D' cu su pc lv (.int y :: .int x :: st) G D :=
  fun p e s m args below meth c H locs ls F hS hl hW => lv_irem F.1 F.2.1 hd hne (k p e s m args below meth c H locs ls F hS hl hW)
theorem am_ineg {x : Int32} (hd : decode M.2.1 pc = .ok (.ineg, 1))  (k : am_S E M d mc ms o G' D' cu su (pc + 1) lv (.int (-x) :: st) G D) : am_S E M d mc ms o G' D' cu su pc lv (.int x :: st) G D :=
  fun p e s m args below meth c H locs ls F hS hl hW => lv_ineg F.1 F.2.1 hd (k p e s m args below meth c H locs ls F hS hl hW)
theorem am_iushr {x y : Int32} (hd : decode M.2.1 pc = .ok (.iushr, 1))  (k : am_S E M d mc ms o G' D' cu su (pc + 1) lv (.int ((x.toUInt32 >>> (y.toUInt32 &&& Int32.toUInt32 31)).toInt32) :: st) G D) : am_S E M d mc ms o G' D' cu su pc lv (.int y :: .int x :: st) G D :=
  fun p e s m args below meth c H locs ls F hS hl hW => lv_iushr F.1 F.2.1 hd rfl (k p e s m args below meth c H locs ls F hS hl hW)
theorem am_ladd {x y : Int64} (hd : decode M.2.1 pc = .ok (.ladd, 1))  (k : am_S E M d mc ms o G' D' cu su (pc + 1) lv (.long (x + y) :: st) G D) : am_S E M d mc ms o G' D' cu su pc lv (.long y :: .long x :: st) G D :=
  fun p e s m args below meth c H locs ls F hS hl hW => lv_ladd F.1 F.2.1 hd (k p e s m args below meth c H locs ls F hS hl hW)
theorem am_lsub {x y : Int64} (hd : decode M.2.1 pc = .ok (.lsub, 1))  (k : am_S E M d mc ms o G' D' cu su (pc + 1) lv (.long (x - y) :: st) G D) : am_S E M d mc ms o G' D' cu su pc lv (.long y :: .long x :: st) G D :=
  fun p e s m args below meth c H locs ls F hS hl hW => lv_lsub F.1 F.2.1 hd (k p e s m args below meth c H locs ls F hS hl hW)
theorem am_lmul {x y : Int64} (hd : decode M.2.1 pc = .ok (.lmul, 1))  (k : am_S E M d mc ms o G' D' cu su (pc + 1) lv (.long (x * y) :: st) G D) : am_S E M d mc ms o G' D' cu su pc lv (.long y :: .long x :: st) G D :=
  fun p e s m args below meth c H locs ls F hS hl hW => lv_lmul F.1 F.2.1 hd (k p e s m args below meth c H locs ls F hS hl hW)
theorem am_lcmp {x y : Int64} (hd : decode M.2.1 pc = .ok (.lcmp, 1))  (k : am_S E M d mc ms o G' D' cu su (pc + 1) lv (.int (lg_cmp x y) :: st) G D) : am_S E M d mc ms o G' D' cu su pc lv (.long y :: .long x :: st) G D :=
  fun p e s m args below meth c H locs ls F hS hl hW => W.lcmp F.1 F.2.1 hd (k p e s m args below meth c H locs ls F hS hl hW)
theorem am_i2l {x : Int32} (hd : decode M.2.1 pc = .ok (.i2l, 1))  (k : am_S E M d mc ms o G' D' cu su (pc + 1) lv (.long x.toInt64 :: st) G D) : am_S E M d mc ms o G' D' cu su pc lv (.int x :: st) G D :=
  fun p e s m args below meth c H locs ls F hS hl hW => lv_i2l F.1 F.2.1 hd rfl (k p e s m args below meth c H locs ls F hS hl hW)
theorem am_l2i {x : Int64} (hd : decode M.2.1 pc = .ok (.l2i, 1))  (k : am_S E M d mc ms o G' D' cu su (pc + 1) lv (.int x.toInt32 :: st) G D) : am_S E M d mc ms o G' D' cu su pc lv (.long x :: st) G D :=
  fun p e s m args below meth c H locs ls F hS hl hW => lv_l2i F.1 F.2.1 hd rfl (k p e s m args below meth c H locs ls F hS hl hW)
theorem am_dup {v : Value} (hd : decode M.2.1 pc = .ok (.dup, 1)) (hv : v.category = 1) (k : am_S E M d mc ms o G' D' cu su (pc + 1) lv (v :: v :: st) G D) : am_S E M d mc ms o G' D' cu su pc lv (v :: st) G D :=
  fun p e s m args below meth c H locs ls F hS hl hW => lv_dup F.1 F.2.1 hd ((am_cat E v).trans hv) (k p e s m args below meth c H locs ls F hS hl hW)
theorem am_pop {v : Value} (hd : decode M.2.1 pc = .ok (.pop, 1)) (hv : v.category = 1) (k : am_S E M d mc ms o G' D' cu su (pc + 1) lv st G D) : am_S E M d mc ms o G' D' cu su pc lv (v :: st) G D :=
  fun p e s m args below meth c H locs ls F hS hl hW => lv_pop F.1 F.2.1 hd ((am_cat E v).trans hv) (k p e s m args below meth c H locs ls F hS hl hW)
theorem am_dup2 {v w : Value} (hd : decode M.2.1 pc = .ok (.dup2, 1)) (hv : v.category = 1) (hw : w.category = 1) (k : am_S E M d mc ms o G' D' cu su (pc + 1) lv (v :: w :: v :: w :: st) G D) : am_S E M d mc ms o G' D' cu su pc lv (v :: w :: st) G D :=
  fun p e s m args below meth c H locs ls F hS hl hW => lv_dup2_11 F.1 F.2.1 hd ((am_cat E v).trans hv) ((am_cat E w).trans hw) (k p e s m args below meth c H locs ls F hS hl hW)
theorem am_dup_x1 {v w : Value} (hd : decode M.2.1 pc = .ok (.dup_x1, 1)) (hv : v.category = 1) (hw : w.category = 1) (k : am_S E M d mc ms o G' D' cu su (pc + 1) lv (v :: w :: v :: st) G D) : am_S E M d mc ms o G' D' cu su pc lv (v :: w :: st) G D :=
  fun p e s m args below meth c H locs ls F hS hl hW => lv_dup_x1 F.1 F.2.1 hd ((am_cat E v).trans hv) ((am_cat E w).trans hw) (k p e s m args below meth c H locs ls F hS hl hW)
theorem am_null  (hd : decode M.2.1 pc = .ok (.aconst_null, 1))  (k : am_S E M d mc ms o G' D' cu su (pc + 1) lv (.null :: st) G D) : am_S E M d mc ms o G' D' cu su pc lv st G D :=
  fun p e s m args below meth c H locs ls F hS hl hW => lv_null F.1 F.2.1 hd (k p e s m args below meth c H locs ls F hS hl hW)
theorem am_ldc {index : Nat} {v : Int32} (hd : decode M.2.1 pc = .ok (.ldc index, 2)) (hk : Cond.constant M.1.cls index v ∈ am_tg) (k : am_S E M d mc ms o G' D' cu su (pc + 2) lv (.int v :: st) G D) : am_S E M d mc ms o G' D' cu su pc lv st G D :=
  fun p e s m args below meth c H locs ls F hS hl hW => lv_ldc F.1 F.2.1 F.2.2.2.2.1 (F.2.2.2.2.2.1 _ hk) hd (k p e s m args below meth c H locs ls F hS hl hW)
theorem am_ldcw {index : Nat} {v : Int32} (hd : decode M.2.1 pc = .ok (.ldc_w index, 3)) (hk : Cond.constant M.1.cls index v ∈ am_tg) (k : am_S E M d mc ms o G' D' cu su (pc + 3) lv (.int v :: st) G D) : am_S E M d mc ms o G' D' cu su pc lv st G D :=
  fun p e s m args below meth c H locs ls F hS hl hW => lv_ldcw F.1 F.2.1 F.2.2.2.2.1 (F.2.2.2.2.2.1 _ hk) hd (k p e s m args below meth c H locs ls F hS hl hW)
theorem am_ldc2 {index : Nat} {v : Int64} (hd : decode M.2.1 pc = .ok (.ldc2_w index, 3)) (hk : Cond.constantLong M.1.cls index v ∈ am_tg) (k : am_S E M d mc ms o G' D' cu su (pc + 3) lv (.long v :: st) G D) : am_S E M d mc ms o G' D' cu su pc lv st G D :=
  fun p e s m args below meth c H locs ls F hS hl hW => lv_ldc2 F.1 F.2.1 F.2.2.2.2.1 (F.2.2.2.2.2.1 _ hk) hd (k p e s m args below meth c H locs ls F hS hl hW)
theorem am_if_eq {x : Int32} {off : Int} {tgt : Nat} (hd : decode M.2.1 pc = .ok (.ifCond .eq off, 3)) (ht : (pc : Int) + off = (tgt : Int)) (kt : x = 0 → am_S E M d mc ms o G' D' cu su tgt lv st G D) (kf : ¬ x = 0 → am_S E M d mc ms o G' D' cu su (pc + 3) lv st G D) : am_S E M d mc ms o G' D' cu su pc lv (.int x :: st) G D :=
  fun p e s m args below meth c H locs ls F hS hl hW => lv_if_eq F.1 F.2.1 hd ht (fun h9 => kt h9 p e s m args below meth c H locs ls F hS hl hW) (fun h9 => kf h9 p e s m args below meth c H locs ls F hS hl hW)
theorem am_icmp_eq {x y : Int32} {off : Int} {tgt : Nat} (hd : decode M.2.1 pc = .ok (.if_icmp .eq off, 3)) (ht : (pc : Int) + off = (tgt : Int)) (kt : x = y → am_S E M d mc ms o G' D' cu su tgt lv st G D) (kf : ¬ x = y → am_S E M d mc ms o G' D' cu su (pc + 3) lv st G D) : am_S E M d mc ms o G' D' cu su pc lv (.int y :: .int x :: st) G D :=
  fun p e s m args below meth c H locs ls F hS hl hW => lv_icmp_eq F.1 F.2.1 hd ht (fun h9 => kt h9 p e s m args below meth c H locs ls F hS hl hW) (fun h9 => kf h9 p e s m args below meth c H locs ls F hS hl hW)
theorem am_if_ne {x : Int32} {off : Int} {tgt : Nat} (hd : decode M.2.1 pc = .ok (.ifCond .ne off, 3)) (ht : (pc : Int) + off = (tgt : Int)) (kt : ¬ x = 0 → am_S E M d mc ms o G' D' cu su tgt lv st G D) (kf : x = 0 → am_S E M d mc ms o G' D' cu su (pc + 3) lv st G D) : am_S E M d mc ms o G' D' cu su pc lv (.int x :: st) G D :=
  fun p e s m args below meth c H locs ls F hS hl hW => lv_if_ne F.1 F.2.1 hd ht (fun h9 => kt h9 p e s m args below meth c H locs ls F hS hl hW) (fun h9 => kf h9 p e s m args below meth c H locs ls F hS hl hW)
theorem am_icmp_ne {x y : Int32} {off : Int} {tgt : Nat} (hd : decode M.2.1 pc = .ok (.if_icmp .ne off, 3)) (ht : (pc : Int) + off = (tgt : Int)) (kt : ¬ x = y → am_S E M d mc ms o G' D' cu su tgt lv st G D) (kf : x = y → am_S E M d mc ms o G' D' cu su (pc + 3) lv st G D) : am_S E M d mc ms o G' D' cu su pc lv (.int y :: .int x :: st) G D :=
  fun p e s m args below meth c H locs ls F hS hl hW => lv_icmp_ne F.1 F.2.1 hd ht (fun h9 => kt h9 p e s m args below meth c H locs ls F hS hl hW) (fun h9 => kf h9 p e s m args below meth c H locs ls F hS hl hW)
theorem am_if_lt {x : Int32} {off : Int} {tgt : Nat} (hd : decode M.2.1 pc = .ok (.ifCond .lt off, 3)) (ht : (pc : Int) + off = (tgt : Int)) (kt : x < 0 → am_S E M d mc ms o G' D' cu su tgt lv st G D) (kf : ¬ x < 0 → am_S E M d mc ms o G' D' cu su (pc + 3) lv st G D) : am_S E M d mc ms o G' D' cu su pc lv (.int x :: st) G D :=
  fun p e s m args below meth c H locs ls F hS hl hW => lv_if_lt F.1 F.2.1 hd ht (fun h9 => kt h9 p e s m args below meth c H locs ls F hS hl hW) (fun h9 => kf h9 p e s m args below meth c H locs ls F hS hl hW)
theorem am_icmp_lt {x y : Int32} {off : Int} {tgt : Nat} (hd : decode M.2.1 pc = .ok (.if_icmp .lt off, 3)) (ht : (pc : Int) + off = (tgt : Int)) (kt : x < y → am_S E M d mc ms o G' D' cu su tgt lv st G D) (kf : ¬ x < y → am_S E M d mc ms o G' D' cu su (pc + 3) lv st G D) : am_S E M d mc ms o G' D' cu su pc lv (.int y :: .int x :: st) G D :=
  fun p e s m args below meth c H locs ls F hS hl hW => lv_icmp_lt F.1 F.2.1 hd ht (fun h9 => kt h9 p e s m args below meth c H locs ls F hS hl hW) (fun h9 => kf h9 p e s m args below meth c H locs ls F hS hl hW)
theorem am_if_ge {x : Int32} {off : Int} {tgt : Nat} (hd : decode M.2.1 pc = .ok (.ifCond .ge off, 3)) (ht : (pc : Int) + off = (tgt : Int)) (kt : 0 ≤ x → am_S E M d mc ms o G' D' cu su tgt lv st G D) (kf : ¬ 0 ≤ x → am_S E M d mc ms o G' D' cu su (pc + 3) lv st G D) : am_S E M d mc ms o G' D' cu su pc lv (.int x :: st) G D :=
  fun p e s m args below meth c H locs ls F hS hl hW => lv_if_ge F.1 F.2.1 hd ht (fun h9 => kt h9 p e s m args below meth c H locs ls F hS hl hW) (fun h9 => kf h9 p e s m args below meth c H locs ls F hS hl hW)
theorem am_icmp_ge {x y : Int32} {off : Int} {tgt : Nat} (hd : decode M.2.1 pc = .ok (.if_icmp .ge off, 3)) (ht : (pc : Int) + off = (tgt : Int)) (kt : y ≤ x → am_S E M d mc ms o G' D' cu su tgt lv st G D) (kf : ¬ y ≤ x → am_S E M d mc ms o G' D' cu su (pc + 3) lv st G D) : am_S E M d mc ms o G' D' cu su pc lv (.int y :: .int x :: st) G D :=
  fun p e s m args below meth c H locs ls F hS hl hW => lv_icmp_ge F.1 F.2.1 hd ht (fun h9 => kt h9 p e s m args below meth c H locs ls F hS hl hW) (fun h9 => kf h9 p e s m args below meth c H locs ls F hS hl hW)
theorem am_if_gt {x : Int32} {off : Int} {tgt : Nat} (hd : decode M.2.1 pc = .ok (.ifCond .gt off, 3)) (ht : (pc : Int) + off = (tgt : Int)) (kt : 0 < x → am_S E M d mc ms o G' D' cu su tgt lv st G D) (kf : ¬ 0 < x → am_S E M d mc ms o G' D' cu su (pc + 3) lv st G D) : am_S E M d mc ms o G' D' cu su pc lv (.int x :: st) G D :=
  fun p e s m args below meth c H locs ls F hS hl hW => lv_if_gt F.1 F.2.1 hd ht (fun h9 => kt h9 p e s m args below meth c H locs ls F hS hl hW) (fun h9 => kf h9 p e s m args below meth c H locs ls F hS hl hW)
theorem am_icmp_gt {x y : Int32} {off : Int} {tgt : Nat} (hd : decode M.2.1 pc = .ok (.if_icmp .gt off, 3)) (ht : (pc : Int) + off = (tgt : Int)) (kt : y < x → am_S E M d mc ms o G' D' cu su tgt lv st G D) (kf : ¬ y < x → am_S E M d mc ms o G' D' cu su (pc + 3) lv st G D) : am_S E M d mc ms o G' D' cu su pc lv (.int y :: .int x :: st) G D :=
  fun p e s m args below meth c H locs ls F hS hl hW => lv_icmp_gt F.1 F.2.1 hd ht (fun h9 => kt h9 p e s m args below meth c H locs ls F hS hl hW) (fun h9 => kf h9 p e s m args below meth c H locs ls F hS hl hW)
theorem am_if_le {x : Int32} {off : Int} {tgt : Nat} (hd : decode M.2.1 pc = .ok (.ifCond .le off, 3)) (ht : (pc : Int) + off = (tgt : Int)) (kt : x ≤ 0 → am_S E M d mc ms o G' D' cu su tgt lv st G D) (kf : ¬ x ≤ 0 → am_S E M d mc ms o G' D' cu su (pc + 3) lv st G D) : am_S E M d mc ms o G' D' cu su pc lv (.int x :: st) G D :=
  fun p e s m args below meth c H locs ls F hS hl hW => lv_if_le F.1 F.2.1 hd ht (fun h9 => kt h9 p e s m args below meth c H locs ls F hS hl hW) (fun h9 => kf h9 p e s m args below meth c H locs ls F hS hl hW)
theorem am_icmp_le {x y : Int32} {off : Int} {tgt : Nat} (hd : decode M.2.1 pc = .ok (.if_icmp .le off, 3)) (ht : (pc : Int) + off = (tgt : Int)) (kt : x ≤ y → am_S E M d mc ms o G' D' cu su tgt lv st G D) (kf : ¬ x ≤ y → am_S E M d mc ms o G' D' cu su (pc + 3) lv st G D) : am_S E M d mc ms o G' D' cu su pc lv (.int y :: .int x :: st) G D :=
  fun p e s m args below meth c H locs ls F hS hl hW => lv_icmp_le F.1 F.2.1 hd ht (fun h9 => kt h9 p e s m args below meth c H locs ls F hS hl hW) (fun h9 => kf h9 p e s m args below meth c H locs ls F hS hl hW)
theorem am_goto {off : Int} {tgt : Nat} (hd : decode M.2.1 pc = .ok (.goto off, 3)) (ht : (pc : Int) + off = (tgt : Int)) (k : am_S E M d mc ms o G' D' cu su tgt lv st G D) : am_S E M d mc ms o G' D' cu su pc lv st G D :=
  fun p e s m args below meth c H locs ls F hS hl hW => lv_goto F.1 F.2.1 hd ht (k p e s m args below meth c H locs ls F hS hl hW)
theorem am_ifnull {x : Nat} {off : Int} (hd : decode M.2.1 pc = .ok (.ifnull off, 3)) (k : am_S E M d mc ms o G' D' cu su (pc + 3) lv st G D) : am_S E M d mc ms o G' D' cu su pc lv (.ref x :: st) G D :=
  fun p e s m args below meth c H locs ls F hS hl hW => lv_ifnull F.1 F.2.1 hd (k p e s m args below meth c H locs ls F hS hl hW)
theorem am_ifnullN {off : Int} {tgt : Nat} (hd : decode M.2.1 pc = .ok (.ifnull off, 3)) (ht : (pc : Int) + off = (tgt : Int)) (k : am_S E M d mc ms o G' D' cu su tgt lv st G D) : am_S E M d mc ms o G' D' cu su pc lv (.null :: st) G D :=
  fun p e s m args below meth c H locs ls F hS hl hW => lv_ifnullN F.1 F.2.1 hd ht (k p e s m args below meth c H locs ls F hS hl hW)
theorem am_ifnonnull {x : Nat} {off : Int} {tgt : Nat} (hd : decode M.2.1 pc = .ok (.ifnonnull off, 3)) (ht : (pc : Int) + off = (tgt : Int)) (k : am_S E M d mc ms o G' D' cu su tgt lv st G D) : am_S E M d mc ms o G' D' cu su pc lv (.ref x :: st) G D :=
  fun p e s m args below meth c H locs ls F hS hl hW => lv_ifnonnull F.1 F.2.1 hd ht (k p e s m args below meth c H locs ls F hS hl hW)
theorem am_ifnonnullN {off : Int} (hd : decode M.2.1 pc = .ok (.ifnonnull off, 3)) (k : am_S E M d mc ms o G' D' cu su (pc + 3) lv st G D) : am_S E M d mc ms o G' D' cu su pc lv (.null :: st) G D :=
  fun p e s m args below meth c H locs ls F hS hl hW => lv_ifnonnullN F.1 F.2.1 hd (k p e s m args below meth c H locs ls F hS hl hW)
theorem am_tableOut {dflt lo hi : Int} {offs : Array Int} {len : Nat} {x : Int32} {tgt : Nat} (hd : decode M.2.1 pc = .ok (.tableswitch dflt lo hi offs, len)) (h : x.toInt < lo ∨ hi < x.toInt) (ht : (pc : Int) + dflt = (tgt : Int)) (k : am_S E M d mc ms o G' D' cu su tgt lv st G D) : am_S E M d mc ms o G' D' cu su pc lv (.int x :: st) G D :=
  fun p e s m args below meth c H locs ls F hS hl hW => lv_tableOut F.1 F.2.1 hd h ht (k p e s m args below meth c H locs ls F hS hl hW)
theorem am_tableIn {dflt lo hi : Int} {offs : Array Int} {len : Nat} {x : Int32} {off : Int} {tgt : Nat} (hd : decode M.2.1 pc = .ok (.tableswitch dflt lo hi offs, len)) (h1 : ¬ x.toInt < lo) (h2 : ¬ hi < x.toInt) (ho : offs[(x.toInt - lo).toNat]? = some off) (ht : (pc : Int) + off = (tgt : Int)) (k : am_S E M d mc ms o G' D' cu su tgt lv st G D) : am_S E M d mc ms o G' D' cu su pc lv (.int x :: st) G D :=
  fun p e s m args below meth c H locs ls F hS hl hW => lv_tableIn F.1 F.2.1 hd h1 h2 ho ht (k p e s m args below meth c H locs ls F hS hl hW)
/-- fewer locals -/
theorem am_sub {lv' : List (Nat × Value)} (hs : ∀ q ∈ lv', q ∈ lv) (k : am_S E M d mc ms o G' D' cu su pc lv' st G D) : am_S E M d mc ms o G' D' cu su pc lv st G D :=
  fun p e s m args below meth c H locs ls F hS hl hW => k p e s m args below meth c H locs ls F hS (am_has hl fun q hq => by
    obtain ⟨r, hr, rfl⟩ := List.mem_map.mp hq
    exact List.mem_map.mpr ⟨r, hs r hr, rfl⟩) hW
theorem am_pick {lv' : List (Nat × Value)} (ks : List Nat) (hs : lv_pick lv ks = lv') (k : am_S E M d mc ms o G' D' cu su pc lv' st G D) : am_S E M d mc ms o G' D' cu su pc lv st G D := by
  refine am_sub (fun q hq => ?_) k
  rw [← hs] at hq
  obtain ⟨i, -, hi⟩ := List.mem_filterMap.mp hq
  exact List.mem_of_getElem? hi
/-- the room may be taken as more used -/
theorem am_wide {cu2 su2 : Nat} (h1 : cu ≤ cu2) (h2 : su ≤ su2) (k : am_S E M d mc ms o G' D' cu2 su2 pc lv st G D) : am_S E M d mc ms o G' D' cu su pc lv st G D :=
  fun p e s m args below meth c H locs ls F hS hl hW => W.widen h1 h2 (k p e s m args below meth c H locs ls F hS hl hW)
end AMR
