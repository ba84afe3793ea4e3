/-! ends and calls -/
section AMC
variable {E : am_E} {M : am_M} {d mc ms : Nat} {o : am_O} {G' : am_G} {D' : am_D} {cu su pc : Nat} {lv : List (Nat × Value)} {st : List Value} {G : am_G} {D : am_D}
theorem am_Qret {E : am_E} {G : am_G} {D : am_D} {H : Heap} {s : State} {args : Array Value} {locs : List Loc} (v : Option Value) (hW : am_WH E G D H) (hS : va_S (am_A E) s.heap H locs) : ∀ t : State, t.heap = H → s.WarmedH t.vm → am_Qc E (.inl v) G D args s (.returned (v.map (am_cv E))) t :=
  fun t ht _ => ⟨⟨v, rfl, rfl, by rw [ht]; exact hW⟩, hS.F ht⟩
theorem am_iret {v : Int32} (hd : decode M.2.1 pc = .ok (.ireturn, 1)) (hr : M.2.2.2.1 = some .int) (hc : cu ≤ mc) (hs : su ≤ ms) : am_S E M d mc ms (.inl (some (.int v))) G D cu su pc lv [.int v] G D := by
  intro p e s m args below meth cd H locs ls F hS hl hW
  exact W.widen hc hs (vx_ret (W.iret F.1 F.2.1 (F.2.2.2.1.trans hr) (am_Qret (some (.int v)) hW hS) hS.2.2 hd F.2.2.2.2.2.2.1))
theorem am_zret {v : Int32} (hd : decode M.2.1 pc = .ok (.ireturn, 1)) (hr : M.2.2.2.1 = some .boolean) (hn : narrow .boolean (.int v) = .int v) (hc : cu ≤ mc) (hs : su ≤ ms) : am_S E M d mc ms (.inl (some (.int v))) G D cu su pc lv [.int v] G D := by
  intro p e s m args below meth cd H locs ls F hS hl hW
  exact W.widen hc hs (vx_ret (W.zret F.1 F.2.1 (F.2.2.2.1.trans hr) hn (am_Qret (some (.int v)) hW hS) hS.2.2 hd F.2.2.2.2.2.2.1))
theorem am_lret {v : Int64} (hd : decode M.2.1 pc = .ok (.lreturn, 1)) (hr : M.2.2.2.1 = some .long) (hc : cu ≤ mc) (hs : su ≤ ms) : am_S E M d mc ms (.inl (some (.long v))) G D cu su pc lv [.long v] G D := by
  intro p e s m args below meth cd H locs ls F hS hl hW
  exact W.widen hc hs (vx_ret (W.lret F.1 F.2.1 (F.2.2.2.1.trans hr) (am_Qret (some (.long v)) hW hS) hS.2.2 hd F.2.2.2.2.2.2.1))
theorem am_vret (hd : decode M.2.1 pc = .ok (.return_, 1)) (hr : M.2.2.2.1 = none) (hc : cu ≤ mc) (hs : su ≤ ms) : am_S E M d mc ms (.inl none) G D cu su pc lv [] G D := by
  intro p e s m args below meth cd H locs ls F hS hl hW
  exact W.widen hc hs (vx_ret (W.vret F.1 F.2.1 (F.2.2.2.1.trans hr) (am_Qret none hW hS) hS.2.2 hd F.2.2.2.2.2.2.1))
theorem am_aret {a : Nat} {rt : FieldType} (hd : decode M.2.1 pc = .ok (.areturn, 1)) (hr : M.2.2.2.1 = some rt) (hrt : (∃ n, rt = .object n) ∨ ∃ t, rt = .array t) (hc : cu ≤ mc) (hs : su ≤ ms) : am_S E M d mc ms (.inl (some (.ref a))) G D cu su pc lv [.ref a] G D := by
  intro p e s m args below meth cd H locs ls F hS hl hW
  exact W.widen hc hs (vx_ret (W.aret F.1 F.2.1 (F.2.2.2.1.trans hr) hrt (Or.inr ⟨am_ph E a, rfl⟩) (am_Qret (some (.ref a)) hW hS) hS.2.2 hd F.2.2.2.2.2.2.1))
theorem am_aretN {rt : FieldType} (hd : decode M.2.1 pc = .ok (.areturn, 1)) (hr : M.2.2.2.1 = some rt) (hrt : (∃ n, rt = .object n) ∨ ∃ t, rt = .array t) (hc : cu ≤ mc) (hs : su ≤ ms) : am_S E M d mc ms (.inl (some .null)) G D cu su pc lv [.null] G D := by
  intro p e s m args below meth cd H locs ls F hS hl hW
  exact W.widen hc hs (vx_ret (W.aret F.1 F.2.1 (F.2.2.2.1.trans hr) hrt (Or.inl rfl) (am_Qret (some .null) hW hS) hS.2.2 hd F.2.2.2.2.2.2.1))
/-! a contract out of a body -/
theorem am_args (E : am_E) : ∀ (As : List Value) (i : Nat), lv_args i (As.map (am_cv E)) = (lv_args i As).map (am_cl1 E)
  | [], _ => rfl
  | v :: r, i => by
    show (i, am_cv E v) :: lv_args (if (am_cv E v).category = 2 then i + 2 else i + 1) (r.map (am_cv E)) = (i, am_cv E v) :: (lv_args (if v.category = 2 then i + 2 else i + 1) r).map (am_cl1 E)
    rw [am_cat, am_args E r]
theorem am_blind {E : am_E} {G : am_G} {D : am_D} {av : List Value} : FrameBlind (va_Pc av (fun U => (am_s0 E).WarmedH U.vm ∧ am_WH E G D U.heap)) := fun _ _ _ _ q => q
theorem am_tblOf (M : am_M) (h : M.2.2.2.2 = []) (w : Cond) (hw : w = am_hw M) : w = .code M.1 M.2.1 M.2.2.1 M.2.2.2.1 := by
  rw [hw]
  unfold am_hw
  rw [if_pos h]
/-- the contract of a method out of its body -/
theorem am_C_of {As : List Value} (hy : plainName M.1.cls = true) (hn : (lg_sl As).length ≤ M.2.2.1)
    (k : am_S E M d mc ms o G' D' 0 0 0 (lv_args 0 As) [] G D) : am_C E M d mc ms As G D o G' D' := by
  have hlen : (lg_sl (As.map (am_cv E))).length = (lg_sl As).length := by
    clear k hn
    induction As with
    | nil => rfl
    | cons v r ih => cases v <;> simp_all [lg_sl, am_cv] <;> rfl
  have body : ∀ (p : Program) (e : Env) (s : State) (m : MethodId) (args : Array Value) (below : List Frame) (meth : Method) (c : Code) (s₁ : State), BodyLoose p E.1 M.1 (headSpec (am_ws M) (am_R d mc ms)) M.2.1 M.2.2.1 M.2.2.2.1 e s m args below meth c s₁ → c.maxLocals = M.2.2.1 → c.exceptionTable.toList = tableOf M.2.2.2.2 → (va_Pc (As.map (am_cv E)) (fun U => (am_s0 E).WarmedH U.vm ∧ am_WH E G D U.heap)) args s →
      W p E.1 e (headSpec (am_ws M) (am_R d mc ms)).room s m args below meth c s.heap [] 0 0 (vx_MQ below (am_Qc E o G' D') (am_XC E o G' D') args s mc ms (am_A E)) (entryFrame m args M.2.2.1) := by
    intro p e s m args below meth c s₁ B hml htb hv
    obtain ⟨rfl, hw0, hW⟩ := hv
    have hts := atoms_spec (ws := am_ws M) B.pre
    have F : am_Fix E M p s m (As.map (am_cv E)).toArray meth c := ⟨B.exec, B.bytes, hml, B.returns, findClass_of_methodNamed B.named, fun w hw => hts w (List.mem_cons_of_mem _ hw), B.notSynchronized, htb, (name_of_methodNamed B.named B.method).1, hw0, hW.2.1, hW.2.2.1⟩
    have hl := lv_entry (As.map (am_cv E)) (n := M.2.2.1) (by rw [hlen]; exact hn)
    rw [am_args] at hl
    rw [lg_entry_eq]
    exact k p e s m _ below meth c s.heap [] _ F va_S.rf hl hW
  by_cases hh : M.2.2.2.2 = []
  · refine vx_ofW (cc := M.2.1) (maxL := M.2.2.1) (ret := M.2.2.2.1) (ws' := am_tg) hy (by unfold am_ws am_hw; rw [if_pos hh]) ?_
    intro p e s m args below meth c s₁ B hml htb hv
    refine body p e s m args below meth c s₁ B hml ?_ hv
    rw [hh]
    exact List.eq_nil_iff_forall_not_mem.mpr fun x hx => htb x hx
  · refine vx_ofWH (cc := M.2.1) (maxL := M.2.2.1) (ret := M.2.2.2.1) (hh := M.2.2.2.2) (ws' := am_tg) hy (by unfold am_ws am_hw; rw [if_neg hh]) ?_
    intro p e s m args below meth c s₁ B hml hv
    refine body p e s m args below meth c s₁ B hml ?_ hv
    have h9 := atoms_spec (ws := am_ws M) B.pre (am_hw M) List.mem_cons_self
    unfold am_hw at h9
    rw [if_neg hh] at h9
    exact vx_table (x := M.1) B h9
/-- behind a call -/
theorem am_after {M2 : am_M} {mc2 ms2 : Nat} {o2 : am_O} {G2 : am_G} {D2 : am_D} {v : Option Value} {p : Program} {e : Env} {s : State} {m : MethodId} {args a : Array Value} {below : List Frame} {meth : Method} {c : Code} {H : Heap} {locs : List Loc} {ls : Array Slot} {st0 : List Value}
    (hr : vx_Run p E.1 e (am_R d mc ms) s m args below meth c H locs cu su mc2 ms2 (F0 m pc ls st0) (st.map (am_cv E)) (am_Qc E o2 G2 D2 a) (am_XC E o2 G2 D2) (am_A E)) (ho : o2 = .inl v)
    (F : am_Fix E M p s m args meth c) (hS : va_S (am_A E) s.heap H locs) (hl : lv_has ls M.2.2.1 (lv.map (am_cl1 E)))
    (k : am_S E M d mc ms o G' D' (cu + mc2) (su + ms2) (pc + 3) lv (v.toList ++ st) G2 D2) : W p E.1 e (am_R d mc ms) s m args below meth c H locs cu su (vx_MQ below (am_Qc E o G' D') (am_XC E o G' D') args s mc ms (am_A E)) (F0 m pc ls st0) := by
  intro T hT X
  subst ho
  rcases hr T hT X with ⟨v9, st₀, t, T', L, h0, X', hL, e1, e2, ⟨⟨w, hw, hv, hb⟩, hF⟩, go⟩ | ⟨q, st₀, t, T', L, En, ce, h0, X', hL, e1, e2, ⟨hx, -⟩, -⟩
  · cases hw
    cases hv
    obtain ⟨k1, k2, k3⟩ := vx_keep h0 e1 hS (fun q _ h => h) (fun q h => h) hL hF
    obtain ⟨t2, a1, b1⟩ := k p e s m args below meth c T'.heap (locs ++ L) ls F k3 hl (by rw [e1]; exact hb) T' rfl X'
    refine ⟨t2, go t2 ?_, b1⟩
    have e9 : (v.map (am_cv E)).toList ++ st.map (am_cv E) = (v.toList ++ st).map (am_cv E) := by cases v <;> rfl
    show Steps p.tables e below (T'.setTop { method := m, pc := pc + 3, locals := ls, stack := (v.map (am_cv E)).toList ++ st.map (am_cv E), locked := none }) t2
    rw [e9]
    exact a1
  · cases hx
/-- behind a call that threw, not caught here -/
theorem am_after_out {mc2 ms2 : Nat} {En : String} {G2 : am_G} {D2 : am_D} {p : Program} {e : Env} {s : State} {m : MethodId} {args a : Array Value} {below : List Frame} {meth : Method} {c : Code} {H : Heap} {locs : List Loc} {ls : Array Slot} {st0 : List Value}
    (hr : vx_Run p E.1 e (am_R d mc ms) s m args below meth c H locs cu su mc2 ms2 (F0 m pc ls st0) (st.map (am_cv E)) (am_Qc E (.inr En) G2 D2 a) (am_XC E (.inr En) G2 D2) (am_A E))
    (F : am_Fix E M p s m args meth c) (hS : va_S (am_A E) s.heap H locs) (hh : M.2.2.2.2 = []) (hc : cu + mc2 ≤ mc) (hs : su + ms2 ≤ ms) : W p E.1 e (am_R d mc ms) s m args below meth c H locs cu su (vx_MQ below (am_Qc E (.inr En) G2 D2) (am_XC E (.inr En) G2 D2) args s mc ms (am_A E)) (F0 m pc ls st0) := by
  intro T hT X
  rcases hr T hT X with ⟨v9, st₀, t, T', L, h0, X', hL, e1, e2, ⟨⟨w, hw, -, -⟩, -⟩, -⟩ | ⟨q, st₀, t, T', L, En2, ce, h0, X', hL, e1, e2, ⟨hx, hb, hF⟩, hce, hcv, hcl, go⟩
  · cases hw
  · cases hx
    obtain ⟨k1, k2, k3⟩ := vx_keep h0 e1 hS (fun q _ h => h) (fun q h => h) hL hF
    have htb := F.2.2.2.2.2.2.2.1
    rw [hh] at htb
    obtain ⟨t2, a1, b1⟩ := vx_out (free := am_A E) (Qc := am_Qc E (.inr En) G2 D2) (XC := am_XC E (.inr En) G2 D2) (mc := mc) (ms := ms) (pc := pc) (ls := ls) (rest := st.map (am_cv E)) (H := T'.heap) (E := En) (ce := ce) (q := q)
      (fun x hx => by rw [htb] at hx; cases hx) F.2.2.2.2.2.2.1 (by rw [e1]; exact hce) hcv hcl (fun u hu hal => ⟨rfl, by rw [hu, e1]; exact hb, k3.F hu⟩) k3.2.2 hc hs T' rfl X'
    exact ⟨t2, go.trans a1, b1⟩
/-- what a call needs of the tables: the callee's own words -/
def am_okM (M : am_M) (n : Nat) : Prop := am_hw M ∈ am_tg ∧ Cond.initialized M.1.cls ∈ am_tg ∧ (M.1.cls ≠ "java/lang/invoke/MethodHandle" ∧ M.1.cls ≠ "java/lang/invoke/VarHandle") ∧ (parseMethodDescriptor M.1.desc).map (fun d => d.parameters.length) = some n ∧ M.2.2.1 ≤ 20
theorem am_good {w : Cond} (h : w ∈ am_tg) : (w.onTables && w.keeps) = true ∨ ∃ ty, w = .arrayClass ty := good_of_word (am_tg_good h)
theorem am_pay {M2 : am_M} {n : Nat} (hM : am_okM M2 n) {args : Array Value} {s : State} (hts : ∀ w ∈ am_tg, w.before args s = true) : ∀ w ∈ am_ws M2, ∀ (a' : Array Value) (U : State), s.WarmedH U.vm → w.before a' U = true :=
  pay_in hts fun w hw => by
    rcases List.mem_cons.mp hw with rfl | h
    · exact ⟨hM.1, am_good hM.1⟩
    · exact ⟨h, am_good h⟩
theorem am_sig {M2 : am_M} {n : Nat} (hM : am_okM M2 n) : ∀ sig, parseMethodDescriptor M2.1.desc = some sig → n = sig.parameters.length := fun sig h => by
  have h2 := hM.2.2.2.1
  rw [h] at h2
  exact (Option.some.inj h2).symm
theorem am_callB {M2 : am_M} {n d2 mc2 ms2 idx : Nat} {own : String} {args : Array Value} {s : State} (hM : am_okM M2 n) (hh : M2.2.2.2.2 = []) (hts : ∀ w ∈ am_tg, w.before args s = true) (hl : Cond.methodLink own idx M2.1 ∈ am_tg) (hd2 : d2 < d) :
    CallB (am_R d mc ms) s args own idx M2.1 M2.2.1 M2.2.2.1 M2.2.2.2.1 (am_ws M2) (am_R d2 mc2 ms2) mc2 ms2 n := by
  have e1 : am_hw M2 = .code M2.1 M2.2.1 M2.2.2.1 M2.2.2.2.1 := if_pos hh
  refine ⟨rfl, rfl, ?_, ?_, am_pay hM hts, ?_, ?_, hts _ hM.2.1, hM.2.2.1, am_sig hM, hts _ hl⟩
  · show 16 + d2 + 1 ≤ 16 + d
    omega
  · show 8 + (M2.2.2.1 + 11) + (500 + 40 * d2) ≤ 500 + 40 * d
    have := hM.2.2.2.2
    omega
  · rw [← e1]
    exact List.mem_cons_self
  · rw [← e1]
    exact hts _ hM.1
/-- the receiver: an object of the callee's own class -/
theorem am_recv (hE : am_EH E) {a c n : Nat} {C : String} {T : u_T} {s : State} {H : Heap} (hw : (am_s0 E).WarmedH s.vm) (hW : am_WH E G D H) (hk : am_sh G a = some (c, n)) (hC : am_CF c n C T) : ∃ cell : Cell, H[am_ph E a]? = some cell ∧ cell.vm.isStatics = false ∧ s.vm.findClass C = some cell.cls := by
  have hP := hW.one hk
  have hcell : am_cell E G D a (c, n) = .inr (c, am_fields E G D a c n) := if_pos hC.2.1
  rw [hcell] at hP
  exact va_recv (hE.K hw) hP (ci := c) (q0 := 0) hC.1 rfl
theorem am_rev (As : List Value) (f : Value → Value) : (As.map f).reverse = As.reverse.map f := List.map_reverse.symm
/-- a call on an object: it returns -/
theorem am_callV (hE : am_EH E) {M2 : am_M} {n d2 mc2 ms2 idx a c nf : Nat} {T : u_T} {As : List Value} {v : Option Value} {G2 : am_G} {D2 : am_D} (hd : decode M.2.1 pc = .ok (.invokevirtual idx, 3)) (hM : am_okM M2 n) (hh : M2.2.2.2.2 = []) (hl : Cond.methodLink M.1.cls idx M2.1 ∈ am_tg) (hi : Cond.instanceMethod M2.1 ∈ am_tg)
    (hg : Cond.selects M2.1.cls M2.1 M2.1 ∈ am_tg) (hk : am_sh G a = some (c, nf)) (hC : am_CF c nf M2.1.cls T) (hc : am_C E M2 d2 mc2 ms2 (.ref a :: As) G D (.inl v) G2 D2) (hn : As.length = n) (hd2 : d2 < d) (hst : (st.map fun v => v.category).sum ≤ 8) (hcu : cu + mc2 ≤ mc) (hsu : su + ms2 ≤ ms)
    {st0 : List Value} (hst0 : st0 = As.reverse ++ .ref a :: st) (k : am_S E M d mc ms o G' D' (cu + mc2) (su + ms2) (pc + 3) lv (v.toList ++ st) G2 D2) : am_S E M d mc ms o G' D' cu su pc lv st0 G D := by
  subst hst0
  intro p e s m args below meth cd H locs ls F hS hl9 hW
  have hts := F.2.2.2.2.2.1
  refine am_after (M2 := M2) (v := v) (a := (Value.ref (am_ph E a) :: As.map (am_cv E)).toArray) (vx_runV (Ts := am_tg) (C := M2.1.cls) (b := am_ph E a) (As := As.map (am_cv E)) (rest := st.map (am_cv E)) ⟨F.1, F.2.1, F.2.2.1, F.2.2.2.2.1, hts⟩ hc ⟨am_callB (mc2 := mc2) (ms2 := ms2) hM hh hts hl hd2, hts _ hi, hts _ hg⟩
    ⟨am_blind, am_recv hE F.2.2.2.2.2.2.2.2.2.1 hW hk hC, fun U hU hW9 => ⟨rfl, State.WarmedH.trans F.2.2.2.2.2.2.2.2.2.1 hW9, by rw [hU]; exact hW⟩⟩ rfl (by rw [List.length_map]; exact hn) hl9.1 ?_ ?_ hd ⟨hcu, hsu⟩) rfl F hS hl9 k
  · show (As.reverse ++ .ref a :: st).map (am_cv E) = _
    rw [List.map_append, am_rev]
    rfl
  · show 2 * 0 + _ ≤ 8
    rw [am_cats]
    omega
theorem am_callV_out (hE : am_EH E) {M2 : am_M} {n d2 mc2 ms2 idx a c nf : Nat} {T : u_T} {As : List Value} {En : String} {G2 : am_G} {D2 : am_D} (hd : decode M.2.1 pc = .ok (.invokevirtual idx, 3)) (hM : am_okM M2 n) (hh : M2.2.2.2.2 = []) (hl : Cond.methodLink M.1.cls idx M2.1 ∈ am_tg) (hi : Cond.instanceMethod M2.1 ∈ am_tg)
    (hg : Cond.selects M2.1.cls M2.1 M2.1 ∈ am_tg) (hk : am_sh G a = some (c, nf)) (hC : am_CF c nf M2.1.cls T) (hc : am_C E M2 d2 mc2 ms2 (.ref a :: As) G D (.inr En) G2 D2) (hn : As.length = n) (hd2 : d2 < d) (hst : (st.map fun v => v.category).sum ≤ 8) (hcu : cu + mc2 ≤ mc) (hsu : su + ms2 ≤ ms)
    {st0 : List Value} (hst0 : st0 = As.reverse ++ .ref a :: st) (hhM : M.2.2.2.2 = []) : am_S E M d mc ms (.inr En) G2 D2 cu su pc lv st0 G D := by
  subst hst0
  intro p e s m args below meth cd H locs ls F hS hl9 hW
  have hts := F.2.2.2.2.2.1
  refine am_after_out (a := (Value.ref (am_ph E a) :: As.map (am_cv E)).toArray) (vx_runV (Ts := am_tg) (C := M2.1.cls) (b := am_ph E a) (As := As.map (am_cv E)) (rest := st.map (am_cv E)) ⟨F.1, F.2.1, F.2.2.1, F.2.2.2.2.1, hts⟩ hc ⟨am_callB (mc2 := mc2) (ms2 := ms2) hM hh hts hl hd2, hts _ hi, hts _ hg⟩
    ⟨am_blind, am_recv hE F.2.2.2.2.2.2.2.2.2.1 hW hk hC, fun U hU hW9 => ⟨rfl, State.WarmedH.trans F.2.2.2.2.2.2.2.2.2.1 hW9, by rw [hU]; exact hW⟩⟩ rfl (by rw [List.length_map]; exact hn) hl9.1 ?_ ?_ hd ⟨hcu, hsu⟩) F hS hhM hcu hsu
  · show (As.reverse ++ .ref a :: st).map (am_cv E) = _
    rw [List.map_append, am_rev]
    rfl
  · show 2 * 0 + _ ≤ 8
    rw [am_cats]
    omega
/-- a static call: it returns -/
theorem am_callS {M2 : am_M} {n d2 mc2 ms2 idx : Nat} {As : List Value} {v : Option Value} {G2 : am_G} {D2 : am_D} (hd : decode M.2.1 pc = .ok (.invokestatic idx, 3)) (hM : am_okM M2 n) (hh : M2.2.2.2.2 = []) (hl : Cond.methodLink M.1.cls idx M2.1 ∈ am_tg) (hi : Cond.static M2.1 ∈ am_tg)
    (hc : am_C E M2 d2 mc2 ms2 As G D (.inl v) G2 D2) (hn : As.length = n) (hd2 : d2 < d) (hst : (st.map fun v => v.category).sum ≤ 8) (hcu : cu + mc2 ≤ mc) (hsu : su + ms2 ≤ ms)
    {st0 : List Value} (hst0 : st0 = As.reverse ++ st) (k : am_S E M d mc ms o G' D' (cu + mc2) (su + ms2) (pc + 3) lv (v.toList ++ st) G2 D2) : am_S E M d mc ms o G' D' cu su pc lv st0 G D := by
  subst hst0
  intro p e s m args below meth cd H locs ls F hS hl9 hW
  have hts := F.2.2.2.2.2.1
  refine am_after (M2 := M2) (v := v) (a := (As.map (am_cv E)).toArray) (vx_runS (Ts := am_tg) (As := As.map (am_cv E)) (rest := st.map (am_cv E)) ⟨F.1, F.2.1, F.2.2.1, F.2.2.2.2.1, hts⟩ hc ⟨am_callB (mc2 := mc2) (ms2 := ms2) hM hh hts hl hd2, hts _ hi⟩
    ⟨am_blind, fun U hU hW9 => ⟨rfl, State.WarmedH.trans F.2.2.2.2.2.2.2.2.2.1 hW9, by rw [hU]; exact hW⟩⟩ rfl (by rw [List.length_map]; exact hn) hl9.1 ?_ ?_ hd ⟨hcu, hsu⟩) rfl F hS hl9 k
  · show (As.reverse ++ st).map (am_cv E) = _
    rw [List.map_append, am_rev]
  · show 2 * 0 + _ ≤ 8
    rw [am_cats]
    omega
theorem am_callS_out {M2 : am_M} {n d2 mc2 ms2 idx : Nat} {As : List Value} {En : String} {G2 : am_G} {D2 : am_D} (hd : decode M.2.1 pc = .ok (.invokestatic idx, 3)) (hM : am_okM M2 n) (hh : M2.2.2.2.2 = []) (hl : Cond.methodLink M.1.cls idx M2.1 ∈ am_tg) (hi : Cond.static M2.1 ∈ am_tg)
    (hc : am_C E M2 d2 mc2 ms2 As G D (.inr En) G2 D2) (hn : As.length = n) (hd2 : d2 < d) (hst : (st.map fun v => v.category).sum ≤ 8) (hcu : cu + mc2 ≤ mc) (hsu : su + ms2 ≤ ms)
    {st0 : List Value} (hst0 : st0 = As.reverse ++ st) (hhM : M.2.2.2.2 = []) : am_S E M d mc ms (.inr En) G2 D2 cu su pc lv st0 G D := by
  subst hst0
  intro p e s m args below meth cd H locs ls F hS hl9 hW
  have hts := F.2.2.2.2.2.1
  refine am_after_out (a := (As.map (am_cv E)).toArray) (vx_runS (Ts := am_tg) (As := As.map (am_cv E)) (rest := st.map (am_cv E)) ⟨F.1, F.2.1, F.2.2.1, F.2.2.2.2.1, hts⟩ hc ⟨am_callB (mc2 := mc2) (ms2 := ms2) hM hh hts hl hd2, hts _ hi⟩
    ⟨am_blind, fun U hU hW9 => ⟨rfl, State.WarmedH.trans F.2.2.2.2.2.2.2.2.2.1 hW9, by rw [hU]; exact hW⟩⟩ rfl (by rw [List.length_map]; exact hn) hl9.1 ?_ ?_ hd ⟨hcu, hsu⟩) F hS hhM hcu hsu
  · show (As.reverse ++ st).map (am_cv E) = _
    rw [List.map_append, am_rev]
  · show 2 * 0 + _ ≤ 8
    rw [am_cats]
    omega
/-- a static method of the outer class, called from a class inside it -/
theorem am_callSN (hE : am_EH E) {M2 : am_M} {n d2 mc2 ms2 idx : Nat} {host : String} {As : List Value} {v : Option Value} {G2 : am_G} {D2 : am_D} (hd : decode M.2.1 pc = .ok (.invokestatic idx, 3)) (hM : am_okM M2 n) (hh : M2.2.2.2.2 = []) (hl : Cond.methodLinkNest M.1.cls idx M2.1 host ∈ tables_1) (hi : Cond.static M2.1 ∈ am_tg)
    (hc : am_C E M2 d2 mc2 ms2 As G D (.inl v) G2 D2) (hn : As.length = n) (hd2 : d2 < d) (hst : (st.map fun v => v.category).sum ≤ 8) (hcu : cu + mc2 ≤ mc) (hsu : su + ms2 ≤ ms)
    {st0 : List Value} (hst0 : st0 = As.reverse ++ st) (k : am_S E M d mc ms o G' D' (cu + mc2) (su + ms2) (pc + 3) lv (v.toList ++ st) G2 D2) : am_S E M d mc ms o G' D' cu su pc lv st0 G D := by
  subst hst0
  intro p e s m args below meth cd H locs ls F hS hl9 hW
  have hts := F.2.2.2.2.2.1
  have e1 : am_hw M2 = .code M2.1 M2.2.1 M2.2.2.1 M2.2.2.2.1 := if_pos hh
  have cw : va_CN (am_R d mc ms) s args M.1.cls idx M2.1 host M2.2.1 M2.2.2.1 M2.2.2.2.1 (am_ws M2) (am_R d2 mc2 ms2) mc2 ms2 n := by
    refine ⟨⟨rfl, rfl, ?_, ?_, am_pay hM hts, ?_⟩, ?_, hts _ hM.2.1, hM.2.2.1, am_sig hM, va_Nw.use rfl (va_Nw.warmM F.2.2.2.2.2.2.2.2.2.1 (hE.2.2.2.1 _ hl rfl))⟩
    · show 16 + d2 + 1 ≤ 16 + d
      omega
    · show 8 + (M2.2.2.1 + 11) + (500 + 40 * d2) ≤ 500 + 40 * d
      have := hM.2.2.2.2
      omega
    · rw [← e1]
      exact List.mem_cons_self
    · rw [← e1]
      exact hts _ hM.1
  refine am_after (M2 := M2) (v := v) (a := (As.map (am_cv E)).toArray) (vx_runSN (Ts := am_tg) (As := As.map (am_cv E)) (rest := st.map (am_cv E)) ⟨F.1, F.2.1, F.2.2.1, F.2.2.2.2.1, hts⟩ hc ⟨cw, hts _ hi, trivial⟩
    ⟨am_blind, fun U hU hW9 => ⟨rfl, State.WarmedH.trans F.2.2.2.2.2.2.2.2.2.1 hW9, by rw [hU]; exact hW⟩⟩ rfl (by rw [List.length_map]; exact hn) hl9.1 ?_ ?_ hd ⟨hcu, hsu⟩) rfl F hS hl9 k
  · show (As.reverse ++ st).map (am_cv E) = _
    rw [List.map_append, am_rev]
  · show 2 * 0 + _ ≤ 8
    rw [am_cats]
    omega
end AMC
