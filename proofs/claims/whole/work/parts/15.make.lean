/-! making cells, throwing -/
section AMT
variable {E : am_E} {M : am_M} {d mc ms : Nat} {o : am_O} {G' : am_G} {D' : am_D} {cu su pc : Nat} {lv : List (Nat × Value)} {st : List Value} {G : am_G} {D : am_D}
/-- 'throw new X()' -/
theorem am_throw (hE : am_EH E) {ik ic : Nat} {cls : String} {names : List String} (d0 : decode M.2.1 pc = .ok (.new ik, 3)) (d3 : decode M.2.1 (pc + 3) = .ok (.dup, 1)) (d4 : decode M.2.1 (pc + 4) = .ok (.invokespecial ic, 3)) (d7 : decode M.2.1 (pc + 7) = .ok (.athrow, 1))
    (hcls : Bundle.fit cls = true) (hnames : ∀ n ∈ names, Bundle.fit n = true) (hk : Cond.classLink M.1.cls ik cls ∈ am_tg) (hini : Cond.initialized cls ∈ am_tg) (hat : ∀ w ∈ vx_at0 M.1.cls ic cls names, w ∈ am_tg ∨ (am_dc w = true ∧ w ∈ tables_1 ∧ w.onTables = true)) (hlen : names.length = 2)
    (hst : (st.map fun v => v.category).sum ≤ 8) (hc : cu + 1 ≤ mc) (hs : su + 6 ≤ ms) (hh : M.2.2.2.2 = []) (hal : G.2.2 = false) : am_S E M d mc ms (.inr cls) G D cu su pc lv st G D := by
  intro p e s m args below meth cd H locs ls F hS hl hW
  have hts := F.2.2.2.2.2.1
  have hw0 := F.2.2.2.2.2.2.2.2.2.1
  have hold := F.2.2.2.2.2.2.2.2.2.2.1
  have htb := F.2.2.2.2.2.2.2.1
  rw [hh] at htb
  have hg : ∀ w ∈ am_tg, vx_ot w = true := fun w hw => by
    unfold vx_ot
    rw [am_tg_good hw, Bool.or_true]
  refine vx_throw0 (cls := cls) (names := names) (A := am_A E) F.1 F.2.1 hE.2.1 F.2.2.2.2.1 hcls hnames (hts _ hk) (hts _ hini) (fun w hw => ?_) ?_ ?_ ?_ hS (hl.1.trans F.2.2.1.symm) d0 d3 d4 d7 (fun x hx => by rw [htb] at hx; cases hx) ?_ ?_ hc hs F.2.2.2.2.2.2.1 ?_ hS.2.2 hc hs
  · rcases hat w hw with h | ⟨h1, h2, h3⟩
    · exact hts w h
    · exact va_Nw.use h3 (am_mv h1 hw0 (hE.2.2.2.1 w h2 h3))
  · intro w hw
    rcases List.mem_cons.mp hw with rfl | hw
    · exact hg _ hk
    · rcases List.mem_cons.mp hw with rfl | hw
      · exact hg _ hini
      · rcases hat w hw with h | ⟨h1, h2, h3⟩
        · exact hg _ h
        · unfold vx_ot
          rw [h3, Bool.true_or]
  · exact vx_Zq.moved hw0.alike (hE.2.2.1.1.kept fun a ha _ => hold a ha)
  · exact vx_Zq.moved hw0.alike (hE.2.2.1.2.kept fun a ha _ => hold a ha)
  · rw [hlen]
    exact Nat.lt_of_lt_of_le (by decide) am_Rf
  · rw [am_cats, hlen]
    exact Nat.le_trans (by omega) (am_Rl (d := d) (mc := mc) (ms := ms))
  · intro t hal9 hz hq
    refine ⟨rfl, ⟨fun i sh hi => (hW.1 i sh hi).kept (hq _ ((hW.1 i sh hi).lt)), fun q h => ?_, Nat.le_trans hW.2.2.1 hz, fun h => by rw [hal] at h; cases h⟩, ⟨Nat.le_trans hS.1 hz, fun q h1 h2 => ?_⟩⟩
    · rw [hq q (Nat.lt_of_lt_of_le h hW.2.2.1)]
      exact hW.2.1 q h
    · rw [hq q (Nat.lt_of_lt_of_le h1 hS.1)]
      exact hS.2.1 q h1 h2
/-- the world with one cell more -/
def am_push (G : am_G) (sh : Nat × Nat) : am_G := (G.1, G.2.1 ++ [sh], true)
/-- nothing was written yet where cells are still to come -/
def am_new0 (G : am_G) (D : am_D) (x : Nat) : Prop := (∀ j, D.1 x j = 0) ∧ (∀ j, D.2 x j = 0) ∧ ∀ j, G.1 x j = none
theorem am_WH_push {H H1 : Heap} {sh : Nat × Nat} (hW : am_WH E G D H) (hal : G.2.2 = true) (hz : H1.size = H.size + 1) (ho : ∀ q, q < H.size → H1[q]? = H[q]?) (he : va_at E.2.1 am_cl (H.size, am_cell E (am_push G sh) D (16 + G.2.1.length) sh) H1) : am_WH E (am_push G sh) D H1 := by
  have hsz := hW.2.2.2 hal
  refine ⟨fun i sh' hi => ?_, fun q hq => ?_, by rw [hz]; exact Nat.le_succ_of_le hW.2.2.1, fun _ => ?_⟩
  · have hi' : (G.2.1 ++ [sh])[i]? = some sh' := hi
    by_cases h : i < G.2.1.length
    · rw [List.getElem?_append_left h] at hi'
      have h1 := hW.1 i sh' hi'
      exact h1.kept (ho _ h1.lt)
    · rw [List.getElem?_append_right (by omega)] at hi'
      have h0 : i - G.2.1.length < 1 := (List.getElem?_eq_some_iff.mp hi').1
      have e : i = G.2.1.length := by omega
      subst e
      rw [Nat.sub_self] at hi'
      cases hi'
      rw [← hsz]
      exact he
  · rw [ho q (Nat.lt_of_lt_of_le hq hW.2.2.1)]
    exact hW.2.1 q hq
  · show H1.size = am_bs E + (G.2.1 ++ [sh]).length
    rw [hz, hsz, List.length_append]
    rfl
theorem am_ph_new {a : Nat} (hal : am_bs E + G.2.1.length = a) : am_ph E (16 + G.2.1.length) = a := by
  rw [am_ph_ge E (by omega), ← hal]
  congr 1
  omega
theorem am_new (hE : am_EH E) {c n idx : Nat} {C : String} {T : u_T} (hd : decode M.2.1 pc = .ok (.new idx, 3)) (hC : am_CF c n C T) (hl9 : Cond.classLink M.1.cls idx C ∈ am_tg) (hins : Cond.instantiable C n ∈ am_tg) (hini : Cond.initialized C ∈ am_tg) (hal : G.2.2 = true) (h0 : am_new0 G D (16 + G.2.1.length))
    (hdef : ∀ j, j < n → defaultValue (am_ty c j) = if (am_ty c j).isReference = true then .null else .int 0) (hc : cu + 1 ≤ mc) (hs : su + n ≤ ms)
    (k : am_S E M d mc ms o G' D' (cu + 1) (su + n) (pc + 3) lv (.ref (16 + G.2.1.length) :: st) (am_push G (c, n)) D) : am_S E M d mc ms o G' D' cu su pc lv st G D := by
  intro p e s m args below meth cd H locs ls F hS hl hW
  have hts := F.2.2.2.2.2.1
  have hK := hE.K F.2.2.2.2.2.2.2.2.2.1
  have hKn := hK.1 c _ hC.1
  have hsz := hW.2.2.2 hal
  refine W.newcK F.1 F.2.1 F.2.2.2.2.1 (hts _ hl9) (hts _ hins) (hts _ hini) rfl hd hc hs hKn.2.1 rfl fun H1 kC hkC e1 z1 o1 => ?_
  have hcell : am_cell E (am_push G (c, n)) D (16 + G.2.1.length) (c, n) = .inr (c, am_fields E (am_push G (c, n)) D (16 + G.2.1.length) c n) := if_pos hC.2.1
  have hw2 : am_WH E (am_push G (c, n)) D H1 := by
    refine am_WH_push hW hal z1 o1 ?_
    rw [hcell]
    refine ⟨_, hC.1, (u_born (am_ty c) hts hC.2.2.1 hKn hkC e1 hC.2.2.2.1).to fun j hj => ?_⟩
    rw [hdef j hj]
    unfold vp_V
    rw [List.getD_eq_getElem?_getD, am_fields_get hj]
    show _ = am_field E (am_push G (c, n)) D (16 + G.2.1.length) (am_ty c j) j
    unfold am_field
    by_cases h : (am_ty c j).isReference = true
    · rw [if_pos h, if_pos h]
      show Value.null = va_rf ((G.1 _ j).map _)
      rw [h0.2.2 j]
      rfl
    · rw [if_neg h, if_neg h, h0.1 j]
  have hS1 : va_S (am_A E) s.heap H1 locs := ⟨Nat.le_trans hS.1 (by omega), fun x h1 h2 => (o1 x (Nat.lt_of_lt_of_le h1 hS.1)).trans (hS.2.1 x h1 h2), hS.2.2⟩
  have key := k p e s m args below meth cd H1 locs ls F hS1 hl hw2
  have e9 : am_cv E (.ref (16 + G.2.1.length)) = .ref H.size := by
    show Value.ref (am_ph E _) = _
    rw [am_ph_new hsz.symm]
  show W p E.1 e (am_R d mc ms) s m args below meth cd H1 locs (cu + 1) (su + n) _ (F0 m (pc + 3) ls (.ref H.size :: st.map (am_cv E)))
  rw [← e9]
  exact key
theorem am_newarr (hE : am_EH E) {t N : Nat} {atype : ArrayType} {ty : FieldType} {x : Int32} (hd : decode M.2.1 pc = .ok (.newarray atype, 2)) (hty : newarray.typeOf atype = ty) (ht : t = 0 ∧ ty = .int ∨ t = 1 ∧ ty = .long) (hl9 : Cond.arrayClass ty ∈ am_tg) (hx : x = Int32.ofNat N) (hN : N < 100000) (hal : G.2.2 = true) (h0 : am_new0 G D (16 + G.2.1.length)) (hc : cu + 1 ≤ mc) (hs : su + N ≤ ms)
    (k : am_S E M d mc ms o G' D' (cu + 1) (su + N) (pc + 2) lv (.ref (16 + G.2.1.length) :: st) (am_push G (20 + t, N)) D) : am_S E M d mc ms o G' D' cu su pc lv (.int x :: st) G D := by
  intro p e s m args below meth cd H locs ls F hS hl hW
  have hts := F.2.2.2.2.2.1
  have hK := hE.K F.2.2.2.2.2.2.2.2.2.1
  have hsz := hW.2.2.2 hal
  have hxN : x.toNatClampNeg = N := by rw [hx]; exact nI_clamp (by omega)
  have hx0 : ¬ x < 0 := by rw [hx]; exact nI_pos (by omega)
  have hcb : componentBytes ty ≤ 8 := by rcases ht with ⟨-, rfl⟩ | ⟨-, rfl⟩ <;> decide
  have hmul : N * componentBytes ty ≤ N * 8 := Nat.mul_le_mul_left N hcb
  refine va_newaK F.1 F.2.1 (atype := atype) (N := N) (by rw [hty]; exact hts _ hl9) rfl hd rfl hx0 hxN (by rw [hty]; omega) hc hs rfl fun H1 cA e1 z1 o1 hAr hNm => ?_
  rw [hty] at e1 hAr hNm
  have hcA : cA = E.2.2.1 t := by
    have h9 : s.vm.findClass ("[" ++ ty.toString) = some (E.2.2.1 t) := by
      rcases ht with ⟨rfl, rfl⟩ | ⟨rfl, rfl⟩
      · exact (hK.2 0 _ rfl).2
      · exact (hK.2 1 _ rfl).2
    exact Option.some.inj (hNm.symm.trans h9)
  subst hcA
  have e20 : 20 + t - 20 = t := by omega
  have hw2 : am_WH E (am_push G (20 + t, N)) D H1 := by
    refine am_WH_push hW hal z1 o1 ?_
    rw [am_cell_arr (by omega), e20]
    show H1[H.size]? = some (vp_cell _ _)
    rw [e1]
    rcases ht with ⟨rfl, rfl⟩ | ⟨rfl, rfl⟩
    · show some (arrV _ N fun _ => .int 0) = some (vp_cell _ (N, .inl (D.1 _)))
      rw [vp_cell_i]
      congr 2
      funext j
      rw [h0.1 j]
    · show some (arrV _ N fun _ => .long 0) = some (vp_cell _ (N, .inr (.inl (D.2 _))))
      rw [vp_cell_l]
      congr 2
      funext j
      rw [h0.2.1 j]
  have hS1 : va_S (am_A E) s.heap H1 locs := ⟨Nat.le_trans hS.1 (by omega), fun x h1 h2 => (o1 x (Nat.lt_of_lt_of_le h1 hS.1)).trans (hS.2.1 x h1 h2), hS.2.2⟩
  have key := k p e s m args below meth cd H1 locs ls F hS1 hl hw2
  have e9 : am_cv E (.ref (16 + G.2.1.length)) = .ref H.size := by
    show Value.ref (am_ph E _) = _
    rw [am_ph_new hsz.symm]
  show W p E.1 e (am_R d mc ms) s m args below meth cd H1 locs (cu + 1) (su + N) _ (F0 m (pc + 2) ls (.ref H.size :: st.map (am_cv E)))
  rw [← e9]
  exact key
theorem am_anew (hE : am_EH E) {t N idx : Nat} {C : String} {x : Int32} (hd : decode M.2.1 pc = .ok (.anewarray idx, 3)) (ht : 2 ≤ t) (hty : (am_tys E)[t]? = some (E.2.2.1 t, .object C)) (hl9 : Cond.classLink M.1.cls idx C ∈ am_tg) (hov : Cond.arrayOver (.object C) ∈ am_tg) (hx : x = Int32.ofNat N) (hN : N < 100000) (hal : G.2.2 = true) (h0 : am_new0 G D (16 + G.2.1.length)) (hc : cu + 1 ≤ mc) (hs : su + N ≤ ms)
    (k : am_S E M d mc ms o G' D' (cu + 1) (su + N) (pc + 3) lv (.ref (16 + G.2.1.length) :: st) (am_push G (20 + t, N)) D) : am_S E M d mc ms o G' D' cu su pc lv (.int x :: st) G D := by
  intro p e s m args below meth cd H locs ls F hS hl hW
  have hts := F.2.2.2.2.2.1
  have hK := hE.K F.2.2.2.2.2.2.2.2.2.1
  have hsz := hW.2.2.2 hal
  have hxN : x.toNatClampNeg = N := by rw [hx]; exact nI_clamp (by omega)
  have hx0 : ¬ x < 0 := by rw [hx]; exact nI_pos (by omega)
  subst hxN
  refine W.anew F.1 F.2.1 F.2.2.2.2.1 (hts _ hl9) (hts _ hov) rfl hd rfl hx0 (by omega) hc hs fun cA kA comp f1 f2 f3 f4 => ?_
  generalize hH1 : H.push ({ cls := cA, slots := Array.replicate x.toNatClampNeg .null, vm := .none } : Cell) = H1
  have z1 : H1.size = H.size + 1 := by rw [← hH1, Array.size_push]
  have e1 : H1[H.size]? = some (arrV cA x.toNatClampNeg (fun _ => .null)) := by rw [← hH1, Array.getElem?_push_size, ← arrV_new]
  have o1 : ∀ q : Nat, q < H.size → H1[q]? = H[q]? := fun q hq => by rw [← hH1, Array.getElem?_push, if_neg (Nat.ne_of_lt hq)]
  have hcA : cA = E.2.2.1 t := by
    obtain ⟨kA2, comp2, -, -, -, h9⟩ := (hK.2 t _ hty).2
    exact Option.some.inj (f1.symm.trans h9)
  subst hcA
  have e20 : 20 + t - 20 = t := by omega
  have hw2 : am_WH E (am_push G (20 + t, x.toNatClampNeg)) D H1 := by
    refine am_WH_push hW hal z1 o1 ?_
    rw [am_cell_arr (by omega), e20, am_arr_q ht]
    show H1[H.size]? = some (vp_cell _ _)
    rw [e1, vp_cell_q]
    congr 2
    funext j
    show Value.null = va_rf ((G.1 _ j).map _)
    rw [h0.2.2 j]
    rfl
  have hS1 : va_S (am_A E) s.heap H1 locs := ⟨Nat.le_trans hS.1 (by omega), fun x h1 h2 => (o1 x (Nat.lt_of_lt_of_le h1 hS.1)).trans (hS.2.1 x h1 h2), hS.2.2⟩
  have key := k p e s m args below meth cd H1 locs ls F hS1 hl hw2
  have e9 : am_cv E (.ref (16 + G.2.1.length)) = .ref H.size := by
    show Value.ref (am_ph E _) = _
    rw [am_ph_new hsz.symm]
  show W p E.1 e (am_R d mc ms) s m args below meth cd H1 locs (cu + 1) (su + x.toNatClampNeg) _ (F0 m (pc + 3) ls (.ref H.size :: st.map (am_cv E)))
  rw [← e9]
  exact key
/-- Object's own constructor -/
theorem am_objInit {a idx : Nat} (hd : decode M.2.1 pc = .ok (.invokespecial idx, 3)) (hl9 : Cond.methodLink M.1.cls idx objectInit ∈ am_tg) (h1 : Cond.instanceMethod objectInit ∈ am_tg) (h2 : Cond.code objectInit ⟨#[0xb1]⟩ 1 none ∈ am_tg) (hst : (st.map fun v => v.category).sum ≤ 8)
    (k : am_S E M d mc ms o G' D' cu su (pc + 3) lv st G D) : am_S E M d mc ms o G' D' cu su pc lv (.ref a :: st) G D := by
  intro p e s m args below meth cd H locs ls F hS hl hW
  have hts := F.2.2.2.2.2.1
  exact W.objInit F.1 F.2.1 F.2.2.2.2.1 (hts _ hl9) (hts _ h1) (hts _ h2) rfl (by rw [F.2.2.1]; exact hl.1) rfl hd (Nat.le_trans (by decide) am_Rf) (by show 2 * 0 + _ + 12 ≤ _; rw [am_cats]; exact Nat.le_trans (by omega) (am_Rl (d := d) (mc := mc) (ms := ms))) (k p e s m args below meth cd H locs ls F hS hl hW)
/-- a constructor of one's own -/
theorem am_callI {M2 : am_M} {n d2 mc2 ms2 idx a : Nat} {As : List Value} {G2 : am_G} {D2 : am_D} (hd : decode M.2.1 pc = .ok (.invokespecial idx, 3)) (hM : am_okM M2 n) (hh : M2.2.2.2.2 = []) (hr : M2.2.2.2.1 = none) (hnm : M2.1.name = "<init>") (hl : Cond.methodLink M.1.cls idx M2.1 ∈ am_tg) (hi : Cond.instanceMethod M2.1 ∈ am_tg)
    (hc : am_C E M2 d2 mc2 ms2 (.ref a :: As) G D (.inl none) G2 D2) (hn : As.length = n) (hd2 : d2 < d) (hst : (st.map fun v => v.category).sum ≤ 8) (hcu : cu + mc2 ≤ mc) (hsu : su + ms2 ≤ ms)
    {st0 : List Value} (hst0 : st0 = As.reverse ++ .ref a :: st) (k : am_S E M d mc ms o G' D' (cu + mc2) (su + ms2) (pc + 3) lv st G2 D2) : am_S E M d mc ms o G' D' cu su pc lv st0 G D := by
  subst hst0
  intro p e s m args below meth cd H locs ls F hS hl9 hW
  have hts := F.2.2.2.2.2.1
  have cb := am_callB (d := d) (mc := mc) (ms := ms) (mc2 := mc2) (ms2 := ms2) hM hh hts hl hd2
  rw [hr] at cb
  have hM0 : Met E.1 M2.1 (am_ws M2) (am_R d2 mc2 ms2) (va_Pc ((Value.ref a :: As).map (am_cv E)) (fun U => (am_s0 E).WarmedH U.vm ∧ am_WH E G D U.heap)) (am_Qc E (.inl none) G2 D2) mc2 ms2 (am_A E) := by
    intro p9 e9 a9 b9 c9 s9 m9 args9 below9 f9 g9 h9 k9
    obtain ⟨n9, o9, x1, x2, x3, x4⟩ := hc p9 e9 a9 b9 c9 s9 m9 args9 below9 f9 g9 h9 k9
    refine ⟨n9, o9, x1, x2, x3, ?_⟩
    rcases x4 with x4 | ⟨q, -, En, ce, L, ⟨hx, -⟩, -⟩
    · exact x4
    · cases hx
  have hr9 := va_runI (H := H) (locs := locs) (cells := cu) (slots := su) (e := e) (below := below) (meth := meth) (g := F0 m pc ls ((As.reverse ++ .ref a :: st).map (am_cv E))) (Ts := am_tg) (b := am_ph E a) (As := As.map (am_cv E)) (rest := st.map (am_cv E)) ⟨F.1, F.2.1, F.2.2.1, F.2.2.2.2.1, hts⟩ hM0 ⟨cb, hnm, hts _ hi⟩
    ⟨am_blind, fun U hU hW9 => ⟨rfl, State.WarmedH.trans F.2.2.2.2.2.2.2.2.2.1 hW9, by rw [hU]; exact hW⟩⟩ rfl (by rw [List.length_map]; exact hn) hl9.1 (by rw [List.map_append, am_rev]; rfl) (by show 2 * 0 + _ ≤ 8; rw [am_cats]; omega) hd ⟨hcu, hsu⟩
  intro T hT X
  obtain ⟨v9, st₀, t, T', L, h0, X', hL, e1, e2, ⟨⟨w, hw, hv, hb⟩, hF⟩, go⟩ := hr9 T hT X
  cases hw
  cases hv
  obtain ⟨k1, k2, k3⟩ := vx_keep h0 e1 hS (fun q _ h => h) (fun q h => h) hL hF
  obtain ⟨t2, a1, b1⟩ := k p e s m args below meth cd T'.heap (locs ++ L) ls F k3 hl9 (by rw [e1]; exact hb) T' rfl X'
  exact ⟨t2, go t2 a1, b1⟩
end AMT
