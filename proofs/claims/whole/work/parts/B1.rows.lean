/-! rows for the constructors and for the law: references into rows, rows of rows, methods with handlers -/
/-- the classes of rows of references are there, at the law's start -/
def am_AO (E : am_E) : Prop := (∀ C, C ∈ [RX7, RX9, RX5, RX4] → va_AO C (am_s0 E)) ∧ am_AA (am_s0 E)
section AMB
variable {E : am_E} {M : am_M} {d mc ms : Nat} {o : am_O} {G' : am_G} {D' : am_D} {cu su pc : Nat} {lv : List (Nat × Value)} {st : List Value} {G : am_G} {D : am_D}
theorem am_aast (hE : am_EH E) {a b t n c nf : Nat} {C : String} {T : u_T} {i : Int32} (hd : decode M.2.1 pc = .ok (.aastore, 1)) (hk : am_sh G a = some (20 + t, n)) (ht : 2 ≤ t) (hty : (am_tys E)[t]? = some (E.2.2.1 t, .object C)) (hb : am_sh G b = some (c, nf)) (hC : am_CF c nf C T) (hin : vp_in i n)
    (k : am_S E M d mc ms o G' D' cu su (pc + 1) lv st (am_wR G a i.toNatClampNeg (some b)) D) : am_S E M d mc ms o G' D' cu su pc lv (.ref b :: .int i :: .ref a :: st) G D := by
  intro p e s m args below meth cd H locs ls F hS hl hW
  have e20 : 20 + t - 20 = t := by omega
  have hP := hW.one hk
  rw [am_cell_arr (by omega), e20, am_arr_q ht] at hP
  have hV := hW.one hb
  have hcell : am_cell E G D b (c, nf) = .inr (c, am_fields E G D b c nf) := if_pos hC.2.1
  rw [hcell] at hV
  have hK := hE.K F.2.2.2.2.2.2.2.2.2.1
  have hlt : i.toNatClampNeg < n := Nat.not_le.mp fun q => hin (Or.inr q)
  have hi0 : ¬ i < 0 := fun q => hin (Or.inl q)
  obtain ⟨r', hr', cellV, g1, g2, g3, -⟩ := hV 0 _ rfl
  have hcls := (hK.1 c _ hC.1).2
  obtain ⟨kA, comp, k1, k2, k3, -⟩ := (hK.2 t _ hty).2
  have hcomp : comp = E.2.1.1 c := Option.some.inj (k3.symm.trans hcls.1)
  subst hcomp
  obtain ⟨kC, hkC, -⟩ := hcls.2
  have hA : am_A E (am_ph E a) := by rw [am_ph_ge E (am_sh_ge hk)]; exact Nat.le_add_right _ _
  refine W.aast F.1 F.2.1 (hP 0 _ rfl) (fun q h => by cases h) (fun h => by cases h) k1 k2 rfl hkC ⟨hi0, by show _ < (arrV _ _ _).slots.size; rw [arrV_size]; exact hlt⟩ g1 (fun q h => by rw [g3] at h; cases h) (by rw [g2]; exact hkC) (by rw [g2]; exact va_assign hcls) rfl rfl hd fun H1 e1 z oq => ?_
  refine k p e s m args below meth cd H1 _ ls F (hS.put z oq hA) hl (am_WH_set hW hk rfl (fun y sh' hy => am_cell_wR sh' hy) ?_ z oq)
  rw [am_cell_arr (by omega), e20, am_arr_q ht]
  show H1[am_ph E a]? = some (vp_cell _ _)
  rw [e1]
  rw [vp_cell_q, vp_cell_q, arrV_store]
  congr 2
  funext q
  show _ = va_rf ((am_up2 G.1 a i.toNatClampNeg (some b) a q).map (am_ph E))
  rw [am_up2_at]
  by_cases hq : q = i.toNatClampNeg
  · subst hq
    simp [updV, va_rf]
  · simp [updV, hq]
/-- a row of references -/
theorem am_anewA (hE : am_EH E) (hA : am_AO E) {t N idx : Nat} {C : String} {x : Int32} (hd : decode M.2.1 pc = .ok (.anewarray idx, 3)) (ht : 2 ≤ t) (hty : (am_tys E)[t]? = some (E.2.2.1 t, .object C)) (hl9 : Cond.classLink M.1.cls idx C ∈ am_tg) (hov : C ∈ [RX7, RX9, RX5, RX4]) (hx : x = Int32.ofNat N) (hN : N < 100000) (hal : G.2.2 = true) (h0 : am_new0 G D (16 + G.2.1.length)) (hc : cu + 1 ≤ mc) (hs : su + N ≤ ms)
    (k : am_S E M d mc ms o G' D' (cu + 1) (su + N) (pc + 3) lv (.ref (16 + G.2.1.length) :: st) (am_push G (20 + t, N)) D) : am_S E M d mc ms o G' D' cu su pc lv (.int x :: st) G D := by
  intro p e s m args below meth cd H locs ls F hS hl hW
  have hts := F.2.2.2.2.2.1
  have hK := hE.K F.2.2.2.2.2.2.2.2.2.1
  have hsz := hW.2.2.2 hal
  have hxN : x.toNatClampNeg = N := by rw [hx]; exact nI_clamp (by omega)
  have hx0 : ¬ x < 0 := by rw [hx]; exact nI_pos (by omega)
  subst hxN
  refine W.anew F.1 F.2.1 F.2.2.2.2.1 (hts _ hl9) (va_AO.use (va_AO.moved F.2.2.2.2.2.2.2.2.2.1.alike (hA.1 C hov))) rfl hd rfl hx0 (by omega) hc hs fun cA kA comp f1 f2 f3 f4 => ?_
  generalize hH1 : H.push ({ cls := cA, slots := Array.replicate x.toNatClampNeg .null, vm := .none } : Cell) = H1
  have z1 : H1.size = H.size + 1 := by rw [← hH1, Array.size_push]
  have e1 : H1[H.size]? = some (arrV cA x.toNatClampNeg (fun _ => .null)) := by rw [← hH1, Array.getElem?_push_size, ← arrV_new]
  have o1 : ∀ q : Nat, q < H.size → H1[q]? = H[q]? := fun q hq => by rw [← hH1, Array.getElem?_push, if_neg (Nat.ne_of_lt hq)]
  have hcA : cA = E.2.2.1 t := by
    obtain ⟨kA2, comp2, -, -, -, h9⟩ := (hK.2 t _ hty).2
    exact Option.some.inj (f1.symm.trans h9)
  subst hcA
  have e20 : 20 + t - 20 = t := by omega
  have hw2 : am_WH E (am_push G (20 + t, x.toNatClampNeg)) D H1 := by
    refine am_WH_push hW hal z1 o1 ?_
    rw [am_cell_arr (by omega), e20, am_arr_q ht]
    show H1[H.size]? = some (vp_cell _ _)
    rw [e1, vp_cell_q]
    congr 2
    funext j
    show Value.null = va_rf ((G.1 _ j).map _)
    rw [h0.2.2 j]
    rfl
  have hS1 : va_S (am_A E) s.heap H1 locs := ⟨Nat.le_trans hS.1 (by omega), fun x h1 h2 => (o1 x (Nat.lt_of_lt_of_le h1 hS.1)).trans (hS.2.1 x h1 h2), hS.2.2⟩
  have key := k p e s m args below meth cd H1 locs ls F hS1 hl hw2
  have e9 : am_cv E (.ref (16 + G.2.1.length)) = .ref H.size := by
    show Value.ref (am_ph E _) = _
    rw [am_ph_new hsz.symm]
  show W p E.1 e (am_R d mc ms) s m args below meth cd H1 locs (cu + 1) (su + x.toNatClampNeg) _ (F0 m (pc + 3) ls (.ref H.size :: st.map (am_cv E)))
  rw [← e9]
  exact key
/-- the world with a row of rows more -/
def am_push2 (G : am_G) (N K : Nat) : am_G := (fun a => if a = 16 + G.2.1.length then (fun j => if j < N then some (16 + G.2.1.length + 1 + j) else none) else G.1 a, G.2.1 ++ ((26, N) :: List.replicate N (20, K)), true)
theorem am_multi (hE : am_EH E) (hA : am_AO E) {N K idx : Nat} {x y : Int32} (hd : decode M.2.1 pc = .ok (.multianewarray idx 2, 4)) (hl9 : Cond.classLink M.1.cls idx "[[I" ∈ am_tg) (har : Cond.arrayClass .int ∈ am_tg) (hx : x = Int32.ofNat N) (hy : y = Int32.ofNat K) (hN : N < 100000) (hK9 : K < 100000) (hal : G.2.2 = true)
    (h0 : ∀ j, j ≤ N → am_new0 G D (16 + G.2.1.length + j)) (hc : cu + (1 + N) ≤ mc) (hs : su + (N + N * K) ≤ ms)
    (k : am_S E M d mc ms o G' D' (cu + 1 + N) (su + N + N * K) (pc + 4) lv (.ref (16 + G.2.1.length) :: st) (am_push2 G N K) D) : am_S E M d mc ms o G' D' cu su pc lv (.int y :: .int x :: st) G D := by
  intro p e s m args below meth cd H locs ls F hS hl hW
  have hts := F.2.2.2.2.2.1
  have hK := hE.K F.2.2.2.2.2.2.2.2.2.1
  have hsz := hW.2.2.2 hal
  have hxN : x.toNatClampNeg = N := by rw [hx]; exact nI_clamp (by omega)
  have hyN : y.toNatClampNeg = K := by rw [hy]; exact nI_clamp (by omega)
  have hx0 : ¬ x < 0 := by rw [hx]; exact nI_pos (by omega)
  have hy0 : ¬ y < 0 := by rw [hy]; exact nI_pos (by omega)
  subst hxN
  subst hyN
  refine mq_W F.1 F.2.1 F.2.2.2.2.1 (hts _ hl9) (hA.2.moved F.2.2.2.2.2.2.2.2.2.1.alike) (hts _ har) rfl hd rfl hx0 hy0 (by omega) (by omega) hc hs fun cA cI H1 f1 f2 f3 f4 f5 f6 => ?_
  have hcA : cA = E.2.2.1 6 := Option.some.inj (f1.symm.trans (hK.2 6 _ rfl).2)
  have hcI : cI = E.2.2.1 0 := Option.some.inj (f2.symm.trans (hK.2 0 _ rfl).2)
  subst hcA
  subst hcI
  have hw2 : am_WH E (am_push2 G x.toNatClampNeg y.toNatClampNeg) D H1 := by
    refine ⟨fun i sh' hi => ?_, fun q hq => ?_, by rw [f3]; have := hW.2.2.1; omega, fun _ => ?_⟩
    · have hi' : (G.2.1 ++ ((26, x.toNatClampNeg) :: List.replicate x.toNatClampNeg (20, y.toNatClampNeg)))[i]? = some sh' := hi
      by_cases h : i < G.2.1.length
      · rw [List.getElem?_append_left h] at hi'
        have h1 := hW.1 i sh' hi'
        have ec : am_cell E (am_push2 G x.toNatClampNeg y.toNatClampNeg) D (16 + i) sh' = am_cell E G D (16 + i) sh' := by
          have er : (am_push2 G x.toNatClampNeg y.toNatClampNeg).1 (16 + i) = G.1 (16 + i) := if_neg (by omega)
          unfold am_cell am_fields am_field am_arr
          rw [er]
        rw [ec]
        exact h1.kept (f4 _ h1.lt)
      · rw [List.getElem?_append_right (by omega)] at hi'
        by_cases h2 : i = G.2.1.length
        · subst h2
          rw [Nat.sub_self] at hi'
          have es : sh' = (26, x.toNatClampNeg) := (Option.some.inj hi').symm
          subst es
          rw [am_cell_arr (by decide), am_arr_q (by decide)]
          show H1[am_bs E + G.2.1.length]? = some (vp_cell _ _)
          rw [← hsz, f5, vp_cell_q]
          congr 2
          funext j
          have er : (am_push2 G x.toNatClampNeg y.toNatClampNeg).1 (16 + G.2.1.length) = fun j => if j < x.toNatClampNeg then some (16 + G.2.1.length + 1 + j) else none := if_pos rfl
          rw [er, mq_f_at]
          by_cases cj : j < x.toNatClampNeg
          · rw [if_pos cj]
            show Value.ref _ = va_rf ((if j < x.toNatClampNeg then some (16 + G.2.1.length + 1 + j) else none).map (am_ph E))
            rw [if_pos cj]
            show Value.ref _ = Value.ref (am_ph E (16 + G.2.1.length + 1 + j))
            rw [am_ph_ge E (by omega), hsz]
            have en : am_bs E + G.2.1.length + 1 + j = am_bs E + (16 + G.2.1.length + 1 + j - 16) := by omega
            rw [en]
          · rw [if_neg cj]
            show Value.null = va_rf ((if j < x.toNatClampNeg then some (16 + G.2.1.length + 1 + j) else none).map (am_ph E))
            rw [if_neg cj]
            rfl
        · obtain ⟨j, rfl⟩ : ∃ j, i = G.2.1.length + 1 + j := ⟨i - G.2.1.length - 1, by omega⟩
          have e1 : G.2.1.length + 1 + j - G.2.1.length = j + 1 := by omega
          rw [e1, List.getElem?_cons_succ, List.getElem?_replicate] at hi'
          by_cases cj : j < x.toNatClampNeg
          · rw [if_pos cj] at hi'
            have es : sh' = (20, y.toNatClampNeg) := (Option.some.inj hi').symm
            subst es
            have z := h0 (j + 1) (by omega)
            have ea : 16 + (G.2.1.length + 1 + j) = 16 + G.2.1.length + (j + 1) := by omega
            rw [am_cell_arr (by decide), ea]
            show H1[am_bs E + (G.2.1.length + 1 + j)]? = some (vp_cell _ (_, .inl (D.1 _)))
            have eb : am_bs E + (G.2.1.length + 1 + j) = H.size + 1 + j := by omega
            rw [eb, f6 j cj, vp_cell_i]
            congr 2
            funext q
            rw [z.1 q]
          · rw [if_neg cj] at hi'
            cases hi'
    · rw [f4 q (Nat.lt_of_lt_of_le hq hW.2.2.1)]
      exact hW.2.1 q hq
    · show H1.size = am_bs E + (G.2.1 ++ ((26, x.toNatClampNeg) :: List.replicate x.toNatClampNeg (20, y.toNatClampNeg))).length
      rw [f3, hsz, List.length_append, List.length_cons, List.length_replicate]
      omega
  have hS1 : va_S (am_A E) s.heap H1 locs := ⟨Nat.le_trans hS.1 (by omega), fun x h1 h2 => (f4 x (Nat.lt_of_lt_of_le h1 hS.1)).trans (hS.2.1 x h1 h2), hS.2.2⟩
  have key := k p e s m args below meth cd H1 locs ls F hS1 hl hw2
  have e9 : am_cv E (.ref (16 + G.2.1.length)) = .ref H.size := by
    show Value.ref (am_ph E _) = _
    rw [am_ph_new hsz.symm]
  show W p E.1 e (am_R d mc ms) s m args below meth cd H1 locs _ _ _ (F0 m (pc + 4) ls (.ref H.size :: st.map (am_cv E)))
  rw [← e9]
  exact key
/-- a static method with handlers, called: it returns -/
theorem am_callSH {M2 : am_M} {n d2 mc2 ms2 idx : Nat} {As : List Value} {v : Option Value} {G2 : am_G} {D2 : am_D} (hd : decode M.2.1 pc = .ok (.invokestatic idx, 3)) (hM : am_okM M2 n) (hh : ¬ M2.2.2.2.2 = []) (hl : Cond.methodLink M.1.cls idx M2.1 ∈ am_tg) (hi : Cond.static M2.1 ∈ am_tg)
    (hc : am_C E M2 d2 mc2 ms2 As G D (.inl v) G2 D2) (hn : As.length = n) (hd2 : d2 < d) (hst : (st.map fun v => v.category).sum ≤ 8) (hcu : cu + mc2 ≤ mc) (hsu : su + ms2 ≤ ms)
    {st0 : List Value} (hst0 : st0 = As.reverse ++ st) (k : am_S E M d mc ms o G' D' (cu + mc2) (su + ms2) (pc + 3) lv (v.toList ++ st) G2 D2) : am_S E M d mc ms o G' D' cu su pc lv st0 G D := by
  subst hst0
  intro p e s m args below meth cd H locs ls F hS hl9 hW
  have hts := F.2.2.2.2.2.1
  have e1 : am_hw M2 = .codeWith M2.1 M2.2.1 M2.2.2.1 M2.2.2.2.1 M2.2.2.2.2 := if_neg hh
  have cw : vx_CSW (am_R d mc ms) s args M.1.cls idx M2.1 M2.2.1 M2.2.2.1 M2.2.2.2.1 M2.2.2.2.2 (am_ws M2) (am_R d2 mc2 ms2) mc2 ms2 n := by
    refine ⟨⟨rfl, rfl, ?_, ?_, am_pay hM hts, ?_⟩, ?_, hts _ hM.2.1, hM.2.2.1, am_sig hM, hts _ hl, hts _ hi⟩
    · show 16 + d2 + 1 ≤ 16 + d
      omega
    · show 8 + (M2.2.2.1 + 11) + (500 + 40 * d2) ≤ 500 + 40 * d
      have := hM.2.2.2.2
      omega
    · rw [← e1]
      exact List.mem_cons_self
    · rw [← e1]
      exact hts _ hM.1
  refine am_after (M2 := M2) (v := v) (a := (As.map (am_cv E)).toArray) (vx_runSX (Ts := am_tg) (As := As.map (am_cv E)) (rest := st.map (am_cv E)) ⟨F.1, F.2.1, F.2.2.1, F.2.2.2.2.1, hts⟩ hc cw
    ⟨am_blind, fun U hU hW9 => ⟨rfl, State.WarmedH.trans F.2.2.2.2.2.2.2.2.2.1 hW9, by rw [hU]; exact hW⟩⟩ rfl (by rw [List.length_map]; exact hn) hl9.1 ?_ ?_ hd ⟨hcu, hsu⟩) rfl F hS hl9 k
  · show (As.reverse ++ st).map (am_cv E) = _
    rw [List.map_append, am_rev]
  · show 2 * 0 + _ ≤ 8
    rw [am_cats]
    omega
/-- a call on an object that throws, caught here by one's own row; the thing caught is put away -/
theorem am_callV_catch (hE : am_EH E) {M2 : am_M} {n d2 mc2 ms2 idx a c nf : Nat} {T : u_T} {As : List Value} {En : String} {G2 : am_G} {D2 : am_D} (hd : decode M.2.1 pc = .ok (.invokevirtual idx, 3)) (hM : am_okM M2 n) (hh : M2.2.2.2.2 = []) (hl : Cond.methodLink M.1.cls idx M2.1 ∈ am_tg) (hi : Cond.instanceMethod M2.1 ∈ am_tg)
    (hg : Cond.selects M2.1.cls M2.1 M2.1 ∈ am_tg) (hk : am_sh G a = some (c, nf)) (hC : am_CF c nf M2.1.cls T) (hc : am_C E M2 d2 mc2 ms2 (.ref a :: As) G D (.inr En) G2 D2) (hn : As.length = n) (hd2 : d2 < d) (hst : (st.map fun v => v.category).sum ≤ 8) (hcu : cu + mc2 ≤ mc) (hsu : su + ms2 ≤ ms)
    {st0 : List Value} (hst0 : st0 = As.reverse ++ .ref a :: st) {pre suf : List (Nat × Nat × Nat × Nat)} {x : Nat × Nat × Nat × Nat} (hh9 : M.2.2.2.2 = pre ++ x :: suf) (hpass : ∀ z ∈ pre, z.2.2.2 ≠ 0 ∧ ∃ nm, Cond.classLink M.1.cls z.2.2.2 nm ∈ am_tg ∧ Cond.not (.castable En nm) ∈ flatC narrow_1)
    (hx : covers ⟨x.1, x.2.1, x.2.2.1, x.2.2.2⟩ pc = true) (h0 : x.2.2.2 ≠ 0) (hlink : Cond.classLink M.1.cls x.2.2.2 En ∈ am_tg) (hcast : Cond.castable En En ∈ tables_1) {i np : Nat}
    (hda : (∃ k9 : Fin 4, decode M.2.1 x.2.2.1 = .ok (.astore_n k9, 1) ∧ (k9 : Nat) = i ∧ np = x.2.2.1 + 1) ∨ (decode M.2.1 x.2.2.1 = .ok (.astore i, 2) ∧ np = x.2.2.1 + 2)) (hi9 : i < M.2.2.1)
    (k : am_S E M d mc ms o G' D' (cu + mc2) (su + ms2) np [] [] G2 D2) : am_S E M d mc ms o G' D' cu su pc lv st0 G D := by
  subst hst0
  intro p e s m args below meth cd H locs ls F hS hl9 hW
  have hts := F.2.2.2.2.2.1
  have hw0 := F.2.2.2.2.2.2.2.2.2.1
  have hr := vx_runV (H := H) (locs := locs) (cells := cu) (slots := su) (e := e) (below := below) (meth := meth) (g := F0 m pc ls ((As.reverse ++ .ref a :: st).map (am_cv E))) (R := am_R d mc ms) (Ts := am_tg) (C := M2.1.cls) (b := am_ph E a) (As := As.map (am_cv E)) (rest := st.map (am_cv E)) ⟨F.1, F.2.1, F.2.2.1, F.2.2.2.2.1, hts⟩ hc ⟨am_callB (mc2 := mc2) (ms2 := ms2) hM hh hts hl hd2, hts _ hi, hts _ hg⟩
    ⟨am_blind, am_recv hE hw0 hW hk hC, fun U hU hW9 => ⟨rfl, State.WarmedH.trans hw0 hW9, by rw [hU]; exact hW⟩⟩ rfl (by rw [List.length_map]; exact hn) hl9.1 (by show (As.reverse ++ .ref a :: st).map (am_cv E) = _; rw [List.map_append, am_rev]; rfl) (by show 2 * 0 + _ ≤ 8; rw [am_cats]; omega) hd ⟨hcu, hsu⟩
  intro T9 hT X
  rcases hr T9 hT X with ⟨v9, st₀, t, T', L, h0', X', hL, e1, e2, ⟨⟨w, hw, -, -⟩, -⟩, -⟩ | ⟨q, st₀, t, T', L, En2, ce, h0', X', hL, e1, e2, ⟨hx2, hb, hF⟩, hce, hcv, hcl, go⟩
  · cases hw
  · cases hx2
    obtain ⟨k1, k2, k3⟩ := vx_keep h0' e1 hS (fun q _ h => h) (fun q h => h) hL hF
    have htb := F.2.2.2.2.2.2.2.1
    have hcast' : (Cond.castable En En).before args s = true := va_Nw.use rfl (am_mv rfl hw0 (hE.2.2.2.1 (.castable En En) hcast rfl))
    have kk : W p E.1 e (am_R d mc ms) s m args below meth cd T'.heap (locs ++ L) (cu + mc2) (su + ms2) (vx_MQ below (am_Qc E o G' D') (am_XC E o G' D') args s mc ms (am_A E)) (F0 m x.2.2.1 ls [.ref q]) := by
      rcases hda with ⟨k9, hda, hik, rfl⟩ | ⟨hda, rfl⟩
      · exact lv_astore_n F.1 F.2.1 hda hik hl9 hi9 rfl (fun ls9 hl10 => k p e s m args below meth cd T'.heap (locs ++ L) ls9 F k3 (am_has hl10 (fun _ h => nomatch h)) (by rw [e1]; exact hb))
      · exact lv_astore F.1 F.2.1 hda hl9 hi9 rfl (fun ls9 hl10 => k p e s m args below meth cd T'.heap (locs ++ L) ls9 F k3 (am_has hl10 (fun _ h => nomatch h)) (by rw [e1]; exact hb))
    obtain ⟨t2, a1, b1⟩ := vx_catch (H := T'.heap) (locs := locs ++ L) (cells := cu + mc2) (slots := su + ms2) (pc := pc) (ls := ls) (rest := st.map (am_cv E)) (E := En) (name := En) (q := q) (ce := ce) (own := M.1.cls) F.2.2.2.2.1 (tableOf pre) ⟨x.1, x.2.1, x.2.2.1, x.2.2.2⟩ (tableOf suf)
      (by rw [htb, hh9]; unfold tableOf; rw [List.map_append, List.map_cons]) (fun z hz => by
        obtain ⟨y, hy, rfl⟩ := List.mem_map.mp hz
        obtain ⟨y1, nm, y2, y3⟩ := hpass y hy
        exact Or.inr ⟨y1, nm, hts _ y2, va_Nc.moved hw0.alike (hE.2.2.2.2.1 En nm y3)⟩) hx h0 (hts _ hlink) hcast' (by rw [e1]; exact hce) hcv hcl kk T' rfl X'
    exact ⟨t2, go.trans a1, b1⟩
end AMB
