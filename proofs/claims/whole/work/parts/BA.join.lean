/-! the law: its script, and what the two sides together do -/
abbrev am_L (E : am_E) : Nat := E.2.2.2.2.2.2.1
abbrev am_x (E : am_E) : Nat → Int32 := E.2.2.2.2.2.2.2
theorem shq_2637 : am_sh am_G0 2637 = some (21, 1) := by decide +kernel
section AMLW
variable {E : am_E} {M : am_M} {d mc ms : Nat} {o : am_O} {G' : am_G} {D' : am_D} {cu su pc : Nat} {lv : List (Nat × Value)} {st : List Value} {G : am_G} {D : am_D}
theorem am_scrAt (hE : am_EH E) {p : Program} {s : State} {m : MethodId} {args : Array Value} {meth : Method} {c : Code} (F : am_Fix E M p s m args meth c) : va_X E.2.2.2.2.2.1 (am_L E) (am_x E) s s.heap ∧ E.2.2.2.2.2.1 < s.heap.size ∧ ¬ am_A E E.2.2.2.2.2.1 ∧ am_cv E (.ref 0) = .ref E.2.2.2.2.2.1 := by
  obtain ⟨hX, hb, h0⟩ := hE.2.2.2.2.2.2.2
  have hw0 := F.2.2.2.2.2.2.2.2.2.1
  have hold := F.2.2.2.2.2.2.2.2.2.2.1
  have hsz := F.2.2.2.2.2.2.2.2.2.2.2
  refine ⟨(hX.moved hw0.alike).kept (hold _ hb), Nat.lt_of_lt_of_le hb hsz, fun q => absurd hb (Nat.not_lt.mpr q), ?_⟩
  show Value.ref (am_ph E 0) = _
  unfold am_ph
  rw [if_pos (by decide), h0]
theorem am_sld (hE : am_EH E) {i : Int32} {j : Nat} (hd : decode M.2.1 pc = .ok (.iaload, 1)) (hi : i = Int32.ofNat j) (hj : j < am_L E) (hL : am_L E ≤ 3072) (k : am_S E M d mc ms o G' D' cu su (pc + 1) lv (.int (am_x E j) :: st) G D) : am_S E M d mc ms o G' D' cu su pc lv (.int i :: .ref 0 :: st) G D := by
  intro p e s m args below meth cd H locs ls F hS hl hW
  obtain ⟨hX, hb, hA, hcv⟩ := am_scrAt hE F
  have ei : i.toNatClampNeg = j := by rw [hi]; exact j_cn (by omega)
  have hin : vp_in i (am_L E) := am_in_vp (by rw [hi]; exact j_in (by rw [j_nat (by omega)]; omega) (by rw [j_nat (by omega)]; omega))
  have key := k p e s m args below meth cd H locs ls F hS hl hW
  show W p E.1 e (am_R d mc ms) s m args below meth cd H locs cu su _ (F0 m pc ls (.int i :: am_cv E (.ref 0) :: st.map (am_cv E)))
  rw [hcv]
  refine va_sld F.1 F.2.1 hX hb hA hS hin hd ?_
  rw [ei]
  exact key
theorem am_slenX (hE : am_EH E) (hd : decode M.2.1 pc = .ok (.arraylength, 1)) (k : am_S E M d mc ms o G' D' cu su (pc + 1) lv (.int (Int32.ofNat (am_L E)) :: st) G D) : am_S E M d mc ms o G' D' cu su pc lv (.ref 0 :: st) G D := by
  intro p e s m args below meth cd H locs ls F hS hl hW
  obtain ⟨hX, hb, hA, hcv⟩ := am_scrAt hE F
  have key := k p e s m args below meth cd H locs ls F hS hl hW
  show W p E.1 e (am_R d mc ms) s m args below meth cd H locs cu su _ (F0 m pc ls (am_cv E (.ref 0) :: st.map (am_cv E)))
  rw [hcv]
  exact va_slen F.1 F.2.1 hX hb hA hS hd key
end AMLW
theorem k_cmp (x : Int64) : lg_cmp x x = 0 := by
  unfold lg_cmp
  simp
theorem k_lf_r {α : Type} {D D1 : am_D} {o : Option (String ⊕ α)} {v : α} (h : k_lf D o = some (.inr (v, D1))) : o = some (.inr v) ∧ D1 = D := by
  rcases o with _ | e | w
  · cases h
  · cases h
  · cases h
    exact ⟨rfl, rfl⟩
theorem k_lf_l {α : Type} {D D1 : am_D} {o : Option (String ⊕ α)} {e : String} (h : k_lf D o = some (.inl (e, D1))) : o = some (.inl e) ∧ D1 = D := by
  rcases o with _ | e9 | w
  · cases h
  · cases h
    exact ⟨rfl, rfl⟩
  · cases h
theorem k_lv_r {α : Type} {D D1 : am_D} {o : Option α} {v : α} (h : k_lv D o = some (v, D1)) : o = some v ∧ D1 = D := by
  rcases o with _ | w
  · cases h
  · cases h
    exact ⟨rfl, rfl⟩
theorem k_joinN {α : Type} {f1 f2 : am_D → Option (α × am_D)} (hop : ∀ D E, k_Q D E → k_opN D E (f1 D) (f2 E)) {D : am_D} (q : k_Q D D) : ∃ D1 D2 v, f1 D = some (v, D1) ∧ f2 D1 = some (v, D2) ∧ k_Q D2 D2 := by
  obtain ⟨D1, _, v, a1, _, _, fc, _⟩ := hop D D q
  have q1 : k_Q D D1 := k_Q_right q (fun y h1 _ => (fc y h1).1)
  obtain ⟨D1b, D2, v2, b1, b2, qn, _, fr⟩ := hop D D1 q1
  have e := Option.some.inj (a1.symm.trans b1)
  have e1 : v = v2 := congrArg Prod.fst e
  have e2 : D1 = D1b := congrArg Prod.snd e
  subst e1
  subst e2
  exact ⟨D1, D2, v, a1, b2, k_Q_left qn (fun y hy => (fr y (Or.inl hy)).1)⟩
theorem k_joinE {α : Type} {f1 : am_D → Option ((String × am_D) ⊕ (α × am_D))} {f2 : am_D → Option (α × am_D)} {ex : List String} (w : α → Int64) (hop : ∀ D E, k_Q D E → k_opE D E (f1 D) (f2 E) ex) {D : am_D} (q : k_Q D D) :
    (∃ D1 D2 v, f1 D = some (.inr (v, D1)) ∧ f2 (am_wL D1 2637 0 (w v)) = some (v, D2) ∧ D2.1 117 0 = 0 ∧ k_Q D2 D2 ∧ D2.2 2637 0 = w v) ∨
    (∃ D1 D2 u j nm, ex[j]? = some nm ∧ f1 D = some (.inl (nm, D1)) ∧ f2 D1 = some (u, D2) ∧ D2.1 117 0 = Int32.ofNat (j + 1) ∧ k_Q D2 D2) := by
  rcases hop D D q with ⟨D1, _, v, a1, _, _, _, fc, _⟩ | ⟨D1, _, _, j, nm, a0, a1, _, _, _, fc, _⟩
  · have q1 : k_Q D (am_wL D1 2637 0 (w v)) := k_Q_right q (fun y h1 _ => (fc y h1).1)
    rcases hop D _ q1 with ⟨D1b, D2, v2, b1, b2, b3, qn, _, fr⟩ | ⟨_, _, _, j, nm, _, b1, _⟩
    · have e := Sum.inr.inj (Option.some.inj (a1.symm.trans b1))
      have e1 : v = v2 := congrArg Prod.fst e
      have e2 : D1 = D1b := congrArg Prod.snd e
      subst e1
      subst e2
      refine Or.inl ⟨D1, D2, v, a1, b2, b3, k_Q_left qn (fun y hy => (fr y (Or.inl hy)).1), ?_⟩
      rw [(fr 2637 (Or.inr (by decide))).2]
      show am_up2 D1.2 2637 0 (w v) 2637 0 = _
      rw [am_up2_at]
      exact if_pos rfl
    · rw [a1] at b1
      cases b1
  · have q1 : k_Q D D1 := k_Q_right q (fun y h1 _ => (fc y h1).1)
    rcases hop D _ q1 with ⟨_, _, _, b1, _⟩ | ⟨D1b, D2, u, j2, nm2, b0, b1, b2, b3, qn, _, fr⟩
    · rw [a1] at b1
      cases b1
    · have e := Sum.inl.inj (Option.some.inj (a1.symm.trans b1))
      have e1 : nm = nm2 := congrArg Prod.fst e
      have e2 : D1 = D1b := congrArg Prod.snd e
      subst e1
      subst e2
      exact Or.inr ⟨D1, D2, u, j2, nm, b0, a1, b2, b3, k_Q_left qn (fun y hy => (fr y (Or.inl hy)).1)⟩
