/-! operations that change numbers: pieces, blowing, weigh, way, part, hum -/
theorem k_allowed (w o s : Int32) : f_X5_allowed w o s = some (if 4 ≤ w.toInt ∧ w.toInt ≤ 64 ∧ 1 ≤ o.toInt ∧ o.toInt ≤ k_q w.toInt 2 ∧ 0 ≤ s.toInt ∧ s.toInt ≤ 20 then 1 else 0) ∧ f_X12_arePieces w o s = some (if 4 ≤ w.toInt ∧ w.toInt ≤ 64 ∧ 1 ≤ o.toInt ∧ o.toInt ≤ k_q w.toInt 2 ∧ 0 ≤ s.toInt ∧ s.toInt ≤ 20 then 1 else 0) := by
  have e0 : (0 : Int32).toInt = 0 := rfl
  have e1 : (1 : Int32).toInt = 1 := rfl
  have e2 : (2 : Int32).toInt = 2 := rfl
  have e4 : (4 : Int32).toInt = 4 := rfl
  have e20 : (20 : Int32).toInt = 20 := rfl
  have e64 : (64 : Int32).toInt = 64 := rfl
  have ed : (w / 2).toInt = k_q w.toInt 2 := k_D w 2 (by decide)
  have key : ∀ F : Int32 → Int32 → Int32 → Option Int32, (∀ x a b : Int32, F x a b = some (if a.toInt ≤ x.toInt ∧ x.toInt ≤ b.toInt then 1 else 0)) → ((F w 4 64).bind fun x2 => if x2 = 0 then some (0 : Int32) else (F o 1 (w / 2)).bind fun x5 => if x5 = 0 then some 0 else (F s 0 20).bind fun x8 => if x8 = 0 then some 0 else some 1) = some (if 4 ≤ w.toInt ∧ w.toInt ≤ 64 ∧ 1 ≤ o.toInt ∧ o.toInt ≤ k_q w.toInt 2 ∧ 0 ≤ s.toInt ∧ s.toInt ≤ 20 then 1 else 0) := by
    intro F hF
    rw [hF, hF, hF, ed, e0, e1, e4, e20, e64, Option.bind_some]
    by_cases c1 : 4 ≤ w.toInt ∧ w.toInt ≤ 64
    · rw [if_pos c1, if_neg k_10, Option.bind_some]
      by_cases c2 : 1 ≤ o.toInt ∧ o.toInt ≤ k_q w.toInt 2
      · rw [if_pos c2, if_neg k_10, Option.bind_some]
        by_cases c3 : 0 ≤ s.toInt ∧ s.toInt ≤ 20
        · rw [if_pos c3, if_neg k_10, if_pos ⟨c1.1, c1.2, c2.1, c2.2, c3.1, c3.2⟩]
        · rw [if_neg c3, if_pos rfl, if_neg (fun z => c3 ⟨z.2.2.2.2.1, z.2.2.2.2.2⟩)]
      · rw [if_neg c2, if_pos rfl, if_neg (fun z => c2 ⟨z.2.2.1, z.2.2.2.1⟩)]
    · rw [if_neg c1, if_pos rfl, if_neg (fun z => c1 ⟨z.1, z.2.1⟩)]
  exact ⟨key f_X11_within k_cwithin, key f_X12_in k_in⟩
theorem k_allowed_pv {w o s : Int32} (c : 4 ≤ w.toInt ∧ w.toInt ≤ 64 ∧ 1 ≤ o.toInt ∧ o.toInt ≤ k_q w.toInt 2 ∧ 0 ≤ s.toInt ∧ s.toInt ≤ 20) : ∃ w' o' s' : Nat, k_pv w' o' s' ∧ w = Int32.ofNat w' ∧ o = Int32.ofNat o' ∧ s = Int32.ofNat s' := by
  obtain ⟨c1, c2, c3, c4, c5, c6⟩ := c
  unfold k_q at c4
  rw [if_pos (by omega)] at c4
  exact ⟨w.toInt.toNat, o.toInt.toNat, s.toInt.toNat, ⟨by omega, by omega, by omega, by omega, by omega⟩, j_of (by omega), j_of (by omega), j_of (by omega)⟩
/-- three numbers written into one object -/
theorem k_w3 (D : am_D) (p : Nat) (w o s : Int32) : ∃ D2, D2 = am_wI (am_wI (am_wI D p 0 w) p 1 o) p 2 s ∧ D2.1 p 0 = w ∧ D2.1 p 1 = o ∧ D2.1 p 2 = s ∧ (∀ j, 3 ≤ j → D2.1 p j = D.1 p j) ∧ (∀ y, y ≠ p → D2.1 y = D.1 y) ∧ D2.2 = D.2 :=
  ⟨_, rfl, by rw [k_wj _ _ (by decide), k_wj _ _ (by decide), k_ws], by rw [k_wj _ _ (by decide), k_ws], by rw [k_ws], fun j hj => by rw [k_wj _ _ (by omega), k_wj _ _ (by omega), k_wj _ _ (by omega)], fun y hy => by rw [j_wI_ne _ _ _ hy, j_wI_ne _ _ _ hy, j_wI_ne _ _ _ hy], rfl⟩
/-- three numbers written into three fields -/
theorem k_w3f (D : am_D) (p a : Nat) (w o s : Int32) : ∃ D2, D2 = am_wI (am_wI (am_wI D p a w) p (a + 1) o) p (a + 2) s ∧ D2.1 p a = w ∧ D2.1 p (a + 1) = o ∧ D2.1 p (a + 2) = s ∧ (∀ j, (j < a ∨ a + 3 ≤ j) → D2.1 p j = D.1 p j) ∧ (∀ y, y ≠ p → D2.1 y = D.1 y) ∧ D2.2 = D.2 :=
  ⟨_, rfl, by rw [k_wj _ _ (by omega), k_wj _ _ (by omega), k_ws], by rw [k_wj _ _ (by omega), k_ws], by rw [k_ws], fun j hj => by rw [k_wj _ _ (by omega), k_wj _ _ (by omega), k_wj _ _ (by omega)], fun y hy => by rw [j_wI_ne _ _ _ hy, j_wI_ne _ _ _ hy, j_wI_ne _ _ _ hy], rfl⟩
theorem op_pieces {D E : am_D} (h : k_Q D E) (w o s : Int32) : k_opE D E (f_X11_pieces w o s D) (f_X12_pieces w o s E) ["java/lang/IllegalArgumentException"] := by
  obtain ⟨E0, hE0, t0, f0, q0⟩ := k_start h
  have q0' := q0
  obtain ⟨ns, nm, nw, np, nh, ni, h1, h2, h3, h4, h5, h6, h7, h8, h9⟩ := q0'

  unfold f_X12_pieces f_X11_pieces
  rw [Option.bind_some, ← hE0, (k_allowed w o s).1, (k_allowed w o s).2, Option.bind_some, Option.bind_some]
  by_cases c : 4 ≤ w.toInt ∧ w.toInt ≤ 64 ∧ 1 ≤ o.toInt ∧ o.toInt ≤ k_q w.toInt 2 ∧ 0 ≤ s.toInt ∧ s.toInt ≤ 20
  · obtain ⟨w', o', s', hpv, rfl, rfl, rfl⟩ := k_allowed_pv c
    obtain ⟨⟨w0, o0, s0, g0, g1, g2, g3, g4, g5, g6⟩, h3b, h3c⟩ := h3
    obtain ⟨D2, hD2, x0, x1, x2, x3, dD, xl⟩ := k_w3 D 23 (Int32.ofNat w') (Int32.ofNat o') (Int32.ofNat s')
    obtain ⟨E2, hE2, y0, y1, y2, e117, eE, yl⟩ := k_w3f E0 117 14 (Int32.ofNat w') (Int32.ofNat o') (Int32.ofNat s')
    have d17 : ∀ j, 0 ≤ j → D2.1 17 j = D.1 17 j := fun j _ => by rw [dD 17 (by omega)]
    have hE2 : E2 = am_wI (am_wI (am_wI E0 117 14 (Int32.ofNat w')) 117 15 (Int32.ofNat o')) 117 16 (Int32.ofNat s') := hE2
    rw [if_pos c, k_nT E0 1 t0, if_pos rfl, Option.bind_some, Option.bind_some, Option.bind_some, ← hE2]
    show k_opE D E (am_btD (some (Sum.inr ())) D fun x4 => (f_X5_set 23 (Int32.ofNat w') (Int32.ofNat o') (Int32.ofNat s') D).bind fun x6 => some (.inr ((D.1 23 0), x6))) _ _
    rw [k_btR, k_set0, ← hD2, g1]
    refine k_valE (Int32.ofNat w0) (D1 := D2) (E1 := E2) ⟨ns, nm, nw, np, nh, ni, k_Rs_mv h1 (d17 7 (by omega)) (e117 12 (by omega)) (fun y a b => dD y (by omega)) (eE _ (by omega)) (fun y a b => eE y (by omega)), k_Rm_mv h2 (d17 8 (by omega)) (e117 13 (by omega)) (fun y a b => dD y (by omega)) (eE _ (by omega)) (fun y a b => eE y (by omega)), ⟨⟨w', o', s', hpv, x0, x1, x2, y0, y1, y2⟩, ?_, ?_⟩, k_Rw_mv h4 (d17 9 (by omega)) (e117 20 (by omega)) (fun y a b => dD y (by omega)) (fun y a b => eE y (by omega)), k_Rp_mv h5 (by rw [dD 24 (by omega)]) (e117 21 (by omega)) (fun y a b => dD y (by omega)) (fun y a b => eE y (by omega)), k_Rh_mv h6 (d17 10 (by omega)) (e117 22 (by omega)) (dD _ (by omega)) (eE _ (by omega)), k_Ri_mv h7 (fun _ => Nat.le_refl _) (by rw [dD 16 (by omega)]) (e117 23 (by omega)) (fun y a b => dD y (by omega)) (fun y a b => eE y (by omega)) (fun s hs => by have hs : s < ns := hs; have := h1.1; exact ⟨by rw [eE 139 (by omega)], fun k _ => by rw [eE (134 + s) (by omega)]⟩) (fun m hm => by have hm : m < nm := hm; have := h2.1; exact ⟨by rw [eE 201 (by omega)], fun k j _ _ => by rw [eE _ (by omega)]⟩) (fun w j hw _ => by have hw : w < nw := hw; have := h4.1; rw [eE _ (by omega)]) (fun p j hp _ => by have hp : p < np := hp; have := h5.1; rw [eE _ (by omega)]) (fun z _ => by rw [eE 203 (by omega)]), k_Rd_mv h8 (fun y a b => dD y (by omega)) (fun j a b => e117 j (by omega)) (fun y _ => ⟨by rw [eE 221 (by omega)], by rw [eE 222 (by omega)]⟩) (fun y _ => by rw [eE 223 (by omega)]) (fun q _ hq k y hk _ => by rw [eE (225 + k) (by omega)]), k_Rt_mv h9 (dD _ (by omega)) (dD _ (by omega)) (e117 1 (by omega)) (e117 3 (by omega)) (eE _ (by omega))⟩ ?_ ?_ ?_ rfl ?_
    · obtain ⟨a, b, c, z1, z2, z3, z4, z5, z6, z7, z8, z9, z10, z11, z12⟩ := h3b
      exact ⟨a, b, c, z1, z2, z3, z4, z5, z6, by rw [d17 _ (by omega)]; exact z7, by rw [d17 _ (by omega)]; exact z8, by rw [d17 _ (by omega)]; exact z9, by rw [e117 _ (by omega)]; exact z10, by rw [e117 _ (by omega)]; exact z11, by rw [e117 _ (by omega)]; exact z12⟩
    · intro j hj
      rw [dD 22 (by omega), eE 202 (by omega)]
      exact h3c j hj
    · rw [e117 0 (by omega)]; exact t0
    · exact k_fr_trans f0 (fun y hy => ⟨eE y (by omega), by rw [yl]⟩)
    · exact fun y hy => ⟨dD y (by omega), by rw [xl]⟩
    · show some (E0.1 117 14, E2) = _
      rw [g4]
  · rw [if_neg c, k_nF E0 1 k_10 t0, if_neg k_10]
    exact k_refE 0 0 _ q0 f0 (k_fc_refl D) rfl rfl rfl
theorem op_blowing {D E : am_D} (h : k_Q D E) (a b c : Int32) : k_opE D E (f_X11_blowing a b c D) (f_X12_blowing a b c E) ["java/lang/IllegalArgumentException"] := by
  obtain ⟨E0, hE0, t0, f0, q0⟩ := k_start h
  have q0' := q0
  obtain ⟨ns, nm, nw, np, nh, ni, h1, h2, h3, h4, h5, h6, h7, h8, h9⟩ := q0'

  have e1 : (1 : Int32).toInt = 1 := rfl
  have e20 : (20 : Int32).toInt = 20 := rfl
  have e40 : (40 : Int32).toInt = 40 := rfl
  have e2047 : (2047 : Int32).toInt = 2047 := rfl
  have cls : (1 ≤ a.toInt ∧ a.toInt ≤ 2047) ∧ (1 ≤ b.toInt ∧ b.toInt ≤ 20) ∧ (1 ≤ c.toInt ∧ c.toInt ≤ 40) → f_X11_blowing a b c D = some (.inr (D.1 17 11, am_wI (am_wI (am_wI D 17 11 a) 17 12 b) 17 13 c)) := by
    intro ⟨c1, c2, c3⟩
    unfold f_X11_blowing
    rw [k_cwithin, Option.bind_some, e1, e2047, if_pos c1, if_neg k_10, k_cwithin, Option.bind_some, e1, e20, if_pos c2, if_neg k_10, k_cwithin, Option.bind_some, e1, e40, if_pos c3, if_neg k_10, Option.bind_some]
    rfl
  have clsF : ¬ ((1 ≤ a.toInt ∧ a.toInt ≤ 2047) ∧ (1 ≤ b.toInt ∧ b.toInt ≤ 20) ∧ (1 ≤ c.toInt ∧ c.toInt ≤ 40)) → f_X11_blowing a b c D = some (.inl ("java/lang/IllegalArgumentException", D)) := by
    intro cc
    unfold f_X11_blowing
    rw [k_cwithin, Option.bind_some, e1, e2047]
    by_cases c1 : 1 ≤ a.toInt ∧ a.toInt ≤ 2047
    · rw [if_pos c1, if_neg k_10, k_cwithin, Option.bind_some, e1, e20]
      by_cases c2 : 1 ≤ b.toInt ∧ b.toInt ≤ 20
      · rw [if_pos c2, if_neg k_10, k_cwithin, Option.bind_some, e1, e40, if_neg (fun z => cc ⟨c1, c2, z⟩), if_pos rfl, Option.bind_some]
        rfl
      · rw [if_neg c2, if_pos rfl, Option.bind_some]
        rfl
    · rw [if_neg c1, if_pos rfl, Option.bind_some]
      rfl
  have ref : (1 ≤ a.toInt ∧ a.toInt ≤ 2047) ∧ (1 ≤ b.toInt ∧ b.toInt ≤ 20) ∧ (1 ≤ c.toInt ∧ c.toInt ≤ 40) → f_X12_blowing a b c E = some (E0.1 117 17, am_wI (am_wI (am_wI E0 117 17 a) 117 18 b) 117 19 c) := by
    intro ⟨c1, c2, c3⟩
    unfold f_X12_blowing
    rw [Option.bind_some, ← hE0, k_in, Option.bind_some, e1, e2047, if_pos c1, if_neg k_10, k_in, Option.bind_some, e1, e20, if_pos c2, if_neg k_10, k_in, Option.bind_some, e1, e40, if_pos c3, if_neg k_10, Option.bind_some, k_b0 t0, Option.bind_some, if_pos rfl, Option.bind_some, Option.bind_some, Option.bind_some]
  have refF : ¬ ((1 ≤ a.toInt ∧ a.toInt ≤ 2047) ∧ (1 ≤ b.toInt ∧ b.toInt ≤ 20) ∧ (1 ≤ c.toInt ∧ c.toInt ≤ 40)) → f_X12_blowing a b c E = some (0, am_wI E0 117 0 1) := by
    intro cc
    unfold f_X12_blowing
    rw [Option.bind_some, ← hE0, k_in, Option.bind_some, e1, e2047]
    by_cases c1 : 1 ≤ a.toInt ∧ a.toInt ≤ 2047
    · rw [if_pos c1, if_neg k_10, k_in, Option.bind_some, e1, e20]
      by_cases c2 : 1 ≤ b.toInt ∧ b.toInt ≤ 20
      · rw [if_pos c2, if_neg k_10, k_in, Option.bind_some, e1, e40, if_neg (fun z => cc ⟨c1, c2, z⟩), if_pos rfl, Option.bind_some, k_b1 t0 1 k_10, Option.bind_some, if_neg k_10]
      · rw [if_neg c2, if_pos rfl, Option.bind_some, k_b1 t0 1 k_10, Option.bind_some, if_neg k_10]
    · rw [if_neg c1, if_pos rfl, Option.bind_some, k_b1 t0 1 k_10, Option.bind_some, if_neg k_10]
  by_cases cc : (1 ≤ a.toInt ∧ a.toInt ≤ 2047) ∧ (1 ≤ b.toInt ∧ b.toInt ≤ 20) ∧ (1 ≤ c.toInt ∧ c.toInt ≤ 40)
  · rw [cls cc, ref cc]
    obtain ⟨c1, c2, c3⟩ := cc
    obtain ⟨g, ⟨a0, b0, c0, z1, z2, z3, z4, z5, z6, z7, z8, z9, z10, z11, z12⟩, h3c⟩ := h3
    obtain ⟨D2, hD2, x0, x1, x2, d17, dD, xl⟩ := k_w3f D 17 11 a b c
    obtain ⟨E2, hE2, y0, y1, y2, e117, eE, yl⟩ := k_w3f E0 117 17 a b c
    have hE2 : E2 = am_wI (am_wI (am_wI E0 117 17 a) 117 18 b) 117 19 c := hE2
    have hD2 : D2 = am_wI (am_wI (am_wI D 17 11 a) 17 12 b) 17 13 c := hD2
    rw [← hE2, ← hD2, z7, z10]
    refine k_valE (Int32.ofNat a0) (D1 := D2) (E1 := E2) ⟨ns, nm, nw, np, nh, ni, k_Rs_mv h1 (d17 7 (by omega)) (e117 12 (by omega)) (fun y a b => dD y (by omega)) (eE _ (by omega)) (fun y a b => eE y (by omega)), k_Rm_mv h2 (d17 8 (by omega)) (e117 13 (by omega)) (fun y a b => dD y (by omega)) (eE _ (by omega)) (fun y a b => eE y (by omega)), ⟨?_, ⟨a.toInt.toNat, b.toInt.toNat, c.toInt.toNat, (by omega), (by omega), (by omega), (by omega), (by omega), (by omega), ?_, ?_, ?_, ?_, ?_, ?_⟩, ?_⟩, k_Rw_mv h4 (d17 9 (by omega)) (e117 20 (by omega)) (fun y a b => dD y (by omega)) (fun y a b => eE y (by omega)), k_Rp_mv h5 (by rw [dD 24 (by omega)]) (e117 21 (by omega)) (fun y a b => dD y (by omega)) (fun y a b => eE y (by omega)), k_Rh_mv h6 (d17 10 (by omega)) (e117 22 (by omega)) (dD _ (by omega)) (eE _ (by omega)), k_Ri_mv h7 (fun _ => Nat.le_refl _) (by rw [dD 16 (by omega)]) (e117 23 (by omega)) (fun y a b => dD y (by omega)) (fun y a b => eE y (by omega)) (fun s hs => by have hs : s < ns := hs; have := h1.1; exact ⟨by rw [eE 139 (by omega)], fun k _ => by rw [eE (134 + s) (by omega)]⟩) (fun m hm => by have hm : m < nm := hm; have := h2.1; exact ⟨by rw [eE 201 (by omega)], fun k j _ _ => by rw [eE _ (by omega)]⟩) (fun w j hw _ => by have hw : w < nw := hw; have := h4.1; rw [eE _ (by omega)]) (fun p j hp _ => by have hp : p < np := hp; have := h5.1; rw [eE _ (by omega)]) (fun z _ => by rw [eE 203 (by omega)]), k_Rd_mv h8 (fun y a b => dD y (by omega)) (fun j a b => e117 j (by omega)) (fun y _ => ⟨by rw [eE 221 (by omega)], by rw [eE 222 (by omega)]⟩) (fun y _ => by rw [eE 223 (by omega)]) (fun q _ hq k y hk _ => by rw [eE (225 + k) (by omega)]), k_Rt_mv h9 (dD _ (by omega)) (dD _ (by omega)) (e117 1 (by omega)) (e117 3 (by omega)) (eE _ (by omega))⟩ ?_ ?_ ?_ rfl rfl
    · obtain ⟨w, o, s, gg⟩ := g
      exact ⟨w, o, s, k_ps_by gg (dD 23 (by omega)) (e117 14 (by omega)) (e117 15 (by omega)) (e117 16 (by omega))⟩
    · rw [x0]; exact j_of (by omega)
    · rw [x1]; exact j_of (by omega)
    · rw [x2]; exact j_of (by omega)
    · rw [y0]; exact j_of (by omega)
    · rw [y1]; exact j_of (by omega)
    · rw [y2]; exact j_of (by omega)
    · intro j hj
      rw [dD 22 (by omega), eE 202 (by omega)]
      exact h3c j hj
    · rw [e117 0 (by omega)]; exact t0
    · exact k_fr_trans f0 (fun y hy => ⟨eE y (by omega), by rw [yl]⟩)
    · exact fun y hy => ⟨dD y (by omega), by rw [xl]⟩
  · rw [clsF cc, refF cc]
    exact k_refE 0 0 _ q0 f0 (k_fc_refl D) rfl rfl rfl
