/-! operations that change numbers: weigh, way, part, hum -/
theorem k_sub1 (n : Nat) : Int32.ofNat (n + 1) - 1 = Int32.ofNat n := by
  rw [← j_suc]
  grind
theorem k_needT {β : Type} (D : am_D) (F : Unit → Option ((String × am_D) ⊕ β)) : am_btD (f_X11_need 1) D F = F () := rfl
theorem k_needF {β : Type} (D : am_D) (F : Unit → Option ((String × am_D) ⊕ β)) : am_btD (f_X11_need 0) D F = some (.inl ("java/lang/IllegalArgumentException", D)) := rfl
theorem k_cn_le {a b c d e a2 b2 c2 d2 e2 : Nat} (h1 : a ≤ a2) (h2 : b ≤ b2) (h3 : c ≤ c2) (h4 : d ≤ d2) (h5 : e ≤ e2) (j : Nat) : k_cn a b c d e j ≤ k_cn a2 b2 c2 d2 e2 j := by
  unfold k_cn
  by_cases c0 : j = 0
  · rw [if_pos c0, if_pos c0]; exact h1
  rw [if_neg c0, if_neg c0]
  by_cases c1 : j = 1
  · rw [if_pos c1, if_pos c1]; exact h2
  rw [if_neg c1, if_neg c1]
  by_cases c2 : j = 2
  · rw [if_pos c2, if_pos c2]; exact h3
  rw [if_neg c2, if_neg c2]
  by_cases c3 : j = 3
  · rw [if_pos c3, if_pos c3]; exact h4
  rw [if_neg c3, if_neg c3]
  exact h5
theorem op_weigh {D E : am_D} (h : k_Q D E) (a v : Int32) : k_opE D E (f_X11_weigh a v D) (f_X12_weigh a v E) ["java/lang/IllegalArgumentException"] := by
  obtain ⟨E0, hE0, t0, f0, q0⟩ := k_start h
  have q0' := q0
  obtain ⟨ns, nm, nw, np, nh, ni, h1, h2, h3, h4, h5, h6, h7, h8, h9⟩ := q0'

  have e0 : (0 : Int32).toInt = 0 := rfl
  have e3 : (3 : Int32).toInt = 3 := rfl
  have e999 : (999 : Int32).toInt = 999 := rfl
  by_cases cc : (0 ≤ a.toInt ∧ a.toInt ≤ 3) ∧ (0 ≤ v.toInt ∧ v.toInt ≤ 999)
  · obtain ⟨c1, c2⟩ := cc
    obtain ⟨i, rfl, hi⟩ := k_ix (n := 4) (p := a) (by omega)
    obtain ⟨g, gb, gc⟩ := h3
    have cls : f_X11_weigh (Int32.ofNat i) v D = some (.inr (D.1 22 i, am_wI D 22 i v)) := by
      unfold f_X11_weigh
      rw [k_cwithin, Option.bind_some, e0, e3, if_pos c1, if_neg k_10, k_cwithin, Option.bind_some, e0, e999, if_pos c2, if_neg k_10, Option.bind_some, k_needT, k_g hi (by omega), Option.bind_some, k_p _ hi (by omega), Option.bind_some]
    have ref : f_X12_weigh (Int32.ofNat i) v E = some (E0.1 202 i, am_wI E0 202 i v) := by
      unfold f_X12_weigh
      rw [Option.bind_some, ← hE0, k_in, Option.bind_some, e0, e3, if_pos c1, if_neg k_10, k_in, Option.bind_some, e0, e999, if_pos c2, if_neg k_10, Option.bind_some, k_b0 t0, Option.bind_some, if_pos rfl, k_g hi (by omega), Option.bind_some, k_p _ hi (by omega), Option.bind_some]
    rw [cls, ref, ← gc i hi]
    obtain ⟨D2, hD2⟩ : ∃ D2, D2 = am_wI D 22 i v := ⟨_, rfl⟩
    obtain ⟨E2, hE2⟩ : ∃ E2, E2 = am_wI E0 202 i v := ⟨_, rfl⟩
    have dD : ∀ y, y ≠ 22 → D2.1 y = D.1 y := fun y hy => by rw [hD2, j_wI_ne _ _ _ hy]
    have eE : ∀ y, y ≠ 202 → E2.1 y = E0.1 y := fun y hy => by rw [hE2, j_wI_ne _ _ _ hy]
    have d17 : ∀ j, 0 ≤ j → D2.1 17 j = D.1 17 j := fun j _ => by rw [dD 17 (by omega)]
    have e117 : ∀ j, 0 ≤ j → E2.1 117 j = E0.1 117 j := fun j _ => by rw [eE 117 (by omega)]
    rw [← hD2, ← hE2]
    refine k_valE (D.1 22 i) (D1 := D2) (E1 := E2) ⟨ns, nm, nw, np, nh, ni, k_Rs_mv h1 (d17 7 (by omega)) (e117 12 (by omega)) (fun y a b => dD y (by omega)) (eE _ (by omega)) (fun y a b => eE y (by omega)), k_Rm_mv h2 (d17 8 (by omega)) (e117 13 (by omega)) (fun y a b => dD y (by omega)) (eE _ (by omega)) (fun y a b => eE y (by omega)), ⟨?_, ?_, ?_⟩, k_Rw_mv h4 (d17 9 (by omega)) (e117 20 (by omega)) (fun y a b => dD y (by omega)) (fun y a b => eE y (by omega)), k_Rp_mv h5 (by rw [dD 24 (by omega)]) (e117 21 (by omega)) (fun y a b => dD y (by omega)) (fun y a b => eE y (by omega)), k_Rh_mv h6 (d17 10 (by omega)) (e117 22 (by omega)) (dD _ (by omega)) (eE _ (by omega)), k_Ri_mv h7 (fun _ => Nat.le_refl _) (by rw [dD 16 (by omega)]) (e117 23 (by omega)) (fun y a b => dD y (by omega)) (fun y a b => eE y (by omega)) (fun s hs => by have hs : s < ns := hs; have := h1.1; exact ⟨by rw [eE 139 (by omega)], fun k _ => by rw [eE (134 + s) (by omega)]⟩) (fun m hm => by have hm : m < nm := hm; have := h2.1; exact ⟨by rw [eE 201 (by omega)], fun k j _ _ => by rw [eE _ (by omega)]⟩) (fun w j hw _ => by have hw : w < nw := hw; have := h4.1; rw [eE _ (by omega)]) (fun p j hp _ => by have hp : p < np := hp; have := h5.1; rw [eE _ (by omega)]) (fun z _ => by rw [eE 203 (by omega)]), k_Rd_mv h8 (fun y a b => dD y (by omega)) (fun j a b => e117 j (by omega)) (fun y _ => ⟨by rw [eE 221 (by omega)], by rw [eE 222 (by omega)]⟩) (fun y _ => by rw [eE 223 (by omega)]) (fun q _ hq k y hk _ => by rw [eE (225 + k) (by omega)]), k_Rt_mv h9 (dD _ (by omega)) (dD _ (by omega)) (e117 1 (by omega)) (e117 3 (by omega)) (eE _ (by omega))⟩ ?_ ?_ ?_ rfl rfl
    · obtain ⟨w, o, s, gg⟩ := g
      exact ⟨w, o, s, k_ps_by gg (dD 23 (by omega)) (e117 14 (by omega)) (e117 15 (by omega)) (e117 16 (by omega))⟩
    · obtain ⟨a0, b0, c0, z1, z2, z3, z4, z5, z6, z7, z8, z9, z10, z11, z12⟩ := gb
      exact ⟨a0, b0, c0, z1, z2, z3, z4, z5, z6, by rw [d17 _ (by omega)]; exact z7, by rw [d17 _ (by omega)]; exact z8, by rw [d17 _ (by omega)]; exact z9, by rw [e117 _ (by omega)]; exact z10, by rw [e117 _ (by omega)]; exact z11, by rw [e117 _ (by omega)]; exact z12⟩
    · intro j hj
      rw [hD2, hE2, j_wI_at, j_wI_at]
      by_cases c : j = i
      · rw [if_pos c, if_pos c]
      · rw [if_neg c, if_neg c]; exact gc j hj
    · rw [e117 0 (by omega)]; exact t0
    · exact k_fr_trans f0 (fun y hy => ⟨eE y (by omega), by rw [hE2]; rfl⟩)
    · exact fun y hy => ⟨dD y (by omega), by rw [hD2]; rfl⟩
  · have clsF : f_X11_weigh a v D = some (.inl ("java/lang/IllegalArgumentException", D)) := by
      unfold f_X11_weigh
      rw [k_cwithin, Option.bind_some, e0, e3]
      by_cases c1 : 0 ≤ a.toInt ∧ a.toInt ≤ 3
      · rw [if_pos c1, if_neg k_10, k_cwithin, Option.bind_some, e0, e999, if_neg (fun z => cc ⟨c1, z⟩), if_pos rfl, Option.bind_some]
        rfl
      · rw [if_neg c1, if_pos rfl, Option.bind_some]
        rfl
    have refF : f_X12_weigh a v E = some (0, am_wI E0 117 0 1) := by
      unfold f_X12_weigh
      rw [Option.bind_some, ← hE0, k_in, Option.bind_some, e0, e3]
      by_cases c1 : 0 ≤ a.toInt ∧ a.toInt ≤ 3
      · rw [if_pos c1, if_neg k_10, k_in, Option.bind_some, e0, e999, if_neg (fun z => cc ⟨c1, z⟩), if_pos rfl, Option.bind_some, k_b1 t0 1 k_10, Option.bind_some, if_neg k_10]
      · rw [if_neg c1, if_pos rfl, Option.bind_some, k_b1 t0 1 k_10, Option.bind_some, if_neg k_10]
    rw [clsF, refF]
    exact k_refE 0 0 _ q0 f0 (k_fc_refl D) rfl rfl rfl
theorem op_hum {D E : am_D} (h : k_Q D E) (v : Int32) : k_opE D E (f_X11_hum v D) (f_X12_hum v E) ["java/lang/IllegalArgumentException"] := by
  obtain ⟨E0, hE0, t0, f0, q0⟩ := k_start h
  have q0' := q0
  obtain ⟨ns, nm, nw, np, nh, ni, h1, h2, h3, h4, h5, h6, h7, h8, h9⟩ := q0'

  have e400 : (400 : Int32).toInt = 400 := rfl
  have e6000 : (6000 : Int32).toInt = 6000 := rfl
  have e6 : (6 : Int32).toInt = 6 := rfl
  have hnh := h6.1
  by_cases c1 : 400 ≤ v.toInt ∧ v.toInt ≤ 6000
  · have cls : f_X11_hum v D = if nh < 6 then some (.inr (Int32.ofNat (nh + 1), am_wI (am_wI D 21 nh v) 17 10 (Int32.ofNat (nh + 1)))) else some (.inr (-1, D)) := by
      unfold f_X11_hum f_X11_isHum
      rw [k_cwithin, Option.bind_some, Option.bind_some, e400, e6000, if_pos c1, k_needT, h6.2.1]
      by_cases c : nh < 6
      · rw [if_pos c, if_pos (by rw [j_lt, j_nat (by omega), e6]; omega), k_p _ c (by omega), Option.bind_some, j_wI_ne _ _ _ (by decide), h6.2.1, j_suc, Option.bind_some, k_ws]
      · rw [if_neg c, if_neg (by rw [j_lt, j_nat (by omega), e6]; omega)]
    have ref : f_X12_hum v E = if nh < 6 then some (Int32.ofNat (nh + 1), am_wI (am_wI E0 203 nh v) 117 22 (Int32.ofNat (nh + 1))) else some (-1, E0) := by
      unfold f_X12_hum
      rw [Option.bind_some, ← hE0, k_in, Option.bind_some, e400, e6000, if_pos c1, if_neg k_10, Option.bind_some, k_b0 t0, Option.bind_some, if_pos rfl]
      dsimp only
      rw [h6.2.2.1]
      by_cases c : nh < 6
      · rw [if_pos c, if_neg (by rw [j_eq, j_nat (by omega), e6]; omega), k_p _ c (by omega), Option.bind_some, j_wI_ne _ _ _ (by decide), h6.2.2.1, j_suc, Option.bind_some, k_ws]
      · rw [if_neg c, if_pos (by rw [j_eq, j_nat (by omega), e6]; omega)]
    rw [cls, ref]
    by_cases c : nh < 6
    · rw [if_pos c, if_pos c]
      obtain ⟨D2, hD2⟩ : ∃ D2, D2 = am_wI (am_wI D 21 nh v) 17 10 (Int32.ofNat (nh + 1)) := ⟨_, rfl⟩
      obtain ⟨E2, hE2⟩ : ∃ E2, E2 = am_wI (am_wI E0 203 nh v) 117 22 (Int32.ofNat (nh + 1)) := ⟨_, rfl⟩
      have dD : ∀ y, y ≠ 21 ∧ y ≠ 17 → D2.1 y = D.1 y := fun y hy => by rw [hD2, j_wI_ne _ _ _ hy.2, j_wI_ne _ _ _ hy.1]
      have eE : ∀ y, y ≠ 203 ∧ y ≠ 117 → E2.1 y = E0.1 y := fun y hy => by rw [hE2, j_wI_ne _ _ _ hy.2, j_wI_ne _ _ _ hy.1]
      have d17 : ∀ j, j ≠ 10 → D2.1 17 j = D.1 17 j := fun j hj => by rw [hD2, k_wj _ _ hj, j_wI_ne _ _ _ (by decide)]
      have e117 : ∀ j, j ≠ 22 → E2.1 117 j = E0.1 117 j := fun j hj => by rw [hE2, k_wj _ _ hj, j_wI_ne _ _ _ (by decide)]
      have d21 : ∀ j, D2.1 21 j = if j = nh then v else D.1 21 j := fun j => by rw [hD2, j_wI_ne _ _ _ (by decide), j_wI_at]
      have e203 : ∀ j, E2.1 203 j = if j = nh then v else E0.1 203 j := fun j => by rw [hE2, j_wI_ne _ _ _ (by decide), j_wI_at]
      rw [← hD2, ← hE2]
      refine k_valE (Int32.ofNat (nh + 1)) (D1 := D2) (E1 := E2) ⟨ns, nm, nw, np, nh + 1, ni, k_Rs_mv h1 (d17 7 (by omega)) (e117 12 (by omega)) (fun y a b => dD y (by omega)) (eE _ (by omega)) (fun y a b => eE y (by omega)), k_Rm_mv h2 (d17 8 (by omega)) (e117 13 (by omega)) (fun y a b => dD y (by omega)) (eE _ (by omega)) (fun y a b => eE y (by omega)), k_Rn_mv h3 (dD _ (by omega)) (fun j _ => d17 j (by omega)) (dD _ (by omega)) (fun j a b => e117 j (by omega)) (eE _ (by omega)), k_Rw_mv h4 (d17 9 (by omega)) (e117 20 (by omega)) (fun y a b => dD y (by omega)) (fun y a b => eE y (by omega)), k_Rp_mv h5 (by rw [dD 24 (by omega)]) (e117 21 (by omega)) (fun y a b => dD y (by omega)) (fun y a b => eE y (by omega)), ⟨c, by rw [hD2, k_ws], by rw [hE2, k_ws], fun i hi => ?_⟩, ?_, k_Rd_mv h8 (fun y a b => dD y (by omega)) (fun j a b => e117 j (by omega)) (fun y _ => ⟨by rw [eE 221 (by omega)], by rw [eE 222 (by omega)]⟩) (fun y _ => by rw [eE 223 (by omega)]) (fun q _ hq k y hk _ => by rw [eE (225 + k) (by omega)]), k_Rt_mv h9 (dD _ (by omega)) (dD _ (by omega)) (e117 1 (by omega)) (e117 3 (by omega)) (eE _ (by omega))⟩ ?_ ?_ ?_ rfl rfl
      · rw [d21, e203]
        by_cases c2 : i = nh
        · rw [if_pos c2, if_pos c2]; exact ⟨rfl, c1.1, c1.2⟩
        · rw [if_neg c2, if_neg c2]; exact h6.2.2.2 i (by omega)
      · refine k_Ri_mv h7 (k_cn_le (by omega) (by omega) (by omega) (by omega) (by omega)) (by rw [dD 16 (by omega)]) (e117 23 (by omega)) (fun y a b => dD y (by omega)) (fun y a b => eE y (by omega)) (fun s hs => by have hs : s < ns := hs; have := h1.1; exact ⟨by rw [eE 139 (by omega)], fun k _ => by rw [eE (134 + s) (by omega)]⟩) (fun m hm => by have hm : m < nm := hm; have := h2.1; exact ⟨by rw [eE 201 (by omega)], fun k j _ _ => by rw [eE _ (by omega)]⟩) (fun w j hw _ => by have hw : w < nw := hw; have := h4.1; rw [eE _ (by omega)]) (fun p j hp _ => by have hp : p < np := hp; have := h5.1; rw [eE _ (by omega)]) (fun z hz => by have hz : z < nh := hz; rw [e203, if_neg (by omega)])
      · rw [e117 0 (by omega)]; exact t0
      · exact k_fr_trans f0 (fun y hy => ⟨eE y (by omega), by rw [hE2]; rfl⟩)
      · exact fun y hy => ⟨dD y (by omega), by rw [hD2]; rfl⟩
    · rw [if_neg c, if_neg c]
      exact k_valE _ q0 t0 f0 (k_fc_refl D) rfl rfl
  · have clsF : f_X11_hum v D = some (.inl ("java/lang/IllegalArgumentException", D)) := by
      unfold f_X11_hum f_X11_isHum
      rw [k_cwithin, Option.bind_some, Option.bind_some, e400, e6000, if_neg c1, k_needF]
    have refF : f_X12_hum v E = some (0, am_wI E0 117 0 1) := by
      unfold f_X12_hum
      rw [Option.bind_some, ← hE0, k_in, Option.bind_some, e400, e6000, if_neg c1, if_pos rfl, Option.bind_some, k_b1 t0 1 k_10, Option.bind_some, if_neg k_10]
    rw [clsF, refF]
    exact k_refE 0 0 _ q0 f0 (k_fc_refl D) rfl rfl rfl
theorem op_way {D E : am_D} (h : k_Q D E) (w o s : Int32) : k_opE D E (f_X11_way w o s D) (f_X12_way w o s E) ["java/lang/IllegalArgumentException"] := by
  obtain ⟨E0, hE0, t0, f0, q0⟩ := k_start h
  have q0' := q0
  obtain ⟨ns, nm, nw, np, nh, ni, h1, h2, h3, h4, h5, h6, h7, h8, h9⟩ := q0'

  have e4 : (4 : Int32).toInt = 4 := rfl
  have hnw := h4.1
  by_cases c1 : 4 ≤ w.toInt ∧ w.toInt ≤ 64 ∧ 1 ≤ o.toInt ∧ o.toInt ≤ k_q w.toInt 2 ∧ 0 ≤ s.toInt ∧ s.toInt ≤ 20
  · obtain ⟨w', o', s', hpv, rfl, rfl, rfl⟩ := k_allowed_pv c1
    obtain ⟨D1, hD1, x0, x1, x2, x3, dD1, xl⟩ := k_w3 D (55 + nw) (Int32.ofNat w') (Int32.ofNat o') (Int32.ofNat s')
    obtain ⟨E1, hE1, y0, y1, y2, y3, eE1, yl⟩ := k_w3 E0 (206 + nw) (Int32.ofNat w') (Int32.ofNat o') (Int32.ofNat s')
    have cls : f_X11_way (Int32.ofNat w') (Int32.ofNat o') (Int32.ofNat s') D = if nw < 4 then some (.inr (Int32.ofNat nw, am_wI D1 17 9 (Int32.ofNat (nw + 1)))) else some (.inr (-1, D)) := by
      unfold f_X11_way
      rw [(k_allowed _ _ _).1, Option.bind_some, if_pos c1, k_needT, h4.2.1]
      by_cases c : nw < 4
      · rw [if_pos c, if_pos (by rw [j_lt, j_nat (by omega), e4]; omega), k_a c (by omega), Option.bind_some, k_set0, ← hD1, Option.bind_some, dD1 17 (by omega), h4.2.1, j_suc, Option.bind_some, k_ws, k_sub1]
      · rw [if_neg c, if_neg (by rw [j_lt, j_nat (by omega), e4]; omega)]
    have ref : f_X12_way (Int32.ofNat w') (Int32.ofNat o') (Int32.ofNat s') E = if nw < 4 then some (Int32.ofNat nw, am_wI E1 117 20 (Int32.ofNat (nw + 1))) else some (-1, E0) := by
      unfold f_X12_way
      rw [Option.bind_some, ← hE0, (k_allowed _ _ _).2, Option.bind_some, if_pos c1, if_neg k_10, Option.bind_some, k_b0 t0, Option.bind_some, if_pos rfl]
      dsimp only
      rw [h4.2.2.1]
      have p0 : ∀ (X : am_D) (y : Nat) (v : Int32), am_pI X y 3 (0 : Int32) v = some (am_wI X y 0 v) := fun X y v => k_p (k := 0) v (by omega) (by omega)
      have p1 : ∀ (X : am_D) (y : Nat) (v : Int32), am_pI X y 3 (1 : Int32) v = some (am_wI X y 1 v) := fun X y v => k_p (k := 1) v (by omega) (by omega)
      have p2 : ∀ (X : am_D) (y : Nat) (v : Int32), am_pI X y 3 (2 : Int32) v = some (am_wI X y 2 v) := fun X y v => k_p (k := 2) v (by omega) (by omega)
      by_cases c : nw < 4
      · rw [if_pos c, if_neg (by rw [j_eq, j_nat (by omega), e4]; omega), k_a c (by omega), Option.bind_some, p0, Option.bind_some, j_wI_ne _ _ _ (by omega), h4.2.2.1, k_a c (by omega), Option.bind_some, p1, Option.bind_some, j_wI_ne _ _ _ (by omega), j_wI_ne _ _ _ (by omega), h4.2.2.1, k_a c (by omega), Option.bind_some, p2, Option.bind_some, ← hE1, eE1 117 (by omega), h4.2.2.1, j_suc, Option.bind_some, k_ws, k_sub1]
      · rw [if_neg c, if_pos (by rw [j_eq, j_nat (by omega), e4]; omega)]
    rw [cls, ref]
    by_cases c : nw < 4
    · rw [if_pos c, if_pos c]
      obtain ⟨D2, hD2⟩ : ∃ D2, D2 = am_wI D1 17 9 (Int32.ofNat (nw + 1)) := ⟨_, rfl⟩
      obtain ⟨E2, hE2⟩ : ∃ E2, E2 = am_wI E1 117 20 (Int32.ofNat (nw + 1)) := ⟨_, rfl⟩
      have dD : ∀ y, y ≠ 55 + nw ∧ y ≠ 17 → D2.1 y = D.1 y := fun y hy => by rw [hD2, j_wI_ne _ _ _ hy.2, dD1 y hy.1]
      have eE : ∀ y, y ≠ 206 + nw ∧ y ≠ 117 → E2.1 y = E0.1 y := fun y hy => by rw [hE2, j_wI_ne _ _ _ hy.2, eE1 y hy.1]
      have d17 : ∀ j, j ≠ 9 → D2.1 17 j = D.1 17 j := fun j hj => by rw [hD2, k_wj _ _ hj, dD1 17 (by omega)]
      have e117 : ∀ j, j ≠ 20 → E2.1 117 j = E0.1 117 j := fun j hj => by rw [hE2, k_wj _ _ hj, eE1 117 (by omega)]
      have dN : D2.1 (55 + nw) = D1.1 (55 + nw) := by rw [hD2, j_wI_ne _ _ _ (by omega)]
      have eN : E2.1 (206 + nw) = E1.1 (206 + nw) := by rw [hE2, j_wI_ne _ _ _ (by omega)]
      rw [← hD2, ← hE2]
      refine k_valE (Int32.ofNat nw) (D1 := D2) (E1 := E2) ⟨ns, nm, nw + 1, np, nh, ni, k_Rs_mv h1 (d17 7 (by omega)) (e117 12 (by omega)) (fun y a b => dD y (by omega)) (eE _ (by omega)) (fun y a b => eE y (by omega)), k_Rm_mv h2 (d17 8 (by omega)) (e117 13 (by omega)) (fun y a b => dD y (by omega)) (eE _ (by omega)) (fun y a b => eE y (by omega)), k_Rn_mv h3 (dD _ (by omega)) (fun j _ => d17 j (by omega)) (dD _ (by omega)) (fun j a b => e117 j (by omega)) (eE _ (by omega)), ⟨c, by rw [hD2, k_ws], by rw [hE2, k_ws], fun i hi => ?_⟩, k_Rp_mv h5 (by rw [dD 24 (by omega)]) (e117 21 (by omega)) (fun y a b => dD y (by omega)) (fun y a b => eE y (by omega)), k_Rh_mv h6 (d17 10 (by omega)) (e117 22 (by omega)) (dD _ (by omega)) (eE _ (by omega)), ?_, k_Rd_mv h8 (fun y a b => dD y (by omega)) (fun j a b => e117 j (by omega)) (fun y _ => ⟨by rw [eE 221 (by omega)], by rw [eE 222 (by omega)]⟩) (fun y _ => by rw [eE 223 (by omega)]) (fun q _ hq k y hk _ => by rw [eE (225 + k) (by omega)]), k_Rt_mv h9 (dD _ (by omega)) (dD _ (by omega)) (e117 1 (by omega)) (e117 3 (by omega)) (eE _ (by omega))⟩ ?_ ?_ ?_ rfl rfl
      · by_cases c2 : i = nw
        · rw [c2]
          exact ⟨w', o', s', hpv, by rw [dN]; exact x0, by rw [dN]; exact x1, by rw [dN]; exact x2, by rw [eN]; exact y0, by rw [eN]; exact y1, by rw [eN]; exact y2⟩
        · exact k_way_mv (h4.2.2.2 i (by omega)) (dD _ (by omega)) (eE _ (by omega))
      · refine k_Ri_mv h7 (k_cn_le (by omega) (by omega) (by omega) (by omega) (by omega)) (by rw [dD 16 (by omega)]) (e117 23 (by omega)) (fun y a b => dD y (by omega)) (fun y a b => eE y (by omega)) (fun s hs => by have hs : s < ns := hs; have := h1.1; exact ⟨by rw [eE 139 (by omega)], fun k _ => by rw [eE (134 + s) (by omega)]⟩) (fun m hm => by have hm : m < nm := hm; have := h2.1; exact ⟨by rw [eE 201 (by omega)], fun k j _ _ => by rw [eE _ (by omega)]⟩) (fun w j hw _ => by have hw : w < nw := hw; have := h4.1; rw [eE _ (by omega)]) (fun p j hp _ => by have hp : p < np := hp; have := h5.1; rw [eE _ (by omega)]) (fun z hz => by rw [eE 203 (by omega)])
      · rw [e117 0 (by omega)]; exact t0
      · exact k_fr_trans f0 (fun y hy => ⟨eE y (by omega), by rw [hE2]; show E1.2 y = _; rw [yl]⟩)
      · exact fun y hy => ⟨dD y (by omega), by rw [hD2]; show D1.2 y = _; rw [xl]⟩
    · rw [if_neg c, if_neg c]
      exact k_valE _ q0 t0 f0 (k_fc_refl D) rfl rfl
  · have clsF : f_X11_way w o s D = some (.inl ("java/lang/IllegalArgumentException", D)) := by
      unfold f_X11_way
      rw [(k_allowed _ _ _).1, Option.bind_some, if_neg c1]
      rfl
    have refF : f_X12_way w o s E = some (0, am_wI E0 117 0 1) := by
      unfold f_X12_way
      rw [Option.bind_some, ← hE0, (k_allowed _ _ _).2, Option.bind_some, if_neg c1, if_pos rfl, Option.bind_some, k_b1 t0 1 k_10, Option.bind_some, if_neg k_10]
    rw [clsF, refF]
    exact k_refE 0 0 _ q0 f0 (k_fc_refl D) rfl rfl rfl
