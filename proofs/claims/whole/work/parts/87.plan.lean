/-! part, planned, planMap -/
theorem op_part {D E : am_D} (h : k_Q D E) (a b c d : Int32) : k_opE D E (f_X11_part a b c d D) (f_X12_part a b c d E) ["java/lang/IllegalArgumentException"] := by
  obtain ⟨E0, hE0, t0, f0, q0⟩ := k_start h
  have q0' := q0
  obtain ⟨ns, nm, nw, np, nh, ni, h1, h2, h3, h4, h5, h6, h7, h8, h9⟩ := q0'

  have e0 : (0 : Int32).toInt = 0 := rfl
  have e1 : (1 : Int32).toInt = 1 := rfl
  have e10 : (10 : Int32).toInt = 10 := rfl
  have e99 : (99 : Int32).toInt = 99 := rfl
  have e600 : (600 : Int32).toInt = 600 := rfl
  have e1200 : (1200 : Int32).toInt = 1200 := rfl
  have hnp := h5.1
  by_cases cc : (1 ≤ a.toInt ∧ a.toInt ≤ 600) ∧ (0 ≤ b.toInt ∧ b.toInt ≤ 99) ∧ (0 ≤ c.toInt ∧ c.toInt ≤ 1200) ∧ (c.toInt ≤ d.toInt ∧ d.toInt ≤ 1200)
  · obtain ⟨c1, c2, c3, c4⟩ := cc
    obtain ⟨D1, hD1⟩ : ∃ D1, D1 = am_wI (am_wI (am_wI (am_wI D 25 np a) 26 np b) 27 np c) 28 np d := ⟨_, rfl⟩
    obtain ⟨E1, hE1⟩ : ∃ E1, E1 = am_wI (am_wI (am_wI (am_wI E0 (211 + np) 0 a) (211 + np) 1 b) (211 + np) 2 c) (211 + np) 3 d := ⟨_, rfl⟩
    have fD : ∀ y, y ≠ 25 ∧ y ≠ 26 ∧ y ≠ 27 ∧ y ≠ 28 → D1.1 y = D.1 y := fun y hy => by rw [hD1, j_wI_ne _ _ _ hy.2.2.2, j_wI_ne _ _ _ hy.2.2.1, j_wI_ne _ _ _ hy.2.1, j_wI_ne _ _ _ hy.1]
    have fE : ∀ y, y ≠ 211 + np → E1.1 y = E0.1 y := fun y hy => by rw [hE1, j_wI_ne _ _ _ hy, j_wI_ne _ _ _ hy, j_wI_ne _ _ _ hy, j_wI_ne _ _ _ hy]
    have cls : f_X11_part a b c d D = if np < 10 then some (.inr (Int32.ofNat (np + 1), am_wI D1 24 5 (Int32.ofNat (np + 1)))) else some (.inr (-1, D)) := by
      unfold f_X11_part
      rw [k_cwithin, Option.bind_some, e1, e600, if_pos c1, if_neg k_10, k_cwithin, Option.bind_some, e0, e99, if_pos c2, if_neg k_10, Option.bind_some, k_needT, k_cwithin, Option.bind_some, e0, e1200, if_pos c3, if_neg k_10, k_cwithin, Option.bind_some, e1200, if_pos c4, if_neg k_10, Option.bind_some, k_needT, h5.2.1]
      by_cases cn : np < 10
      · unfold f_X6_add
        rw [if_pos cn, if_pos (by rw [j_lt, j_nat (by omega), e10]; omega), h5.2.1, if_neg (by rw [j_lt, j_nat (by omega), e0]; omega), if_neg (by rw [j_le, j_nat (by omega), e10]; omega), k_p _ cn (by omega), Option.bind_some, j_wI_ne _ _ _ (by omega), h5.2.1, k_p _ cn (by omega), Option.bind_some, j_wI_ne _ _ _ (by omega), j_wI_ne _ _ _ (by omega), h5.2.1, k_p _ cn (by omega), Option.bind_some, j_wI_ne _ _ _ (by omega), j_wI_ne _ _ _ (by omega), j_wI_ne _ _ _ (by omega), h5.2.1, k_p _ cn (by omega), Option.bind_some, ← hD1, fD 24 (by omega), h5.2.1, j_suc, Option.bind_some, Option.bind_some, k_ws]
      · rw [if_neg cn, if_neg (by rw [j_lt, j_nat (by omega), e10]; omega)]
    have ref : f_X12_part a b c d E = if np < 10 then some (Int32.ofNat (np + 1), am_wI E1 117 21 (Int32.ofNat (np + 1))) else some (-1, E0) := by
      have q0 : ∀ (X : am_D) (y : Nat) (v : Int32), am_pI X y 4 (0 : Int32) v = some (am_wI X y 0 v) := fun X y v => k_p (k := 0) v (by omega) (by omega)
      have q1 : ∀ (X : am_D) (y : Nat) (v : Int32), am_pI X y 4 (1 : Int32) v = some (am_wI X y 1 v) := fun X y v => k_p (k := 1) v (by omega) (by omega)
      have q2 : ∀ (X : am_D) (y : Nat) (v : Int32), am_pI X y 4 (2 : Int32) v = some (am_wI X y 2 v) := fun X y v => k_p (k := 2) v (by omega) (by omega)
      have q3 : ∀ (X : am_D) (y : Nat) (v : Int32), am_pI X y 4 (3 : Int32) v = some (am_wI X y 3 v) := fun X y v => k_p (k := 3) v (by omega) (by omega)
      unfold f_X12_part
      rw [Option.bind_some, ← hE0, k_in, Option.bind_some, e1, e600, if_pos c1, if_neg k_10, k_in, Option.bind_some, e0, e99, if_pos c2, if_neg k_10, k_in, Option.bind_some, e0, e1200, if_pos c3, if_neg k_10, k_in, Option.bind_some, e1200, if_pos c4, if_neg k_10, Option.bind_some, k_b0 t0, Option.bind_some, if_pos rfl]
      dsimp only
      rw [h5.2.2.1]
      by_cases cn : np < 10
      · rw [if_pos cn, if_neg (by rw [j_eq, j_nat (by omega), e10]; omega), k_a cn (by omega), Option.bind_some, q0, Option.bind_some, j_wI_ne _ _ _ (by omega), h5.2.2.1, k_a cn (by omega), Option.bind_some, q1, Option.bind_some, j_wI_ne _ _ _ (by omega), j_wI_ne _ _ _ (by omega), h5.2.2.1, k_a cn (by omega), Option.bind_some, q2, Option.bind_some, j_wI_ne _ _ _ (by omega), j_wI_ne _ _ _ (by omega), j_wI_ne _ _ _ (by omega), h5.2.2.1, k_a cn (by omega), Option.bind_some, q3, Option.bind_some, ← hE1, fE 117 (by omega), h5.2.2.1, j_suc, Option.bind_some, k_ws]
      · rw [if_neg cn, if_pos (by rw [j_eq, j_nat (by omega), e10]; omega)]
    rw [cls, ref]
    by_cases cn : np < 10
    · rw [if_pos cn, if_pos cn]
      obtain ⟨D2, hD2⟩ : ∃ D2, D2 = am_wI D1 24 5 (Int32.ofNat (np + 1)) := ⟨_, rfl⟩
      obtain ⟨E2, hE2⟩ : ∃ E2, E2 = am_wI E1 117 21 (Int32.ofNat (np + 1)) := ⟨_, rfl⟩
      have dD : ∀ y, y ≠ 24 ∧ y ≠ 25 ∧ y ≠ 26 ∧ y ≠ 27 ∧ y ≠ 28 → D2.1 y = D.1 y := fun y hy => by rw [hD2, j_wI_ne _ _ _ hy.1, fD y hy.2]
      have eE : ∀ y, y ≠ 211 + np ∧ y ≠ 117 → E2.1 y = E0.1 y := fun y hy => by rw [hE2, j_wI_ne _ _ _ hy.2, fE y hy.1]
      have d17 : ∀ j, 0 ≤ j → D2.1 17 j = D.1 17 j := fun j _ => by rw [dD 17 (by omega)]
      have e117 : ∀ j, j ≠ 21 → E2.1 117 j = E0.1 117 j := fun j hj => by rw [hE2, k_wj _ _ hj, fE 117 (by omega)]
      have d2y : ∀ y, y ≠ 24 → D2.1 y = D1.1 y := fun y hy => by rw [hD2, j_wI_ne _ _ _ hy]
      have e2y : E2.1 (211 + np) = E1.1 (211 + np) := by rw [hE2, j_wI_ne _ _ _ (by omega)]
      have dn : D1.1 25 np = a ∧ D1.1 26 np = b ∧ D1.1 27 np = c ∧ D1.1 28 np = d := by
        rw [hD1]
        exact ⟨by rw [j_wI_ne _ _ _ (by omega), j_wI_ne _ _ _ (by omega), j_wI_ne _ _ _ (by omega), k_ws], by rw [j_wI_ne _ _ _ (by omega), j_wI_ne _ _ _ (by omega), k_ws], by rw [j_wI_ne _ _ _ (by omega), k_ws], by rw [k_ws]⟩
      have en : E1.1 (211 + np) 0 = a ∧ E1.1 (211 + np) 1 = b ∧ E1.1 (211 + np) 2 = c ∧ E1.1 (211 + np) 3 = d := by
        rw [hE1]
        exact ⟨by rw [k_wj _ _ (by decide), k_wj _ _ (by decide), k_wj _ _ (by decide), k_ws], by rw [k_wj _ _ (by decide), k_wj _ _ (by decide), k_ws], by rw [k_wj _ _ (by decide), k_ws], by rw [k_ws]⟩
      have dold : ∀ y i, i ≠ np → D1.1 y i = D.1 y i := by
        intro y i hi
        have st : ∀ (X : am_D) (z : Nat) (v : Int32), (am_wI X z np v).1 y i = X.1 y i := by
          intro X z v
          by_cases cy : y = z
          · rw [cy, k_wj _ _ hi]
          · rw [j_wI_ne _ _ _ cy]
        rw [hD1, st, st, st, st]
      rw [← hD2, ← hE2]
      refine k_valE (Int32.ofNat (np + 1)) (D1 := D2) (E1 := E2) ⟨ns, nm, nw, np + 1, nh, ni, k_Rs_mv h1 (d17 7 (by omega)) (e117 12 (by omega)) (fun y a b => dD y (by omega)) (eE _ (by omega)) (fun y a b => eE y (by omega)), k_Rm_mv h2 (d17 8 (by omega)) (e117 13 (by omega)) (fun y a b => dD y (by omega)) (eE _ (by omega)) (fun y a b => eE y (by omega)), k_Rn_mv h3 (dD _ (by omega)) (fun j _ => d17 j (by omega)) (dD _ (by omega)) (fun j a b => e117 j (by omega)) (eE _ (by omega)), k_Rw_mv h4 (d17 9 (by omega)) (e117 20 (by omega)) (fun y a b => dD y (by omega)) (fun y a b => eE y (by omega)), ⟨cn, by rw [hD2, k_ws], by rw [hE2, k_ws], fun i hi => ?_⟩, k_Rh_mv h6 (d17 10 (by omega)) (e117 22 (by omega)) (dD _ (by omega)) (eE _ (by omega)), ?_, k_Rd_mv h8 (fun y a b => dD y (by omega)) (fun j a b => e117 j (by omega)) (fun y _ => ⟨by rw [eE 221 (by omega)], by rw [eE 222 (by omega)]⟩) (fun y _ => by rw [eE 223 (by omega)]) (fun q _ hq k y hk _ => by rw [eE (225 + k) (by omega)]), k_Rt_mv h9 (dD _ (by omega)) (dD _ (by omega)) (e117 1 (by omega)) (e117 3 (by omega)) (eE _ (by omega))⟩ ?_ ?_ ?_ rfl rfl
      · by_cases ci : i = np
        · rw [ci]
          refine ⟨a.toInt.toNat, b.toInt.toNat, c.toInt.toNat, d.toInt.toNat, (by omega), (by omega), (by omega), (by omega), (by omega), ?_, ?_, ?_, ?_, ?_, ?_, ?_, ?_⟩
          · rw [d2y 25 (by omega), dn.1]; exact j_of (by omega)
          · rw [d2y 26 (by omega), dn.2.1]; exact j_of (by omega)
          · rw [d2y 27 (by omega), dn.2.2.1]; exact j_of (by omega)
          · rw [d2y 28 (by omega), dn.2.2.2]; exact j_of (by omega)
          · rw [e2y, en.1]; exact j_of (by omega)
          · rw [e2y, en.2.1]; exact j_of (by omega)
          · rw [e2y, en.2.2.1]; exact j_of (by omega)
          · rw [e2y, en.2.2.2]; exact j_of (by omega)
        · exact k_prt_mv (h5.2.2.2 i (by omega)) (fun y y1 y2 => by rw [d2y y (by omega), dold y i ci]) (eE _ (by omega))
      · refine k_Ri_mv h7 (k_cn_le (by omega) (by omega) (by omega) (by omega) (by omega)) (by rw [dD 16 (by omega)]) (e117 23 (by omega)) (fun y a b => dD y (by omega)) (fun y a b => eE y (by omega)) (fun s hs => by have hs : s < ns := hs; have := h1.1; exact ⟨by rw [eE 139 (by omega)], fun k _ => by rw [eE (134 + s) (by omega)]⟩) (fun m hm => by have hm : m < nm := hm; have := h2.1; exact ⟨by rw [eE 201 (by omega)], fun k j _ _ => by rw [eE _ (by omega)]⟩) (fun w j hw _ => by have hw : w < nw := hw; have := h4.1; rw [eE _ (by omega)]) (fun p j hp _ => by have hp : p < np := hp; have := h5.1; rw [eE _ (by omega)]) (fun z hz => by rw [eE 203 (by omega)])
      · rw [e117 0 (by omega)]; exact t0
      · exact k_fr_trans f0 (fun y hy => ⟨eE y (by omega), by rw [hE2]; show E1.2 y = _; rw [hE1]; rfl⟩)
      · exact fun y hy => ⟨dD y (by omega), by rw [hD2]; show D1.2 y = _; rw [hD1]; rfl⟩
    · rw [if_neg cn, if_neg cn]
      exact k_valE _ q0 t0 f0 (k_fc_refl D) rfl rfl
  · have clsF : f_X11_part a b c d D = some (.inl ("java/lang/IllegalArgumentException", D)) := by
      unfold f_X11_part
      rw [k_cwithin, Option.bind_some, e1, e600]
      by_cases c1 : 1 ≤ a.toInt ∧ a.toInt ≤ 600
      · rw [if_pos c1, if_neg k_10, k_cwithin, Option.bind_some, e0, e99]
        by_cases c2 : 0 ≤ b.toInt ∧ b.toInt ≤ 99
        · rw [if_pos c2, if_neg k_10, Option.bind_some, k_needT, k_cwithin, Option.bind_some, e0, e1200]
          by_cases c3 : 0 ≤ c.toInt ∧ c.toInt ≤ 1200
          · rw [if_pos c3, if_neg k_10, k_cwithin, Option.bind_some, e1200, if_neg (fun z => cc ⟨c1, c2, c3, z⟩), if_pos rfl, Option.bind_some, k_needF]
          · rw [if_neg c3, if_pos rfl, Option.bind_some, k_needF]
        · rw [if_neg c2, if_pos rfl, Option.bind_some, k_needF]
      · rw [if_neg c1, if_pos rfl, Option.bind_some, k_needF]
    have refF : f_X12_part a b c d E = some (0, am_wI E0 117 0 1) := by
      unfold f_X12_part
      rw [Option.bind_some, ← hE0, k_in, Option.bind_some, e1, e600]
      by_cases c1 : 1 ≤ a.toInt ∧ a.toInt ≤ 600
      · rw [if_pos c1, if_neg k_10, k_in, Option.bind_some, e0, e99]
        by_cases c2 : 0 ≤ b.toInt ∧ b.toInt ≤ 99
        · rw [if_pos c2, if_neg k_10, k_in, Option.bind_some, e0, e1200]
          by_cases c3 : 0 ≤ c.toInt ∧ c.toInt ≤ 1200
          · rw [if_pos c3, if_neg k_10, k_in, Option.bind_some, e1200, if_neg (fun z => cc ⟨c1, c2, c3, z⟩), if_pos rfl, Option.bind_some, k_b1 t0 1 k_10, Option.bind_some, if_neg k_10]
          · rw [if_neg c3, if_pos rfl, Option.bind_some, k_b1 t0 1 k_10, Option.bind_some, if_neg k_10]
        · rw [if_neg c2, if_pos rfl, Option.bind_some, k_b1 t0 1 k_10, Option.bind_some, if_neg k_10]
      · rw [if_neg c1, if_pos rfl, Option.bind_some, k_b1 t0 1 k_10, Option.bind_some, if_neg k_10]
    rw [clsF, refF]
    exact k_refE 0 0 _ q0 f0 (k_fc_refl D) rfl rfl rfl
