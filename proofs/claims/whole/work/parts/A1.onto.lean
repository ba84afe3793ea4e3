theorem op_onto {D E : am_D} (h : k_Q D E) (p b : Int32) : k_opE D E (f_X11_onto p b D) (f_X12_onto p b E) ["java/util/NoSuchElementException", "java/lang/IllegalArgumentException"] := by
  obtain ⟨E0, hE0, t0, f0, q0⟩ := k_start h
  have q0' := q0
  obtain ⟨ns, nm, nw, np, nh, ni, h1, h2, h3, h4, h5, h6, h7, h8, h9⟩ := q0'

  have hns := h1.1
  have hnm := h2.1
  have e0 : (0 : Int32).toInt = 0 := rfl
  have e1 : (1 : Int32).toInt = 1 := rfl
  have e2 : (2 : Int32).toInt = 2 := rfl
  have e5 : (5 : Int32).toInt = 5 := rfl
  have e200 : (200 : Int32).toInt = 200 := rfl
  have e1200 : (1200 : Int32).toInt = 1200 := rfl
  unfold f_X12_onto
  rw [Option.bind_some, ← hE0, k_isS _ h1.2.2.1 h1.1, Option.bind_some]
  by_cases c : 0 ≤ p.toInt ∧ p.toInt < ns
  · obtain ⟨i, rfl, hi⟩ := k_ix c
    obtain ⟨n, g, b1, b2, b3, b4, b5, b6⟩ := h1.2.2.2 i hi
    rw [if_pos c, k_nT E0 1 t0, if_pos rfl]
    dsimp only
    rw [k_in, e1, e200, Option.bind_some]
    by_cases c2 : 1 ≤ b.toInt ∧ b.toInt ≤ 200
    · obtain ⟨z, rfl, hz1, hz2⟩ := k_natOf (lo := 1) (hi := 200) c2
      rw [if_pos c2, k_nT E0 2 t0, if_pos rfl]
      dsimp only
      have cls0 : f_X11_onto (Int32.ofNat i) (Int32.ofNat z) D = am_bn (f_X1_freeMap D) (fun x8 => (f_X0_find 106 (30 + 2 * i) D).bind fun x10 => if (2 : Int32) ≤ (x10.1 106 2) then (f_X0_findGrid 106 x10).bind fun x13 => (f_X0_intoMap 106 (Int32.ofNat z) x8 x13).bind fun x15 => (f_X9_addRest x8 (x15.1 (30 + 2 * i) 1) x15).bind fun x17 => (f_X9_lastTo x8 x17).bind fun x19 => if x19 ≤ (1200 : Int32) then (f_X1_takeMap x17).bind fun x22 => some (.inr (x22.1, x22.2)) else some (.inr ((-2 : Int32), x17)) else some (.inr ((-2 : Int32), x10))) (some (.inr ((-1 : Int32), D))) := by
        unfold f_X11_onto
        rw [k_soT h1.2.1 h1.1 hi, k_btR, k_cwithin, e1, e200, if_pos c2, Option.bind_some, k_needT]
      rw [cls0, h2.2.2.1, k_freeM h2.2.1 hnm]
      by_cases c5 : nm < 5
      · rw [if_pos c5, if_neg (by rw [j_eq, j_nat (by omega), e5]; omega)]
        show k_opE D E ((f_X0_find 106 (30 + 2 * i) D).bind fun x10 => if (2 : Int32) ≤ (x10.1 106 2) then (f_X0_findGrid 106 x10).bind fun x13 => (f_X0_intoMap 106 (Int32.ofNat z) (40 + 3 * nm) x13).bind fun x15 => (f_X9_addRest (40 + 3 * nm) (x15.1 (30 + 2 * i) 1) x15).bind fun x17 => (f_X9_lastTo (40 + 3 * nm) x17).bind fun x19 => if x19 ≤ (1200 : Int32) then (f_X1_takeMap x17).bind fun x22 => some (.inr (x22.1, x22.2)) else some (.inr ((-2 : Int32), x17)) else some (.inr ((-2 : Int32), x10))) _ _
        have hln := k_lnS i (by omega)
        obtain ⟨D2, E2, cc, pos, d1, d2, d3, d4, d5, d6, d7⟩ := k_find (r0 := 106) b3 b5 (by omega) (by omega) (k_Rk_of h3) (by omega) (by omega) (by omega)
        have hcc := d3.1
        -- where it is refused
        have refuse : ∀ (D4 E4 : am_D) (u : Int32), (∀ q, q ≠ 106 → q ≠ 107 → q ≠ 108 → q ≠ 40 + 3 * nm ∧ q ≠ 41 + 3 * nm ∧ q ≠ 42 + 3 * nm → D4.1 q = D.1 q ∧ D4.2 q = D.2 q) → (∀ q, ¬ (121 ≤ q ∧ q < 133) → q ≠ 2629 → E4.1 q = E0.1 q) → E4.2 = E0.2 → k_opE D E (some (.inr (u, D4))) (some (u, E4)) ["java/util/NoSuchElementException", "java/lang/IllegalArgumentException"] := by
          intro D4 E4 u w1 w2 w3
          have q4 : k_Q D4 E0 := k_slotM h1 h2 h3 h4 h5 h6 h7 h8 h9 (fun q hq => (w1 q (by omega) (by omega) (by omega) (by omega)).1) c5
          exact k_valE u (k_Q_sc q4 (k_sc_refl D4) ⟨fun q hq => w2 q (by omega) (by omega), fun j hj => by rw [w2 117 (by omega) (by omega)], fun q _ => ⟨by rw [w2 221 (by omega) (by omega)], by rw [w2 222 (by omega) (by omega)]⟩, fun q _ => by rw [w2 223 (by omega) (by omega)], fun q _ hq k y hk _ => by rw [w2 _ (by omega) (by omega)]⟩) (by rw [w2 117 (by omega) (by omega)]; exact t0) (k_fr_trans f0 (fun q hq => ⟨w2 q (by omega) (by omega), by rw [w3]⟩)) (fun q hq => w1 q (by omega) (by omega) (by omega) (by omega)) rfl rfl
        rw [d1, Option.bind_some, d3.2.1, k_a (by omega) (by omega), Option.bind_some, k_g (by omega) (by omega), b4, Option.bind_some, d2, Option.bind_some]
        dsimp only
        by_cases c3 : 2 ≤ cc
        · have y2 : (2 : Int32) ≤ Int32.ofNat cc := by rw [j_le, e2, j_nat (by omega)]; omega
          obtain ⟨D3, u, g1, g2, g3, st, a, s1, s2, s3, s4, s5, s6, s7⟩ := k_grid d3 (show n ≤ 1200 by omega)
          have r1 : u / 200 = Int32.ofNat st := by
            rw [s7]
            have q : Int32.ofNat (200 * st + a) / Int32.ofNat 200 = Int32.ofNat ((200 * st + a) / 200) := k_dvN (by omega) (by omega) (by omega)
            have e : (200 * st + a) / 200 = st := by omega
            rw [e] at q
            exact q
          have r2 : am_rm u 200 = some (Int32.ofNat a) := by
            rw [s7]
            have q : am_rm (Int32.ofNat (200 * st + a)) (Int32.ofNat 200) = some (Int32.ofNat ((200 * st + a) % 200)) := k_rmN (by omega) (by omega) (by omega)
            have e : (200 * st + a) % 200 = a := by omega
            rw [e] at q
            exact q
          obtain ⟨D4, m1, m2, m3⟩ := j_map_clear (D := D3) (40 + 3 * nm)
          have hb4 : k_bl D4 E2 106 n cc pos := by
            have q := k_bl_38 d3 g3
            exact ⟨q.1, by rw [(m3 106 (by omega)).1]; exact q.2.1, fun j hj => by rw [(m3 107 (by omega)).1]; exact q.2.2 j hj⟩
          have h3' : D4.1 106 3 = Int32.ofNat st := by rw [(m3 106 (by omega)).1]; exact s4
          have h4' : D4.1 106 4 = Int32.ofNat a := by rw [(m3 106 (by omega)).1]; exact s5
          have hgood : k_good D4 E2 (40 + 3 * nm) 0 n 1000000 := ⟨_, _, k_mk_0 m2, k_up_0, show (0 : Int32).toInt < (n : Int) by rw [e0]; omega, show (0 : Int32).toInt ≤ ((1000000 : Nat) : Int) by decide⟩
          obtain ⟨D5, E5, n5, i1, i2, i3, i4, i5⟩ := k_ontoL (Int32.ofNat i) hb4 (by omega) (by omega) b2 ⟨s1, s2, s3⟩ h3' h4' hz2 hgood
          obtain ⟨F, T, j1, j2, j3, j4⟩ := i3
          have fD5 : ∀ q, q ≠ 106 → q ≠ 107 → q ≠ 108 → q ≠ 40 + 3 * nm ∧ q ≠ 41 + 3 * nm ∧ q ≠ 42 + 3 * nm → D5.1 q = D.1 q ∧ D5.2 q = D.2 q := fun q a1 a2 a3 a4 => ⟨by rw [(i5.1 q (by omega)).1, (m3 q (by omega)).1, g3.1 q a1 a3, d4 q a1 a2], by rw [(i5.1 q (by omega)).2, (m3 q (by omega)).2, g3.2.2, d5]⟩
          have fE5 : ∀ q, ¬ (121 ≤ q ∧ q < 133) → q ≠ 2629 → E5.1 q = E0.1 q := fun q a1 a2 => by rw [i5.2.1 q a1, d6 q a2]
          obtain ⟨D6, E6, v1, v2, v3, v4⟩ := k_endC (D := D5) i j1 (by omega) (show E5.1 139 i = Int32.ofNat n by rw [fE5 139 (by omega) (by omega)]; exact b4) i4
          obtain ⟨z1, z2, z3, z4⟩ := k_endV j1 j2 j3 j4 b2 (by omega)
          have fD6 : ∀ q, q ≠ 106 → q ≠ 107 → q ≠ 108 → q ≠ 40 + 3 * nm ∧ q ≠ 41 + 3 * nm ∧ q ≠ 42 + 3 * nm → D6.1 q = D.1 q ∧ D6.2 q = D.2 q := fun q a1 a2 a3 a4 => ⟨by rw [(v3.1 q (by omega)).1, (fD5 q a1 a2 a3 a4).1], by rw [(v3.1 q (by omega)).2, (fD5 q a1 a2 a3 a4).2]⟩
          have fE6 : ∀ q, ¬ (121 ≤ q ∧ q < 133) → q ≠ 2629 → E6.1 q = E0.1 q := fun q a1 a2 => by rw [v3.2.1 q a1, fE5 q a1 a2]
          have fE62 : E6.2 = E0.2 := by rw [v3.2.2, i5.2.2, d7]
          have hlen : D5.1 (30 + 2 * i) 1 = Int32.ofNat n := by rw [(fD5 _ (by omega) (by omega) (by omega) (by omega)).1]; exact b3.2.2.1
          have hz0 := hb4.2.2 0 (by omega)
          have hat : f_X0_at 106 (0 : Int32) D4 = some (Int32.ofNat (pos 0)) := by
            have q := k_blat hb4 0
            rw [e0, if_pos (by omega)] at q
            exact q
          have hnum := (k_nb_ok (x := pos 0) s1 s2 s3 (by omega)).2.1 D4 h3' h4'
          have i1 : f_X0_intoMap_L17 106 (Int32.ofNat z) (40 + 3 * nm) (k_nb st a (pos 0)) am_fu (0 : Int32) D4 = some D5 := i1
          have i2 : f_X12_onto_L116 (Int32.ofNat i) (Int32.ofNat z) (Int32.ofNat cc) (Int32.ofNat st) (Int32.ofNat a) am_fu (0 : Int32) (0 : Int32) E2 = some (Int32.ofNat n5, E5) := i2
          have hinto : f_X0_intoMap 106 (Int32.ofNat z) (40 + 3 * nm) D3 = some D5 := by
            unfold f_X0_intoMap
            rw [m1, Option.bind_some, hat, Option.bind_some, hnum, Option.bind_some, i1, Option.bind_some]
          have hlast : f_X9_lastTo (40 + 3 * nm) D6 = some (T ((n5 : Int) - 1) + Int32.ofNat n - F ((n5 : Int) - 1)) := by
            rw [j_map_lastTo v2.1, k_put_at]
          rw [if_pos y2, if_pos y2, g1, g2, Option.bind_some, Option.bind_some, hinto, Option.bind_some, hlen, v1, Option.bind_some, hlast, Option.bind_some, r1, r2, Option.bind_some, i2, Option.bind_some]
          dsimp only
          rw [v4]
          by_cases cy : (T ((n5 : Int) - 1) + Int32.ofNat n - F ((n5 : Int) - 1)) ≤ 1200
          · have cy' := (j_le _ _).mp cy
            rw [e1200] at cy'
            obtain ⟨E7, x1, x2, x3, x4, x5⟩ := k_keepMap h1 h2 h3 h4 h5 h6 h7 h8 h9 c5 (z4 cy' i4) v2 (fun q hq => (fD6 q (by omega) (by omega) (by omega) (by omega)).1) (fun q hq => fE6 q (by omega) (by omega))
            rw [if_pos cy, if_pos cy, x1, x2, Option.bind_some, Option.bind_some, Option.bind_some]
            refine k_valE (Int32.ofNat nm) x3 (by rw [x4]; exact t0) (k_fr_trans f0 (k_fr_trans (fun q hq => ⟨fE6 q (by omega) (by omega), by rw [fE62]⟩) x5)) (fun q hq => ?_) rfl rfl
            exact ⟨by rw [j_wI_ne _ _ _ (by omega)]; exact (fD6 q (by omega) (by omega) (by omega) (by omega)).1, (fD6 q (by omega) (by omega) (by omega) (by omega)).2⟩
          · rw [if_neg cy, if_neg cy, Option.bind_some]
            exact refuse D6 E6 _ fD6 fE6 fE62
        · have y2 : ¬ (2 : Int32) ≤ Int32.ofNat cc := by rw [j_le, e2, j_nat (by omega)]; omega
          rw [if_neg y2, if_neg y2]
          exact refuse D2 E2 _ (fun q a1 a2 _ _ => ⟨d4 q a1 a2, by rw [d5]⟩) (fun q _ a2 => d6 q a2) d7
      · rw [if_neg c5, if_pos (by rw [j_eq, j_nat (by omega), e5]; omega)]
        exact k_valE _ q0 t0 f0 (k_fc_refl D) rfl rfl
    · rw [if_neg c2, k_nF E0 2 (by decide) t0, if_neg k_10]
      refine k_refE 0 1 _ q0 f0 (k_fc_refl D) rfl ?_ rfl
      unfold f_X11_onto
      rw [k_soT h1.2.1 h1.1 hi, k_btR, k_cwithin, e1, e200, if_neg c2, Option.bind_some, k_needF]
  · unfold f_X11_onto
    rw [k_soF h1.2.1 h1.1 c, k_btL, if_neg c, k_nF E0 1 k_10 t0, if_neg k_10]
    exact k_refE 0 0 _ q0 f0 (k_fc_refl D) rfl rfl rfl
