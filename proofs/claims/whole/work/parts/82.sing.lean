/-! sing -/
theorem op_sing {D E : am_D} (h : k_Q D E) (p k a b : Int32) : k_opE D E (f_X11_sing p k a b D) (f_X12_sing p k a b E) ["java/util/NoSuchElementException", "java/lang/IndexOutOfBoundsException", "java/lang/IllegalArgumentException", "java/lang/IllegalStateException"] := by
  obtain ⟨E0, hE0, t0, f0, q0⟩ := k_start h
  have q0' := q0
  obtain ⟨ns, nm, nw, np, nh, ni, h1, h2, h3, h4, h5, h6, h7, h8, h9⟩ := q0'

  have hns := h1.1
  have hnm := h2.1
  have e4 : (4 : Int32).toInt = 4 := rfl
  have e8 : (8 : Int32).toInt = 8 := rfl
  have e60 : (60 : Int32).toInt = 60 := rfl
  unfold f_X12_sing
  rw [Option.bind_some, ← hE0, k_badBoth p k t0 h1.2.2.1 h1.1 h2.2.2.1 h2.1, Option.bind_some]
  by_cases c : 0 ≤ p.toInt ∧ p.toInt < ns
  · obtain ⟨i, rfl, hi⟩ := k_ix c
    obtain ⟨n, g, bs⟩ := h1.2.2.2 i hi
    rw [if_pos c]
    by_cases c2 : 0 ≤ k.toInt ∧ k.toInt < nm
    · obtain ⟨j, rfl, hj⟩ := k_ix c2
      obtain ⟨m, f, t, b1, b2, b3⟩ := h2.2.2.2 j hj
      rw [if_pos c2, if_pos rfl]
      dsimp only
      have cls : f_X11_sing (Int32.ofNat i) (Int32.ofNat j) a b D = if (4 ≤ a.toInt ∧ a.toInt ≤ 60) ∧ (8 ≤ b.toInt ∧ b.toInt ≤ 60) then (if f ((m : Int) - 1) ≤ Int32.ofNat n then (f_X3_singOut 71 (30 + 2 * i) (40 + 3 * j) a b D).bind fun x19 => some (.inr ((x19.1 74 1), x19)) else some (.inl ("java/lang/IllegalStateException", D))) else some (.inl ("java/lang/IllegalArgumentException", D)) := by
        unfold f_X11_sing f_X11_isPitch
        rw [k_soT h1.2.1 h1.1 hi, k_btR, k_maT h2.2.1 h2.1 hj, k_btR, k_cwithin, e4, e60, Option.bind_some, Option.bind_some]
        by_cases ca : 4 ≤ a.toInt ∧ a.toInt ≤ 60
        · rw [if_pos ca, if_neg k_10, k_cwithin, e8, e60, Option.bind_some]
          by_cases cb : 8 ≤ b.toInt ∧ b.toInt ≤ 60
          · rw [if_pos cb, if_neg k_10, Option.bind_some, k_needT, j_map_lastFrom b2, Option.bind_some, bs.2.2.1.2.2.1, if_pos (show (4 ≤ a.toInt ∧ a.toInt ≤ 60) ∧ (8 ≤ b.toInt ∧ b.toInt ≤ 60) from ⟨ca, cb⟩)]
          · rw [if_neg cb, if_pos rfl, Option.bind_some, k_needF, if_neg (fun z => cb z.2)]
        · rw [if_neg ca, if_pos rfl, Option.bind_some, k_needF, if_neg (fun z => ca z.1)]
      have chk : ((f_X12_in a 4 60).bind fun x7 => (if x7 = 0 then some (1 : Int32) else (f_X12_in b 8 60).bind fun x11 => if x11 = 0 then some 1 else some 0)) = some (if (4 ≤ a.toInt ∧ a.toInt ≤ 60) ∧ (8 ≤ b.toInt ∧ b.toInt ≤ 60) then 0 else 1) := by
        rw [k_in, e4, e60, Option.bind_some]
        by_cases ca : 4 ≤ a.toInt ∧ a.toInt ≤ 60
        · rw [if_pos ca, if_neg k_10, k_in, e8, e60, Option.bind_some]
          by_cases cb : 8 ≤ b.toInt ∧ b.toInt ≤ 60
          · rw [if_pos cb, if_neg k_10, if_pos ⟨ca, cb⟩]
          · rw [if_neg cb, if_pos rfl, if_neg (fun z => cb z.2)]
        · rw [if_neg ca, if_pos rfl, if_neg (fun z => ca z.1)]
      rw [← Option.bind_assoc, chk, cls, Option.bind_some]
      by_cases cc : (4 ≤ a.toInt ∧ a.toInt ≤ 60) ∧ (8 ≤ b.toInt ∧ b.toInt ≤ 60)
      · rw [if_pos cc, if_pos cc, k_b0 t0, Option.bind_some, if_pos rfl]
        dsimp only
        rw [k_g (by omega) (by omega), bs.2.2.2.1, Option.bind_some, (k_rlast b3 b1 (by omega)).1, Option.bind_some]
        by_cases cf : f ((m : Int) - 1) ≤ Int32.ofNat n
        · rw [if_pos cf, if_pos cf, Option.bind_some, k_b0 t0, Option.bind_some, if_pos rfl]
          dsimp only
          obtain ⟨a', rfl, ha1, ha2⟩ := k_natOf (lo := 4) (hi := 60) cc.1
          obtain ⟨b', rfl, hb1, hb2⟩ := k_natOf (lo := 8) (hi := 60) cc.2
          have h8' := h8
          obtain ⟨L0, out0, q, st, a1, a2, a3, a4, a5, a6, a7, a8, a9, a10, a11, a12, a13, a14⟩ := h8'
          have hT := k_tl b1
          obtain ⟨L, hLn⟩ : ∃ L : Nat, (t ((m : Int) - 1)).toInt = L := ⟨(t ((m : Int) - 1)).toInt.toNat, (by omega)⟩
          have hLe : t ((m : Int) - 1) = Int32.ofNat L := by rw [j_eq, hLn, j_nat (by omega)]
          -- the class
          obtain ⟨D1, d1, d2, d3⟩ := j_row_start (D := D) k_rw73.2.1 0 (by omega)
          obtain ⟨D2, hD2⟩ : ∃ D2, D2 = am_wI (am_wI D1 71 6 0) 71 7 0 := ⟨_, rfl⟩
          have f2 : ∀ y, y ≠ 71 → D2.1 y = D1.1 y := fun y hy => by rw [hD2, j_wI_ne _ _ _ hy, j_wI_ne _ _ _ hy]
          obtain ⟨D3, d4, d5, d6⟩ := j_row_start (D := D2) k_rw73.2.1 L (by omega)
          have fD3 : ∀ y, y ≠ 71 ∧ y ≠ 74 ∧ y ≠ 75 → D3.1 y = D.1 y := fun y hy => by rw [(d6 y (by omega)).1, f2 y hy.1, (d3 y (by omega)).1]
          have hsn : k_snd D3 E0 i n g := k_snd_mv bs (fD3 _ (by omega)) (fD3 _ (by omega)) rfl rfl
          have hmp : j_map D3 (40 + 3 * j) m f t := j_map_fr b2 (fD3 _ (by omega)) (fD3 _ (by omega)) (fD3 _ (by omega))
          -- the reference
          obtain ⟨E1, g1, g2, g3, g4, g5, g6, g7⟩ := k_takes b3 b1 (by omega) a13 a14
          obtain ⟨E2, hE2⟩ : ∃ E2, E2 = am_wI (am_wI (am_wI E1 117 38 (Int32.ofNat L)) 117 39 0) 117 40 0 := ⟨_, rfl⟩
          have fE2 : ∀ y, y ≠ 117 ∧ y ≠ 223 → E2.1 y = E0.1 y := fun y hy => by rw [hE2, j_wI_ne _ _ _ hy.1, j_wI_ne _ _ _ hy.1, j_wI_ne _ _ _ hy.1, g5 y hy.1 hy.2]
          have fE223 : E2.1 223 = E1.1 223 := by rw [hE2, j_wI_ne _ _ _ (by omega), j_wI_ne _ _ _ (by omega), j_wI_ne _ _ _ (by omega)]
          have fE117 : ∀ j, (j < 37 ∨ 40 < j) → E2.1 117 j = E0.1 117 j := fun j hj => by rw [hE2, k_wj _ _ (by omega), k_wj _ _ (by omega), k_wj _ _ (by omega), g6 j (by omega)]
          have x38 : E2.1 117 38 = Int32.ofNat L ∧ E2.1 117 39 = 0 ∧ E2.1 117 40 = 0 := by
            rw [hE2]
            exact ⟨by rw [k_wj _ _ (by decide), k_wj _ _ (by decide), k_ws], by rw [k_wj _ _ (by decide), k_ws], by rw [k_ws]⟩
          have hfm2 : k_fm E2 m f t := k_fm_by g2 (by rw [hE2, k_wj _ _ (by decide), k_wj _ _ (by decide), k_wj _ _ (by decide)]) fE223
          have hsn2 : k_snd D3 E2 i n g := k_snd_mv hsn rfl rfl (by rw [fE2 139 (by omega)]) (fE2 _ (by omega))
          obtain ⟨D4, E4, out, r1, r2, r3, r4, r5, r6, r7, r8⟩ := k_singL (L := L) hsn2 (by omega) b1 hmp (by omega) hfm2 hLe ha1 ha2 hb1 hb2 d5 x38.1
          have cs : f_X3_singOut 71 (30 + 2 * i) (40 + 3 * j) (Int32.ofNat a') (Int32.ofNat b') D = some D4 := by
            have d1 : f_X7_start (71 + 3) (0 : Int32) D = some D1 := d1
            have mp2 : j_map D2 (40 + 3 * j) m f t := j_map_fr b2 (by rw [f2 _ (by omega), (d3 _ (by omega)).1]) (by rw [f2 _ (by omega), (d3 _ (by omega)).1]) (by rw [f2 _ (by omega), (d3 _ (by omega)).1])
            unfold f_X3_singOut f_X3_clear
            rw [d1, Option.bind_some, Option.bind_some, Option.bind_some, ← hD2, Option.bind_some, j_map_lastTo mp2, hLe, Option.bind_some, d4, Option.bind_some, r1, Option.bind_some]
          rw [cs, Option.bind_some, g1, Option.bind_some, k_rlen g2 b1.2.1, hLe, Option.bind_some, Option.bind_some, Option.bind_some, Option.bind_some, ← hE2, r2, Option.bind_some]
          have fD : ∀ y, y < 71 ∨ (71 < y ∧ y < 74) ∨ 75 < y → D4.1 y = D.1 y := fun y hy => by rw [(r6 y (by omega)).1, fD3 y (by omega)]
          have fE : ∀ y, y ≠ 117 ∧ y ≠ 222 ∧ y ≠ 223 → E4.1 y = E0.1 y := fun y hy => by rw [r7 y hy.2.1, fE2 y ⟨hy.1, hy.2.2⟩]
          have y117 : ∀ j, E4.1 117 j = E2.1 117 j := fun j => by rw [r7 117 (by omega)]
          have z6 : D4.1 71 6 = 0 ∧ D4.1 71 7 = 0 := by
            have e : D4.1 71 = D2.1 71 := by rw [(r6 71 (by omega)).1, (d6 71 (by omega)).1]
            rw [e, hD2]
            exact ⟨by rw [k_wj _ _ (by decide), k_ws], by rw [k_ws]⟩
          have hd4 : k_Rd D4 E4 := by
            refine ⟨L, out, 0, 0, (by omega), r3, by rw [y117]; exact x38.1, r4, r5, by rw [z6.1]; rfl, by rw [y117, x38.2.1]; rfl, (by omega), fun k hk => absurd hk (by omega), by rw [z6.2, y117, x38.2.2], Or.inl (by rw [y117]; exact x38.2.2), fun z => ?_, ?_, ?_⟩
            · rw [y117, x38.2.2] at z
              exact absurd z (by decide)
            · rw [r7 223 (by omega), fE223]; exact g3
            · rw [r7 223 (by omega), fE223]; exact g4
          have q4 : k_Q D4 E4 := by
            have dD : ∀ y, y < 71 ∨ (71 < y ∧ y < 74) ∨ 75 < y → D4.1 y = D.1 y := fD
            have eE : ∀ y, y ≠ 117 ∧ y ≠ 222 ∧ y ≠ 223 → E4.1 y = E0.1 y := fE
            have d17 : ∀ j, 0 ≤ j → D4.1 17 j = D.1 17 j := fun j _ => by rw [dD 17 (by omega)]
            have e117 : ∀ j, (j < 37 ∨ 40 < j) → E4.1 117 j = E0.1 117 j := fun j hj => by rw [y117, fE117 j hj]
            exact ⟨ns, nm, nw, np, nh, ni, k_Rs_mv h1 (d17 7 (by omega)) (e117 12 (by omega)) (fun y a b => dD y (by omega)) (eE _ (by omega)) (fun y a b => eE y (by omega)), k_Rm_mv h2 (d17 8 (by omega)) (e117 13 (by omega)) (fun y a b => dD y (by omega)) (eE _ (by omega)) (fun y a b => eE y (by omega)), k_Rn_mv h3 (dD _ (by omega)) (fun j _ => d17 j (by omega)) (dD _ (by omega)) (fun j a b => e117 j (by omega)) (eE _ (by omega)), k_Rw_mv h4 (d17 9 (by omega)) (e117 20 (by omega)) (fun y a b => dD y (by omega)) (fun y a b => eE y (by omega)), k_Rp_mv h5 (by rw [dD 24 (by omega)]) (e117 21 (by omega)) (fun y a b => dD y (by omega)) (fun y a b => eE y (by omega)), k_Rh_mv h6 (d17 10 (by omega)) (e117 22 (by omega)) (dD _ (by omega)) (eE _ (by omega)), k_Ri_mv h7 (fun _ => Nat.le_refl _) (by rw [dD 16 (by omega)]) (e117 23 (by omega)) (fun y a b => dD y (by omega)) (fun y a b => eE y (by omega)) (fun s hs => by have hs : s < ns := hs; have := h1.1; exact ⟨by rw [eE 139 (by omega)], fun k _ => by rw [eE (134 + s) (by omega)]⟩) (fun m hm => by have hm : m < nm := hm; have := h2.1; exact ⟨by rw [eE 201 (by omega)], fun k j _ _ => by rw [eE _ (by omega)]⟩) (fun w j hw _ => by have hw : w < nw := hw; have := h4.1; rw [eE _ (by omega)]) (fun p j hp _ => by have hp : p < np := hp; have := h5.1; rw [eE _ (by omega)]) (fun z _ => by rw [eE 203 (by omega)]), hd4, k_Rt_mv h9 (dD _ (by omega)) (dD _ (by omega)) (e117 1 (by omega)) (e117 3 (by omega)) (eE _ (by omega))⟩
          refine k_valE (Int32.ofNat L) (D1 := D4) (E1 := E4) q4 ?_ ?_ ?_ ?_ ?_
          · rw [y117, fE117 0 (by omega)]; exact t0
          · exact k_fr_trans f0 (fun y hy => ⟨fE y (by omega), by rw [r8, hE2]; show E1.2 y = _; rw [g7]⟩)
          · exact fun y hy => ⟨fD y (by omega), by rw [(r6 y (by omega)).2, (d6 y (by omega)).2, hD2]; exact (d3 y (by omega)).2⟩
          · rw [r3.2.2.1]
          · rw [y117, x38.1]
        · rw [if_neg cf, if_neg cf, Option.bind_some, k_b1 t0 4 (by decide), Option.bind_some, if_neg k_10]
          exact k_refE 0 3 _ q0 f0 (k_fc_refl D) rfl rfl rfl
      · rw [if_neg cc, if_neg cc, k_b1 t0 3 (by decide), Option.bind_some, if_neg k_10]
        exact k_refE 0 2 _ q0 f0 (k_fc_refl D) rfl rfl rfl
    · rw [if_neg c2, if_neg k_10]
      refine k_refE 0 1 _ q0 f0 (k_fc_refl D) rfl ?_ rfl
      unfold f_X11_sing
      rw [k_soT h1.2.1 h1.1 hi, k_btR, k_maF h2.2.1 h2.1 c2, k_btL]
  · rw [if_neg c, if_neg k_10]
    refine k_refE 0 0 _ q0 f0 (k_fc_refl D) rfl ?_ rfl
    unfold f_X11_sing
    rw [k_soF h1.2.1 h1.1 c, k_btL]
