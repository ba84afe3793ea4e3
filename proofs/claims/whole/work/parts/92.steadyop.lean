/-! steady, the operation -/
theorem op_steady {D E : am_D} (h : k_Q D E) (p : Int32) : k_opE D E (f_X11_steady p D) (f_X12_steady p E) ["java/util/NoSuchElementException"] := by
  obtain ⟨E0, hE0, t0, f0, q0⟩ := k_start h
  have q0' := q0
  obtain ⟨ns, nm, nw, np, nh, ni, h1, h2, h3, h4, h5, h6, h7, h8, h9⟩ := q0'

  have hns := h1.1
  have hnm := h2.1
  have e0 : (0 : Int32).toInt = 0 := rfl
  have e2 : (2 : Int32).toInt = 2 := rfl
  have e5 : (5 : Int32).toInt = 5 := rfl
  have e11 : (11 : Int32).toInt = 11 := rfl
  have e1200 : (1200 : Int32).toInt = 1200 := rfl
  unfold f_X12_steady
  rw [Option.bind_some, ← hE0, k_isS _ h1.2.2.1 h1.1, Option.bind_some]
  by_cases c : 0 ≤ p.toInt ∧ p.toInt < ns
  · obtain ⟨i, rfl, hi⟩ := k_ix c
    obtain ⟨L, g, b1, b2, b3, b4, b5, b6⟩ := h1.2.2.2 i hi
    rw [if_pos c, k_nT E0 1 t0, if_pos rfl]
    dsimp only
    have cls0 : f_X11_steady (Int32.ofNat i) D = am_bn (f_X1_freeMap D) (fun x4 => (f_X2_find (30 + 2 * i) D).bind fun x6 => if (2 : Int32) ≤ (x6.1 112 1) then (f_X2_intoMap x4 x6).bind fun x9 => (f_X9_addRest x4 (x9.1 (30 + 2 * i) 1) x9).bind fun x11 => (f_X1_takeMap x11).bind fun x13 => some (.inr (x13.1, x13.2)) else some (.inr ((-2 : Int32), x6))) (some (.inr ((-1 : Int32), D))) := by
      unfold f_X11_steady
      rw [k_soT h1.2.1 h1.1 hi, k_btR]
    rw [cls0, h2.2.2.1, k_freeM h2.2.1 hnm]
    by_cases c5 : nm < 5
    · rw [if_pos c5, if_neg (by rw [j_eq, j_nat (by omega), e5]; omega)]
      show k_opE D E ((f_X2_find (30 + 2 * i) D).bind fun x6 => if (2 : Int32) ≤ (x6.1 112 1) then (f_X2_intoMap (40 + 3 * nm) x6).bind fun x9 => (f_X9_addRest (40 + 3 * nm) (x9.1 (30 + 2 * i) 1) x9).bind fun x11 => (f_X1_takeMap x11).bind fun x13 => some (.inr (x13.1, x13.2)) else some (.inr ((-2 : Int32), x6))) _ _
      obtain ⟨D2, E2, cc, pos, d1, d2, d3, d4, d5⟩ := k_cfind b3 b4 b5 (by omega) b2 b1 (by omega)
      have hcc := d3.1
      rw [d1, d2, Option.bind_some, Option.bind_some, d3.2.1]
      dsimp only
      by_cases c2 : 2 ≤ cc
      · have y2 : (2 : Int32) ≤ Int32.ofNat cc := by rw [j_le, e2, j_nat (by omega)]; omega
        rw [if_pos y2, if_pos y2]
        obtain ⟨st, hst⟩ : ∃ st, st = 1 + (cc - 1) / 11 := ⟨_, rfl⟩
        obtain ⟨q, hq⟩ : ∃ q, q = (cc - 1) / st := ⟨_, rfl⟩
        obtain ⟨w11, hw⟩ : ∃ w11, w11 = if (cc - 1) % st = 0 then 0 else 1 := ⟨_, rfl⟩
        obtain ⟨M, hM⟩ : ∃ M, M = if (cc - 1) % st = 0 then q + 1 else if q = 10 then 10 else q + 1 := ⟨_, rfl⟩
        obtain ⟨D3, m1, m2, m3⟩ := j_map_clear (D := D2) (40 + 3 * nm)
        obtain ⟨hq10, hdm, hml, E3, s1, s2, s3, s4⟩ := k_stdP (E := E2) (Int32.ofNat i) 0 c2 hcc hst hq
        have hc3 : k_cr D3 E2 L cc pos := k_cr_mv d3 (m3 112 (by omega)).1 (m3 113 (by omega)).1 rfl
        have hcC := k_stdC m1 hc3 c2 hst hq hq10 hw hM
        have ecc : Int32.ofNat cc - 1 = Int32.ofNat (cc - 1) := by rw [j_eq, j_pred cc (by omega), j_nat (by omega)]; omega
        have eq1 : Int32.ofNat (q + 1) - 1 = Int32.ofNat q := by rw [j_eq, j_pred (q + 1) (by omega), j_nat (by omega)]; omega
        have hqst : q * st ≤ cc - 1 := by rw [Nat.mul_comm]; omega
        have est : (1 : Int32) + Int32.ofNat (cc - 1) / 11 = Int32.ofNat st := by
          have d : Int32.ofNat (cc - 1) / Int32.ofNat 11 = Int32.ofNat ((cc - 1) / 11) := k_dvN (by omega) (by omega) (by omega)
          have d : Int32.ofNat (cc - 1) / 11 = Int32.ofNat ((cc - 1) / 11) := d
          rw [d, hst]
          exact (Int32.ofNat_add 1 ((cc - 1) / 11)).symm
        have hvb : ∀ v, v ≤ q → v * st ≤ q * st := fun v hv => Nat.mul_le_mul_right st hv
        -- the reference's list
        obtain ⟨T, E4, hT, hlist, u1, u2, u3⟩ : ∃ T E4, ((w11 = 0 ∧ T = M) ∨ (w11 = 1 ∧ T = M + 1 ∧ M ≤ 10 ∧ E4.1 2630 M = Int32.ofNat (cc - 1))) ∧ (∀ v, v < M → v * st < cc ∧ E4.1 2630 v = Int32.ofNat (v * st)) ∧
            (if Int32.ofNat (q * st) = Int32.ofNat (cc - 1) then some (Int32.ofNat (q + 1), E3) else (if Int32.ofNat (q + 1) = (11 : Int32) then some ((10 : Int32)) else some (Int32.ofNat (q + 1))).bind fun w25 => (am_pI E3 2630 61 w25 (Int32.ofNat (cc - 1))).bind fun D26 => some ((w25 + (1 : Int32)), D26)) = some (Int32.ofNat T, E4) ∧ (∀ y, y ≠ 2630 → E4.1 y = E3.1 y) ∧ E4.2 = E3.2 := by
          by_cases cr : (cc - 1) % st = 0
          · rw [if_pos cr] at hw hM
            have e : q * st = cc - 1 := by rw [Nat.mul_comm]; omega
            refine ⟨q + 1, E3, Or.inl ⟨hw, hM.symm⟩, fun v hv => ?_, by rw [e, if_pos rfl], fun _ _ => rfl, rfl⟩
            have := hvb v (by omega)
            exact ⟨(by omega), s2 v (by omega)⟩
          · rw [if_neg cr] at hw hM
            have e : q * st < cc - 1 := by rw [Nat.mul_comm]; omega
            have hM10 : M ≤ 10 := by
              rw [hM]
              split <;> omega
            have hMq : M ≤ q + 1 := by
              rw [hM]
              split <;> omega
            have ew : (if Int32.ofNat (q + 1) = (11 : Int32) then some ((10 : Int32)) else some (Int32.ofNat (q + 1))) = some (Int32.ofNat M) := by
              by_cases cq : q = 10
              · rw [if_pos cq] at hM
                rw [hM, cq]
                rfl
              · rw [if_neg cq] at hM
                rw [if_neg (by rw [j_eq, j_nat (by omega), e11]; omega), hM]
            refine ⟨M + 1, am_wI E3 2630 M (Int32.ofNat (cc - 1)), Or.inr ⟨hw, rfl, hM10, k_ws _ _ _ _⟩, fun v hv => ?_, ?_, fun y hy => j_wI_ne _ _ _ hy, rfl⟩
            · have := hvb v (by omega)
              refine ⟨(by omega), ?_⟩
              rw [k_wj _ _ (by omega)]
              exact s2 v (by omega)
            · rw [if_neg (by rw [j_eq, j_nat (by omega), j_nat (by omega)]; omega), ew, Option.bind_some, k_p _ (by omega) (by omega), Option.bind_some, j_suc]
        have hM11 : M ≤ 11 := by
          rw [hM]
          split
          · omega
          · split <;> omega
        have hgood : k_good D3 E4 (40 + 3 * nm) 0 L 599 := ⟨_, _, k_mk_0 m2, k_up_0, show (0 : Int32).toInt < (L : Int) by rw [e0]; omega, show (0 : Int32).toInt ≤ ((599 : Nat) : Int) by decide⟩
        have hc4 : k_cr D3 E4 L cc pos := k_cr_mv hc3 rfl rfl (by rw [u2 2631 (by omega), s3 2631 (by omega)])
        obtain ⟨D5, E5, n, r1, r2, r3, r4, r5⟩ := k_stdL (Int32.ofNat i) (by omega) hgood hc4 c2 b2 hM11 ⟨(by omega), (by omega)⟩ hlist hT
        obtain ⟨F, T', g1, g2, g3, g4⟩ := r3
        have fD5 : ∀ y, y ≠ 112 → y ≠ 113 → y ≠ 40 + 3 * nm ∧ y ≠ 41 + 3 * nm ∧ y ≠ 42 + 3 * nm → D5.1 y = D.1 y ∧ D5.2 y = D.2 y := fun y a1 a2 a3 => ⟨by rw [(r5.1 y (by omega)).1, (m3 y (by omega)).1, d4.1 y a1 a2], by rw [(r5.1 y (by omega)).2, (m3 y (by omega)).2, d4.2]⟩
        have fE5 : ∀ y, y ≠ 2630 → y ≠ 2631 → ¬ (121 ≤ y ∧ y < 133) → E5.1 y = E0.1 y := fun y a1 a2 a3 => by rw [r5.2.1 y a3, u2 y a1, s3 y a1, d5.1 y a2]
        have fE52 : E5.2 = E0.2 := by rw [r5.2.2, u3, s4, d5.2]
        obtain ⟨D6, E6, v1, v2, v3, v4⟩ := k_endC (D := D5) i g1 (by omega) (show E5.1 139 i = Int32.ofNat L by rw [fE5 139 (by omega) (by omega) (by omega)]; exact b4) r4
        obtain ⟨z1, z2, z3, z4⟩ := k_endV g1 g2 g3 g4 b2 (by omega)
        have y12 : (T' ((n : Int) - 1) + Int32.ofNat L - F ((n : Int) - 1)) ≤ 1200 := by rw [j_le, z1, e1200]; omega
        have hlen : D5.1 (30 + 2 * i) 1 = Int32.ofNat L := by rw [(fD5 _ (by omega) (by omega) (by omega)).1]; exact b3.2.2.1
        have fD6 : ∀ y, y ≠ 112 → y ≠ 113 → y ≠ 40 + 3 * nm ∧ y ≠ 41 + 3 * nm ∧ y ≠ 42 + 3 * nm → D6.1 y = D.1 y ∧ D6.2 y = D.2 y := fun y a1 a2 a3 => ⟨by rw [(v3.1 y (by omega)).1, (fD5 y a1 a2 a3).1], by rw [(v3.1 y (by omega)).2, (fD5 y a1 a2 a3).2]⟩
        have fE6 : ∀ y, y ≠ 2630 → y ≠ 2631 → ¬ (121 ≤ y ∧ y < 133) → E6.1 y = E0.1 y := fun y a1 a2 a3 => by rw [v3.2.1 y a3, fE5 y a1 a2 a3]
        obtain ⟨E7, x1, x2, x3, x4, x5⟩ := k_keepMap h1 h2 h3 h4 h5 h6 h7 h8 h9 c5 (z4 (by rw [z1]; omega) r4) v2 (fun z hz => (fD6 z (by omega) (by omega) (by omega)).1) (fun z hz => fE6 z (by omega) (by omega) (by omega))
        have g2630 : am_gI E3 2630 61 (Int32.ofNat q) = some (Int32.ofNat (q * st)) := by rw [k_g (by omega) (by omega), s2 q (Nat.le_refl q)]
        have s1 : f_X12_steady_L70 (Int32.ofNat i) (Int32.ofNat cc) (Int32.ofNat st) (0 : Int32) am_fu (0 : Int32) (0 : Int32) E2 = some (Int32.ofNat (q + 1), E3) := s1
        have r2 : f_X12_steady_L144 (Int32.ofNat i) (Int32.ofNat cc) (Int32.ofNat T) am_fu (0 : Int32) (0 : Int32) E4 = some (Int32.ofNat n, E5) := r2
        have hcC2 : f_X2_intoMap (40 + 3 * nm) D2 = some D5 := by rw [hcC]; exact r1
        rw [hcC2, Option.bind_some, hlen, v1, Option.bind_some, x1, Option.bind_some, ecc, est, s1, Option.bind_some]
        dsimp only
        rw [eq1, g2630, Option.bind_some, u1, Option.bind_some]
        dsimp only
        rw [r2, Option.bind_some]
        dsimp only
        rw [v4, if_pos y12, x2, Option.bind_some, Option.bind_some]
        refine k_valE (Int32.ofNat nm) x3 (by rw [x4]; exact t0) (k_fr_trans f0 (k_fr_trans (fun z hz => ⟨fE6 z (by omega) (by omega) (by omega), by rw [v3.2.2, fE52]⟩) x5)) (fun z hz => ?_) rfl rfl
        exact ⟨by rw [j_wI_ne _ _ _ (by omega)]; exact (fD6 z (by omega) (by omega) (by omega)).1, (fD6 z (by omega) (by omega) (by omega)).2⟩
      · have y2 : ¬ (2 : Int32) ≤ Int32.ofNat cc := by rw [j_le, e2, j_nat (by omega)]; omega
        rw [if_neg y2, if_neg y2]
        exact k_valX _ q0 t0 f0 d4 d5 rfl rfl
    · rw [if_neg c5, if_pos (by rw [j_eq, j_nat (by omega), e5]; omega)]
      exact k_valE _ q0 t0 f0 (k_fc_refl D) rfl rfl
  · unfold f_X11_steady
    rw [k_soF h1.2.1 h1.1 c, k_btL, if_neg c, k_nF E0 1 k_10 t0, if_neg k_10]
    exact k_refE 0 0 _ q0 f0 (k_fc_refl D) rfl rfl rfl
