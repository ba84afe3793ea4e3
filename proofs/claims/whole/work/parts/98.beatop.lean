/-! beat, the operation -/
theorem op_beat {D E : am_D} (h : k_Q D E) (p b : Int32) : k_opE D E (f_X11_beat p b D) (f_X12_beat p b E) ["java/util/NoSuchElementException", "java/lang/IllegalArgumentException"] := by
  obtain ⟨E0, hE0, t0, f0, q0⟩ := k_start h
  have q0' := q0
  obtain ⟨ns, nm, nw, np, nh, ni, h1, h2, h3, h4, h5, h6, h7, h8, h9⟩ := q0'

  have hns := h1.1
  have e0 : (0 : Int32).toInt = 0 := rfl
  have e2 : (2 : Int32).toInt = 2 := rfl
  unfold f_X12_beat
  rw [Option.bind_some, ← hE0, k_isS _ h1.2.2.1 h1.1, Option.bind_some]
  by_cases c : 0 ≤ p.toInt ∧ p.toInt < ns
  · obtain ⟨i, rfl, hi⟩ := k_ix c
    obtain ⟨n, g, b1, b2, b3, b4, b5, b6⟩ := h1.2.2.2 i hi
    rw [if_pos c, k_nT E0 1 t0, if_pos rfl]
    dsimp only
    rw [k_in, e0, e2, Option.bind_some]
    by_cases c2 : 0 ≤ b.toInt ∧ b.toInt ≤ 2
    · obtain ⟨z, rfl, hz1, hz2⟩ := k_natOf (lo := 0) (hi := 2) c2
      rw [if_pos c2, k_nT E0 2 t0, if_pos rfl]
      dsimp only
      have hln := k_lnS i (by omega)
      obtain ⟨D2, E2, cc, pos, d1, d2, d3, d4, d5, d6, d7⟩ := k_find (r0 := 106) b3 b5 (by omega) (by omega) (k_Rk_of h3) (by omega) (by omega) (by omega)
      have hcc := d3.1
      have cls : f_X11_beat (Int32.ofNat i) (Int32.ofNat z) D = if (2 : Int32) ≤ Int32.ofNat cc then (f_X0_findGrid 106 D2).bind fun x11 => if Int32.ofNat z = 0 then some (.inr ((x11.1 106 3), x11)) else if Int32.ofNat z = (1 : Int32) then some (.inr ((x11.1 106 4), x11)) else some (.inr ((x11.1 106 5), x11)) else some (.inr ((-1 : Int32), D2)) := by
        unfold f_X11_beat
        rw [k_soT h1.2.1 h1.1 hi, k_btR, k_cwithin, e0, e2, if_pos c2, Option.bind_some, k_needT, d1, Option.bind_some, d3.2.1]
      have fin : ∀ (D3 : am_D) (v : Int32), (∀ y, y ≠ 106 → y ≠ 107 → y ≠ 108 → D3.1 y = D.1 y) → D3.2 = D.2 → k_opE D E (some (.inr (v, D3))) (some (v, E2)) ["java/util/NoSuchElementException", "java/lang/IllegalArgumentException"] := by
        intro D3 v f1 f2
        have q2 : k_Q D3 E2 := k_Q_sc q0 (fun y hy _ => f1 y (by omega) (by omega) (by omega)) ⟨fun y hy => d6 y (by omega), fun j hj => by rw [d6 117 (by omega)], fun y _ => ⟨by rw [d6 221 (by omega)], by rw [d6 222 (by omega)]⟩, fun y _ => by rw [d6 223 (by omega)], fun q _ hq k y hk _ => by rw [d6 _ (by omega)]⟩
        exact k_valE v q2 (by rw [d6 117 (by omega)]; exact t0) (k_fr_trans f0 (fun y hy => ⟨d6 y (by omega), by rw [d7]⟩)) (fun y hy => ⟨f1 y (by omega) (by omega) (by omega), by rw [f2]⟩) rfl rfl
      rw [cls, k_a (by omega) (by omega), Option.bind_some, k_g (by omega) (by omega), b4, Option.bind_some, d2, Option.bind_some]
      dsimp only
      by_cases c3 : 2 ≤ cc
      · have y2 : (2 : Int32) ≤ Int32.ofNat cc := by rw [j_le, e2, j_nat (by omega)]; omega
        obtain ⟨D3, u, g1, g2, g3, st, a, s1, s2, s3, s4, s5, s6, s7⟩ := k_grid d3 (show n ≤ 1200 by omega)
        have f1 : ∀ y, y ≠ 106 → y ≠ 107 → y ≠ 108 → D3.1 y = D.1 y := fun y h1 h2 h3 => (g3.1 y h1 h3).trans (d4 y h1 h2)
        have f2 : D3.2 = D.2 := g3.2.2.trans d5
        have r1 : u / 200 = Int32.ofNat st := by
          rw [s7]
          have q : Int32.ofNat (200 * st + a) / Int32.ofNat 200 = Int32.ofNat ((200 * st + a) / 200) := k_dvN (by omega) (by omega) (by omega)
          have e : (200 * st + a) / 200 = st := by omega
          rw [e] at q
          exact q
        have r2 : am_rm u 200 = some (Int32.ofNat a) := by
          rw [s7]
          have q : am_rm (Int32.ofNat (200 * st + a)) (Int32.ofNat 200) = some (Int32.ofNat ((200 * st + a) % 200)) := k_rmN (by omega) (by omega) (by omega)
          have e : (200 * st + a) % 200 = a := by omega
          rw [e] at q
          exact q
        rw [if_pos y2, if_pos y2, g1, g2, Option.bind_some, Option.bind_some, r1, r2, s4, s5, s6]
        have cz : z = 0 ∨ z = 1 ∨ z = 2 := by omega
        rcases cz with rfl | rfl | rfl
        · rw [if_pos (show Int32.ofNat 0 = 0 from rfl), if_pos (show Int32.ofNat 0 = 0 from rfl)]
          exact fin D3 _ f1 f2
        · rw [if_neg (show ¬ Int32.ofNat 1 = 0 from k_10), if_pos (show Int32.ofNat 1 = (1 : Int32) from rfl), if_neg (show ¬ Int32.ofNat 1 = 0 from k_10), if_pos (show Int32.ofNat 1 = (1 : Int32) from rfl), Option.bind_some]
          exact fin D3 _ f1 f2
        · rw [if_neg (show ¬ Int32.ofNat 2 = 0 from (by decide)), if_neg (show ¬ Int32.ofNat 2 = (1 : Int32) from (by decide)), if_neg (show ¬ Int32.ofNat 2 = 0 from (by decide)), if_neg (show ¬ Int32.ofNat 2 = (1 : Int32) from (by decide)), Option.bind_some, k_offR d3 (show n ≤ 1200 by omega) s1 s2 s3, Option.bind_some]
          exact fin D3 _ f1 f2
      · have y2 : ¬ (2 : Int32) ≤ Int32.ofNat cc := by rw [j_le, e2, j_nat (by omega)]; omega
        rw [if_neg y2, if_neg y2]
        exact fin D2 _ (fun y h1 h2 _ => d4 y h1 h2) d5
    · rw [if_neg c2, k_nF E0 2 (by decide) t0, if_neg k_10]
      refine k_refE 0 1 _ q0 f0 (k_fc_refl D) rfl ?_ rfl
      unfold f_X11_beat
      rw [k_soT h1.2.1 h1.1 hi, k_btR, k_cwithin, e0, e2, if_neg c2, Option.bind_some, k_needF]
  · unfold f_X11_beat
    rw [k_soF h1.2.1 h1.1 c, k_btL, if_neg c, k_nF E0 1 k_10 t0, if_neg k_10]
    exact k_refE 0 0 _ q0 f0 (k_fc_refl D) rfl rfl rfl
