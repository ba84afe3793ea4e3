/-! lost there and back -/
theorem k_ab_sym {x y : Int32} (hx : -2047 ≤ x.toInt ∧ x.toInt ≤ 2047) (hy : -2047 ≤ y.toInt ∧ y.toInt ≤ 2047) : am_ab (x - y) = am_ab (y - x) := by
  have e1 : (x - y).toInt = x.toInt - y.toInt := by rw [k_S]; omega
  have e2 : (y - x).toInt = y.toInt - x.toInt := by rw [k_S]; omega
  have a1 := k_ab (x - y) (by omega)
  have a2 := k_ab (y - x) (by omega)
  rw [j_eq, a1, a2, e1, e2]
  split <;> split <;> omega
theorem k_ab_symN (x y : Nat) (hx : x ≤ 100000) (hy : y ≤ 100000) : am_ab (Int32.ofNat x - Int32.ofNat y) = am_ab (Int32.ofNat y - Int32.ofNat x) := by
  have e1 : (Int32.ofNat x - Int32.ofNat y).toInt = (x : Int) - y := by rw [k_S, j_nat (by omega), j_nat (by omega)]; omega
  have e2 : (Int32.ofNat y - Int32.ofNat x).toInt = (y : Int) - x := by rw [k_S, j_nat (by omega), j_nat (by omega)]; omega
  have a1 := k_ab (Int32.ofNat x - Int32.ofNat y) (by omega)
  have a2 := k_ab (Int32.ofNat y - Int32.ofNat x) (by omega)
  rw [j_eq, a1, a2, e1, e2]
  split <;> split <;> omega
/-- the result becomes the source -/
theorem k_lostC {E : am_D} {L : Nat} {out : Int → Int32} (q1 q3 : Int32) (ha : k_arr E 222 L out) (hL : L ≤ 1200) (e38 : E.1 117 38 = Int32.ofNat L) : ∃ E2, f_X12_lost_L105 q1 q3 am_fu 0 E = some E2 ∧ k_arr E2 221 L out ∧ (∀ y, y ≠ 221 → E2.1 y = E.1 y) ∧ E2.2 = E.2 := by
  have key := k_ind (P := fun fu k => ∀ E1 : am_D, k_arr E1 221 k out → (∀ y, y ≠ 221 → E1.1 y = E.1 y) → E1.2 = E.2 → ∃ E2, f_X12_lost_L105 q1 q3 fu (Int32.ofNat k) E1 = some E2 ∧ k_arr E2 221 L out ∧ (∀ y, y ≠ 221 → E2.1 y = E.1 y) ∧ E2.2 = E.2) L
    (by
      intro fu k hk ih E1 g1 g2 g3
      rw [f_X12_lost_L105, g2 117 (by omega), e38, if_neg (by rw [j_le, j_nat (by omega), j_nat (by omega)]; omega), k_g (by omega) (by omega), g2 222 (by omega), ha k hk, Option.bind_some, k_p _ (by omega) (by omega), Option.bind_some, j_suc]
      refine ih _ (fun y hy => ?_) (fun y hy => by rw [j_wI_ne _ _ _ hy]; exact g2 y hy) g3
      rw [j_wI_at]
      by_cases c : y = k
      · rw [if_pos c, c]
      · rw [if_neg c]; exact g1 y (by omega)) (by
      intro fu E1 g1 g2 g3
      rw [f_X12_lost_L105, g2 117 (by omega), e38, if_pos (Int32.le_refl _)]
      exact ⟨E1, rfl, g1, g2, g3⟩) am_fu 0 (by omega) (by unfold am_fu; omega) E (fun y hy => absurd hy (by omega)) (fun _ _ => rfl) rfl
  exact key
/-- how far what came is from the sound -/
theorem k_lostF {D E : am_D} {i n L : Nat} {g out : Int → Int32} (hi : i < 5) (hn : n ≤ 600) (hrow : j_row D (30 + 2 * i) n g) (e139 : E.1 139 i = Int32.ofNat n) (harr : k_arr E (134 + i) n g) (hb : k_bnd g) (ho : j_row D 94 L out) (ha : k_arr E 222 L out) (hob : k_bnd out) (hL : L ≤ 1200) (e38 : E.1 117 38 = Int32.ofNat L) :
    ∃ v, f_X7_farFrom (30 + 2 * i) 94 D = some v ∧ f_X12_lost_L166 (Int32.ofNat i) E am_fu (2047 * am_ab (Int32.ofNat L - Int32.ofNat n)) 0 = some v := by
  have emn : am_mn (Int32.ofNat n) (Int32.ofNat L) = Int32.ofNat (min n L) := by rw [j_eq, j_mn, j_nat (by omega), j_nat (by omega), j_nat (by omega)]; omega
  have un := j_row_unlike hrow ho 0 0 (min n L) (by omega) (by decide) (by decide) (by decide) (by decide)
  have e0 : (0 : Int32).toInt = 0 := rfl
  rw [e0] at un
  have key := k_ind (P := fun fu k => f_X12_lost_L166 (Int32.ofNat i) E fu (2047 * am_ab (Int32.ofNat L - Int32.ofNat n) + j_unl g out 0 0 k) (Int32.ofNat k) = some (2047 * am_ab (Int32.ofNat L - Int32.ofNat n) + j_unl g out 0 0 (min n L))) (min n L)
    (by
      intro fu k hk ih
      rw [f_X12_lost_L166, e38, if_neg (by rw [j_le, j_nat (by omega), j_nat (by omega)]; omega), k_g hi (by omega), e139, Option.bind_some, if_neg (by rw [j_le, j_nat (by omega), j_nat (by omega)]; omega), k_g (by omega) (by omega), ha k (by omega), Option.bind_some, k_a hi (by omega), Option.bind_some, k_g (by omega) (by omega), harr k (by omega), Option.bind_some, k_amount, Option.bind_some, j_suc]
      have e : 2047 * am_ab (Int32.ofNat L - Int32.ofNat n) + j_unl g out 0 0 k + am_ab (out k - g k) = 2047 * am_ab (Int32.ofNat L - Int32.ofNat n) + j_unl g out 0 0 (k + 1) := by
        have e2 : j_unl g out 0 0 (k + 1) = j_unl g out 0 0 k + am_ab (g (0 + k) - out (0 + k)) := rfl
        have e3 : (0 : Int) + k = k := by omega
        rw [e2, e3, k_ab_sym (hb k) (hob k), Int32.add_assoc]
      rw [e]
      exact ih) (by
      intro fu
      rw [f_X12_lost_L166, e38]
      by_cases c : L ≤ min n L
      · rw [if_pos (by rw [j_le, j_nat (by omega), j_nat (by omega)]; omega)]
      · rw [if_neg (by rw [j_le, j_nat (by omega), j_nat (by omega)]; omega), k_g hi (by omega), e139, Option.bind_some, if_pos (by rw [j_le, j_nat (by omega), j_nat (by omega)]; omega)]) am_fu 0 (by omega) (by unfold am_fu; omega)
  have ez : 2047 * am_ab (Int32.ofNat L - Int32.ofNat n) + j_unl g out 0 0 0 = 2047 * am_ab (Int32.ofNat L - Int32.ofNat n) := by
    have e : j_unl g out 0 0 0 = 0 := rfl
    rw [e]
    exact Int32.add_zero _
  have key2 : f_X12_lost_L166 (Int32.ofNat i) E am_fu (2047 * am_ab (Int32.ofNat L - Int32.ofNat n) + j_unl g out 0 0 0) (0 : Int32) = _ := key
  rw [ez] at key2
  refine ⟨_, ?_, key2⟩
  unfold f_X7_farFrom
  rw [hrow.2.2.1, ho.2.2.1, emn, un, Option.bind_some, k_cfar, Option.bind_some, k_ab_symN n L (by omega) (by omega), Int32.add_comm]
theorem op_lost {D E : am_D} (h : k_Q D E) (p k z : Int32) : k_opE D E (f_X11_lost p k z D) (f_X12_lost p k z E) ["java/util/NoSuchElementException", "java/lang/IndexOutOfBoundsException", "java/lang/IllegalStateException"] := by
  obtain ⟨E0, hE0, t0, f0, q0⟩ := k_start h
  have q0' := q0
  obtain ⟨ns, nm, nw, np, nh, ni, h1, h2, h3, h4, h5, h6, h7, h8, h9⟩ := q0'

  have hns := h1.1
  have hnm := h2.1
  unfold f_X12_lost
  rw [Option.bind_some, ← hE0, k_badBoth p k t0 h1.2.2.1 h1.1 h2.2.2.1 h2.1, Option.bind_some]
  by_cases c : 0 ≤ p.toInt ∧ p.toInt < ns
  · obtain ⟨i, rfl, hi⟩ := k_ix c
    obtain ⟨n, g, bs⟩ := h1.2.2.2 i hi
    have hn2 := bs.2.1
    rw [if_pos c]
    by_cases c2 : 0 ≤ k.toInt ∧ k.toInt < nm
    · obtain ⟨j, rfl, hj⟩ := k_ix c2
      obtain ⟨m, f, t, b1, b2, b3⟩ := h2.2.2.2 j hj
      rw [if_pos c2, if_pos rfl]
      dsimp only
      rw [k_isM z h2.2.2.1 h2.1, Option.bind_some]
      by_cases c3 : 0 ≤ z.toInt ∧ z.toInt < nm
      · obtain ⟨j', rfl, hj'⟩ := k_ix c3
        obtain ⟨m', f', t', b1', b2', b3'⟩ := h2.2.2.2 j' hj'
        obtain ⟨w, o, s, hps⟩ := h3.1
        have hpv := hps.1
        have hw := hpv.2.1
        have hT := k_tl b1
        obtain ⟨L, hLn⟩ : ∃ L : Nat, (t ((m : Int) - 1)).toInt = L := ⟨(t ((m : Int) - 1)).toInt.toNat, (by omega)⟩
        have hLe : t ((m : Int) - 1) = Int32.ofNat L := by rw [j_eq, hLn, j_nat (by omega)]
        rw [if_pos c3, k_nT E0 2 t0, if_pos rfl]
        dsimp only
        have cls0 : f_X11_lost (Int32.ofNat i) (Int32.ofNat j) (Int32.ofNat j') D = am_btD (f_X11_needLong (30 + 2 * i) (40 + 3 * j) 23 D) D fun x8 => (f_X3_drawOut 81 (30 + 2 * i) (40 + 3 * j) 23 D).bind fun x10 => am_btD (f_X11_needLong 84 (40 + 3 * j') 23 x10) x10 fun x12 => (f_X3_drawOut 91 84 (40 + 3 * j') 23 x10).bind fun x14 => (f_X7_farFrom (30 + 2 * i) 94 x14).bind fun x16 => some (.inr (x16, x14)) := by
          unfold f_X11_lost
          rw [k_soT h1.2.1 h1.1 hi, k_btR, k_maT h2.2.1 h2.1 hj, k_btR, k_maT h2.2.1 h2.1 hj', k_btR]
        have ref0 : ((f_X12_isShort (Int32.ofNat i) (Int32.ofNat j) E0).bind fun x15 => (if x15 = 0 then (f_X12_lengthOf (Int32.ofNat j) E0).bind fun x19 => if x19 < (E0.1 117 14) then some (1 : Int32) else (f_X12_lengthOf (Int32.ofNat j) E0).bind fun x22 => (f_X12_lastOf (Int32.ofNat j') E0).bind fun x24 => if x24 ≤ x22 then some 0 else some 1 else some 1)) = some (if (w ≤ n ∧ (f ((m : Int) - 1)).toInt ≤ n) ∧ (w ≤ L ∧ (f' ((m' : Int) - 1)).toInt ≤ L) then 0 else 1) := by
          rw [k_short bs (by omega) b1 b3 (by omega) hps.2.2.2.2.1 (by omega), Option.bind_some]
          by_cases cs : w ≤ n ∧ (f ((m : Int) - 1)).toInt ≤ n
          · rw [if_pos cs, if_pos rfl, (k_rlast b3 b1 (by omega)).2, Option.bind_some, hps.2.2.2.2.1, hLe]
            by_cases cw : w ≤ L
            · rw [if_neg (by rw [j_lt, j_nat (by omega), j_nat (by omega)]; omega), Option.bind_some, (k_rlast b3' b1' (by omega)).1, Option.bind_some]
              by_cases cf : (f' ((m' : Int) - 1)).toInt ≤ L
              · rw [if_pos (by rw [j_le, j_nat (by omega)]; exact cf), if_pos ⟨cs, cw, cf⟩]
              · rw [if_neg (by rw [j_le, j_nat (by omega)]; exact cf), if_neg (fun z => cf z.2.2)]
            · rw [if_pos (by rw [j_lt, j_nat (by omega), j_nat (by omega)]; omega), if_neg (fun z => cw z.2.1)]
          · rw [if_neg cs, if_neg k_10, if_neg (fun z => cs z.1)]
        rw [cls0, k_needLong bs.2.2.1 b2 hps.2.1 (by omega)]
        rw [← Option.bind_assoc, ref0, Option.bind_some]
        by_cases cs : w ≤ n ∧ (f ((m : Int) - 1)).toInt ≤ n
        · rw [if_pos cs, k_btR]
          obtain ⟨q, E1, hq, h39, e1, m1, m2, m3, hbk⟩ := k_aside h8
          have hz : E1.1 223 0 = 0 ∧ E1.1 223 1 = 0 := by
            obtain ⟨_, _, _, _, _, _, _, _, _, _, _, _, _, _, _, _, a13, a14⟩ := h8
            rw [m1 223 (by omega) (by omega)]
            exact ⟨a13, a14⟩
          have bs1 : k_snd D E1 i n g := k_snd_mv bs rfl rfl (by rw [m1 139 (by omega) (by omega)]) (m1 _ (by omega) (by omega))
          have b31 : k_rm E1 j m f t := k_rm_mv b3 b1.2.1 (by rw [m1 201 (by omega) (by omega)]) (fun z hz => m1 _ (by omega) (by omega))
          have ps1 : k_ps D E1 23 w o s := k_ps_by hps rfl (m2 14 (by omega)) (m2 15 (by omega)) (m2 16 (by omega))
          obtain ⟨D2, E2, L', out, q', d1, d2, d3, d4, d5, d6, d7, d8, d9, d10, d11, d12⟩ := k_drawB (r0 := 81) bs1 (by omega) b1 b2 b31 (by omega) ps1 cs.1 cs.2 hz.1 hz.2 k_rw73.2.2.1 k_rw73.2.2.2.1 (by omega) (by omega)
          have hLL : L' = L := k_ofN_inj (d3.symm.trans hLe) (by have := d5.1.1; omega) (by omega)
          rw [hLL] at d5
          obtain ⟨⟨o1, o1c⟩, o2, o3, o4, o5, o6, o7, o8, o9, o10, o11, o12, o13⟩ := d5
          have b2D2 : j_map D2 (40 + 3 * j') m' f' t' := j_map_fr b2' (d8 _ (by omega)).1 (d8 _ (by omega)).1 (d8 _ (by omega)).1
          rw [d1, Option.bind_some, k_needLong o2 b2D2 (by rw [(d8 23 (by omega)).1]; exact hps.2.1) (by omega)]
          by_cases cL : w ≤ L ∧ (f' ((m' : Int) - 1)).toInt ≤ L
          · rw [if_pos cL, if_pos ⟨cs, cL⟩, k_btR, k_b0 t0, Option.bind_some, if_pos rfl]
            dsimp only
            obtain ⟨E3, hE3⟩ : ∃ E3, E3 = am_wI E2 117 36 (Int32.ofNat L) := ⟨_, rfl⟩
            have fE3 : ∀ y, y ≠ 117 → E3.1 y = E2.1 y := fun y hy => by rw [hE3, j_wI_ne _ _ _ hy]
            have fE3b : ∀ y, y ≠ 36 → E3.1 117 y = E2.1 117 y := fun y hy => by rw [hE3, k_wj _ _ hy]
            obtain ⟨E4, g1, g2, g3, g4⟩ := k_lostC (E := E3) (Int32.ofNat i) (Int32.ofNat j') (k_arr_by o4 (fE3 222 (by omega))) o1 (by rw [fE3b 38 (by omega)]; exact o3)
            have mE4 : ∀ y, y ≠ 117 ∧ (y < 221 ∨ 1425 ≤ y) → E4.1 y = E1.1 y := fun y hy => by rw [g3 y (by omega), fE3 y hy.1, d9.1 y hy.1 hy.2]
            have b3E4 : k_rm E4 j' m' f' t' := k_rm_mv b3' b1'.2.1 (by rw [mE4 201 (by omega), m1 201 (by omega) (by omega)]) (fun z hz => by rw [mE4 _ (by omega), m1 _ (by omega) (by omega)])
            obtain ⟨E5, x1, x2, x3, x4, x5, x6, x7⟩ := k_takes b3E4 b1' (by omega) (by rw [g3 223 (by omega), fE3 223 (by omega)]; exact d11) (by rw [g3 223 (by omega), fE3 223 (by omega)]; exact d12)
            have e5117 : ∀ y, y ≠ 36 ∧ y ≠ 37 → E5.1 117 y = E2.1 117 y := fun y hy => by rw [x6 y hy.2, g3 117 (by omega), fE3b y hy.1]
            have ps5 : k_ps D2 E5 23 w o s := k_ps_by ps1 (d8 23 (by omega)).1 (by rw [e5117 14 (by omega), d9.2.1 14 (by omega)]) (by rw [e5117 15 (by omega), d9.2.1 15 (by omega)]) (by rw [e5117 16 (by omega), d9.2.1 16 (by omega)])
            have x36 : E5.1 117 36 = Int32.ofNat L := by rw [x6 36 (by omega), g3 117 (by omega), hE3, k_ws]
            obtain ⟨D6, E6, L2, out2, q2, y1, y2, y3, y4, y5, y6, y7, y8, y9, y10⟩ := k_drawOut (D := D2) (E := E5) (r0 := 91) (p1 := 84) (p2 := 40 + 3 * j') (p3 := 23) (n := L) o1 o2 b2D2 ps5 x36 (k_arr_by g2 (x5 221 (by omega) (by omega))) o5 x2 b1' cL.2 cL.1 k_rw73.2.2.2.2.1 k_rw73.2.2.2.2.2.1 (by omega) (by omega) (by omega)
            obtain ⟨⟨u1, u1c⟩, u2, u3, u4, u5, u6⟩ := y5
            have mE6 : ∀ y, y ≠ 117 ∧ (y < 221 ∨ 1425 ≤ y) → E6.1 y = E1.1 y := fun y hy => by rw [y9.1 y hy.1 hy.2, x5 y hy.1 (by omega), mE4 y hy]
            have mE6b : ∀ y, (y < 36 ∨ 40 < y) → E6.1 117 y = E1.1 117 y := fun y hy => by rw [y9.2.1 y hy, e5117 y (by omega), d9.2.1 y hy]
            have fD6 : ∀ y, (y < 81 ∨ 101 ≤ y) → D6.1 y = D.1 y ∧ D6.2 y = D.2 y := fun y hy => ⟨by rw [(y8 y (by omega)).1, (d8 y (by omega)).1], by rw [(y8 y (by omega)).2, (d8 y (by omega)).2]⟩
            have x139 : E6.1 139 i = Int32.ofNat n := by rw [mE6 139 (by omega), m1 139 (by omega) (by omega)]; exact bs.2.2.2.1
            obtain ⟨v, v1, v2⟩ := k_lostF (D := D6) (E := E6) (i := i) (by omega) hn2 (j_row_fr bs.2.2.1 (fD6 _ (by omega)).1 (fD6 _ (by omega)).1) x139 (k_arr_by bs.2.2.2.2.1 (by rw [mE6 _ (by omega), m1 _ (by omega) (by omega)])) bs.2.2.2.2.2 u2 u4 u5 u1 u3
            obtain ⟨E7, e7, r1, r2, r3, r4⟩ := hbk E6 (fun y a b => mE6 y (by omega)) (fun y a b => mE6b y (by omega))
            have hc6 : am_gI E6 139 5 (Int32.ofNat i) = some (Int32.ofNat n) := by rw [k_g (by omega) (by omega), x139]
            rw [y1, Option.bind_some, v1, Option.bind_some, e1, Option.bind_some, d2, Option.bind_some, o3, Option.bind_some, ← hE3, g1, Option.bind_some, x1, Option.bind_some, y2, Option.bind_some, hc6, Option.bind_some, u3, k_amount, Option.bind_some, v2, Option.bind_some, e7, Option.bind_some]
            refine k_valE v (k_Q_sc q0 (fun y a b => (fD6 y (by omega)).1) (k_se_back h39 hq r1 (fun y hy => by rw [r2 y (by omega) (by omega), mE6 y (by omega), m1 y (by omega) (by omega)]) (fun y hy => by rw [r3 y (by omega), mE6b y (by omega), m2 y (by omega)]))) (by rw [r3 0 (by omega), mE6b 0 (by omega), m2 0 (by omega)]; exact t0) (k_fr_trans f0 (fun y hy => ⟨by rw [r2 y (by omega) (by omega), mE6 y (by omega), m1 y (by omega) (by omega)], by rw [r4, y9.2.2, x7, g4, hE3]; show E2.2 y = _; rw [d9.2.2, m3]⟩)) (fun y hy => fD6 y (by omega)) rfl rfl
          · rw [if_neg cL, if_neg (fun z => cL z.2), k_btL, k_b1 t0 3 (by decide), Option.bind_some, if_neg k_10]
            exact k_refE 0 2 _ (k_Q_sc q0 (fun y a b => (d8 y (by omega)).1) (k_se_refl E0)) f0 (fun y hy => d8 y (by omega)) rfl rfl rfl
        · rw [if_neg cs, if_neg (fun z => cs z.1), k_btL, k_b1 t0 3 (by decide), Option.bind_some, if_neg k_10]
          exact k_refE 0 2 _ q0 f0 (k_fc_refl D) rfl rfl rfl
      · rw [if_neg c3, k_nF E0 2 (by decide) t0, if_neg k_10]
        refine k_refE 0 1 _ q0 f0 (k_fc_refl D) rfl ?_ rfl
        unfold f_X11_lost
        rw [k_soT h1.2.1 h1.1 hi, k_btR, k_maT h2.2.1 h2.1 hj, k_btR, k_maF h2.2.1 h2.1 c3, k_btL]
    · rw [if_neg c2, if_neg k_10]
      refine k_refE 0 1 _ q0 f0 (k_fc_refl D) rfl ?_ rfl
      unfold f_X11_lost
      rw [k_soT h1.2.1 h1.1 hi, k_btR, k_maF h2.2.1 h2.1 c2, k_btL]
  · rw [if_neg c, if_neg k_10]
    refine k_refE 0 0 _ q0 f0 (k_fc_refl D) rfl ?_ rfl
    unfold f_X11_lost
    rw [k_soF h1.2.1 h1.1 c, k_btL]
