/-! best(), bestOf() -/
/-- the ways tried in the reference, all laid back -/
theorem k_bestW {D E0 : am_D} {i n j m nw : Nat} {g f t : Int → Int32} (hs : k_snd D E0 i n g) (hi : i < 5) (hv : k_mv m f t) (hm : j_map D (40 + 3 * j) m f t) (hr : k_rm E0 j m f t) (hj : j < 5) (h3 : k_Rn D E0) (h4 : k_Rw D E0 nw) (h8 : k_Rd D E0) (hok : ∀ z w, z < nw → D.1 (55 + z) 0 = Int32.ofNat w → w ≤ 64 → w ≤ n ∧ (f ((m : Int) - 1)).toInt ≤ n) :
    ∃ D2 E4 b, f_X11_best_L29 (30 + 2 * i) (40 + 3 * j) am_fu (-1) 0 0 D = some (b, D2) ∧ f_X12_bestWay (Int32.ofNat i) (Int32.ofNat j) (-1) E0 = some (b, E4) ∧ k_ft D D2 ∧ k_se E0 E4 ∧ k_fr E0 E4 ∧ E4.1 117 0 = E0.1 117 0 := by
  obtain ⟨q, E1, hq, h39, e1, m1, m2, m3, hb⟩ := k_aside h8
  have hz : E1.1 223 0 = 0 ∧ E1.1 223 1 = 0 := by
    obtain ⟨_, _, _, _, _, _, _, _, _, _, _, _, _, _, _, _, a13, a14⟩ := h8
    rw [m1 223 (by omega) (by omega)]
    exact ⟨a13, a14⟩
  have hs1 : k_snd D E1 i n g := k_snd_mv hs rfl rfl (by rw [m1 139 (by omega) (by omega)]) (m1 _ (by omega) (by omega))
  have hr1 : k_rm E1 j m f t := k_rm_mv hr hv.2.1 (by rw [m1 201 (by omega) (by omega)]) (fun z hz => m1 _ (by omega) (by omega))
  have h31 : k_Rn D E1 := k_Rn_mv h3 rfl (fun _ _ => rfl) rfl (fun j a b => m2 j (by omega)) (m1 202 (by omega) (by omega))
  have h41 : k_Rw D E1 nw := k_Rw_mv h4 rfl (m2 20 (by omega)) (fun _ _ _ => rfl) (fun y a b => m1 y (by omega) (by omega))
  obtain ⟨D2, E2, b, c1, c2, c3, c4⟩ := k_bestL (D := D) (E := E1) (E0.1 117 14) (E0.1 117 15) (E0.1 117 16) hs1 hi hv hm hr1 hj h31 h41 hok hz.1 hz.2
  obtain ⟨E3, e3, b1, b2, b3, b4⟩ := hb E2 (fun y h1 h2 => c4.1 y (by omega) (by omega) (by omega)) (fun j h1 h2 => c4.2.1 j (by omega))
  obtain ⟨E4, hE4, v0, v1, v2, v3, v4, v5⟩ := k_w3f E3 117 14 (E0.1 117 14) (E0.1 117 15) (E0.1 117 16)
  have hE4 : E4 = am_wI (am_wI (am_wI E3 117 14 (E0.1 117 14)) 117 15 (E0.1 117 15)) 117 16 (E0.1 117 16) := hE4
  have w2 : ∀ y, y ≠ 117 ∧ (y < 221 ∨ 1425 ≤ y) ∧ (y < 1425 ∨ 2630 ≤ y) → E4.1 y = E0.1 y := fun y hy => by rw [v4 y (by omega), b2 y (by omega) (by omega), c4.1 y (by omega) (by omega) (by omega), m1 y (by omega) (by omega)]
  have w3 : ∀ j, j < 36 → E4.1 117 j = E0.1 117 j := by
    intro j hj
    by_cases j14 : j = 14
    · rw [j14, v0]
    by_cases j15 : j = 15
    · rw [j15]; exact v1
    by_cases j16 : j = 16
    · rw [j16]; exact v2
    rw [v3 j (by omega), b3 j (by omega), c4.2.1 j (by omega), m2 j (by omega)]
  have hbk : k_back E0 E4 q := by
    obtain ⟨x1, x2, x3, x4⟩ := b1
    exact ⟨fun y hy => by rw [v4 221 (by omega), v4 222 (by omega)]; exact x1 y hy, fun y hy => by rw [v4 223 (by omega)]; exact x2 y hy, fun k y hk hy => by rw [v4 _ (by omega)]; exact x3 k y hk hy, fun j ha hb => by rw [v3 j (by omega)]; exact x4 j ha hb⟩
  refine ⟨D2, E4, b, c1, ?_, c3, k_se_back h39 hq hbk (fun y hy => w2 y (by omega)) (fun j hj => w3 j (by omega)), fun y hy => ⟨w2 y (by omega), by rw [v5, b4, c4.2.2, m3]⟩, w3 0 (by omega)⟩
  unfold f_X12_bestWay
  rw [e1, Option.bind_some, c2, Option.bind_some]
  dsimp only
  rw [e3, Option.bind_some, Option.bind_some, Option.bind_some, Option.bind_some, ← hE4]
/-- the ways tried in the reference, all laid back -/
theorem k_bestOfW {D E0 : am_D} {i n j m nw p : Nat} {g f t : Int → Int32} (hs : k_snd D E0 i n g) (hi : i < 5) (hv : k_mv m f t) (hm : j_map D (40 + 3 * j) m f t) (hr : k_rm E0 j m f t) (hj : j < 5) (h3 : k_Rn D E0) (h4 : k_Rw D E0 nw) (h8 : k_Rd D E0) (hok : ∀ z w, z < nw → D.1 (55 + z) 0 = Int32.ofNat w → w ≤ 64 → w ≤ n ∧ (f ((m : Int) - 1)).toInt ≤ n) (hp : p < m) :
    ∃ D2 E4 b, f_X11_bestOf_L46 (Int32.ofNat p) (30 + 2 * i) (40 + 3 * j) am_fu (-1) 0 0 D = some (b, D2) ∧ f_X12_bestWay (Int32.ofNat i) (Int32.ofNat j) (Int32.ofNat p) E0 = some (b, E4) ∧ k_ft D D2 ∧ k_se E0 E4 ∧ k_fr E0 E4 ∧ E4.1 117 0 = E0.1 117 0 := by
  obtain ⟨q, E1, hq, h39, e1, m1, m2, m3, hb⟩ := k_aside h8
  have hz : E1.1 223 0 = 0 ∧ E1.1 223 1 = 0 := by
    obtain ⟨_, _, _, _, _, _, _, _, _, _, _, _, _, _, _, _, a13, a14⟩ := h8
    rw [m1 223 (by omega) (by omega)]
    exact ⟨a13, a14⟩
  have hs1 : k_snd D E1 i n g := k_snd_mv hs rfl rfl (by rw [m1 139 (by omega) (by omega)]) (m1 _ (by omega) (by omega))
  have hr1 : k_rm E1 j m f t := k_rm_mv hr hv.2.1 (by rw [m1 201 (by omega) (by omega)]) (fun z hz => m1 _ (by omega) (by omega))
  have h31 : k_Rn D E1 := k_Rn_mv h3 rfl (fun _ _ => rfl) rfl (fun j a b => m2 j (by omega)) (m1 202 (by omega) (by omega))
  have h41 : k_Rw D E1 nw := k_Rw_mv h4 rfl (m2 20 (by omega)) (fun _ _ _ => rfl) (fun y a b => m1 y (by omega) (by omega))
  obtain ⟨D2, E2, b, c1, c2, c3, c4⟩ := k_bestOfL (D := D) (E := E1) (E0.1 117 14) (E0.1 117 15) (E0.1 117 16) hs1 hi hv hm hr1 hj h31 h41 hok hz.1 hz.2 hp
  obtain ⟨E3, e3, b1, b2, b3, b4⟩ := hb E2 (fun y h1 h2 => c4.1 y (by omega) (by omega) (by omega)) (fun j h1 h2 => c4.2.1 j (by omega))
  obtain ⟨E4, hE4, v0, v1, v2, v3, v4, v5⟩ := k_w3f E3 117 14 (E0.1 117 14) (E0.1 117 15) (E0.1 117 16)
  have hE4 : E4 = am_wI (am_wI (am_wI E3 117 14 (E0.1 117 14)) 117 15 (E0.1 117 15)) 117 16 (E0.1 117 16) := hE4
  have w2 : ∀ y, y ≠ 117 ∧ (y < 221 ∨ 1425 ≤ y) ∧ (y < 1425 ∨ 2630 ≤ y) → E4.1 y = E0.1 y := fun y hy => by rw [v4 y (by omega), b2 y (by omega) (by omega), c4.1 y (by omega) (by omega) (by omega), m1 y (by omega) (by omega)]
  have w3 : ∀ j, j < 36 → E4.1 117 j = E0.1 117 j := by
    intro j hj
    by_cases j14 : j = 14
    · rw [j14, v0]
    by_cases j15 : j = 15
    · rw [j15]; exact v1
    by_cases j16 : j = 16
    · rw [j16]; exact v2
    rw [v3 j (by omega), b3 j (by omega), c4.2.1 j (by omega), m2 j (by omega)]
  have hbk : k_back E0 E4 q := by
    obtain ⟨x1, x2, x3, x4⟩ := b1
    exact ⟨fun y hy => by rw [v4 221 (by omega), v4 222 (by omega)]; exact x1 y hy, fun y hy => by rw [v4 223 (by omega)]; exact x2 y hy, fun k y hk hy => by rw [v4 _ (by omega)]; exact x3 k y hk hy, fun j ha hb => by rw [v3 j (by omega)]; exact x4 j ha hb⟩
  refine ⟨D2, E4, b, c1, ?_, c3, k_se_back h39 hq hbk (fun y hy => w2 y (by omega)) (fun j hj => w3 j (by omega)), fun y hy => ⟨w2 y (by omega), by rw [v5, b4, c4.2.2, m3]⟩, w3 0 (by omega)⟩
  unfold f_X12_bestWay
  rw [e1, Option.bind_some, c2, Option.bind_some]
  dsimp only
  rw [e3, Option.bind_some, Option.bind_some, Option.bind_some, Option.bind_some, ← hE4]
theorem k_sc_ft {D D2 : am_D} (h : k_ft D D2) : k_sc D D2 := fun y h1 h2 => (h y (by omega)).1
theorem op_best {D E : am_D} (h : k_Q D E) (p k : Int32) : k_opE D E (f_X11_best p k D) (f_X12_best p k E) ["java/util/NoSuchElementException", "java/lang/IndexOutOfBoundsException", "java/lang/IllegalStateException"] := by
  obtain ⟨E0, hE0, t0, f0, q0⟩ := k_start h
  have q0' := q0
  obtain ⟨ns, nm, nw, np, nh, ni, h1, h2, h3, h4, h5, h6, h7, h8, h9⟩ := q0'

  unfold f_X12_best f_X11_best
  rw [Option.bind_some, ← hE0, k_badBoth p k t0 h1.2.2.1 h1.1 h2.2.2.1 h2.1, Option.bind_some]
  by_cases c : 0 ≤ p.toInt ∧ p.toInt < ns
  · obtain ⟨i, rfl, hi⟩ := k_ix c
    obtain ⟨n, g, b⟩ := h1.2.2.2 i hi
    have hns := h1.1
    rw [k_soT h1.2.1 h1.1 hi, k_btR, if_pos c]
    by_cases c2 : 0 ≤ k.toInt ∧ k.toInt < nm
    · obtain ⟨j, rfl, hj⟩ := k_ix c2
      obtain ⟨m, f, t, b1, b2, b3⟩ := h2.2.2.2 j hj
      have hnm := h2.1
      rw [k_maT h2.2.1 h2.1 hj, k_btR, if_pos c2, if_pos rfl]
      dsimp only
      rcases k_waysLong b (by omega) b1 b2 b3 (by omega) h4 with ⟨w1, w2, w3⟩ | ⟨w1, w2⟩
      · obtain ⟨D2, E4, v, d1, d2, d3, d4, d5, d6⟩ := k_bestW b (by omega) b1 b2 b3 (by omega) h3 h4 h8 w3
        rw [w1, w2, k_btR, Option.bind_some, k_b0 t0, Option.bind_some, if_pos rfl, d1]
        dsimp only
        rw [d2, Option.bind_some, Option.bind_some]
        exact k_valE v (k_Q_sc q0 (k_sc_ft d3) d4) (by rw [d6]; exact t0) (k_fr_trans f0 d5) (fun y hy => d3 y (by omega)) rfl rfl
      · rw [w1, w2, k_btL, Option.bind_some, k_b1 t0 3 (by decide), Option.bind_some, if_neg k_10]
        exact k_refE 0 2 _ q0 f0 (k_fc_refl D) rfl rfl rfl
    · rw [k_maF h2.2.1 h2.1 c2, k_btL, if_neg c2, if_neg k_10]
      exact k_refE 0 1 _ q0 f0 (k_fc_refl D) rfl rfl rfl
  · rw [k_soF h1.2.1 h1.1 c, k_btL, if_neg c, if_neg k_10]
    exact k_refE 0 0 _ q0 f0 (k_fc_refl D) rfl rfl rfl
theorem op_bestOf {D E : am_D} (h : k_Q D E) (p k z : Int32) : k_opE D E (f_X11_bestOf p k z D) (f_X12_bestOf p k z E) ["java/util/NoSuchElementException", "java/lang/IndexOutOfBoundsException", "java/lang/IllegalArgumentException", "java/lang/IllegalStateException"] := by
  obtain ⟨E0, hE0, t0, f0, q0⟩ := k_start h
  have q0' := q0
  obtain ⟨ns, nm, nw, np, nh, ni, h1, h2, h3, h4, h5, h6, h7, h8, h9⟩ := q0'

  unfold f_X12_bestOf f_X11_bestOf
  rw [Option.bind_some, ← hE0, k_badBoth p k t0 h1.2.2.1 h1.1 h2.2.2.1 h2.1, Option.bind_some]
  by_cases c : 0 ≤ p.toInt ∧ p.toInt < ns
  · obtain ⟨i, rfl, hi⟩ := k_ix c
    obtain ⟨n, g, b⟩ := h1.2.2.2 i hi
    have hns := h1.1
    rw [k_soT h1.2.1 h1.1 hi, k_btR, if_pos c]
    by_cases c2 : 0 ≤ k.toInt ∧ k.toInt < nm
    · obtain ⟨j, rfl, hj⟩ := k_ix c2
      obtain ⟨m, f, t, b1, b2, b3⟩ := h2.2.2.2 j hj
      have hnm := h2.1
      have hm12 := b1.2.1
      have hcw : f_X11_within z 0 (Int32.ofNat m - 1) = some (if 0 ≤ z.toInt ∧ z.toInt < m then 1 else 0) := by
        have e0 : (0 : Int32).toInt = 0 := rfl
        rw [k_cwithin, e0, j_pred m (by omega)]
        by_cases cc : 0 ≤ z.toInt ∧ z.toInt < m
        · rw [if_pos cc, if_pos (by omega)]
        · rw [if_neg cc, if_neg (by omega)]
      have hrm : (am_gI E0 201 5 (Int32.ofNat j)) = some (Int32.ofNat m) := by rw [k_g (by omega) (by omega), b3.1]
      rw [k_maT h2.2.1 h2.1 hj, k_btR, if_pos c2, if_pos rfl, b2.2.1, hcw]
      dsimp only
      rw [hrm]
      by_cases c3 : 0 ≤ z.toInt ∧ z.toInt < m
      · obtain ⟨y, rfl, hy⟩ := k_ix c3
        rw [if_pos c3, Option.bind_some, k_needT]
        have hrr : (((some (Int32.ofNat m)) : Option Int32).bind fun x6 => (f_X12_in (Int32.ofNat y) (0 : Int32) (x6 - (1 : Int32))).bind fun x9 => (if x9 = 0 then some ((1 : Int32)) else some ((0 : Int32))).bind fun w12 => (f_X12_bad w12 (3 : Int32) E0).bind fun x14 => if x14.1 = 0 then (f_X12_isSomeShort (Int32.ofNat i) (Int32.ofNat j) x14.2).bind fun x17 => (f_X12_bad x17 (4 : Int32) x14.2).bind fun x19 => if x19.1 = 0 then (f_X12_bestWay (Int32.ofNat i) (Int32.ofNat j) (Int32.ofNat y) x19.2).bind fun x22 => some (x22.1, x22.2) else some ((0 : Int32), x19.2) else some ((0 : Int32), x14.2)) = (f_X12_isSomeShort (Int32.ofNat i) (Int32.ofNat j) E0).bind fun x17 => (f_X12_bad x17 (4 : Int32) E0).bind fun x19 => if x19.1 = 0 then (f_X12_bestWay (Int32.ofNat i) (Int32.ofNat j) (Int32.ofNat y) x19.2).bind fun x22 => some (x22.1, x22.2) else some ((0 : Int32), x19.2) := by
          rw [Option.bind_some, k_inN _ (by omega), if_pos c3, Option.bind_some, k_nT E0 3 t0, if_pos rfl]
        rw [hrr]
        rcases k_waysLong b (by omega) b1 b2 b3 (by omega) h4 with ⟨w1, w2, w3⟩ | ⟨w1, w2⟩
        · obtain ⟨D2, E4, v, d1, d2, d3, d4, d5, d6⟩ := k_bestOfW b (by omega) b1 b2 b3 (by omega) h3 h4 h8 w3 hy
          rw [w1, w2, k_btR, Option.bind_some, k_b0 t0, Option.bind_some, if_pos rfl, d1]
          dsimp only
          rw [d2, Option.bind_some, Option.bind_some]
          exact k_valE v (k_Q_sc q0 (k_sc_ft d3) d4) (by rw [d6]; exact t0) (k_fr_trans f0 d5) (fun y hy => d3 y (by omega)) rfl rfl
        · rw [w1, w2, k_btL, Option.bind_some, k_b1 t0 4 (by decide), Option.bind_some, if_neg k_10]
          exact k_refE 0 3 _ q0 f0 (k_fc_refl D) rfl rfl rfl
      · rw [if_neg c3, Option.bind_some, k_needF]
        have hrr : (((some (Int32.ofNat m)) : Option Int32).bind fun x6 => (f_X12_in z (0 : Int32) (x6 - (1 : Int32))).bind fun x9 => (if x9 = 0 then some ((1 : Int32)) else some ((0 : Int32))).bind fun w12 => (f_X12_bad w12 (3 : Int32) E0).bind fun x14 => if x14.1 = 0 then (f_X12_isSomeShort (Int32.ofNat i) (Int32.ofNat j) x14.2).bind fun x17 => (f_X12_bad x17 (4 : Int32) x14.2).bind fun x19 => if x19.1 = 0 then (f_X12_bestWay (Int32.ofNat i) (Int32.ofNat j) z x19.2).bind fun x22 => some (x22.1, x22.2) else some ((0 : Int32), x19.2) else some ((0 : Int32), x14.2)) = some (0, am_wI E0 117 0 3) := by
          rw [Option.bind_some, k_inN _ (by omega), if_neg c3, Option.bind_some, k_nF E0 3 (by decide) t0, if_neg k_10]
        rw [hrr]
        exact k_refE 0 2 _ q0 f0 (k_fc_refl D) rfl rfl rfl
    · rw [k_maF h2.2.1 h2.1 c2, k_btL, if_neg c2, if_neg k_10]
      exact k_refE 0 1 _ q0 f0 (k_fc_refl D) rfl rfl rfl
  · rw [k_soF h1.2.1 h1.1 c, k_btL, if_neg c, if_neg k_10]
    exact k_refE 0 0 _ q0 f0 (k_fc_refl D) rfl rfl rfl
