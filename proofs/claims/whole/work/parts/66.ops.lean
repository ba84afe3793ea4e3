/-! operations: place, where, length, result, fault, count, seam, pieces, blowing, weigh, way, part, hum -/
theorem k_ofN_inj {a b : Nat} (h : Int32.ofNat a = Int32.ofNat b) (ha : a < 100000) (hb : b < 100000) : a = b := by
  have e := (j_eq _ _).mp h
  rw [j_nat (by omega), j_nat (by omega)] at e
  omega
theorem k_se_back {E0 E3 : am_D} {q : Nat} (hq : E0.1 117 39 = Int32.ofNat q) (hq2 : q ≤ 600) (hb : k_back E0 E3 q) (m : ∀ y, ((133 ≤ y ∧ y < 204) ∨ (205 ≤ y ∧ y < 221) ∨ (2633 ≤ y ∧ y < 2637) ∨ y = 118) → E3.1 y = E0.1 y) (m2 : ∀ j, (j = 1 ∨ j = 3 ∨ (12 ≤ j ∧ j ≤ 23)) → E3.1 117 j = E0.1 117 j) : k_se E0 E3 := by
  obtain ⟨b1, b2, b3, b4⟩ := hb
  refine ⟨m, fun j hj => ?_, b1, b2, fun q' h1 h2 k y hk hy => ?_⟩
  · by_cases c : 36 ≤ j ∧ j ≤ 40
    · exact b4 j c.1 c.2
    · exact m2 j (by omega)
  · have e : q' = q := k_ofN_inj (h1.symm.trans hq) (by omega) (by omega)
    exact b3 k y (by omega) hy
theorem k_aside {D E0 : am_D} (h8 : k_Rd D E0) : ∃ q E1, q ≤ 600 ∧ E0.1 117 39 = Int32.ofNat q ∧ f_X12_lays E0 = some E1 ∧ (∀ y, y ≠ 117 → (y < 1425 ∨ 2629 ≤ y) → E1.1 y = E0.1 y) ∧ (∀ j, (j < 46 ∨ 50 < j) → E1.1 117 j = E0.1 117 j) ∧ E1.2 = E0.2 ∧
    ∀ E2 : am_D, (∀ y, 1425 ≤ y → y < 2629 → E2.1 y = E1.1 y) → (∀ j, 46 ≤ j → j ≤ 50 → E2.1 117 j = E1.1 117 j) →
      ∃ E3, f_X12_laysBack E2 = some E3 ∧ k_back E0 E3 q ∧ (∀ y, y ≠ 117 → (y < 221 ∨ 1425 ≤ y) → E3.1 y = E2.1 y) ∧ (∀ j, (j < 36 ∨ 40 < j) → E3.1 117 j = E2.1 117 j) ∧ E3.2 = E2.2 := by
  obtain ⟨L, out, q, st, a1, a2, a3, a4, a5, a6, a7, a8, a9, a10, a11, a12, a13, a14⟩ := h8
  obtain ⟨E1, e1, ha, m1, m2, m3⟩ := k_lays E0 q (by omega) a7 a11
  refine ⟨q, E1, a8, a7, e1, m1, m2, m3, fun E2 n1 n2 => ?_⟩
  obtain ⟨b1, b2, b3, b4, b5, b6, b7, b8⟩ := ha
  exact k_laysBack q (by omega) a7 a11 ⟨fun y hy => by rw [n1 1425 (by omega) (by omega), n1 1426 (by omega) (by omega)]; exact b1 y hy, fun y hy => by rw [n1 1427 (by omega) (by omega)]; exact b2 y hy, fun k y hk hy => by rw [n1 (1429 + k) (by omega) (by omega)]; exact b3 k y hk hy,
    by rw [n2 46 (by omega) (by omega)]; exact b4, by rw [n2 47 (by omega) (by omega)]; exact b5, by rw [n2 48 (by omega) (by omega)]; exact b6, by rw [n2 49 (by omega) (by omega)]; exact b7, by rw [n2 50 (by omega) (by omega)]; exact b8⟩
/-- place and where: a map laid in, asked, and all laid back -/
theorem k_ask {D E0 : am_D} {i n : Nat} {f t : Int → Int32} (h8 : k_Rd D E0) (hv : k_mv n f t) (hr : k_rm E0 i n f t) (hi : i < 5) : ∃ E1 E2 E3, f_X12_lays E0 = some E1 ∧ f_X12_takes (Int32.ofNat i) E1 = some E2 ∧ k_fm E2 n f t ∧ f_X12_laysBack E2 = some E3 ∧ k_se E0 E3 ∧ k_fr E0 E3 ∧ E3.1 117 0 = E0.1 117 0 := by
  obtain ⟨q, E1, hq, h39, e1, m1, m2, m3, hb⟩ := k_aside h8
  have h223 : E1.1 223 0 = 0 ∧ E1.1 223 1 = 0 := by
    obtain ⟨L, out, q, st, a1, a2, a3, a4, a5, a6, a7, a8, a9, a10, a11, a12, a13, a14⟩ := h8
    rw [m1 223 (by omega) (by omega)]
    exact ⟨a13, a14⟩
  have hr1 : k_rm E1 i n f t := k_rm_mv hr hv.2.1 (by rw [m1 201 (by omega) (by omega)]) (fun k hk => m1 _ (by omega) (by omega))
  obtain ⟨E2, e2, hf, z0, z1, n1, n2, n3⟩ := k_takes hr1 hv hi h223.1 h223.2
  obtain ⟨E3, e3, b1, b2, b3, b4⟩ := hb E2 (fun y h1 h2 => n1 y (by omega) (by omega)) (fun j h1 h2 => n2 j (by omega))
  refine ⟨E1, E2, E3, e1, e2, hf, e3, k_se_back h39 hq b1 (fun y hy => ?_) (fun j hj => ?_), fun y hy => ⟨?_, ?_⟩, ?_⟩
  · rw [b2 y (by omega) (by omega), n1 y (by omega) (by omega), m1 y (by omega) (by omega)]
  · rw [b3 j (by omega), n2 j (by omega), m2 j (by omega)]
  · rw [b2 y (by omega) (by omega), n1 y (by omega) (by omega), m1 y (by omega) (by omega)]
  · rw [b4, n3, m3]
  · rw [b3 0 (by omega), n2 0 (by omega), m2 0 (by omega)]
theorem op_place {D E : am_D} (h : k_Q D E) (p w : Int32) : k_opE D E (k_lf D (f_X11_place p w D)) (f_X12_place p w E) ["java/lang/IndexOutOfBoundsException"] := by
  obtain ⟨E0, hE0, t0, f0, q0⟩ := k_start h
  have q0' := q0
  obtain ⟨ns, nm, nw, np, nh, ni, h1, h2, h3, h4, h5, h6, h7, h8, h9⟩ := q0'
  unfold f_X12_place f_X11_place
  rw [Option.bind_some, ← hE0, k_isM p h2.2.2.1 h2.1, Option.bind_some]
  by_cases c : 0 ≤ p.toInt ∧ p.toInt < nm
  · obtain ⟨i, rfl, hi⟩ := k_ix c
    obtain ⟨n, f, t, b1, b2, b3⟩ := h2.2.2.2 i hi
    have hnm := h2.1
    obtain ⟨E1, E2, E3, e1, e2, hf, e3, s1, s2, s3⟩ := k_ask h8 b1 b3 (by omega)
    rw [k_maT h2.2.1 h2.1 hi, k_bR, if_pos c, k_nT E0 1 t0, if_pos rfl, k_cplace b2 b1, Option.bind_some, e1, Option.bind_some, e2, Option.bind_some, k_rplace hf b1, Option.bind_some, e3, Option.bind_some]
    exact k_valE _ (k_Q_sc q0 (k_sc_refl D) s1) (by rw [s3]; exact t0) (k_fr_trans f0 s2) (k_fc_refl D) rfl rfl
  · rw [k_maF h2.2.1 h2.1 c, if_neg c, k_nF E0 1 k_10 t0, if_neg k_10]
    exact k_refE 0 0 _ q0 f0 (k_fc_refl D) rfl rfl rfl
theorem op_where {D E : am_D} (h : k_Q D E) (p w : Int32) : k_opE D E (k_lf D (f_X11_where p w D)) (f_X12_where p w E) ["java/lang/IndexOutOfBoundsException"] := by
  obtain ⟨E0, hE0, t0, f0, q0⟩ := k_start h
  have q0' := q0
  obtain ⟨ns, nm, nw, np, nh, ni, h1, h2, h3, h4, h5, h6, h7, h8, h9⟩ := q0'
  unfold f_X12_where f_X11_where
  rw [Option.bind_some, ← hE0, k_isM p h2.2.2.1 h2.1, Option.bind_some]
  by_cases c : 0 ≤ p.toInt ∧ p.toInt < nm
  · obtain ⟨i, rfl, hi⟩ := k_ix c
    obtain ⟨n, f, t, b1, b2, b3⟩ := h2.2.2.2 i hi
    have hnm := h2.1
    obtain ⟨E1, E2, E3, e1, e2, hf, e3, s1, s2, s3⟩ := k_ask h8 b1 b3 (by omega)
    obtain ⟨v, v1, v2, v3⟩ := k_where b2 hf b1 w
    rw [k_maT h2.2.1 h2.1 hi, k_bR, if_pos c, k_nT E0 1 t0, if_pos rfl, v1, Option.bind_some, e1, Option.bind_some, e2, Option.bind_some, v2, Option.bind_some, e3, Option.bind_some]
    exact k_valE _ (k_Q_sc q0 (k_sc_refl D) s1) (by rw [s3]; exact t0) (k_fr_trans f0 s2) (k_fc_refl D) rfl rfl
  · rw [k_maF h2.2.1 h2.1 c, if_neg c, k_nF E0 1 k_10 t0, if_neg k_10]
    exact k_refE 0 0 _ q0 f0 (k_fc_refl D) rfl rfl rfl
theorem op_length {D E : am_D} (h : k_Q D E) : k_opN D E (k_lv D (f_X11_length D)) (f_X12_length E) := by
  obtain ⟨E0, hE0, t0, f0, q0⟩ := k_start h
  have q0' := q0
  obtain ⟨ns, nm, nw, np, nh, ni, h1, h2, h3, h4, h5, h6, h7, h8, h9⟩ := q0'
  obtain ⟨L, out, q, st, a1, a2, a3, a4, a5, a6, a7, a8, a9, a10, a11, a12, a13, a14⟩ := h8
  unfold f_X12_length f_X11_length
  rw [Option.bind_some, ← hE0, a3, a2.2.2.1]
  exact ⟨D, E0, _, rfl, rfl, q0, k_fc_refl D, f0⟩
theorem op_result {D E : am_D} (h : k_Q D E) (k : Int32) : k_opN D E (k_lv D (f_X11_result k D)) (f_X12_result k E) := by
  obtain ⟨E0, hE0, t0, f0, q0⟩ := k_start h
  have q0' := q0
  obtain ⟨ns, nm, nw, np, nh, ni, h1, h2, h3, h4, h5, h6, h7, h8, h9⟩ := q0'
  obtain ⟨L, out, q, st, a1, a2, a3, a4, a5, a6, a7, a8, a9, a10, a11, a12, a13, a14⟩ := h8
  unfold f_X12_result f_X11_result
  rw [Option.bind_some, ← hE0, a3, j_row_told a2, k_inN k (by omega), Option.bind_some, Option.bind_some]
  by_cases c2 : 0 ≤ k.toInt ∧ k.toInt < L
  · rw [if_pos c2, if_pos c2, if_neg k_10, k_arr_g a4 c2.1 c2.2 (by omega)]
    exact ⟨D, E0, _, rfl, rfl, q0, k_fc_refl D, f0⟩
  · rw [if_neg c2, if_neg c2, if_pos rfl]
    exact ⟨D, E0, _, rfl, rfl, q0, k_fc_refl D, f0⟩
theorem op_fault {D E : am_D} (h : k_Q D E) : k_opN D E (k_lv D (f_X11_fault D)) (f_X12_fault E) := by
  obtain ⟨E0, hE0, t0, f0, q0⟩ := k_start h
  have q0' := q0
  obtain ⟨ns, nm, nw, np, nh, ni, h1, h2, h3, h4, h5, h6, h7, h8, h9⟩ := q0'
  obtain ⟨tp, a1, a2, a3, a4, a5⟩ := h9
  unfold f_X12_fault f_X11_fault
  rw [Option.bind_some, ← hE0, a5]
  by_cases c : D.1 69 2 = 0
  · rw [if_pos c, if_pos c]
    exact ⟨D, E0, _, rfl, rfl, q0, k_fc_refl D, f0⟩
  · rw [if_neg c, if_neg c]
    exact ⟨D, E0, _, rfl, rfl, q0, k_fc_refl D, f0⟩
theorem op_count {D E : am_D} (h : k_Q D E) (w : Int32) : k_opN D E (k_lv D (f_X11_count w D)) (f_X12_count w E) := by
  obtain ⟨E0, hE0, t0, f0, q0⟩ := k_start h
  have q0' := q0
  obtain ⟨ns, nm, nw, np, nh, ni, h1, h2, h3, h4, h5, h6, h7, h8, h9⟩ := q0'
  obtain ⟨L, out, q, st, a1, a2, a3, a4, a5, a6, a7, a8, a9, a10, a11, a12, a13, a14⟩ := h8
  obtain ⟨tp, b1, b2, b3, b4, b5⟩ := h9
  have fin : ∀ v : Int32, k_opN D E (k_lv D (some v)) (some (v, E0)) := fun v => ⟨D, E0, v, rfl, rfl, q0, k_fc_refl D, f0⟩
  unfold f_X12_count f_X11_count
  rw [Option.bind_some, ← hE0, h1.2.1, h1.2.2.1, h2.2.1, h2.2.2.1, a6, a7, h4.2.1, h4.2.2.1, h5.2.1, h5.2.2.1, h6.2.1, h6.2.2.1, h7.2.1, h7.2.2.1, b2, b3]
  by_cases c : w.toInt < 0 ∨ 7 < w.toInt
  · rw [if_pos c, if_pos c]; exact fin _
  rw [if_neg c, if_neg c]
  by_cases c0 : w = 0
  · rw [if_pos c0, if_pos c0]; exact fin _
  rw [if_neg c0, if_neg c0]
  by_cases c1 : w = 1
  · rw [if_pos c1, if_pos c1]; exact fin _
  rw [if_neg c1, if_neg c1]
  by_cases c2 : w = 2
  · rw [if_pos c2, if_pos c2]; exact fin _
  rw [if_neg c2, if_neg c2]
  by_cases c3 : w = 3
  · rw [if_pos c3, if_pos c3]; exact fin _
  rw [if_neg c3, if_neg c3]
  by_cases c4 : w = 4
  · rw [if_pos c4, if_pos c4]; exact fin _
  rw [if_neg c4, if_neg c4]
  by_cases c5 : w = 5
  · rw [if_pos c5, if_pos c5]; exact fin _
  rw [if_neg c5, if_neg c5]
  by_cases c6 : w = 6
  · rw [if_pos c6, if_pos c6]; exact fin _
  rw [if_neg c6, if_neg c6]
  by_cases c7 : w = 7
  · rw [if_pos c7, if_pos c7]; exact fin _
  exfalso
  rw [j_eq] at c0 c1 c2 c3 c4 c5 c6 c7
  have e0 : (0 : Int32).toInt = 0 := rfl
  have e1 : (1 : Int32).toInt = 1 := rfl
  have e2 : (2 : Int32).toInt = 2 := rfl
  have e3 : (3 : Int32).toInt = 3 := rfl
  have e4 : (4 : Int32).toInt = 4 := rfl
  have e5 : (5 : Int32).toInt = 5 := rfl
  have e6 : (6 : Int32).toInt = 6 := rfl
  have e7 : (7 : Int32).toInt = 7 := rfl
  omega
theorem op_seam {D E : am_D} (h : k_Q D E) (k w : Int32) : k_opE D E (k_lf D (f_X11_seam k w D)) (f_X12_seam k w E) ["java/lang/IllegalArgumentException"] := by
  obtain ⟨E0, hE0, t0, f0, q0⟩ := k_start h
  have q0' := q0
  obtain ⟨ns, nm, nw, np, nh, ni, h1, h2, h3, h4, h5, h6, h7, h8, h9⟩ := q0'
  obtain ⟨L, out, q, st, a1, a2, a3, a4, a5, a6, a7, a8, a9, a10, a11, a12, a13, a14⟩ := h8
  have e0 : (0 : Int32).toInt = 0 := rfl
  have e1 : (1 : Int32).toInt = 1 := rfl
  have e2 : (2 : Int32).toInt = 2 := rfl
  have e600 : (600 : Int32).toInt = 600 := rfl
  unfold f_X12_seam f_X11_seam
  rw [Option.bind_some, ← hE0, k_in, Option.bind_some, k_cwithin, Option.bind_some, e0, e2]
  by_cases c : 0 ≤ w.toInt ∧ w.toInt ≤ 2
  · rw [if_pos c, k_nT E0 1 t0, if_pos rfl, a7, k_inN k (by omega), Option.bind_some]
    show k_opE D E (k_lf D ((f_X3_seamTold 71 k w D).bind fun x6 => some (.inr x6))) _ _
    unfold f_X3_seamTold
    by_cases c2 : 0 ≤ k.toInt ∧ k.toInt < q
    · obtain ⟨i, rfl, hi⟩ := k_ix c2
      have s := a9 i hi
      rw [if_pos c2, if_neg k_10, a6, if_neg (by rw [j_lt, e0]; omega), if_neg (by rw [j_le, j_nat (by omega), j_nat (by omega)]; omega), if_pos (by rw [j_lt, j_nat (by omega), e600]; omega), k_a (by omega) (by omega), Option.bind_some]
      by_cases w0 : w = 0
      · have g : am_gI E0 (225 + i) 3 w = some (E0.1 (225 + i) 0) := by rw [w0]; exact k_g (k := 0) (by omega) (by omega)
        rw [if_pos w0, g, s.2.1, s.1.1, j_suc, ← Int32.ofNat_mul]
        exact k_valE _ q0 t0 f0 (k_fc_refl D) rfl rfl
      · rw [if_neg w0]
        by_cases w1 : w = 1
        · have g : am_gI E0 (225 + i) 3 w = some (E0.1 (225 + i) 1) := by rw [w1]; exact k_g (k := 1) (by omega) (by omega)
          rw [if_pos w1, g, s.2.2.1, k_g (by omega) (by omega)]
          exact k_valE _ q0 t0 f0 (k_fc_refl D) rfl rfl
        · have w2 : w = 2 := by
            rw [j_eq] at w0 w1 ⊢
            omega
          have g : am_gI E0 (225 + i) 3 w = some (E0.1 (225 + i) 2) := by rw [w2]; exact k_g (k := 2) (by omega) (by omega)
          rw [if_neg w1, g, s.2.2.2, k_g (by omega) (by omega)]
          exact k_valE _ q0 t0 f0 (k_fc_refl D) rfl rfl
    · rw [if_neg c2, if_pos rfl]
      by_cases c3 : k < 0
      · rw [if_pos c3]
        exact k_valE _ q0 t0 f0 (k_fc_refl D) rfl rfl
      · rw [if_neg c3, a6, if_pos (by rw [j_lt, e0] at c3; rw [j_le, j_nat (by omega)]; omega)]
        exact k_valE _ q0 t0 f0 (k_fc_refl D) rfl rfl
  · rw [if_neg c, k_nF E0 1 k_10 t0, if_neg k_10]
    exact k_refE 0 0 _ q0 f0 (k_fc_refl D) rfl rfl rfl
