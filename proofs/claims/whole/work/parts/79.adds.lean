/-! a sound more, a map more -/
theorem k_freeS {D : am_D} {ns : Nat} (h : D.1 17 7 = Int32.ofNat ns) (hn : ns ≤ 5) : f_X1_freeSound D = some (if ns < 5 then some (30 + 2 * ns) else none) := by
  have e0 : (0 : Int32).toInt = 0 := rfl
  have e5 : (5 : Int32).toInt = 5 := rfl
  unfold f_X1_freeSound
  rw [h, if_neg (by rw [j_lt, j_nat (by omega), e0]; omega)]
  by_cases c : ns < 5
  · rw [if_pos c, if_neg (by rw [j_le, j_nat (by omega), e5]; omega), k_a c (by omega), Option.bind_some]
  · rw [if_neg c, if_pos (by rw [j_le, j_nat (by omega), e5]; omega)]
theorem k_freeM {D : am_D} {nm : Nat} (h : D.1 17 8 = Int32.ofNat nm) (hn : nm ≤ 5) : f_X1_freeMap D = some (if nm < 5 then some (40 + 3 * nm) else none) := by
  have e0 : (0 : Int32).toInt = 0 := rfl
  have e5 : (5 : Int32).toInt = 5 := rfl
  unfold f_X1_freeMap
  rw [h, if_neg (by rw [j_lt, j_nat (by omega), e0]; omega)]
  by_cases c : nm < 5
  · rw [if_pos c, if_neg (by rw [j_le, j_nat (by omega), e5]; omega), k_a c (by omega), Option.bind_some]
  · rw [if_neg c, if_pos (by rw [j_le, j_nat (by omega), e5]; omega)]
theorem k_takeS {D : am_D} {ns : Nat} (h : D.1 17 7 = Int32.ofNat ns) : f_X1_takeSound D = some (Int32.ofNat ns, am_wI D 17 7 (Int32.ofNat (ns + 1))) := by
  unfold f_X1_takeSound
  rw [h, j_suc, Option.bind_some, k_ws, k_sub1]
theorem k_takeM {D : am_D} {nm : Nat} (h : D.1 17 8 = Int32.ofNat nm) : f_X1_takeMap D = some (Int32.ofNat nm, am_wI D 17 8 (Int32.ofNat (nm + 1))) := by
  unfold f_X1_takeMap
  rw [h, j_suc, Option.bind_some, k_ws, k_sub1]
theorem k_addS {D E D2 E2 : am_D} {ns nm nw np nh ni n : Nat} {f : Int → Int32} (h1 : k_Rs D E ns) (h2 : k_Rm D E nm) (h3 : k_Rn D E) (h4 : k_Rw D E nw) (h5 : k_Rp D E np) (h6 : k_Rh D E nh) (h7 : k_Ri D E ni (k_cn ns nm nw np nh)) (h8 : k_Rd D E) (h9 : k_Rt D2 E2)
    (hns : ns < 5) (hn : 1 ≤ n ∧ n ≤ 600) (hb : k_bnd f) (hrow : j_row D2 (30 + 2 * ns) n f) (d7 : D2.1 17 7 = Int32.ofNat (ns + 1)) (d17 : ∀ j, j ≠ 7 → D2.1 17 j = D.1 17 j) (dD : ∀ y, y < 81 ∧ y ≠ 17 ∧ y ≠ 29 ∧ y ≠ 69 ∧ y ≠ 70 ∧ y ≠ 30 + 2 * ns ∧ y ≠ 31 + 2 * ns → D2.1 y = D.1 y)
    (e12 : E2.1 117 12 = Int32.ofNat (ns + 1)) (e117 : ∀ j, (13 ≤ j ∧ j ≤ 23) ∨ (36 ≤ j ∧ j ≤ 40) → E2.1 117 j = E.1 117 j) (e139 : E2.1 139 ns = Int32.ofNat n) (e139b : ∀ j, j ≠ ns → E2.1 139 j = E.1 139 j) (harr : k_arr E2 (134 + ns) n f)
    (eE : ∀ y, ((133 ≤ y ∧ y < 204) ∨ (205 ≤ y ∧ y < 1425) ∨ (2633 ≤ y ∧ y < 2637)) ∧ y ≠ 139 ∧ y ≠ 134 + ns → E2.1 y = E.1 y) : k_Q D2 E2 := by
  refine ⟨ns + 1, nm, nw, np, nh, ni, ⟨hns, d7, e12, fun s hs => ?_⟩, k_Rm_mv h2 (d17 8 (by omega)) (e117 13 (by omega)) (fun y a b => dD y (by omega)) (eE _ (by omega)) (fun y a b => eE y (by omega)), k_Rn_mv h3 (dD _ (by omega)) (fun j _ => d17 j (by omega)) (dD _ (by omega)) (fun j a b => e117 j (by omega)) (eE _ (by omega)), k_Rw_mv h4 (d17 9 (by omega)) (e117 20 (by omega)) (fun y a b => dD y (by omega)) (fun y a b => eE y (by omega)), k_Rp_mv h5 (by rw [dD 24 (by omega)]) (e117 21 (by omega)) (fun y a b => dD y (by omega)) (fun y a b => eE y (by omega)), k_Rh_mv h6 (d17 10 (by omega)) (e117 22 (by omega)) (dD _ (by omega)) (eE _ (by omega)), ?_, k_Rd_mv h8 (fun y a b => dD y (by omega)) (fun j a b => e117 j (by omega)) (fun y _ => ⟨by rw [eE 221 (by omega)], by rw [eE 222 (by omega)]⟩) (fun y _ => by rw [eE 223 (by omega)]) (fun q _ hq k y hk _ => by rw [eE (225 + k) (by omega)]), h9⟩
  · by_cases c : s = ns
    · rw [c]
      exact ⟨n, f, hn.1, hn.2, hrow, e139, harr, hb⟩
    · obtain ⟨n', f', b⟩ := h1.2.2.2 s (by omega)
      exact ⟨n', f', k_snd_mv b (dD _ (by omega)) (dD _ (by omega)) (e139b s c) (eE _ (by omega))⟩
  · refine k_Ri_mv h7 (k_cn_le (by omega) (by omega) (by omega) (by omega) (by omega)) (by rw [dD 16 (by omega)]) (e117 23 (by omega)) (fun y a b => dD y (by omega)) (fun y a b => eE y (by omega)) (fun s hs => by have hs : s < ns := hs; exact ⟨e139b s (by omega), fun k _ => by rw [eE (134 + s) (by omega)]⟩) (fun m hm => by have hm : m < nm := hm; have := h2.1; exact ⟨by rw [eE 201 (by omega)], fun k j _ _ => by rw [eE _ (by omega)]⟩) (fun w j hw _ => by have hw : w < nw := hw; have := h4.1; rw [eE _ (by omega)]) (fun p j hp _ => by have hp : p < np := hp; have := h5.1; rw [eE _ (by omega)]) (fun z hz => by rw [eE 203 (by omega)])
theorem k_addM {D E D2 E2 : am_D} {ns nm nw np nh ni n : Nat} {f t : Int → Int32} (h1 : k_Rs D E ns) (h2 : k_Rm D E nm) (h3 : k_Rn D E) (h4 : k_Rw D E nw) (h5 : k_Rp D E np) (h6 : k_Rh D E nh) (h7 : k_Ri D E ni (k_cn ns nm nw np nh)) (h8 : k_Rd D E) (h9 : k_Rt D2 E2)
    (hnm : nm < 5) (hv : k_mv n f t) (hmap : j_map D2 (40 + 3 * nm) n f t) (d8 : D2.1 17 8 = Int32.ofNat (nm + 1)) (d17 : ∀ j, j ≠ 8 → D2.1 17 j = D.1 17 j) (dD : ∀ y, y < 81 ∧ y ≠ 17 ∧ y ≠ 29 ∧ y ≠ 69 ∧ y ≠ 70 ∧ y ≠ 40 + 3 * nm ∧ y ≠ 41 + 3 * nm ∧ y ≠ 42 + 3 * nm → D2.1 y = D.1 y)
    (e13 : E2.1 117 13 = Int32.ofNat (nm + 1)) (e117 : ∀ j, j = 12 ∨ (14 ≤ j ∧ j ≤ 23) ∨ (36 ≤ j ∧ j ≤ 40) → E2.1 117 j = E.1 117 j) (hrm : k_rm E2 nm n f t) (e201 : ∀ j, j ≠ nm → E2.1 201 j = E.1 201 j)
    (eE : ∀ y, ((133 ≤ y ∧ y < 204) ∨ (205 ≤ y ∧ y < 1425) ∨ (2633 ≤ y ∧ y < 2637)) ∧ y ≠ 201 ∧ (y < 141 + 12 * nm ∨ 153 + 12 * nm ≤ y) → E2.1 y = E.1 y) : k_Q D2 E2 := by
  refine ⟨ns, nm + 1, nw, np, nh, ni, k_Rs_mv h1 (d17 7 (by omega)) (e117 12 (by omega)) (fun y a b => dD y (by omega)) (eE _ (by omega)) (fun y a b => eE y (by omega)), ⟨hnm, d8, e13, fun s hs => ?_⟩, k_Rn_mv h3 (dD _ (by omega)) (fun j _ => d17 j (by omega)) (dD _ (by omega)) (fun j a b => e117 j (by omega)) (eE _ (by omega)), k_Rw_mv h4 (d17 9 (by omega)) (e117 20 (by omega)) (fun y a b => dD y (by omega)) (fun y a b => eE y (by omega)), k_Rp_mv h5 (by rw [dD 24 (by omega)]) (e117 21 (by omega)) (fun y a b => dD y (by omega)) (fun y a b => eE y (by omega)), k_Rh_mv h6 (d17 10 (by omega)) (e117 22 (by omega)) (dD _ (by omega)) (eE _ (by omega)), ?_, k_Rd_mv h8 (fun y a b => dD y (by omega)) (fun j a b => e117 j (by omega)) (fun y _ => ⟨by rw [eE 221 (by omega)], by rw [eE 222 (by omega)]⟩) (fun y _ => by rw [eE 223 (by omega)]) (fun q _ hq k y hk _ => by rw [eE (225 + k) (by omega)]), h9⟩
  · by_cases c : s = nm
    · rw [c]
      exact ⟨n, f, t, hv, hmap, hrm⟩
    · obtain ⟨n', f', t', b1, b2, b3⟩ := h2.2.2.2 s (by omega)
      exact ⟨n', f', t', b1, j_map_fr b2 (dD _ (by omega)) (dD _ (by omega)) (dD _ (by omega)), k_rm_mv b3 b1.2.1 (e201 s c) (fun k hk => eE _ (by omega))⟩
  · refine k_Ri_mv h7 (k_cn_le (by omega) (by omega) (by omega) (by omega) (by omega)) (by rw [dD 16 (by omega)]) (e117 23 (by omega)) (fun y a b => dD y (by omega)) (fun y a b => eE y (by omega)) (fun s hs => by have hs : s < ns := hs; have := h1.1; exact ⟨by rw [eE 139 (by omega)], fun k _ => by rw [eE (134 + s) (by omega)]⟩) (fun m hm => by have hm : m < nm := hm; exact ⟨e201 m (by omega), fun k j _ _ => by rw [eE _ (by omega)]⟩) (fun w j hw _ => by have hw : w < nw := hw; have := h4.1; rw [eE _ (by omega)]) (fun p j hp _ => by have hp : p < np := hp; have := h5.1; rw [eE _ (by omega)]) (fun z hz => by rw [eE 203 (by omega)])
/-- the reference keeps a sound -/
theorem k_keeps {E : am_D} {a n ns : Nat} {f : Int → Int32} (ha : k_arr E a n f) (hl : n ≤ am_ln a) (hl2 : am_ln a ≤ 1200) (hn : n ≤ 600) (h12 : E.1 117 12 = Int32.ofNat ns) (hns : ns < 5) (hne : a ≠ 134 + ns) :
    ∃ E2, f_X12_keeps a (Int32.ofNat n) E = some (Int32.ofNat ns, E2) ∧ k_arr E2 (134 + ns) n f ∧ E2.1 139 ns = Int32.ofNat n ∧ (∀ j, j ≠ ns → E2.1 139 j = E.1 139 j) ∧ E2.1 117 12 = Int32.ofNat (ns + 1) ∧ (∀ j, j ≠ 12 → E2.1 117 j = E.1 117 j) ∧ (∀ y, y ≠ 117 → y ≠ 139 → y ≠ 134 + ns → E2.1 y = E.1 y) ∧ E2.2 = E.2 := by
  have key := k_ind (P := fun fu k => ∀ E1 : am_D, k_arr E1 (134 + ns) k f → (∀ y, y ≠ 134 + ns → E1.1 y = E.1 y) → E1.2 = E.2 → ∃ E2, f_X12_keeps_L2 a (Int32.ofNat n) fu (Int32.ofNat k) E1 = some E2 ∧ k_arr E2 (134 + ns) n f ∧ (∀ y, y ≠ 134 + ns → E2.1 y = E.1 y) ∧ E2.2 = E.2) n
    (by
      intro fu k hk ih E1 g1 g2 g3
      rw [f_X12_keeps_L2, if_neg (by rw [j_le, j_nat (by omega), j_nat (by omega)]; omega), g2 117 (by omega), h12, k_a hns (by omega), Option.bind_some, k_g (by omega) (by omega), g2 a hne, ha k hk, Option.bind_some, k_p _ (by omega) (by omega), Option.bind_some, j_suc]
      refine ih _ (fun y hy => ?_) (fun y hy => by rw [j_wI_ne _ _ _ hy]; exact g2 y hy) g3
      rw [j_wI_at]
      by_cases c : y = k
      · rw [if_pos c, c]
      · rw [if_neg c]; exact g1 y (by omega)) (by
      intro fu E1 g1 g2 g3
      rw [f_X12_keeps_L2, if_pos (Int32.le_refl _)]
      exact ⟨E1, rfl, g1, g2, g3⟩) am_fu 0 (by omega) (by unfold am_fu; omega) E (fun y hy => absurd hy (by omega)) (fun _ _ => rfl) rfl
  obtain ⟨E1, e1, g1, g2, g3⟩ := key
  have e1 : f_X12_keeps_L2 a (Int32.ofNat n) am_fu (0 : Int32) E = some E1 := e1
  obtain ⟨E2, hE2⟩ : ∃ E2, E2 = am_wI (am_wI E1 139 ns (Int32.ofNat n)) 117 12 (Int32.ofNat (ns + 1)) := ⟨_, rfl⟩
  refine ⟨E2, ?_, ?_, ?_, ?_, ?_, ?_, ?_, ?_⟩
  · unfold f_X12_keeps
    rw [e1, Option.bind_some, g2 117 (by omega), h12, k_p _ hns (by omega), Option.bind_some, j_wI_ne _ _ _ (by omega), g2 117 (by omega), h12, j_suc, Option.bind_some, k_ws, k_sub1, ← hE2]
  · exact k_arr_by g1 (by rw [hE2, j_wI_ne _ _ _ (by omega), j_wI_ne _ _ _ (by omega)])
  · rw [hE2, j_wI_ne _ _ _ (by omega), k_ws]
  · intro j hj
    rw [hE2, j_wI_ne _ _ _ (by omega), k_wj _ _ hj, g2 139 (by omega)]
  · rw [hE2, k_ws]
  · intro j hj
    rw [hE2, k_wj _ _ hj, j_wI_ne _ _ _ (by omega), g2 117 (by omega)]
  · intro y y1 y2 y3
    rw [hE2, j_wI_ne _ _ _ y1, j_wI_ne _ _ _ y2, g2 y y3]
  · rw [hE2]; exact g3
/-- the reference keeps a map: its marks stand in 121 on -/
theorem k_keepsM {E : am_D} {n nm : Nat} {f t : Int → Int32} (ha : ∀ k : Nat, k < n → E.1 (121 + k) 0 = f k ∧ E.1 (121 + k) 1 = t k) (hn : n ≤ 12) (h13 : E.1 117 13 = Int32.ofNat nm) (hnm : nm < 5) :
    ∃ E2, f_X12_keepsMap (Int32.ofNat n) E = some (Int32.ofNat nm, E2) ∧ k_rm E2 nm n f t ∧ (∀ j, j ≠ nm → E2.1 201 j = E.1 201 j) ∧ E2.1 117 13 = Int32.ofNat (nm + 1) ∧ (∀ j, j ≠ 13 → E2.1 117 j = E.1 117 j) ∧ (∀ y, y ≠ 117 → y ≠ 201 → (y < 141 + 12 * nm ∨ 153 + 12 * nm ≤ y) → E2.1 y = E.1 y) ∧ E2.2 = E.2 := by
  have key := k_ind (P := fun fu k => ∀ E1 : am_D, (∀ z : Nat, z < k → E1.1 (141 + (12 * nm + z)) 0 = f z ∧ E1.1 (141 + (12 * nm + z)) 1 = t z) → (∀ y, (y < 141 + 12 * nm ∨ 153 + 12 * nm ≤ y) → E1.1 y = E.1 y) → E1.2 = E.2 → ∃ E2, f_X12_keepsMap_L2 (Int32.ofNat n) fu (Int32.ofNat k) E1 = some E2 ∧ (∀ z : Nat, z < n → E2.1 (141 + (12 * nm + z)) 0 = f z ∧ E2.1 (141 + (12 * nm + z)) 1 = t z) ∧ (∀ y, (y < 141 + 12 * nm ∨ 153 + 12 * nm ≤ y) → E2.1 y = E.1 y) ∧ E2.2 = E.2) n
    (by
      intro fu k hk ih E1 g1 g2 g3
      have e1 : (12 : Int32) * Int32.ofNat nm + Int32.ofNat k = Int32.ofNat (12 * nm + k) := by rw [Int32.ofNat_add, Int32.ofNat_mul]; rfl
      have p0 : ∀ (X : am_D) (y : Nat), am_gI X y 2 (0 : Int32) = some (X.1 y 0) := fun X y => k_g (k := 0) (by omega) (by omega)
      have p1 : ∀ (X : am_D) (y : Nat), am_gI X y 2 (1 : Int32) = some (X.1 y 1) := fun X y => k_g (k := 1) (by omega) (by omega)
      have q0 : ∀ (X : am_D) (y : Nat) (v : Int32), am_pI X y 2 (0 : Int32) v = some (am_wI X y 0 v) := fun X y v => k_p (k := 0) v (by omega) (by omega)
      have q1 : ∀ (X : am_D) (y : Nat) (v : Int32), am_pI X y 2 (1 : Int32) v = some (am_wI X y 1 v) := fun X y v => k_p (k := 1) v (by omega) (by omega)
      rw [f_X12_keepsMap_L2, if_neg (by rw [j_le, j_nat (by omega), j_nat (by omega)]; omega), g2 117 (by omega), h13, e1, k_a (by omega) (by omega), Option.bind_some, k_a (by omega) (by omega), Option.bind_some, p0, g2 _ (by omega), (ha k hk).1, Option.bind_some, q0, Option.bind_some, j_wI_ne _ _ _ (by omega), g2 117 (by omega), h13, e1, k_a (by omega) (by omega), Option.bind_some, Option.bind_some, p1, j_wI_ne _ _ _ (by omega), g2 _ (by omega), (ha k hk).2, Option.bind_some, q1, Option.bind_some, j_suc]
      refine ih _ (fun z hz => ?_) (fun y hy => by rw [j_wI_ne _ _ _ (by omega), j_wI_ne _ _ _ (by omega)]; exact g2 y hy) g3
      by_cases c : z = k
      · rw [c, k_wj _ _ (by decide), k_ws, k_ws]
        exact ⟨rfl, rfl⟩
      · rw [j_wI_ne _ _ _ (by omega), j_wI_ne _ _ _ (by omega)]
        exact g1 z (by omega)) (by
      intro fu E1 g1 g2 g3
      rw [f_X12_keepsMap_L2, if_pos (Int32.le_refl _)]
      exact ⟨E1, rfl, g1, g2, g3⟩) am_fu 0 (by omega) (by unfold am_fu; omega) E (fun y hy => absurd hy (by omega)) (fun _ _ => rfl) rfl
  obtain ⟨E1, e1, g1, g2, g3⟩ := key
  have e1 : f_X12_keepsMap_L2 (Int32.ofNat n) am_fu (0 : Int32) E = some E1 := e1
  obtain ⟨E2, hE2⟩ : ∃ E2, E2 = am_wI (am_wI E1 201 nm (Int32.ofNat n)) 117 13 (Int32.ofNat (nm + 1)) := ⟨_, rfl⟩
  refine ⟨E2, ?_, ⟨?_, fun k hk => ?_⟩, ?_, ?_, ?_, ?_, ?_⟩
  · unfold f_X12_keepsMap
    rw [e1, Option.bind_some, g2 117 (by omega), h13, k_p _ hnm (by omega), Option.bind_some, j_wI_ne _ _ _ (by omega), g2 117 (by omega), h13, j_suc, Option.bind_some, k_ws, k_sub1, ← hE2]
  · rw [hE2, j_wI_ne _ _ _ (by omega), k_ws]
  · rw [hE2, j_wI_ne _ _ _ (by omega), j_wI_ne _ _ _ (by omega)]
    exact g1 k hk
  · intro j hj
    rw [hE2, j_wI_ne _ _ _ (by omega), k_wj _ _ hj, g2 201 (by omega)]
  · rw [hE2, k_ws]
  · intro j hj
    rw [hE2, k_wj _ _ hj, j_wI_ne _ _ _ (by omega), g2 117 (by omega)]
  · intro y y1 y2 y3
    rw [hE2, j_wI_ne _ _ _ y1, j_wI_ne _ _ _ y2, g2 y y3]
  · rw [hE2]; exact g3
theorem op_keep {D E : am_D} (h : k_Q D E) : k_opN D E (f_X11_keep D) (f_X12_keep E) := by
  obtain ⟨E0, hE0, t0, f0, q0⟩ := k_start h
  have q0' := q0
  obtain ⟨ns, nm, nw, np, nh, ni, h1, h2, h3, h4, h5, h6, h7, h8, h9⟩ := q0'

  have h8' := h8
  obtain ⟨L, out, q, st, a1, a2, a3, a4, a5, a6, a7, a8, a9, a10, a11, a12, a13, a14⟩ := h8'
  have hns := h1.1
  have e5 : (5 : Int32).toInt = 5 := rfl
  have e0 : (0 : Int32).toInt = 0 := rfl
  have e1 : (1 : Int32).toInt = 1 := rfl
  have e600 : (600 : Int32).toInt = 600 := rfl
  have fin : ∀ v : Int32, k_opN D E (some (v, D)) (some (v, E0)) := fun v => ⟨D, E0, v, rfl, rfl, q0, k_fc_refl D, f0⟩
  unfold f_X12_keep
  rw [Option.bind_some, ← hE0, h1.2.2.1, a3]
  by_cases c : ns < 5
  · rw [if_neg (by rw [j_eq, j_nat (by omega), e5]; omega)]
    have cls : f_X11_keep D = (if 1 ≤ (L : Int) ∧ (L : Int) ≤ 600 then (f_X7_copyFrom (30 + 2 * ns) 74 D).bind fun x7 => (f_X1_takeSound x7).bind fun x9 => some (x9.1, x9.2) else some (-2, D)) := by
      unfold f_X11_keep
      rw [k_freeS h1.2.1 hns, if_pos c]
      show ((f_X11_within (D.1 74 1) (1 : Int32) (600 : Int32)).bind fun x4 => _) = _
      rw [a2.2.2.1, k_cwithin, e1, e600, j_nat (by omega), Option.bind_some]
      by_cases cL : 1 ≤ (L : Int) ∧ (L : Int) ≤ 600
      · rw [if_pos cL, if_pos cL, if_neg k_10]
      · rw [if_neg cL, if_neg cL, if_pos rfl]
    rw [cls]
    by_cases cL : 1 ≤ (L : Int) ∧ (L : Int) ≤ 600
    · rw [if_pos cL, if_neg (by rw [j_eq, j_nat (by omega), e0]; omega), if_pos (by rw [j_le, j_nat (by omega), e600]; omega)]
      obtain ⟨D1, d1, d2, d3⟩ := j_row_copy (D := D) (r := 30 + 2 * ns) (q := 74) a2 (k_rwS ns c) (by omega) (by omega)
      obtain ⟨E2, g1, g2, g3, g4, g5, g6, g7, g8⟩ := k_keeps (a := 222) a4 (by have := k_lnA.2.2.2.2.2.2.2; omega) (by have := k_lnA.2.2.2.2.2.2.2; omega) (by omega) h1.2.2.1 c (by omega)
      have d17 : D1.1 17 = D.1 17 := (d3 17 (by omega)).1
      obtain ⟨D2, hD2⟩ : ∃ D2, D2 = am_wI D1 17 7 (Int32.ofNat (ns + 1)) := ⟨_, rfl⟩
      rw [d1, Option.bind_some, k_takeS (by rw [d17]; exact h1.2.1), Option.bind_some, g1, Option.bind_some]
      refine ⟨D2, E2, Int32.ofNat ns, by rw [hD2], rfl, k_addS (n := L) (f := out) h1 h2 h3 h4 h5 h6 h7 h8 ?_ c ⟨(by omega), (by omega)⟩ a5 ?_ ?_ ?_ ?_ g5 (fun j hj => g6 j (by omega)) g3 g4 g2 (fun y hy => g7 y (by omega) (by omega) (by omega)), ?_, ?_⟩
      · exact k_Rt_mv h9 (by rw [hD2, j_wI_ne _ _ _ (by omega), (d3 69 (by omega)).1]) (by rw [hD2, j_wI_ne _ _ _ (by omega), (d3 70 (by omega)).1]) (g6 1 (by omega)) (g6 3 (by omega)) (g7 118 (by omega) (by omega) (by omega))
      · exact j_row_fr d2 (by rw [hD2, j_wI_ne _ _ _ (by omega)]) (by rw [hD2, j_wI_ne _ _ _ (by omega)])
      · rw [hD2, k_ws]
      · intro j hj
        rw [hD2, k_wj _ _ hj, d17]
      · intro y hy
        rw [hD2, j_wI_ne _ _ _ (by omega), (d3 y (by omega)).1]
      · intro y hy
        rw [hD2]
        exact ⟨by rw [j_wI_ne _ _ _ (by omega), (d3 y (by omega)).1], (d3 y (by omega)).2⟩
      · exact k_fr_trans f0 (fun y hy => ⟨g7 y (by omega) (by omega) (by omega), by rw [g8]⟩)
    · rw [if_neg cL]
      by_cases cz : L = 0
      · rw [if_pos (by rw [cz]; rfl)]
        exact fin _
      · rw [if_neg (by rw [j_eq, j_nat (by omega), e0]; omega), if_neg (by rw [j_le, j_nat (by omega), e600]; omega)]
        exact fin _
  · rw [if_pos (by rw [j_eq, j_nat (by omega), e5]; omega)]
    have cls : f_X11_keep D = some (-1, D) := by
      unfold f_X11_keep
      rw [k_freeS h1.2.1 hns, if_neg c]
      rfl
    rw [cls]
    exact fin _
