/-! planMap -/
/-- marks, on both sides -/
def k_mk (D E : am_D) (r n : Nat) (f t : Int → Int32) : Prop := j_map D r n f t ∧ ∀ k : Nat, k < n → E.1 (121 + k) 0 = f k ∧ E.1 (121 + k) 1 = t k
def k_up (n : Nat) (f t : Int → Int32) : Prop := ∀ k : Nat, k < n → (f ((k : Int) - 1)).toInt < (f k).toInt ∧ (t ((k : Int) - 1)).toInt < (t k).toInt
def k_put (n : Nat) (f : Int → Int32) (x : Int32) : Int → Int32 := fun k => if k = n then x else f k
theorem k_mk_0 {D E : am_D} {r : Nat} (h : j_map D r 0 (fun _ => 0) (fun _ => 0)) : k_mk D E r 0 (fun _ => 0) (fun _ => 0) := ⟨h, fun k hk => absurd hk (by omega)⟩
theorem k_up_0 : k_up 0 (fun _ => 0) (fun _ => 0) := fun k hk => absurd hk (by omega)
theorem k_up_add {n : Nat} {f t : Int → Int32} {x y : Int32} (h : k_up n f t) (hx : (f ((n : Int) - 1)).toInt < x.toInt) (hy : (t ((n : Int) - 1)).toInt < y.toInt) : k_up (n + 1) (k_put n f x) (k_put n t y) := by
  intro k hk
  unfold k_put
  have e : ¬ (k : Int) - 1 = n := by omega
  rw [if_neg e, if_neg e]
  by_cases c : k = n
  · rw [if_pos (by omega), if_pos (by omega), c]
    exact ⟨hx, hy⟩
  · rw [if_neg (by omega), if_neg (by omega)]
    exact h k (by omega)
theorem k_put_at (n : Nat) (f : Int → Int32) (x : Int32) : k_put n f x (((n + 1 : Nat) : Int) - 1) = x := by
  unfold k_put
  rw [if_pos (by omega)]
theorem k_mk_add {D E : am_D} {r n : Nat} {f t : Int → Int32} (h : k_mk D E r n f t) (hn : n < 12) (x y : Int32) : ∃ D2, f_X9_add r x y D = some D2 ∧ k_mk D2 (am_wI (am_wI E (121 + n) 0 x) (121 + n) 1 y) r (n + 1) (k_put n f x) (k_put n t y) ∧ j_fr (fun q => q = r ∨ q = r + 1 ∨ q = r + 2) D D2 := by
  obtain ⟨D2, a1, a2, a3⟩ := j_map_add h.1 hn x y
  refine ⟨D2, a1, ⟨a2, fun k hk => ?_⟩, a3⟩
  unfold k_put
  by_cases c : k = n
  · rw [if_pos (by omega), if_pos (by omega), c, k_wj _ _ (by decide), k_ws, k_ws]
    exact ⟨rfl, rfl⟩
  · rw [if_neg (by omega), if_neg (by omega), j_wI_ne _ _ _ (by omega), j_wI_ne _ _ _ (by omega)]
    exact h.2 k (by omega)
theorem k_mk_by {D E D2 E2 : am_D} {r n : Nat} {f t : Int → Int32} (h : k_mk D E r n f t) (h0 : D2.1 r = D.1 r) (h1 : D2.1 (r + 1) = D.1 (r + 1)) (h2 : D2.1 (r + 2) = D.1 (r + 2)) (hE : ∀ y, 121 ≤ y → y < 133 → E2.1 y = E.1 y) : k_mk D2 E2 r n f t :=
  ⟨j_map_fr h.1 h0 h1 h2, fun k hk => by have := h.1.1; rw [hE _ (by omega) (by omega)]; exact h.2 k hk⟩
/-- the map behind the last one is nobody's -/
theorem k_slotM {D E D2 : am_D} {ns nm nw np nh ni : Nat} (h1 : k_Rs D E ns) (h2 : k_Rm D E nm) (h3 : k_Rn D E) (h4 : k_Rw D E nw) (h5 : k_Rp D E np) (h6 : k_Rh D E nh) (h7 : k_Ri D E ni (k_cn ns nm nw np nh)) (h8 : k_Rd D E) (h9 : k_Rt D E) (dD : ∀ y, y < 81 ∧ y ≠ 29 ∧ y ≠ 40 + 3 * nm ∧ y ≠ 41 + 3 * nm ∧ y ≠ 42 + 3 * nm → D2.1 y = D.1 y) (hnm : nm < 5) : k_Q D2 E := by
  have d17 : ∀ j : Nat, 0 ≤ j → D2.1 17 j = D.1 17 j := fun j _ => by rw [dD 17 (by omega)]
  have e117 : ∀ j : Nat, 0 ≤ j → E.1 117 j = E.1 117 j := fun _ _ => rfl
  have eE : ∀ y : Nat, 0 ≤ y → E.1 y = E.1 y := fun _ _ => rfl
  refine ⟨ns, nm, nw, np, nh, ni, k_Rs_mv h1 (d17 7 (by omega)) (e117 12 (by omega)) (fun y a b => dD y (by omega)) (eE _ (by omega)) (fun y a b => eE y (by omega)), ⟨h2.1, by rw [d17 8 (by omega)]; exact h2.2.1, h2.2.2.1, fun i hi => ?_⟩, k_Rn_mv h3 (dD _ (by omega)) (fun j _ => d17 j (by omega)) (dD _ (by omega)) (fun j a b => e117 j (by omega)) (eE _ (by omega)), k_Rw_mv h4 (d17 9 (by omega)) (e117 20 (by omega)) (fun y a b => dD y (by omega)) (fun y a b => eE y (by omega)), k_Rp_mv h5 (by rw [dD 24 (by omega)]) (e117 21 (by omega)) (fun y a b => dD y (by omega)) (fun y a b => eE y (by omega)), k_Rh_mv h6 (d17 10 (by omega)) (e117 22 (by omega)) (dD _ (by omega)) (eE _ (by omega)), k_Ri_mv h7 (fun _ => Nat.le_refl _) (by rw [dD 16 (by omega)]) (e117 23 (by omega)) (fun y a b => dD y (by omega)) (fun y a b => eE y (by omega)) (fun s hs => by have hs : s < ns := hs; have := h1.1; exact ⟨by rw [eE 139 (by omega)], fun k _ => by rw [eE (134 + s) (by omega)]⟩) (fun m hm => by have hm : m < nm := hm; have := h2.1; exact ⟨by rw [eE 201 (by omega)], fun k j _ _ => by rw [eE _ (by omega)]⟩) (fun w j hw _ => by have hw : w < nw := hw; have := h4.1; rw [eE _ (by omega)]) (fun p j hp _ => by have hp : p < np := hp; have := h5.1; rw [eE _ (by omega)]) (fun z _ => by rw [eE 203 (by omega)]), k_Rd_mv h8 (fun y a b => dD y (by omega)) (fun j a b => e117 j (by omega)) (fun y _ => ⟨by rw [eE 221 (by omega)], by rw [eE 222 (by omega)]⟩) (fun y _ => by rw [eE 223 (by omega)]) (fun q _ hq k y hk _ => by rw [eE (225 + k) (by omega)]), k_Rt_mv h9 (dD _ (by omega)) (dD _ (by omega)) (e117 1 (by omega)) (e117 3 (by omega)) (eE _ (by omega))⟩
  obtain ⟨n, f, t, b1, b2, b3⟩ := h2.2.2.2 i hi
  exact ⟨n, f, t, b1, j_map_fr b2 (dD _ (by omega)) (dD _ (by omega)) (dD _ (by omega)), b3⟩
theorem k_pmL {D E : am_D} {np r : Nat} (h5 : k_Rp D E np) (hl : k_ln D E np) (hr : 40 ≤ r ∧ r ≤ 52) (hm : j_map D r 0 (fun _ => 0) (fun _ => 0)) :
    ∃ D2 E2 a b n F T, f_X6_intoMap_L11 r am_fu 0 0 0 D = some (Int32.ofNat a, Int32.ofNat b, D2) ∧ f_X12_planMap_L62 am_fu 0 0 0 0 E = some (Int32.ofNat a, Int32.ofNat b, Int32.ofNat n, E2) ∧ k_mk D2 E2 r n F T ∧ k_up n F T ∧ (F ((n : Int) - 1)).toInt ≤ a ∧ (T ((n : Int) - 1)).toInt ≤ b ∧ n ≤ 10 ∧ a ≤ 6000 ∧ b ≤ 12000 ∧ j_fr (fun q => q = r ∨ q = r + 1 ∨ q = r + 2) D D2 ∧ (∀ y, ¬ (121 ≤ y ∧ y < 133) → E2.1 y = E.1 y) ∧ E2.2 = E.2 := by
  have e0 : (0 : Int32).toInt = 0 := rfl
  have e10 : (10 : Int32).toInt = 10 := rfl
  have hnp := h5.1
  have key := k_ind (P := fun fu k => ∀ (D1 E1 : am_D) (a0 b0 n0 : Nat) (F0 T0 : Int → Int32), k_mk D1 E1 r n0 F0 T0 → k_up n0 F0 T0 → (F0 ((n0 : Int) - 1)).toInt ≤ a0 → (T0 ((n0 : Int) - 1)).toInt ≤ b0 → n0 ≤ k → a0 ≤ 600 * k → b0 ≤ 1200 * k → j_fr (fun q => q = r ∨ q = r + 1 ∨ q = r + 2) D D1 → (∀ y, ¬ (121 ≤ y ∧ y < 133) → E1.1 y = E.1 y) → E1.2 = E.2 →
      ∃ D2 E2 a b n F T, f_X6_intoMap_L11 r fu (Int32.ofNat a0) (Int32.ofNat b0) (Int32.ofNat k) D1 = some (Int32.ofNat a, Int32.ofNat b, D2) ∧ f_X12_planMap_L62 fu (Int32.ofNat a0) (Int32.ofNat b0) (Int32.ofNat n0) (Int32.ofNat k) E1 = some (Int32.ofNat a, Int32.ofNat b, Int32.ofNat n, E2) ∧ k_mk D2 E2 r n F T ∧ k_up n F T ∧ (F ((n : Int) - 1)).toInt ≤ a ∧ (T ((n : Int) - 1)).toInt ≤ b ∧ n ≤ 10 ∧ a ≤ 6000 ∧ b ≤ 12000 ∧ j_fr (fun q => q = r ∨ q = r + 1 ∨ q = r + 2) D D2 ∧ (∀ y, ¬ (121 ≤ y ∧ y < 133) → E2.1 y = E.1 y) ∧ E2.2 = E.2) np
    (by
      intro fu k hk ih D1 E1 a0 b0 n0 F0 T0 g1 g2 g3 g4 g5 g6 g7 f1 f2 f3
      obtain ⟨m, w, la, lb, x1, x2, x3, x4, x5, y1, y2, y3, y4, z1, z2, z3, z4⟩ := k_prtN h5 hk
      obtain ⟨l1, l2, l3⟩ := hl k hk
      rw [y3, j_nat (by omega)] at l2
      rw [y4, j_nat (by omega)] at l3
      obtain ⟨l, hle, hlb⟩ : ∃ l : Nat, D.1 29 k = Int32.ofNat l ∧ l ≤ 1200 := ⟨(D.1 29 k).toInt.toNat, j_of (by omega), (by omega)⟩
      have p0 : ∀ (X : am_D) (y : Nat), am_gI X y 4 (0 : Int32) = some (X.1 y 0) := fun X y => k_g (k := 0) (by omega) (by omega)
      have c24 : D1.1 24 5 = Int32.ofNat np := by rw [(f1 24 (by omega)).1]; exact h5.2.1
      have ea : Int32.ofNat a0 + Int32.ofNat m = Int32.ofNat (a0 + m) := (Int32.ofNat_add a0 m).symm
      have eb : Int32.ofNat b0 + Int32.ofNat l = Int32.ofNat (b0 + l) := (Int32.ofNat_add b0 l).symm
      have hc : f_X6_intoMap_L11 r (fu + 1) (Int32.ofNat a0) (Int32.ofNat b0) (Int32.ofNat k) D1 = (if Int32.ofNat l ≤ 0 then some D1 else (f_X9_add r (Int32.ofNat (a0 + m)) (Int32.ofNat (b0 + l)) D1).bind fun x14 => some x14).bind fun w15 => f_X6_intoMap_L11 r fu (Int32.ofNat (a0 + m)) (Int32.ofNat (b0 + l)) (Int32.ofNat (k + 1)) w15 := by
        rw [f_X6_intoMap_L11, c24, if_neg (by rw [j_le, j_nat (by omega), j_nat (by omega)]; omega), if_neg (by rw [j_le, j_nat (by omega), e10]; omega), k_g (by omega) (by omega), (f1 25 (by omega)).1, y1, Option.bind_some, k_g (by omega) (by omega), (f1 29 (by omega)).1, hle, Option.bind_some, Option.bind_some, ea, eb, j_suc]
      have p12 : ∀ (X : am_D) (y : Nat) (z : Int32), am_pI X y 2 (0 : Int32) z = some (am_wI X y 0 z) := fun X y z => k_p (k := 0) z (by omega) (by omega)
      have p13 : ∀ (X : am_D) (y : Nat) (z : Int32), am_pI X y 2 (1 : Int32) z = some (am_wI X y 1 z) := fun X y z => k_p (k := 1) z (by omega) (by omega)
      have hr0 : f_X12_planMap_L62 (fu + 1) (Int32.ofNat a0) (Int32.ofNat b0) (Int32.ofNat n0) (Int32.ofNat k) E1 = if Int32.ofNat l = 0 then f_X12_planMap_L62 fu (Int32.ofNat (a0 + m)) (Int32.ofNat (b0 + l)) (Int32.ofNat n0) (Int32.ofNat (k + 1)) E1 else f_X12_planMap_L62 fu (Int32.ofNat (a0 + m)) (Int32.ofNat (b0 + l)) (Int32.ofNat (n0 + 1)) (Int32.ofNat (k + 1)) (am_wI (am_wI E1 (121 + n0) 0 (Int32.ofNat (a0 + m))) (121 + n0) 1 (Int32.ofNat (b0 + l))) := by
        rw [f_X12_planMap_L62, f2 117 (by omega), h5.2.2.1, if_neg (by rw [j_le, j_nat (by omega), j_nat (by omega)]; omega), k_a (by omega) (by omega), Option.bind_some, p0, f2 (211 + k) (by omega), z1, Option.bind_some, k_g (by omega) (by omega), f2 204 (by omega), ← l1, hle, Option.bind_some, Option.bind_some, ea, eb]
        by_cases cl : Int32.ofNat l = 0
        · rw [if_pos cl, if_pos cl, Option.bind_some, j_suc]
        · rw [if_neg cl, if_neg cl, k_a (by omega) (by omega), Option.bind_some, p12, Option.bind_some, Option.bind_some, p13, Option.bind_some, Option.bind_some, j_suc, j_suc]
      rw [hc, hr0]
      by_cases cl : l = 0
      · subst cl
        rw [if_pos (by rw [j_le, j_nat (by omega), e0]; omega), if_pos (show Int32.ofNat 0 = 0 from rfl), Option.bind_some]
        exact ih D1 E1 (a0 + m) (b0 + 0) n0 F0 T0 g1 g2 (by omega) (by omega) (by omega) (by omega) (by omega) f1 f2 f3
      · obtain ⟨D2, a1, a2, a3⟩ := k_mk_add g1 (show n0 < 12 by omega) (Int32.ofNat (a0 + m)) (Int32.ofNat (b0 + l))
        rw [if_neg (by rw [j_le, j_nat (by omega), e0]; omega), if_neg (by rw [j_eq, j_nat (by omega), e0]; omega), a1, Option.bind_some, Option.bind_some]
        refine ih D2 _ (a0 + m) (b0 + l) (n0 + 1) _ _ a2 (k_up_add g2 (by rw [j_nat (by omega)]; omega) (by rw [j_nat (by omega)]; omega)) (by rw [k_put_at, j_nat (by omega)]; exact Int.le_refl _) (by rw [k_put_at, j_nat (by omega)]; exact Int.le_refl _) (by omega) (by omega) (by omega) (j_fr_trans f1 a3 (fun _ h => h) (fun _ h => h)) (fun y hy => ?_) f3
        rw [j_wI_ne _ _ _ (by omega), j_wI_ne _ _ _ (by omega)]
        exact f2 y hy) (by
      intro fu D1 E1 a0 b0 n0 F0 T0 g1 g2 g3 g4 g5 g6 g7 f1 f2 f3
      rw [f_X6_intoMap_L11, (f1 24 (by omega)).1, h5.2.1, f_X12_planMap_L62, f2 117 (by omega), h5.2.2.1, if_pos (Int32.le_refl _), if_pos (Int32.le_refl _)]
      exact ⟨D1, E1, a0, b0, n0, F0, T0, rfl, rfl, g1, g2, g3, g4, (by omega), (by omega), (by omega), f1, f2, f3⟩) am_fu 0 (by omega) (by unfold am_fu; omega) D E 0 0 0 _ _ (k_mk_0 hm) k_up_0 (Int.le_refl _) (Int.le_refl _) (by omega) (by omega) (by omega) (j_fr_refl _ _) (fun _ _ => rfl) rfl
  exact key
/-- the map kept, both sides -/
theorem k_keepMap {D E D2 E2 : am_D} {ns nm nw np nh ni n : Nat} {f t : Int → Int32} (h1 : k_Rs D E ns) (h2 : k_Rm D E nm) (h3 : k_Rn D E) (h4 : k_Rw D E nw) (h5 : k_Rp D E np) (h6 : k_Rh D E nh) (h7 : k_Ri D E ni (k_cn ns nm nw np nh)) (h8 : k_Rd D E) (h9 : k_Rt D E) (hnm : nm < 5) (hv : k_mv n f t) (hmk : k_mk D2 E2 (40 + 3 * nm) n f t)
    (dD : ∀ y, y < 81 ∧ y ≠ 29 ∧ y ≠ 40 + 3 * nm ∧ y ≠ 41 + 3 * nm ∧ y ≠ 42 + 3 * nm → D2.1 y = D.1 y) (eE : ∀ y, ((117 ≤ y ∧ y < 119) ∨ (133 ≤ y ∧ y < 204) ∨ (205 ≤ y ∧ y < 1425) ∨ (2633 ≤ y ∧ y < 2637)) → E2.1 y = E.1 y) :
    ∃ E3, f_X1_takeMap D2 = some (Int32.ofNat nm, am_wI D2 17 8 (Int32.ofNat (nm + 1))) ∧ f_X12_keepsMap (Int32.ofNat n) E2 = some (Int32.ofNat nm, E3) ∧ k_Q (am_wI D2 17 8 (Int32.ofNat (nm + 1))) E3 ∧ E3.1 117 0 = E.1 117 0 ∧ k_fr E2 E3 := by
  have hn := hv.2.1
  obtain ⟨E3, g1, g2, g3, g4, g5, g6, g7⟩ := k_keepsM hmk.2 hn (by rw [eE 117 (by omega)]; exact h2.2.2.1) hnm
  refine ⟨E3, k_takeM (by rw [dD 17 (by omega)]; exact h2.2.1), g1, k_addM (n := n) (f := f) (t := t) h1 h2 h3 h4 h5 h6 h7 h8 ?_ hnm hv ?_ ?_ ?_ ?_ g4 (fun j hj => by rw [g5 j (by omega), eE 117 (by omega)]) g2 (fun j hj => by rw [g3 j hj, eE 201 (by omega)]) ?_, by rw [g5 0 (by omega), eE 117 (by omega)], fun y hy => ⟨g6 y (by omega) (by omega) (by omega), by rw [g7]⟩⟩
  · exact k_Rt_mv h9 (by rw [j_wI_ne _ _ _ (by omega), dD 69 (by omega)]) (by rw [j_wI_ne _ _ _ (by omega), dD 70 (by omega)]) (by rw [g5 1 (by omega), eE 117 (by omega)]) (by rw [g5 3 (by omega), eE 117 (by omega)]) (by rw [g6 118 (by omega) (by omega) (by omega), eE 118 (by omega)])
  · exact j_map_fr hmk.1 (by rw [j_wI_ne _ _ _ (by omega)]) (by rw [j_wI_ne _ _ _ (by omega)]) (by rw [j_wI_ne _ _ _ (by omega)])
  · rw [k_ws]
  · intro j hj
    rw [k_wj _ _ hj, dD 17 (by omega)]
  · intro y hy
    rw [j_wI_ne _ _ _ (by omega), dD y (by omega)]
  · intro y hy
    by_cases c : y = 117
    · subst c
      omega
    · rw [g6 y (by omega) (by omega) (by omega), eE y (by omega)]
theorem op_planMap {D E : am_D} (h : k_Q D E) (a : Int32) : k_opE D E (f_X11_planMap a D) (f_X12_planMap a E) ["java/lang/IllegalArgumentException"] := by
  obtain ⟨E0, hE0, t0, f0, q0⟩ := k_start h
  have q0' := q0
  obtain ⟨ns, nm, nw, np, nh, ni, h1, h2, h3, h4, h5, h6, h7, h8, h9⟩ := q0'

  have hnm := h2.1
  have e0 : (0 : Int32).toInt = 0 := rfl
  have e5 : (5 : Int32).toInt = 5 := rfl
  have e12 : (12000 : Int32).toInt = 12000 := rfl
  have e600 : (600 : Int32).toInt = 600 := rfl
  have e1200 : (1200 : Int32).toInt = 1200 := rfl
  unfold f_X12_planMap f_X11_planMap
  rw [k_cwithin, e0, e12, Option.bind_some, Option.bind_some, ← hE0, k_in, e0, e12, Option.bind_some]
  by_cases c : 0 ≤ a.toInt ∧ a.toInt ≤ 12000
  · rw [if_pos c, k_nT E0 1 t0, k_needT, if_pos rfl]
    dsimp only
    rw [h2.2.2.1, k_freeM h2.2.1 hnm]
    by_cases c5 : nm < 5
    · rw [if_pos c5, if_neg (by rw [j_eq, j_nat (by omega), e5]; omega)]
      obtain ⟨D1, E1, v, v1, v2, v3, v4, v5, v6⟩ := k_reach h5 a
      have h51 := k_Rp_29 h5 v5 v6
      show k_opE D E ((f_X6_reach a D).bind fun x8 => if x8.1 = 0 then some (.inr ((-2 : Int32), x8.2)) else (f_X6_intoMap (40 + 3 * nm) x8.2).bind fun x11 => if x11.1 = 0 then some (.inr ((-2 : Int32), x11.2)) else (f_X1_takeMap x11.2).bind fun x14 => some (.inr (x14.1, x14.2))) _ _
      rw [v1, v2, Option.bind_some, Option.bind_some]
      dsimp only
      have fr1 : k_fc D D1 := fun y hy => ⟨v5.1 y (by omega), by rw [v5.2]⟩
      have fr2 : k_fr E E1 := k_fr_trans f0 (fun y hy => ⟨v6.1 y (by omega), by rw [v6.2]⟩)
      have q1 : k_Q D1 E1 := k_Q_29 q0 v5 v6
      by_cases cv : v = 0
      · rw [if_pos cv, if_pos cv]
        exact k_valE _ q1 (by rw [v6.1 117 (by omega)]; exact t0) fr2 fr1 rfl rfl
      · rw [if_neg cv, if_neg cv]
        obtain ⟨D2, a1, a2, a3⟩ := j_map_clear (D := D1) (40 + 3 * nm)
        have h52 : k_Rp D2 E1 np := k_Rp_mv h51 (by rw [(a3 24 (by omega)).1]) rfl (fun y _ _ => (a3 y (by omega)).1) (fun _ _ _ => rfl)
        have hl2 : k_ln D2 E1 np := fun j hj => by rw [(a3 27 (by omega)).1, (a3 28 (by omega)).1, (a3 29 (by omega)).1]; exact v4 j hj
        obtain ⟨D3, E3, x, y, n, F, T, b1, b2, b3, b4, b5, b6, b7, b8, b9, b10, b11, b12⟩ := k_pmL h52 hl2 (r := 40 + 3 * nm) (by omega) a2
        have fD3 : ∀ z, z ≠ 29 ∧ z ≠ 40 + 3 * nm ∧ z ≠ 41 + 3 * nm ∧ z ≠ 42 + 3 * nm → D3.1 z = D.1 z ∧ D3.2 z = D.2 z := fun z hz => ⟨by rw [(b10 z (by omega)).1, (a3 z (by omega)).1, v5.1 z (by omega)], by rw [(b10 z (by omega)).2, (a3 z (by omega)).2, v5.2]⟩
        have fE3 : ∀ z, ¬ (121 ≤ z ∧ z < 133) → z ≠ 204 → E3.1 z = E0.1 z := fun z hz hz2 => by rw [b11 z hz, v6.1 z hz2]
        have fE32 : E3.2 = E0.2 := by rw [b12, v6.2]
        -- where it is refused
        have refuse : ∀ (D4 E4 : am_D) (u : Int32), (∀ z, z ≠ 29 ∧ z ≠ 40 + 3 * nm ∧ z ≠ 41 + 3 * nm ∧ z ≠ 42 + 3 * nm → D4.1 z = D.1 z ∧ D4.2 z = D.2 z) → (∀ z, ¬ (121 ≤ z ∧ z < 133) → z ≠ 204 → E4.1 z = E0.1 z) → E4.2 = E0.2 → k_opE D E (some (.inr (u, D4))) (some (u, E4)) ["java/lang/IllegalArgumentException"] := by
          intro D4 E4 u w1 w2 w3
          have q4 : k_Q D4 E0 := k_slotM h1 h2 h3 h4 h5 h6 h7 h8 h9 (fun z hz => (w1 z (by omega)).1) c5
          refine k_valE u (k_Q_sc q4 (k_sc_refl D4) ⟨fun z hz => w2 z (by omega) (by omega), fun j hj => by rw [w2 117 (by omega) (by omega)], fun z _ => ⟨by rw [w2 221 (by omega) (by omega)], by rw [w2 222 (by omega) (by omega)]⟩, fun z _ => by rw [w2 223 (by omega) (by omega)], fun q _ hq k z hk _ => by rw [w2 _ (by omega) (by omega)]⟩) (by rw [w2 117 (by omega) (by omega)]; exact t0) (k_fr_trans f0 (fun z hz => ⟨w2 z (by omega) (by omega), by rw [w3]⟩)) (fun z hz => w1 z (by omega)) rfl rfl
        have b1 : f_X6_intoMap_L11 (40 + 3 * nm) am_fu (0 : Int32) (0 : Int32) (0 : Int32) D2 = _ := b1
        have b2 : f_X12_planMap_L62 am_fu (0 : Int32) (0 : Int32) (0 : Int32) (0 : Int32) E1 = _ := b2
        unfold f_X6_intoMap
        rw [a1, Option.bind_some, b1, Option.bind_some, b2, Option.bind_some]
        dsimp only
        unfold f_X9_stretchLast
        by_cases cn : n = 0
        · subst cn
          have z1 : D3.1 (40 + 3 * nm) 2 ≤ 0 := by rw [b3.1.2.1]; exact Int32.le_refl _
          have z2 : Int32.ofNat 0 ≤ 0 := Int32.le_refl _
          rw [if_pos z1, Option.bind_some, if_pos z1, if_pos z2, Option.bind_some, Option.bind_some, if_pos (show Int32.ofNat 0 = 0 from rfl)]
          dsimp only
          rw [if_pos rfl]
          exact refuse D3 E3 _ fD3 fE3 fE32
        · have z1 : ¬ D3.1 (40 + 3 * nm) 2 ≤ 0 := by rw [b3.1.2.1, j_le, j_nat (by omega), e0]; omega
          have z2 : ¬ Int32.ofNat n ≤ 0 := by rw [j_le, j_nat (by omega), e0]; omega
          have z3 : ¬ Int32.ofNat n = 0 := by rw [j_eq, j_nat (by omega), e0]; omega
          have z4 : ¬ (12 : Int32) < D3.1 (40 + 3 * nm) 2 := by rw [b3.1.2.1, j_lt, j_lit12, j_nat (by omega)]; omega
          have en : Int32.ofNat n - 1 = Int32.ofNat (n - 1) := by rw [j_eq, j_pred n (by omega), j_nat (by omega)]; omega
          have p12 : ∀ (X : am_D) (y : Nat) (z : Int32), am_pI X y 2 (0 : Int32) z = some (am_wI X y 0 z) := fun X y z => k_p (k := 0) z (by omega) (by omega)
          obtain ⟨D4, hD4⟩ : ∃ D4, D4 = am_wI D3 (40 + 3 * nm + 1) (n - 1 : Nat) (Int32.ofNat x) := ⟨_, rfl⟩
          obtain ⟨E4, hE4⟩ : ∃ E4, E4 = am_wI E3 (121 + (n - 1)) 0 (Int32.ofNat x) := ⟨_, rfl⟩
          have z5 : ¬ D4.1 (40 + 3 * nm) 2 ≤ 0 := by rw [hD4, j_wI_ne _ _ _ (by omega)]; exact z1
          rw [if_neg z1, if_neg z4, b3.1.2.1, en, k_p _ (by omega) (by omega), ← hD4, Option.bind_some, Option.bind_some, if_neg z5, if_neg z2, k_a (by omega) (by omega), Option.bind_some, p12, ← hE4, Option.bind_some, Option.bind_some, if_neg z3]
          have fD4 : ∀ z, z ≠ 29 ∧ z ≠ 40 + 3 * nm ∧ z ≠ 41 + 3 * nm ∧ z ≠ 42 + 3 * nm → D4.1 z = D.1 z ∧ D4.2 z = D.2 z := fun z hz => by
            rw [hD4]
            exact ⟨by rw [j_wI_ne _ _ _ (by omega)]; exact (fD3 z hz).1, (fD3 z hz).2⟩
          have fE4 : ∀ z, ¬ (121 ≤ z ∧ z < 133) → z ≠ 204 → E4.1 z = E0.1 z := fun z hz hz2 => by rw [hE4, j_wI_ne _ _ _ (by omega)]; exact fE3 z hz hz2
          have fE42 : E4.2 = E0.2 := by rw [hE4]; exact fE32
          by_cases cx : 600 < x
          · have y1 : (600 : Int32) < Int32.ofNat x := by rw [j_lt, e600, j_nat (by omega)]; omega
            rw [if_pos y1, if_pos y1, Option.bind_some]
            dsimp only
            rw [if_pos rfl]
            exact refuse D4 E4 _ fD4 fE4 fE42
          · have y1 : ¬ (600 : Int32) < Int32.ofNat x := by rw [j_lt, e600, j_nat (by omega)]; omega
            rw [if_neg y1, if_neg y1]
            by_cases cy : y ≤ 1200
            · have y2 : Int32.ofNat y ≤ 1200 := by rw [j_le, e1200, j_nat (by omega)]; omega
              have y3 : ¬ (1200 : Int32) < Int32.ofNat y := by rw [j_lt, e1200, j_nat (by omega)]; omega
              rw [if_pos y2, if_neg y3, Option.bind_some]
              dsimp only
              rw [if_neg k_10]
              obtain ⟨G, hG⟩ : ∃ G : Int → Int32, G = fun k => if k = ((n - 1 : Nat) : Int) then Int32.ofNat x else F k := ⟨_, rfl⟩
              have hmk : k_mk D4 E4 (40 + 3 * nm) n G T := by
                refine ⟨⟨b3.1.1, by rw [hD4, j_wI_ne _ _ _ (by omega)]; exact b3.1.2.1, fun k hk => ?_, fun k hk => ?_⟩, fun k hk => ?_⟩
                · obtain ⟨w1, w2⟩ := b3.1.2.2.1 k hk
                  refine ⟨?_, by rw [hD4, j_wI_ne _ _ _ (by omega)]; exact w2⟩
                  rw [hD4, j_wI_at, hG]
                  dsimp only
                  by_cases ck : k = n - 1
                  · rw [if_pos ck, if_pos (by omega)]
                  · rw [if_neg ck, if_neg (by omega), w1]
                · rw [hG]
                  dsimp only
                  rw [if_neg (by omega)]
                  exact b3.1.2.2.2 k hk
                · obtain ⟨w1, w2⟩ := b3.2 k hk
                  rw [hE4, hG]
                  dsimp only
                  by_cases ck : k = n - 1
                  · rw [if_pos (by omega), ck, k_ws, k_wj _ _ (by decide), ← ck, w2]
                    exact ⟨rfl, rfl⟩
                  · rw [if_neg (by omega), j_wI_ne _ _ _ (by omega), w1, w2]
                    exact ⟨rfl, rfl⟩
              have hv : k_mv n G T := by
                have s1 := b3.1.2.2.2 (-1) (Or.inl (by omega))
                have hlast : G ((n : Int) - 1) = Int32.ofNat x := by
                  rw [hG]
                  dsimp only
                  rw [if_pos (by omega)]
                refine ⟨(by omega), (by omega), ?_, by rw [s1.2]; rfl, fun k hk => ?_, by rw [hlast, j_nat (by omega)]; omega, (by omega)⟩
                · rw [hG]
                  dsimp only
                  rw [if_neg (by omega), s1.1]
                  rfl
                · obtain ⟨w1, w2⟩ := b4 k hk
                  rw [hG]
                  dsimp only
                  rw [if_neg (show ¬ (k : Int) - 1 = ((n - 1 : Nat) : Int) by omega)]
                  by_cases ck : k = n - 1
                  · rw [if_pos (by omega), j_nat (by omega)]
                    have e : (k : Int) = (n : Int) - 1 := by omega
                    rw [e] at w1 ⊢
                    exact ⟨by omega, by rw [← e]; exact w2⟩
                  · rw [if_neg (by omega)]
                    exact ⟨w1, w2⟩
              obtain ⟨E5, r1, r2, r3, r4, r5⟩ := k_keepMap h1 h2 h3 h4 h5 h6 h7 h8 h9 c5 hv hmk (fun z hz => (fD4 z (by omega)).1) (fun z hz => fE4 z (by omega) (by omega))
              rw [r1, r2, Option.bind_some, Option.bind_some]
              refine k_valE (Int32.ofNat nm) r3 (by rw [r4]; exact t0) (k_fr_trans f0 (k_fr_trans (fun z hz => ⟨fE4 z (by omega) (by omega), by rw [fE42]⟩) r5)) (fun z hz => ?_) rfl rfl
              exact ⟨by rw [j_wI_ne _ _ _ (by omega)]; exact (fD4 z (by omega)).1, (fD4 z (by omega)).2⟩
            · have y2 : ¬ Int32.ofNat y ≤ 1200 := by rw [j_le, e1200, j_nat (by omega)]; omega
              have y3 : (1200 : Int32) < Int32.ofNat y := by rw [j_lt, e1200, j_nat (by omega)]; omega
              rw [if_neg y2, if_pos y3, Option.bind_some]
              dsimp only
              rw [if_pos rfl]
              exact refuse D4 E4 _ fD4 fE4 fE42
    · rw [if_neg c5, if_pos (by rw [j_eq, j_nat (by omega), e5]; omega)]
      exact k_valE _ q0 t0 f0 (k_fc_refl D) rfl rfl
  · rw [if_neg c, k_nF E0 1 k_10 t0, if_neg k_10, k_needF]
    exact k_refE 0 0 _ q0 f0 (k_fc_refl D) rfl rfl rfl
