/-! the lengths planned, on both sides -/
/-- the lengths of so many parts, on both sides, each between its least and its most -/
def k_ln (D E : am_D) (np : Nat) : Prop := ∀ j, j < np → D.1 29 j = E.1 204 j ∧ (D.1 27 j).toInt ≤ (D.1 29 j).toInt ∧ (D.1 29 j).toInt ≤ (D.1 28 j).toInt
def k_f29 (D D2 : am_D) : Prop := (∀ y, y ≠ 29 → D2.1 y = D.1 y) ∧ D2.2 = D.2
def k_f204 (E E2 : am_D) : Prop := (∀ y, y ≠ 204 → E2.1 y = E.1 y) ∧ E2.2 = E.2
theorem k_prtN {D E : am_D} {np : Nat} (h5 : k_Rp D E np) {j : Nat} (hj : j < np) : ∃ n w a b : Nat, 1 ≤ n ∧ n ≤ 600 ∧ w ≤ 99 ∧ a ≤ b ∧ b ≤ 1200 ∧ D.1 25 j = Int32.ofNat n ∧ D.1 26 j = Int32.ofNat w ∧ D.1 27 j = Int32.ofNat a ∧ D.1 28 j = Int32.ofNat b ∧ E.1 (211 + j) 0 = Int32.ofNat n ∧ E.1 (211 + j) 1 = Int32.ofNat w ∧ E.1 (211 + j) 2 = Int32.ofNat a ∧ E.1 (211 + j) 3 = Int32.ofNat b := h5.2.2.2 j hj
theorem k_plan1 {D E : am_D} {np : Nat} (h5 : k_Rp D E np) (tot : Int32) : ∃ D2 E2 v, f_X6_reach_L4 am_fu tot 0 D = some (v, D2) ∧ f_X12_plans_L4 am_fu tot 0 E = some (v, E2) ∧ k_ln D2 E2 np ∧ k_f29 D D2 ∧ k_f204 E E2 := by
  have e10 : (10 : Int32).toInt = 10 := rfl
  have hnp := h5.1
  have key := k_ind (P := fun fu k => ∀ (D1 E1 : am_D) (v : Int32), k_ln D1 E1 k → k_f29 D D1 → k_f204 E E1 → ∃ D2 E2 w, f_X6_reach_L4 fu v (Int32.ofNat k) D1 = some (w, D2) ∧ f_X12_plans_L4 fu v (Int32.ofNat k) E1 = some (w, E2) ∧ k_ln D2 E2 np ∧ k_f29 D D2 ∧ k_f204 E E2) np
    (by
      intro fu k hk ih D1 E1 v g1 f1 f2
      obtain ⟨n, w, a, b, x1, x2, x3, x4, x5, y1, y2, y3, y4, z1, z2, z3, z4⟩ := k_prtN h5 hk
      obtain ⟨u, hu⟩ : ∃ u, u = am_mx (Int32.ofNat a) (am_mn (Int32.ofNat n) (Int32.ofNat b)) := ⟨_, rfl⟩
      have hub : (a : Int) ≤ u.toInt ∧ u.toInt ≤ b := by
        rw [hu, j_mx, j_mn, j_nat (by omega), j_nat (by omega), j_nat (by omega)]
        omega
      have p0 : ∀ (X : am_D) (y : Nat), am_gI X y 4 (0 : Int32) = some (X.1 y 0) := fun X y => k_g (k := 0) (by omega) (by omega)
      have p2 : ∀ (X : am_D) (y : Nat), am_gI X y 4 (2 : Int32) = some (X.1 y 2) := fun X y => k_g (k := 2) (by omega) (by omega)
      have p3 : ∀ (X : am_D) (y : Nat), am_gI X y 4 (3 : Int32) = some (X.1 y 3) := fun X y => k_g (k := 3) (by omega) (by omega)
      have hbd : f_X11_bounded (Int32.ofNat n) (Int32.ofNat a) (Int32.ofNat b) = some u := by rw [hu]; rfl
      have hwi : f_X12_within (Int32.ofNat n) (Int32.ofNat a) (Int32.ofNat b) = some u := by rw [k_within _ _ _ (by rw [j_nat (by omega), j_nat (by omega)]; omega), hu]
      have hc : f_X6_reach_L4 (fu + 1) v (Int32.ofNat k) D1 = f_X6_reach_L4 fu (v - u) (Int32.ofNat (k + 1)) (am_wI D1 29 k u) := by
        rw [f_X6_reach_L4, f1.1 24 (by omega), h5.2.1, if_neg (by rw [j_le, j_nat (by omega), j_nat (by omega)]; omega), if_neg (by rw [j_le, j_nat (by omega), e10]; omega), k_g (by omega) (by omega), f1.1 25 (by omega), y1, Option.bind_some, k_g (by omega) (by omega), f1.1 27 (by omega), y3, Option.bind_some, k_g (by omega) (by omega), f1.1 28 (by omega), y4, Option.bind_some, hbd, Option.bind_some, k_p _ (by omega) (by omega), Option.bind_some, k_g (by omega) (by omega), k_ws, Option.bind_some, j_suc]
      have hr : f_X12_plans_L4 (fu + 1) v (Int32.ofNat k) E1 = f_X12_plans_L4 fu (v - u) (Int32.ofNat (k + 1)) (am_wI E1 204 k u) := by
        rw [f_X12_plans_L4, f2.1 117 (by omega), h5.2.2.1, if_neg (by rw [j_le, j_nat (by omega), j_nat (by omega)]; omega), k_a (by omega) (by omega), Option.bind_some, p0, f2.1 _ (by omega), z1, Option.bind_some, Option.bind_some, p2, f2.1 _ (by omega), z3, Option.bind_some, Option.bind_some, p3, f2.1 _ (by omega), z4, Option.bind_some, hwi, Option.bind_some, k_p _ (by omega) (by omega), Option.bind_some, k_g (by omega) (by omega), k_ws, Option.bind_some, j_suc]
      rw [hc, hr]
      refine ih _ _ _ (fun j hj => ?_) ⟨fun y hy => by rw [j_wI_ne _ _ _ hy]; exact f1.1 y hy, f1.2⟩ ⟨fun y hy => by rw [j_wI_ne _ _ _ hy]; exact f2.1 y hy, f2.2⟩
      rw [j_wI_at, j_wI_at, j_wI_ne _ _ _ (by omega), j_wI_ne _ _ _ (by omega)]
      by_cases cj : j = k
      · rw [if_pos cj, if_pos cj, cj, f1.1 27 (by omega), f1.1 28 (by omega), y3, y4, j_nat (by omega), j_nat (by omega)]
        exact ⟨rfl, hub.1, hub.2⟩
      · rw [if_neg cj, if_neg cj]
        exact g1 j (by omega)) (by
      intro fu D1 E1 v g1 f1 f2
      rw [f_X6_reach_L4, f_X12_plans_L4, f1.1 24 (by omega), h5.2.1, f2.1 117 (by omega), h5.2.2.1, if_pos (Int32.le_refl _), if_pos (Int32.le_refl _)]
      exact ⟨D1, E1, v, rfl, rfl, g1, f1, f2⟩) am_fu 0 (by omega) (by unfold am_fu; omega) D E tot (fun j hj => absurd hj (by omega)) ⟨fun _ _ => rfl, rfl⟩ ⟨fun _ _ => rfl, rfl⟩
  exact key
/-- what goes to one part -/
def k_mo (v a b l : Int32) : Int32 := am_mx (a - l) (am_mn v (b - l))
theorem k_mo_ok {v a b l : Int32} (ha : 0 ≤ a.toInt) (h1 : a.toInt ≤ l.toInt) (h2 : l.toInt ≤ b.toInt) (hb : b.toInt ≤ 1200) : a.toInt ≤ (l + k_mo v a b l).toInt ∧ (l + k_mo v a b l).toInt ≤ b.toInt ∧ (a - l).toInt ≤ (b - l).toInt ∧ (v = 0 → k_mo v a b l = 0) := by
  have e0 : (0 : Int32).toInt = 0 := rfl
  have e1 : (a - l).toInt = a.toInt - l.toInt := by rw [k_S]; omega
  have e2 : (b - l).toInt = b.toInt - l.toInt := by rw [k_S]; omega
  have em : (k_mo v a b l).toInt = max (a.toInt - l.toInt) (min v.toInt (b.toInt - l.toInt)) := by
    unfold k_mo
    rw [j_mx, j_mn, e1, e2]
  have es : (l + k_mo v a b l).toInt = l.toInt + (k_mo v a b l).toInt := by rw [k_A]; omega
  refine ⟨(by omega), (by omega), (by omega), fun hv => ?_⟩
  rw [j_eq, em, hv, e0]
  omega
/-- one weight -/
theorem k_plan2 {D E : am_D} {np : Nat} (h5 : k_Rp D E np) (w : Int32) (tot : Int32) (hl : k_ln D E np) : ∃ D2 E2 v, f_X6_reach_L75 w am_fu tot 0 D = some (v, D2) ∧ f_X12_plans_L71 w am_fu tot 0 E = some (v, E2) ∧ k_ln D2 E2 np ∧ k_f29 D D2 ∧ k_f204 E E2 ∧ (tot = 0 → v = 0 ∧ ∀ j, j < np → E2.1 204 j = E.1 204 j) := by
  have e10 : (10 : Int32).toInt = 10 := rfl
  have hnp := h5.1
  have key := k_ind (P := fun fu k => ∀ (D1 E1 : am_D) (v : Int32), k_ln D1 E1 np → k_f29 D D1 → k_f204 E E1 → (tot = 0 → v = 0 ∧ ∀ j, j < np → E1.1 204 j = E.1 204 j) → ∃ D2 E2 u, f_X6_reach_L75 w fu v (Int32.ofNat k) D1 = some (u, D2) ∧ f_X12_plans_L71 w fu v (Int32.ofNat k) E1 = some (u, E2) ∧ k_ln D2 E2 np ∧ k_f29 D D2 ∧ k_f204 E E2 ∧ (tot = 0 → u = 0 ∧ ∀ j, j < np → E2.1 204 j = E.1 204 j)) np
    (by
      intro fu k hk ih D1 E1 v g1 f1 f2 f3
      obtain ⟨n, w', a, b, x1, x2, x3, x4, x5, y1, y2, y3, y4, z1, z2, z3, z4⟩ := k_prtN h5 hk
      have p1 : ∀ (X : am_D) (y : Nat), am_gI X y 4 (1 : Int32) = some (X.1 y 1) := fun X y => k_g (k := 1) (by omega) (by omega)
      have p2 : ∀ (X : am_D) (y : Nat), am_gI X y 4 (2 : Int32) = some (X.1 y 2) := fun X y => k_g (k := 2) (by omega) (by omega)
      have p3 : ∀ (X : am_D) (y : Nat), am_gI X y 4 (3 : Int32) = some (X.1 y 3) := fun X y => k_g (k := 3) (by omega) (by omega)
      obtain ⟨l1, l2, l3⟩ := g1 k hk
      rw [f1.1 27 (by omega), y3, j_nat (by omega)] at l2
      rw [f1.1 28 (by omega), y4, j_nat (by omega)] at l3
      have mk := k_mo_ok (v := v) (a := Int32.ofNat a) (b := Int32.ofNat b) (l := D1.1 29 k) (by rw [j_nat (by omega)]; omega) (by rw [j_nat (by omega)]; omega) (by rw [j_nat (by omega)]; omega) (by rw [j_nat (by omega)]; omega)
      obtain ⟨m, hm⟩ : ∃ m, m = k_mo v (Int32.ofNat a) (Int32.ofNat b) (D1.1 29 k) := ⟨_, rfl⟩
      rw [← hm, j_nat (by omega), j_nat (by omega)] at mk
      have hbd : f_X11_bounded v (Int32.ofNat a - D1.1 29 k) (Int32.ofNat b - D1.1 29 k) = some m := by rw [hm]; rfl
      have hwi : f_X12_within v (Int32.ofNat a - D1.1 29 k) (Int32.ofNat b - D1.1 29 k) = some m := by rw [k_within _ _ _ mk.2.2.1, hm]; rfl
      have hc : f_X6_reach_L75 w (fu + 1) v (Int32.ofNat k) D1 = if Int32.ofNat w' = w then f_X6_reach_L75 w fu (v - m) (Int32.ofNat (k + 1)) (am_wI D1 29 k (D1.1 29 k + m)) else f_X6_reach_L75 w fu v (Int32.ofNat (k + 1)) D1 := by
        rw [f_X6_reach_L75, f1.1 24 (by omega), h5.2.1, if_neg (by rw [j_le, j_nat (by omega), j_nat (by omega)]; omega), if_neg (by rw [j_le, j_nat (by omega), e10]; omega), k_g (by omega) (by omega), f1.1 26 (by omega), y2, Option.bind_some]
        by_cases cw : Int32.ofNat w' = w
        · rw [if_pos cw, if_pos cw, k_g (by omega) (by omega), f1.1 27 (by omega), y3, Option.bind_some, k_g (by omega) (by omega), Option.bind_some, k_g (by omega) (by omega), f1.1 28 (by omega), y4, Option.bind_some, Option.bind_some, hbd, Option.bind_some, Option.bind_some, k_p _ (by omega) (by omega), Option.bind_some, Option.bind_some, j_suc]
        · rw [if_neg cw, if_neg cw, Option.bind_some, j_suc]
      have hr : f_X12_plans_L71 w (fu + 1) v (Int32.ofNat k) E1 = if Int32.ofNat w' = w then f_X12_plans_L71 w fu (v - m) (Int32.ofNat (k + 1)) (am_wI E1 204 k (D1.1 29 k + m)) else f_X12_plans_L71 w fu v (Int32.ofNat (k + 1)) E1 := by
        rw [f_X12_plans_L71, f2.1 117 (by omega), h5.2.2.1, if_neg (by rw [j_le, j_nat (by omega), j_nat (by omega)]; omega), k_a (by omega) (by omega), Option.bind_some, p1, f2.1 _ (by omega), z2, Option.bind_some]
        by_cases cw : Int32.ofNat w' = w
        · rw [if_pos cw, if_pos cw, Option.bind_some, p2, f2.1 _ (by omega), z3, Option.bind_some, k_g (by omega) (by omega), ← l1, Option.bind_some, Option.bind_some, p3, f2.1 _ (by omega), z4, Option.bind_some, Option.bind_some, hwi, Option.bind_some, Option.bind_some, k_p _ (by omega) (by omega), Option.bind_some, Option.bind_some, j_suc]
        · rw [if_neg cw, if_neg cw, Option.bind_some, j_suc]
      rw [hc, hr]
      by_cases cw : Int32.ofNat w' = w
      · rw [if_pos cw, if_pos cw]
        refine ih _ _ _ (fun j hj => ?_) ⟨fun y hy => by rw [j_wI_ne _ _ _ hy]; exact f1.1 y hy, f1.2⟩ ⟨fun y hy => by rw [j_wI_ne _ _ _ hy]; exact f2.1 y hy, f2.2⟩ (fun ht => ?_)
        · rw [j_wI_at, j_wI_at, j_wI_ne _ _ _ (by omega), j_wI_ne _ _ _ (by omega)]
          by_cases cj : j = k
          · rw [if_pos cj, if_pos cj, cj, f1.1 27 (by omega), f1.1 28 (by omega), y3, y4, j_nat (by omega), j_nat (by omega)]
            exact ⟨rfl, mk.1, mk.2.1⟩
          · rw [if_neg cj, if_neg cj]
            exact g1 j hj
        · obtain ⟨t1, t2⟩ := f3 ht
          have m0 : m = 0 := by rw [hm]; exact (k_mo_ok (v := v) (a := Int32.ofNat a) (b := Int32.ofNat b) (l := D1.1 29 k) (by rw [j_nat (by omega)]; omega) (by rw [j_nat (by omega)]; omega) (by rw [j_nat (by omega)]; omega) (by rw [j_nat (by omega)]; omega)).2.2.2 t1
          refine ⟨by rw [t1, m0]; rfl, fun j hj => ?_⟩
          rw [j_wI_at]
          by_cases cj : j = k
          · rw [if_pos cj, cj, m0, Int32.add_zero, l1]
            exact t2 k hk
          · rw [if_neg cj]
            exact t2 j hj
      · rw [if_neg cw, if_neg cw]
        exact ih D1 E1 v g1 f1 f2 f3) (by
      intro fu D1 E1 v g1 f1 f2 f3
      rw [f_X6_reach_L75, f_X12_plans_L71, f1.1 24 (by omega), h5.2.1, f2.1 117 (by omega), h5.2.2.1, if_pos (Int32.le_refl _), if_pos (Int32.le_refl _)]
      exact ⟨D1, E1, v, rfl, rfl, g1, f1, f2, f3⟩) am_fu 0 (by omega) (by unfold am_fu; omega) D E tot hl ⟨fun _ _ => rfl, rfl⟩ ⟨fun _ _ => rfl, rfl⟩ (fun ht => ⟨ht, fun _ _ => rfl⟩)
  exact key
theorem k_Rp_29 {D E D2 E2 : am_D} {np : Nat} (h5 : k_Rp D E np) (hD : k_f29 D D2) (hE : k_f204 E E2) : k_Rp D2 E2 np := k_Rp_mv h5 (by rw [hD.1 24 (by omega)]) (by rw [hE.1 117 (by omega)]) (fun y a b => hD.1 y (by omega)) (fun y a b => hE.1 y (by omega))
theorem k_reach {D E : am_D} {np : Nat} (h5 : k_Rp D E np) (tot : Int32) : ∃ D2 E2 v, f_X6_reach tot D = some (v, D2) ∧ f_X12_plans tot E = some (v, E2) ∧ (v = 0 ∨ v = 1) ∧ k_ln D2 E2 np ∧ k_f29 D D2 ∧ k_f204 E E2 := by
  have e99 : (99 : Int32).toInt = 99 := rfl
  have e100 : (100 : Int32).toInt = 100 := rfl
  have hnp := h5.1
  obtain ⟨D1, E1, v, a1, a2, a3, a4, a5⟩ := k_plan1 h5 tot
  -- the reference goes on where nothing is left
  have rest := k_ind (P := fun fu k => ∀ (D2 E2 : am_D), k_ln D2 E2 np → k_f29 D D2 → k_f204 E E2 → ∃ E3, f_X12_plans_L62 fu 0 (Int32.ofNat k) E2 = some (0, E3) ∧ k_ln D2 E3 np ∧ k_f204 E E3) 100
    (by
      intro fu k hk ih D2 E2 g1 g2 g3
      obtain ⟨D3, E3, u, b1, b2, b3, b4, b5, b6⟩ := k_plan2 (k_Rp_29 h5 g2 g3) (Int32.ofNat k) 0 g1
      obtain ⟨u0, u1⟩ := b6 rfl
      have hl3 : k_ln D2 E3 np := fun j hj => by rw [u1 j hj]; exact g1 j hj
      have f3 : k_f204 E E3 := ⟨fun y hy => (b5.1 y hy).trans (g3.1 y hy), b5.2.trans g3.2⟩
      rw [f_X12_plans_L62, if_neg (by rw [j_le, e100, j_nat (by omega)]; omega), b2, Option.bind_some, u0, j_suc]
      exact ih D2 E3 hl3 g2 f3) (by
      intro fu D2 E2 g1 g2 g3
      have c : (100 : Int32) ≤ Int32.ofNat 100 := Int32.le_refl _
      rw [f_X12_plans_L62, if_pos c]
      exact ⟨E2, rfl, g1, g3⟩)
  have key := k_ind (P := fun fu k => 100 - k < fu → ∀ (D2 E2 : am_D) (v : Int32), k_ln D2 E2 np → k_f29 D D2 → k_f204 E E2 → ∃ D3 E3 u, f_X6_reach_L62 fu v (Int32.ofNat k) D2 = some (u, D3) ∧ f_X12_plans_L62 fu v (Int32.ofNat k) E2 = some (u, E3) ∧ k_ln D3 E3 np ∧ k_f29 D D3 ∧ k_f204 E E3) 100
    (by
      intro fu k hk ih hfu D2 E2 v g1 g2 g3
      by_cases cv : v = 0
      · subst cv
        obtain ⟨E3, r1, r2, r3⟩ := rest (fu + 1) k (by omega) hfu D2 E2 g1 g2 g3
        refine ⟨D2, E3, 0, ?_, r1, r2, g2, r3⟩
        rw [f_X6_reach_L62, if_neg (by rw [j_lt, e99, j_nat (by omega)]; omega), if_pos rfl]
      · obtain ⟨D3, E3, u, b1, b2, b3, b4, b5, b6⟩ := k_plan2 (k_Rp_29 h5 g2 g3) (Int32.ofNat k) v g1
        rw [f_X6_reach_L62, if_neg (by rw [j_lt, e99, j_nat (by omega)]; omega), if_neg cv, b1, Option.bind_some, f_X12_plans_L62, if_neg (by rw [j_le, e100, j_nat (by omega)]; omega), b2, Option.bind_some, j_suc]
        exact ih (by omega) D3 E3 u b3 ⟨fun y hy => (b4.1 y hy).trans (g2.1 y hy), b4.2.trans g2.2⟩ ⟨fun y hy => (b5.1 y hy).trans (g3.1 y hy), b5.2.trans g3.2⟩) (by
      intro fu hfu D2 E2 v g1 g2 g3
      have c : (100 : Int32) ≤ Int32.ofNat 100 := Int32.le_refl _
      have c2 : (99 : Int32) < Int32.ofNat 100 := by decide
      rw [f_X6_reach_L62, if_pos c2, f_X12_plans_L62, if_pos c]
      exact ⟨D2, E2, v, rfl, rfl, g1, g2, g3⟩) am_fu 0 (by omega) (by unfold am_fu; omega) (by unfold am_fu; omega) D1 E1 v a3 a4 a5
  obtain ⟨D3, E3, u, b1, b2, b3, b4, b5⟩ := key
  have b1 : f_X6_reach_L62 am_fu v (0 : Int32) D1 = some (u, D3) := b1
  have b2 : f_X12_plans_L62 am_fu v (0 : Int32) E1 = some (u, E3) := b2
  by_cases cu : u = 0
  · refine ⟨D3, E3, 1, ?_, ?_, Or.inr rfl, b3, b4, b5⟩
    · unfold f_X6_reach
      rw [a1, Option.bind_some]
      dsimp only
      rw [b1, Option.bind_some]
      dsimp only
      rw [if_pos cu]
    · unfold f_X12_plans
      rw [a2, Option.bind_some]
      dsimp only
      rw [b2, Option.bind_some]
      dsimp only
      rw [if_pos cu]
  · refine ⟨D3, E3, 0, ?_, ?_, Or.inl rfl, b3, b4, b5⟩
    · unfold f_X6_reach
      rw [a1, Option.bind_some]
      dsimp only
      rw [b1, Option.bind_some]
      dsimp only
      rw [if_neg cu]
    · unfold f_X12_plans
      rw [a2, Option.bind_some]
      dsimp only
      rw [b2, Option.bind_some]
      dsimp only
      rw [if_neg cu]
theorem k_Q_29 {D E D2 E2 : am_D} (h : k_Q D E) (hD : k_f29 D D2) (hE : k_f204 E E2) : k_Q D2 E2 := k_Q_sc h (fun y h1 h2 => hD.1 y h2) ⟨fun y hy => hE.1 y (by omega), fun j hj => by rw [hE.1 117 (by omega)], fun y _ => ⟨by rw [hE.1 221 (by omega)], by rw [hE.1 222 (by omega)]⟩, fun y _ => by rw [hE.1 223 (by omega)], fun q _ hq k y hk _ => by rw [hE.1 _ (by omega)]⟩
theorem k_weights {D E : am_D} {np : Nat} (h5 : k_Rp D E np) (hl : k_ln D E np) : ∃ v, f_X6_weightTogether D = some v ∧ f_X12_planned_L74 E am_fu 0 0 = some v := by
  have e10 : (10 : Int32).toInt = 10 := rfl
  have hnp := h5.1
  have key := k_ind (P := fun fu k => ∀ v, ∃ w, f_X6_weightTogether_L4 D fu v (Int32.ofNat k) = some w ∧ f_X12_planned_L74 E fu v (Int32.ofNat k) = some w) np
    (by
      intro fu k hk ih v
      obtain ⟨n, w', a, b, x1, x2, x3, x4, x5, y1, y2, y3, y4, z1, z2, z3, z4⟩ := k_prtN h5 hk
      have p0 : ∀ (X : am_D) (y : Nat), am_gI X y 4 (0 : Int32) = some (X.1 y 0) := fun X y => k_g (k := 0) (by omega) (by omega)
      have p1 : ∀ (X : am_D) (y : Nat), am_gI X y 4 (1 : Int32) = some (X.1 y 1) := fun X y => k_g (k := 1) (by omega) (by omega)
      obtain ⟨l1, l2, l3⟩ := hl k hk
      have hc : f_X6_weightTogether_L4 D (fu + 1) v (Int32.ofNat k) = f_X6_weightTogether_L4 D fu (v + (Int32.ofNat w' * am_ab (D.1 29 k - Int32.ofNat n))) (Int32.ofNat (k + 1)) := by
        rw [f_X6_weightTogether_L4, h5.2.1, if_neg (by rw [j_le, j_nat (by omega), j_nat (by omega)]; omega), if_neg (by rw [j_le, j_nat (by omega), e10]; omega), k_g (by omega) (by omega), y2, Option.bind_some, k_g (by omega) (by omega), Option.bind_some, k_g (by omega) (by omega), y1, Option.bind_some, k_cfar, Option.bind_some, j_suc]
      have hr : f_X12_planned_L74 E (fu + 1) v (Int32.ofNat k) = f_X12_planned_L74 E fu (v + (Int32.ofNat w' * am_ab (D.1 29 k - Int32.ofNat n))) (Int32.ofNat (k + 1)) := by
        rw [f_X12_planned_L74, h5.2.2.1, if_neg (by rw [j_le, j_nat (by omega), j_nat (by omega)]; omega), k_a (by omega) (by omega), Option.bind_some, p1, z2, Option.bind_some, k_g (by omega) (by omega), ← l1, Option.bind_some, Option.bind_some, p0, z1, Option.bind_some, k_amount, Option.bind_some, j_suc]
      rw [hc, hr]
      exact ih _) (by
      intro fu v
      rw [f_X6_weightTogether_L4, f_X12_planned_L74, h5.2.1, h5.2.2.1, if_pos (Int32.le_refl _), if_pos (Int32.le_refl _)]
      exact ⟨v, rfl, rfl⟩) am_fu 0 (by omega) (by unfold am_fu; omega) 0
  obtain ⟨v, k1, k2⟩ := key
  have k1 : f_X6_weightTogether_L4 D am_fu 0 (0 : Int32) = some v := k1
  refine ⟨v, ?_, k2⟩
  unfold f_X6_weightTogether
  rw [k1, Option.bind_some]
theorem op_planned {D E : am_D} (h : k_Q D E) (a p : Int32) : k_opE D E (f_X11_planned a p D) (f_X12_planned a p E) ["java/lang/IllegalArgumentException"] := by
  obtain ⟨E0, hE0, t0, f0, q0⟩ := k_start h
  have q0' := q0
  obtain ⟨ns, nm, nw, np, nh, ni, h1, h2, h3, h4, h5, h6, h7, h8, h9⟩ := q0'

  have e0 : (0 : Int32).toInt = 0 := rfl
  have em1 : (-1 : Int32).toInt = -1 := rfl
  have e10 : (10 : Int32).toInt = 10 := rfl
  have e12 : (12000 : Int32).toInt = 12000 := rfl
  have hnp := h5.1
  unfold f_X12_planned f_X11_planned
  rw [k_cwithin, e0, e12, Option.bind_some]
  by_cases c : 0 ≤ a.toInt ∧ a.toInt ≤ 12000
  · have hr : ∀ (X : Int32 × am_D → Option (Int32 × am_D)), ((some (am_wI E 117 0 0)).bind fun D1 => (f_X12_in a (0 : Int32) (12000 : Int32)).bind fun x4 => (if x4 = 0 then some ((1 : Int32)) else some ((0 : Int32))).bind fun w7 => (f_X12_bad w7 (1 : Int32) D1).bind X) = X (0, E0) := by
      intro X
      rw [Option.bind_some, ← hE0, k_in, e0, e12, Option.bind_some, if_pos c, k_nT E0 1 t0]
    rw [hr, if_pos rfl, if_pos c, k_needT]
    dsimp only
    obtain ⟨D2, E2, v, v1, v2, v3, v4, v5, v6⟩ := k_reach h5 a
    have h52 := k_Rp_29 h5 v5 v6
    have hin : f_X11_within p (-1) (D.1 24 5 - 1) = some (if -1 ≤ p.toInt ∧ p.toInt < np then 1 else 0) := by
      rw [k_cwithin, em1, h5.2.1, j_pred np (by omega)]
      by_cases cp : -1 ≤ p.toInt ∧ p.toInt < np
      · rw [if_pos cp, if_pos (by omega)]
      · rw [if_neg cp, if_neg (by omega)]
    have hin2 : f_X12_in p (-1) (E2.1 117 21 - 1) = some (if -1 ≤ p.toInt ∧ p.toInt < np then 1 else 0) := by
      rw [k_in, em1, h52.2.2.1, j_pred np (by omega)]
      by_cases cp : -1 ≤ p.toInt ∧ p.toInt < np
      · rw [if_pos cp, if_pos (by omega)]
      · rw [if_neg cp, if_neg (by omega)]
    have fin : ∀ (D3 E3 : am_D), k_f29 D D3 → k_f204 E0 E3 → ∀ u : Int32, k_opE D E (some (.inr (u, D3))) (some (u, E3)) ["java/lang/IllegalArgumentException"] := fun D3 E3 f1 f2 u =>
      k_valE u (k_Q_29 q0 f1 f2) (by rw [f2.1 117 (by omega)]; exact t0) (k_fr_trans f0 (fun y hy => ⟨f2.1 y (by omega), by rw [f2.2]⟩)) (fun y hy => ⟨f1.1 y (by omega), by rw [f1.2]⟩) rfl rfl
    rw [hin, Option.bind_some, v1, v2]
    have b2 : ((some (v, E2)) : Option (Int32 × am_D)).bind (fun x12 => if x12.1 = 0 then some ((-5000 : Int32), x12.2) else (f_X12_in p (-1 : Int32) ((x12.2.1 117 21) - (1 : Int32))).bind fun x15 => if x15 = 0 then some ((-5000 : Int32), x12.2) else if p = (-1 : Int32) then (f_X12_planned_L74 x12.2 am_fu (0 : Int32) (0 : Int32)).bind fun e31 => some (e31, x12.2) else (am_gI x12.2 204 10 p).bind fun x33 => some (x33, x12.2)) = if v = 0 then some (-5000, E2) else if -1 ≤ p.toInt ∧ p.toInt < np then if p = (-1 : Int32) then (f_X12_planned_L74 E2 am_fu (0 : Int32) (0 : Int32)).bind fun e31 => some (e31, E2) else (am_gI E2 204 10 p).bind fun x33 => some (x33, E2) else some (-5000, E2) := by
      rw [Option.bind_some]
      dsimp only
      by_cases cv : v = 0
      · rw [if_pos cv, if_pos cv]
      · rw [if_neg cv, if_neg cv, hin2, Option.bind_some]
        by_cases cp : -1 ≤ p.toInt ∧ p.toInt < np
        · rw [if_pos cp, if_pos cp, if_neg k_10]
        · rw [if_neg cp, if_neg cp, if_pos rfl]
    rw [b2]
    by_cases cp : -1 ≤ p.toInt ∧ p.toInt < np
    · rw [if_pos cp, if_neg k_10, if_pos cp, Option.bind_some]
      dsimp only
      by_cases cv : v = 0
      · rw [if_pos cv, if_pos cv]
        exact fin D2 E2 v5 v6 _
      · rw [if_neg cv, if_neg cv]
        by_cases cm : p = -1
        · obtain ⟨u, u1, u2⟩ := k_weights h52 v4
          rw [if_pos cm, if_pos cm, u1, u2, Option.bind_some, Option.bind_some]
          exact fin D2 E2 v5 v6 _
        · have cp2 : 0 ≤ p.toInt ∧ p.toInt < np := by
            have := (not_congr (j_eq p (-1))).mp cm
            rw [em1] at this
            omega
          obtain ⟨i, rfl, hi⟩ := k_ix cp2
          have hlen : f_X6_lengthOf (Int32.ofNat i) D2 = some (D2.1 29 i) := by
            unfold f_X6_lengthOf
            rw [h52.2.1, if_neg (by rw [j_lt, j_nat (by omega), e0]; omega), if_neg (by rw [j_le, j_nat (by omega), j_nat (by omega)]; omega), if_neg (by rw [j_le, j_nat (by omega), e10]; omega), k_g (by omega) (by omega), Option.bind_some]
          rw [if_neg cm, if_neg cm, hlen, k_g (by omega) (by omega), ← (v4 i hi).1, Option.bind_some, Option.bind_some]
          exact fin D2 E2 v5 v6 _
    · rw [if_neg cp, if_pos rfl, if_neg cp]
      by_cases cv : v = 0
      · rw [if_pos cv]
        exact fin D E2 ⟨fun _ _ => rfl, rfl⟩ v6 _
      · rw [if_neg cv]
        exact fin D E2 ⟨fun _ _ => rfl, rfl⟩ v6 _
  · rw [Option.bind_some, ← hE0, k_in, e0, e12, Option.bind_some, if_neg c, k_nF E0 1 k_10 t0, if_neg k_10, k_needF]
    exact k_refE 0 0 _ q0 f0 (k_fc_refl D) rfl rfl rfl
