/-! maps of one mark: film, undo -/
def k_c1 (x : Int32) : Int → Int32 := fun k => if k = ((0 : Nat) : Int) then x else 0
theorem k_mv1 {x v : Int32} (hx : 1 ≤ x.toInt ∧ x.toInt ≤ 600) (hv : 1 ≤ v.toInt ∧ v.toInt ≤ 1200) : k_mv 1 (k_c1 x) (k_c1 v) := by
  have e0 : (0 : Int32).toInt = 0 := rfl
  have a : ∀ y : Int32, k_c1 y (-1) = 0 := fun y => by unfold k_c1; rw [if_neg (by omega)]
  have b : ∀ y : Int32, k_c1 y ((0 : Nat) : Int) = y := fun y => by unfold k_c1; rw [if_pos rfl]
  refine ⟨(by omega), (by omega), by rw [a, e0], by rw [a, e0], fun k hk => ?_, ?_, ?_⟩
  · have e : k = 0 := by omega
    subst e
    have e2 : ((0 : Nat) : Int) - 1 = -1 := rfl
    rw [e2, a, a, b, b, e0]
    omega
  · have e : ((1 : Nat) : Int) - 1 = ((0 : Nat) : Int) := rfl
    rw [e, b]
    exact hx.2
  · have e : ((1 : Nat) : Int) - 1 = ((0 : Nat) : Int) := rfl
    rw [e, b]
    exact hv.2
theorem k_oneC {D : am_D} (r : Nat) (x v : Int32) : ∃ D1 D2, f_X9_clear r D = some D1 ∧ f_X9_add r x v D1 = some D2 ∧ j_map D2 r 1 (k_c1 x) (k_c1 v) ∧ (∀ y, y ≠ r → D1.1 y = D.1 y) ∧ (∀ y, (y < r ∨ r + 3 ≤ y) → D2.1 y = D.1 y ∧ D2.2 y = D.2 y) := by
  obtain ⟨D1, d1, d2, d3⟩ := j_map_clear (D := D) r
  obtain ⟨D2, g1, g2, g3⟩ := j_map_add d2 (by omega) x v
  exact ⟨D1, D2, d1, g1, g2, fun y hy => (d3 y hy).1, fun y hy => ⟨by rw [(g3 y (by omega)).1, (d3 y (by omega)).1], by rw [(g3 y (by omega)).2, (d3 y (by omega)).2]⟩⟩
theorem k_oneR {E : am_D} {nm : Nat} (x v : Int32) (h13 : E.1 117 13 = Int32.ofNat nm) (hnm : nm < 5) :
    ∃ E2, f_X12_oneMark x v E = some (Int32.ofNat nm, E2) ∧ k_rm E2 nm 1 (k_c1 x) (k_c1 v) ∧ (∀ j, j ≠ nm → E2.1 201 j = E.1 201 j) ∧ E2.1 117 13 = Int32.ofNat (nm + 1) ∧ (∀ j, j ≠ 13 → E2.1 117 j = E.1 117 j) ∧ (∀ y, y ≠ 117 → y ≠ 121 → y ≠ 201 → (y < 141 + 12 * nm ∨ 153 + 12 * nm ≤ y) → E2.1 y = E.1 y) ∧ E2.2 = E.2 := by
  obtain ⟨E1, hE1⟩ : ∃ E1, E1 = am_wI (am_wI E 121 0 x) 121 1 v := ⟨_, rfl⟩
  have g : ∀ y, y ≠ 121 → E1.1 y = E.1 y := fun y hy => by rw [hE1, j_wI_ne _ _ _ hy, j_wI_ne _ _ _ hy]
  obtain ⟨E2, a1, a2, a3, a4, a5, a6, a7⟩ := k_keepsM (E := E1) (n := 1) (nm := nm) (f := k_c1 x) (t := k_c1 v) (fun k hk => by
    have e : k = 0 := by omega
    subst e
    rw [hE1, k_wj _ _ (by decide), k_ws, k_ws]
    unfold k_c1
    rw [if_pos rfl, if_pos rfl]
    exact ⟨rfl, rfl⟩) (by omega) (by rw [g 117 (by omega)]; exact h13) hnm
  refine ⟨E2, ?_, a2, fun j hj => by rw [a3 j hj, g 201 (by omega)], a4, fun j hj => by rw [a5 j hj, g 117 (by omega)], fun y y1 y2 y3 y4 => by rw [a6 y y1 y3 y4, g y y2], by rw [a7, hE1]; rfl⟩
  unfold f_X12_oneMark
  have z12 : am_gA 12 (0 : Int32) = some 0 := k_a (k := 0) (by omega) (by omega)
  have q0 : ∀ (X : am_D) (y : Nat) (v : Int32), am_pI X y 2 (0 : Int32) v = some (am_wI X y 0 v) := fun X y v => k_p (k := 0) v (by omega) (by omega)
  have q1 : ∀ (X : am_D) (y : Nat) (v : Int32), am_pI X y 2 (1 : Int32) v = some (am_wI X y 1 v) := fun X y v => k_p (k := 1) v (by omega) (by omega)
  have a1 : f_X12_keepsMap (1 : Int32) E1 = some (Int32.ofNat nm, E2) := a1
  rw [z12, Option.bind_some, q0, Option.bind_some, Option.bind_some, q1, Option.bind_some, ← hE1, a1, Option.bind_some]
/-- a map of one mark is kept: the worlds behind it are related -/
theorem k_addOne {D E D1 D2 E2 : am_D} {ns nm nw np nh ni : Nat} {x v : Int32} (h1 : k_Rs D E ns) (h2 : k_Rm D E nm) (h3 : k_Rn D E) (h4 : k_Rw D E nw) (h5 : k_Rp D E np) (h6 : k_Rh D E nh) (h7 : k_Ri D E ni (k_cn ns nm nw np nh)) (h8 : k_Rd D E) (h9 : k_Rt D E) (hnm : nm < 5) (hv : k_mv 1 (k_c1 x) (k_c1 v))
    (hm : j_map D1 (40 + 3 * nm) 1 (k_c1 x) (k_c1 v)) (hD : ∀ y, y < 81 ∧ (y < 40 + 3 * nm ∨ 43 + 3 * nm ≤ y) → D1.1 y = D.1 y) (hD2 : D2 = am_wI D1 17 8 (Int32.ofNat (nm + 1)))
    (a2 : k_rm E2 nm 1 (k_c1 x) (k_c1 v)) (a3 : ∀ j, j ≠ nm → E2.1 201 j = E.1 201 j) (a4 : E2.1 117 13 = Int32.ofNat (nm + 1)) (a5 : ∀ j, j ≠ 13 → E2.1 117 j = E.1 117 j) (a6 : ∀ y, y ≠ 117 → y ≠ 121 → y ≠ 2631 → y ≠ 201 → (y < 141 + 12 * nm ∨ 153 + 12 * nm ≤ y) → E2.1 y = E.1 y) : k_Q D2 E2 := by
  have d17 : D1.1 17 = D.1 17 := hD 17 (by omega)
  have dD : ∀ y, y < 81 ∧ y ≠ 17 ∧ (y < 40 + 3 * nm ∨ 43 + 3 * nm ≤ y) → D2.1 y = D.1 y := fun y hy => by rw [hD2, j_wI_ne _ _ _ (by omega), hD y (by omega)]
  refine k_addM (n := 1) (f := k_c1 x) (t := k_c1 v) h1 h2 h3 h4 h5 h6 h7 h8 (k_Rt_mv h9 (dD _ (by omega)) (dD _ (by omega)) (a5 1 (by omega)) (a5 3 (by omega)) (a6 118 (by omega) (by omega) (by omega) (by omega) (by omega))) hnm hv (j_map_fr hm ?_ ?_ ?_) ?_ ?_ (fun y hy => dD y (by omega)) a4 (fun j hj => a5 j (by omega)) a2 a3 (fun y hy => a6 y (by omega) (by omega) (by omega) (by omega) (by omega))
  · rw [hD2, j_wI_ne _ _ _ (by omega)]
  · rw [hD2, j_wI_ne _ _ _ (by omega)]
  · rw [hD2, j_wI_ne _ _ _ (by omega)]
  · rw [hD2, k_ws]
  · intro j hj
    rw [hD2, k_wj _ _ hj, d17]
theorem op_film {D E : am_D} (h : k_Q D E) (p a b : Int32) : k_opE D E (f_X11_film p a b D) (f_X12_film p a b E) ["java/util/NoSuchElementException", "java/lang/IllegalArgumentException"] := by
  obtain ⟨E0, hE0, t0, f0, q0⟩ := k_start h
  have q0' := q0
  obtain ⟨ns, nm, nw, np, nh, ni, h1, h2, h3, h4, h5, h6, h7, h8, h9⟩ := q0'

  have hns := h1.1
  have hnm := h2.1
  have e1 : (1 : Int32).toInt = 1 := rfl
  have e5 : (5 : Int32).toInt = 5 := rfl
  have e99 : (99 : Int32).toInt = 99 := rfl
  have e1200 : (1200 : Int32).toInt = 1200 := rfl
  by_cases c : 0 ≤ p.toInt ∧ p.toInt < ns
  · obtain ⟨i, rfl, hi⟩ := k_ix c
    obtain ⟨n, g, b1, b2, b3, b4, b5, b6⟩ := h1.2.2.2 i hi
    have chk : ∀ F : Int32 → Int32 → Int32 → Option Int32, (∀ x a b : Int32, F x a b = some (if a.toInt ≤ x.toInt ∧ x.toInt ≤ b.toInt then 1 else 0)) → ∀ y z : Int32, ((F a 1 1200).bind fun x2 => if x2 = 0 then some y else (F b 1 99).bind fun x5 => if x5 = 0 then some y else some z) = some (if (1 ≤ a.toInt ∧ a.toInt ≤ 1200) ∧ (1 ≤ b.toInt ∧ b.toInt ≤ 99) then z else y) := by
      intro F hF y z
      rw [hF, hF, e1, e99, e1200, Option.bind_some]
      by_cases c1 : 1 ≤ a.toInt ∧ a.toInt ≤ 1200
      · rw [if_pos c1, if_neg k_10, Option.bind_some]
        by_cases c2 : 1 ≤ b.toInt ∧ b.toInt ≤ 99
        · rw [if_pos c2, if_neg k_10, if_pos ⟨c1, c2⟩]
        · rw [if_neg c2, if_pos rfl, if_neg (fun z => c2 z.2)]
      · rw [if_neg c1, if_pos rfl, if_neg (fun z => c1 z.1)]
    have cls : f_X11_film (Int32.ofNat i) a b D = ((f_X11_within a 1 1200).bind fun x2 => if x2 = 0 then some 0 else (f_X11_within b 1 99).bind fun x5 => if x5 = 0 then some 0 else some 1).bind fun w10 => am_btD (f_X11_need w10) D fun x12 => am_bn (f_X1_freeMap D) (fun x14 => if (a * b) ≤ (1200 : Int32) then (f_X9_clear x14 D).bind fun x17 => (f_X9_add x14 (x17.1 (30 + 2 * i) 1) (a * b) x17).bind fun x19 => (f_X1_takeMap x19).bind fun x21 => some (.inr (x21.1, x21.2)) else some (.inr ((-2 : Int32), D))) (some (.inr ((-1 : Int32), D))) := by
      unfold f_X11_film
      rw [k_soT h1.2.1 h1.1 hi, k_btR, Option.bind_assoc]
    have ref : f_X12_film (Int32.ofNat i) a b E = ((f_X12_in a 1 1200).bind fun x2 => if x2 = 0 then some 1 else (f_X12_in b 1 99).bind fun x5 => if x5 = 0 then some 1 else some 0).bind fun w18 => (f_X12_bad w18 (2 : Int32) E0).bind fun x20 => if x20.1 = 0 then if (x20.2.1 117 13) = (5 : Int32) then some ((-1 : Int32), x20.2) else if (a * b) ≤ (1200 : Int32) then (am_gI x20.2 139 5 (Int32.ofNat i)).bind fun x24 => (f_X12_oneMark x24 (a * b) x20.2).bind fun x27 => some (x27.1, x27.2) else some ((-2 : Int32), x20.2) else some ((0 : Int32), x20.2) := by
      unfold f_X12_film
      rw [Option.bind_some, ← hE0, k_isS _ h1.2.2.1 h1.1, Option.bind_some, if_pos c, k_nT E0 1 t0, if_pos rfl, Option.bind_assoc]
    rw [cls, ref, chk _ k_cwithin, chk _ k_in, Option.bind_some, Option.bind_some]
    by_cases cc : (1 ≤ a.toInt ∧ a.toInt ≤ 1200) ∧ (1 ≤ b.toInt ∧ b.toInt ≤ 99)
    · rw [if_pos cc, if_pos cc, k_needT, k_b0 t0, Option.bind_some, if_pos rfl, k_freeM h2.2.1 hnm]
      dsimp only
      rw [h2.2.2.1]
      have m := k_mul_bd (a := a.toInt) (b := b.toInt) (c := 1200) (d := 99) (by omega) (by omega) (by omega) (by omega)
      have m1 := Int.mul_le_mul (a := 1) (b := 1) (c := a.toInt) (d := b.toInt) cc.1.1 cc.2.1 (by omega) (by omega)
      have em : (a * b).toInt = a.toInt * b.toInt := by rw [k_M]; omega
      by_cases cm : nm < 5
      · rw [if_pos cm, if_neg (by rw [j_eq, j_nat (by omega), e5]; omega)]
        show k_opE D E (if (a * b) ≤ (1200 : Int32) then _ else _) _ _
        by_cases cl : a * b ≤ 1200
        · rw [if_pos cl, if_pos cl]
          rw [j_le, em, e1200] at cl
          obtain ⟨D1, D2, d1, d2, d3, d4, d5⟩ := k_oneC (D := D) (40 + 3 * nm) (Int32.ofNat n) (a * b)
          obtain ⟨E2, a1, a2, a3, a4, a5, a6, a7⟩ := k_oneR (E := E0) (Int32.ofNat n) (a * b) h2.2.2.1 cm
          have hr1 : D1.1 (30 + 2 * i) 1 = Int32.ofNat n := by rw [d4 _ (by omega)]; exact b3.2.2.1
          rw [d1, Option.bind_some, hr1, d2, Option.bind_some, k_takeM (by rw [(d5 17 (by omega)).1]; exact h2.2.1), Option.bind_some, k_g (by omega) (by omega), b4, Option.bind_some, a1, Option.bind_some]
          refine k_valE _ (k_addOne (x := Int32.ofNat n) (v := a * b) (D1 := D2) h1 h2 h3 h4 h5 h6 h7 h8 h9 cm (k_mv1 (by rw [j_nat (by omega)]; omega) (by rw [em]; omega)) d3 (fun y hy => (d5 y (by omega)).1) rfl a2 a3 a4 a5 (fun y y1 y2 _ y3 y4 => a6 y y1 y2 y3 y4)) (by rw [a5 0 (by omega)]; exact t0) (k_fr_trans f0 (fun y hy => ⟨a6 y (by omega) (by omega) (by omega) (by omega), by rw [a7]⟩)) (fun y hy => ⟨by rw [j_wI_ne _ _ _ (by omega), (d5 y (by omega)).1], (d5 y (by omega)).2⟩) rfl rfl
        · rw [if_neg cl, if_neg cl]
          exact k_valE _ q0 t0 f0 (k_fc_refl D) rfl rfl
      · rw [if_neg cm, if_pos (by rw [j_eq, j_nat (by omega), e5]; omega)]
        exact k_valE _ q0 t0 f0 (k_fc_refl D) rfl rfl
    · rw [if_neg cc, if_neg cc, k_needF, k_b1 t0 2 (by decide), Option.bind_some, if_neg k_10]
      exact k_refE 0 1 _ q0 f0 (k_fc_refl D) rfl rfl rfl
  · unfold f_X12_film f_X11_film
    rw [k_soF h1.2.1 h1.1 c, k_btL, Option.bind_some, ← hE0, k_isS _ h1.2.2.1 h1.1, Option.bind_some, if_neg c, k_nF E0 1 k_10 t0, if_neg k_10]
    exact k_refE 0 0 _ q0 f0 (k_fc_refl D) rfl rfl rfl
