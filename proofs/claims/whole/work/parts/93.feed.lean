/-! feed -/
theorem k_255 : ∀ i : Fin 32, 8 ≤ i.1 → (255#32).getLsbD i.1 = false := by decide
theorem k_byte0 (x : BitVec 32) (s i : Nat) (hi : i < 32) (hs : s ≤ 24) : (x.getLsbD (s + i) && (255#32).getLsbD i) = ((!decide (32 ≤ i) && if s + i < 32 then x.getLsbD (s + i) else x.msb) && (255#32).getLsbD i) := by
  by_cases c : 8 ≤ i
  · rw [k_255 ⟨i, hi⟩ c, Bool.and_false, Bool.and_false]
  · rw [if_pos (by omega), decide_eq_false (by omega)]
    rfl
theorem k_byte (q : Int32) (s : Nat) (hs : s = 0 ∨ s = 8 ∨ s = 16 ∨ s = 24) : ((q.toUInt32 >>> ((Int32.ofNat s).toUInt32 &&& Int32.toUInt32 31)).toInt32 &&& (255 : Int32)) = ((q >>> ((Int32.ofNat s) &&& 31)) &&& (255 : Int32)) := by
  apply Int32.toBitVec_inj.1
  rcases hs with rfl | rfl | rfl | rfl
  · apply BitVec.eq_of_getLsbD_eq
    intro i hi
    simp [BitVec.getLsbD_sshiftRight]
  · apply BitVec.eq_of_getLsbD_eq
    intro i hi
    simp [BitVec.getLsbD_sshiftRight]
    exact k_byte0 _ 8 i hi (by omega)
  · apply BitVec.eq_of_getLsbD_eq
    intro i hi
    simp [BitVec.getLsbD_sshiftRight]
    exact k_byte0 _ 16 i hi (by omega)
  · apply BitVec.eq_of_getLsbD_eq
    intro i hi
    simp [BitVec.getLsbD_sshiftRight]
    exact k_byte0 _ 24 i hi (by omega)
/-- tapes alike -/
def k_tw (D E : am_D) (tp : Nat) : Prop := D.1 69 1 = Int32.ofNat tp ∧ E.1 117 1 = Int32.ofNat tp ∧ ∀ k, k < tp → D.1 70 k = E.1 118 k
def k_tf (D D2 E E2 : am_D) : Prop := (∀ y, y ≠ 69 → y ≠ 70 → D2.1 y = D.1 y) ∧ (∀ j, j ≠ 1 → D2.1 69 j = D.1 69 j) ∧ D2.2 = D.2 ∧ (∀ y, y ≠ 117 → y ≠ 118 → E2.1 y = E.1 y) ∧ (∀ j, j ≠ 1 → E2.1 117 j = E.1 117 j) ∧ E2.2 = E.2
theorem k_tf_refl (D E : am_D) : k_tf D D E E := ⟨fun _ _ _ => rfl, fun _ _ => rfl, rfl, fun _ _ _ => rfl, fun _ _ => rfl, rfl⟩
theorem k_tf_trans {D D2 D3 E E2 E3 : am_D} (h : k_tf D D2 E E2) (g : k_tf D2 D3 E2 E3) : k_tf D D3 E E3 :=
  ⟨fun y a b => (g.1 y a b).trans (h.1 y a b), fun j a => (g.2.1 j a).trans (h.2.1 j a), g.2.2.1.trans h.2.2.1, fun y a b => (g.2.2.2.1 y a b).trans (h.2.2.2.1 y a b), fun j a => (g.2.2.2.2.1 j a).trans (h.2.2.2.2.1 j a), g.2.2.2.2.2.trans h.2.2.2.2.2⟩
/-- one byte on both sides -/
theorem k_feed1 {D E : am_D} {tp v s : Nat} {q : Int32} (q1 q2 q3 q4 q5 : Int32) (h : k_tw D E tp) (htp : tp < 300) (hs : s = 0 ∨ s = 8 ∨ s = 16 ∨ s = 24) (hv : v < 20) (hvs : s + 8 * (v % 4) = 24)
    (hsel : (if (4 : Int32) ≤ Int32.ofNat v then if (8 : Int32) ≤ Int32.ofNat v then if (12 : Int32) ≤ Int32.ofNat v then if (16 : Int32) ≤ Int32.ofNat v then some q5 else some q4 else some q3 else some q2 else some q1) = some q) :
    ∃ D2 E2, (∀ fu, f_X8_addNumber_L3 q (fu + 1) (Int32.ofNat s) D = f_X8_addNumber_L3 q fu (Int32.ofNat s + (-8 : Int32)) D2) ∧ (∀ fu, f_X12_feed_L23 q1 q2 q3 q4 q5 (fu + 1) (Int32.ofNat v) E = f_X12_feed_L23 q1 q2 q3 q4 q5 fu (Int32.ofNat (v + 1)) E2) ∧ k_tw D2 E2 (tp + 1) ∧ k_tf D D2 E E2 := by
  obtain ⟨t1, t2, t3⟩ := h
  have e0 : (0 : Int32).toInt = 0 := rfl
  have e20 : (20 : Int32).toInt = 20 := rfl
  have e300 : (300 : Int32).toInt = 300 := rfl
  obtain ⟨b, hb⟩ : ∃ b, b = ((q >>> ((Int32.ofNat s) &&& 31)) &&& (255 : Int32)) := ⟨_, rfl⟩
  have hb1 : ((q.toUInt32 >>> ((Int32.ofNat s).toUInt32 &&& Int32.toUInt32 31)).toInt32 &&& (255 : Int32)) = b := by rw [hb]; exact k_byte q s hs
  have e8 : (24 : Int32) - (8 : Int32) * Int32.ofNat (v % 4) = Int32.ofNat s := by
    have m : (8 : Int32) * Int32.ofNat (v % 4) = Int32.ofNat (8 * (v % 4)) := (Int32.ofNat_mul 8 (v % 4)).symm
    have e24 : (24 : Int32).toInt = 24 := rfl
    rw [m, j_eq, k_S, j_nat (by omega), j_nat (by omega), e24]
    omega
  have erm : am_rm (Int32.ofNat v) (4 : Int32) = some (Int32.ofNat (v % 4)) := k_rmN (x := v) (y := 4) (by omega) (by omega) (by omega)
  refine ⟨am_wI (am_wI D 70 tp b) 69 1 (Int32.ofNat (tp + 1)), am_wI (am_wI E 118 tp b) 117 1 (Int32.ofNat (tp + 1)), fun fu => ?_, fun fu => ?_, ⟨?_, ?_, fun k hk => ?_⟩, ?_⟩
  · rw [f_X8_addNumber_L3, if_neg (by rw [j_lt, j_nat (by omega), e0]; omega), t1, if_neg (by rw [j_lt, j_nat (by omega), e0]; omega), if_neg (by rw [j_le, j_nat (by omega), e300]; omega), hb1, k_p _ (by omega) (by omega), Option.bind_some, j_wI_ne _ _ _ (by omega), t1, j_suc, Option.bind_some, Option.bind_some]
  · rw [f_X12_feed_L23, if_neg (by rw [j_le, j_nat (by omega), e20]; omega), hsel, Option.bind_some, erm, Option.bind_some, e8, ← hb, t2, k_p _ (by omega) (by omega), Option.bind_some, j_wI_ne _ _ _ (by omega), t2, j_suc, Option.bind_some, j_suc]
  · rw [k_ws]
  · rw [k_ws]
  · rw [j_wI_ne _ _ _ (by omega), j_wI_at, j_wI_ne _ _ _ (by omega), j_wI_at]
    by_cases ck : k = tp
    · rw [if_pos ck, if_pos ck]
    · rw [if_neg ck, if_neg ck]
      exact t3 k (by omega)
  · refine ⟨fun y a b => by rw [j_wI_ne _ _ _ a, j_wI_ne _ _ _ b], fun j a => by rw [k_wj _ _ a, j_wI_ne _ _ _ (by omega)], rfl, fun y a b => by rw [j_wI_ne _ _ _ a, j_wI_ne _ _ _ b], fun j a => by rw [k_wj _ _ a, j_wI_ne _ _ _ (by omega)], rfl⟩
theorem k_feed4 {D E : am_D} {tp m : Nat} {q : Int32} (q1 q2 q3 q4 q5 : Int32) (h : k_tw D E tp) (htp : tp + 4 ≤ 300) (hm : m < 5)
    (hsel : ∀ j, j < 4 → (if (4 : Int32) ≤ Int32.ofNat (4 * m + j) then if (8 : Int32) ≤ Int32.ofNat (4 * m + j) then if (12 : Int32) ≤ Int32.ofNat (4 * m + j) then if (16 : Int32) ≤ Int32.ofNat (4 * m + j) then some q5 else some q4 else some q3 else some q2 else some q1) = some q) :
    ∃ D2 E2, f_X8_addNumber q D = some D2 ∧ (∀ fu, f_X12_feed_L23 q1 q2 q3 q4 q5 (fu + 4) (Int32.ofNat (4 * m)) E = f_X12_feed_L23 q1 q2 q3 q4 q5 fu (Int32.ofNat (4 * (m + 1))) E2) ∧ k_tw D2 E2 (tp + 4) ∧ k_tf D D2 E E2 := by
  obtain ⟨D1, E1, a1, a2, a3, a4⟩ := k_feed1 (s := 24) q1 q2 q3 q4 q5 h (by omega) (by omega) (show 4 * m + 0 < 20 by omega) (by omega) (hsel 0 (by omega))
  obtain ⟨D2, E2, b1, b2, b3, b4⟩ := k_feed1 (s := 16) q1 q2 q3 q4 q5 a3 (by omega) (by omega) (show 4 * m + 1 < 20 by omega) (by omega) (hsel 1 (by omega))
  obtain ⟨D3, E3, c1, c2, c3, c4⟩ := k_feed1 (s := 8) q1 q2 q3 q4 q5 b3 (by omega) (by omega) (show 4 * m + 2 < 20 by omega) (by omega) (hsel 2 (by omega))
  obtain ⟨D4, E4, d1, d2, d3, d4⟩ := k_feed1 (s := 0) q1 q2 q3 q4 q5 c3 (by omega) (by omega) (show 4 * m + 3 < 20 by omega) (by omega) (hsel 3 (by omega))
  refine ⟨D4, E4, ?_, fun fu => ?_, d3, k_tf_trans (k_tf_trans (k_tf_trans a4 b4) c4) d4⟩
  · have e1 : Int32.ofNat 24 + (-8 : Int32) = Int32.ofNat 16 := (by decide)
    have e2 : Int32.ofNat 16 + (-8 : Int32) = Int32.ofNat 8 := (by decide)
    have e3 : Int32.ofNat 8 + (-8 : Int32) = Int32.ofNat 0 := (by decide)
    have e4 : Int32.ofNat 0 + (-8 : Int32) < 0 := (by decide)
    have key : f_X8_addNumber_L3 q (4995 + 1 + 1 + 1 + 1 + 1) (Int32.ofNat 24) D = some D4 := by
      rw [a1, e1, b1, e2, c1, e3, d1, f_X8_addNumber_L3, if_pos e4]
    have key : f_X8_addNumber_L3 q am_fu (24 : Int32) D = some D4 := key
    unfold f_X8_addNumber
    rw [key, Option.bind_some]
  · have r1 := a2 (fu + 3)
    have r2 := b2 (fu + 2)
    have r3 := c2 (fu + 1)
    have r4 := d2 fu
    exact r1.trans (r2.trans (r3.trans r4))
theorem op_feed {D E : am_D} (h : k_Q D E) (p1 p2 p3 p4 p5 : Int32) : k_opN D E (f_X11_feed p1 p2 p3 p4 p5 D) (f_X12_feed p1 p2 p3 p4 p5 E) := by
  obtain ⟨E0, hE0, t0, f0, q0⟩ := k_start h
  have q0' := q0
  obtain ⟨ns, nm, nw, np, nh, ni, h1, h2, h3, h4, h5, h6, h7, h8, h9⟩ := q0'

  have h9' := h9
  obtain ⟨tp, u1, u2, u3, u4, u5⟩ := h9'
  have e300 : (300 : Int32).toInt = 300 := rfl
  have e20 : Int32.ofNat tp + (20 : Int32) = Int32.ofNat (tp + 20) := (Int32.ofNat_add tp 20).symm
  unfold f_X12_feed f_X11_feed
  rw [Option.bind_some, ← hE0, u2, u3, e20]
  by_cases c : tp + 20 ≤ 300
  · have c1 : Int32.ofNat (tp + 20) ≤ 300 := by rw [j_le, j_nat (by omega), e300]; omega
    rw [if_pos c1, if_pos c1]
    have sel : ∀ j, j < 4 → j = 0 ∨ j = 1 ∨ j = 2 ∨ j = 3 := fun j hj => by omega
    obtain ⟨D1, E1, a1, a2, a3, a4⟩ := k_feed4 (m := 0) (q := p1) p1 p2 p3 p4 p5 ⟨u2, u3, u4⟩ (by omega) (by omega) (fun j hj => by rcases sel j hj with rfl | rfl | rfl | rfl <;> rfl)
    obtain ⟨D2, E2, b1, b2, b3, b4⟩ := k_feed4 (m := 1) (q := p2) p1 p2 p3 p4 p5 a3 (by omega) (by omega) (fun j hj => by rcases sel j hj with rfl | rfl | rfl | rfl <;> rfl)
    obtain ⟨D3, E3, c1, c2, c3, c4⟩ := k_feed4 (m := 2) (q := p3) p1 p2 p3 p4 p5 b3 (by omega) (by omega) (fun j hj => by rcases sel j hj with rfl | rfl | rfl | rfl <;> rfl)
    obtain ⟨D4, E4, d1, d2, d3, d4⟩ := k_feed4 (m := 3) (q := p4) p1 p2 p3 p4 p5 c3 (by omega) (by omega) (fun j hj => by rcases sel j hj with rfl | rfl | rfl | rfl <;> rfl)
    obtain ⟨D5, E5, x1, x2, x3, x4⟩ := k_feed4 (m := 4) (q := p5) p1 p2 p3 p4 p5 d3 (by omega) (by omega) (fun j hj => by rcases sel j hj with rfl | rfl | rfl | rfl <;> rfl)
    have F := k_tf_trans (k_tf_trans (k_tf_trans (k_tf_trans a4 b4) c4) d4) x4
    obtain ⟨f1, f2, f3, f4, f5, f6⟩ := F
    have key : f_X12_feed_L23 p1 p2 p3 p4 p5 am_fu (0 : Int32) E0 = some E5 := by
      have y1 := a2 4996
      have y2 := b2 4992
      have y3 := c2 4988
      have y4 := d2 4984
      have y5 := x2 4980
      have y6 : f_X12_feed_L23 p1 p2 p3 p4 p5 (4979 + 1) (Int32.ofNat (4 * (4 + 1))) E5 = some E5 := by
        rw [f_X12_feed_L23, if_pos (show (20 : Int32) ≤ Int32.ofNat (4 * (4 + 1)) from (by decide))]
      exact y1.trans (y2.trans (y3.trans (y4.trans (y5.trans y6))))
    rw [a1, Option.bind_some, b1, Option.bind_some, c1, Option.bind_some, d1, Option.bind_some, x1, Option.bind_some, key, Option.bind_some]
    have d17 : ∀ j : Nat, 0 ≤ j → D5.1 17 j = D.1 17 j := fun j _ => by rw [f1 17 (by omega) (by omega)]
    have dD : ∀ y, y ≠ 69 ∧ y ≠ 70 → D5.1 y = D.1 y := fun y hy => f1 y hy.1 hy.2
    have e117 : ∀ j, j ≠ 1 → E5.1 117 j = E0.1 117 j := f5
    have eE : ∀ y, y ≠ 117 ∧ y ≠ 118 → E5.1 y = E0.1 y := fun y hy => f4 y hy.1 hy.2
    refine ⟨D5, E5, Int32.ofNat (tp + 4 + 4 + 4 + 4 + 4), by rw [x3.1], by rw [x3.2.1], ⟨ns, nm, nw, np, nh, ni, k_Rs_mv h1 (d17 7 (by omega)) (e117 12 (by omega)) (fun y a b => dD y (by omega)) (eE _ (by omega)) (fun y a b => eE y (by omega)), k_Rm_mv h2 (d17 8 (by omega)) (e117 13 (by omega)) (fun y a b => dD y (by omega)) (eE _ (by omega)) (fun y a b => eE y (by omega)), k_Rn_mv h3 (dD _ (by omega)) (fun j _ => d17 j (by omega)) (dD _ (by omega)) (fun j a b => e117 j (by omega)) (eE _ (by omega)), k_Rw_mv h4 (d17 9 (by omega)) (e117 20 (by omega)) (fun y a b => dD y (by omega)) (fun y a b => eE y (by omega)), k_Rp_mv h5 (by rw [dD 24 (by omega)]) (e117 21 (by omega)) (fun y a b => dD y (by omega)) (fun y a b => eE y (by omega)), k_Rh_mv h6 (d17 10 (by omega)) (e117 22 (by omega)) (dD _ (by omega)) (eE _ (by omega)), k_Ri_mv h7 (fun _ => Nat.le_refl _) (by rw [dD 16 (by omega)]) (e117 23 (by omega)) (fun y a b => dD y (by omega)) (fun y a b => eE y (by omega)) (fun s hs => by have hs : s < ns := hs; have := h1.1; exact ⟨by rw [eE 139 (by omega)], fun k _ => by rw [eE (134 + s) (by omega)]⟩) (fun m hm => by have hm : m < nm := hm; have := h2.1; exact ⟨by rw [eE 201 (by omega)], fun k j _ _ => by rw [eE _ (by omega)]⟩) (fun w j hw _ => by have hw : w < nw := hw; have := h4.1; rw [eE _ (by omega)]) (fun p j hp _ => by have hp : p < np := hp; have := h5.1; rw [eE _ (by omega)]) (fun z _ => by rw [eE 203 (by omega)]), k_Rd_mv h8 (fun y a b => dD y (by omega)) (fun j a b => e117 j (by omega)) (fun y _ => ⟨by rw [eE 221 (by omega)], by rw [eE 222 (by omega)]⟩) (fun y _ => by rw [eE 223 (by omega)]) (fun q _ hq k y hk _ => by rw [eE (225 + k) (by omega)]), ⟨tp + 4 + 4 + 4 + 4 + 4, (by omega), x3.1, x3.2.1, x3.2.2, ?_⟩⟩, fun y hy => ⟨f1 y (by omega) (by omega), by rw [f3]⟩, k_fr_trans f0 (fun y hy => ⟨f4 y (by omega) (by omega), by rw [f6]⟩)⟩
    rw [f5 3 (by omega), f2 2 (by omega), f2 3 (by omega)]
    exact u5
  · have c1 : ¬ Int32.ofNat (tp + 20) ≤ 300 := by rw [j_le, j_nat (by omega), e300]; omega
    rw [if_neg c1, if_neg c1]
    exact ⟨D, E0, _, rfl, rfl, q0, k_fc_refl D, f0⟩
