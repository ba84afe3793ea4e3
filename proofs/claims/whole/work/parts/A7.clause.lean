/-! a clause, on both sides -/
def k_rest (p1 : Nat) (x2 x4 x6 x8 x10 : Int32) (w34 : am_D) : Option am_D :=
    (if x4 = 0 then
    if x10 = 0 then
    some ((0 : Int32), w34)
    else
    (f_X8_readNumber (4 : Int32) (60 : Int32) w34).bind fun x41 =>
    some (x41.1, x41.2)
    else
    (f_X8_readNumber (4 : Int32) (60 : Int32) w34).bind fun x38 =>
    some (x38.1, x38.2)).bind fun w42 =>
    (if x2 = 0 then
    (f_X8_readNumber (1 : Int32) (2000 : Int32) w42.2).bind fun x46 =>
    some (x46.1, x46.2)
    else
    some ((0 : Int32), w42.2)).bind fun w47 =>
    (if x10 = 0 then
    (f_X8_readMany p1 w47.2).bind fun x51 =>
    some (x51.1, x51.2)
    else
    some ((0 : Int32), w47.2)).bind fun w52 =>
    (if x8 = 0 then
    some ((0 : Int32), w52.2)
    else
    (f_X8_readNumber (0 : Int32) (9999 : Int32) w52.2).bind fun x56 =>
    some (x56.1, x56.2)).bind fun w57 =>
    if (w57.2.1 69 2) = 0 then
    if x10 = 0 then
    if x8 = 0 then
    if x6 = 0 then
    if x4 = 0 then
    (f_X7_addStill p1 w52.1 w57.2).bind fun x64 =>
    some x64
    else
    (f_X7_addWave p1 w42.1 w47.1 w52.1 w57.2).bind fun x66 =>
    some x66
    else
    (f_X7_addBlow p1 w47.1 w52.1 w57.2).bind fun x68 =>
    some x68
    else
    (f_X7_addHiss p1 w47.1 w52.1 w57.1 w57.2).bind fun x70 =>
    some x70
    else
    (f_X7_layHum p1 w42.1 w47.1 w57.2).bind fun x72 =>
    some x72
    else
    some w57.2
def k_rrest (kd : Int32) (w10 : am_D) : Option am_D :=
    if (w10.1 117 5) = 0 then
    (f_X12_skipWord w10).bind fun x13 =>
    (if kd = (1 : Int32) then
    (f_X12_number (4 : Int32) (60 : Int32) x13).bind fun x17 =>
    some (x17.1, x17.2)
    else
    if kd = (4 : Int32) then
    (f_X12_number (4 : Int32) (60 : Int32) x13).bind fun x20 =>
    some (x20.1, x20.2)
    else
    some ((0 : Int32), x13)).bind fun w21 =>
    (if kd ≤ 0 then
    some ((0 : Int32), w21.2)
    else
    (f_X12_number (1 : Int32) (2000 : Int32) w21.2).bind fun x25 =>
    some (x25.1, x25.2)).bind fun w26 =>
    (if (4 : Int32) ≤ kd then
    some ((0 : Int32), w26.2)
    else
    (f_X12_manyHere w26.2).bind fun x30 =>
    some (x30.1, x30.2)).bind fun w31 =>
    (if kd = (3 : Int32) then
    (f_X12_number (0 : Int32) (9999 : Int32) w31.2).bind fun x35 =>
    some (x35.1, x35.2)
    else
    some ((0 : Int32), w31.2)).bind fun w36 =>
    (f_X12_sign (59 : Int32) w36.2).bind fun x38 =>
    (some (am_wI x38 117 7 ((x38.1 117 7) + (1 : Int32)))).bind fun D39 =>
    if (D39.1 117 5) = 0 then
    (if kd = (4 : Int32) then
    (f_X12_clause_L157 kd w21.1 w26.1 w31.1 w36.1 am_fu (0 : Int32) D39).bind fun e53 =>
    some (e53)
    else
    some (D39)).bind fun w55 =>
    (f_X12_clause_L206 kd w21.1 w26.1 w31.1 am_fu w36.1 (0 : Int32) w55).bind fun e78 =>
    some e78
    else
    some D39
    else
    some w10
/-- the world behind the class's word -/
theorem k_cwordR {n a : Nat} {B : Nat → Int32} {D : am_D} (h : k_tc n B D a) (hs : k_P32 (k_by n B a) = false) : ∃ D1, f_X8_readWord D = some D1 ∧ k_tc n B D1 (k_skp k_Pl n B a) ∧ D1.1 69 6 = Int32.ofNat a ∧ D1.1 69 2 = D.1 69 2 ∧ k_wc D D1 := by
  obtain ⟨s1, s2, s3, s4⟩ := k_skp_spec (B := B) k_Pl_1 h.1
  have t0 : k_tc n B (am_wI D 69 6 (Int32.ofNat a)) a := k_tc_mv h (k_wj _ _ (by decide)) (k_wj _ _ (by decide)) (j_wI_ne _ _ _ (by decide))
  refine ⟨am_wI (am_wI D 69 6 (Int32.ofNat a)) 69 4 (Int32.ofNat (k_skp k_Pl n B a)), ?_, k_tc_w t0 s2, by rw [k_wj _ _ (by decide), k_ws], by rw [k_wj _ _ (by decide), k_wj _ _ (by decide)], k_wc_trans (k_wc_w D 6 _ (by omega)) (k_wc_w _ 4 _ (by omega))⟩
  unfold f_X8_readWord
  rw [k_cblank h, k_skp_same k_P32_1 h.1 hs, k_wIs _ _ _ _ h.2.2.2.1, Option.bind_some, h.2.2.2.1, Option.bind_some, k_cletters t0, Option.bind_some]
/-- with a fault nothing more happens -/
theorem k_restko {r : Nat} {x2 x4 x6 x8 x10 : Int32} {W : am_D} (h : ¬ W.1 69 2 = 0) : k_rest r x2 x4 x6 x8 x10 W = some W := by
  have hn : ∀ lo hi, f_X8_readNumber lo hi W = some (0, W) := fun lo hi => by unfold f_X8_readNumber; rw [if_neg h]
  have hm : f_X8_readMany r W = some (0, W) := by
    unfold f_X8_readMany
    rw [hn, Option.bind_some]
    by_cases c : ((0 : Int32), W).2.1 r 1 + ((0 : Int32), W).1 ≤ (600 : Int32)
    · rw [if_pos c]
    · rw [if_neg c, k_cfail0 _ _ h, Option.bind_some]
  have s1 : (if x4 = 0 then if x10 = 0 then some ((0 : Int32), W) else (f_X8_readNumber (4 : Int32) (60 : Int32) W).bind fun x41 => some (x41.1, x41.2) else (f_X8_readNumber (4 : Int32) (60 : Int32) W).bind fun x38 => some (x38.1, x38.2)) = some ((0 : Int32), W) := by
    rw [hn, Option.bind_some]
    by_cases c : x4 = 0
    · rw [if_pos c]
      by_cases c2 : x10 = 0
      · rw [if_pos c2]
      · rw [if_neg c2]
    · rw [if_neg c]
  have s2 : (if x2 = 0 then (f_X8_readNumber (1 : Int32) (2000 : Int32) W).bind fun x46 => some (x46.1, x46.2) else some ((0 : Int32), W)) = some ((0 : Int32), W) := by
    rw [hn, Option.bind_some]
    by_cases c : x2 = 0
    · rw [if_pos c]
    · rw [if_neg c]
  have s3 : (if x10 = 0 then (f_X8_readMany r W).bind fun x51 => some (x51.1, x51.2) else some ((0 : Int32), W)) = some ((0 : Int32), W) := by
    rw [hm, Option.bind_some]
    by_cases c : x10 = 0
    · rw [if_pos c]
    · rw [if_neg c]
  have s4 : (if x8 = 0 then some ((0 : Int32), W) else (f_X8_readNumber (0 : Int32) (9999 : Int32) W).bind fun x56 => some (x56.1, x56.2)) = some ((0 : Int32), W) := by
    rw [hn, Option.bind_some]
    by_cases c : x8 = 0
    · rw [if_pos c]
    · rw [if_neg c]
  unfold k_rest
  rw [s1, Option.bind_some, s2, Option.bind_some, s3, Option.bind_some, s4, Option.bind_some, if_neg h]
theorem k_rrestko {kd : Int32} {W : am_D} (h : ¬ W.1 117 5 = 0) : k_rrest kd W = some W := by
  unfold k_rrest
  rw [if_neg h]
theorem k_endko {W : am_D} (h : ¬ W.1 69 2 = 0) : f_X8_readEnd W = some W := by
  unfold f_X8_readEnd
  rw [if_neg h]
/-- what a clause changes -/
def k_cc (r : Nat) (D D2 : am_D) : Prop := (∀ y, y ≠ 69 → y ≠ r → y ≠ r + 1 → D2.1 y = D.1 y) ∧ (∀ y, y ≠ r → y ≠ r + 1 → D2.2 y = D.2 y) ∧ ∀ j, j ≠ 2 → j ≠ 3 → j ≠ 4 → j ≠ 6 → j ≠ 7 → D2.1 69 j = D.1 69 j
def k_crr (E E2 : am_D) : Prop := (∀ y, y ≠ 117 → y ≠ 119 → E2.1 y = E.1 y) ∧ E2.2 = E.2 ∧ ∀ j, j ≠ 4 → j ≠ 5 → j ≠ 6 → j ≠ 7 → j ≠ 8 → E2.1 117 j = E.1 117 j
theorem k_cc_of {r : Nat} {D D2 : am_D} (h : k_wc D D2) : k_cc r D D2 := ⟨fun y a _ _ => h.1 y a, fun y _ _ => by rw [h.2.1], h.2.2⟩
theorem k_cr_of {E E2 : am_D} (h : k_wr E E2) : k_crr E E2 := ⟨fun y a _ => h.1 y a, h.2.1, fun j a b c _ _ => h.2.2 j a b c⟩
theorem k_cc_trans {r : Nat} {D D2 D3 : am_D} (h : k_cc r D D2) (g : k_cc r D2 D3) : k_cc r D D3 := ⟨fun y a b c => (g.1 y a b c).trans (h.1 y a b c), fun y a b => (g.2.1 y a b).trans (h.2.1 y a b), fun j a b c d e => (g.2.2 j a b c d e).trans (h.2.2 j a b c d e)⟩
theorem k_cr_trans {D D2 D3 : am_D} (h : k_crr D D2) (g : k_crr D2 D3) : k_crr D D3 := ⟨fun y a b => (g.1 y a b).trans (h.1 y a b), g.2.1.trans h.2.1, fun j a b c d e => (g.2.2 j a b c d e).trans (h.2.2 j a b c d e)⟩
/-- both rows made alike so far -/
def k_md (D E : am_D) (r cl : Nat) : Prop := ∃ made g, made ≤ 600 ∧ j_row D r made g ∧ k_arr E 119 made g ∧ E.1 117 8 = Int32.ofNat made ∧ k_bnd g ∧ E.1 117 7 = Int32.ofNat cl ∧ cl ≤ 16
/-- the end of a clause: the rows are made, the sign is read -/
theorem k_tail {n r cl made : Nat} {B : Nat → Int32} {g : Int → Int32} {D E : am_D} (hr : 30 ≤ r ∧ r < 40) (h : k_RR n B D E) (hcl : cl < 16) (h7 : E.1 117 7 = Int32.ofNat cl) (ROWC ROWR : am_D → Option am_D)
    (hc : D.1 69 2 = 0 → ∃ D2, ROWC D = some D2 ∧ made ≤ 600 ∧ j_row D2 r made g ∧ k_bnd g ∧ j_fr (fun q => q = r ∨ q = r + 1) D D2)
    (hrf : D.1 69 2 = 0 → ∀ E1, E1.1 119 = E.1 119 → E1.1 117 8 = E.1 117 8 → ∃ E2, ROWR E1 = some E2 ∧ k_arr E2 119 made g ∧ E2.1 117 8 = Int32.ofNat made ∧ (∀ y, y ≠ 117 → y ≠ 119 → E2.1 y = E1.1 y) ∧ (∀ j, j ≠ 8 → E2.1 117 j = E1.1 117 j) ∧ E2.2 = E1.2) :
    ∃ D2 D3 E3, (if D.1 69 2 = 0 then ROWC D else some D) = some D2 ∧ f_X8_readEnd D2 = some D3 ∧ ((f_X12_sign (59 : Int32) E).bind fun x38 => (some (am_wI x38 117 7 ((x38.1 117 7) + (1 : Int32)))).bind fun D39 => if (D39.1 117 5) = 0 then ROWR D39 else some D39) = some E3 ∧ k_RR n B D3 E3 ∧ k_cc r D D3 ∧ k_crr E E3 ∧ (D3.1 69 2 = 0 → D.1 69 2 = 0 ∧ k_md D3 E3 r (cl + 1)) := by
  obtain ⟨D2, d1, d2⟩ : ∃ D2, (if D.1 69 2 = 0 then ROWC D else some D) = some D2 ∧ k_RR n B D2 E ∧ k_cc r D D2 ∧ D2.1 69 2 = D.1 69 2 ∧ (D.1 69 2 = 0 → made ≤ 600 ∧ j_row D2 r made g ∧ k_bnd g) := by
    by_cases c : D.1 69 2 = 0
    · obtain ⟨D2, e1, e2, e3, e4, e5⟩ := hc c
      have f69 : D2.1 69 = D.1 69 := (e5 69 (by omega)).1
      refine ⟨D2, by rw [if_pos c]; exact e1, ?_, ⟨fun y a b d => (e5 y (by omega)).1, fun y a b => (e5 y (by omega)).2, fun j _ _ _ _ _ => by rw [f69]⟩, by rw [f69], fun _ => ⟨e2, e3, e4⟩⟩
      obtain ⟨a, b, x1, x2, x3⟩ := h
      refine ⟨a, b, k_tc_mv x1 (by rw [f69]) (by rw [f69]) (e5 70 (by omega)).1, x2, ?_⟩
      rw [f69]
      exact x3
    · exact ⟨D, if_neg c, h, ⟨fun _ _ _ _ => rfl, fun _ _ _ => rfl, fun _ _ _ _ _ _ => rfl⟩, rfl, fun q => absurd q c⟩
  obtain ⟨d2, d3, d4, d5⟩ := d2
  obtain ⟨D3, E1, e1, e2, e3, e4, e5, e6⟩ := k_end d2
  have r7 : E1.1 117 7 = Int32.ofNat cl := by rw [e5.2.2 7 (by decide) (by decide) (by decide)]; exact h7
  obtain ⟨E2, hE2⟩ : ∃ X, X = am_wI E1 117 7 (Int32.ofNat (cl + 1)) := ⟨_, rfl⟩
  have s5 : E2.1 117 5 = E1.1 117 5 := by rw [hE2, k_wj _ _ (by decide)]
  have sR : k_RR n B D3 E2 := by
    obtain ⟨a, b, x1, x2, x3⟩ := e3
    refine ⟨a, b, x1, k_tr_mv x2 (by rw [hE2, k_wj _ _ (by decide)]) (by rw [hE2, k_wj _ _ (by decide)]) (by rw [hE2, j_wI_ne _ _ _ (by decide)]), ?_⟩
    rw [s5, hE2, k_wj _ _ (show 6 ≠ 7 by decide)]
    exact x3
  have sC : k_crr E E2 := by
    refine k_cr_trans (k_cr_of e5) ?_
    rw [hE2]
    exact ⟨fun y a _ => j_wI_ne _ _ _ a, rfl, fun j _ _ _ b _ => k_wj _ _ b⟩
  have hcc : k_cc r D D3 := k_cc_trans d3 (k_cc_of e4)
  have s5b : (am_wI E1 117 7 (Int32.ofNat (cl + 1))).1 117 5 = E1.1 117 5 := k_wj _ _ (by decide)
  rw [d1, e2, Option.bind_some, r7, j_suc, Option.bind_some, s5b, ← hE2]
  by_cases c : E1.1 117 5 = 0
  · rw [if_pos c]
    have c3 : D3.1 69 2 = 0 := by
      obtain ⟨a, b, x1, x2, ⟨_, x3, _⟩ | ⟨x3, x4, _⟩⟩ := e3
      · exact x3
      · exact absurd (x4.symm.trans c) x3
    have c0 : D.1 69 2 = 0 := by rw [← d4]; exact e6 c3
    obtain ⟨m1, m2, m3⟩ := d5 c0
    obtain ⟨E3, g1, g2, g3, g4, g5, g6⟩ := hrf c0 E2 (by rw [hE2, j_wI_ne _ _ _ (by decide)]; exact e5.1 119 (by decide)) (by rw [hE2, k_wj _ _ (by decide)]; exact e5.2.2 8 (by decide) (by decide) (by decide))
    refine ⟨D2, D3, E3, rfl, e1, g1, ?_, hcc, k_cr_trans sC ⟨g4, g6, fun j _ _ _ _ a => g5 j a⟩, fun _ => ⟨c0, made, g, m1, j_row_fr m2 (e4.1 r (by omega)) (e4.1 (r + 1) (by omega)), g2, g3, m3, ?_, (by omega)⟩⟩
    · obtain ⟨a, b, x1, x2, x3⟩ := sR
      refine ⟨a, b, x1, k_tr_mv x2 (g5 2 (by decide)) (g5 4 (by decide)) (g4 118 (by decide) (by decide)), ?_⟩
      rw [g5 5 (by decide), g5 6 (by decide)]
      exact x3
    · rw [g5 7 (by decide), hE2, k_ws]
  · rw [if_neg c]
    have c3 : ¬ D3.1 69 2 = 0 := by
      obtain ⟨a, b, x1, x2, ⟨_, _, x3, _⟩ | ⟨x3, _, _⟩⟩ := e3
      · exact absurd x3 c
      · exact x3
    exact ⟨D2, D3, E2, rfl, e1, rfl, sR, hcc, sC, fun q => absurd q c3⟩
theorem k_rest_still {n r cl made : Nat} {B : Nat → Int32} {g : Int → Int32} {D E : am_D} (hr : 30 ≤ r ∧ r < 40) (hrw : j_rw r 600) (h : k_RR n B D E) (hcl : cl < 16) (h7 : E.1 117 7 = Int32.ofNat cl) (hm : made ≤ 600) (hrow : j_row D r made g) (harr : k_arr E 119 made g) (h8 : E.1 117 8 = Int32.ofNat made) (hb : k_bnd g) :
    ∃ D2 D3 E3, k_rest r 1 0 0 0 0 D = some D2 ∧ f_X8_readEnd D2 = some D3 ∧ (∀ W, W.1 117 5 = 0 → f_X12_skipWord W = some E → k_rrest 0 W = some E3) ∧ k_RR n B D3 E3 ∧ k_cc r D D3 ∧ k_crr E E3 ∧ (D3.1 69 2 = 0 → D.1 69 2 = 0 ∧ k_md D3 E3 r (cl + 1)) := by
  obtain ⟨v1, z1, D1, E1, a1, b1, R1, c1', q1', o1⟩ := k_many (r := r) h (by omega) hrow.2.2.1 h8 hm
  have c1 : k_wc D D1 := c1'
  have q1 : k_wr E E1 := q1'
  have nf : D1.1 69 2 = 0 → D.1 69 2 = 0 ∧ z1 = v1 ∧ (1 ≤ v1.toInt ∧ v1.toInt ≤ 300 ∧ made + v1.toInt ≤ 600) := by
    intro q
    have t1 := o1 q
    exact ⟨t1.1, t1.2.1, t1.2.2⟩
  have row1 : j_row D1 r made g := j_row_fr hrow (c1.1 r (by omega)) (c1.1 (r + 1) (by omega))
  have arr1 : ∀ E9 : am_D, E9.1 119 = E1.1 119 → k_arr E9 119 made g := fun E9 q => k_arr_by harr (by rw [q, q1.1 119 (by decide)])
  have n8 : ∀ E9 : am_D, E9.1 117 8 = E1.1 117 8 → E9.1 117 8 = Int32.ofNat made := fun E9 q => by rw [q, q1.2.2 8 (by decide) (by decide) (by decide)]; exact h8
  obtain ⟨D8, D9, E9, y1, y2, y3, y4, y5, y6, y7⟩ := k_tail (made := made + v1.toInt.toNat) (g := k_app made v1.toInt.toNat (fun _ => 0) g) hr R1 hcl (by rw [q1.2.2 7 (by decide) (by decide) (by decide)]; exact h7) (fun X => (f_X7_addStill r v1 X).bind fun x => some x) (fun X => (if (0 : Int32) = (4 : Int32) then (f_X12_clause_L157 0 0 0 z1 0 am_fu (0 : Int32) X).bind fun e53 => some (e53) else some X).bind fun w55 => (f_X12_clause_L206 0 0 0 z1 am_fu 0 (0 : Int32) w55).bind fun e78 => some e78)
    (fun q => by
      obtain ⟨q0, e1, g1⟩ := nf q
      have jN : v1 = Int32.ofNat v1.toInt.toNat := j_of (by omega)
      obtain ⟨D7, w1, w2, w3⟩ := k_addS0 (m := v1.toInt.toNat) hrw row1 (by omega)
      rw [← jN] at w1
      exact ⟨D7, by show (f_X7_addStill r v1 D1).bind _ = _; rw [w1]; rfl, (by omega), w2, k_app_bnd hb (fun k _ => k_bnd0 0), w3⟩)
    (fun q E1' i1 i2 => by
      obtain ⟨q0, e1, g1⟩ := nf q
      have jN : v1 = Int32.ofNat v1.toInt.toNat := j_of (by omega)
      obtain ⟨E7, w1, w2, w3, w4, w5, w6⟩ := k_radds (q1 := 0) (q2 := 0) (q3 := 0) (x := 0) (m := v1.toInt.toNat) (fun _ => 0) (fun k hk w9 _ => if_pos rfl) (arr1 E1' i1) (n8 E1' i2) (by omega)
      rw [← jN] at w1
      refine ⟨E7, ?_, w2, w3, w4, w5, w6⟩
      show (((if (0 : Int32) = (4 : Int32) then (f_X12_clause_L157 0 0 0 z1 0 am_fu (0 : Int32) E1').bind fun e53 => some (e53) else some E1').bind fun w55 => (f_X12_clause_L206 0 0 0 z1 am_fu 0 (0 : Int32) w55).bind fun e78 => some e78)) = _
      rw [if_neg (show ¬ (0 : Int32) = 4 by decide), Option.bind_some, e1, w1]
      rfl)
  refine ⟨D8, D9, E9, ?_, y2, fun W hW hs => ?_, y4, k_cc_trans (k_cc_of c1) y5, k_cr_trans (k_cr_of q1) y6, fun q => ⟨(nf (y7 q).1).1, (y7 q).2⟩⟩
  · unfold k_rest
    rw [if_pos rfl, if_pos rfl, Option.bind_some, if_neg k_10, Option.bind_some, if_pos rfl, a1, Option.bind_some, Option.bind_some, if_pos rfl, Option.bind_some]
    show (if D1.1 69 2 = 0 then _ else some D1) = some D8
    by_cases q : D1.1 69 2 = 0
    · rw [if_pos q] at y1 ⊢
      rw [if_pos rfl, if_pos rfl, if_pos rfl, if_pos rfl]
      exact y1
    · rw [if_neg q] at y1 ⊢
      exact y1
  · unfold k_rrest
    rw [if_pos hW, hs, Option.bind_some, if_neg (show ¬ (0 : Int32) = 1 by decide), if_neg (show ¬ (0 : Int32) = 4 by decide), Option.bind_some, if_pos (show (0 : Int32) ≤ 0 by decide), Option.bind_some, if_neg (show ¬ (4 : Int32) ≤ 0 by decide), b1, Option.bind_some, Option.bind_some, if_neg (show ¬ (0 : Int32) = 3 by decide), Option.bind_some]
    exact y3
theorem k_rest_tone {n r cl made : Nat} {B : Nat → Int32} {g : Int → Int32} {D E : am_D} (hr : 30 ≤ r ∧ r < 40) (hrw : j_rw r 600) (h : k_RR n B D E) (hcl : cl < 16) (h7 : E.1 117 7 = Int32.ofNat cl) (hm : made ≤ 600) (hrow : j_row D r made g) (harr : k_arr E 119 made g) (h8 : E.1 117 8 = Int32.ofNat made) (hb : k_bnd g) :
    ∃ D2 D3 E3, k_rest r 0 1 0 0 0 D = some D2 ∧ f_X8_readEnd D2 = some D3 ∧ (∀ W, W.1 117 5 = 0 → f_X12_skipWord W = some E → k_rrest 1 W = some E3) ∧ k_RR n B D3 E3 ∧ k_cc r D D3 ∧ k_crr E E3 ∧ (D3.1 69 2 = 0 → D.1 69 2 = 0 ∧ k_md D3 E3 r (cl + 1)) := by
  obtain ⟨v1, z1, D1, E1, a1, b1, R1, c1', q1', o1⟩ := k_num h 4 60
  have c1 : k_wc D D1 := c1'
  have q1 : k_wr E E1 := q1'
  obtain ⟨v2, z2, D2, E2, a2, b2, R2, c2', q2', o2⟩ := k_num R1 1 2000
  have c2 : k_wc D D2 := k_wc_trans c1 c2'
  have q2 : k_wr E E2 := k_wr_trans q1 q2'
  obtain ⟨v3, z3, D3, E3, a3, b3, R3, c3', q3', o3⟩ := k_many (r := r) R2 (by omega) (by rw [c2.1 r (by omega)]; exact hrow.2.2.1) (by rw [q2.2.2 8 (by decide) (by decide) (by decide)]; exact h8) hm
  have c3 : k_wc D D3 := k_wc_trans c2 c3'
  have q3 : k_wr E E3 := k_wr_trans q2 q3'
  have nf : D3.1 69 2 = 0 → D.1 69 2 = 0 ∧ z1 = v1 ∧ z2 = v2 ∧ z3 = v3 ∧ (4 ≤ v1.toInt ∧ v1.toInt ≤ 60) ∧ (1 ≤ v2.toInt ∧ v2.toInt ≤ 2000) ∧ (1 ≤ v3.toInt ∧ v3.toInt ≤ 300 ∧ made + v3.toInt ≤ 600) := by
    intro q
    have t3 := o3 q
    have t2 := o2 t3.1
    have t1 := o1 t2.1
    exact ⟨t1.1, t1.2.1, t2.2.1, t3.2.1, t1.2.2, t2.2.2, t3.2.2⟩
  have row3 : j_row D3 r made g := j_row_fr hrow (c3.1 r (by omega)) (c3.1 (r + 1) (by omega))
  have arr3 : ∀ E9 : am_D, E9.1 119 = E3.1 119 → k_arr E9 119 made g := fun E9 q => k_arr_by harr (by rw [q, q3.1 119 (by decide)])
  have n8 : ∀ E9 : am_D, E9.1 117 8 = E3.1 117 8 → E9.1 117 8 = Int32.ofNat made := fun E9 q => by rw [q, q3.2.2 8 (by decide) (by decide) (by decide)]; exact h8
  obtain ⟨D8, D9, E9, y1, y2, y3, y4, y5, y6, y7⟩ := k_tail (made := made + v3.toInt.toNat) (g := k_app made v3.toInt.toNat (fun k => (f_X11_wave v1 v2 (Int32.ofNat k)).getD 0) g) hr R3 hcl (by rw [q3.2.2 7 (by decide) (by decide) (by decide)]; exact h7) (fun X => (f_X7_addWave r v1 v2 v3 X).bind fun x => some x) (fun X => (if (1 : Int32) = (4 : Int32) then (f_X12_clause_L157 1 z1 z2 z3 0 am_fu (0 : Int32) X).bind fun e53 => some (e53) else some X).bind fun w55 => (f_X12_clause_L206 1 z1 z2 z3 am_fu 0 (0 : Int32) w55).bind fun e78 => some e78)
    (fun q => by
      obtain ⟨q0, e1, e2, e3, g1, g2, g3⟩ := nf q
      have jN : v3 = Int32.ofNat v3.toInt.toNat := j_of (by omega)
      obtain ⟨u, hu⟩ := k_waves (p := v1) (a := v2) g1.1 g1.2 (by omega) (by omega)
      have hg : ∀ k, k ≤ 2000 → (f_X11_wave v1 v2 (Int32.ofNat k)).getD 0 = u k := fun k hk => by rw [(hu k hk).1]; rfl
      obtain ⟨D7, w1, w2, w3⟩ := k_addW0 (m := v3.toInt.toNat) hrw (fun k => (f_X11_wave v1 v2 (Int32.ofNat k)).getD 0) (fun k hk => by rw [hg k (by omega)]; exact (hu k (by omega)).1) row3 (by omega)
      rw [← jN] at w1
      exact ⟨D7, by show (f_X7_addWave r v1 v2 v3 D3).bind _ = _; rw [w1]; rfl, (by omega), w2, k_app_bnd hb (fun k hk => by rw [hg k (by omega)]; exact (hu k (by omega)).2.2), w3⟩)
    (fun q E1' i1 i2 => by
      obtain ⟨q0, e1, e2, e3, g1, g2, g3⟩ := nf q
      have jN : v3 = Int32.ofNat v3.toInt.toNat := j_of (by omega)
      obtain ⟨u, hu⟩ := k_waves (p := v1) (a := v2) g1.1 g1.2 (by omega) (by omega)
      have hg : ∀ k, k ≤ 2000 → (f_X11_wave v1 v2 (Int32.ofNat k)).getD 0 = u k := fun k hk => by rw [(hu k hk).1]; rfl
      obtain ⟨E7, w1, w2, w3, w4, w5, w6⟩ := k_radds (q1 := 1) (q2 := v1) (q3 := v2) (x := 0) (m := v3.toInt.toNat) (fun k => (f_X11_wave v1 v2 (Int32.ofNat k)).getD 0) (fun k hk w9 _ => by rw [if_neg k_10, if_pos rfl, (hu k (by omega)).2.1, hg k (by omega)]; rfl) (arr3 E1' i1) (n8 E1' i2) (by omega)
      rw [← jN] at w1
      refine ⟨E7, ?_, w2, w3, w4, w5, w6⟩
      show (((if (1 : Int32) = (4 : Int32) then (f_X12_clause_L157 1 z1 z2 z3 0 am_fu (0 : Int32) E1').bind fun e53 => some (e53) else some E1').bind fun w55 => (f_X12_clause_L206 1 z1 z2 z3 am_fu 0 (0 : Int32) w55).bind fun e78 => some e78)) = _
      rw [if_neg (show ¬ (1 : Int32) = 4 by decide), Option.bind_some, e1, e2, e3, w1]
      rfl)
  refine ⟨D8, D9, E9, ?_, y2, fun W hW hs => ?_, y4, k_cc_trans (k_cc_of c3) y5, k_cr_trans (k_cr_of q3) y6, fun q => ⟨(nf (y7 q).1).1, (y7 q).2⟩⟩
  · unfold k_rest
    rw [if_neg k_10, a1, Option.bind_some, Option.bind_some, if_pos rfl, a2, Option.bind_some, Option.bind_some, if_pos rfl, a3, Option.bind_some, Option.bind_some, if_pos rfl, Option.bind_some]
    show (if D3.1 69 2 = 0 then _ else some D3) = some D8
    by_cases q : D3.1 69 2 = 0
    · rw [if_pos q] at y1 ⊢
      rw [if_pos rfl, if_pos rfl, if_pos rfl, if_neg k_10]
      exact y1
    · rw [if_neg q] at y1 ⊢
      exact y1
  · unfold k_rrest
    rw [if_pos hW, hs, Option.bind_some, if_pos rfl, b1, Option.bind_some, Option.bind_some, if_neg (show ¬ (1 : Int32) ≤ 0 by decide), b2, Option.bind_some, Option.bind_some, if_neg (show ¬ (4 : Int32) ≤ 1 by decide), b3, Option.bind_some, Option.bind_some, if_neg (show ¬ (1 : Int32) = 3 by decide), Option.bind_some]
    exact y3
theorem k_rest_blow {n r cl made : Nat} {B : Nat → Int32} {g : Int → Int32} {D E : am_D} (hr : 30 ≤ r ∧ r < 40) (hrw : j_rw r 600) (h : k_RR n B D E) (hcl : cl < 16) (h7 : E.1 117 7 = Int32.ofNat cl) (hm : made ≤ 600) (hrow : j_row D r made g) (harr : k_arr E 119 made g) (h8 : E.1 117 8 = Int32.ofNat made) (hb : k_bnd g) :
    ∃ D2 D3 E3, k_rest r 0 0 1 0 0 D = some D2 ∧ f_X8_readEnd D2 = some D3 ∧ (∀ W, W.1 117 5 = 0 → f_X12_skipWord W = some E → k_rrest 2 W = some E3) ∧ k_RR n B D3 E3 ∧ k_cc r D D3 ∧ k_crr E E3 ∧ (D3.1 69 2 = 0 → D.1 69 2 = 0 ∧ k_md D3 E3 r (cl + 1)) := by
  obtain ⟨v1, z1, D1, E1, a1, b1, R1, c1', q1', o1⟩ := k_num h 1 2000
  have c1 : k_wc D D1 := c1'
  have q1 : k_wr E E1 := q1'
  obtain ⟨v2, z2, D2, E2, a2, b2, R2, c2', q2', o2⟩ := k_many (r := r) R1 (by omega) (by rw [c1.1 r (by omega)]; exact hrow.2.2.1) (by rw [q1.2.2 8 (by decide) (by decide) (by decide)]; exact h8) hm
  have c2 : k_wc D D2 := k_wc_trans c1 c2'
  have q2 : k_wr E E2 := k_wr_trans q1 q2'
  have nf : D2.1 69 2 = 0 → D.1 69 2 = 0 ∧ z1 = v1 ∧ z2 = v2 ∧ (1 ≤ v1.toInt ∧ v1.toInt ≤ 2000) ∧ (1 ≤ v2.toInt ∧ v2.toInt ≤ 300 ∧ made + v2.toInt ≤ 600) := by
    intro q
    have t2 := o2 q
    have t1 := o1 t2.1
    exact ⟨t1.1, t1.2.1, t2.2.1, t1.2.2, t2.2.2⟩
  have row2 : j_row D2 r made g := j_row_fr hrow (c2.1 r (by omega)) (c2.1 (r + 1) (by omega))
  have arr2 : ∀ E9 : am_D, E9.1 119 = E2.1 119 → k_arr E9 119 made g := fun E9 q => k_arr_by harr (by rw [q, q2.1 119 (by decide)])
  have n8 : ∀ E9 : am_D, E9.1 117 8 = E2.1 117 8 → E9.1 117 8 = Int32.ofNat made := fun E9 q => by rw [q, q2.2.2 8 (by decide) (by decide) (by decide)]; exact h8
  obtain ⟨D8, D9, E9, y1, y2, y3, y4, y5, y6, y7⟩ := k_tail (made := made + v2.toInt.toNat) (g := k_app made v2.toInt.toNat (k_blw v1) g) hr R2 hcl (by rw [q2.2.2 7 (by decide) (by decide) (by decide)]; exact h7) (fun X => (f_X7_addBlow r v1 v2 X).bind fun x => some x) (fun X => (if (2 : Int32) = (4 : Int32) then (f_X12_clause_L157 2 0 z1 z2 0 am_fu (0 : Int32) X).bind fun e53 => some (e53) else some X).bind fun w55 => (f_X12_clause_L206 2 0 z1 z2 am_fu 0 (0 : Int32) w55).bind fun e78 => some e78)
    (fun q => by
      obtain ⟨q0, e1, e2, g1, g2⟩ := nf q
      have jN : v2 = Int32.ofNat v2.toInt.toNat := j_of (by omega)
      obtain ⟨D7, w1, w2, w3⟩ := k_addB0 (a := v1) (m := v2.toInt.toNat) hrw row2 (by omega)
      rw [← jN] at w1
      exact ⟨D7, by show (f_X7_addBlow r v1 v2 D2).bind _ = _; rw [w1]; rfl, (by omega), w2, k_app_bnd hb (fun k _ => k_bl_b (by omega) (by omega) k), w3⟩)
    (fun q E1' i1 i2 => by
      obtain ⟨q0, e1, e2, g1, g2⟩ := nf q
      have jN : v2 = Int32.ofNat v2.toInt.toNat := j_of (by omega)
      obtain ⟨E7, w1, w2, w3, w4, w5, w6⟩ := k_radds (q1 := 2) (q2 := 0) (q3 := v1) (x := 0) (m := v2.toInt.toNat) (k_blw v1) (fun k hk w9 hw => by rw [if_neg (show ¬ (2 : Int32) = 0 by decide), if_neg (show ¬ (2 : Int32) = 1 by decide), if_pos rfl]; exact k_bl_r (by omega) (by omega) k (by omega) w9 hw) (arr2 E1' i1) (n8 E1' i2) (by omega)
      rw [← jN] at w1
      refine ⟨E7, ?_, w2, w3, w4, w5, w6⟩
      show (((if (2 : Int32) = (4 : Int32) then (f_X12_clause_L157 2 0 z1 z2 0 am_fu (0 : Int32) E1').bind fun e53 => some (e53) else some E1').bind fun w55 => (f_X12_clause_L206 2 0 z1 z2 am_fu 0 (0 : Int32) w55).bind fun e78 => some e78)) = _
      rw [if_neg (show ¬ (2 : Int32) = 4 by decide), Option.bind_some, e1, e2, w1]
      rfl)
  refine ⟨D8, D9, E9, ?_, y2, fun W hW hs => ?_, y4, k_cc_trans (k_cc_of c2) y5, k_cr_trans (k_cr_of q2) y6, fun q => ⟨(nf (y7 q).1).1, (y7 q).2⟩⟩
  · unfold k_rest
    rw [if_pos rfl, if_pos rfl, Option.bind_some, if_pos rfl, a1, Option.bind_some, Option.bind_some, if_pos rfl, a2, Option.bind_some, Option.bind_some, if_pos rfl, Option.bind_some]
    show (if D2.1 69 2 = 0 then _ else some D2) = some D8
    by_cases q : D2.1 69 2 = 0
    · rw [if_pos q] at y1 ⊢
      rw [if_pos rfl, if_pos rfl, if_neg k_10]
      exact y1
    · rw [if_neg q] at y1 ⊢
      exact y1
  · unfold k_rrest
    rw [if_pos hW, hs, Option.bind_some, if_neg (show ¬ (2 : Int32) = 1 by decide), if_neg (show ¬ (2 : Int32) = 4 by decide), Option.bind_some, if_neg (show ¬ (2 : Int32) ≤ 0 by decide), b1, Option.bind_some, Option.bind_some, if_neg (show ¬ (4 : Int32) ≤ 2 by decide), b2, Option.bind_some, Option.bind_some, if_neg (show ¬ (2 : Int32) = 3 by decide), Option.bind_some]
    exact y3
theorem k_rest_hiss {n r cl made : Nat} {B : Nat → Int32} {g : Int → Int32} {D E : am_D} (hr : 30 ≤ r ∧ r < 40) (hrw : j_rw r 600) (h : k_RR n B D E) (hcl : cl < 16) (h7 : E.1 117 7 = Int32.ofNat cl) (hm : made ≤ 600) (hrow : j_row D r made g) (harr : k_arr E 119 made g) (h8 : E.1 117 8 = Int32.ofNat made) (hb : k_bnd g) :
    ∃ D2 D3 E3, k_rest r 0 0 0 1 0 D = some D2 ∧ f_X8_readEnd D2 = some D3 ∧ (∀ W, W.1 117 5 = 0 → f_X12_skipWord W = some E → k_rrest 3 W = some E3) ∧ k_RR n B D3 E3 ∧ k_cc r D D3 ∧ k_crr E E3 ∧ (D3.1 69 2 = 0 → D.1 69 2 = 0 ∧ k_md D3 E3 r (cl + 1)) := by
  obtain ⟨v1, z1, D1, E1, a1, b1, R1, c1', q1', o1⟩ := k_num h 1 2000
  have c1 : k_wc D D1 := c1'
  have q1 : k_wr E E1 := q1'
  obtain ⟨v2, z2, D2, E2, a2, b2, R2, c2', q2', o2⟩ := k_many (r := r) R1 (by omega) (by rw [c1.1 r (by omega)]; exact hrow.2.2.1) (by rw [q1.2.2 8 (by decide) (by decide) (by decide)]; exact h8) hm
  have c2 : k_wc D D2 := k_wc_trans c1 c2'
  have q2 : k_wr E E2 := k_wr_trans q1 q2'
  obtain ⟨v3, z3, D3, E3, a3, b3, R3, c3', q3', o3⟩ := k_num R2 0 9999
  have c3 : k_wc D D3 := k_wc_trans c2 c3'
  have q3 : k_wr E E3 := k_wr_trans q2 q3'
  have nf : D3.1 69 2 = 0 → D.1 69 2 = 0 ∧ z1 = v1 ∧ z2 = v2 ∧ z3 = v3 ∧ (1 ≤ v1.toInt ∧ v1.toInt ≤ 2000) ∧ (1 ≤ v2.toInt ∧ v2.toInt ≤ 300 ∧ made + v2.toInt ≤ 600) ∧ (0 ≤ v3.toInt ∧ v3.toInt ≤ 9999) := by
    intro q
    have t3 := o3 q
    have t2 := o2 t3.1
    have t1 := o1 t2.1
    exact ⟨t1.1, t1.2.1, t2.2.1, t3.2.1, t1.2.2, t2.2.2, t3.2.2⟩
  have row3 : j_row D3 r made g := j_row_fr hrow (c3.1 r (by omega)) (c3.1 (r + 1) (by omega))
  have arr3 : ∀ E9 : am_D, E9.1 119 = E3.1 119 → k_arr E9 119 made g := fun E9 q => k_arr_by harr (by rw [q, q3.1 119 (by decide)])
  have n8 : ∀ E9 : am_D, E9.1 117 8 = E3.1 117 8 → E9.1 117 8 = Int32.ofNat made := fun E9 q => by rw [q, q3.2.2 8 (by decide) (by decide) (by decide)]; exact h8
  obtain ⟨D8, D9, E9, y1, y2, y3, y4, y5, y6, y7⟩ := k_tail (made := made + v2.toInt.toNat) (g := k_app made v2.toInt.toNat (k_dr v1.toInt.toNat v3) g) hr R3 hcl (by rw [q3.2.2 7 (by decide) (by decide) (by decide)]; exact h7) (fun X => (f_X7_addHiss r v1 v2 v3 X).bind fun x => some x) (fun X => (if (3 : Int32) = (4 : Int32) then (f_X12_clause_L157 3 0 z1 z2 z3 am_fu (0 : Int32) X).bind fun e53 => some (e53) else some X).bind fun w55 => (f_X12_clause_L206 3 0 z1 z2 am_fu z3 (0 : Int32) w55).bind fun e78 => some e78)
    (fun q => by
      obtain ⟨q0, e1, e2, e3, g1, g2, g3⟩ := nf q
      have jN : v2 = Int32.ofNat v2.toInt.toNat := j_of (by omega)
      have jA : v1 = Int32.ofNat v1.toInt.toNat := j_of (by omega)
      obtain ⟨D7, w1, w2, w3⟩ := k_addH0 (an := v1.toInt.toNat) (x := v3) (m := v2.toInt.toNat) hrw (by omega) row3 (by omega)
      rw [← jN, ← jA] at w1
      exact ⟨D7, by show (f_X7_addHiss r v1 v2 v3 D3).bind _ = _; rw [w1]; rfl, (by omega), w2, k_app_bnd hb (fun k _ => k_dr_b _ (by omega) _ k), w3⟩)
    (fun q E1' i1 i2 => by
      obtain ⟨q0, e1, e2, e3, g1, g2, g3⟩ := nf q
      have jN : v2 = Int32.ofNat v2.toInt.toNat := j_of (by omega)
      have jA : v1 = Int32.ofNat v1.toInt.toNat := j_of (by omega)
      obtain ⟨E7, w1, w2, w3, w4, w5, w6⟩ := k_radds (q1 := 3) (q2 := 0) (q3 := Int32.ofNat v1.toInt.toNat) (x := v3) (m := v2.toInt.toNat) (k_dr v1.toInt.toNat v3) (fun k hk w9 hw => by rw [if_neg (show ¬ (3 : Int32) = 0 by decide), if_neg (show ¬ (3 : Int32) = 1 by decide), if_neg (show ¬ (3 : Int32) = 2 by decide)]; exact k_dr_r _ (by omega) _ k) (arr3 E1' i1) (n8 E1' i2) (by omega)
      rw [← jN, ← jA] at w1
      refine ⟨E7, ?_, w2, w3, w4, w5, w6⟩
      show (((if (3 : Int32) = (4 : Int32) then (f_X12_clause_L157 3 0 z1 z2 z3 am_fu (0 : Int32) E1').bind fun e53 => some (e53) else some E1').bind fun w55 => (f_X12_clause_L206 3 0 z1 z2 am_fu z3 (0 : Int32) w55).bind fun e78 => some e78)) = _
      rw [if_neg (show ¬ (3 : Int32) = 4 by decide), Option.bind_some, e1, e2, e3, w1]
      rfl)
  refine ⟨D8, D9, E9, ?_, y2, fun W hW hs => ?_, y4, k_cc_trans (k_cc_of c3) y5, k_cr_trans (k_cr_of q3) y6, fun q => ⟨(nf (y7 q).1).1, (y7 q).2⟩⟩
  · unfold k_rest
    rw [if_pos rfl, if_pos rfl, Option.bind_some, if_pos rfl, a1, Option.bind_some, Option.bind_some, if_pos rfl, a2, Option.bind_some, Option.bind_some, if_neg k_10, a3, Option.bind_some, Option.bind_some]
    show (if D3.1 69 2 = 0 then _ else some D3) = some D8
    by_cases q : D3.1 69 2 = 0
    · rw [if_pos q] at y1 ⊢
      rw [if_pos rfl, if_neg k_10]
      exact y1
    · rw [if_neg q] at y1 ⊢
      exact y1
  · unfold k_rrest
    rw [if_pos hW, hs, Option.bind_some, if_neg (show ¬ (3 : Int32) = 1 by decide), if_neg (show ¬ (3 : Int32) = 4 by decide), Option.bind_some, if_neg (show ¬ (3 : Int32) ≤ 0 by decide), b1, Option.bind_some, Option.bind_some, if_neg (show ¬ (4 : Int32) ≤ 3 by decide), b2, Option.bind_some, Option.bind_some, if_pos rfl, b3, Option.bind_some, Option.bind_some]
    exact y3
theorem k_rest_hum {n r cl made : Nat} {B : Nat → Int32} {g : Int → Int32} {D E : am_D} (hr : 30 ≤ r ∧ r < 40) (hrw : j_rw r 600) (h : k_RR n B D E) (hcl : cl < 16) (h7 : E.1 117 7 = Int32.ofNat cl) (hm : made ≤ 600) (hrow : j_row D r made g) (harr : k_arr E 119 made g) (h8 : E.1 117 8 = Int32.ofNat made) (hb : k_bnd g) :
    ∃ D2 D3 E3, k_rest r 0 0 0 0 1 D = some D2 ∧ f_X8_readEnd D2 = some D3 ∧ (∀ W, W.1 117 5 = 0 → f_X12_skipWord W = some E → k_rrest 4 W = some E3) ∧ k_RR n B D3 E3 ∧ k_cc r D D3 ∧ k_crr E E3 ∧ (D3.1 69 2 = 0 → D.1 69 2 = 0 ∧ k_md D3 E3 r (cl + 1)) := by
  obtain ⟨v1, z1, D1, E1, a1, b1, R1, c1', q1', o1⟩ := k_num h 4 60
  have c1 : k_wc D D1 := c1'
  have q1 : k_wr E E1 := q1'
  obtain ⟨v2, z2, D2, E2, a2, b2, R2, c2', q2', o2⟩ := k_num R1 1 2000
  have c2 : k_wc D D2 := k_wc_trans c1 c2'
  have q2 : k_wr E E2 := k_wr_trans q1 q2'
  have nf : D2.1 69 2 = 0 → D.1 69 2 = 0 ∧ z1 = v1 ∧ z2 = v2 ∧ (4 ≤ v1.toInt ∧ v1.toInt ≤ 60) ∧ (1 ≤ v2.toInt ∧ v2.toInt ≤ 2000) := by
    intro q
    have t2 := o2 q
    have t1 := o1 t2.1
    exact ⟨t1.1, t1.2.1, t2.2.1, t1.2.2, t2.2.2⟩
  have row2 : j_row D2 r made g := j_row_fr hrow (c2.1 r (by omega)) (c2.1 (r + 1) (by omega))
  have arr2 : ∀ E9 : am_D, E9.1 119 = E2.1 119 → k_arr E9 119 made g := fun E9 q => k_arr_by harr (by rw [q, q2.1 119 (by decide)])
  have n8 : ∀ E9 : am_D, E9.1 117 8 = E2.1 117 8 → E9.1 117 8 = Int32.ofNat made := fun E9 q => by rw [q, q2.2.2 8 (by decide) (by decide) (by decide)]; exact h8
  obtain ⟨D8, D9, E9, y1, y2, y3, y4, y5, y6, y7⟩ := k_tail (made := made) (g := k_hm (fun k => (f_X11_wave v1 v2 (Int32.ofNat k)).getD 0) g made) hr R2 hcl (by rw [q2.2.2 7 (by decide) (by decide) (by decide)]; exact h7) (fun X => (f_X7_layHum r v1 v2 X).bind fun x => some x) (fun X => (if (4 : Int32) = (4 : Int32) then (f_X12_clause_L157 4 z1 z2 0 0 am_fu (0 : Int32) X).bind fun e53 => some (e53) else some X).bind fun w55 => (f_X12_clause_L206 4 z1 z2 0 am_fu 0 (0 : Int32) w55).bind fun e78 => some e78)
    (fun q => by
      obtain ⟨q0, e1, e2, g1, g2⟩ := nf q
      obtain ⟨u, hu⟩ := k_waves (p := v1) (a := v2) g1.1 g1.2 (by omega) (by omega)
      have hg : ∀ k, k ≤ 2000 → (f_X11_wave v1 v2 (Int32.ofNat k)).getD 0 = u k := fun k hk => by rw [(hu k hk).1]; rfl
      obtain ⟨D7, w1, w2, w3⟩ := k_layH (p := v1) (a := v2) (fun k => (f_X11_wave v1 v2 (Int32.ofNat k)).getD 0) hm (fun k hk => by rw [hg k (by omega)]; exact (hu k (by omega)).1) row2
      exact ⟨D7, by show (f_X7_layHum r v1 v2 D2).bind _ = _; rw [w1]; rfl, (by omega), w2, k_hm_b hb, w3⟩)
    (fun q E1' i1 i2 => by
      obtain ⟨q0, e1, e2, g1, g2⟩ := nf q
      obtain ⟨u, hu⟩ := k_waves (p := v1) (a := v2) g1.1 g1.2 (by omega) (by omega)
      have hg : ∀ k, k ≤ 2000 → (f_X11_wave v1 v2 (Int32.ofNat k)).getD 0 = u k := fun k hk => by rw [(hu k hk).1]; rfl
      obtain ⟨E7, w1, w2, w3, w4⟩ := k_rlayH (q1 := 4) (p := v1) (a := v2) (q4 := 0) (q5 := 0) (fun k => (f_X11_wave v1 v2 (Int32.ofNat k)).getD 0) hm (fun k hk => by rw [hg k (by omega)]; exact (hu k (by omega)).2.1) (arr2 E1' i1) (n8 E1' i2)
      refine ⟨E7, ?_, w2, by rw [w3 117 (by decide)]; exact n8 E1' i2, fun y _ a => w3 y a, fun j _ => by rw [w3 117 (by decide)], w4⟩
      show (((if (4 : Int32) = (4 : Int32) then (f_X12_clause_L157 4 z1 z2 0 0 am_fu (0 : Int32) E1').bind fun e53 => some (e53) else some E1').bind fun w55 => (f_X12_clause_L206 4 z1 z2 0 am_fu 0 (0 : Int32) w55).bind fun e78 => some e78)) = _
      rw [if_pos rfl, e1, e2, w1, Option.bind_some, Option.bind_some]
      unfold am_fu
      rw [f_X12_clause_L206, if_pos (Int32.le_refl _), Option.bind_some])
  refine ⟨D8, D9, E9, ?_, y2, fun W hW hs => ?_, y4, k_cc_trans (k_cc_of c2) y5, k_cr_trans (k_cr_of q2) y6, fun q => ⟨(nf (y7 q).1).1, (y7 q).2⟩⟩
  · unfold k_rest
    rw [if_pos rfl, if_neg k_10, a1, Option.bind_some, Option.bind_some, if_pos rfl, a2, Option.bind_some, Option.bind_some, if_neg k_10, Option.bind_some, if_pos rfl, Option.bind_some]
    show (if D2.1 69 2 = 0 then _ else some D2) = some D8
    by_cases q : D2.1 69 2 = 0
    · rw [if_pos q] at y1 ⊢
      rw [if_neg k_10]
      exact y1
    · rw [if_neg q] at y1 ⊢
      exact y1
  · unfold k_rrest
    rw [if_pos hW, hs, Option.bind_some, if_neg (show ¬ (4 : Int32) = 1 by decide), if_pos rfl, b1, Option.bind_some, Option.bind_some, if_neg (show ¬ (4 : Int32) ≤ 0 by decide), b2, Option.bind_some, Option.bind_some, if_pos (show (4 : Int32) ≤ 4 by decide), Option.bind_some, if_neg (show ¬ (4 : Int32) = 3 by decide), Option.bind_some]
    exact y3
