/-! sound -/
theorem k_clko {n a b r : Nat} {kd x2 x4 x6 x8 x10 k p : Int32} {B : Nat → Int32} {D E : am_D} (h : k_tc n B D b) (g : k_tr n B E a) (hD : D.1 69 2 = 0) (hE : E.1 117 5 = 0) (hk : ¬ k = 0) :
    ∃ D2 E2, ((f_X8_fail k p D).bind fun x => some x).bind (k_rest r x2 x4 x6 x8 x10) = some D2 ∧ f_X8_readEnd D2 = some D2 ∧ ((f_X12_wrong k p E).bind fun x => some x).bind (k_rrest kd) = some E2 ∧ k_RR n B D2 E2 ∧ k_cc r D D2 ∧ k_crr E E2 ∧ ¬ D2.1 69 2 = 0 := by
  obtain ⟨D2, E2, z1, z2, z3, z4, z5, z6, z7, z8⟩ := k_flt h g hD hE k p hk
  have f1 : ¬ D2.1 69 2 = 0 := by rw [z4]; exact hk
  have f2 : ¬ E2.1 117 5 = 0 := by rw [z5]; exact hk
  refine ⟨D2, E2, ?_, k_endko f1, ?_, z3, k_cc_of z6, k_cr_of z7, f1⟩
  · rw [z1, Option.bind_some, Option.bind_some, k_restko f1]
  · rw [z2, Option.bind_some, Option.bind_some, k_rrestko f2]
theorem k_clause {n a r cl : Nat} {B : Nat → Int32} {D E : am_D} (hr : 30 ≤ r ∧ r < 40) (hrw : j_rw r 600) (hc : k_tc n B D a) (hrr : k_tr n B E a) (hD : D.1 69 2 = 0) (hE : E.1 117 5 = 0) (hF : E.1 117 6 = -1) (hs : k_P32 (k_by n B a) = false) (hm : k_md D E r cl) :
    ∃ D1 D2 D3 E3, f_X8_readWord D = some D1 ∧ f_X8_readClause r (Int32.ofNat cl) D1 = some D2 ∧ f_X8_readEnd D2 = some D3 ∧ f_X12_clause E = some E3 ∧ k_RR n B D3 E3 ∧ k_cc r D D3 ∧ k_crr E E3 ∧ (D3.1 69 2 = 0 → k_md D3 E3 r (cl + 1)) := by
  obtain ⟨made, g, m1, m2, m3, m4, m5, m6, m7⟩ := hm
  obtain ⟨s1, s2, s3, s4⟩ := k_skp_spec (B := B) k_Pl_1 hc.1
  obtain ⟨D1, d1, d2, d3, d4, d5⟩ := k_cwordR hc hs
  have rk := k_rkind hrr hs hE
  obtain ⟨b, hb⟩ : ∃ x, x = k_skp k_Pl n B a := ⟨_, rfl⟩
  have rsk := k_rletters hrr
  rw [← hb] at s1 s2 s3 s4 d2 rk rsk
  have hn := hc.2.1
  have hl : ∀ j, j < b - a → 97 ≤ (k_by n B (a + j)).toInt ∧ (k_by n B (a + j)).toInt ≤ 122 := fun j hj => of_decide_eq_true (s4 (a + j) (by omega) (by omega))
  have i0 := k_is_still d2 d3 s1 hl
  have i1 := k_is_tone d2 d3 s1 hl
  have i2 := k_is_blow d2 d3 s1 hl
  have i3 := k_is_hiss d2 d3 s1 hl
  have i4 := k_is_hum d2 d3 s1 hl
  obtain ⟨H, hH⟩ : ∃ x, x = k_H n B a b := ⟨_, rfl⟩
  rw [← hH] at rk i0 i1 i2 i3 i4
  have hD1 : D1.1 69 2 = 0 := by rw [d4]; exact hD
  have row1 : j_row D1 r made g := j_row_fr m2 (d5.1 r (by omega)) (d5.1 (r + 1) (by omega))
  have e16 : (16 : Int32).toInt = 16 := rfl
  have ecl : ∀ kd : Int32, f_X12_kindHere E = some (kd, E) → f_X12_clause E = (if kd = (-1 : Int32) then (f_X12_wrong (1 : Int32) (E.1 117 4) E).bind fun x9 => some (x9) else if (E.1 117 7) = (16 : Int32) then (f_X12_wrong (3 : Int32) (E.1 117 4) E).bind fun x7 => some (x7) else some (E)).bind (k_rrest kd) := fun kd hk => by
    unfold f_X12_clause
    rw [hk, Option.bind_some]
    rfl
  obtain ⟨E1, hE1⟩ : ∃ X, X = am_wI E 117 4 (Int32.ofNat b) := ⟨_, rfl⟩
  rw [← hE1] at rsk
  have r1 : k_tr n B E1 b := by rw [hE1]; exact k_tr_w hrr s2
  have w1 : k_wr E E1 := by rw [hE1]; exact k_wr_w E 4 _ (by omega)
  have sR : k_RR n B D1 E1 := ⟨b, b, d2, r1, Or.inl ⟨rfl, hD1, by rw [hE1, k_wj _ _ (by decide), hE], by rw [hE1, k_wj _ _ (by decide), hF]⟩⟩
  have p7 : E1.1 117 7 = Int32.ofNat cl := by rw [w1.2.2 7 (by decide) (by decide) (by decide)]; exact m6
  have p8 : E1.1 117 8 = Int32.ofNat made := by rw [w1.2.2 8 (by decide) (by decide) (by decide)]; exact m4
  have p119 : k_arr E1 119 made g := k_arr_by m3 (w1.1 119 (by decide))
  by_cases c0 : H = 10497936
  · have ek : k_kind H = 0 := by rw [c0]; decide
    rw [if_pos c0] at i0
    rw [if_neg (by rw [c0]; decide)] at i1
    rw [if_neg (by rw [c0]; decide)] at i2
    rw [if_neg (by rw [c0]; decide)] at i3
    rw [if_neg (by rw [c0]; decide)] at i4
    have rcl : f_X8_readClause r (Int32.ofNat cl) D1 = (if Int32.ofNat cl < (16 : Int32) then some (D1) else (f_X8_fail (3 : Int32) (Int32.ofNat a) D1).bind fun x => some x).bind (k_rest r 1 0 0 0 0) := by
      unfold f_X8_readClause
      rw [i0, Option.bind_some, i1, Option.bind_some, i2, Option.bind_some, i3, Option.bind_some, i4, Option.bind_some, if_neg k_10, d3]
      rfl
    rw [ek] at rk
    refine ⟨D1, ?_⟩
    rw [rcl, ecl _ rk, if_neg (show ¬ (0 : Int32) = -1 by decide), m6, hrr.2.2.2.1]
    by_cases cc : cl < 16
    · rw [if_pos (by rw [j_lt, j_nat (by omega), e16]; omega), if_neg (by rw [j_eq, j_nat (by omega), e16]; omega), Option.bind_some, Option.bind_some]
      obtain ⟨D2, D3, E3, y1, y2, y3, y4, y5, y6, y7⟩ := k_rest_still hr hrw sR cc p7 m1 row1 p119 p8 m5
      exact ⟨D2, D3, E3, d1, y1, y2, y3 E hE rsk, y4, k_cc_trans (k_cc_of d5) y5, k_cr_trans (k_cr_of w1) y6, fun q => (y7 q).2⟩
    · rw [if_neg (by rw [j_lt, j_nat (by omega), e16]; omega), if_pos (by rw [j_eq, j_nat (by omega), e16]; omega)]
      obtain ⟨D2, E2, y1, y2, y3, y4, y5, y6, y7⟩ := k_clko (r := r) (kd := 0) (x2 := 1) (x4 := 0) (x6 := 0) (x8 := 0) (x10 := 0) (k := 3) (p := Int32.ofNat a) d2 hrr hD1 hE (by decide)
      exact ⟨D2, D2, E2, d1, y1, y2, y3, y4, k_cc_trans (k_cc_of d5) y5, y6, fun q => absurd q y7⟩
  by_cases c1 : H = 404978
  · have ek : k_kind H = 1 := by rw [c1]; decide
    rw [if_neg (by rw [c1]; decide)] at i0
    rw [if_pos c1] at i1
    rw [if_neg (by rw [c1]; decide)] at i2
    rw [if_neg (by rw [c1]; decide)] at i3
    rw [if_neg (by rw [c1]; decide)] at i4
    have rcl : f_X8_readClause r (Int32.ofNat cl) D1 = (if Int32.ofNat cl < (16 : Int32) then some (D1) else (f_X8_fail (3 : Int32) (Int32.ofNat a) D1).bind fun x => some x).bind (k_rest r 0 1 0 0 0) := by
      unfold f_X8_readClause
      rw [i0, Option.bind_some, i1, Option.bind_some, i2, Option.bind_some, i3, Option.bind_some, i4, Option.bind_some, if_pos rfl, if_neg k_10, d3]
      rfl
    rw [ek] at rk
    refine ⟨D1, ?_⟩
    rw [rcl, ecl _ rk, if_neg (show ¬ (1 : Int32) = -1 by decide), m6, hrr.2.2.2.1]
    by_cases cc : cl < 16
    · rw [if_pos (by rw [j_lt, j_nat (by omega), e16]; omega), if_neg (by rw [j_eq, j_nat (by omega), e16]; omega), Option.bind_some, Option.bind_some]
      obtain ⟨D2, D3, E3, y1, y2, y3, y4, y5, y6, y7⟩ := k_rest_tone hr hrw sR cc p7 m1 row1 p119 p8 m5
      exact ⟨D2, D3, E3, d1, y1, y2, y3 E hE rsk, y4, k_cc_trans (k_cc_of d5) y5, k_cr_trans (k_cr_of w1) y6, fun q => (y7 q).2⟩
    · rw [if_neg (by rw [j_lt, j_nat (by omega), e16]; omega), if_pos (by rw [j_eq, j_nat (by omega), e16]; omega)]
      obtain ⟨D2, E2, y1, y2, y3, y4, y5, y6, y7⟩ := k_clko (r := r) (kd := 1) (x2 := 0) (x4 := 1) (x6 := 0) (x8 := 0) (x10 := 0) (k := 3) (p := Int32.ofNat a) d2 hrr hD1 hE (by decide)
      exact ⟨D2, D2, E2, d1, y1, y2, y3, y4, k_cc_trans (k_cc_of d5) y5, y6, fun q => absurd q y7⟩
  by_cases c2 : H = 48542
  · have ek : k_kind H = 2 := by rw [c2]; decide
    rw [if_neg (by rw [c2]; decide)] at i0
    rw [if_neg (by rw [c2]; decide)] at i1
    rw [if_pos c2] at i2
    rw [if_neg (by rw [c2]; decide)] at i3
    rw [if_neg (by rw [c2]; decide)] at i4
    have rcl : f_X8_readClause r (Int32.ofNat cl) D1 = (if Int32.ofNat cl < (16 : Int32) then some (D1) else (f_X8_fail (3 : Int32) (Int32.ofNat a) D1).bind fun x => some x).bind (k_rest r 0 0 1 0 0) := by
      unfold f_X8_readClause
      rw [i0, Option.bind_some, i1, Option.bind_some, i2, Option.bind_some, i3, Option.bind_some, i4, Option.bind_some, if_pos rfl, if_pos rfl, if_neg k_10, d3]
      rfl
    rw [ek] at rk
    refine ⟨D1, ?_⟩
    rw [rcl, ecl _ rk, if_neg (show ¬ (2 : Int32) = -1 by decide), m6, hrr.2.2.2.1]
    by_cases cc : cl < 16
    · rw [if_pos (by rw [j_lt, j_nat (by omega), e16]; omega), if_neg (by rw [j_eq, j_nat (by omega), e16]; omega), Option.bind_some, Option.bind_some]
      obtain ⟨D2, D3, E3, y1, y2, y3, y4, y5, y6, y7⟩ := k_rest_blow hr hrw sR cc p7 m1 row1 p119 p8 m5
      exact ⟨D2, D3, E3, d1, y1, y2, y3 E hE rsk, y4, k_cc_trans (k_cc_of d5) y5, k_cr_trans (k_cr_of w1) y6, fun q => (y7 q).2⟩
    · rw [if_neg (by rw [j_lt, j_nat (by omega), e16]; omega), if_pos (by rw [j_eq, j_nat (by omega), e16]; omega)]
      obtain ⟨D2, E2, y1, y2, y3, y4, y5, y6, y7⟩ := k_clko (r := r) (kd := 2) (x2 := 0) (x4 := 0) (x6 := 1) (x8 := 0) (x10 := 0) (k := 3) (p := Int32.ofNat a) d2 hrr hD1 hE (by decide)
      exact ⟨D2, D2, E2, d1, y1, y2, y3, y4, k_cc_trans (k_cc_of d5) y5, y6, fun q => absurd q y7⟩
  by_cases c3 : H = 164557
  · have ek : k_kind H = 3 := by rw [c3]; decide
    rw [if_neg (by rw [c3]; decide)] at i0
    rw [if_neg (by rw [c3]; decide)] at i1
    rw [if_neg (by rw [c3]; decide)] at i2
    rw [if_pos c3] at i3
    rw [if_neg (by rw [c3]; decide)] at i4
    have rcl : f_X8_readClause r (Int32.ofNat cl) D1 = (if Int32.ofNat cl < (16 : Int32) then some (D1) else (f_X8_fail (3 : Int32) (Int32.ofNat a) D1).bind fun x => some x).bind (k_rest r 0 0 0 1 0) := by
      unfold f_X8_readClause
      rw [i0, Option.bind_some, i1, Option.bind_some, i2, Option.bind_some, i3, Option.bind_some, i4, Option.bind_some, if_pos rfl, if_pos rfl, if_pos rfl, if_neg k_10, d3]
      rfl
    rw [ek] at rk
    refine ⟨D1, ?_⟩
    rw [rcl, ecl _ rk, if_neg (show ¬ (3 : Int32) = -1 by decide), m6, hrr.2.2.2.1]
    by_cases cc : cl < 16
    · rw [if_pos (by rw [j_lt, j_nat (by omega), e16]; omega), if_neg (by rw [j_eq, j_nat (by omega), e16]; omega), Option.bind_some, Option.bind_some]
      obtain ⟨D2, D3, E3, y1, y2, y3, y4, y5, y6, y7⟩ := k_rest_hiss hr hrw sR cc p7 m1 row1 p119 p8 m5
      exact ⟨D2, D3, E3, d1, y1, y2, y3 E hE rsk, y4, k_cc_trans (k_cc_of d5) y5, k_cr_trans (k_cr_of w1) y6, fun q => (y7 q).2⟩
    · rw [if_neg (by rw [j_lt, j_nat (by omega), e16]; omega), if_pos (by rw [j_eq, j_nat (by omega), e16]; omega)]
      obtain ⟨D2, E2, y1, y2, y3, y4, y5, y6, y7⟩ := k_clko (r := r) (kd := 3) (x2 := 0) (x4 := 0) (x6 := 0) (x8 := 1) (x10 := 0) (k := 3) (p := Int32.ofNat a) d2 hrr hD1 hE (by decide)
      exact ⟨D2, D2, E2, d1, y1, y2, y3, y4, k_cc_trans (k_cc_of d5) y5, y6, fun q => absurd q y7⟩
  by_cases c4 : H = 6412
  · have ek : k_kind H = 4 := by rw [c4]; decide
    rw [if_neg (by rw [c4]; decide)] at i0
    rw [if_neg (by rw [c4]; decide)] at i1
    rw [if_neg (by rw [c4]; decide)] at i2
    rw [if_neg (by rw [c4]; decide)] at i3
    rw [if_pos c4] at i4
    have rcl : f_X8_readClause r (Int32.ofNat cl) D1 = (if Int32.ofNat cl < (16 : Int32) then some (D1) else (f_X8_fail (3 : Int32) (Int32.ofNat a) D1).bind fun x => some x).bind (k_rest r 0 0 0 0 1) := by
      unfold f_X8_readClause
      rw [i0, Option.bind_some, i1, Option.bind_some, i2, Option.bind_some, i3, Option.bind_some, i4, Option.bind_some, if_pos rfl, if_pos rfl, if_pos rfl, if_pos rfl, if_neg k_10, d3]
      rfl
    rw [ek] at rk
    refine ⟨D1, ?_⟩
    rw [rcl, ecl _ rk, if_neg (show ¬ (4 : Int32) = -1 by decide), m6, hrr.2.2.2.1]
    by_cases cc : cl < 16
    · rw [if_pos (by rw [j_lt, j_nat (by omega), e16]; omega), if_neg (by rw [j_eq, j_nat (by omega), e16]; omega), Option.bind_some, Option.bind_some]
      obtain ⟨D2, D3, E3, y1, y2, y3, y4, y5, y6, y7⟩ := k_rest_hum hr hrw sR cc p7 m1 row1 p119 p8 m5
      exact ⟨D2, D3, E3, d1, y1, y2, y3 E hE rsk, y4, k_cc_trans (k_cc_of d5) y5, k_cr_trans (k_cr_of w1) y6, fun q => (y7 q).2⟩
    · rw [if_neg (by rw [j_lt, j_nat (by omega), e16]; omega), if_pos (by rw [j_eq, j_nat (by omega), e16]; omega)]
      obtain ⟨D2, E2, y1, y2, y3, y4, y5, y6, y7⟩ := k_clko (r := r) (kd := 4) (x2 := 0) (x4 := 0) (x6 := 0) (x8 := 0) (x10 := 1) (k := 3) (p := Int32.ofNat a) d2 hrr hD1 hE (by decide)
      exact ⟨D2, D2, E2, d1, y1, y2, y3, y4, k_cc_trans (k_cc_of d5) y5, y6, fun q => absurd q y7⟩
  have ek : k_kind H = -1 := by
    unfold k_kind
    rw [if_neg c0, if_neg c1, if_neg c2, if_neg c3, if_neg c4]
  rw [if_neg c0] at i0
  rw [if_neg c1] at i1
  rw [if_neg c2] at i2
  rw [if_neg c3] at i3
  rw [if_neg c4] at i4
  have rcl : f_X8_readClause r (Int32.ofNat cl) D1 = ((f_X8_fail (1 : Int32) (Int32.ofNat a) D1).bind fun x => some x).bind (k_rest r 0 0 0 0 0) := by
    unfold f_X8_readClause
    rw [i0, Option.bind_some, i1, Option.bind_some, i2, Option.bind_some, i3, Option.bind_some, i4, Option.bind_some, if_pos rfl, if_pos rfl, if_pos rfl, if_pos rfl, if_pos rfl, d3]
    rfl
  rw [ek] at rk
  refine ⟨D1, ?_⟩
  rw [rcl, ecl _ rk, if_pos rfl, hrr.2.2.2.1]
  obtain ⟨D2, E2, y1, y2, y3, y4, y5, y6, y7⟩ := k_clko (r := r) (kd := -1) (x2 := 0) (x4 := 0) (x6 := 0) (x8 := 0) (x10 := 0) (k := 1) (p := Int32.ofNat a) d2 hrr hD1 hE (by decide)
  exact ⟨D2, D2, E2, d1, y1, y2, y3, y4, k_cc_trans (k_cc_of d5) y5, y6, fun q => absurd q y7⟩
/-- how things stand ahead of a clause -/
def k_st (n : Nat) (B : Nat → Int32) (D E : am_D) : Prop := (∃ a, k_tc n B D a ∧ k_tr n B E (k_skp k_P32 n B a) ∧ D.1 69 2 = 0 ∧ E.1 117 5 = 0 ∧ E.1 117 6 = -1) ∨ (∃ a b, k_tc n B D a ∧ k_tr n B E b ∧ ¬ D.1 69 2 = 0 ∧ E.1 117 5 = D.1 69 2 ∧ E.1 117 6 = D.1 69 3)
/-- the blanks behind a clause, in the reference -/
theorem k_R_st {n : Nat} {B : Nat → Int32} {D E : am_D} (h : k_RR n B D E) : ∃ E2, f_X12_blanks E = some E2 ∧ k_st n B D E2 ∧ k_wr E E2 ∧ E2.1 117 5 = E.1 117 5 := by
  obtain ⟨a, b, h1, h2, h3⟩ := h
  obtain ⟨s1, s2, s3, s4⟩ := k_skp_spec (B := B) k_P32_1 h2.1
  refine ⟨_, k_rblank h2, ?_, k_wr_w E 4 _ (by omega), k_wj _ _ (by decide)⟩
  rcases h3 with ⟨rfl, x1, x2, x3⟩ | ⟨x1, x2, x3⟩
  · exact Or.inl ⟨a, h1, k_tr_w h2 s2, x1, by rw [k_wj _ _ (by decide), x2], by rw [k_wj _ _ (by decide), x3]⟩
  · exact Or.inr ⟨a, _, h1, k_tr_w h2 s2, x1, by rw [k_wj _ _ (by decide), x2], by rw [k_wj _ _ (by decide), x3]⟩
/-- is there more? -/
theorem k_more1 {n a : Nat} {B : Nat → Int32} {D : am_D} (h : k_tc n B D a) (hD : D.1 69 2 = 0) : ∃ D2, D2 = am_wI D 69 4 (Int32.ofNat (k_skp k_P32 n B a)) ∧ k_tc n B D2 (k_skp k_P32 n B a) ∧ D2.1 69 2 = 0 ∧ k_wc D D2 ∧ f_X8_moreComes D = some (if n ≤ k_skp k_P32 n B a then 0 else 1, D2) := by
  obtain ⟨s1, s2, s3, s4⟩ := k_skp_spec (B := B) k_P32_1 h.1
  have hn := h.2.1
  obtain ⟨D2, hD2⟩ : ∃ X, X = am_wI D 69 4 (Int32.ofNat (k_skp k_P32 n B a)) := ⟨_, rfl⟩
  have t2 : k_tc n B D2 (k_skp k_P32 n B a) := by rw [hD2]; exact k_tc_w h s2
  have f2 : D2.1 69 2 = 0 := by rw [hD2, k_wj _ _ (by decide), hD]
  refine ⟨D2, hD2, t2, f2, by rw [hD2]; exact k_wc_w D 4 _ (by omega), ?_⟩
  unfold f_X8_moreComes
  rw [k_cblank h, ← hD2, Option.bind_some, if_pos f2, t2.2.2.1, t2.2.2.2.1]
  by_cases c : n ≤ k_skp k_P32 n B a
  · rw [if_pos c, if_pos (by rw [j_le, j_nat (by omega), j_nat (by omega)]; omega)]
  · rw [if_neg c, if_neg (by rw [j_le, j_nat (by omega), j_nat (by omega)]; omega)]
theorem k_more0 {n a : Nat} {B : Nat → Int32} {D : am_D} (h : k_tc n B D a) (hD : ¬ D.1 69 2 = 0) : ∃ D2, D2 = am_wI D 69 4 (Int32.ofNat (k_skp k_P32 n B a)) ∧ k_tc n B D2 (k_skp k_P32 n B a) ∧ D2.1 69 2 = D.1 69 2 ∧ D2.1 69 3 = D.1 69 3 ∧ k_wc D D2 ∧ f_X8_moreComes D = some (0, D2) := by
  obtain ⟨s1, s2, s3, s4⟩ := k_skp_spec (B := B) k_P32_1 h.1
  obtain ⟨D2, hD2⟩ : ∃ X, X = am_wI D 69 4 (Int32.ofNat (k_skp k_P32 n B a)) := ⟨_, rfl⟩
  have f2 : D2.1 69 2 = D.1 69 2 := by rw [hD2, k_wj _ _ (by decide)]
  refine ⟨D2, hD2, by rw [hD2]; exact k_tc_w h s2, f2, by rw [hD2, k_wj _ _ (by decide)], by rw [hD2]; exact k_wc_w D 4 _ (by omega), ?_⟩
  unfold f_X8_moreComes
  rw [k_cblank h, ← hD2, Option.bind_some, if_neg (by rw [f2]; exact hD)]
theorem k_md_mv {D E D2 E2 : am_D} {r cl : Nat} (h : k_md D E r cl) (h1 : D2.1 r = D.1 r) (h2 : D2.1 (r + 1) = D.1 (r + 1)) (h3 : E2.1 119 = E.1 119) (h4 : E2.1 117 8 = E.1 117 8) (h5 : E2.1 117 7 = E.1 117 7) : k_md D2 E2 r cl := by
  obtain ⟨made, g, m1, m2, m3, m4, m5, m6, m7⟩ := h
  exact ⟨made, g, m1, j_row_fr m2 h1 h2, k_arr_by m3 h3, by rw [h4]; exact m4, m5, by rw [h5]; exact m6, m7⟩
theorem k_sloop {n r : Nat} {B : Nat → Int32} (hr : 30 ≤ r ∧ r < 40) (hrw : j_rw r 600) : ∀ rem cl D E fu1 fu2, cl + rem = 17 → rem < fu1 → rem < fu2 → k_st n B D E → (D.1 69 2 = 0 → k_md D E r cl) →
    ∃ D2 E2, f_X8_readSound_L7 r fu1 (Int32.ofNat cl) D = some D2 ∧ f_X12_sound_L57 fu2 E = some E2 ∧ k_RR n B D2 E2 ∧ k_cc r D D2 ∧ k_crr E E2 ∧ (D2.1 69 2 = 0 → ∃ cl2, k_md D2 E2 r cl2)
  | rem, cl, D, E, 0, _, _, h, _, _, _ => absurd h (by omega)
  | rem, cl, D, E, _, 0, _, _, h, _, _ => absurd h (by omega)
  | rem, cl, D, E, fu1 + 1, fu2 + 1, hrem, h1, h2, hst, hmd => by
    have e16 : (16 : Int32).toInt = 16 := rfl
    rcases hst with ⟨a, t1, t2, x1, x2, x3⟩ | ⟨a, b, t1, t2, x1, x2, x3⟩
    · have md := hmd x1
      have hcl : cl ≤ 16 := by
        obtain ⟨made, g, m1, m2, m3, m4, m5, m6, m7⟩ := md
        exact m7
      have hn := t1.2.1
      obtain ⟨s1, s2, s3, s4⟩ := k_skp_spec (B := B) k_P32_1 t1.1
      obtain ⟨D1, hD1, u1, u2, u3, u4⟩ := k_more1 t1 x1
      rw [f_X8_readSound_L7, f_X12_sound_L57, if_neg (by rw [j_lt, j_nat (by omega), e16]; omega), u4, Option.bind_some, if_pos x2, t2.2.2.1, t2.2.2.2.1]
      have md1 : k_md D1 E r cl := k_md_mv md (u3.1 r (by omega)) (u3.1 (r + 1) (by omega)) rfl rfl rfl
      by_cases c : n ≤ k_skp k_P32 n B a
      · rw [if_pos c, if_pos rfl, if_pos (by rw [j_le, j_nat (by omega), j_nat (by omega)]; omega)]
        exact ⟨D1, E, rfl, rfl, ⟨_, _, u1, t2, Or.inl ⟨rfl, u2, x2, x3⟩⟩, k_cc_of u3, k_cr_of (k_wr_refl E), fun _ => ⟨cl, md1⟩⟩
      · rw [if_neg c, if_neg k_10, if_neg (by rw [j_le, j_nat (by omega), j_nat (by omega)]; omega)]
        obtain ⟨D2, D3, D4, E4, y1, y2, y3, y4, y5, y6, y7, y8⟩ := k_clause hr hrw u1 t2 u2 x2 x3 s3 md1
        obtain ⟨E5, z1, z2, z3, z4⟩ := k_R_st y5
        rw [y1, Option.bind_some, y2, Option.bind_some, y3, Option.bind_some, y4, Option.bind_some, z1, Option.bind_some, j_suc]
        obtain ⟨D6, E6, v1, v2, v3, v4, v5, v6⟩ := k_sloop hr hrw (rem - 1) (cl + 1) D4 E5 fu1 fu2 (by omega) (by omega) (by omega) z2 (fun q => k_md_mv (y8 q) rfl rfl (z3.1 119 (by decide)) (z3.2.2 8 (by decide) (by decide) (by decide)) (z3.2.2 7 (by decide) (by decide) (by decide)))
        exact ⟨D6, E6, v1, v2, v3, k_cc_trans (k_cc_of u3) (k_cc_trans y6 v4), k_cr_trans y7 (k_cr_trans (k_cr_of z3) v5), v6⟩
    · rw [f_X12_sound_L57, if_neg (by rw [x2]; exact x1), f_X8_readSound_L7]
      by_cases c : (16 : Int32) < Int32.ofNat cl
      · rw [if_pos c]
        exact ⟨D, E, rfl, rfl, ⟨a, b, t1, t2, Or.inr ⟨x1, x2, x3⟩⟩, k_cc_of (k_wc_refl D), k_cr_of (k_wr_refl E), fun q => absurd q x1⟩
      · obtain ⟨D1, hD1, u1, u2, u2b, u3, u4⟩ := k_more0 t1 x1
        rw [if_neg c, u4, Option.bind_some, if_pos rfl]
        exact ⟨D1, E, rfl, rfl, ⟨_, b, u1, t2, Or.inr ⟨by rw [u2]; exact x1, by rw [u2]; exact x2, by rw [u2b]; exact x3⟩⟩, k_cc_of u3, k_cr_of (k_wr_refl E), fun q => absurd (u2.symm.trans q) x1⟩
/-- the latest text is taken -/
theorem k_takeText {D : am_D} {n : Nat} (hn : n ≤ 300) : ∃ D2, f_X8_takeText (Int32.ofNat n) D = some D2 ∧ D2.1 69 1 = 0 ∧ D2.1 69 4 = 0 ∧ D2.1 69 5 = Int32.ofNat n ∧ D2.1 69 2 = 0 ∧ D2.1 69 3 = 0 ∧ (∀ y, y ≠ 69 → D2.1 y = D.1 y) ∧ D2.2 = D.2 := by
  obtain ⟨D2, hD2⟩ : ∃ X, X = am_wI (am_wI (am_wI (am_wI (am_wI D 69 1 0) 69 4 0) 69 5 (Int32.ofNat n)) 69 2 0) 69 3 0 := ⟨_, rfl⟩
  have eb : f_X11_bounded (Int32.ofNat n) 0 300 = some (Int32.ofNat n) := by
    have := j_boundedN n 300 (by omega) (by omega)
    have z : min n 300 = n := (by omega)
    rw [z] at this
    exact this
  refine ⟨D2, ?_, ?_, ?_, ?_, ?_, ?_, fun y hy => by rw [hD2, j_wI_ne _ _ _ hy, j_wI_ne _ _ _ hy, j_wI_ne _ _ _ hy, j_wI_ne _ _ _ hy, j_wI_ne _ _ _ hy], by rw [hD2]; rfl⟩
  · unfold f_X8_takeText
    rw [Option.bind_some, Option.bind_some, eb, Option.bind_some, Option.bind_some, Option.bind_some, Option.bind_some, ← hD2]
  · rw [hD2, k_wj _ _ (by decide), k_wj _ _ (by decide), k_wj _ _ (by decide), k_wj _ _ (by decide), k_ws]
  · rw [hD2, k_wj _ _ (by decide), k_wj _ _ (by decide), k_wj _ _ (by decide), k_ws]
  · rw [hD2, k_wj _ _ (by decide), k_wj _ _ (by decide), k_ws]
  · rw [hD2, k_wj _ _ (by decide), k_ws]
  · rw [hD2, k_ws]
theorem k_begins {E : am_D} {n : Nat} {B : Nat → Int32} (hn : n ≤ 300) (hB : ∀ k, k < n → E.1 118 k = B k) : ∃ E2, f_X12_begins (Int32.ofNat n) E = some E2 ∧ k_tr n B E2 (k_skp k_P32 n B 0) ∧ E2.1 117 5 = 0 ∧ E2.1 117 6 = -1 ∧ E2.1 117 7 = 0 ∧ E2.1 117 8 = 0 ∧ (∀ y, y ≠ 117 → E2.1 y = E.1 y) ∧ (∀ j, j ≠ 2 → (j < 4 ∨ 8 < j) → E2.1 117 j = E.1 117 j) ∧ E2.2 = E.2 := by
  obtain ⟨E1, hE1⟩ : ∃ X, X = am_wI (am_wI (am_wI (am_wI (am_wI (am_wI E 117 2 (Int32.ofNat n)) 117 4 0) 117 5 0) 117 6 (-1)) 117 7 0) 117 8 0 := ⟨_, rfl⟩
  have fy : ∀ y, y ≠ 117 → E1.1 y = E.1 y := fun y hy => by rw [hE1, j_wI_ne _ _ _ hy, j_wI_ne _ _ _ hy, j_wI_ne _ _ _ hy, j_wI_ne _ _ _ hy, j_wI_ne _ _ _ hy, j_wI_ne _ _ _ hy]
  have t : k_tr n B E1 0 := by
    refine ⟨(by omega), hn, ?_, ?_, fun k hk => by rw [fy 118 (by decide)]; exact hB k hk⟩
    · rw [hE1, k_wj _ _ (by decide), k_wj _ _ (by decide), k_wj _ _ (by decide), k_wj _ _ (by decide), k_wj _ _ (by decide), k_ws]
    · rw [hE1, k_wj _ _ (by decide), k_wj _ _ (by decide), k_wj _ _ (by decide), k_wj _ _ (by decide), k_ws]
      rfl
  obtain ⟨s1, s2, s3, s4⟩ := k_skp_spec (B := B) k_P32_1 t.1
  refine ⟨am_wI E1 117 4 (Int32.ofNat (k_skp k_P32 n B 0)), ?_, k_tr_w t s2, ?_, ?_, ?_, ?_, fun y hy => by rw [j_wI_ne _ _ _ hy, fy y hy], fun j a b => ?_, by rw [hE1]; rfl⟩
  · unfold f_X12_begins
    rw [Option.bind_some, Option.bind_some, Option.bind_some, Option.bind_some, Option.bind_some, Option.bind_some, ← hE1, k_rblank t, Option.bind_some]
  · rw [k_wj _ _ (by decide), hE1, k_wj _ _ (by decide), k_wj _ _ (by decide), k_wj _ _ (by decide), k_ws]
  · rw [k_wj _ _ (by decide), hE1, k_wj _ _ (by decide), k_wj _ _ (by decide), k_ws]
  · rw [k_wj _ _ (by decide), hE1, k_wj _ _ (by decide), k_ws]
  · rw [k_wj _ _ (by decide), hE1, k_ws]
  · rw [k_wj _ _ (show j ≠ 4 by omega), hE1, k_wj _ _ (show j ≠ 8 by omega), k_wj _ _ (show j ≠ 7 by omega), k_wj _ _ (show j ≠ 6 by omega), k_wj _ _ (show j ≠ 5 by omega), k_wj _ _ (show j ≠ 4 by omega), k_wj _ _ (show j ≠ 2 by omega)]
/-- the text's numbers, at the call's begin -/
theorem k_want (p : Int32) {tp : Nat} (D : am_D) (h : D.1 69 1 = Int32.ofNat tp) (ht : tp ≤ 300) : (if p < 0 then some ((0 : Int32)) else if (D.1 69 1) < p then some ((0 : Int32)) else some ((1 : Int32))) = some (if 0 ≤ p.toInt ∧ p.toInt ≤ tp then 1 else 0) := by
  have e0 : (0 : Int32).toInt = 0 := rfl
  rw [h]
  by_cases c1 : p < 0
  · rw [if_pos c1, if_neg (by rw [j_lt, e0] at c1; omega)]
  · rw [if_neg c1]
    rw [j_lt, e0] at c1
    by_cases c2 : Int32.ofNat tp < p
    · rw [if_pos c2, if_neg (by rw [j_lt, j_nat (by omega)] at c2; omega)]
    · rw [if_neg c2, if_pos (by rw [j_lt, j_nat (by omega)] at c2; omega)]
theorem k_rwS600 (s : Nat) (h : s < 5) : j_rw (30 + 2 * s) 600 := k_rwS s h
theorem op_sound {D E : am_D} (h : k_Q D E) (p : Int32) : k_opE D E (f_X11_sound p D) (f_X12_sound p E) ["java/lang/IllegalArgumentException"] := by
  obtain ⟨E0, hE0, t0, f0, q0⟩ := k_start h
  have q0' := q0
  obtain ⟨ns, nm, nw, np, nh, ni, h1, h2, h3, h4, h5, h6, h7, h8, h9⟩ := q0'

  have h9' := h9
  obtain ⟨tp, u1, u2, u3, u4, u5⟩ := h9'
  have e0 : (0 : Int32).toInt = 0 := rfl
  have e5 : (5 : Int32).toInt = 5 := rfl
  have hns := h1.1
  unfold f_X12_sound f_X11_sound
  rw [k_want p D u2 u1, Option.bind_some, Option.bind_some, ← hE0, u3, k_in, e0, j_nat (show tp < 2147483648 by omega), Option.bind_some]
  by_cases c : 0 ≤ p.toInt ∧ p.toInt ≤ tp
  · obtain ⟨n, rfl, hn⟩ : ∃ n, p = Int32.ofNat n ∧ n ≤ tp := ⟨p.toInt.toNat, j_of c.1, (by omega)⟩
    rw [if_pos c, k_needT, k_nT E0 1 t0, if_pos rfl, Option.bind_some, Option.bind_some]
    obtain ⟨D1, d0, d1, d2, d3, d4, d5, d6, d7⟩ := k_takeText (D := D) (n := n) (by omega)
    obtain ⟨E1, hE1⟩ : ∃ X, X = am_wI (am_wI E0 117 1 0) 117 3 (-1) := ⟨_, rfl⟩
    have y1 : ∀ y, y ≠ 117 → E1.1 y = E0.1 y := fun y hy => by rw [hE1, j_wI_ne _ _ _ hy, j_wI_ne _ _ _ hy]
    have y2 : ∀ j, j ≠ 1 → j ≠ 3 → E1.1 117 j = E0.1 117 j := fun j a b => by rw [hE1, k_wj _ _ b, k_wj _ _ a]
    have y3 : E1.1 117 1 = 0 := by rw [hE1, k_wj _ _ (by decide), k_ws]
    have y4 : E1.1 117 3 = -1 := by rw [hE1, k_ws]
    have y5 : E1.2 = E0.2 := by rw [hE1]; rfl
    rw [d0, Option.bind_some, ← hE1, y2 12 (by decide) (by decide), h1.2.2.1, k_freeS (by rw [d6 17 (by decide)]; exact h1.2.1) hns]
    by_cases cs : ns < 5
    · rw [if_pos cs, if_neg (by rw [j_eq, j_nat (by omega), e5]; omega)]
      show k_opE D E ((f_X8_readSound (30 + 2 * ns) D1).bind _) _ _
      obtain ⟨r, hr⟩ : ∃ r, r = 30 + 2 * ns := ⟨_, rfl⟩
      have hrr : 30 ≤ r ∧ r < 40 := (by omega)
      have hrw : j_rw r 600 := by rw [hr]; exact k_rwS ns cs
      rw [← hr]
      obtain ⟨B, hB⟩ : ∃ B : Nat → Int32, B = D.1 70 := ⟨_, rfl⟩
      obtain ⟨D2, s0, s1, s2⟩ := j_row_start (D := D1) hrw 0 (by omega)
      have s0 : f_X7_start r (0 : Int32) D1 = some D2 := s0
      have s69 : D2.1 69 = D1.1 69 := (s2 69 (by omega)).1
      have tc : k_tc n B D2 0 := ⟨(by omega), (by omega), by rw [s69]; exact d3, by rw [s69, d2]; rfl, fun k hk => by rw [(s2 70 (by omega)).1, d6 70 (by decide), hB]⟩
      obtain ⟨E2, b0, b1, b2, b3, b4, b5, b6, b7, b8⟩ := k_begins (E := E1) (n := n) (B := B) (by omega) (fun k hk => by rw [y1 118 (by decide), ← u4 k (by omega), hB])
      have md : k_md D2 E2 r 0 := ⟨0, fun _ => 0, (by omega), s1, fun k hk => absurd hk (by omega), by rw [b5]; rfl, k_bnd0, by rw [b4]; rfl, (by omega)⟩
      obtain ⟨D3, E3, l1, l2, l3, l4, l5, l6⟩ := k_sloop hrr hrw 17 0 D2 E2 am_fu am_fu (by omega) (by unfold am_fu; omega) (by unfold am_fu; omega) (Or.inl ⟨0, tc, b1, by rw [s69]; exact d4, b2, b3⟩) (fun _ => md)
      have l1 : f_X8_readSound_L7 r am_fu (0 : Int32) D2 = some D3 := l1
      have l69 : D3.1 69 1 = 0 := by rw [l4.2.2 1 (by decide) (by decide) (by decide) (by decide) (by decide), s69, d1]
      have l5' : D3.1 69 5 = Int32.ofNat n := by rw [l4.2.2 5 (by decide) (by decide) (by decide) (by decide) (by decide), s69, d3]
      have x1 : E3.1 117 1 = 0 := by rw [l5.2.2 1 (by decide) (by decide) (by decide) (by decide) (by decide), b7 1 (by decide) (by omega), y3]
      have cD : ∀ y, y ≠ 69 ∧ y ≠ r ∧ y ≠ r + 1 → D3.1 y = D.1 y := fun y hy => by rw [l4.1 y (by omega) (by omega) (by omega), (s2 y (by omega)).1, d6 y (by omega)]
      have cD2 : ∀ y, y ≠ r → y ≠ r + 1 → D3.2 y = D.2 y := fun y a b => by rw [l4.2.1 y a b, (s2 y (by omega)).2, d7]
      have cE : ∀ y, y ≠ 117 ∧ y ≠ 119 → E3.1 y = E0.1 y := fun y hy => by rw [l5.1 y (by omega) (by omega), b6 y (by omega), y1 y (by omega)]
      have cE2 : E3.2 = E0.2 := by rw [l5.2.1, b8, y5]
      have cEj : ∀ j, 8 < j → E3.1 117 j = E0.1 117 j := fun j hj => by rw [l5.2.2 j (by omega) (by omega) (by omega) (by omega) (by omega), b7 j (by omega) (by omega), y2 j (by omega) (by omega)]
      -- how a fault ends
      have flt : ∀ D4 E4 : am_D, k_wc D3 D4 → k_wr E3 E4 → ¬ D4.1 69 2 = 0 → E4.1 117 5 = D4.1 69 2 → E4.1 117 6 = D4.1 69 3 → k_opE D E (if (D4.1 69 2) = 0 then (f_X1_takeSound D4).bind fun x15 => some (.inr (x15.1, x15.2)) else some (.inr (((D4.1 69 2) - (10 : Int32)), D4))) ((some (am_wI E4 117 3 (E4.1 117 6))).bind fun D31 => if (D31.1 117 5) = 0 then (f_X12_keeps 119 (D31.1 117 8) D31).bind fun x35 => some (x35.1, x35.2) else some (((D31.1 117 5) - (10 : Int32)), D31)) ["java/lang/IllegalArgumentException"] := by
        intro D4 E4 w1 w2 g1 g2 g3
        obtain ⟨E5, hE5⟩ : ∃ X, X = am_wI E4 117 3 (E4.1 117 6) := ⟨_, rfl⟩
        have e55 : E5.1 117 5 = D4.1 69 2 := by rw [hE5, k_wj _ _ (by decide), g2]
        rw [if_neg g1, Option.bind_some, ← hE5, e55, if_neg g1]
        have dD : ∀ y, y ≠ 69 ∧ y ≠ r ∧ y ≠ r + 1 → D4.1 y = D.1 y := fun y hy => by rw [w1.1 y hy.1]; exact cD y hy
        have eE : ∀ y, y ≠ 117 ∧ y ≠ 119 → E5.1 y = E0.1 y := fun y hy => by rw [hE5, j_wI_ne _ _ _ hy.1, w2.1 y hy.1]; exact cE y hy
        have e117 : ∀ j, 8 < j → E5.1 117 j = E0.1 117 j := fun j hj => by rw [hE5, k_wj _ _ (by omega), w2.2.2 j (by omega) (by omega) (by omega)]; exact cEj j hj
        have d17 : ∀ j : Nat, 0 ≤ j → D4.1 17 j = D.1 17 j := fun j _ => by rw [dD 17 (by omega)]
        have t5 : E5.1 117 0 = 0 := by rw [hE5, k_wj _ _ (by decide), w2.2.2 0 (by decide) (by decide) (by decide), l5.2.2 0 (by decide) (by decide) (by decide) (by decide) (by decide), b7 0 (by decide) (by omega), y2 0 (by decide) (by decide), t0]
        refine k_valE _ ⟨ns, nm, nw, np, nh, ni, ⟨h1.1, by rw [d17 7 (by omega)]; exact h1.2.1, by rw [e117 12 (by omega)]; exact h1.2.2.1, fun s hs => ?_⟩, k_Rm_mv h2 (d17 8 (by omega)) (e117 13 (by omega)) (fun y a b => dD y (by omega)) (eE _ (by omega)) (fun y a b => eE y (by omega)), k_Rn_mv h3 (dD _ (by omega)) (fun j _ => d17 j (by omega)) (dD _ (by omega)) (fun j a b => e117 j (by omega)) (eE _ (by omega)), k_Rw_mv h4 (d17 9 (by omega)) (e117 20 (by omega)) (fun y a b => dD y (by omega)) (fun y a b => eE y (by omega)), k_Rp_mv h5 (by rw [dD 24 (by omega)]) (e117 21 (by omega)) (fun y a b => dD y (by omega)) (fun y a b => eE y (by omega)), k_Rh_mv h6 (d17 10 (by omega)) (e117 22 (by omega)) (dD _ (by omega)) (eE _ (by omega)), k_Ri_mv h7 (fun _ => Nat.le_refl _) (by rw [dD 16 (by omega)]) (e117 23 (by omega)) (fun y a b => dD y (by omega)) (fun y a b => eE y (by omega)) (fun s hs => by have hs : s < ns := hs; have := h1.1; exact ⟨by rw [eE 139 (by omega)], fun k _ => by rw [eE (134 + s) (by omega)]⟩) (fun m hm => by have hm : m < nm := hm; have := h2.1; exact ⟨by rw [eE 201 (by omega)], fun k j _ _ => by rw [eE _ (by omega)]⟩) (fun w j hw _ => by have hw : w < nw := hw; have := h4.1; rw [eE _ (by omega)]) (fun p j hp _ => by have hp : p < np := hp; have := h5.1; rw [eE _ (by omega)]) (fun z _ => by rw [eE 203 (by omega)]), k_Rd_mv h8 (fun y a b => dD y (by omega)) (fun j a b => e117 j (by omega)) (fun y _ => ⟨by rw [eE 221 (by omega)], by rw [eE 222 (by omega)]⟩) (fun y _ => by rw [eE 223 (by omega)]) (fun q _ hq k y hk _ => by rw [eE (225 + k) (by omega)]), ⟨0, (by omega), ?_, ?_, fun k hk => absurd hk (by omega), ?_⟩⟩ t5 (k_fr_trans f0 (fun y hy => ⟨eE y (by omega), ?_⟩)) (fun y hy => ⟨dD y (by omega), ?_⟩) rfl rfl
        · obtain ⟨m, f, b⟩ := h1.2.2.2 s hs
          exact ⟨m, f, k_snd_mv b (dD _ (by omega)) (dD _ (by omega)) (by rw [eE 139 (by omega)]) (eE _ (by omega))⟩
        · rw [w1.2.2 1 (by decide) (by decide) (by decide) (by decide) (by decide), l69]; rfl
        · rw [hE5, k_wj _ _ (by decide), w2.2.2 1 (by decide) (by decide) (by decide), x1]; rfl
        · rw [if_neg g1, hE5, k_ws, g3]
        · rw [hE5]
          show E4.2 y = E0.2 y
          rw [w2.2.1, cE2]
        · rw [w1.2.1]
          exact cD2 y (by omega) (by omega)
      have cl : f_X8_readSound r D1 = if (D3.1 r 1) = 0 then (f_X8_fail (4 : Int32) (Int32.ofNat n) D3).bind fun x16 => some x16 else some D3 := by
        unfold f_X8_readSound
        rw [s0, Option.bind_some, l1, Option.bind_some, l5']
      rw [cl, b0, Option.bind_some, l2, Option.bind_some]
      obtain ⟨pa, pb, p1, p2, ⟨rfl, p3, p4, p5⟩ | ⟨p3, p4, p5⟩⟩ := l3
      · obtain ⟨cl2, made, g, m1, m2, m3, m4, m5, m6, m7⟩ := l6 p3
        rw [if_pos p4, m2.2.2.1, m4]
        by_cases cm : made = 0
        · have cz : Int32.ofNat made = 0 := by rw [cm]; rfl
          rw [if_pos cz, if_pos cz, p2.2.2.1]
          obtain ⟨D4, E4, z1, z2, z3, z4, z5, z6, z7, z8⟩ := k_flt p1 p2 p3 p4 4 (Int32.ofNat n) (by decide)
          rw [z1, z2]
          have f4 : ¬ D4.1 69 2 = 0 := by rw [z4]; decide
          have f6 : E4.1 117 6 = D4.1 69 3 := by
            obtain ⟨_, _, _, _, ⟨_, q, _⟩ | ⟨_, _, q⟩⟩ := z3
            · exact absurd q f4
            · exact q
          exact flt D4 E4 z6 z7 f4 (by rw [z4, z5]) f6
        · have cz : ¬ Int32.ofNat made = 0 := fun q => cm (k_ofN_inj (b := 0) q (by omega) (by omega))
          rw [if_neg cz, if_neg cz, Option.bind_some, Option.bind_some, Option.bind_some]
          obtain ⟨E4, hE4⟩ : ∃ X, X = am_wI E3 117 3 (E3.1 117 6) := ⟨_, rfl⟩
          have e45 : E4.1 117 5 = 0 := by rw [hE4, k_wj _ _ (by decide), p4]
          have e48 : E4.1 117 8 = Int32.ofNat made := by rw [hE4, k_wj _ _ (by decide), m4]
          have e4y : ∀ y, y ≠ 117 → E4.1 y = E3.1 y := fun y hy => by rw [hE4, j_wI_ne _ _ _ hy]
          have e4j : ∀ j, j ≠ 3 → E4.1 117 j = E3.1 117 j := fun j hj => by rw [hE4, k_wj _ _ hj]
          obtain ⟨E5, g1, g2, g3, g4, g5, g6, g7, g8⟩ := k_keeps (E := E4) (a := 119) (ns := ns) (k_arr_by m3 (e4y 119 (by decide))) (by have := k_lnA.2.2.2.2.2.1; omega) (by have := k_lnA.2.2.2.2.2.1; omega) m1 (by rw [e4j 12 (by decide), cEj 12 (by omega)]; exact h1.2.2.1) cs (by omega)
          obtain ⟨D5, hD5⟩ : ∃ X, X = am_wI D3 17 7 (Int32.ofNat (ns + 1)) := ⟨_, rfl⟩
          have d3y : ∀ y, y ≠ 17 → D5.1 y = D3.1 y := fun y hy => by rw [hD5, j_wI_ne _ _ _ hy]
          rw [if_pos p3, k_takeS (by rw [cD 17 (by omega)]; exact h1.2.1), Option.bind_some, ← hD5, ← hE4, e45, if_pos rfl, e48, g1, Option.bind_some]
          refine k_valE _ (k_addS (n := made) (f := g) h1 h2 h3 h4 h5 h6 h7 h8 ?_ cs ⟨(by omega), m1⟩ m5 ?_ ?_ ?_ ?_ g5 (fun j hj => by rw [g6 j (by omega), e4j j (by omega)]; exact cEj j (by omega)) g3 (fun j hj => by rw [g4 j hj, e4y 139 (by decide), cE 139 (by omega)]) g2 (fun y hy => by rw [g7 y (by omega) (by omega) (by omega), e4y y (by omega)]; exact cE y (by omega))) ?_ (k_fr_trans f0 (fun y hy => ⟨by rw [g7 y (by omega) (by omega) (by omega), e4y y (by omega)]; exact cE y (by omega), ?_⟩)) (fun y hy => ⟨by rw [d3y y (by omega)]; exact cD y (by omega), ?_⟩) rfl rfl
          · refine ⟨0, (by omega), ?_, ?_, fun k hk => absurd hk (by omega), ?_⟩
            · rw [d3y 69 (by decide), l69]; rfl
            · rw [g6 1 (by decide), e4j 1 (by decide), x1]; rfl
            · rw [d3y 69 (by decide), if_pos p3, g6 3 (by decide), hE4, k_ws, p5]
          · rw [← hr]
            exact j_row_fr m2 (d3y r (by omega)) (d3y (r + 1) (by omega))
          · rw [hD5, k_ws]
          · intro j hj
            rw [hD5, k_wj _ _ hj, cD 17 (by omega)]
          · intro y hy
            rw [d3y y (by omega)]
            exact cD y (by omega)
          · rw [g6 0 (by decide), e4j 0 (by decide), l5.2.2 0 (by decide) (by decide) (by decide) (by decide) (by decide), b7 0 (by decide) (by omega), y2 0 (by decide) (by decide), t0]
          · rw [g8, hE4]
            show E3.2 y = E0.2 y
            rw [cE2]
          · rw [hD5]
            show D3.2 y = D.2 y
            exact cD2 y (by omega) (by omega)
      · have q4 : ¬ E3.1 117 5 = 0 := by rw [p4]; exact p3
        have nn : (if (D3.1 r 1) = 0 then (f_X8_fail (4 : Int32) (Int32.ofNat n) D3).bind fun x16 => some x16 else some D3) = some D3 := by
          by_cases q : D3.1 r 1 = 0
          · rw [if_pos q, k_cfail0 _ _ p3, Option.bind_some]
          · rw [if_neg q]
        rw [nn, if_neg q4]
        exact flt D3 E3 (k_wc_refl D3) (k_wr_refl E3) p3 p4 p5
    · rw [if_neg cs, if_pos (by rw [j_eq, j_nat (by omega), e5]; omega)]
      have dD : ∀ y, y ≠ 69 → D1.1 y = D.1 y := d6
      have d17 : ∀ j : Nat, 0 ≤ j → D1.1 17 j = D.1 17 j := fun j _ => by rw [d6 17 (by decide)]
      have eE : ∀ y, y ≠ 117 → E1.1 y = E0.1 y := y1
      have e117 : ∀ j, j ≠ 1 ∧ j ≠ 3 → E1.1 117 j = E0.1 117 j := fun j hj => y2 j hj.1 hj.2
      refine k_valE (-1) ⟨ns, nm, nw, np, nh, ni, k_Rs_mv h1 (d17 7 (by omega)) (e117 12 (by omega)) (fun y a b => dD y (by omega)) (eE _ (by omega)) (fun y a b => eE y (by omega)), k_Rm_mv h2 (d17 8 (by omega)) (e117 13 (by omega)) (fun y a b => dD y (by omega)) (eE _ (by omega)) (fun y a b => eE y (by omega)), k_Rn_mv h3 (dD _ (by omega)) (fun j _ => d17 j (by omega)) (dD _ (by omega)) (fun j a b => e117 j (by omega)) (eE _ (by omega)), k_Rw_mv h4 (d17 9 (by omega)) (e117 20 (by omega)) (fun y a b => dD y (by omega)) (fun y a b => eE y (by omega)), k_Rp_mv h5 (by rw [dD 24 (by omega)]) (e117 21 (by omega)) (fun y a b => dD y (by omega)) (fun y a b => eE y (by omega)), k_Rh_mv h6 (d17 10 (by omega)) (e117 22 (by omega)) (dD _ (by omega)) (eE _ (by omega)), k_Ri_mv h7 (fun _ => Nat.le_refl _) (by rw [dD 16 (by omega)]) (e117 23 (by omega)) (fun y a b => dD y (by omega)) (fun y a b => eE y (by omega)) (fun s hs => by have hs : s < ns := hs; have := h1.1; exact ⟨by rw [eE 139 (by omega)], fun k _ => by rw [eE (134 + s) (by omega)]⟩) (fun m hm => by have hm : m < nm := hm; have := h2.1; exact ⟨by rw [eE 201 (by omega)], fun k j _ _ => by rw [eE _ (by omega)]⟩) (fun w j hw _ => by have hw : w < nw := hw; have := h4.1; rw [eE _ (by omega)]) (fun p j hp _ => by have hp : p < np := hp; have := h5.1; rw [eE _ (by omega)]) (fun z _ => by rw [eE 203 (by omega)]), k_Rd_mv h8 (fun y a b => dD y (by omega)) (fun j a b => e117 j (by omega)) (fun y _ => ⟨by rw [eE 221 (by omega)], by rw [eE 222 (by omega)]⟩) (fun y _ => by rw [eE 223 (by omega)]) (fun q _ hq k y hk _ => by rw [eE (225 + k) (by omega)]), ⟨0, (by omega), by rw [d1]; rfl, by rw [y3]; rfl, fun k hk => absurd hk (by omega), by rw [y4, d4, if_pos rfl]⟩⟩ (by rw [y2 0 (by decide) (by decide), t0]) (k_fr_trans f0 (fun y hy => ⟨eE y (by omega), by rw [y5]⟩)) (fun y hy => ⟨dD y (by omega), by rw [d7]⟩) rfl rfl
  · rw [if_neg c, k_needF, k_nF E0 1 k_10 t0, if_neg k_10]
    exact k_refE 0 0 _ q0 f0 (k_fc_refl D) rfl rfl rfl
