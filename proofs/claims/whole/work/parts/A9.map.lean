/-! map -/
def k_mrest (q1 : Nat) (F : am_D → Option am_D) (w18 : am_D) : Option am_D :=
    (f_X9_lastFrom q1 w18).bind fun x20 =>
    (f_X8_readNumber (x20 + (1 : Int32)) (600 : Int32) w18).bind fun x22 =>
    (f_X9_lastTo q1 x22.2).bind fun x24 =>
    (f_X8_readNumber (x24 + (1 : Int32)) (1200 : Int32) x22.2).bind fun x26 =>
    (f_X8_readEnd x26.2).bind fun x28 =>
    (if (x28.1 69 2) = 0 then
    (f_X9_add q1 x22.1 x26.1 x28).bind fun x32 =>
    some (x32)
    else
    some (x28)).bind fun w33 =>
    F w33
def k_rmrest (w10 : am_D) : Option am_D :=
    if (w10.1 117 5) = 0 then
    (f_X12_skipWord w10).bind fun x13 =>
    (if (x13.1 117 8) = 0 then
    some ((1 : Int32))
    else
    (am_gA 12 ((x13.1 117 8) - (1 : Int32))).bind fun j16 =>
    (am_gI x13 (121 + j16) 2 (0 : Int32)).bind fun x18 =>
    some ((x18 + (1 : Int32)))).bind fun w20 =>
    (f_X12_number w20 (600 : Int32) x13).bind fun x22 =>
    (if (x22.2.1 117 8) = 0 then
    some ((1 : Int32))
    else
    (am_gA 12 ((x22.2.1 117 8) - (1 : Int32))).bind fun j25 =>
    (am_gI x22.2 (121 + j25) 2 (1 : Int32)).bind fun x27 =>
    some ((x27 + (1 : Int32)))).bind fun w29 =>
    (f_X12_number w29 (1200 : Int32) x22.2).bind fun x31 =>
    (f_X12_sign (59 : Int32) x31.2).bind fun x33 =>
    if (x33.1 117 5) = 0 then
    (am_gA 12 (x33.1 117 8)).bind fun j35 =>
    (am_pI x33 (121 + j35) 2 (0 : Int32) x22.1).bind fun D37 =>
    (am_gA 12 (D37.1 117 8)).bind fun j39 =>
    (am_pI D37 (121 + j39) 2 (1 : Int32) x31.1).bind fun D41 =>
    (some (am_wI D41 117 8 ((D41.1 117 8) + (1 : Int32)))).bind fun D43 =>
    some D43
    else
    some x33
    else
    some w10
def k_c3 (r : Nat) (D D2 : am_D) : Prop := (∀ y, y ≠ 69 → y ≠ r → y ≠ r + 1 → y ≠ r + 2 → D2.1 y = D.1 y) ∧ (∀ y, y ≠ r → y ≠ r + 1 → y ≠ r + 2 → D2.2 y = D.2 y) ∧ ∀ j, j ≠ 2 → j ≠ 3 → j ≠ 4 → j ≠ 6 → j ≠ 7 → D2.1 69 j = D.1 69 j
def k_c4 (E E2 : am_D) : Prop := (∀ y, y ≠ 117 → (y < 121 ∨ 133 ≤ y) → E2.1 y = E.1 y) ∧ E2.2 = E.2 ∧ ∀ j, j ≠ 4 → j ≠ 5 → j ≠ 6 → j ≠ 8 → E2.1 117 j = E.1 117 j
theorem k_c3_of {r : Nat} {D D2 : am_D} (h : k_wc D D2) : k_c3 r D D2 := ⟨fun y a _ _ _ => h.1 y a, fun y _ _ _ => by rw [h.2.1], h.2.2⟩
theorem k_c4_of {E E2 : am_D} (h : k_wr E E2) : k_c4 E E2 := ⟨fun y a _ => h.1 y a, h.2.1, fun j a b c _ => h.2.2 j a b c⟩
theorem k_c3_trans {r : Nat} {D D2 D3 : am_D} (h : k_c3 r D D2) (g : k_c3 r D2 D3) : k_c3 r D D3 := ⟨fun y a b c d => (g.1 y a b c d).trans (h.1 y a b c d), fun y a b c => (g.2.1 y a b c).trans (h.2.1 y a b c), fun j a b c d e => (g.2.2 j a b c d e).trans (h.2.2 j a b c d e)⟩
theorem k_c4_trans {D D2 D3 : am_D} (h : k_c4 D D2) (g : k_c4 D2 D3) : k_c4 D D3 := ⟨fun y a b => (g.1 y a b).trans (h.1 y a b), g.2.1.trans h.2.1, fun j a b c d => (g.2.2 j a b c d).trans (h.2.2 j a b c d)⟩
/-- the marks made so far -/
def k_mm (D E : am_D) (r made : Nat) : Prop := ∃ f t, k_mk D E r made f t ∧ k_up made f t ∧ (f ((made : Int) - 1)).toInt ≤ 600 ∧ (t ((made : Int) - 1)).toInt ≤ 1200 ∧ 0 ≤ (f ((made : Int) - 1)).toInt ∧ 0 ≤ (t ((made : Int) - 1)).toInt ∧ E.1 117 8 = Int32.ofNat made
theorem k_mm_mv {D E D2 E2 : am_D} {r made : Nat} (h : k_mm D E r made) (h0 : D2.1 r = D.1 r) (h1 : D2.1 (r + 1) = D.1 (r + 1)) (h2 : D2.1 (r + 2) = D.1 (r + 2)) (hE : ∀ y, 121 ≤ y → y < 133 → E2.1 y = E.1 y) (h8 : E2.1 117 8 = E.1 117 8) : k_mm D2 E2 r made := by
  obtain ⟨f, t, a1, a2, a3, a4, a5, a6, a7⟩ := h
  exact ⟨f, t, k_mk_by a1 h0 h1 h2 hE, a2, a3, a4, a5, a6, by rw [h8]; exact a7⟩
/-- with a fault nothing more happens -/
theorem k_mrestko {r m : Nat} {F : am_D → Option am_D} {W : am_D} {f t : Int → Int32} (h : ¬ W.1 69 2 = 0) (hm : j_map W r m f t) : k_mrest r F W = F W := by
  have hn : ∀ lo hi, f_X8_readNumber lo hi W = some (0, W) := fun lo hi => by unfold f_X8_readNumber; rw [if_neg h]
  unfold k_mrest
  rw [j_map_lastFrom hm, Option.bind_some, hn, Option.bind_some, j_map_lastTo hm, Option.bind_some, hn, Option.bind_some, k_endko h, Option.bind_some, if_neg h, Option.bind_some]
theorem k_rmrestko {W : am_D} (h : ¬ W.1 117 5 = 0) : k_rmrest W = some W := by
  unfold k_rmrest
  rw [if_neg h]
/-- from where on a mark's number may be -/
theorem k_low {E : am_D} {made : Nat} {f t : Int → Int32} (hm : made ≤ 12) (h8 : E.1 117 8 = Int32.ofNat made) (hk : ∀ k : Nat, k < made → E.1 (121 + k) 0 = f k ∧ E.1 (121 + k) 1 = t k) (h0 : made = 0 → f (-1) = 0 ∧ t (-1) = 0) :
    (if (E.1 117 8) = 0 then some ((1 : Int32)) else (am_gA 12 ((E.1 117 8) - (1 : Int32))).bind fun j16 => (am_gI E (121 + j16) 2 (0 : Int32)).bind fun x18 => some ((x18 + (1 : Int32)))) = some (f ((made : Int) - 1) + 1) ∧
    (if (E.1 117 8) = 0 then some ((1 : Int32)) else (am_gA 12 ((E.1 117 8) - (1 : Int32))).bind fun j16 => (am_gI E (121 + j16) 2 (1 : Int32)).bind fun x18 => some ((x18 + (1 : Int32)))) = some (t ((made : Int) - 1) + 1) := by
  have p0 : ∀ (X : am_D) (y : Nat), am_gI X y 2 (0 : Int32) = some (X.1 y 0) := fun X y => k_g (k := 0) (by omega) (by omega)
  have p1 : ∀ (X : am_D) (y : Nat), am_gI X y 2 (1 : Int32) = some (X.1 y 1) := fun X y => k_g (k := 1) (by omega) (by omega)
  rw [h8]
  by_cases c : made = 0
  · obtain ⟨z1, z2⟩ := h0 c
    have e : ((made : Int) - 1) = -1 := (by omega)
    rw [e, z1, z2, if_pos (by rw [c]; rfl), if_pos (by rw [c]; rfl)]
    exact ⟨rfl, rfl⟩
  · have cz : ¬ Int32.ofNat made = 0 := fun q => c (k_ofN_inj (b := 0) q (by omega) (by omega))
    obtain ⟨m, rfl⟩ : ∃ m, made = m + 1 := ⟨made - 1, (by omega)⟩
    have e : (((m + 1 : Nat) : Int) - 1) = m := (by omega)
    obtain ⟨z1, z2⟩ := hk m (by omega)
    rw [if_neg cz, if_neg cz, k_sub1, k_a (by omega) (by omega), Option.bind_some, Option.bind_some, p0, p1, Option.bind_some, Option.bind_some, z1, z2, e]
    exact ⟨rfl, rfl⟩
theorem k_inc {x : Int32} (h : 0 ≤ x.toInt) (h2 : x.toInt ≤ 100000) : (x + 1).toInt = x.toInt + 1 := by
  have e1 : (1 : Int32).toInt = 1 := rfl
  rw [j_add (by rw [e1]; omega) (by rw [e1]; omega), e1]
/-- a mark's numbers and its end, both without a fault so far -/
theorem k_markok {n r made : Nat} {B : Nat → Int32} {D E : am_D} (hr : 40 ≤ r ∧ r ≤ 52) (h : k_RR n B D E) (hmade : made < 12) (hm : k_mm D E r made) :
    ∃ D6 E6, (∀ F, k_mrest r F D = F D6) ∧ (∀ W, W.1 117 5 = 0 → f_X12_skipWord W = some E → k_rmrest W = some E6) ∧ k_RR n B D6 E6 ∧ k_c3 r D D6 ∧ k_c4 E E6 ∧ (D6.1 69 2 = 0 → k_mm D6 E6 r (made + 1)) := by
  obtain ⟨f, t, m1, m2, m3, m4, m5, m6, m7⟩ := hm
  have e600 : (600 : Int32).toInt = 600 := rfl
  have e1200 : (1200 : Int32).toInt = 1200 := rfl
  have z0 : made = 0 → f (-1) = 0 ∧ t (-1) = 0 := fun _ => m1.1.2.2.2 (-1) (Or.inl (by omega))
  have i1 := k_inc m5 (by omega)
  have i2 := k_inc m6 (by omega)
  obtain ⟨v1, w1, D2, E2, a1, b1, R1, c1, q1, o1⟩ := k_num h (f ((made : Int) - 1) + 1) 600
  have map2 : j_map D2 r made f t := j_map_fr m1.1 (c1.1 r (by omega)) (c1.1 (r + 1) (by omega)) (c1.1 (r + 2) (by omega))
  obtain ⟨v2, w2, D3, E3, a2, b2, R2, c2', q2', o2⟩ := k_num R1 (t ((made : Int) - 1) + 1) 1200
  obtain ⟨D4, E4, a3, b3, R3, c3', q3', o3⟩ := k_end R2
  have c2 := k_wc_trans c1 c2'
  have c3 := k_wc_trans c2 c3'
  have q2 := k_wr_trans q1 q2'
  have q3 := k_wr_trans q2 q3'
  have l1 := (k_low (E := E) (by omega) m7 m1.2 z0).1
  have l2 := (k_low (E := E2) (f := f) (t := t) (by omega) (by rw [q1.2.2 8 (by decide) (by decide) (by decide)]; exact m7) (fun k hk => by rw [q1.1 _ (by omega)]; exact m1.2 k hk) z0).2
  have mk4 : k_mk D4 E4 r made f t := k_mk_by m1 (c3.1 r (by omega)) (c3.1 (r + 1) (by omega)) (c3.1 (r + 2) (by omega)) (fun y x z => q3.1 y (by omega))
  have n8 : E4.1 117 8 = Int32.ofNat made := by rw [q3.2.2 8 (by decide) (by decide) (by decide)]; exact m7
  have cl : ∀ F, k_mrest r F D = (if (D4.1 69 2) = 0 then (f_X9_add r v1 v2 D4).bind fun x32 => some (x32) else some (D4)).bind fun w33 => F w33 := fun F => by
    unfold k_mrest
    rw [j_map_lastFrom m1.1, Option.bind_some, a1, Option.bind_some, j_map_lastTo map2, Option.bind_some, a2, Option.bind_some, a3, Option.bind_some]
  have rl : ∀ W, W.1 117 5 = 0 → f_X12_skipWord W = some E → k_rmrest W = if (E4.1 117 5) = 0 then (am_gA 12 (E4.1 117 8)).bind fun j35 => (am_pI E4 (121 + j35) 2 (0 : Int32) w1).bind fun D37 => (am_gA 12 (D37.1 117 8)).bind fun j39 => (am_pI D37 (121 + j39) 2 (1 : Int32) w2).bind fun D41 => (some (am_wI D41 117 8 ((D41.1 117 8) + (1 : Int32)))).bind fun D43 => some D43 else some E4 := fun W hW hs => by
    unfold k_rmrest
    rw [if_pos hW, hs, Option.bind_some, l1, Option.bind_some, b1, Option.bind_some, l2, Option.bind_some, b2, Option.bind_some, b3, Option.bind_some]
  by_cases c : D4.1 69 2 = 0
  · have cE : E4.1 117 5 = 0 := by
      obtain ⟨_, _, _, _, ⟨_, _, x, _⟩ | ⟨x, _, _⟩⟩ := R3
      · exact x
      · exact absurd c x
    obtain ⟨g1, g2, g3, g4⟩ := o2 (o3 c)
    obtain ⟨k1, k2, k3, k4⟩ := o1 g1
    rw [e1200] at g4
    rw [e600] at k4
    rw [i2] at g3
    rw [i1] at k3
    obtain ⟨D5, x1, x2, x3⟩ := k_mk_add mk4 hmade v1 v2
    obtain ⟨E5, hE5⟩ : ∃ X, X = am_wI (am_wI E4 (121 + made) 0 v1) (121 + made) 1 v2 := ⟨_, rfl⟩
    obtain ⟨E6, hE6⟩ : ∃ X, X = am_wI E5 117 8 (Int32.ofNat (made + 1)) := ⟨_, rfl⟩
    rw [← hE5] at x2
    have y5 : ∀ y, y ≠ 121 + made → E5.1 y = E4.1 y := fun y hy => by rw [hE5, j_wI_ne _ _ _ hy, j_wI_ne _ _ _ hy]
    have y6 : ∀ y, y ≠ 117 → E6.1 y = E5.1 y := fun y hy => by rw [hE6, j_wI_ne _ _ _ hy]
    have f69 : D5.1 69 = D4.1 69 := (x3 69 (by omega)).1
    refine ⟨D5, E6, fun F => ?_, fun W hW hs => ?_, ?_, ?_, ?_, fun _ => ?_⟩
    · rw [cl, if_pos c, x1, Option.bind_some, Option.bind_some]
    · have q0 : ∀ (X : am_D) (y : Nat) (v : Int32), am_pI X y 2 (0 : Int32) v = some (am_wI X y 0 v) := fun X y v => k_p (k := 0) v (by omega) (by omega)
      have q1 : ∀ (X : am_D) (y : Nat) (v : Int32), am_pI X y 2 (1 : Int32) v = some (am_wI X y 1 v) := fun X y v => k_p (k := 1) v (by omega) (by omega)
      rw [rl W hW hs, if_pos cE, n8, k_a hmade (by omega), Option.bind_some, q0, k2, Option.bind_some, j_wI_ne _ _ _ (show 117 ≠ 121 + made by omega), n8, k_a hmade (by omega), Option.bind_some, q1, g2, Option.bind_some, ← hE5, y5 117 (by omega), n8, j_suc, Option.bind_some, ← hE6]
    · obtain ⟨p, q, p1, p2, p3⟩ := R3
      refine ⟨p, q, k_tc_mv p1 (by rw [f69]) (by rw [f69]) (x3 70 (by omega)).1, k_tr_mv p2 (by rw [hE6, k_wj _ _ (by decide), y5 117 (by omega)]) (by rw [hE6, k_wj _ _ (by decide), y5 117 (by omega)]) (by rw [y6 118 (by decide), y5 118 (by omega)]), ?_⟩
      rw [f69, hE6, k_wj _ _ (show 5 ≠ 8 by decide), k_wj _ _ (show 6 ≠ 8 by decide), y5 117 (by omega)]
      exact p3
    · exact k_c3_trans (k_c3_of c3) ⟨fun y a b d e => (x3 y (by omega)).1, fun y a b d => (x3 y (by omega)).2, fun j _ _ _ _ _ => by rw [f69]⟩
    · exact k_c4_trans (k_c4_of q3) ⟨fun y a b => by rw [y6 y a, y5 y (by omega)], by rw [hE6, hE5]; rfl, fun j _ _ _ a => by rw [hE6, k_wj _ _ a, y5 117 (by omega)]⟩
    · refine ⟨_, _, k_mk_by x2 rfl rfl rfl (fun y a b => y6 y (by omega)), k_up_add m2 (by omega) (by omega), ?_, ?_, ?_, ?_, by rw [hE6, k_ws]⟩
      · rw [k_put_at]; omega
      · rw [k_put_at]; omega
      · rw [k_put_at]; omega
      · rw [k_put_at]; omega
  · have cE : ¬ E4.1 117 5 = 0 := by
      obtain ⟨_, _, _, _, ⟨_, x, _, _⟩ | ⟨x, y, _⟩⟩ := R3
      · exact absurd x c
      · rw [y]; exact x
    refine ⟨D4, E4, fun F => ?_, fun W hW hs => ?_, R3, k_c3_of c3, k_c4_of q3, fun q => absurd q c⟩
    · rw [cl, if_neg c, Option.bind_some]
    · rw [rl W hW hs, if_neg cE]
theorem k_markall {n a r made : Nat} {B : Nat → Int32} {D E : am_D} (hr : 40 ≤ r ∧ r ≤ 52) (hc : k_tc n B D a) (hrr : k_tr n B E a) (hD : D.1 69 2 = 0) (hE : E.1 117 5 = 0) (hF : E.1 117 6 = -1) (hs : k_P32 (k_by n B a) = false) (hmade : made ≤ 12) (hm : k_mm D E r made) :
    ∃ D6 E6, (∀ F, ((f_X8_readWord D).bind fun x8 => (f_X8_isWord 6 x8).bind fun x10 => (if x10 = 0 then (f_X8_fail (1 : Int32) (x8.1 69 6) x8).bind fun x17 => some (x17) else if Int32.ofNat made = (12 : Int32) then (f_X8_fail (3 : Int32) (x8.1 69 6) x8).bind fun x15 => some (x15) else some (x8)).bind (k_mrest r F)) = F D6) ∧ f_X12_mark E = some E6 ∧ k_RR n B D6 E6 ∧ k_c3 r D D6 ∧ k_c4 E E6 ∧ (D6.1 69 2 = 0 → k_mm D6 E6 r (made + 1) ∧ made < 12) := by
  obtain ⟨s1, s2, s3, s4⟩ := k_skp_spec (B := B) k_Pl_1 hc.1
  obtain ⟨D1, d1, d2, d3, d4, d5⟩ := k_cwordR hc hs
  have r0 := k_risw hrr hs hE 13 1 18 11 0 257105 (by decide)
  obtain ⟨b, hb⟩ : ∃ x, x = k_skp k_Pl n B a := ⟨_, rfl⟩
  have rsk := k_rletters hrr
  rw [← hb] at s1 s2 s3 s4 d2 r0 rsk
  have hn := hc.2.1
  have hl : ∀ j, j < b - a → 97 ≤ (k_by n B (a + j)).toInt ∧ (k_by n B (a + j)).toInt ≤ 122 := fun j hj => of_decide_eq_true (s4 (a + j) (by omega) (by omega))
  have i0 := k_is_mark d2 d3 s1 hl
  obtain ⟨H, hH⟩ : ∃ x, x = k_H n B a b := ⟨_, rfl⟩
  rw [← hH] at r0 i0
  have hD1 : D1.1 69 2 = 0 := by rw [d4]; exact hD
  have e12 : (12 : Int32).toInt = 12 := rfl
  have mm1 : k_mm D1 E r made := k_mm_mv hm (d5.1 r (by omega)) (d5.1 (r + 1) (by omega)) (d5.1 (r + 2) (by omega)) (fun _ _ _ => rfl) rfl
  have m8 : E.1 117 8 = Int32.ofNat made := by
    obtain ⟨_, _, _, _, _, _, _, _, x⟩ := hm
    exact x
  have map1 : ∃ f t, j_map D1 r made f t := by
    obtain ⟨f, t, x, _⟩ := mm1
    exact ⟨f, t, x.1⟩
  obtain ⟨f, t, map1⟩ := map1
  have ko : ∀ k : Int32, ¬ k = 0 → ∃ D6 E6, (∀ F, ((f_X8_fail k (Int32.ofNat a) D1).bind fun x17 => some (x17)).bind (k_mrest r F) = F D6) ∧ ((f_X12_wrong k (Int32.ofNat a) E).bind fun x9 => some (x9)).bind k_rmrest = some E6 ∧ k_RR n B D6 E6 ∧ k_c3 r D D6 ∧ k_c4 E E6 ∧ ¬ D6.1 69 2 = 0 := fun k hk => by
    obtain ⟨D2, E2, z1, z2, z3, z4, z5, z6, z7, z8⟩ := k_flt d2 hrr hD1 hE k (Int32.ofNat a) hk
    have f1 : ¬ D2.1 69 2 = 0 := by rw [z4]; exact hk
    have f2 : ¬ E2.1 117 5 = 0 := by rw [z5]; exact hk
    have map2 : j_map D2 r made f t := j_map_fr map1 (z6.1 r (by omega)) (z6.1 (r + 1) (by omega)) (z6.1 (r + 2) (by omega))
    refine ⟨D2, E2, fun F => ?_, ?_, z3, k_c3_of (k_wc_trans d5 z6), k_c4_of z7, f1⟩
    · rw [z1, Option.bind_some, Option.bind_some, k_mrestko f1 map2]
    · rw [z2, Option.bind_some, Option.bind_some, k_rmrestko f2]
  have rl : ∀ x : Int32, f_X12_isWord 13 1 18 11 0 E = some (x, E) → f_X12_mark E = (if x = 0 then (f_X12_wrong (1 : Int32) (Int32.ofNat a) E).bind fun x9 => some (x9) else if Int32.ofNat made = (12 : Int32) then (f_X12_wrong (3 : Int32) (Int32.ofNat a) E).bind fun x7 => some (x7) else some (E)).bind k_rmrest := fun x hx => by
    unfold f_X12_mark
    rw [hx, Option.bind_some, m8, hrr.2.2.2.1]
    rfl
  by_cases cH : H = 257105
  · rw [if_pos cH] at r0 i0
    have rl := rl 1 r0
    rw [if_neg k_10] at rl
    by_cases cm : made = 12
    · have c12 : Int32.ofNat made = 12 := by rw [cm]; rfl
      obtain ⟨D6, E6, y1, y2, y3, y4, y5, y6⟩ := ko 3 (by decide)
      refine ⟨D6, E6, fun F => ?_, ?_, y3, y4, y5, fun q => absurd q y6⟩
      · rw [d1, Option.bind_some, i0, Option.bind_some, if_neg k_10, if_pos c12, d3]
        exact y1 F
      · rw [rl, if_pos c12]
        exact y2
    · have c12 : ¬ Int32.ofNat made = 12 := by rw [j_eq, j_nat (by omega), e12]; omega
      obtain ⟨E1, hE1⟩ : ∃ X, X = am_wI E 117 4 (Int32.ofNat b) := ⟨_, rfl⟩
      rw [← hE1] at rsk
      have w1 : k_wr E E1 := by rw [hE1]; exact k_wr_w E 4 _ (by omega)
      have sR : k_RR n B D1 E1 := ⟨b, b, d2, by rw [hE1]; exact k_tr_w hrr s2, Or.inl ⟨rfl, hD1, by rw [hE1, k_wj _ _ (by decide), hE], by rw [hE1, k_wj _ _ (by decide), hF]⟩⟩
      obtain ⟨D6, E6, y1, y2, y3, y4, y5, y6⟩ := k_markok hr sR (show made < 12 by omega) (k_mm_mv mm1 rfl rfl rfl (fun y _ _ => w1.1 y (by omega)) (w1.2.2 8 (by decide) (by decide) (by decide)))
      refine ⟨D6, E6, fun F => ?_, ?_, y3, k_c3_trans (k_c3_of d5) y4, k_c4_trans (k_c4_of w1) y5, fun q => ⟨y6 q, (by omega)⟩⟩
      · rw [d1, Option.bind_some, i0, Option.bind_some, if_neg k_10, if_neg c12, Option.bind_some]
        exact y1 F
      · rw [rl, if_neg c12, Option.bind_some]
        exact y2 E hE rsk
  · rw [if_neg cH] at r0 i0
    have rl := rl 0 r0
    rw [if_pos rfl] at rl
    obtain ⟨D6, E6, y1, y2, y3, y4, y5, y6⟩ := ko 1 (by decide)
    refine ⟨D6, E6, fun F => ?_, ?_, y3, y4, y5, fun q => absurd q y6⟩
    · rw [d1, Option.bind_some, i0, Option.bind_some, if_pos rfl, d3]
      exact y1 F
    · rw [rl]
      exact y2
theorem k_mloop {n r : Nat} {B : Nat → Int32} (hr : 40 ≤ r ∧ r ≤ 52) : ∀ rem made D E fu1 fu2, made + rem = 13 → rem < fu1 → rem < fu2 → k_st n B D E → (D.1 69 2 = 0 → k_mm D E r made ∧ made ≤ 12) →
    ∃ D2 E2, f_X8_readMap_L6 r fu1 (Int32.ofNat made) D = some D2 ∧ f_X12_map_L57 fu2 E = some E2 ∧ k_RR n B D2 E2 ∧ k_c3 r D D2 ∧ k_c4 E E2 ∧ (D2.1 69 2 = 0 → ∃ made2, made2 ≤ 12 ∧ k_mm D2 E2 r made2)
  | rem, made, D, E, 0, _, _, h, _, _, _ => absurd h (by omega)
  | rem, made, D, E, _, 0, _, _, h, _, _ => absurd h (by omega)
  | rem, made, D, E, fu1 + 1, fu2 + 1, hrem, h1, h2, hst, hmd => by
    have e12 : (12 : Int32).toInt = 12 := rfl
    rcases hst with ⟨a, t1, t2, x1, x2, x3⟩ | ⟨a, b, t1, t2, x1, x2, x3⟩
    · obtain ⟨md, hmade⟩ := hmd x1
      have hn := t1.2.1
      obtain ⟨s1, s2, s3, s4⟩ := k_skp_spec (B := B) k_P32_1 t1.1
      obtain ⟨D1, hD1, u1, u2, u3, u4⟩ := k_more1 t1 x1
      have md1 : k_mm D1 E r made := k_mm_mv md (u3.1 r (by omega)) (u3.1 (r + 1) (by omega)) (u3.1 (r + 2) (by omega)) (fun _ _ _ => rfl) rfl
      rw [f_X12_map_L57, if_pos x2, t2.2.2.1, t2.2.2.2.1]
      have cl : f_X8_readMap_L6 r (fu1 + 1) (Int32.ofNat made) D = if n ≤ k_skp k_P32 n B a then some D1 else ((f_X8_readWord D1).bind fun x8 => (f_X8_isWord 6 x8).bind fun x10 => (if x10 = 0 then (f_X8_fail (1 : Int32) (x8.1 69 6) x8).bind fun x17 => some (x17) else if Int32.ofNat made = (12 : Int32) then (f_X8_fail (3 : Int32) (x8.1 69 6) x8).bind fun x15 => some (x15) else some (x8)).bind (k_mrest r (fun w33 => f_X8_readMap_L6 r fu1 (Int32.ofNat (made + 1)) w33))) := by
        rw [f_X8_readMap_L6, if_neg (by rw [j_lt, j_nat (by omega), e12]; omega), u4, Option.bind_some, j_suc]
        by_cases c : n ≤ k_skp k_P32 n B a
        · rw [if_pos c, if_pos c, if_pos rfl]
        · rw [if_neg c, if_neg c, if_neg k_10]
          rfl
      rw [cl]
      by_cases c : n ≤ k_skp k_P32 n B a
      · rw [if_pos c, if_pos (by rw [j_le, j_nat (by omega), j_nat (by omega)]; omega)]
        exact ⟨D1, E, rfl, rfl, ⟨_, _, u1, t2, Or.inl ⟨rfl, u2, x2, x3⟩⟩, k_c3_of u3, k_c4_of (k_wr_refl E), fun _ => ⟨made, hmade, md1⟩⟩
      · rw [if_neg c, if_neg (by rw [j_le, j_nat (by omega), j_nat (by omega)]; omega)]
        obtain ⟨D4, E4, y1, y4, y5, y6, y7, y8⟩ := k_markall hr u1 t2 u2 x2 x3 s3 hmade md1
        obtain ⟨E5, z1, z2, z3, z4⟩ := k_R_st y5
        rw [y1, y4, Option.bind_some, z1, Option.bind_some]
        obtain ⟨D6, E6, v1, v2, v3, v4, v5, v6⟩ := k_mloop hr (rem - 1) (made + 1) D4 E5 fu1 fu2 (by omega) (by omega) (by omega) z2 (fun q => ⟨k_mm_mv (y8 q).1 rfl rfl rfl (fun y _ _ => z3.1 y (by omega)) (z3.2.2 8 (by decide) (by decide) (by decide)), (y8 q).2⟩)
        exact ⟨D6, E6, v1, v2, v3, k_c3_trans (k_c3_of u3) (k_c3_trans y6 v4), k_c4_trans y7 (k_c4_trans (k_c4_of z3) v5), v6⟩
    · rw [f_X12_map_L57, if_neg (by rw [x2]; exact x1), f_X8_readMap_L6]
      by_cases c : (12 : Int32) < Int32.ofNat made
      · rw [if_pos c]
        exact ⟨D, E, rfl, rfl, ⟨a, b, t1, t2, Or.inr ⟨x1, x2, x3⟩⟩, k_c3_of (k_wc_refl D), k_c4_of (k_wr_refl E), fun q => absurd q x1⟩
      · obtain ⟨D1, hD1, u1, u2, u2b, u3, u4⟩ := k_more0 t1 x1
        rw [if_neg c, u4, Option.bind_some, if_pos rfl]
        exact ⟨D1, E, rfl, rfl, ⟨_, b, u1, t2, Or.inr ⟨by rw [u2]; exact x1, by rw [u2]; exact x2, by rw [u2b]; exact x3⟩⟩, k_c3_of u3, k_c4_of (k_wr_refl E), fun q => absurd (u2.symm.trans q) x1⟩
theorem op_map {D E : am_D} (h : k_Q D E) (p : Int32) : k_opE D E (f_X11_map p D) (f_X12_map p E) ["java/lang/IllegalArgumentException"] := by
  obtain ⟨E0, hE0, t0, f0, q0⟩ := k_start h
  have q0' := q0
  obtain ⟨ns, nm, nw, np, nh, ni, h1, h2, h3, h4, h5, h6, h7, h8, h9⟩ := q0'

  have h9' := h9
  obtain ⟨tp, u1, u2, u3, u4, u5⟩ := h9'
  have e0 : (0 : Int32).toInt = 0 := rfl
  have e5 : (5 : Int32).toInt = 5 := rfl
  have hnm := h2.1
  unfold f_X12_map f_X11_map
  rw [k_want p D u2 u1, Option.bind_some, Option.bind_some, ← hE0, u3, k_in, e0, j_nat (show tp < 2147483648 by omega), Option.bind_some]
  by_cases c : 0 ≤ p.toInt ∧ p.toInt ≤ tp
  · obtain ⟨n, rfl, hn⟩ : ∃ n, p = Int32.ofNat n ∧ n ≤ tp := ⟨p.toInt.toNat, j_of c.1, (by omega)⟩
    rw [if_pos c, k_needT, k_nT E0 1 t0, if_pos rfl, Option.bind_some, Option.bind_some]
    obtain ⟨D1, d0, d1, d2, d3, d4, d5, d6, d7⟩ := k_takeText (D := D) (n := n) (by omega)
    obtain ⟨E1, hE1⟩ : ∃ X, X = am_wI (am_wI E0 117 1 0) 117 3 (-1) := ⟨_, rfl⟩
    have y1 : ∀ y, y ≠ 117 → E1.1 y = E0.1 y := fun y hy => by rw [hE1, j_wI_ne _ _ _ hy, j_wI_ne _ _ _ hy]
    have y2 : ∀ j, j ≠ 1 → j ≠ 3 → E1.1 117 j = E0.1 117 j := fun j a b => by rw [hE1, k_wj _ _ b, k_wj _ _ a]
    have y3 : E1.1 117 1 = 0 := by rw [hE1, k_wj _ _ (by decide), k_ws]
    have y4 : E1.1 117 3 = -1 := by rw [hE1, k_ws]
    have y5 : E1.2 = E0.2 := by rw [hE1]; rfl
    rw [d0, Option.bind_some, ← hE1, y2 13 (by decide) (by decide), h2.2.2.1, k_freeM (by rw [d6 17 (by decide)]; exact h2.2.1) hnm]
    by_cases cs : nm < 5
    · rw [if_pos cs, if_neg (by rw [j_eq, j_nat (by omega), e5]; omega)]
      show k_opE D E ((f_X8_readMap (40 + 3 * nm) D1).bind _) _ _
      obtain ⟨r, hr⟩ : ∃ r, r = 40 + 3 * nm := ⟨_, rfl⟩
      have hrr : 40 ≤ r ∧ r ≤ 52 := (by omega)
      rw [← hr]
      obtain ⟨B, hB⟩ : ∃ B : Nat → Int32, B = D.1 70 := ⟨_, rfl⟩
      obtain ⟨D2, s0, s1, s2⟩ := j_map_clear (D := D1) r
      have s69 : D2.1 69 = D1.1 69 := (s2 69 (by omega)).1
      have tc : k_tc n B D2 0 := ⟨(by omega), (by omega), by rw [s69]; exact d3, by rw [s69, d2]; rfl, fun k hk => by rw [(s2 70 (by omega)).1, d6 70 (by decide), hB]⟩
      obtain ⟨E2, b0, b1, b2, b3, b4, b5, b6, b7, b8⟩ := k_begins (E := E1) (n := n) (B := B) (by omega) (fun k hk => by rw [y1 118 (by decide), ← u4 k (by omega), hB])
      have md : k_mm D2 E2 r 0 := ⟨fun _ => 0, fun _ => 0, k_mk_0 s1, k_up_0, (by decide), (by decide), (by decide), (by decide), by rw [b5]; rfl⟩
      obtain ⟨D3, E3, l1, l2, l3, l4, l5, l6⟩ := k_mloop hrr 13 0 D2 E2 am_fu am_fu (by omega) (by unfold am_fu; omega) (by unfold am_fu; omega) (Or.inl ⟨0, tc, b1, by rw [s69]; exact d4, b2, b3⟩) (fun _ => ⟨md, (by omega)⟩)
      have l1 : f_X8_readMap_L6 r am_fu (0 : Int32) D2 = some D3 := l1
      have l69 : D3.1 69 1 = 0 := by rw [l4.2.2 1 (by decide) (by decide) (by decide) (by decide) (by decide), s69, d1]
      have l5' : D3.1 69 5 = Int32.ofNat n := by rw [l4.2.2 5 (by decide) (by decide) (by decide) (by decide) (by decide), s69, d3]
      have x1 : E3.1 117 1 = 0 := by rw [l5.2.2 1 (by decide) (by decide) (by decide) (by decide), b7 1 (by decide) (by omega), y3]
      have cD : ∀ y, y ≠ 69 ∧ y ≠ r ∧ y ≠ r + 1 ∧ y ≠ r + 2 → D3.1 y = D.1 y := fun y hy => by rw [l4.1 y (by omega) (by omega) (by omega) (by omega), (s2 y (by omega)).1, d6 y (by omega)]
      have cD2 : ∀ y, y ≠ r → y ≠ r + 1 → y ≠ r + 2 → D3.2 y = D.2 y := fun y a b d => by rw [l4.2.1 y a b d, (s2 y (by omega)).2, d7]
      have cE : ∀ y, y ≠ 117 ∧ (y < 121 ∨ 133 ≤ y) → E3.1 y = E0.1 y := fun y hy => by rw [l5.1 y (by omega) (by omega), b6 y (by omega), y1 y (by omega)]
      have cE2 : E3.2 = E0.2 := by rw [l5.2.1, b8, y5]
      have cEj : ∀ j, 8 < j → E3.1 117 j = E0.1 117 j := fun j hj => by rw [l5.2.2 j (by omega) (by omega) (by omega) (by omega), b7 j (by omega) (by omega), y2 j (by omega) (by omega)]
      have flt : ∀ D4 E4 : am_D, k_wc D3 D4 → k_wr E3 E4 → ¬ D4.1 69 2 = 0 → E4.1 117 5 = D4.1 69 2 → E4.1 117 6 = D4.1 69 3 → k_opE D E (if (D4.1 69 2) = 0 then (f_X1_takeMap D4).bind fun x15 => some (.inr (x15.1, x15.2)) else some (.inr (((D4.1 69 2) - (10 : Int32)), D4))) ((some (am_wI E4 117 3 (E4.1 117 6))).bind fun D31 => if (D31.1 117 5) = 0 then (f_X12_keepsMap (D31.1 117 8) D31).bind fun x35 => some (x35.1, x35.2) else some (((D31.1 117 5) - (10 : Int32)), D31)) ["java/lang/IllegalArgumentException"] := by
        intro D4 E4 w1 w2 g1 g2 g3
        obtain ⟨E5, hE5⟩ : ∃ X, X = am_wI E4 117 3 (E4.1 117 6) := ⟨_, rfl⟩
        have e55 : E5.1 117 5 = D4.1 69 2 := by rw [hE5, k_wj _ _ (by decide), g2]
        rw [if_neg g1, Option.bind_some, ← hE5, e55, if_neg g1]
        have dD : ∀ y, y ≠ 69 ∧ y ≠ r ∧ y ≠ r + 1 ∧ y ≠ r + 2 → D4.1 y = D.1 y := fun y hy => by rw [w1.1 y hy.1]; exact cD y hy
        have eE : ∀ y, y ≠ 117 ∧ (y < 121 ∨ 133 ≤ y) → E5.1 y = E0.1 y := fun y hy => by rw [hE5, j_wI_ne _ _ _ hy.1, w2.1 y hy.1]; exact cE y hy
        have e117 : ∀ j, 8 < j → E5.1 117 j = E0.1 117 j := fun j hj => by rw [hE5, k_wj _ _ (by omega), w2.2.2 j (by omega) (by omega) (by omega)]; exact cEj j hj
        have d17 : ∀ j : Nat, 0 ≤ j → D4.1 17 j = D.1 17 j := fun j _ => by rw [dD 17 (by omega)]
        have t5 : E5.1 117 0 = 0 := by rw [hE5, k_wj _ _ (by decide), w2.2.2 0 (by decide) (by decide) (by decide), l5.2.2 0 (by decide) (by decide) (by decide) (by decide), b7 0 (by decide) (by omega), y2 0 (by decide) (by decide), t0]
        refine k_valE _ ⟨ns, nm, nw, np, nh, ni, k_Rs_mv h1 (d17 7 (by omega)) (e117 12 (by omega)) (fun y a b => dD y (by omega)) (eE _ (by omega)) (fun y a b => eE y (by omega)), ⟨h2.1, by rw [d17 8 (by omega)]; exact h2.2.1, by rw [e117 13 (by omega)]; exact h2.2.2.1, fun s hs => ?_⟩, k_Rn_mv h3 (dD _ (by omega)) (fun j _ => d17 j (by omega)) (dD _ (by omega)) (fun j a b => e117 j (by omega)) (eE _ (by omega)), k_Rw_mv h4 (d17 9 (by omega)) (e117 20 (by omega)) (fun y a b => dD y (by omega)) (fun y a b => eE y (by omega)), k_Rp_mv h5 (by rw [dD 24 (by omega)]) (e117 21 (by omega)) (fun y a b => dD y (by omega)) (fun y a b => eE y (by omega)), k_Rh_mv h6 (d17 10 (by omega)) (e117 22 (by omega)) (dD _ (by omega)) (eE _ (by omega)), k_Ri_mv h7 (fun _ => Nat.le_refl _) (by rw [dD 16 (by omega)]) (e117 23 (by omega)) (fun y a b => dD y (by omega)) (fun y a b => eE y (by omega)) (fun s hs => by have hs : s < ns := hs; have := h1.1; exact ⟨by rw [eE 139 (by omega)], fun k _ => by rw [eE (134 + s) (by omega)]⟩) (fun m hm => by have hm : m < nm := hm; have := h2.1; exact ⟨by rw [eE 201 (by omega)], fun k j _ _ => by rw [eE _ (by omega)]⟩) (fun w j hw _ => by have hw : w < nw := hw; have := h4.1; rw [eE _ (by omega)]) (fun p j hp _ => by have hp : p < np := hp; have := h5.1; rw [eE _ (by omega)]) (fun z _ => by rw [eE 203 (by omega)]), k_Rd_mv h8 (fun y a b => dD y (by omega)) (fun j a b => e117 j (by omega)) (fun y _ => ⟨by rw [eE 221 (by omega)], by rw [eE 222 (by omega)]⟩) (fun y _ => by rw [eE 223 (by omega)]) (fun q _ hq k y hk _ => by rw [eE (225 + k) (by omega)]), ⟨0, (by omega), ?_, ?_, fun k hk => absurd hk (by omega), ?_⟩⟩ t5 (k_fr_trans f0 (fun y hy => ⟨eE y (by omega), ?_⟩)) (fun y hy => ⟨dD y (by omega), ?_⟩) rfl rfl
        · obtain ⟨m, f, t, v1, v2, v3⟩ := h2.2.2.2 s hs
          exact ⟨m, f, t, v1, j_map_fr v2 (dD _ (by omega)) (dD _ (by omega)) (dD _ (by omega)), k_rm_mv v3 v1.2.1 (by rw [eE 201 (by omega)]) (fun k hk => eE _ (by omega))⟩
        · rw [w1.2.2 1 (by decide) (by decide) (by decide) (by decide) (by decide), l69]; rfl
        · rw [hE5, k_wj _ _ (by decide), w2.2.2 1 (by decide) (by decide) (by decide), x1]; rfl
        · rw [if_neg g1, hE5, k_ws, g3]
        · rw [hE5]
          show E4.2 y = E0.2 y
          rw [w2.2.1, cE2]
        · rw [w1.2.1]
          exact cD2 y (by omega) (by omega) (by omega)
      have cl : f_X8_readMap r D1 = if (D3.1 r 2) = 0 then (f_X8_fail (4 : Int32) (Int32.ofNat n) D3).bind fun x16 => some x16 else some D3 := by
        unfold f_X8_readMap
        rw [s0, Option.bind_some, l1, Option.bind_some, l5']
      rw [cl, b0, Option.bind_some, l2, Option.bind_some]
      obtain ⟨pa, pb, p1, p2, ⟨rfl, p3, p4, p5⟩ | ⟨p3, p4, p5⟩⟩ := l3
      · obtain ⟨made, m0, f, t, m1, m2, m3, m4, m5, m6, m7⟩ := l6 p3
        rw [if_pos p4, m1.1.2.1, m7]
        by_cases cm : made = 0
        · have cz : Int32.ofNat made = 0 := by rw [cm]; rfl
          rw [if_pos cz, if_pos cz, p2.2.2.1]
          obtain ⟨D4, E4, z1, z2, z3, z4, z5, z6, z7, z8⟩ := k_flt p1 p2 p3 p4 4 (Int32.ofNat n) (by decide)
          rw [z1, z2]
          have f4 : ¬ D4.1 69 2 = 0 := by rw [z4]; decide
          have f6 : E4.1 117 6 = D4.1 69 3 := by
            obtain ⟨_, _, _, _, ⟨_, q, _⟩ | ⟨_, _, q⟩⟩ := z3
            · exact absurd q f4
            · exact q
          exact flt D4 E4 z6 z7 f4 (by rw [z4, z5]) f6
        · have cz : ¬ Int32.ofNat made = 0 := fun q => cm (k_ofN_inj (b := 0) q (by omega) (by omega))
          rw [if_neg cz, if_neg cz, Option.bind_some, Option.bind_some, Option.bind_some]
          obtain ⟨E4, hE4⟩ : ∃ X, X = am_wI E3 117 3 (E3.1 117 6) := ⟨_, rfl⟩
          have e45 : E4.1 117 5 = 0 := by rw [hE4, k_wj _ _ (by decide), p4]
          have e48 : E4.1 117 8 = Int32.ofNat made := by rw [hE4, k_wj _ _ (by decide), m7]
          have e4y : ∀ y, y ≠ 117 → E4.1 y = E3.1 y := fun y hy => by rw [hE4, j_wI_ne _ _ _ hy]
          have e4j : ∀ j, j ≠ 3 → E4.1 117 j = E3.1 117 j := fun j hj => by rw [hE4, k_wj _ _ hj]
          obtain ⟨E5, g1, g2, g3, g4, g5, g6, g7⟩ := k_keepsM (E := E4) (n := made) (nm := nm) (f := f) (t := t) (fun k hk => by rw [e4y _ (by omega)]; exact m1.2 k hk) m0 (by rw [e4j 13 (by decide), cEj 13 (by omega)]; exact h2.2.2.1) cs
          obtain ⟨D5, hD5⟩ : ∃ X, X = am_wI D3 17 8 (Int32.ofNat (nm + 1)) := ⟨_, rfl⟩
          have d3y : ∀ y, y ≠ 17 → D5.1 y = D3.1 y := fun y hy => by rw [hD5, j_wI_ne _ _ _ hy]
          have zz := m1.1.2.2.2 (-1) (Or.inl (by omega))
          rw [if_pos p3, k_takeM (by rw [cD 17 (by omega)]; exact h2.2.1), Option.bind_some, ← hD5, ← hE4, e45, if_pos rfl, e48, g1, Option.bind_some]
          refine k_valE _ (k_addM (n := made) (f := f) (t := t) h1 h2 h3 h4 h5 h6 h7 h8 ?_ cs ⟨(by omega), m0, by rw [zz.1]; rfl, by rw [zz.2]; rfl, m2, m3, m4⟩ ?_ ?_ ?_ ?_ g4 (fun j hj => by rw [g5 j (by omega), e4j j (by omega)]; exact cEj j (by omega)) g2 (fun j hj => by rw [g3 j hj, e4y 201 (by decide), cE 201 (by omega)]) (fun y hy => by rw [g6 y (by omega) (by omega) (by omega), e4y y (by omega)]; exact cE y (by omega))) ?_ (k_fr_trans f0 (fun y hy => ⟨by rw [g6 y (by omega) (by omega) (by omega), e4y y (by omega)]; exact cE y (by omega), ?_⟩)) (fun y hy => ⟨by rw [d3y y (by omega)]; exact cD y (by omega), ?_⟩) rfl rfl
          · refine ⟨0, (by omega), ?_, ?_, fun k hk => absurd hk (by omega), ?_⟩
            · rw [d3y 69 (by decide), l69]; rfl
            · rw [g5 1 (by decide), e4j 1 (by decide), x1]; rfl
            · rw [d3y 69 (by decide), if_pos p3, g5 3 (by decide), hE4, k_ws, p5]
          · rw [← hr]
            exact j_map_fr m1.1 (d3y r (by omega)) (d3y (r + 1) (by omega)) (d3y (r + 2) (by omega))
          · rw [hD5, k_ws]
          · intro j hj
            rw [hD5, k_wj _ _ hj, cD 17 (by omega)]
          · intro y hy
            rw [d3y y (by omega)]
            exact cD y (by omega)
          · rw [g5 0 (by decide), e4j 0 (by decide), l5.2.2 0 (by decide) (by decide) (by decide) (by decide), b7 0 (by decide) (by omega), y2 0 (by decide) (by decide), t0]
          · rw [g7, hE4]
            show E3.2 y = E0.2 y
            rw [cE2]
          · rw [hD5]
            show D3.2 y = D.2 y
            exact cD2 y (by omega) (by omega) (by omega)
      · have q4 : ¬ E3.1 117 5 = 0 := by rw [p4]; exact p3
        have nn : (if (D3.1 r 2) = 0 then (f_X8_fail (4 : Int32) (Int32.ofNat n) D3).bind fun x16 => some x16 else some D3) = some D3 := by
          by_cases q : D3.1 r 2 = 0
          · rw [if_pos q, k_cfail0 _ _ p3, Option.bind_some]
          · rw [if_neg q]
        rw [nn, if_neg q4]
        exact flt D3 E3 (k_wc_refl D3) (k_wr_refl E3) p3 p4 p5
    · rw [if_neg cs, if_pos (by rw [j_eq, j_nat (by omega), e5]; omega)]
      have dD : ∀ y, y ≠ 69 → D1.1 y = D.1 y := d6
      have d17 : ∀ j : Nat, 0 ≤ j → D1.1 17 j = D.1 17 j := fun j _ => by rw [d6 17 (by decide)]
      have eE : ∀ y, y ≠ 117 → E1.1 y = E0.1 y := y1
      have e117 : ∀ j, j ≠ 1 ∧ j ≠ 3 → E1.1 117 j = E0.1 117 j := fun j hj => y2 j hj.1 hj.2
      refine k_valE (-1) ⟨ns, nm, nw, np, nh, ni, k_Rs_mv h1 (d17 7 (by omega)) (e117 12 (by omega)) (fun y a b => dD y (by omega)) (eE _ (by omega)) (fun y a b => eE y (by omega)), k_Rm_mv h2 (d17 8 (by omega)) (e117 13 (by omega)) (fun y a b => dD y (by omega)) (eE _ (by omega)) (fun y a b => eE y (by omega)), k_Rn_mv h3 (dD _ (by omega)) (fun j _ => d17 j (by omega)) (dD _ (by omega)) (fun j a b => e117 j (by omega)) (eE _ (by omega)), k_Rw_mv h4 (d17 9 (by omega)) (e117 20 (by omega)) (fun y a b => dD y (by omega)) (fun y a b => eE y (by omega)), k_Rp_mv h5 (by rw [dD 24 (by omega)]) (e117 21 (by omega)) (fun y a b => dD y (by omega)) (fun y a b => eE y (by omega)), k_Rh_mv h6 (d17 10 (by omega)) (e117 22 (by omega)) (dD _ (by omega)) (eE _ (by omega)), k_Ri_mv h7 (fun _ => Nat.le_refl _) (by rw [dD 16 (by omega)]) (e117 23 (by omega)) (fun y a b => dD y (by omega)) (fun y a b => eE y (by omega)) (fun s hs => by have hs : s < ns := hs; have := h1.1; exact ⟨by rw [eE 139 (by omega)], fun k _ => by rw [eE (134 + s) (by omega)]⟩) (fun m hm => by have hm : m < nm := hm; have := h2.1; exact ⟨by rw [eE 201 (by omega)], fun k j _ _ => by rw [eE _ (by omega)]⟩) (fun w j hw _ => by have hw : w < nw := hw; have := h4.1; rw [eE _ (by omega)]) (fun p j hp _ => by have hp : p < np := hp; have := h5.1; rw [eE _ (by omega)]) (fun z _ => by rw [eE 203 (by omega)]), k_Rd_mv h8 (fun y a b => dD y (by omega)) (fun j a b => e117 j (by omega)) (fun y _ => ⟨by rw [eE 221 (by omega)], by rw [eE 222 (by omega)]⟩) (fun y _ => by rw [eE 223 (by omega)]) (fun q _ hq k y hk _ => by rw [eE (225 + k) (by omega)]), ⟨0, (by omega), by rw [d1]; rfl, by rw [y3]; rfl, fun k hk => absurd hk (by omega), by rw [y4, d4, if_pos rfl]⟩⟩ (by rw [y2 0 (by decide) (by decide), t0]) (k_fr_trans f0 (fun y hy => ⟨eE y (by omega), by rw [y5]⟩)) (fun y hy => ⟨dD y (by omega), by rw [d7]⟩) rfl rfl
  · rw [if_neg c, k_needF, k_nF E0 1 k_10 t0, if_neg k_10]
    exact k_refE 0 0 _ q0 f0 (k_fc_refl D) rfl rfl rfl
