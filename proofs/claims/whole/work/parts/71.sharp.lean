/-! sharp, blow, blows -/
theorem k_lnA : am_ln 134 = 600 ∧ am_ln 135 = 600 ∧ am_ln 136 = 600 ∧ am_ln 137 = 600 ∧ am_ln 138 = 600 ∧ am_ln 119 = 600 ∧ am_ln 221 = 1200 ∧ am_ln 222 = 1200 := by
  have h : ∀ j : Nat, 1200 ≤ j → (am_SA ++ List.replicate 0 (0, 0))[j]? = none := by
    intro j hj
    rw [List.replicate_zero, List.append_nil, List.getElem?_eq_none]
    rw [am_SA_len]
    omega
  decide +kernel
theorem k_lnS (s : Nat) (h : s < 5) : am_ln (134 + s) = 600 := by
  obtain ⟨a0, a1, a2, a3, a4, _⟩ := k_lnA
  have c : s = 0 ∨ s = 1 ∨ s = 2 ∨ s = 3 ∨ s = 4 := by omega
  rcases c with rfl | rfl | rfl | rfl | rfl
  · exact a0
  · exact a1
  · exact a2
  · exact a3
  · exact a4
theorem k_blat {D E : am_D} {r0 n c : Nat} {pos : Nat → Nat} (h : k_bl D E r0 n c pos) (k : Int32) : f_X0_at r0 k D = some (if 0 ≤ k.toInt ∧ k.toInt < c then Int32.ofNat (pos k.toInt.toNat) else -1) := by
  have e0 : (0 : Int32).toInt = 0 := rfl
  have e600 : (600 : Int32).toInt = 600 := rfl
  obtain ⟨h1, h2, h3⟩ := h
  unfold f_X0_at
  rw [h2]
  by_cases c1 : k < 0
  · rw [if_pos c1, if_neg (by rw [j_lt, e0] at c1; omega)]
  · rw [if_neg c1]
    rw [j_lt, e0] at c1
    by_cases c2 : k.toInt < c
    · rw [if_neg (by rw [j_le, j_nat (by omega)]; omega), if_neg (by rw [j_le, e600]; omega), j_gI (by omega) (by omega), if_pos (by omega), (h3 _ (by omega)).1]
      rfl
    · rw [if_pos (by rw [j_le, j_nat (by omega)]; omega), if_neg (by omega)]
theorem op_blow {D E : am_D} (h : k_Q D E) (p k : Int32) : k_opE D E (f_X11_blow p k D) (f_X12_blow p k E) ["java/util/NoSuchElementException"] := by
  obtain ⟨E0, hE0, t0, f0, q0⟩ := k_start h
  have q0' := q0
  obtain ⟨ns, nm, nw, np, nh, ni, h1, h2, h3, h4, h5, h6, h7, h8, h9⟩ := q0'

  have hns := h1.1
  by_cases c : 0 ≤ p.toInt ∧ p.toInt < ns
  · obtain ⟨i, rfl, hi⟩ := k_ix c
    obtain ⟨n, g, b1, b2, b3, b4, b5, b6⟩ := h1.2.2.2 i hi
    have hl := k_lnS i (by omega)
    obtain ⟨D2, E2, cc, pos, d1, d2, d3, d4, d5, d6, d7⟩ := k_find (r0 := 106) b3 b5 (by omega) (by omega) (k_Rk_of h3) (by omega) (by omega) (by omega)
    have cls : f_X11_blow (Int32.ofNat i) k D = some (.inr (if 0 ≤ k.toInt ∧ k.toInt < cc then Int32.ofNat (pos k.toInt.toNat) else -1, D2)) := by
      unfold f_X11_blow
      rw [k_soT h1.2.1 h1.1 hi, k_btR, d1, Option.bind_some, k_blat d3, Option.bind_some]
    have ref : f_X12_blow (Int32.ofNat i) k E = some (if 0 ≤ k.toInt ∧ k.toInt < cc then Int32.ofNat (pos k.toInt.toNat) else -1, E2) := by
      have hcc := d3.1
      unfold f_X12_blow
      rw [Option.bind_some, ← hE0, k_isS _ h1.2.2.1 h1.1, Option.bind_some, if_pos c, k_nT E0 1 t0, if_pos rfl, k_a (by omega) (by omega), Option.bind_some, k_g (by omega) (by omega), b4, Option.bind_some, d2, Option.bind_some]
      dsimp only
      rw [k_inN k (by omega), Option.bind_some]
      by_cases c2 : 0 ≤ k.toInt ∧ k.toInt < cc
      · rw [if_pos c2, if_pos c2, if_neg k_10, j_gI (by omega) (by omega), (d3.2.2 _ (by omega)).2.1]
        rfl
      · rw [if_neg c2, if_neg c2, if_pos rfl]
    rw [cls, ref]
    refine k_valE _ (k_Q_sc q0 (fun y h1 h2 => d4 y (by omega) (by omega)) ⟨fun y hy => d6 y (by omega), fun j hj => by rw [d6 117 (by omega)], fun y _ => ⟨by rw [d6 221 (by omega)], by rw [d6 222 (by omega)]⟩, fun y _ => by rw [d6 223 (by omega)], fun q _ hq k y hk _ => by rw [d6 _ (by omega)]⟩) (by rw [d6 117 (by omega)]; exact t0) (k_fr_trans f0 (fun y hy => ⟨d6 y (by omega), by rw [d7]⟩)) (fun y hy => ⟨d4 y (by omega) (by omega), by rw [d5]⟩) rfl rfl
  · unfold f_X12_blow f_X11_blow
    rw [k_soF h1.2.1 h1.1 c, k_btL, Option.bind_some, ← hE0, k_isS _ h1.2.2.1 h1.1, Option.bind_some, if_neg c, k_nF E0 1 k_10 t0, if_neg k_10]
    exact k_refE 0 0 _ q0 f0 (k_fc_refl D) rfl rfl rfl
theorem op_blows {D E : am_D} (h : k_Q D E) : k_opN D E (f_X11_blows D) (f_X12_blows E) := by
  obtain ⟨E0, hE0, t0, f0, q0⟩ := k_start h
  have q0' := q0
  obtain ⟨ns, nm, nw, np, nh, ni, h1, h2, h3, h4, h5, h6, h7, h8, h9⟩ := q0'

  obtain ⟨L, out, q, st, a1, a2, a3, a4, a5, a6, a7, a8, a9, a10, a11, a12, a13, a14⟩ := h8
  have hl := k_lnA.2.2.2.2.2.2.2
  obtain ⟨D2, E2, cc, pos, d1, d2, d3, d4, d5, d6, d7⟩ := k_find (r0 := 109) a2 a4 (by omega) (by omega) (k_Rk_of h3) (by omega) (by omega) (by omega)
  have cls : f_X11_blows D = some (Int32.ofNat cc, D2) := by
    unfold f_X11_blows
    rw [d1, Option.bind_some, d3.2.1]
  have ref : f_X12_blows E = some (Int32.ofNat cc, E2) := by
    unfold f_X12_blows
    rw [Option.bind_some, ← hE0, a3, d2, Option.bind_some]
  rw [cls, ref]
  exact ⟨D2, E2, _, rfl, rfl, k_Q_sc q0 (fun y h1 h2 => d4 y (by omega) (by omega)) ⟨fun y hy => d6 y (by omega), fun j hj => by rw [d6 117 (by omega)], fun y _ => ⟨by rw [d6 221 (by omega)], by rw [d6 222 (by omega)]⟩, fun y _ => by rw [d6 223 (by omega)], fun q _ hq k y hk _ => by rw [d6 _ (by omega)]⟩, fun y hy => ⟨d4 y (by omega) (by omega), by rw [d5]⟩, k_fr_trans f0 (fun y hy => ⟨d6 y (by omega), by rw [d7]⟩)⟩
/-- a blow moved in the reference -/
theorem k_rmove {E : am_D} {n L wd i x w : Nat} {g out : Int → Int32} (q3 q4 : Int32) (hg : k_arr E 221 n g) (ho : k_arr E 222 L out) (hn : n ≤ 1200) (hL : L ≤ 1200) (e19 : E.1 117 19 = Int32.ofNat wd) (e36 : E.1 117 36 = Int32.ofNat n) (e38 : E.1 117 38 = Int32.ofNat L) (hi : i < 1200) (hb : E.1 2629 i = Int32.ofNat x) (hx : x < n) (hw : w < L) (hwd : wd ≤ 40) :
    ∃ E2, f_X12_sharp_L89 q3 q4 (Int32.ofNat i) (Int32.ofNat w) am_fu 0 E = some E2 ∧ k_arr E2 222 L (j_lays L out g w x (min wd (n - x))) ∧ (∀ y, y ≠ 222 → E2.1 y = E.1 y) ∧ E2.2 = E.2 := by
  have key := k_ind (P := fun fu k => ∀ E1 : am_D, k_arr E1 222 L (j_lays L out g w x k) → (∀ y, y ≠ 222 → E1.1 y = E.1 y) → E1.2 = E.2 → ∃ E2, f_X12_sharp_L89 q3 q4 (Int32.ofNat i) (Int32.ofNat w) fu (Int32.ofNat k) E1 = some E2 ∧ k_arr E2 222 L (j_lays L out g w x (min wd (n - x))) ∧ (∀ y, y ≠ 222 → E2.1 y = E.1 y) ∧ E2.2 = E.2) (min wd (n - x))
    (by
      intro fu k hk ih E1 h1 h2 h3
      rw [f_X12_sharp_L89, h2 117 (by decide), e19, e36, e38, if_neg (by rw [j_le, j_nat (by omega), j_nat (by omega)]; omega), k_g hi (by omega), h2 2629 (by decide), hb, Option.bind_some, ← Int32.ofNat_add, ← Int32.ofNat_add, if_neg (by rw [j_le, j_nat (by omega), j_nat (by omega)]; omega)]
      by_cases c : L ≤ w + k
      · rw [if_pos (by rw [j_le, j_nat (by omega), j_nat (by omega)]; omega)]
        refine ⟨E1, rfl, fun y hy => ?_, h2, h3⟩
        rw [h1 y hy]
        unfold j_lays
        by_cases c1 : (w : Int) ≤ y ∧ (y : Int) < w + k ∧ 0 ≤ (y : Int) ∧ (y : Int) < L
        · rw [if_pos c1, if_pos (by omega)]
        · rw [if_neg c1, if_neg (by omega)]
      · rw [if_neg (by rw [j_le, j_nat (by omega), j_nat (by omega)]; omega), Option.bind_some, ← Int32.ofNat_add, k_g (by omega) (by omega), h2 221 (by decide), hg _ (by omega), Option.bind_some, k_p _ (by omega) (by omega), Option.bind_some, j_suc]
        refine ih _ (fun y hy => ?_) (fun y hy => by rw [j_wI_ne _ _ _ hy]; exact h2 y hy) h3
        rw [j_wI_at]
        by_cases c1 : y = w + k
        · rw [if_pos c1]
          unfold j_lays
          rw [if_pos (by omega)]
          congr 1
          omega
        · rw [if_neg c1, h1 y hy]
          unfold j_lays
          by_cases c2 : (w : Int) ≤ y ∧ (y : Int) < w + k ∧ 0 ≤ (y : Int) ∧ (y : Int) < L
          · rw [if_pos c2, if_pos (by omega)]
          · rw [if_neg c2, if_neg (by omega)]) (by
      intro fu E1 h1 h2 h3
      rw [f_X12_sharp_L89, h2 117 (by decide), e19, e36, e38]
      by_cases c : wd ≤ min wd (n - x)
      · rw [if_pos (by rw [j_le, j_nat (by omega), j_nat (by omega)]; omega)]
        exact ⟨E1, rfl, h1, h2, h3⟩
      · rw [if_neg (by rw [j_le, j_nat (by omega), j_nat (by omega)]; omega), k_g hi (by omega), h2 2629 (by decide), hb, Option.bind_some, ← Int32.ofNat_add, if_pos (by rw [j_le, j_nat (by omega), j_nat (by omega)]; omega)]
        exact ⟨E1, rfl, h1, h2, h3⟩) am_fu 0 (by omega) (by unfold am_fu; omega) E (fun y hy => by
        rw [ho y hy]
        unfold j_lays
        rw [if_neg (by omega)]) (fun _ _ => rfl) rfl
  exact key
theorem k_moves {D E : am_D} {n m L c : Nat} {wd : Nat} {g f t out : Int → Int32} {pos : Nat → Nat} (q3 : Int32) (hs : k_sr D E 71 n g m f t) (hT : t ((m : Int) - 1) = Int32.ofNat L) (hL : L ≤ 1200) (ho : j_row D 74 L out) (ha : k_arr E 222 L out) (hb : k_bnd out) (e38 : E.1 117 38 = Int32.ofNat L) (e19 : E.1 117 19 = Int32.ofNat wd) (hwd : wd ≤ 40) (hbl : k_bl D E 106 n c pos) (hq3 : q3 = Int32.ofNat c) :
    ∃ D2 E2 v out2, f_X3_moveBlows 71 106 (Int32.ofNat wd) D = some (v, D2) ∧ f_X12_sharp_L55 q3 am_fu 0 0 E = some (v, E2) ∧ j_row D2 74 L out2 ∧ k_arr E2 222 L out2 ∧ k_bnd out2 ∧ (∀ y, y ≠ 75 → D2.1 y = D.1 y) ∧ (∀ y, y ≠ 75 → D2.2 y = D.2 y) ∧ (∀ y, y ≠ 222 → E2.1 y = E.1 y) ∧ E2.2 = E.2 := by
  obtain ⟨s1, s2, s3, s4, s5, s6, s7, s8, s9⟩ := hs
  have e0 : (0 : Int32).toInt = 0 := rfl
  have hc6 := hbl.1
  have key := k_ind (P := fun fu k => ∀ (D1 E1 : am_D) (v : Int32) (out1 : Int → Int32), j_row D1 74 L out1 → k_arr E1 222 L out1 → k_bnd out1 → (∀ y, y ≠ 75 → D1.1 y = D.1 y) → (∀ y, y ≠ 75 → D1.2 y = D.2 y) → (∀ y, y ≠ 222 → E1.1 y = E.1 y) → E1.2 = E.2 →
      ∃ D2 E2 v2 out2, f_X3_moveBlows_L5 71 106 (Int32.ofNat wd) fu v (Int32.ofNat k) D1 = some (v2, D2) ∧ f_X12_sharp_L55 q3 fu v (Int32.ofNat k) E1 = some (v2, E2) ∧ j_row D2 74 L out2 ∧ k_arr E2 222 L out2 ∧ k_bnd out2 ∧ (∀ y, y ≠ 75 → D2.1 y = D.1 y) ∧ (∀ y, y ≠ 75 → D2.2 y = D.2 y) ∧ (∀ y, y ≠ 222 → E2.1 y = E.1 y) ∧ E2.2 = E.2) c
    (by
      intro fu k hk ih D1 E1 v out1 r1 r2 r3 f1 f2 f3 f4
      have hbl1 : k_bl D1 E1 106 n c pos := ⟨hbl.1, by rw [f1 106 (by decide)]; exact hbl.2.1, fun j hj => by rw [f1 107 (by decide), f3 2629 (by decide)]; exact hbl.2.2 j hj⟩
      obtain ⟨p1, p2, p3, p4⟩ := hbl1.2.2 k hk
      have hm1 : j_map D1 76 m f t := j_map_fr s6 (f1 76 (by decide)) (f1 77 (by decide)) (f1 78 (by decide))
      have hf1 : k_fm E1 m f t := k_fm_by s7 (by rw [f3 117 (by decide)]) (f3 223 (by decide))
      obtain ⟨w, w1, w2, w3⟩ := k_where hm1 hf1 s8 (Int32.ofNat (pos k))
      have hTi : (t ((m : Int) - 1)).toInt = L := by rw [hT, j_nat (by omega)]
      have hat := k_blat hbl1 (Int32.ofNat k)
      rw [j_nat (by omega), if_pos (by omega)] at hat
      have hkk : ((k : Nat) : Int).toNat = k := by omega
      rw [hkk] at hat
      have hc : f_X3_moveBlows_L5 71 106 (Int32.ofNat wd) (fu + 1) v (Int32.ofNat k) D1 = (if w = -1 then some (v, D1) else (f_X7_lay 74 w 72 (Int32.ofNat (pos k)) (am_mn (Int32.ofNat wd) ((D1.1 72 1) - Int32.ofNat (pos k))) D1).bind fun x9 => some ((v + (1 : Int32)), x9)).bind fun w10 => f_X3_moveBlows_L5 71 106 (Int32.ofNat wd) fu w10.1 (Int32.ofNat k + 1) w10.2 := by
        rw [f_X3_moveBlows_L5, hbl1.2.1, if_neg (by rw [j_le, j_nat (by omega), j_nat (by omega)]; omega), hat, Option.bind_some, w1, Option.bind_some]
      have hr : f_X12_sharp_L55 q3 (fu + 1) v (Int32.ofNat k) E1 = (if w = -1 then some (v, E1) else (f_X12_sharp_L89 q3 (v + (1 : Int32)) (Int32.ofNat k) w am_fu (0 : Int32) E1).bind fun e33 => some ((v + (1 : Int32)), e33)).bind fun w35 => f_X12_sharp_L55 q3 fu w35.1 (Int32.ofNat k + 1) w35.2 := by
        rw [f_X12_sharp_L55, hq3, if_neg (by rw [j_le, j_nat (by omega), j_nat (by omega)]; omega), k_g (by omega) (by omega), p2, Option.bind_some, w2, Option.bind_some]
      rw [hc, hr]
      by_cases cw : w = -1
      · rw [if_pos cw, if_pos cw, Option.bind_some, Option.bind_some, j_suc]
        exact ih D1 E1 v out1 r1 r2 r3 f1 f2 f3 f4
      · have cw2 : 0 ≤ w.toInt ∧ w.toInt < L := by
          rcases w3 with z | z
          · exact absurd ((j_eq w (-1)).mpr z) cw
          · omega
        obtain ⟨w', rfl, hw'⟩ := k_ix cw2
        have hr72 : j_row D1 72 n g := j_row_fr s2 (f1 72 (by decide)) (f1 73 (by decide))
        have emn : am_mn (Int32.ofNat wd) (D1.1 72 1 - Int32.ofNat (pos k)) = Int32.ofNat (min wd (n - pos k)) := by
          rw [hr72.2.2.1, j_eq, j_mn, k_S, j_nat (by omega), j_nat (by omega), j_nat (by omega), j_nat (by omega)]
          omega
        obtain ⟨D2, d1, d2, d3⟩ := j_row_lay r1 hr72 ⟨by decide, by decide⟩ (Int32.ofNat w') (Int32.ofNat (pos k)) (min wd (n - pos k)) (by omega) (by rw [j_nat (by omega)]; omega) (by rw [j_nat (by omega)]; omega) (by rw [j_nat (by omega)]; omega) (by rw [j_nat (by omega)]; omega)
        rw [j_nat (by omega), j_nat (by omega)] at d2
        obtain ⟨E2, g1, g2, g3, g4⟩ := k_rmove (E := E1) q3 (v + 1) (wd := wd) (w := w') (k_arr_by s4 (f3 221 (by decide))) r2 s1 hL (by rw [f3 117 (by decide)]; exact e19) (by rw [f3 117 (by decide)]; exact s3) (by rw [f3 117 (by decide)]; exact e38) (show k < 1200 by omega) p2 p3 hw' hwd
        rw [if_neg cw, if_neg cw, emn, d1, g1, Option.bind_some, Option.bind_some, Option.bind_some, Option.bind_some, j_suc]
        refine ih D2 E2 (v + 1) _ d2 g2 (fun y => ?_) (fun y hy => by rw [(d3 y (by omega)).1]; exact f1 y hy) (fun y hy => by rw [(d3 y (by omega)).2]; exact f2 y hy) (fun y hy => by rw [g3 y hy]; exact f3 y hy) (by rw [g4]; exact f4)
        · unfold j_lays
          by_cases cy : (w' : Int) ≤ y ∧ y < (w' : Int) + (min wd (n - pos k) : Nat) ∧ 0 ≤ y ∧ y < L
          · rw [if_pos cy]; exact s5 _
          · rw [if_neg cy]; exact r3 _) (by
      intro fu D1 E1 v out1 r1 r2 r3 f1 f2 f3 f4
      rw [f_X3_moveBlows_L5, f_X12_sharp_L55, f1 106 (by decide), hbl.2.1, hq3, if_pos (Int32.le_refl _), if_pos (Int32.le_refl _)]
      exact ⟨D1, E1, v, out1, rfl, rfl, r1, r2, r3, f1, f2, f3, f4⟩) am_fu 0 (by omega) (by unfold am_fu; omega) D E 0 out ho ha hb (fun _ _ => rfl) (fun _ _ => rfl) (fun _ _ => rfl) rfl
  obtain ⟨D2, E2, v, out2, k1, k2, k3⟩ := key
  have k1 : f_X3_moveBlows_L5 71 106 (Int32.ofNat wd) am_fu 0 (0 : Int32) D = some (v, D2) := k1
  have k2 : f_X12_sharp_L55 q3 am_fu 0 (0 : Int32) E = some (v, E2) := k2
  refine ⟨D2, E2, v, out2, ?_, k2, k3⟩
  unfold f_X3_moveBlows
  rw [k1, Option.bind_some]
theorem op_sharp {D E : am_D} (h : k_Q D E) (p k : Int32) : k_opE D E (f_X11_sharp p k D) (f_X12_sharp p k E) ["java/util/NoSuchElementException", "java/lang/IndexOutOfBoundsException", "java/lang/IllegalStateException"] := by
  obtain ⟨E0, hE0, t0, f0, q0⟩ := k_start h
  have q0' := q0
  obtain ⟨ns, nm, nw, np, nh, ni, h1, h2, h3, h4, h5, h6, h7, h8, h9⟩ := q0'

  have hc : f_X12_sharp p k E = (f_X12_badBoth p k E0).bind fun x4 => if x4.1 = 0 then (f_X12_isShort p k x4.2).bind fun x7 => (f_X12_bad x7 (3 : Int32) x4.2).bind fun x9 => if x9.1 = 0 then (f_X12_drawsBoth p k x9.2).bind fun x12 => (f_X12_findBlows 221 (x12.1 117 36) x12).bind fun x14 => (f_X12_sharp_L55 x14.1 am_fu (0 : Int32) (0 : Int32) x14.2).bind fun e37 => some (e37.1, e37.2) else some ((0 : Int32), x9.2) else some ((0 : Int32), x4.2) := by
    rw [hE0]; rfl
  unfold f_X11_sharp
  rw [hc, k_badBoth p k t0 h1.2.2.1 h1.1 h2.2.2.1 h2.1, Option.bind_some]
  by_cases c : 0 ≤ p.toInt ∧ p.toInt < ns
  · obtain ⟨i, rfl, hi⟩ := k_ix c
    obtain ⟨n, g, b⟩ := h1.2.2.2 i hi
    have hns := h1.1
    rw [k_soT h1.2.1 h1.1 hi, k_btR, if_pos c]
    by_cases c2 : 0 ≤ k.toInt ∧ k.toInt < nm
    · obtain ⟨j, rfl, hj⟩ := k_ix c2
      obtain ⟨m, f, t, b1, b2, b3⟩ := h2.2.2.2 j hj
      have hnm := h2.1
      obtain ⟨w, o, s, hps⟩ := h3.1
      have hw := hps.1.2.1
      rw [k_maT h2.2.1 h2.1 hj, k_btR, if_pos c2, if_pos rfl]
      dsimp only
      rw [k_needLong b.2.2.1 b2 hps.2.1 (by omega), k_short b (by omega) b1 b3 (by omega) hps.2.2.2.2.1 (by omega), Option.bind_some]
      by_cases c3 : w ≤ n ∧ (f ((m : Int) - 1)).toInt ≤ n
      · rw [if_pos c3, if_pos c3, k_b0 t0, Option.bind_some, if_pos rfl, k_btR]
        dsimp only
        have hz : E0.1 223 0 = 0 ∧ E0.1 223 1 = 0 := by
          obtain ⟨_, _, _, _, _, _, _, _, _, _, _, _, _, _, _, _, a13, a14⟩ := h8
          exact ⟨a13, a14⟩
        obtain ⟨D2, E2, L, out, q, d1, d2, d3, d4, d5, d6, d7, d8, d9, d10, d11, d12⟩ := k_drawB (r0 := 71) b (by omega) b1 b2 b3 (by omega) hps c3.1 c3.2 hz.1 hz.2 k_rw73.1 k_rw73.2.1 (by omega) (by omega)
        have dD : ∀ y, (y < 71 ∨ 81 ≤ y) → D2.1 y = D.1 y := fun y hy => (d8 y (by omega)).1
        have eE : ∀ y, y ≠ 117 ∧ (y < 221 ∨ 1425 ≤ y) → E2.1 y = E0.1 y := fun y hy => d9.1 y hy.1 hy.2
        have d17 : ∀ j, 0 ≤ j → D2.1 17 j = D.1 17 j := fun j _ => by rw [dD 17 (by omega)]
        have e117 : ∀ j, (j < 36 ∨ 40 < j) → E2.1 117 j = E0.1 117 j := fun j hj => d9.2.1 j hj
        have hn2 : k_Rn D2 E2 := k_Rn_mv h3 (dD _ (by omega)) (fun j _ => d17 j (by omega)) (dD _ (by omega)) (fun j a b => e117 j (by omega)) (eE _ (by omega))
        have hl := k_lnA.2.2.2.2.2.2.1
        have hb2 := b.2.1
        obtain ⟨D3, E3, cc, pos, g1, g2, g3, g4, g5, g6, g7⟩ := k_find (D := D2) (E := E2) (r0 := 106) (a := 221) (p := 30 + 2 * i) (f := g) (n := n) (j_row_fr b.2.2.1 (dD _ (by omega)) (dD _ (by omega))) d4.2.2.2.1 (by omega) (by omega) (k_Rk_of hn2) (by omega) (by omega) (by omega)
        have hs3 : k_sr D3 E3 71 n g m f t := k_sr_mv d4 (fun y h1 h2 => g4 y (by omega) (by omega)) (by rw [g6 117 (by omega)]) (by rw [g6 117 (by omega)]) (fun y _ => by rw [g6 221 (by omega)]) (fun y _ => by rw [g6 223 (by omega)])
        obtain ⟨_, ⟨fl, ti, wd, z1, z2, z3, z4, z5, z6, z7, z8, z9, z10, z11, z12⟩, _⟩ := hn2
        have hor := d5
        obtain ⟨⟨o1, o1c⟩, o2, o3, o4, o5, o6, o7, o8, o9, o10, o11, o12, o13⟩ := hor
        obtain ⟨D4, E4, v, out2, m1, m2, m3, m4, m5, m6, m7, m8, m9⟩ := k_moves (D := D3) (E := E3) (Int32.ofNat cc) hs3 d3 o1 (j_row_fr o2 (g4 _ (by omega) (by omega)) (g4 _ (by omega) (by omega))) (k_arr_by o4 (g6 222 (by omega))) o5 (by rw [g6 117 (by omega)]; exact o3) (by rw [g6 117 (by omega)]; exact z12) z6 g3 rfl
        have fD : ∀ y, (y < 71 ∨ 81 ≤ y) ∧ y ≠ 106 ∧ y ≠ 107 → D4.1 y = D.1 y := fun y hy => by rw [m6 y (by omega), g4 y (by omega) (by omega), dD y hy.1]
        have fE : ∀ y, y ≠ 117 ∧ (y < 221 ∨ 1425 ≤ y) ∧ y ≠ 2629 → E4.1 y = E0.1 y := fun y hy => by rw [m8 y (by omega), g6 y (by omega), eE y (by omega)]
        have fE7 : ∀ j, E4.1 117 j = E2.1 117 j := fun j => by rw [m8 117 (by omega), g6 117 (by omega)]
        have hor4 : k_or D4 E4 71 L L out2 q (w - o) := by
          refine ⟨⟨o1, o1c⟩, m3, by rw [fE7]; exact o3, m4, m5, ?_, by rw [fE7]; exact o7, ?_, o9, o10, o11, o12, fun k hk => ?_⟩
          · rw [m6 71 (by omega), g4 71 (by omega) (by omega)]; exact o6
          · rw [m6 71 (by omega), g4 71 (by omega) (by omega)]; exact o8
          · rw [m8 _ (by omega), g6 _ (by omega), m6 79 (by omega), g4 79 (by omega) (by omega), m6 80 (by omega), g4 80 (by omega) (by omega)]; exact o13 k hk
        have hs4 : k_sr D4 E4 71 n g m f t := by
          obtain ⟨s1, s2, s3, s4, s5, s6, s7, s8, s9⟩ := hs3
          exact ⟨s1, j_row_fr s2 (m6 _ (by omega)) (m6 _ (by omega)), by rw [m8 117 (by omega)]; exact s3, k_arr_by s4 (m8 221 (by omega)), s5, j_map_fr s6 (m6 _ (by omega)) (m6 _ (by omega)) (m6 _ (by omega)), k_fm_by s7 (by rw [m8 117 (by omega)]) (m8 223 (by omega)), s8, s9⟩
        have hd4 : k_Rd D4 E4 := k_RdNew hs4 hor4 d3 (by rw [m6 71 (by omega), g4 71 (by omega) (by omega)]; exact d6) (by rw [fE7]; exact d7) (by rw [m8 223 (by omega), g6 223 (by omega)]; exact d11) (by rw [m8 223 (by omega), g6 223 (by omega)]; exact d12)
        have q4 : k_Q D4 E4 := by
          have dD : ∀ y, (y < 71 ∨ 81 ≤ y) ∧ y ≠ 106 ∧ y ≠ 107 → D4.1 y = D.1 y := fD
          have eE : ∀ y, y ≠ 117 ∧ (y < 221 ∨ 1425 ≤ y) ∧ y ≠ 2629 → E4.1 y = E0.1 y := fE
          have d17 : ∀ j, 0 ≤ j → D4.1 17 j = D.1 17 j := fun j _ => by rw [dD 17 (by omega)]
          have e117 : ∀ j, (j < 36 ∨ 40 < j) → E4.1 117 j = E0.1 117 j := fun j hj => by rw [fE7]; exact d9.2.1 j hj
          exact ⟨ns, nm, nw, np, nh, ni, k_Rs_mv h1 (d17 7 (by omega)) (e117 12 (by omega)) (fun y a b => dD y (by omega)) (eE _ (by omega)) (fun y a b => eE y (by omega)), k_Rm_mv h2 (d17 8 (by omega)) (e117 13 (by omega)) (fun y a b => dD y (by omega)) (eE _ (by omega)) (fun y a b => eE y (by omega)), k_Rn_mv h3 (dD _ (by omega)) (fun j _ => d17 j (by omega)) (dD _ (by omega)) (fun j a b => e117 j (by omega)) (eE _ (by omega)), k_Rw_mv h4 (d17 9 (by omega)) (e117 20 (by omega)) (fun y a b => dD y (by omega)) (fun y a b => eE y (by omega)), k_Rp_mv h5 (by rw [dD 24 (by omega)]) (e117 21 (by omega)) (fun y a b => dD y (by omega)) (fun y a b => eE y (by omega)), k_Rh_mv h6 (d17 10 (by omega)) (e117 22 (by omega)) (dD _ (by omega)) (eE _ (by omega)), k_Ri_mv h7 (fun _ => Nat.le_refl _) (by rw [dD 16 (by omega)]) (e117 23 (by omega)) (fun y a b => dD y (by omega)) (fun y a b => eE y (by omega)) (fun s hs => by have hs : s < ns := hs; have := h1.1; exact ⟨by rw [eE 139 (by omega)], fun k _ => by rw [eE (134 + s) (by omega)]⟩) (fun m hm => by have hm : m < nm := hm; have := h2.1; exact ⟨by rw [eE 201 (by omega)], fun k j _ _ => by rw [eE _ (by omega)]⟩) (fun w j hw _ => by have hw : w < nw := hw; have := h4.1; rw [eE _ (by omega)]) (fun p j hp _ => by have hp : p < np := hp; have := h5.1; rw [eE _ (by omega)]) (fun z _ => by rw [eE 203 (by omega)]), hd4, k_Rt_mv h9 (dD _ (by omega)) (dD _ (by omega)) (e117 1 (by omega)) (e117 3 (by omega)) (eE _ (by omega))⟩
        rw [d1, d2, Option.bind_some, Option.bind_some, g1, d4.2.2.1, g2, Option.bind_some, Option.bind_some, g4 17 (by omega) (by omega), z9, m1]
        dsimp only
        rw [m2]
        refine k_valE v (D1 := D4) (E1 := E4) q4 ?_ ?_ ?_ rfl rfl
        · rw [fE7, e117 0 (by omega)]; exact t0
        · exact k_fr_trans f0 (fun y hy => ⟨fE y (by omega), by rw [m9, g7, d9.2.2]⟩)
        · exact fun y hy => ⟨fD y (by omega), by rw [m7 y (by omega), g5, (d8 y (by omega)).2]⟩
      · rw [if_neg c3, if_neg c3, k_b1 t0 3 (by decide), Option.bind_some, if_neg k_10, k_btL]
        exact k_refE 0 2 _ q0 f0 (k_fc_refl D) rfl rfl rfl
    · rw [k_maF h2.2.1 h2.1 c2, k_btL, if_neg c2, if_neg k_10]
      exact k_refE 0 1 _ q0 f0 (k_fc_refl D) rfl rfl rfl
  · rw [k_soF h1.2.1 h1.1 c, k_btL, if_neg c, if_neg k_10]
    exact k_refE 0 0 _ q0 f0 (k_fc_refl D) rfl rfl rfl
