/-! each harm, counted, harm() -/
/-- what the harms may change: scratch of the class, blowAt of the reference -/
def k_fh (D D2 : am_D) : Prop := (∀ y, (y < 106 ∨ 112 ≤ y) → D2.1 y = D.1 y) ∧ D2.2 = D.2
def k_fg (E E2 : am_D) : Prop := (∀ y, y ≠ 2629 → E2.1 y = E.1 y) ∧ E2.2 = E.2
theorem k_fh_trans {D D2 D3 : am_D} (h : k_fh D D2) (h2 : k_fh D2 D3) : k_fh D D3 := ⟨fun y hy => (h2.1 y hy).trans (h.1 y hy), h2.2.trans h.2⟩
theorem k_fg_trans {D D2 D3 : am_D} (h : k_fg D D2) (h2 : k_fg D2 D3) : k_fg D D3 := ⟨fun y hy => (h2.1 y hy).trans (h.1 y hy), h2.2.trans h.2⟩
theorem k_sr_h {D E D2 E2 : am_D} {r0 n m : Nat} {g f t : Int → Int32} (h : k_sr D E r0 n g m f t) (hD : k_fh D D2) (hE : k_fg E E2) (hr : r0 + 10 ≤ 106) : k_sr D2 E2 r0 n g m f t :=
  k_sr_mv h (fun y a b => hD.1 y (by omega)) (by rw [hE.1 117 (by omega)]) (by rw [hE.1 117 (by omega)]) (fun y _ => by rw [hE.1 221 (by omega)]) (fun y _ => by rw [hE.1 223 (by omega)])
theorem k_or_h {D E D2 E2 : am_D} {r0 L c q st : Nat} {out : Int → Int32} (h : k_or D E r0 L c out q st) (hD : k_fh D D2) (hE : k_fg E E2) (hr : r0 + 10 ≤ 106) : k_or D2 E2 r0 L c out q st := by
  have hq := h.2.2.2.2.2.2.2.2.2.2.2.1
  exact k_or_mv h (fun y a b => hD.1 y (by omega)) (by rw [hE.1 117 (by omega)]) (by rw [hE.1 117 (by omega)]) (hE.1 222 (by omega)) (fun k hk => hE.1 _ (by omega))
theorem k_Rk_h {D E D2 E2 : am_D} (h : k_Rk D E) (hD : k_fh D D2) (hE : k_fg E E2) : k_Rk D2 E2 :=
  k_Rk_mv h (fun y hy => hD.1 y (by omega)) (fun j _ => by rw [hE.1 117 (by omega)]) (hE.1 _ (by omega))
theorem k_harmOf {D E : am_D} {r0 n m L q st : Nat} {g f t out : Int → Int32} (hs : k_sr D E r0 n g m f t) (ho : k_or D E r0 L L out q st) (hT : t ((m : Int) - 1) = Int32.ofNat L) (hn : k_Rk D E) (hr : r0 + 10 ≤ 106) (i : Nat) (hi : i < 4) :
    ∃ D2 E2 v, f_X11_harmOf r0 (Int32.ofNat i) D = some (v, D2) ∧ f_X12_harmOf (Int32.ofNat i) E = some (v, E2) ∧ k_fh D D2 ∧ k_fg E E2 := by
  have hn' := hn
  obtain ⟨⟨fl, ti, wd, z1, z2, z3, z4, z5, z6, z7, z8, z9, z10, z11, z12⟩, _⟩ := hn'
  have hl := k_lnA.2.2.2.2.2.2
  have hs1 := hs.1
  have hs2 := hs.2.1
  have hs4 := hs.2.2.2.1
  have hs3 := hs.2.2.1
  have ho1 := ho.1.1
  have ho2 := ho.2.1
  have ho3 := ho.2.2.1
  have ho4 := ho.2.2.2.1
  have c : i = 0 ∨ i = 1 ∨ i = 2 ∨ i = 3 := by omega
  rcases c with rfl | rfl | rfl | rfl
  · obtain ⟨v, v1, v2⟩ := k_h0 ho
    refine ⟨D, E, v, ?_, ?_, ⟨fun _ _ => rfl, rfl⟩, ⟨fun _ _ => rfl, rfl⟩⟩
    · unfold f_X11_harmOf
      rw [if_neg (by decide), if_pos (show Int32.ofNat 0 = 0 from rfl), v1, Option.bind_some]
    · unfold f_X12_harmOf
      rw [if_neg (by decide), if_pos (show Int32.ofNat 0 = 0 from rfl), v2, Option.bind_some]
  · obtain ⟨D2, E2, cc, pos, d1, d2, d3, d4, d5, d6, d7⟩ := k_find (D := D) (E := E) (r0 := 106) (p := r0 + 1) (a := 221) (n := n) hs2 hs4 (by omega) (by omega) hn (by omega) (by omega) (by omega)
    have hD : k_fh D D2 := ⟨fun y hy => d4 y (by omega) (by omega), d5⟩
    have hE : k_fg E E2 := ⟨d6, d7⟩
    obtain ⟨v, v1, v2⟩ := k_h1 (wd := wd) (Int32.ofNat cc) (k_sr_h hs hD hE hr) (k_or_h ho hD hE hr) hT (by rw [d6 117 (by omega)]; exact z12) z6 d3 rfl
    refine ⟨D2, E2, v, ?_, ?_, hD, hE⟩
    · unfold f_X11_harmOf
      rw [if_neg (by decide), if_neg (by decide), if_pos (show Int32.ofNat 1 = 1 from rfl), d1, Option.bind_some, hD.1 17 (by omega), z9, v1, Option.bind_some]
    · unfold f_X12_harmOf f_X12_smear
      rw [if_neg (by decide), if_neg (by decide), if_pos (show Int32.ofNat 1 = 1 from rfl), hs3, d2, Option.bind_some]
      dsimp only
      rw [v2, Option.bind_some, Option.bind_some]
  · obtain ⟨D2, E9, c9, pos9, a1, _, _, a4, a5, _, _⟩ := k_find (D := D) (E := E) (r0 := 106) (p := r0 + 1) (a := 221) (n := n) hs2 hs4 (by omega) (by omega) hn (by omega) (by omega) (by omega)
    have hD : k_fh D D2 := ⟨fun y hy => a4 y (by omega) (by omega), a5⟩
    have hro : j_row D2 (r0 + 3) L out := j_row_fr ho2 (hD.1 _ (by omega)) (hD.1 _ (by omega))
    obtain ⟨D3, E2, c2, pos2, b1, b2, b3, b4, b5, b6, b7⟩ := k_find (D := D2) (E := E) (r0 := 109) (p := r0 + 3) (a := 222) (n := L) hro ho4 (by omega) (by omega) (k_Rk_h hn hD ⟨fun _ _ => rfl, rfl⟩) (by omega) (by omega) (by omega)
    obtain ⟨D4, E3, c1, pos1, e1, e2, e3, e4, e5, e6, e7⟩ := k_find (D := D) (E := E2) (r0 := 106) (p := r0 + 1) (a := 221) (n := n) hs2 (k_arr_by hs4 (b6 221 (by omega))) (by omega) (by omega) (k_Rk_h hn ⟨fun _ _ => rfl, rfl⟩ ⟨b6, b7⟩) (by omega) (by omega) (by omega)
    have hDD : D4 = D2 := Option.some.inj (e1.symm.trans a1)
    refine ⟨D3, E3, am_mx 0 (Int32.ofNat c2 - Int32.ofNat c1), ?_, ?_, k_fh_trans hD ⟨fun y hy => b4 y (by omega) (by omega), b5⟩, k_fg_trans ⟨b6, b7⟩ ⟨e6, e7⟩⟩
    · unfold f_X11_harmOf
      rw [if_neg (by decide), if_neg (by decide), if_neg (by decide), if_pos (show Int32.ofNat 2 = 2 from rfl), a1, Option.bind_some, b1, Option.bind_some, b3.2.1, b4 106 (by omega) (by omega), ← hDD, e3.2.1]
    · unfold f_X12_harmOf
      rw [if_neg (by decide), if_neg (by decide), if_neg (by decide), if_pos (show Int32.ofNat 2 = 2 from rfl), ho3, b2, Option.bind_some]
      dsimp only
      rw [b6 117 (by omega), hs3, e2, Option.bind_some]
      dsimp only
      rw [k_more, Option.bind_some]
  · obtain ⟨v, v1, v2⟩ := k_h3 (wd := wd) hs ho hT z12 z6
    refine ⟨D, E, v, ?_, ?_, ⟨fun _ _ => rfl, rfl⟩, ⟨fun _ _ => rfl, rfl⟩⟩
    · unfold f_X11_harmOf
      rw [if_pos (by decide), z9, v1, Option.bind_some]
    · unfold f_X12_harmOf
      rw [if_pos (by decide), v2, Option.bind_some]
theorem k_counted {D E : am_D} {r0 n m L q st : Nat} {g f t out : Int → Int32} (hs : k_sr D E r0 n g m f t) (ho : k_or D E r0 L L out q st) (hT : t ((m : Int) - 1) = Int32.ofNat L) (hn : k_Rk D E) (hr : r0 + 10 ≤ 106) :
    ∃ D2 E2 v, f_X11_countedOf r0 D = some (v, D2) ∧ f_X12_counted E = some (v, E2) ∧ k_fh D D2 ∧ k_fg E E2 := by
  have key := k_ind (P := fun fu k => ∀ (D1 E1 : am_D) (v : Int64), k_fh D D1 → k_fg E E1 → ∃ D2 E2 w, f_X11_countedOf_L5 r0 fu v (Int32.ofNat k) D1 = some (w, D2) ∧ f_X12_counted_L4 fu v (Int32.ofNat k) E1 = some (w, E2) ∧ k_fh D D2 ∧ k_fg E E2) 4
    (by
      intro fu k hk ih D1 E1 v f1 f2
      have e4 : (4 : Int32).toInt = 4 := rfl
      obtain ⟨D2, E2, w, a1, a2, a3, a4⟩ := k_harmOf (k_sr_h hs f1 f2 hr) (k_or_h ho f1 f2 hr) hT (k_Rk_h hn f1 f2) hr k hk
      have c9 : ¬ (4 : Int32) ≤ Int32.ofNat k := by rw [j_le, j_nat (by omega), e4]; omega
      have hw : D1.1 22 k = E2.1 202 k := by rw [f1.1 22 (by omega), a4.1 202 (by omega), f2.1 202 (by omega)]; exact hn.2 k hk
      have hc : f_X11_countedOf_L5 r0 (fu + 1) v (Int32.ofNat k) D1 = f_X11_countedOf_L5 r0 fu (v + (Int32.toInt64 (D1.1 22 k) * Int32.toInt64 w)) (Int32.ofNat (k + 1)) D2 := by
        rw [f_X11_countedOf_L5, if_neg c9, k_g (by omega) (by omega), Option.bind_some, a1, Option.bind_some, j_suc]
      have hr2 : f_X12_counted_L4 (fu + 1) v (Int32.ofNat k) E1 = f_X12_counted_L4 fu (v + (Int32.toInt64 (D1.1 22 k) * Int32.toInt64 w)) (Int32.ofNat (k + 1)) E2 := by
        rw [f_X12_counted_L4, if_neg c9, a2, Option.bind_some, k_g (by omega) (by omega), Option.bind_some, j_suc, ← hw, Int64.mul_comm]
      rw [hc, hr2]
      exact ih D2 E2 _ (k_fh_trans f1 a3) (k_fg_trans f2 a4)) (by
      intro fu D1 E1 v f1 f2
      have c9 : (4 : Int32) ≤ Int32.ofNat 4 := Int32.le_refl _
      rw [f_X11_countedOf_L5, f_X12_counted_L4, if_pos c9, if_pos c9]
      exact ⟨D1, E1, v, rfl, rfl, f1, f2⟩) am_fu 0 (by omega) (by unfold am_fu; omega) D E 0 ⟨fun _ _ => rfl, rfl⟩ ⟨fun _ _ => rfl, rfl⟩
  obtain ⟨D2, E2, w, k1, k2, k3, k4⟩ := key
  have k1 : f_X11_countedOf_L5 r0 am_fu 0 (0 : Int32) D = some (w, D2) := k1
  have k2 : f_X12_counted_L4 am_fu 0 (0 : Int32) E = some (w, E2) := k2
  refine ⟨D2, E2, Int64.toInt32 (am_mnL w 1000000000), ?_, ?_, k3, k4⟩
  · unfold f_X11_countedOf
    rw [k1, Option.bind_some]
  · unfold f_X12_counted
    rw [k2, Option.bind_some]
    have e1 : (1 : Int32).toInt = 1 := rfl
    have e0 : (0 : Int32).toInt = 0 := rfl
    have em1 : (-1 : Int32).toInt = -1 := rfl
    unfold lg_cmp am_mnL
    dsimp only
    by_cases c : (1000000000 : Int64) < w
    · rw [if_pos c, if_pos c, if_neg (by rw [j_le, e1, e0]; omega)]
      rfl
    · rw [if_neg c, if_neg c]
      by_cases c2 : w = 1000000000
      · rw [if_pos c2, if_pos (Int32.le_refl _)]
      · rw [if_neg c2, if_pos (by rw [j_le, em1, e0]; omega)]
theorem k_Q_h {D E D2 E2 : am_D} (h : k_Q D E) (hD : k_fh D D2) (hE : k_fg E E2) : k_Q D2 E2 := k_Q_sc h (fun y h1 h2 => hD.1 y (by omega)) ⟨fun y hy => hE.1 y (by omega), fun j hj => by rw [hE.1 117 (by omega)], fun y _ => ⟨by rw [hE.1 221 (by omega)], by rw [hE.1 222 (by omega)]⟩, fun y _ => by rw [hE.1 223 (by omega)], fun q _ hq k y hk _ => by rw [hE.1 _ (by omega)]⟩
theorem op_harm {D E : am_D} (h : k_Q D E) (w : Int32) : k_opE D E (f_X11_harm w D) (f_X12_harm w E) ["java/lang/IllegalArgumentException"] := by
  obtain ⟨E0, hE0, t0, f0, q0⟩ := k_start h
  have q0' := q0
  obtain ⟨ns, nm, nw, np, nh, ni, h1, h2, h3, h4, h5, h6, h7, h8, h9⟩ := q0'

  have e0 : (0 : Int32).toInt = 0 := rfl
  have e4 : (4 : Int32).toInt = 4 := rfl
  obtain ⟨L, out, q, st, a1, a2, a3, a4, a5, a6, a7, a8, a9, a10, a11, a12, a13, a14⟩ := h8
  by_cases c : 0 ≤ w.toInt ∧ w.toInt ≤ 4
  · have cls : f_X11_harm w D = if D.1 71 7 = 0 then some (.inr (-1, D)) else if w = 4 then (f_X11_countedOf 71 D).bind fun x10 => some (.inr (x10.1, x10.2)) else (f_X11_harmOf 71 w D).bind fun x8 => some (.inr (x8.1, x8.2)) := by
      unfold f_X11_harm
      rw [k_cwithin, e0, e4, if_pos c, Option.bind_some, k_needT]
    have ref : f_X12_harm w E = if E0.1 117 40 = 0 then some (-1, E0) else if w = 4 then (f_X12_counted E0).bind fun x16 => some (x16.1, x16.2) else (f_X12_harmOf w E0).bind fun x14 => some (x14.1, x14.2) := by
      unfold f_X12_harm
      rw [Option.bind_some, ← hE0, k_in, e0, e4, if_pos c, Option.bind_some, k_nT E0 1 t0, if_pos rfl]
    rw [cls, ref, a10]
    by_cases cd : E0.1 117 40 = 0
    · rw [if_pos cd, if_pos cd]
      exact k_valE _ q0 t0 f0 (k_fc_refl D) rfl rfl
    · rw [if_neg cd, if_neg cd]
      have cd1 : E0.1 117 40 = 1 := by
        rcases a11 with z | z
        · exact absurd z cd
        · exact z
      obtain ⟨⟨b1, b2, b3, b4⟩, n, g, m, f, t, hs, hT⟩ := a12 cd1
      have hor : k_or D E0 71 L L out q st := ⟨⟨a1, Nat.le_refl _⟩, a2, a3, a4, a5, a6, a7, b1, b2, b3, b4, a8, fun k hk => (a9 k hk).2⟩
      have fin : ∀ (D2 E2 : am_D), k_fh D D2 → k_fg E0 E2 → ∀ v : Int32, k_opE D E (some (.inr (v, D2))) (some (v, E2)) ["java/lang/IllegalArgumentException"] := fun D2 E2 f1 f2 v =>
        k_valE v (k_Q_h q0 f1 f2) (by rw [f2.1 117 (by omega)]; exact t0) (k_fr_trans f0 (fun y hy => ⟨f2.1 y (by omega), by rw [f2.2]⟩)) (fun y hy => ⟨f1.1 y (by omega), by rw [f1.2]⟩) rfl rfl
      by_cases cw : w = 4
      · rw [if_pos cw, if_pos cw]
        obtain ⟨D2, E2, v, d1, d2, d3, d4⟩ := k_counted hs hor hT (k_Rk_of h3) (by omega)
        rw [d1, d2, Option.bind_some, Option.bind_some]
        exact fin D2 E2 d3 d4 v
      · rw [if_neg cw, if_neg cw]
        have cw2 : w.toInt < 4 := by
          have := (not_congr (j_eq w 4)).mp cw
          rw [e4] at this
          omega
        obtain ⟨i, rfl, hi⟩ := k_ix (n := 4) (p := w) (by omega)
        obtain ⟨D2, E2, v, d1, d2, d3, d4⟩ := k_harmOf hs hor hT (k_Rk_of h3) (by omega) i hi
        rw [d1, d2, Option.bind_some, Option.bind_some]
        exact fin D2 E2 d3 d4 v
  · have clsF : f_X11_harm w D = some (.inl ("java/lang/IllegalArgumentException", D)) := by
      unfold f_X11_harm
      rw [k_cwithin, e0, e4, if_neg c, Option.bind_some, k_needF]
    have refF : f_X12_harm w E = some (0, am_wI E0 117 0 1) := by
      unfold f_X12_harm
      rw [Option.bind_some, ← hE0, k_in, e0, e4, if_neg c, Option.bind_some, k_nF E0 1 k_10 t0, if_neg k_10]
    rw [clsF, refF]
    exact k_refE 0 0 _ q0 f0 (k_fc_refl D) rfl rfl rfl
