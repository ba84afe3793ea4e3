/-! the ways tried: best, best of a part -/
theorem k_un {D E : am_D} {r0 n m L c q st p : Nat} {g f t out : Int → Int32} (hs : k_sr D E r0 n g m f t) (ho : k_or D E r0 L c out q st) (hp : p < m) : ∃ v, f_X3_unlikeTogether r0 (t ((p : Int) - 1)) (t p) D = some v ∧ f_X12_unlikeOf (Int32.ofNat p) E = some v := by
  have hsm := k_seamR ho
  obtain ⟨s1, s2, s3, s4, s5, s6, s7, s8, s9⟩ := hs
  obtain ⟨⟨o1, o1c⟩, o2, o3, o4, o5, o6, o7, o8, o9, o10, o11, o12, o13⟩ := ho
  have e600 : (600 : Int32).toInt = 600 := rfl
  have hm := s8.2.1
  have hb1 := k_mv_bd s8 p (by omega)
  have hb2 := k_mv_bd s8 (p + 1) (by omega)
  have hst := (s8.2.2.2.2.1 p hp).2
  have e9 : ((p + 1 : Nat) : Int) - 1 = p := by omega
  rw [e9] at hb2
  have et : (t p - 1).toInt = (t p).toInt - 1 := by
    have e1 : (1 : Int32).toInt = 1 := rfl
    rw [k_S, e1]
    omega
  have r1 : am_gI E 223 26 ((2 : Int32) * Int32.ofNat p + 1) = some (t ((p : Int) - 1)) := by
    have e : (2 : Int32) * Int32.ofNat p + 1 = Int32.ofNat (2 * p + 1) := by rw [Int32.ofNat_add, Int32.ofNat_mul]; rfl
    rw [e, k_g (by omega) (by omega), (s7.2 p (by omega)).2]
  have r2 : am_gI E 223 26 ((2 : Int32) * Int32.ofNat p + 3) = some (t p) := by
    have e : (2 : Int32) * Int32.ofNat p + 3 = Int32.ofNat (2 * (p + 1) + 1) := by
      have e : 2 * (p + 1) + 1 = 2 * p + 3 := by omega
      rw [e, Int32.ofNat_add, Int32.ofNat_mul]; rfl
    rw [e, k_g (by omega) (by omega), (s7.2 (p + 1) (by omega)).2, e9]
  have key := k_ind (P := fun fu k => ∀ v, ∃ w, f_X3_unlikeTogether_L5 r0 (t ((p : Int) - 1)) (t p) D fu v (Int32.ofNat k) = some w ∧ f_X12_unlikeOf_L4 (Int32.ofNat p) E fu v (Int32.ofNat k) = some w) q
    (by
      intro fu k hk ih v
      have hb := hsm k hk
      obtain ⟨x, hx⟩ : ∃ x, x = (k + 1) * st := ⟨_, rfl⟩
      rw [← hx] at hb
      have hcw : f_X11_within (Int32.ofNat x) (t ((p : Int) - 1)) (t p - 1) = some (if (t ((p : Int) - 1)).toInt ≤ x ∧ (x : Int) < (t p).toInt then 1 else 0) := by
        rw [k_cwithin, et, j_nat (by omega)]
        by_cases cc : (t ((p : Int) - 1)).toInt ≤ x ∧ (x : Int) < (t p).toInt
        · rw [if_pos cc, if_pos (by omega)]
        · rw [if_neg cc, if_neg (by omega)]
      have hc : f_X3_unlikeTogether_L5 r0 (t ((p : Int) - 1)) (t p) D (fu + 1) v (Int32.ofNat k) = f_X3_unlikeTogether_L5 r0 (t ((p : Int) - 1)) (t p) D fu (if (t ((p : Int) - 1)).toInt ≤ x ∧ (x : Int) < (t p).toInt then v + D.1 (r0 + 9) k else v) (Int32.ofNat (k + 1)) := by
        rw [f_X3_unlikeTogether_L5, o6, if_neg (by rw [j_le, j_nat (by omega), j_nat (by omega)]; omega), if_neg (by rw [j_le, j_nat (by omega), e600]; omega), o8, j_suc, ← Int32.ofNat_mul, ← hx, hcw, Option.bind_some]
        by_cases cc : (t ((p : Int) - 1)).toInt ≤ x ∧ (x : Int) < (t p).toInt
        · rw [if_pos cc, if_pos cc, if_neg k_10, k_g (by omega) (by omega), Option.bind_some, Option.bind_some]
        · rw [if_neg cc, if_neg cc, if_pos rfl, Option.bind_some]
      have hr : f_X12_unlikeOf_L4 (Int32.ofNat p) E (fu + 1) v (Int32.ofNat k) = f_X12_unlikeOf_L4 (Int32.ofNat p) E fu (if (t ((p : Int) - 1)).toInt ≤ x ∧ (x : Int) < (t p).toInt then v + D.1 (r0 + 9) k else v) (Int32.ofNat (k + 1)) := by
        have g0 : am_gI E (225 + k) 3 0 = some (E.1 (225 + k) 0) := k_g (k := 0) (by omega) (by omega)
        have g2 : am_gI E (225 + k) 3 2 = some (E.1 (225 + k) 2) := k_g (k := 2) (by omega) (by omega)
        have ev : v + 0 = v := by grind
        rw [f_X12_unlikeOf_L4, o7, if_neg (by rw [j_le, j_nat (by omega), j_nat (by omega)]; omega), k_a (by omega) (by omega), Option.bind_some, g0, (o13 k hk).1, ← hx, Option.bind_some, r1, Option.bind_some]
        by_cases c1 : (t ((p : Int) - 1)).toInt ≤ x
        · rw [if_neg (by rw [j_lt, j_nat (by omega)]; omega), Option.bind_some, Option.bind_some, g0, (o13 k hk).1, ← hx, Option.bind_some, r2, Option.bind_some]
          by_cases c2 : (x : Int) < (t p).toInt
          · rw [if_pos (show (t ((p : Int) - 1)).toInt ≤ x ∧ (x : Int) < (t p).toInt from ⟨c1, c2⟩), if_neg (by rw [j_le, j_nat (by omega)]; omega), g2, (o13 k hk).2.2, Option.bind_some, Option.bind_some, j_suc]
          · rw [if_neg (show ¬ ((t ((p : Int) - 1)).toInt ≤ x ∧ (x : Int) < (t p).toInt) from fun z => c2 z.2), if_pos (by rw [j_le, j_nat (by omega)]; omega), Option.bind_some, ev, j_suc]
        · rw [if_neg (show ¬ ((t ((p : Int) - 1)).toInt ≤ x ∧ (x : Int) < (t p).toInt) from fun z => c1 z.1), if_pos (by rw [j_lt, j_nat (by omega)]; omega), Option.bind_some, ev, j_suc]
      rw [hc, hr]
      exact ih _) (by
      intro fu v
      rw [f_X3_unlikeTogether_L5, f_X12_unlikeOf_L4, o6, o7, if_pos (Int32.le_refl _), if_pos (Int32.le_refl _)]
      exact ⟨v, rfl, rfl⟩) am_fu 0 (by omega) (by unfold am_fu; omega) 0
  obtain ⟨w, k1, k2⟩ := key
  have k1 : f_X3_unlikeTogether_L5 r0 (t ((p : Int) - 1)) (t p) D am_fu 0 (0 : Int32) = some w := k1
  have k2 : f_X12_unlikeOf_L4 (Int32.ofNat p) E am_fu 0 (0 : Int32) = some w := k2
  refine ⟨w, ?_, ?_⟩
  · unfold f_X3_unlikeTogether
    rw [k1, Option.bind_some]
  · unfold f_X12_unlikeOf
    rw [k2, Option.bind_some]
/-- is the sound long enough for every way -/
theorem k_waysLong {D E : am_D} {i n j m nw : Nat} {g f t : Int → Int32} (hs : k_snd D E i n g) (hi : i < 5) (hv : k_mv m f t) (hm : j_map D (40 + 3 * j) m f t) (hr : k_rm E j m f t) (hj : j < 5) (h4 : k_Rw D E nw) :
    (f_X11_needLongForWays (30 + 2 * i) (40 + 3 * j) D = some (.inr ()) ∧ f_X12_isSomeShort (Int32.ofNat i) (Int32.ofNat j) E = some 0 ∧ ∀ z w, z < nw → D.1 (55 + z) 0 = Int32.ofNat w → w ≤ 64 → w ≤ n ∧ (f ((m : Int) - 1)).toInt ≤ n) ∨
    (f_X11_needLongForWays (30 + 2 * i) (40 + 3 * j) D = some (.inl "java/lang/IllegalStateException") ∧ f_X12_isSomeShort (Int32.ofNat i) (Int32.ofNat j) E = some 1) := by
  have hn := hs.2.1
  have e4 : (4 : Int32).toInt = 4 := rfl
  obtain ⟨w1, w2, w3, w4⟩ := h4
  have key := k_ind (P := fun fu k => (∀ z w, z < k → D.1 (55 + z) 0 = Int32.ofNat w → w ≤ 64 → w ≤ n ∧ (f ((m : Int) - 1)).toInt ≤ n) →
      (f_X11_needLongForWays_L2 (30 + 2 * i) (40 + 3 * j) D fu (Int32.ofNat k) = some (.inr ()) ∧ f_X12_isSomeShort_L2 (Int32.ofNat i) (Int32.ofNat j) E fu (Int32.ofNat k) = some (.inr ()) ∧ ∀ z w, z < nw → D.1 (55 + z) 0 = Int32.ofNat w → w ≤ 64 → w ≤ n ∧ (f ((m : Int) - 1)).toInt ≤ n) ∨
      (f_X11_needLongForWays_L2 (30 + 2 * i) (40 + 3 * j) D fu (Int32.ofNat k) = some (.inl "java/lang/IllegalStateException") ∧ f_X12_isSomeShort_L2 (Int32.ofNat i) (Int32.ofNat j) E fu (Int32.ofNat k) = some (.inl ()))) nw
    (by
      intro fu k hk ih hz
      obtain ⟨w, o, s, hpv, x0, x1, x2, y0, y1, y2⟩ := w4 k hk
      have hw := hpv.2.1
      have hc : f_X11_needLongForWays_L2 (30 + 2 * i) (40 + 3 * j) D (fu + 1) (Int32.ofNat k) = if w ≤ n ∧ (f ((m : Int) - 1)).toInt ≤ n then f_X11_needLongForWays_L2 (30 + 2 * i) (40 + 3 * j) D fu (Int32.ofNat (k + 1)) else some (.inl "java/lang/IllegalStateException") := by
        rw [f_X11_needLongForWays_L2, w2, if_neg (by rw [j_le, j_nat (by omega), j_nat (by omega)]; omega), if_neg (by rw [j_le, j_nat (by omega), e4]; omega), k_a (by omega) (by omega), Option.bind_some, k_needLong hs.2.2.1 hm x0 (by omega), j_suc]
        by_cases c : w ≤ n ∧ (f ((m : Int) - 1)).toInt ≤ n
        · rw [if_pos c, if_pos c, k_bR]
        · rw [if_neg c, if_neg c, k_bL]
      have hr2 : f_X12_isSomeShort_L2 (Int32.ofNat i) (Int32.ofNat j) E (fu + 1) (Int32.ofNat k) = if w ≤ n ∧ (f ((m : Int) - 1)).toInt ≤ n then f_X12_isSomeShort_L2 (Int32.ofNat i) (Int32.ofNat j) E fu (Int32.ofNat (k + 1)) else some (.inl ()) := by
        have g0 : am_gI E (206 + k) 3 0 = some (E.1 (206 + k) 0) := k_g (k := 0) (by omega) (by omega)
        rw [f_X12_isSomeShort_L2, w3, if_neg (by rw [j_le, j_nat (by omega), j_nat (by omega)]; omega), k_g hi (by omega), hs.2.2.2.1, Option.bind_some, k_a (by omega) (by omega), Option.bind_some, g0, y0, Option.bind_some]
        by_cases c1 : w ≤ n
        · rw [if_neg (by rw [j_lt, j_nat (by omega), j_nat (by omega)]; omega), Option.bind_some, (k_rlast hr hv hj).1, Option.bind_some, j_suc]
          by_cases c2 : (f ((m : Int) - 1)).toInt ≤ n
          · rw [if_pos (by rw [j_le, j_nat (by omega)]; exact c2), if_pos ⟨c1, c2⟩]
          · rw [if_neg (by rw [j_le, j_nat (by omega)]; exact c2), if_neg (fun z => c2 z.2)]
        · rw [if_pos (by rw [j_lt, j_nat (by omega), j_nat (by omega)]; omega), if_neg (fun z => c1 z.1)]
      rw [hc, hr2]
      by_cases c : w ≤ n ∧ (f ((m : Int) - 1)).toInt ≤ n
      · rw [if_pos c, if_pos c]
        refine ih fun z w' hz1 hz2 hz3 => ?_
        by_cases ez : z = k
        · rw [ez, x0] at hz2
          have := k_ofN_inj hz2 (by omega) (by omega)
          rw [← this]
          exact c
        · exact hz z w' (by omega) hz2 hz3
      · rw [if_neg c, if_neg c]
        exact Or.inr ⟨rfl, rfl⟩) (by
      intro fu hz
      rw [f_X11_needLongForWays_L2, f_X12_isSomeShort_L2, w2, w3, if_pos (Int32.le_refl _), if_pos (Int32.le_refl _)]
      exact Or.inl ⟨rfl, rfl, hz⟩) am_fu 0 (by omega) (by unfold am_fu; omega) (fun z w hz => absurd hz (by omega))
  rcases key with ⟨a1, a2, a3⟩ | ⟨a1, a2⟩
  · left
    have a1 : f_X11_needLongForWays_L2 (30 + 2 * i) (40 + 3 * j) D am_fu (0 : Int32) = _ := a1
    have a2 : f_X12_isSomeShort_L2 (Int32.ofNat i) (Int32.ofNat j) E am_fu (0 : Int32) = _ := a2
    refine ⟨?_, ?_, a3⟩
    · unfold f_X11_needLongForWays
      rw [a1, k_bR]
    · unfold f_X12_isSomeShort
      rw [a2]
      rfl
  · right
    have a1 : f_X11_needLongForWays_L2 (30 + 2 * i) (40 + 3 * j) D am_fu (0 : Int32) = _ := a1
    have a2 : f_X12_isSomeShort_L2 (Int32.ofNat i) (Int32.ofNat j) E am_fu (0 : Int32) = _ := a2
    refine ⟨?_, ?_⟩
    · unfold f_X11_needLongForWays
      rw [a1, k_bL]
    · unfold f_X12_isSomeShort
      rw [a2]
      rfl
/-- what the trials may change -/
def k_ft (D D2 : am_D) : Prop := ∀ y, (y < 81 ∨ 112 ≤ y) → D2.1 y = D.1 y ∧ D2.2 y = D.2 y
def k_gt (E E2 : am_D) : Prop := (∀ y, y ≠ 117 → (y < 221 ∨ 1425 ≤ y) → y ≠ 2629 → E2.1 y = E.1 y) ∧ (∀ j, (j < 14 ∨ (16 < j ∧ j < 36) ∨ 40 < j) → E2.1 117 j = E.1 117 j) ∧ E2.2 = E.2
theorem k_gt_trans {E E2 E3 : am_D} (h : k_gt E E2) (h2 : k_gt E2 E3) : k_gt E E3 := ⟨fun y a b c => (h2.1 y a b c).trans (h.1 y a b c), fun j a => (h2.2.1 j a).trans (h.2.1 j a), h2.2.2.trans h.2.2⟩
theorem k_ft_trans {E E2 E3 : am_D} (h : k_ft E E2) (h2 : k_ft E2 E3) : k_ft E E3 := fun y a => ⟨(h2 y a).1.trans (h y a).1, (h2 y a).2.trans (h y a).2⟩
theorem k_bestL {D E : am_D} {i n j m nw : Nat} {g f t : Int → Int32} (q4 q5 q6 : Int32) (hs : k_snd D E i n g) (hi : i < 5) (hv : k_mv m f t) (hm : j_map D (40 + 3 * j) m f t) (hr : k_rm E j m f t) (hj : j < 5) (h3 : k_Rn D E) (h4 : k_Rw D E nw) (hok : ∀ z w, z < nw → D.1 (55 + z) 0 = Int32.ofNat w → w ≤ 64 → w ≤ n ∧ (f ((m : Int) - 1)).toInt ≤ n) (z0 : E.1 223 0 = 0) (z1 : E.1 223 1 = 0) :
    ∃ D2 E2 b, f_X11_best_L29 (30 + 2 * i) (40 + 3 * j) am_fu (-1) 0 0 D = some (b, D2) ∧ f_X12_bestWay_L31 (Int32.ofNat i) (Int32.ofNat j) (-1) q4 q5 q6 am_fu (-1) 0 0 E = some (b, E2) ∧ k_ft D D2 ∧ k_gt E E2 := by
  have e4 : (4 : Int32).toInt = 4 := rfl
  obtain ⟨w1, w2, w3, w4⟩ := h4
  have hms := hm.1
  have key := k_ind (P := fun fu k => ∀ (D1 E1 : am_D) (b l : Int32), k_ft D D1 → k_gt E E1 → E1.1 223 0 = 0 → E1.1 223 1 = 0 → ∃ D2 E2 b2, f_X11_best_L29 (30 + 2 * i) (40 + 3 * j) fu b l (Int32.ofNat k) D1 = some (b2, D2) ∧ f_X12_bestWay_L31 (Int32.ofNat i) (Int32.ofNat j) (-1) q4 q5 q6 fu b l (Int32.ofNat k) E1 = some (b2, E2) ∧ k_ft D D2 ∧ k_gt E E2) nw
    (by
      intro fu k hk ih D1 E1 b l f1 f2 y0 y1
      obtain ⟨w, o, s, hpv, x0, x1, x2, u0, u1, u2⟩ := w4 k hk
      have hw := hpv.2.1
      have hwn := hok k w hk x0 hw
      -- the reference takes the way
      obtain ⟨E2, hE2⟩ : ∃ E2, E2 = am_wI (am_wI (am_wI E1 117 14 (Int32.ofNat w)) 117 15 (Int32.ofNat o)) 117 16 (Int32.ofNat s) := ⟨_, rfl⟩
      obtain ⟨E2', hE2', v0, v1, v2, v3, v4, v5⟩ := k_w3f E1 117 14 (Int32.ofNat w) (Int32.ofNat o) (Int32.ofNat s)
      have hEE : E2' = E2 := by rw [hE2, hE2']
      rw [hEE] at v0 v1 v2 v3 v4 v5
      have g2 : k_gt E1 E2 := ⟨fun y a b c => v4 y a, fun j a => v3 j (by omega), v5⟩
      have g12 := k_gt_trans f2 g2
      have hsn : k_snd D1 E2 i n g := k_snd_mv hs (f1 _ (by omega)).1 (f1 _ (by omega)).1 (by rw [g12.1 139 (by omega) (by omega) (by omega)]) (g12.1 _ (by omega) (by omega) (by omega))
      have hmm : j_map D1 (40 + 3 * j) m f t := j_map_fr hm (f1 _ (by omega)).1 (f1 _ (by omega)).1 (f1 _ (by omega)).1
      have hrm : k_rm E2 j m f t := k_rm_mv hr hv.2.1 (by rw [g12.1 201 (by omega) (by omega) (by omega)]) (fun z hz => g12.1 _ (by omega) (by omega) (by omega))
      have hps : k_ps D1 E2 (55 + k) w o s := ⟨hpv, by rw [(f1 _ (by omega)).1]; exact x0, by rw [(f1 _ (by omega)).1]; exact x1, by rw [(f1 _ (by omega)).1]; exact x2, v0, v1, v2⟩
      obtain ⟨D3, E3, L, out, q, d1, d2, d3, d4, d5, d6, d7, d8, d9, d10, d11, d12⟩ := k_drawB (r0 := 81) (p3 := 55 + k) hsn hi hv hmm hrm hj hps hwn.1 hwn.2 (by rw [v4 223 (by omega)]; exact y0) (by rw [v4 223 (by omega)]; exact y1) k_rw73.2.2.1 k_rw73.2.2.2.1 (by omega) (by omega)
      have f3 : k_ft D1 D3 := fun y hy => d8 y (by omega)
      have g3 : k_gt E2 E3 := ⟨fun y a b c => d9.1 y a b, fun j a => d9.2.1 j (by omega), d9.2.2⟩
      have hcnt : ∃ D4 E4 v, f_X11_countedOf 81 D3 = some (v, D4) ∧ f_X12_counted E3 = some (v, E4) ∧ k_fh D3 D4 ∧ k_fg E3 E4 := by
        have hk : k_Rk D3 E3 := k_Rk_mv (k_Rk_of h3) (fun y a => by rw [(f3 y (by omega)).1, (f1 y (by omega)).1]) (fun j a => by rw [g3.2.1 j (by omega), g12.2.1 j (by omega)]) (by rw [g3.1 202 (by omega) (by omega) (by omega), g12.1 202 (by omega) (by omega) (by omega)])
        exact k_counted d4 d5 d3 hk (by omega)
      obtain ⟨D4, E4, v, c1, c2, c3, c4⟩ := hcnt
      have f4 : k_ft D3 D4 := fun y hy => ⟨c3.1 y (by omega), by rw [c3.2]⟩
      have g4 : k_gt E3 E4 := ⟨fun y a b c => c4.1 y c, fun j a => by rw [c4.1 117 (by omega)], c4.2⟩
      have h0 : E4.1 223 0 = 0 := by rw [c4.1 223 (by omega)]; exact d11
      have h1 : E4.1 223 1 = 0 := by rw [c4.1 223 (by omega)]; exact d12
      have f4t := k_ft_trans f1 (k_ft_trans f3 f4)
      have g4t := k_gt_trans g12 (k_gt_trans g3 g4)
      have hrow : (am_gA 4 (Int32.ofNat k)) = some k := k_a (by omega) (by omega)
      have p0 : am_gI E1 (206 + k) 3 0 = some (Int32.ofNat w) := by rw [← u0, ← f2.1 (206 + k) (by omega) (by omega) (by omega)]; exact k_g (k := 0) (by omega) (by omega)
      have p1 : am_gI (am_wI E1 117 14 (Int32.ofNat w)) (206 + k) 3 1 = some (Int32.ofNat o) := by
        have e : (am_wI E1 117 14 (Int32.ofNat w)).1 (206 + k) 1 = Int32.ofNat o := by rw [j_wI_ne _ _ _ (by omega), f2.1 (206 + k) (by omega) (by omega) (by omega)]; exact u1
        rw [← e]; exact k_g (k := 1) (by omega) (by omega)
      have p2 : am_gI (am_wI (am_wI E1 117 14 (Int32.ofNat w)) 117 15 (Int32.ofNat o)) (206 + k) 3 2 = some (Int32.ofNat s) := by
        have e : (am_wI (am_wI E1 117 14 (Int32.ofNat w)) 117 15 (Int32.ofNat o)).1 (206 + k) 2 = Int32.ofNat s := by rw [j_wI_ne _ _ _ (by omega), j_wI_ne _ _ _ (by omega), f2.1 (206 + k) (by omega) (by omega) (by omega)]; exact u2
        rw [← e]; exact k_g (k := 2) (by omega) (by omega)
      have hc : f_X11_best_L29 (30 + 2 * i) (40 + 3 * j) (fu + 1) b l (Int32.ofNat k) D1 = f_X11_best_L29 (30 + 2 * i) (40 + 3 * j) fu (if b = -1 then Int32.ofNat k else if v < l then Int32.ofNat k else b) (if b = -1 then v else if v < l then v else l) (Int32.ofNat (k + 1)) D4 := by
        rw [f_X11_best_L29, (f1 17 (by omega)).1, w2, if_neg (by rw [j_le, j_nat (by omega), j_nat (by omega)]; omega), if_neg (by rw [j_le, j_nat (by omega), e4]; omega), hrow, Option.bind_some, d1, Option.bind_some, c1, Option.bind_some]
        by_cases cb : b = -1
        · rw [if_pos cb, if_pos cb, if_pos cb, Option.bind_some, j_suc]
        · rw [if_neg cb, if_neg cb, if_neg cb]
          by_cases cv : v < l
          · rw [if_pos cv, if_pos cv, if_neg (show ¬ l ≤ v by rw [j_le]; rw [j_lt] at cv; omega), Option.bind_some, j_suc]
          · rw [if_neg cv, if_neg cv, if_pos (show l ≤ v by rw [j_le]; rw [j_lt] at cv; omega), Option.bind_some, j_suc]
      have hr2 : f_X12_bestWay_L31 (Int32.ofNat i) (Int32.ofNat j) (-1) q4 q5 q6 (fu + 1) b l (Int32.ofNat k) E1 = f_X12_bestWay_L31 (Int32.ofNat i) (Int32.ofNat j) (-1) q4 q5 q6 fu (if b = -1 then Int32.ofNat k else if v < l then Int32.ofNat k else b) (if b = -1 then v else if v < l then v else l) (Int32.ofNat (k + 1)) E4 := by
        rw [f_X12_bestWay_L31, f2.2.1 20 (by omega), w3, if_neg (by rw [j_le, j_nat (by omega), j_nat (by omega)]; omega), hrow, Option.bind_some, p0, Option.bind_some, Option.bind_some, Option.bind_some, p1, Option.bind_some, Option.bind_some, Option.bind_some, p2, Option.bind_some, Option.bind_some, ← hE2, d2, Option.bind_some, if_pos rfl, c2, Option.bind_some, Option.bind_some]
        by_cases cb : b = -1
        · rw [if_pos cb, if_pos cb, if_pos cb, Option.bind_some, j_suc]
        · rw [if_neg cb, if_neg cb, if_neg cb]
          by_cases cv : v < l
          · rw [if_pos cv, if_pos cv, if_pos cv, Option.bind_some, j_suc]
          · rw [if_neg cv, if_neg cv, if_neg cv, Option.bind_some, j_suc]
      rw [hc, hr2]
      exact ih D4 E4 _ _ f4t g4t h0 h1) (by
      intro fu D1 E1 b l f1 f2 y0 y1
      rw [f_X11_best_L29, f_X12_bestWay_L31, (f1 17 (by omega)).1, w2, f2.2.1 20 (by omega), w3, if_pos (Int32.le_refl _), if_pos (Int32.le_refl _)]
      exact ⟨D1, E1, b, rfl, rfl, f1, f2⟩) am_fu 0 (by omega) (by unfold am_fu; omega) D E (-1) 0 (fun _ _ => ⟨rfl, rfl⟩) ⟨fun _ _ _ _ => rfl, fun _ _ => rfl, rfl⟩ z0 z1
  exact key
theorem k_bestOfL {D E : am_D} {i n j m nw p : Nat} {g f t : Int → Int32} (q4 q5 q6 : Int32) (hs : k_snd D E i n g) (hi : i < 5) (hv : k_mv m f t) (hm : j_map D (40 + 3 * j) m f t) (hr : k_rm E j m f t) (hj : j < 5) (h3 : k_Rn D E) (h4 : k_Rw D E nw) (hok : ∀ z w, z < nw → D.1 (55 + z) 0 = Int32.ofNat w → w ≤ 64 → w ≤ n ∧ (f ((m : Int) - 1)).toInt ≤ n) (z0 : E.1 223 0 = 0) (z1 : E.1 223 1 = 0) (hp : p < m) :
    ∃ D2 E2 b, f_X11_bestOf_L46 (Int32.ofNat p) (30 + 2 * i) (40 + 3 * j) am_fu (-1) 0 0 D = some (b, D2) ∧ f_X12_bestWay_L31 (Int32.ofNat i) (Int32.ofNat j) (Int32.ofNat p) q4 q5 q6 am_fu (-1) 0 0 E = some (b, E2) ∧ k_ft D D2 ∧ k_gt E E2 := by
  have e4 : (4 : Int32).toInt = 4 := rfl
  obtain ⟨w1, w2, w3, w4⟩ := h4
  have hms := hm.1
  have key := k_ind (P := fun fu k => ∀ (D1 E1 : am_D) (b l : Int32), k_ft D D1 → k_gt E E1 → E1.1 223 0 = 0 → E1.1 223 1 = 0 → ∃ D2 E2 b2, f_X11_bestOf_L46 (Int32.ofNat p) (30 + 2 * i) (40 + 3 * j) fu b l (Int32.ofNat k) D1 = some (b2, D2) ∧ f_X12_bestWay_L31 (Int32.ofNat i) (Int32.ofNat j) (Int32.ofNat p) q4 q5 q6 fu b l (Int32.ofNat k) E1 = some (b2, E2) ∧ k_ft D D2 ∧ k_gt E E2) nw
    (by
      intro fu k hk ih D1 E1 b l f1 f2 y0 y1
      obtain ⟨w, o, s, hpv, x0, x1, x2, u0, u1, u2⟩ := w4 k hk
      have hw := hpv.2.1
      have hwn := hok k w hk x0 hw
      -- the reference takes the way
      obtain ⟨E2, hE2⟩ : ∃ E2, E2 = am_wI (am_wI (am_wI E1 117 14 (Int32.ofNat w)) 117 15 (Int32.ofNat o)) 117 16 (Int32.ofNat s) := ⟨_, rfl⟩
      obtain ⟨E2', hE2', v0, v1, v2, v3, v4, v5⟩ := k_w3f E1 117 14 (Int32.ofNat w) (Int32.ofNat o) (Int32.ofNat s)
      have hEE : E2' = E2 := by rw [hE2, hE2']
      rw [hEE] at v0 v1 v2 v3 v4 v5
      have g2 : k_gt E1 E2 := ⟨fun y a b c => v4 y a, fun j a => v3 j (by omega), v5⟩
      have g12 := k_gt_trans f2 g2
      have hsn : k_snd D1 E2 i n g := k_snd_mv hs (f1 _ (by omega)).1 (f1 _ (by omega)).1 (by rw [g12.1 139 (by omega) (by omega) (by omega)]) (g12.1 _ (by omega) (by omega) (by omega))
      have hmm : j_map D1 (40 + 3 * j) m f t := j_map_fr hm (f1 _ (by omega)).1 (f1 _ (by omega)).1 (f1 _ (by omega)).1
      have hrm : k_rm E2 j m f t := k_rm_mv hr hv.2.1 (by rw [g12.1 201 (by omega) (by omega) (by omega)]) (fun z hz => g12.1 _ (by omega) (by omega) (by omega))
      have hps : k_ps D1 E2 (55 + k) w o s := ⟨hpv, by rw [(f1 _ (by omega)).1]; exact x0, by rw [(f1 _ (by omega)).1]; exact x1, by rw [(f1 _ (by omega)).1]; exact x2, v0, v1, v2⟩
      obtain ⟨D3, E3, L, out, q, d1, d2, d3, d4, d5, d6, d7, d8, d9, d10, d11, d12⟩ := k_drawB (r0 := 81) (p3 := 55 + k) hsn hi hv hmm hrm hj hps hwn.1 hwn.2 (by rw [v4 223 (by omega)]; exact y0) (by rw [v4 223 (by omega)]; exact y1) k_rw73.2.2.1 k_rw73.2.2.2.1 (by omega) (by omega)
      have f3 : k_ft D1 D3 := fun y hy => d8 y (by omega)
      have g3 : k_gt E2 E3 := ⟨fun y a b c => d9.1 y a b, fun j a => d9.2.1 j (by omega), d9.2.2⟩
      obtain ⟨v, c1, c2⟩ := k_un d4 d5 hp
      obtain ⟨D4, hD4⟩ : ∃ D4, D4 = D3 := ⟨_, rfl⟩
      obtain ⟨E4, hE4⟩ : ∃ E4, E4 = E3 := ⟨_, rfl⟩
      have f4 : k_ft D3 D4 := fun y hy => by rw [hD4]; exact ⟨rfl, rfl⟩
      have g4 : k_gt E3 E4 := by rw [hE4]; exact ⟨fun _ _ _ _ => rfl, fun _ _ => rfl, rfl⟩
      have h0 : E4.1 223 0 = 0 := by rw [hE4]; exact d11
      have h1 : E4.1 223 1 = 0 := by rw [hE4]; exact d12
      have hm3 : j_map D3 (40 + 3 * j) m f t := j_map_fr hmm (f3 _ (by omega)).1 (f3 _ (by omega)).1 (f3 _ (by omega)).1
      have t1 : f_X9_to (40 + 3 * j) (Int32.ofNat p - 1) D3 = some (t ((p : Int) - 1)) := by rw [j_map_to hm3, j_pred p (by omega)]
      have t2 : f_X9_to (40 + 3 * j) (Int32.ofNat p) D3 = some (t p) := by rw [j_map_to hm3, j_nat (by omega)]
      have hpm : ¬ Int32.ofNat p = -1 := by
        rw [j_eq, j_nat (by omega)]
        have e : (-1 : Int32).toInt = -1 := rfl
        omega
      have f4t := k_ft_trans f1 (k_ft_trans f3 f4)
      have g4t := k_gt_trans g12 (k_gt_trans g3 g4)
      have hrow : (am_gA 4 (Int32.ofNat k)) = some k := k_a (by omega) (by omega)
      have p0 : am_gI E1 (206 + k) 3 0 = some (Int32.ofNat w) := by rw [← u0, ← f2.1 (206 + k) (by omega) (by omega) (by omega)]; exact k_g (k := 0) (by omega) (by omega)
      have p1 : am_gI (am_wI E1 117 14 (Int32.ofNat w)) (206 + k) 3 1 = some (Int32.ofNat o) := by
        have e : (am_wI E1 117 14 (Int32.ofNat w)).1 (206 + k) 1 = Int32.ofNat o := by rw [j_wI_ne _ _ _ (by omega), f2.1 (206 + k) (by omega) (by omega) (by omega)]; exact u1
        rw [← e]; exact k_g (k := 1) (by omega) (by omega)
      have p2 : am_gI (am_wI (am_wI E1 117 14 (Int32.ofNat w)) 117 15 (Int32.ofNat o)) (206 + k) 3 2 = some (Int32.ofNat s) := by
        have e : (am_wI (am_wI E1 117 14 (Int32.ofNat w)) 117 15 (Int32.ofNat o)).1 (206 + k) 2 = Int32.ofNat s := by rw [j_wI_ne _ _ _ (by omega), j_wI_ne _ _ _ (by omega), f2.1 (206 + k) (by omega) (by omega) (by omega)]; exact u2
        rw [← e]; exact k_g (k := 2) (by omega) (by omega)
      have hc : f_X11_bestOf_L46 (Int32.ofNat p) (30 + 2 * i) (40 + 3 * j) (fu + 1) b l (Int32.ofNat k) D1 = f_X11_bestOf_L46 (Int32.ofNat p) (30 + 2 * i) (40 + 3 * j) fu (if b = -1 then Int32.ofNat k else if v < l then Int32.ofNat k else b) (if b = -1 then v else if v < l then v else l) (Int32.ofNat (k + 1)) D4 := by
        rw [f_X11_bestOf_L46, (f1 17 (by omega)).1, w2, if_neg (by rw [j_le, j_nat (by omega), j_nat (by omega)]; omega), if_neg (by rw [j_le, j_nat (by omega), e4]; omega), hrow, Option.bind_some, d1, Option.bind_some, t1, Option.bind_some, t2, Option.bind_some, c1, ← hD4, Option.bind_some]
        by_cases cb : b = -1
        · rw [if_pos cb, if_pos cb, if_pos cb, Option.bind_some, j_suc]
        · rw [if_neg cb, if_neg cb, if_neg cb]
          by_cases cv : v < l
          · rw [if_pos cv, if_pos cv, if_neg (show ¬ l ≤ v by rw [j_le]; rw [j_lt] at cv; omega), Option.bind_some, j_suc]
          · rw [if_neg cv, if_neg cv, if_pos (show l ≤ v by rw [j_le]; rw [j_lt] at cv; omega), Option.bind_some, j_suc]
      have hr2 : f_X12_bestWay_L31 (Int32.ofNat i) (Int32.ofNat j) (Int32.ofNat p) q4 q5 q6 (fu + 1) b l (Int32.ofNat k) E1 = f_X12_bestWay_L31 (Int32.ofNat i) (Int32.ofNat j) (Int32.ofNat p) q4 q5 q6 fu (if b = -1 then Int32.ofNat k else if v < l then Int32.ofNat k else b) (if b = -1 then v else if v < l then v else l) (Int32.ofNat (k + 1)) E4 := by
        rw [f_X12_bestWay_L31, f2.2.1 20 (by omega), w3, if_neg (by rw [j_le, j_nat (by omega), j_nat (by omega)]; omega), hrow, Option.bind_some, p0, Option.bind_some, Option.bind_some, Option.bind_some, p1, Option.bind_some, Option.bind_some, Option.bind_some, p2, Option.bind_some, Option.bind_some, ← hE2, d2, Option.bind_some, if_neg hpm, c2, Option.bind_some, ← hE4, Option.bind_some]
        by_cases cb : b = -1
        · rw [if_pos cb, if_pos cb, if_pos cb, Option.bind_some, j_suc]
        · rw [if_neg cb, if_neg cb, if_neg cb]
          by_cases cv : v < l
          · rw [if_pos cv, if_pos cv, if_pos cv, Option.bind_some, j_suc]
          · rw [if_neg cv, if_neg cv, if_neg cv, Option.bind_some, j_suc]
      rw [hc, hr2]
      exact ih D4 E4 _ _ f4t g4t h0 h1) (by
      intro fu D1 E1 b l f1 f2 y0 y1
      rw [f_X11_bestOf_L46, f_X12_bestWay_L31, (f1 17 (by omega)).1, w2, f2.2.1 20 (by omega), w3, if_pos (Int32.le_refl _), if_pos (Int32.le_refl _)]
      exact ⟨D1, E1, b, rfl, rfl, f1, f2⟩) am_fu 0 (by omega) (by unfold am_fu; omega) D E (-1) 0 (fun _ _ => ⟨rfl, rfl⟩) ⟨fun _ _ _ _ => rfl, fun _ _ => rfl, rfl⟩ z0 z1
  exact key
