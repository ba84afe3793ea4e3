/-! colour, shift -/
theorem k_cfar (a b : Int32) : f_X11_far a b = some (am_ab (a - b)) := rfl
theorem k_colourL {D E : am_D} {i n L w : Nat} {g out : Int → Int32} (hs : k_snd D E i n g) (hi : i < 5) (ho : j_row D 74 L out) (ha : k_arr E 222 L out) (hL : L ≤ 1200) (e38 : E.1 117 38 = Int32.ofNat L) (hw : 4 ≤ w) (hw2 : w ≤ 60) : ∀ (fu q : Nat) (v : Int32), 1 ≤ fu → max n L + 1 ≤ fu + q * w → q * w ≤ 1300 →
    ∃ u, f_X11_colour_L41 (Int32.ofNat w) (30 + 2 * i) (am_mx (Int32.ofNat n) (Int32.ofNat L)) D fu v (Int32.ofNat (q * w)) = some u ∧ f_X12_colour_L56 (Int32.ofNat i) (Int32.ofNat w) E fu v (Int32.ofNat (q * w)) = some u
  | 0, _, _, h, _, _ => absurd h (by omega)
  | fu + 1, q, v, h1, h2, h3 => by
    obtain ⟨s1, s2, s3, s4, s5, s6⟩ := hs
    have emx : am_mx (Int32.ofNat n) (Int32.ofNat L) = Int32.ofNat (max n L) := by rw [j_eq, j_mx, j_nat (by omega), j_nat (by omega), j_nat (by omega)]; omega
    have hl1 := k_lnS i hi
    have hl2 := k_lnA.2.2.2.2.2.2.2
    rw [f_X11_colour_L41, f_X12_colour_L56, k_g hi (by omega), s4, Option.bind_some, e38, k_more, Option.bind_some, emx]
    by_cases c : max n L ≤ q * w
    · have c1 : Int32.ofNat (max n L) ≤ Int32.ofNat (q * w) := by rw [j_le, j_nat (by omega), j_nat (by omega)]; omega
      rw [if_pos c1, if_pos c1]
      exact ⟨v, rfl, rfl⟩
    · have c1 : ¬ Int32.ofNat (max n L) ≤ Int32.ofNat (q * w) := by rw [j_le, j_nat (by omega), j_nat (by omega)]; omega
      have l1 := j_row_loudest s3 (Int32.ofNat (q * w)) w (by omega) (by rw [j_nat (by omega)]; omega) (by rw [j_nat (by omega)]; omega)
      have l2 := j_row_loudest ho (Int32.ofNat (q * w)) w (by omega) (by rw [j_nat (by omega)]; omega) (by rw [j_nat (by omega)]; omega)
      have r1 := k_loudR (b := q * w) (wd := w) s5 (fun y hy => s3.2.2.2.2 y (Or.inr hy)) (by omega) (by omega) (by omega) (by omega)
      have r2 := k_loudR (b := q * w) (wd := w) ha (fun y hy => ho.2.2.2.2 y (Or.inr hy)) (by omega) (by omega) (by omega) (by omega)
      rw [j_nat (by omega)] at l1 l2
      rw [if_neg c1, if_neg c1, l1, l2, Option.bind_some, Option.bind_some, k_a hi (by omega), Option.bind_some, Option.bind_some, r1, Option.bind_some, r2, Option.bind_some, k_amount, Option.bind_some, ← Int32.ofNat_add]
      have e : q * w + w = (q + 1) * w := by rw [Nat.add_mul, Nat.one_mul]
      rw [e, k_cfar, Option.bind_some]
      have fin := k_colourL ⟨s1, s2, s3, s4, s5, s6⟩ hi ho ha hL e38 hw hw2 fu (q + 1) (v + am_ab (j_max (fun j => am_ab (g (((q * w : Nat) : Int) + j))) w - j_max (fun j => am_ab (out (((q * w : Nat) : Int) + j))) w)) (by omega) (by omega) (by omega)
      rw [emx] at fin
      exact fin
theorem op_colour {D E : am_D} (h : k_Q D E) (p a : Int32) : k_opE D E (k_lf D (f_X11_colour p a D)) (f_X12_colour p a E) ["java/util/NoSuchElementException", "java/lang/IllegalArgumentException"] := by
  obtain ⟨E0, hE0, t0, f0, q0⟩ := k_start h
  have q0' := q0
  obtain ⟨ns, nm, nw, np, nh, ni, h1, h2, h3, h4, h5, h6, h7, h8, h9⟩ := q0'

  have hns := h1.1
  have e4 : (4 : Int32).toInt = 4 := rfl
  have e60 : (60 : Int32).toInt = 60 := rfl
  unfold f_X12_colour
  rw [Option.bind_some, ← hE0, k_isS _ h1.2.2.1 h1.1, Option.bind_some]
  by_cases c : 0 ≤ p.toInt ∧ p.toInt < ns
  · obtain ⟨i, rfl, hi⟩ := k_ix c
    obtain ⟨n, g, bs⟩ := h1.2.2.2 i hi
    have hn2 := bs.2.1
    rw [if_pos c, k_nT E0 1 t0, if_pos rfl]
    dsimp only
    rw [k_in, e4, e60, Option.bind_some]
    by_cases c2 : 4 ≤ a.toInt ∧ a.toInt ≤ 60
    · obtain ⟨L, out, q, st, a1, a2, a3, a4, a5, a6, a7, a8, a9, a10, a11, a12, a13, a14⟩ := h8
      obtain ⟨w, rfl, hw1, hw2⟩ := k_natOf (lo := 4) (hi := 60) c2
      obtain ⟨u, u1, u2⟩ := k_colourL bs (by omega) a2 a4 a1 a3 hw1 hw2 am_fu 0 0 (by unfold am_fu; omega) (by unfold am_fu; omega) (by omega)
      rw [Nat.zero_mul] at u1 u2
      have u1 : f_X11_colour_L41 (Int32.ofNat w) (30 + 2 * i) (am_mx (Int32.ofNat n) (Int32.ofNat L)) D am_fu 0 (0 : Int32) = some u := u1
      have u2 : f_X12_colour_L56 (Int32.ofNat i) (Int32.ofNat w) E0 am_fu 0 (0 : Int32) = some u := u2
      have cls : f_X11_colour (Int32.ofNat i) (Int32.ofNat w) D = some (.inr u) := by
        unfold f_X11_colour
        rw [k_soT h1.2.1 h1.1 hi, k_bR, k_cwithin, e4, e60, if_pos c2, Option.bind_some]
        show ((f_X11_colour_L41 (Int32.ofNat w) (30 + 2 * i) (am_mx (D.1 (30 + 2 * i) 1) (D.1 74 1)) D am_fu (0 : Int32) (0 : Int32)).bind fun e14 => some (Sum.inr e14)) = _
        rw [bs.2.2.1.2.2.1, a2.2.2.1, u1, Option.bind_some]
      rw [if_pos c2, k_nT E0 2 t0, if_pos rfl, cls]
      dsimp only
      rw [u2, Option.bind_some]
      exact k_valE u q0 t0 f0 (k_fc_refl D) rfl rfl
    · rw [if_neg c2, k_nF E0 2 (by decide) t0, if_neg k_10]
      refine k_refE 0 1 _ q0 f0 (k_fc_refl D) rfl ?_ rfl
      unfold f_X11_colour
      rw [k_soT h1.2.1 h1.1 hi, k_bR, k_cwithin, e4, e60, if_neg c2, Option.bind_some]
      rfl
  · rw [if_neg c, k_nF E0 1 k_10 t0, if_neg k_10]
    refine k_refE 0 0 _ q0 f0 (k_fc_refl D) rfl ?_ rfl
    unfold f_X11_colour
    rw [k_soF h1.2.1 h1.1 c, k_bL]
    rfl
/-- a sound resampled -/
def k_rs (g : Int → Int32) (a b : Nat) : Int → Int32 := fun k => k_mix (g ((k.toNat * a / b : Nat) : Int)) (g (((k.toNat * a / b : Nat) : Int) + 1)) b (k.toNat * a % b)
theorem k_resample {D E : am_D} {i n c a b : Nat} {g : Int → Int32} (hs : k_snd D E i n g) (hi : i < 5) (hc : c ≤ 600) (ha : 1 ≤ a) (ha2 : a ≤ 9) (hb : 1 ≤ b) (hb2 : b ≤ 9) :
    ∃ D2 E2, f_X7_resampleOf 101 (30 + 2 * i) (Int32.ofNat c) (Int32.ofNat a) (Int32.ofNat b) D = some D2 ∧ f_X12_shift_L115 (Int32.ofNat i) (Int32.ofNat a) (Int32.ofNat b) (Int32.ofNat c) am_fu 0 E = some E2 ∧
      j_row D2 101 c (fun k => if 0 ≤ k ∧ k < c then k_rs g a b k else 0) ∧ k_arr E2 221 c (fun k => if 0 ≤ k ∧ k < c then k_rs g a b k else 0) ∧ (∀ y, y ≠ 101 ∧ y ≠ 102 → D2.1 y = D.1 y ∧ D2.2 y = D.2 y) ∧ (∀ y, y ≠ 221 → E2.1 y = E.1 y) ∧ E2.2 = E.2 := by
  obtain ⟨s1, s2, s3, s4, s5, s6⟩ := hs
  obtain ⟨D1, d1, d2, d3⟩ := j_row_start (D := D) k_rw73.2.2.2.2.2.2 c (by omega)
  have e0 : (0 : Int32).toInt = 0 := rfl
  have key := k_ind (P := fun fu k => ∀ (D1 E1 : am_D), j_row D1 101 c (fun y => if 0 ≤ y ∧ y < k then k_rs g a b y else 0) → (∀ y : Nat, y < k → E1.1 221 y = k_rs g a b y) → (∀ y, y ≠ 101 ∧ y ≠ 102 → D1.1 y = D.1 y ∧ D1.2 y = D.2 y) → (∀ y, y ≠ 221 → E1.1 y = E.1 y) → E1.2 = E.2 →
      ∃ D2 E2, f_X7_resampleOf_L8 101 (30 + 2 * i) (Int32.ofNat a) (Int32.ofNat b) fu (Int32.ofNat k) D1 = some D2 ∧ f_X12_shift_L115 (Int32.ofNat i) (Int32.ofNat a) (Int32.ofNat b) (Int32.ofNat c) fu (Int32.ofNat k) E1 = some E2 ∧ j_row D2 101 c (fun k => if 0 ≤ k ∧ k < c then k_rs g a b k else 0) ∧ k_arr E2 221 c (fun k => if 0 ≤ k ∧ k < c then k_rs g a b k else 0) ∧ (∀ y, y ≠ 101 ∧ y ≠ 102 → D2.1 y = D.1 y ∧ D2.2 y = D.2 y) ∧ (∀ y, y ≠ 221 → E2.1 y = E.1 y) ∧ E2.2 = E.2) c
    (by
      intro fu k hk ih D1 E1 r1 r2 f1 f2 f3
      have hrow : j_row D1 (30 + 2 * i) n g := j_row_fr s3 (f1 _ (by omega)).1 (f1 _ (by omega)).1
      have hka : k * a < 5400 := by
        have := Nat.mul_le_mul (show k ≤ 599 by omega) ha2
        omega
      have em : Int32.ofNat k * Int32.ofNat a = Int32.ofNat (k * a) := (Int32.ofNat_mul k a).symm
      obtain ⟨x, hx⟩ : ∃ x, x = k * a / b := ⟨_, rfl⟩
      obtain ⟨r, hr⟩ : ∃ r, r = k * a % b := ⟨_, rfl⟩
      have hxb : x ≤ 5400 := by
        have := Nat.div_le_self (k * a) b
        omega
      have hrb : r < b := by
        rw [hr]
        exact Nat.mod_lt _ (by omega)
      have ecut : f_X11_cut (Int32.ofNat (k * a)) (Int32.ofNat b) = some (Int32.ofNat x) := by rw [j_cut (by rw [j_nat (by omega)]; omega), k_dvN (by omega) (by omega) (by omega), hx]
      have eleft : f_X11_left (Int32.ofNat (k * a)) (Int32.ofNat b) = some (Int32.ofNat r) := by
        unfold f_X11_left
        rw [if_neg (by rw [j_eq, j_nat (by omega), e0]; omega), k_rmN (by omega) (by omega) (by omega), Option.bind_some, hr]
      have edv : am_dv (Int32.ofNat (k * a)) (Int32.ofNat b) = some (Int32.ofNat x) := by rw [k_dvn (by omega) (by omega) (by omega), hx]
      have erm : am_rm (Int32.ofNat (k * a)) (Int32.ofNat b) = some (Int32.ofNat r) := by rw [k_rmN (by omega) (by omega) (by omega), hr]
      have hsa : ∀ y : Nat, y ≤ 6000 → f_X12_soundAt (Int32.ofNat i) (Int32.ofNat y) E1 = some (g y) := by
        intro y hy
        unfold f_X12_soundAt
        rw [k_g hi (by omega), f2 139 (by omega), s4, Option.bind_some]
        by_cases cy : n ≤ y
        · rw [if_pos (by rw [j_le, j_nat (by omega), j_nat (by omega)]; omega), s3.2.2.2.2 y (Or.inr (by omega))]
        · rw [if_neg (by rw [j_le, j_nat (by omega), j_nat (by omega)]; omega), k_a hi (by omega), Option.bind_some, k_g (by omega) (by omega), f2 _ (by omega), s5 y (by omega), Option.bind_some]
      have hval : k_rs g a b k = k_mix (g x) (g ((x : Int) + 1)) b r := by
        unfold k_rs
        have e : ((k : Nat) : Int).toNat = k := by omega
        rw [e, ← hx, ← hr]
      have hdd : am_dv (g x * (Int32.ofNat b - Int32.ofNat r) + g ((x + 1 : Nat) : Int) * Int32.ofNat r) (Int32.ofNat b) = some (k_rs g a b k) := by
        unfold am_dv
        rw [if_neg (by rw [j_eq, j_nat (by omega), e0]; omega), hval]
        rfl
      have hcc : f_X11_cut (g x * (Int32.ofNat b - Int32.ofNat r) + g ((x + 1 : Nat) : Int) * Int32.ofNat r) (Int32.ofNat b) = some (k_rs g a b k) := by
        rw [j_cut (by rw [j_nat (by omega)]; omega), hval]
        rfl
      obtain ⟨D2, p1, p2, p3⟩ := j_row_put r1 (Int32.ofNat k) (k_rs g a b k)
      rw [j_nat (by omega)] at p2
      have hc1 : f_X7_resampleOf_L8 101 (30 + 2 * i) (Int32.ofNat a) (Int32.ofNat b) (fu + 1) (Int32.ofNat k) D1 = f_X7_resampleOf_L8 101 (30 + 2 * i) (Int32.ofNat a) (Int32.ofNat b) fu (Int32.ofNat (k + 1)) D2 := by
        rw [f_X7_resampleOf_L8, r1.2.2.1, if_neg (by rw [j_le, j_nat (by omega), j_nat (by omega)]; omega), em, ecut, Option.bind_some, eleft, Option.bind_some, j_row_at hrow, j_nat (by omega), Option.bind_some, j_suc, j_row_at hrow, j_nat (by omega), Option.bind_some, hcc, Option.bind_some, p1, Option.bind_some, j_suc]
      have hr1 : f_X12_shift_L115 (Int32.ofNat i) (Int32.ofNat a) (Int32.ofNat b) (Int32.ofNat c) (fu + 1) (Int32.ofNat k) E1 = f_X12_shift_L115 (Int32.ofNat i) (Int32.ofNat a) (Int32.ofNat b) (Int32.ofNat c) fu (Int32.ofNat (k + 1)) (am_wI E1 221 k (k_rs g a b k)) := by
        rw [f_X12_shift_L115, if_neg (by rw [j_le, j_nat (by omega), j_nat (by omega)]; omega), em, edv, Option.bind_some, erm, Option.bind_some, hsa x (by omega), Option.bind_some, j_suc, hsa (x + 1) (by omega), Option.bind_some, hdd, Option.bind_some, k_p _ (by omega) (by omega), Option.bind_some, j_suc]
      rw [hc1, hr1]
      refine ih D2 _ (j_row_cong p2 fun y => ?_) (fun y hy => ?_) (fun y hy => by rw [(p3 y (by omega)).1, (p3 y (by omega)).2]; exact f1 y hy) (fun y hy => by rw [j_wI_ne _ _ _ hy]; exact f2 y hy) f3
      · unfold j_up
        dsimp only
        by_cases cy : y = k
        · subst cy
          rw [if_pos (by omega), if_pos (by omega)]
        · rw [if_neg (by omega)]
          by_cases c3 : 0 ≤ y ∧ y < k
          · rw [if_pos c3, if_pos (by omega)]
          · rw [if_neg c3, if_neg (by omega)]
      · rw [j_wI_at]
        by_cases cy : y = k
        · rw [if_pos cy, cy]
        · rw [if_neg cy]; exact r2 y (by omega)) (by
      intro fu D1 E1 r1 r2 f1 f2 f3
      rw [f_X7_resampleOf_L8, r1.2.2.1, if_pos (Int32.le_refl _), f_X12_shift_L115, if_pos (Int32.le_refl _)]
      refine ⟨D1, E1, rfl, rfl, r1, fun y hy => ?_, f1, f2, f3⟩
      dsimp only
      rw [if_pos (by omega)]
      exact r2 y hy) am_fu 0 (by omega) (by unfold am_fu; omega) D1 E (j_row_cong d2 fun y => by
        rw [if_neg (by omega)]) (fun y hy => absurd hy (by omega)) (fun y hy => d3 y (by omega)) (fun _ _ => rfl) rfl
  obtain ⟨D2, E2, k1, k2, k3⟩ := key
  have k1 : f_X7_resampleOf_L8 101 (30 + 2 * i) (Int32.ofNat a) (Int32.ofNat b) am_fu (0 : Int32) D1 = some D2 := k1
  refine ⟨D2, E2, ?_, k2, k3⟩
  unfold f_X7_resampleOf
  rw [d1, Option.bind_some, k1, Option.bind_some]
theorem k_rs_bd {g : Int → Int32} (hg : k_bnd g) {a b c : Nat} (hb : 1 ≤ b) (hb2 : b ≤ 9) : k_bnd (fun k => if 0 ≤ k ∧ k < (c : Int) then k_rs g a b k else 0) := by
  intro k
  dsimp only
  by_cases h : 0 ≤ k ∧ k < (c : Int)
  · rw [if_pos h]
    unfold k_rs
    exact k_mix_bd (hg _) (hg _) hb (by omega) (by have := Nat.mod_lt (k.toNat * a) hb; omega)
  · rw [if_neg h]
    decide
theorem op_shift {D E : am_D} (h : k_Q D E) (p a b : Int32) : k_opE D E (f_X11_shift p a b D) (f_X12_shift p a b E) ["java/util/NoSuchElementException", "java/lang/IllegalArgumentException", "java/lang/IllegalStateException"] := by
  obtain ⟨E0, hE0, t0, f0, q0⟩ := k_start h
  have q0' := q0
  obtain ⟨ns, nm, nw, np, nh, ni, h1, h2, h3, h4, h5, h6, h7, h8, h9⟩ := q0'

  have hns := h1.1
  have e0 : (0 : Int32).toInt = 0 := rfl
  have e1 : (1 : Int32).toInt = 1 := rfl
  have e9 : (9 : Int32).toInt = 9 := rfl
  have e600 : (600 : Int32).toInt = 600 := rfl
  have e1200 : (1200 : Int32).toInt = 1200 := rfl
  unfold f_X12_shift
  rw [Option.bind_some, ← hE0, k_isS _ h1.2.2.1 h1.1, Option.bind_some]
  by_cases c : 0 ≤ p.toInt ∧ p.toInt < ns
  · obtain ⟨i, rfl, hi⟩ := k_ix c
    obtain ⟨n, g, bs⟩ := h1.2.2.2 i hi
    have hn1 := bs.1
    have hn2 := bs.2.1
    rw [if_pos c, k_nT E0 1 t0, if_pos rfl]
    dsimp only
    have chk : ∀ F : Int32 → Int32 → Int32 → Option Int32, (∀ x a b : Int32, F x a b = some (if a.toInt ≤ x.toInt ∧ x.toInt ≤ b.toInt then 1 else 0)) → ∀ y z : Int32, ((F a 1 9).bind fun x2 => if x2 = 0 then some y else (F b 1 9).bind fun x5 => if x5 = 0 then some y else some z) = some (if (1 ≤ a.toInt ∧ a.toInt ≤ 9) ∧ (1 ≤ b.toInt ∧ b.toInt ≤ 9) then z else y) := by
      intro F hF y z
      rw [hF, hF, e1, e9, Option.bind_some]
      by_cases c1 : 1 ≤ a.toInt ∧ a.toInt ≤ 9
      · rw [if_pos c1, if_neg k_10, Option.bind_some]
        by_cases c2 : 1 ≤ b.toInt ∧ b.toInt ≤ 9
        · rw [if_pos c2, if_neg k_10, if_pos ⟨c1, c2⟩]
        · rw [if_neg c2, if_pos rfl, if_neg (fun z => c2 z.2)]
      · rw [if_neg c1, if_pos rfl, if_neg (fun z => c1 z.1)]
    rw [← Option.bind_assoc, chk _ k_in, Option.bind_some]
    have cls0 : f_X11_shift (Int32.ofNat i) a b D = am_btD (f_X11_need (if (1 ≤ a.toInt ∧ a.toInt ≤ 9) ∧ (1 ≤ b.toInt ∧ b.toInt ≤ 9) then 1 else 0)) D fun x12 => (f_X11_cut (Int32.ofNat n * b) a).bind fun x14 => (f_X11_bounded x14 (1 : Int32) (1200 : Int32)).bind fun x16 => if x16 < (D.1 23 0) then some (.inl ("java/lang/IllegalStateException", D)) else if x16 ≤ (600 : Int32) then (f_X7_resampleOf 101 (30 + 2 * i) x16 a b D).bind fun x20 => (f_X9_clear 103 x20).bind fun x22 => (f_X9_add 103 x16 (x22.1 (30 + 2 * i) 1) x22).bind fun x24 => (f_X3_drawOut 71 101 103 23 x24).bind fun x26 => some (.inr ((x26.1 71 6), x26)) else some (.inl ("java/lang/IllegalStateException", D)) := by
      unfold f_X11_shift
      rw [k_soT h1.2.1 h1.1 hi, k_btR, ← Option.bind_assoc, chk _ k_cwithin, Option.bind_some, bs.2.2.1.2.2.1]
    rw [cls0]
    by_cases cc : (1 ≤ a.toInt ∧ a.toInt ≤ 9) ∧ (1 ≤ b.toInt ∧ b.toInt ≤ 9)
    · rw [if_pos cc, if_pos cc, k_needT, k_b0 t0, Option.bind_some, if_pos rfl]
      dsimp only
      obtain ⟨a', rfl, ha1, ha2⟩ := k_natOf (lo := 1) (hi := 9) cc.1
      obtain ⟨b', rfl, hb1, hb2⟩ := k_natOf (lo := 1) (hi := 9) cc.2
      have hnb : n * b' ≤ 5400 := Nat.mul_le_mul hn2 hb2
      have em : Int32.ofNat n * Int32.ofNat b' = Int32.ofNat (n * b') := (Int32.ofNat_mul n b').symm
      obtain ⟨v, hv⟩ : ∃ v : Nat, v = max 1 (min (n * b' / a') 1200) := ⟨_, rfl⟩
      have hdl := Nat.div_le_self (n * b') a'
      have hvv : am_mx 1 (am_mn (Int32.ofNat (n * b' / a')) 1200) = Int32.ofNat v := by
        generalize n * b' / a' = z at hv hdl
        rw [j_eq, j_mx, j_mn, j_nat (by omega), j_nat (by omega), e1, e1200]
        omega
      have hbd : f_X11_bounded (Int32.ofNat (n * b' / a')) 1 1200 = some (Int32.ofNat v) := by rw [← hvv]; rfl
      have hwi : f_X12_within (Int32.ofNat (n * b' / a')) 1 1200 = some (Int32.ofNat v) := by rw [k_within _ _ _ (by decide), hvv]
      rw [em, j_cut (by rw [j_nat (by omega)]; omega), k_dvN (by omega) (by omega) (by omega), Option.bind_some, hbd, Option.bind_some, k_g (by omega) (by omega), bs.2.2.2.1, Option.bind_some, em, k_dvn (by omega) (by omega) (by omega), Option.bind_some, hwi, Option.bind_some]
      obtain ⟨w, o, s, hps⟩ := h3.1
      have hpv := hps.1
      rw [hps.2.1, hps.2.2.2.2.1]
      by_cases cv : w ≤ v ∧ v ≤ 600
      · have c1 : ¬ Int32.ofNat v < Int32.ofNat w := by
          have := hpv.2.1
          rw [j_lt, j_nat (by omega), j_nat (by omega)]; omega
        have c2 : Int32.ofNat v ≤ 600 := by rw [j_le, j_nat (by omega), e600]; omega
        rw [if_neg c1, if_neg c1, if_pos c2, if_pos c2, Option.bind_some, k_b0 t0, Option.bind_some, if_pos rfl]
        dsimp only
        obtain ⟨D1, E1, d1, d2, d3, d4, d5, d6, d7⟩ := k_resample (c := v) bs (by omega) cv.2 ha1 ha2 hb1 hb2
        obtain ⟨D2, D3, x1, x2, x3, x4, x5⟩ := k_oneC (D := D1) 103 (Int32.ofNat v) (Int32.ofNat n)
        have hr1 : D2.1 (30 + 2 * i) 1 = Int32.ofNat n := by rw [x4 _ (by omega), (d5 _ (by omega)).1]; exact bs.2.2.1.2.2.1
        have h8' := h8
        obtain ⟨L0, out0, q, st, a1, a2, a3, a4, a5, a6, a7, a8, a9, a10, a11, a12, a13, a14⟩ := h8'
        -- the reference's marks
        obtain ⟨E2, hE2⟩ : ∃ E2, E2 = am_wI (am_wI (am_wI (am_wI E1 117 36 (Int32.ofNat v)) 117 37 1) 223 2 (Int32.ofNat v)) 223 3 (Int32.ofNat n) := ⟨_, rfl⟩
        have fE2 : ∀ y, y ≠ 117 ∧ y ≠ 221 ∧ y ≠ 223 → E2.1 y = E0.1 y := fun y hy => by rw [hE2, j_wI_ne _ _ _ hy.2.2, j_wI_ne _ _ _ hy.2.2, j_wI_ne _ _ _ hy.1, j_wI_ne _ _ _ hy.1, d6 y hy.2.1]
        have fE117 : ∀ j, j ≠ 36 ∧ j ≠ 37 → E2.1 117 j = E0.1 117 j := fun j hj => by rw [hE2, j_wI_ne _ _ _ (by omega), j_wI_ne _ _ _ (by omega), k_wj _ _ hj.2, k_wj _ _ hj.1, d6 117 (by omega)]
        have x36 : E2.1 117 36 = Int32.ofNat v := by rw [hE2, j_wI_ne _ _ _ (by omega), j_wI_ne _ _ _ (by omega), k_wj _ _ (by decide), k_ws]
        have x37 : E2.1 117 37 = Int32.ofNat 1 := by rw [hE2, j_wI_ne _ _ _ (by omega), j_wI_ne _ _ _ (by omega), k_ws]; rfl
        have x223 : E2.1 223 0 = 0 ∧ E2.1 223 1 = 0 ∧ E2.1 223 2 = Int32.ofNat v ∧ E2.1 223 3 = Int32.ofNat n := by
          rw [hE2]
          refine ⟨?_, ?_, ?_, ?_⟩
          · rw [k_wj _ _ (by decide), k_wj _ _ (by decide), j_wI_ne _ _ _ (by omega), j_wI_ne _ _ _ (by omega), d6 223 (by omega)]; exact a13
          · rw [k_wj _ _ (by decide), k_wj _ _ (by decide), j_wI_ne _ _ _ (by omega), j_wI_ne _ _ _ (by omega), d6 223 (by omega)]; exact a14
          · rw [k_wj _ _ (by decide), k_ws]
          · rw [k_ws]
        have hmv : k_mv 1 (k_c1 (Int32.ofNat v)) (k_c1 (Int32.ofNat n)) := k_mv1 (by rw [j_nat (by omega)]; omega) (by rw [j_nat (by omega)]; omega)
        have hfm : k_fm E2 1 (k_c1 (Int32.ofNat v)) (k_c1 (Int32.ofNat n)) := by
          refine ⟨x37, fun k hk => ?_⟩
          have ck : k = 0 ∨ k = 1 := by omega
          rcases ck with rfl | rfl
          · rw [x223.1, x223.2.1]
            unfold k_c1
            rw [if_neg (by omega), if_neg (by omega)]
            exact ⟨rfl, rfl⟩
          · rw [x223.2.2.1, x223.2.2.2]
            unfold k_c1
            rw [if_pos (by omega), if_pos (by omega)]
            exact ⟨rfl, rfl⟩
        have hp3 : k_ps D3 E2 23 w o s := k_ps_by hps (by rw [(x5 23 (by omega)).1, (d5 23 (by omega)).1]) (fE117 14 (by omega)) (fE117 15 (by omega)) (fE117 16 (by omega))
        have hfn : (k_c1 (Int32.ofNat v) (((1 : Nat) : Int) - 1)).toInt ≤ v := by
          have e : ((1 : Nat) : Int) - 1 = ((0 : Nat) : Int) := rfl
          rw [e]
          unfold k_c1
          rw [if_pos rfl, j_nat (by omega)]
          omega
        obtain ⟨D4, E4, L, out, q', y1, y2, y3, y4, y5, y6, y7, y8, y9, y10⟩ := k_drawOut (D := D3) (E := E2) (r0 := 71) (p1 := 101) (p2 := 103) (p3 := 23) (n := v) (by omega) (j_row_fr d3 (x5 101 (by omega)).1 (x5 102 (by omega)).1) x3 hp3 x36 (k_arr_by d4 (by rw [hE2, j_wI_ne _ _ _ (by omega), j_wI_ne _ _ _ (by omega), j_wI_ne _ _ _ (by omega), j_wI_ne _ _ _ (by omega)])) (k_rs_bd bs.2.2.2.2.2 hb1 hb2) hfm hmv hfn cv.1 k_rw73.1 k_rw73.2.1 (by omega) (by omega) (by omega)
        have cs : ((f_X7_resampleOf 101 (30 + 2 * i) (Int32.ofNat v) (Int32.ofNat a') (Int32.ofNat b') D).bind fun x20 => (f_X9_clear 103 x20).bind fun x22 => (f_X9_add 103 (Int32.ofNat v) (x22.1 (30 + 2 * i) 1) x22).bind fun x24 => (f_X3_drawOut 71 101 103 23 x24).bind fun x26 => some (Sum.inr ((x26.1 71 6), x26))) = (some (.inr (Int32.ofNat q', D4)) : Option ((String × am_D) ⊕ (Int32 × am_D))) := by
          rw [d1, Option.bind_some, x1, Option.bind_some, hr1, x2, Option.bind_some, y1, Option.bind_some, y5.2.2.2.2.2.1]
        have q2 : ∀ (X : am_D) (z : Int32), am_pI X 223 26 2 z = some (am_wI X 223 2 z) := fun X z => k_p (k := 2) z (by omega) (by omega)
        have q3 : ∀ (X : am_D) (z : Int32), am_pI X 223 26 3 z = some (am_wI X 223 3 z) := fun X z => k_p (k := 3) z (by omega) (by omega)
        have hn39 : am_gI (am_wI (am_wI (am_wI E1 117 36 (Int32.ofNat v)) 117 37 1) 223 2 (Int32.ofNat v)) 139 5 (Int32.ofNat i) = some (Int32.ofNat n) := by
          rw [k_g (by omega) (by omega), j_wI_ne _ _ _ (by omega), j_wI_ne _ _ _ (by omega), j_wI_ne _ _ _ (by omega), d6 139 (by omega), bs.2.2.2.1]
        rw [cs, d2, Option.bind_some, Option.bind_some, Option.bind_some, q2, Option.bind_some, hn39, Option.bind_some, q3, Option.bind_some, ← hE2, y2, Option.bind_some, y5.2.2.2.2.2.2.1]
        have hz := y4.2.2.2.2.2.2.1.2 0 (by omega)
        have z1 : k_c1 (Int32.ofNat v) (((0 : Nat) : Int) - 1) = 0 := by unfold k_c1; rw [if_neg (by omega)]
        have z2 : k_c1 (Int32.ofNat n) (((0 : Nat) : Int) - 1) = 0 := by unfold k_c1; rw [if_neg (by omega)]
        rw [z1, z2] at hz
        have dD : ∀ y, y < 71 ∨ (81 ≤ y ∧ y < 101) ∨ 106 ≤ y → D4.1 y = D.1 y := fun y hy => by rw [(y8 y (by omega)).1, (x5 y (by omega)).1, (d5 y (by omega)).1]
        have eE : ∀ y, y ≠ 117 ∧ (y < 221 ∨ 1425 ≤ y) → E4.1 y = E0.1 y := fun y hy => by rw [y9.1 y hy.1 hy.2, fE2 y (by omega)]
        have d17 : ∀ j, 0 ≤ j → D4.1 17 j = D.1 17 j := fun j _ => by rw [dD 17 (by omega)]
        have e117 : ∀ j, (j < 36 ∨ 40 < j) → E4.1 117 j = E0.1 117 j := fun j hj => by rw [y9.2.1 j hj, fE117 j (by omega)]
        refine k_valE (Int32.ofNat q') (D1 := D4) (E1 := E4) ⟨ns, nm, nw, np, nh, ni, k_Rs_mv h1 (d17 7 (by omega)) (e117 12 (by omega)) (fun y a b => dD y (by omega)) (eE _ (by omega)) (fun y a b => eE y (by omega)), k_Rm_mv h2 (d17 8 (by omega)) (e117 13 (by omega)) (fun y a b => dD y (by omega)) (eE _ (by omega)) (fun y a b => eE y (by omega)), k_Rn_mv h3 (dD _ (by omega)) (fun j _ => d17 j (by omega)) (dD _ (by omega)) (fun j a b => e117 j (by omega)) (eE _ (by omega)), k_Rw_mv h4 (d17 9 (by omega)) (e117 20 (by omega)) (fun y a b => dD y (by omega)) (fun y a b => eE y (by omega)), k_Rp_mv h5 (by rw [dD 24 (by omega)]) (e117 21 (by omega)) (fun y a b => dD y (by omega)) (fun y a b => eE y (by omega)), k_Rh_mv h6 (d17 10 (by omega)) (e117 22 (by omega)) (dD _ (by omega)) (eE _ (by omega)), k_Ri_mv h7 (fun _ => Nat.le_refl _) (by rw [dD 16 (by omega)]) (e117 23 (by omega)) (fun y a b => dD y (by omega)) (fun y a b => eE y (by omega)) (fun s hs => by have hs : s < ns := hs; have := h1.1; exact ⟨by rw [eE 139 (by omega)], fun k _ => by rw [eE (134 + s) (by omega)]⟩) (fun m hm => by have hm : m < nm := hm; have := h2.1; exact ⟨by rw [eE 201 (by omega)], fun k j _ _ => by rw [eE _ (by omega)]⟩) (fun w j hw _ => by have hw : w < nw := hw; have := h4.1; rw [eE _ (by omega)]) (fun p j hp _ => by have hp : p < np := hp; have := h5.1; rw [eE _ (by omega)]) (fun z _ => by rw [eE 203 (by omega)]), k_RdNew y4 y5 y3 y6 y7 hz.1 hz.2, k_Rt_mv h9 (dD _ (by omega)) (dD _ (by omega)) (e117 1 (by omega)) (e117 3 (by omega)) (eE _ (by omega))⟩ ?_ ?_ ?_ rfl rfl
        · rw [e117 0 (by omega)]; exact t0
        · exact k_fr_trans f0 (fun y hy => ⟨eE y (by omega), by rw [y9.2.2, hE2]; show E1.2 y = _; rw [d7]⟩)
        · exact fun y hy => ⟨dD y (by omega), by rw [(y8 y (by omega)).2, (x5 y (by omega)).2, (d5 y (by omega)).2]⟩
      · have hwv := hpv.2.1
        have hr3 : ((if Int32.ofNat v < Int32.ofNat w then some (1 : Int32) else if Int32.ofNat v ≤ 600 then some 0 else some 1)) = some 1 := by
          by_cases c1 : Int32.ofNat v < Int32.ofNat w
          · rw [if_pos c1]
          · rw [if_neg c1, if_neg (by rw [j_lt, j_nat (by omega), j_nat (by omega)] at c1; rw [j_le, j_nat (by omega), e600]; omega)]
        rw [hr3, Option.bind_some, k_b1 t0 3 (by decide), Option.bind_some, if_neg k_10]
        by_cases c1 : Int32.ofNat v < Int32.ofNat w
        · rw [if_pos c1]
          exact k_refE 0 2 _ q0 f0 (k_fc_refl D) rfl rfl rfl
        · rw [if_neg c1, if_neg (by rw [j_lt, j_nat (by omega), j_nat (by omega)] at c1; rw [j_le, j_nat (by omega), e600]; omega)]
          exact k_refE 0 2 _ q0 f0 (k_fc_refl D) rfl rfl rfl
    · rw [if_neg cc, if_neg cc, k_needF, k_b1 t0 2 (by decide), Option.bind_some, if_neg k_10]
      exact k_refE 0 1 _ q0 f0 (k_fc_refl D) rfl rfl rfl
  · rw [if_neg c, k_nF E0 1 k_10 t0, if_neg k_10]
    refine k_refE 0 0 _ q0 f0 (k_fc_refl D) rfl ?_ rfl
    unfold f_X11_shift
    rw [k_soF h1.2.1 h1.1 c, k_btL]
