/-! undo; waves; sing -/
theorem k_per_pos {D E : am_D} {n c : Nat} {pos : Nat → Nat} (h : k_cr D E n c pos) (hn : n ≤ 600) (hc2 : 2 ≤ c) : 1 ≤ (k_per c pos).toInt := by
  have hc := h.1
  have mono : ∀ j : Nat, j < c → pos 0 + j ≤ pos j := by
    intro j
    induction j with
    | zero => intro _; omega
    | succ j ih =>
      intro hj
      have := ih (by omega)
      have := (h.2.2 (j + 1) hj).2.2.2.2 j (by omega)
      omega
  have m := mono (c - 1) (by omega)
  have p1 := (h.2.2 (c - 1) (by omega)).2.2.2.1
  have e100 : (100 : Int32).toInt = 100 := rfl
  have e1 : (Int32.ofNat (pos (c - 1)) - Int32.ofNat (pos 0)).toInt = (pos (c - 1) : Int) - pos 0 := by rw [k_S, j_nat (by omega), j_nat (by omega)]; omega
  have e2 : (100 * (Int32.ofNat (pos (c - 1)) - Int32.ofNat (pos 0))).toInt = 100 * ((pos (c - 1) : Int) - pos 0) := by rw [k_M, e1, e100]; omega
  have e3 := k_D (100 * (Int32.ofNat (pos (c - 1)) - Int32.ofNat (pos 0))) (Int32.ofNat (c - 1)) (by rw [j_nat (by omega)]; omega)
  rw [e2, j_nat (by omega)] at e3
  unfold k_per
  rw [if_pos hc2, e3]
  unfold k_q
  rw [if_pos (by omega)]
  exact (Int.le_ediv_iff_mul_le (by omega)).mpr (by omega)
theorem op_undo {D E : am_D} (h : k_Q D E) (p a : Int32) : k_opE D E (f_X11_undo p a D) (f_X12_undo p a E) ["java/util/NoSuchElementException", "java/lang/IllegalArgumentException"] := by
  obtain ⟨E0, hE0, t0, f0, q0⟩ := k_start h
  have q0' := q0
  obtain ⟨ns, nm, nw, np, nh, ni, h1, h2, h3, h4, h5, h6, h7, h8, h9⟩ := q0'

  have hns := h1.1
  have hnm := h2.1
  have e0 : (0 : Int32).toInt = 0 := rfl
  have e1 : (1 : Int32).toInt = 1 := rfl
  have e5 : (5 : Int32).toInt = 5 := rfl
  have e400 : (400 : Int32).toInt = 400 := rfl
  have e6000 : (6000 : Int32).toInt = 6000 := rfl
  have e1200 : (1200 : Int32).toInt = 1200 := rfl
  unfold f_X12_undo
  rw [Option.bind_some, ← hE0, k_isS _ h1.2.2.1 h1.1, Option.bind_some]
  by_cases c : 0 ≤ p.toInt ∧ p.toInt < ns
  · obtain ⟨i, rfl, hi⟩ := k_ix c
    obtain ⟨n, g, b1, b2, b3, b4, b5, b6⟩ := h1.2.2.2 i hi
    rw [if_pos c, k_nT E0 1 t0, if_pos rfl]
    dsimp only
    rw [k_in, e400, e6000, Option.bind_some]
    by_cases c2 : 400 ≤ a.toInt ∧ a.toInt ≤ 6000
    · have cls : f_X11_undo (Int32.ofNat i) a D = am_bn (f_X1_freeMap D) (fun x8 => (f_X2_find (30 + 2 * i) D).bind fun x10 => (f_X2_hundredths x10).bind fun x12 => if x12 = (-1 : Int32) then some (.inr ((-2 : Int32), x10)) else (f_X9_clear x8 x10).bind fun x15 => (f_X11_cut ((x15.1 (30 + 2 * i) 1) * a) x12).bind fun x17 => (f_X11_bounded x17 (1 : Int32) (1200 : Int32)).bind fun x19 => (f_X9_add x8 (x15.1 (30 + 2 * i) 1) x19 x15).bind fun x21 => (f_X1_takeMap x21).bind fun x23 => some (.inr (x23.1, x23.2))) (some (.inr ((-1 : Int32), D))) := by
        unfold f_X11_undo f_X11_isHum
        rw [k_soT h1.2.1 h1.1 hi, k_btR, k_cwithin, e400, e6000, if_pos c2, Option.bind_some, Option.bind_some, k_needT]
      rw [if_pos c2, k_nT E0 2 t0, if_pos rfl, cls, k_freeM h2.2.1 hnm]
      dsimp only
      rw [h2.2.2.1]
      by_cases cm : nm < 5
      · rw [if_pos cm, if_neg (by rw [j_eq, j_nat (by omega), e5]; omega)]
        show k_opE D E ((f_X2_find (30 + 2 * i) D).bind _) _ _
        obtain ⟨D2, E2, cc, pos, d1, d2, d3, d4, d5⟩ := k_cfind b3 b4 b5 (by omega) b2 b1 (by omega)
        obtain ⟨q1, q2, q3, q4⟩ := k_per_bd d3 b2
        rw [d1, Option.bind_some, k_hundredths d3, Option.bind_some, k_periodOf d2 d3, Option.bind_some]
        dsimp only
        by_cases c3 : 2 ≤ cc
        · have pp := k_per_pos d3 b2 c3
          have cne : ¬ k_per cc pos = -1 := by
            have em : (-1 : Int32).toInt = -1 := rfl
            rw [j_eq, em]
            omega
          rw [if_neg cne, if_neg cne]
          obtain ⟨v, hv⟩ : ∃ v, v = am_mx 1 (am_mn (Int32.ofNat n * a / k_per cc pos) 1200) := ⟨_, rfl⟩
          have hvb : 1 ≤ v.toInt ∧ v.toInt ≤ 1200 := by
            rw [hv, j_mx, j_mn, e1, e1200]
            omega
          obtain ⟨D3, D4, x1, x2, x3, x4, x5⟩ := k_oneC (D := D2) (40 + 3 * nm) (Int32.ofNat n) v
          have h13 : E2.1 117 13 = Int32.ofNat nm := by rw [d5.1 117 (by omega)]; exact h2.2.2.1
          obtain ⟨E3, a1, a2, a3, a4, a5, a6, a7⟩ := k_oneR (E := E2) (Int32.ofNat n) v h13 cm
          have hr1 : D3.1 (30 + 2 * i) 1 = Int32.ofNat n := by rw [x4 _ (by omega), d4.1 _ (by omega) (by omega)]; exact b3.2.2.1
          have hbd : f_X11_bounded (Int32.ofNat n * a / k_per cc pos) 1 1200 = some v := by rw [hv]; rfl
          have hn1 : am_gI E2 139 5 (Int32.ofNat i) = some (Int32.ofNat n) := by rw [k_g (by omega) (by omega), d5.1 139 (by omega), b4]
          have hdv : am_dv (Int32.ofNat n * a) (k_per cc pos) = some (Int32.ofNat n * a / k_per cc pos) := by
            unfold am_dv
            rw [if_neg (by rw [j_eq, e0]; omega)]
          have hwi : f_X12_within (Int32.ofNat n * a / k_per cc pos) 1 1200 = some v := by rw [k_within _ _ _ (by decide), hv]
          rw [x1, Option.bind_some, hr1, j_cut (by omega), Option.bind_some, hbd, Option.bind_some, x2, Option.bind_some, k_takeM (by rw [(x5 17 (by omega)).1, d4.1 17 (by omega) (by omega)]; exact h2.2.1), Option.bind_some, hn1, Option.bind_some, Option.bind_some, hdv, Option.bind_some, hwi, Option.bind_some, a1, Option.bind_some]
          refine k_valE _ (k_addOne (x := Int32.ofNat n) (v := v) (D1 := D4) h1 h2 h3 h4 h5 h6 h7 h8 h9 cm (k_mv1 (by rw [j_nat (by omega)]; omega) hvb) x3 (fun y hy => by rw [(x5 y (by omega)).1, d4.1 y (by omega) (by omega)]) rfl a2 (fun j hj => by rw [a3 j hj, d5.1 201 (by omega)]) a4 (fun j hj => by rw [a5 j hj, d5.1 117 (by omega)]) (fun y y1 y2 y5 y3 y4 => by rw [a6 y y1 y2 y3 y4, d5.1 y y5])) (by rw [a5 0 (by omega), d5.1 117 (by omega)]; exact t0) (k_fr_trans f0 (fun y hy => ⟨by rw [a6 y (by omega) (by omega) (by omega) (by omega), d5.1 y (by omega)], by rw [a7, d5.2]⟩)) (fun y hy => ⟨by rw [j_wI_ne _ _ _ (by omega), (x5 y (by omega)).1, d4.1 y (by omega) (by omega)], by show D4.2 y = _; rw [(x5 y (by omega)).2, d4.2]⟩) rfl rfl
        · have ce := q4 c3
          rw [if_pos ce, if_pos ce]
          exact k_valX _ q0 t0 f0 d4 d5 rfl rfl
      · rw [if_neg cm, if_pos (by rw [j_eq, j_nat (by omega), e5]; omega)]
        exact k_valE _ q0 t0 f0 (k_fc_refl D) rfl rfl
    · rw [if_neg c2, k_nF E0 2 (by decide) t0, if_neg k_10]
      refine k_refE 0 1 _ q0 f0 (k_fc_refl D) rfl ?_ rfl
      unfold f_X11_undo f_X11_isHum
      rw [k_soT h1.2.1 h1.1 hi, k_btR, k_cwithin, e400, e6000, if_neg c2, Option.bind_some, Option.bind_some, k_needF]
  · rw [if_neg c, k_nF E0 1 k_10 t0, if_neg k_10]
    refine k_refE 0 0 _ q0 f0 (k_fc_refl D) rfl ?_ rfl
    unfold f_X11_undo
    rw [k_soF h1.2.1 h1.1 c, k_btL]
theorem k_q_bd {z p : Int} (hp : 0 < p) (h : -(2047 * p) ≤ z) (h2 : z ≤ 2047 * p) : -2047 ≤ k_q z p ∧ k_q z p ≤ 2047 := by
  unfold k_q
  by_cases c : 0 ≤ z
  · rw [if_pos c]
    have h1 := Int.ediv_nonneg c (by omega : (0 : Int) ≤ p)
    have h2 : z / p ≤ 2047 := Int.ediv_le_of_le_mul (by omega) (by omega)
    omega
  · rw [if_neg c]
    have h1 := Int.ediv_nonneg (a := -z) (b := p) (by omega) (by omega)
    have h2 : -z / p ≤ 2047 := Int.ediv_le_of_le_mul (by omega) (by omega)
    omega
/-- a wave, on both sides -/
theorem k_wave {p k : Nat} {a : Int32} (hp : 4 ≤ p) (hp2 : p ≤ 60) (hk : k ≤ 2000) (ha : 0 ≤ a.toInt) (ha2 : a.toInt ≤ 2047) : ∃ v, f_X11_wave (Int32.ofNat p) a (Int32.ofNat k) = some v ∧ f_X12_wave (Int32.ofNat k) (Int32.ofNat p) a = some v ∧ -2047 ≤ v.toInt ∧ v.toInt ≤ 2047 := by
  have e0 : (0 : Int32).toInt = 0 := rfl
  have hp0 : ¬ Int32.ofNat p = 0 := by rw [j_eq, j_nat (by omega), e0]; omega
  have rm := k_rmN (x := k) (y := p) (by omega) (by omega) (by omega)
  have hm : k % p < p := Nat.mod_lt k (by omega)
  generalize k % p = r at rm hm
  have t1 : (4 : Int32) * Int32.ofNat r = Int32.ofNat (4 * r) := (Int32.ofNat_mul 4 _).symm
  have t3 : (3 : Int32) * Int32.ofNat p = Int32.ofNat (3 * p) := (Int32.ofNat_mul 3 _).symm
  have dv : ∀ x : Int32, f_X11_cut x (Int32.ofNat p) = some (x / Int32.ofNat p) := fun x => j_cut (by rw [j_nat (by omega)]; omega)
  have dv2 : ∀ x : Int32, am_dv x (Int32.ofNat p) = some (x / Int32.ofNat p) := fun x => by
    unfold am_dv
    rw [if_neg hp0]
  have bd : ∀ m : Int32, -(p : Int) ≤ m.toInt → m.toInt ≤ p → -2047 ≤ (a * m / Int32.ofNat p).toInt ∧ (a * m / Int32.ofNat p).toInt ≤ 2047 := by
    intro m m1 m2
    have b := k_mul_bd2 (a := a.toInt) (b := m.toInt) (c := 2047) (d := (p : Int)) (by omega) (by omega) (by omega) (by omega) (by omega) (by omega)
    have em : (a * m).toInt = a.toInt * m.toInt := by rw [k_M]; omega
    rw [k_D _ _ (by rw [j_nat (by omega)]; omega), em, j_nat (by omega)]
    exact k_q_bd (by omega) (by omega) (by omega)
  have e4p : (4 : Int32) * Int32.ofNat p = Int32.ofNat (4 * p) := (Int32.ofNat_mul 4 _).symm
  have e2p : (2 : Int32) * Int32.ofNat p = Int32.ofNat (2 * p) := (Int32.ofNat_mul 2 _).symm
  unfold f_X11_wave f_X12_wave f_X11_left
  rw [if_neg hp0, rm]
  simp only [Option.bind_some]
  rw [t1, t3, e4p, e2p]
  by_cases c1 : p ≤ 4 * r
  · have c1' : Int32.ofNat p ≤ Int32.ofNat (4 * r) := by rw [j_le, j_nat (by omega), j_nat (by omega)]; omega
    rw [if_pos c1', if_pos c1']
    by_cases c2 : 3 * p ≤ 4 * r
    · have c2' : Int32.ofNat (3 * p) ≤ Int32.ofNat (4 * r) := by rw [j_le, j_nat (by omega), j_nat (by omega)]; omega
      rw [if_pos c2', if_pos c2', dv, dv2]
      have em : (Int32.ofNat (4 * r) - Int32.ofNat (4 * p)).toInt = 4 * (r : Int) - 4 * p := by rw [k_S, j_nat (by omega), j_nat (by omega)]; omega
      exact ⟨_, rfl, rfl, bd _ (by rw [em]; omega) (by rw [em]; omega)⟩
    · have c2' : ¬ Int32.ofNat (3 * p) ≤ Int32.ofNat (4 * r) := by rw [j_le, j_nat (by omega), j_nat (by omega)]; omega
      rw [if_neg c2', if_neg c2', dv, dv2]
      have em : (Int32.ofNat (2 * p) - Int32.ofNat (4 * r)).toInt = 2 * (p : Int) - 4 * r := by rw [k_S, j_nat (by omega), j_nat (by omega)]; omega
      exact ⟨_, rfl, rfl, bd _ (by rw [em]; omega) (by rw [em]; omega)⟩
  · have c1' : ¬ Int32.ofNat p ≤ Int32.ofNat (4 * r) := by rw [j_le, j_nat (by omega), j_nat (by omega)]; omega
    rw [if_neg c1', if_neg c1', dv, dv2]
    refine ⟨_, rfl, rfl, bd _ ?_ ?_⟩
    · rw [j_nat (by omega)]; omega
    · rw [j_nat (by omega)]; omega
theorem k_loudR {E : am_D} {a n wd b : Nat} {f : Int → Int32} (hf : k_arr E a n f) (hz : ∀ x : Int, (n : Int) ≤ x → f x = 0) (hn : n ≤ am_ln a) (hl : am_ln a ≤ 1200) (hw : wd ≤ 100) (hb : b ≤ 3000) : f_X12_loudest a (Int32.ofNat n) (Int32.ofNat b) (Int32.ofNat wd) E = some (j_max (fun j => am_ab (f ((b : Int) + j))) wd) := by
  have hend : ∀ k : Nat, n ≤ b + k → ∀ j : Nat, j_max (fun j => am_ab (f ((b : Int) + j))) (k + j) = j_max (fun j => am_ab (f ((b : Int) + j))) k := by
    intro k hk j
    have hpos : ∀ y : Nat, 0 ≤ (j_max (fun j => am_ab (f ((b : Int) + j))) y).toInt := by
      intro y
      induction y with
      | zero => exact Int.le_refl _
      | succ y ih =>
        show 0 ≤ (am_mx _ _).toInt
        rw [j_mx]
        omega
    induction j with
    | zero => rfl
    | succ j ih =>
      show am_mx (j_max (fun j => am_ab (f ((b : Int) + j))) (k + j)) (am_ab (f ((b : Int) + ((k + j : Nat) : Int)))) = _
      have e0 : (0 : Int32).toInt = 0 := rfl
      have h := hpos k
      rw [hz _ (by omega), ih, j_eq, j_mx]
      have e : (am_ab 0).toInt = 0 := by decide
      rw [e]
      omega
  have key := k_ind (P := fun fu k => f_X12_loudest_L6 a (Int32.ofNat n) (Int32.ofNat b) (Int32.ofNat wd) E fu (j_max (fun j => am_ab (f ((b : Int) + j))) k) (Int32.ofNat (b + k)) = some (j_max (fun j => am_ab (f ((b : Int) + j))) wd)) wd
    (by
      intro fu k hk ih
      rw [f_X12_loudest_L6, ← Int32.ofNat_add, if_neg (by rw [j_le, j_nat (by omega), j_nat (by omega)]; omega)]
      by_cases c : n ≤ b + k
      · rw [if_pos (by rw [j_le, j_nat (by omega), j_nat (by omega)]; omega)]
        have e : wd = k + (wd - k) := by omega
        rw [e, hend k c]
      · rw [if_neg (by rw [j_le, j_nat (by omega), j_nat (by omega)]; omega), k_g (by omega) (by omega), hf _ (by omega), Option.bind_some, k_amount, Option.bind_some, k_more, Option.bind_some, j_suc]
        have e2 : ((b + k : Nat) : Int) = (b : Int) + k := by omega
        rw [e2]
        exact ih) (by
      intro fu
      rw [f_X12_loudest_L6, ← Int32.ofNat_add, if_pos (Int32.le_refl _)]) am_fu 0 (by omega) (by unfold am_fu; omega)
  unfold f_X12_loudest
  have key : f_X12_loudest_L6 a (Int32.ofNat n) (Int32.ofNat b) (Int32.ofNat wd) E am_fu 0 (Int32.ofNat b) = _ := key
  rw [key, Option.bind_some]
theorem k_max_bd {f : Int → Int32} (hf : k_bnd f) (b : Int) : ∀ wd : Nat, 0 ≤ (j_max (fun j => am_ab (f (b + j))) wd).toInt ∧ (j_max (fun j => am_ab (f (b + j))) wd).toInt ≤ 2047
  | 0 => ⟨Int.le_refl _, show (0 : Int32).toInt ≤ 2047 by decide⟩
  | wd + 1 => by
    have h := k_max_bd hf b wd
    have q := hf (b + wd)
    have e := k_ab (f (b + wd)) (by omega)
    show 0 ≤ (am_mx _ _).toInt ∧ (am_mx _ _).toInt ≤ 2047
    rw [j_mx, e]
    split <;> omega
/-- the singing, both sides: the rows -/
theorem k_singL {D E : am_D} {i n m j L p wd : Nat} {g f t : Int → Int32} (hs : k_snd D E i n g) (hi : i < 5) (hv : k_mv m f t) (hm : j_map D (40 + 3 * j) m f t) (hj : j < 5) (hf : k_fm E m f t) (hT : t ((m : Int) - 1) = Int32.ofNat L) (hp : 4 ≤ p) (hp2 : p ≤ 60) (hw : 8 ≤ wd) (hw2 : wd ≤ 60) (hr : j_row D 74 L (fun _ => 0)) (e38 : E.1 117 38 = Int32.ofNat L) :
    ∃ D2 E2 out, f_X3_singOut_L18 71 (30 + 2 * i) (40 + 3 * j) (Int32.ofNat p) (Int32.ofNat wd) am_fu 0 D = some D2 ∧ f_X12_sing_L104 (Int32.ofNat i) (Int32.ofNat p) (Int32.ofNat wd) am_fu 0 E = some E2 ∧ j_row D2 74 L out ∧ k_arr E2 222 L out ∧ k_bnd out ∧ j_fr (fun y => y = 75) D D2 ∧ (∀ y, y ≠ 222 → E2.1 y = E.1 y) ∧ E2.2 = E.2 := by
  obtain ⟨s1, s2, s3, s4, s5, s6⟩ := hs
  have hTi : (t ((m : Int) - 1)).toInt = L ∧ L ≤ 1200 := by
    have := k_tl hv
    have e : (t ((m : Int) - 1)).toInt = (Int32.ofNat L).toInt := by rw [hT]
    have h1 := hr.1
    have h2 := hr.2.1
    rw [j_nat (by omega)] at e
    omega
  have hL := hTi.2
  have hln := k_lnS i hi
  have key := k_ind (P := fun fu k => ∀ (D1 E1 : am_D) (out : Int → Int32), j_row D1 74 L out → (∀ y : Nat, y < k → E1.1 222 y = out y) → k_bnd out → j_fr (fun y => y = 75) D D1 → (∀ y, y ≠ 222 → E1.1 y = E.1 y) → E1.2 = E.2 →
      ∃ D2 E2 out2, f_X3_singOut_L18 71 (30 + 2 * i) (40 + 3 * j) (Int32.ofNat p) (Int32.ofNat wd) fu (Int32.ofNat k) D1 = some D2 ∧ f_X12_sing_L104 (Int32.ofNat i) (Int32.ofNat p) (Int32.ofNat wd) fu (Int32.ofNat k) E1 = some E2 ∧ j_row D2 74 L out2 ∧ k_arr E2 222 L out2 ∧ k_bnd out2 ∧ j_fr (fun y => y = 75) D D2 ∧ (∀ y, y ≠ 222 → E2.1 y = E.1 y) ∧ E2.2 = E.2) L
    (by
      intro fu k hk ih D1 E1 out r1 r2 r3 f1 f2 f3
      have hx := k_pc_int hv (Int32.ofNat k) (by rw [j_nat (by omega)]; omega) (by rw [j_nat (by omega)]; omega)
      have hfk := k_fi_ok t (Int32.ofNat k) m
      have hkl := (k_fi_lt hv (Int32.ofNat k)).mpr (by rw [j_nat (by omega)]; omega)
      have hb1 := k_mv_bd hv (k_fi t (Int32.ofNat k) m) hfk.1
      have hb2 := k_mv_bd hv (k_fi t (Int32.ofNat k) m + 1) hkl
      have e9 : ((k_fi t (Int32.ofNat k) m + 1 : Nat) : Int) - 1 = (k_fi t (Int32.ofNat k) m : Nat) := by omega
      rw [e9] at hb2
      obtain ⟨x, hxe⟩ : ∃ x : Nat, k_pc m f t (Int32.ofNat k) = Int32.ofNat x ∧ x ≤ 600 := ⟨(k_pc m f t (Int32.ofNat k)).toInt.toNat, j_of (by omega), (by omega)⟩
      have ex : Int32.ofNat x / Int32.ofNat wd * Int32.ofNat wd = Int32.ofNat (x / wd * wd) := by rw [k_dvN (by omega) (by omega) (by omega), ← Int32.ofNat_mul]
      have hxw : x / wd * wd ≤ 600 := by
        have := Nat.div_mul_le_self x wd
        omega
      obtain ⟨b, hb⟩ : ∃ b, b = x / wd * wd := ⟨_, rfl⟩
      rw [← hb] at ex hxw
      have hrow : j_row D1 (30 + 2 * i) n g := j_row_by s3 f1 (by omega) (by omega)
      have hmap : j_map D1 (40 + 3 * j) m f t := j_map_by hm f1 (by omega) (by omega) (by omega)
      have hfm1 : k_fm E1 m f t := k_fm_by hf (by rw [f2 117 (by omega)]) (f2 223 (by omega))
      have mb := k_max_bd s6 (b : Int) wd
      obtain ⟨v, w1, w2, w3, w4⟩ := k_wave (p := p) (k := k) hp hp2 (by omega) mb.1 mb.2
      have hlo := j_row_loudest hrow (Int32.ofNat b) wd (by omega) (by rw [j_nat (by omega)]; omega) (by rw [j_nat (by omega)]; omega)
      rw [j_nat (by omega)] at hlo
      obtain ⟨D2, d1, d2, d3⟩ := j_row_put r1 (Int32.ofNat k) v
      rw [j_nat (by omega)] at d2
      have hc : f_X3_singOut_L18 71 (30 + 2 * i) (40 + 3 * j) (Int32.ofNat p) (Int32.ofNat wd) (fu + 1) (Int32.ofNat k) D1 = f_X3_singOut_L18 71 (30 + 2 * i) (40 + 3 * j) (Int32.ofNat p) (Int32.ofNat wd) fu (Int32.ofNat (k + 1)) D2 := by
        rw [f_X3_singOut_L18, r1.2.2.1, if_neg (by rw [j_le, j_nat (by omega), j_nat (by omega)]; omega), k_cplace hmap hv, hxe.1, Option.bind_some, j_cut (by rw [j_nat (by omega)]; omega), Option.bind_some, ex, hlo, Option.bind_some, w1, Option.bind_some, d1, Option.bind_some, j_suc]
      have hdv : am_dv (Int32.ofNat x) (Int32.ofNat wd) = some (Int32.ofNat x / Int32.ofNat wd) := by
        rw [k_dvn (by omega) (by omega) (by omega), k_dvN (by omega) (by omega) (by omega)]
      have hr2 : f_X12_sing_L104 (Int32.ofNat i) (Int32.ofNat p) (Int32.ofNat wd) (fu + 1) (Int32.ofNat k) E1 = f_X12_sing_L104 (Int32.ofNat i) (Int32.ofNat p) (Int32.ofNat wd) fu (Int32.ofNat (k + 1)) (am_wI E1 222 k v) := by
        rw [f_X12_sing_L104, f2 117 (by omega), e38, if_neg (by rw [j_le, j_nat (by omega), j_nat (by omega)]; omega), k_a hi (by omega), Option.bind_some, k_g hi (by omega), f2 139 (by omega), s4, Option.bind_some, k_rplace hfm1 hv, hxe.1, Option.bind_some, hdv, Option.bind_some, ex, k_loudR (k_arr_by s5 (f2 _ (by omega))) (fun y hy => s3.2.2.2.2 y (Or.inr hy)) (by omega) (by omega) (by omega) (by omega), Option.bind_some, w2, Option.bind_some, k_p _ (by omega) (by omega), Option.bind_some, j_suc]
      rw [hc, hr2]
      refine ih D2 _ _ d2 (fun y hy => ?_) (fun y => ?_) (j_fr_trans f1 d3 (fun _ h => h) (fun _ h => h)) (fun y hy => by rw [j_wI_ne _ _ _ hy]; exact f2 y hy) f3
      · rw [j_wI_at]
        unfold j_up
        by_cases cy : y = k
        · rw [if_pos cy, if_pos (by omega)]
        · rw [if_neg cy, if_neg (by omega)]
          exact r2 y (by omega)
      · unfold j_up
        by_cases cy : y = (k : Int) ∧ 0 ≤ y ∧ y < L
        · rw [if_pos cy]; exact ⟨w3, w4⟩
        · rw [if_neg cy]; exact r3 y) (by
      intro fu D1 E1 out r1 r2 r3 f1 f2 f3
      rw [f_X3_singOut_L18, r1.2.2.1, if_pos (Int32.le_refl _), f_X12_sing_L104, f2 117 (by omega), e38, if_pos (Int32.le_refl _)]
      exact ⟨D1, E1, out, rfl, rfl, r1, r2, r3, f1, f2, f3⟩) am_fu 0 (by omega) (by unfold am_fu; omega) D E (fun _ => 0) hr (fun y hy => absurd hy (by omega)) (fun _ => show -2047 ≤ (0 : Int32).toInt ∧ (0 : Int32).toInt ≤ 2047 by decide) (j_fr_refl _ _) (fun _ _ => rfl) rfl
  exact key
