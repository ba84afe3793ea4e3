/-! pitch(), turned(), peak(), lock() -/
theorem k_64 (x : Int32) : (Int32.toInt64 x).toInt = x.toInt := Int32.toInt_toInt64 x
theorem k_64i {x y : Int64} (h : x.toInt = y.toInt) : x = y := Int64.toInt_inj.mp h
theorem k_64a (x y : Int64) (h : -1000000000 ≤ x.toInt ∧ x.toInt ≤ 1000000000) (h2 : -1000000000 ≤ y.toInt ∧ y.toInt ≤ 1000000000) : (x + y).toInt = x.toInt + y.toInt := by
  rw [Int64.toInt_add]
  have e : (2 : Nat) ^ 64 = 18446744073709551616 := by decide
  rw [e]
  exact Int.bmod_eq_of_le (by omega) (by omega)
theorem k_pitchIn {E : am_D} {i N a n p : Nat} {f : Int → Int32} (q4 : Int32) (q5 q7 : Int64) (hi : i < 5) (harr : k_arr E (134 + i) N f) (hb : k_bnd f) (hN : N ≤ 600) (hp : 1 ≤ p) (hp2 : p ≤ n) (han : a + n ≤ N) : f_X12_pitch_L50 (Int32.ofNat i) (Int32.ofNat a) (Int32.ofNat n) q4 q5 q7 (Int32.ofNat p) E am_fu 0 (Int32.ofNat a) = some (Int32.toInt64 (j_unl f f a ((a : Int) + p) (n - p))) := by
  have key := k_ind (P := fun fu k => f_X12_pitch_L50 (Int32.ofNat i) (Int32.ofNat a) (Int32.ofNat n) q4 q5 q7 (Int32.ofNat p) E fu (Int32.toInt64 (j_unl f f a ((a : Int) + p) k)) (Int32.ofNat (a + k)) = some (Int32.toInt64 (j_unl f f a ((a : Int) + p) (n - p)))) (n - p)
    (by
      intro fu k hk ih
      have u1 := k_unl_bd hb hb a ((a : Int) + p) k (by omega)
      have u2 := k_unl_bd hb hb a ((a : Int) + p) (k + 1) (by omega)
      have q1 := hb ((a : Int) + k)
      have q2 := hb ((a : Int) + p + k)
      have e1 : (f ((a : Int) + k) - f ((a : Int) + p + k)).toInt = (f ((a : Int) + k)).toInt - (f ((a : Int) + p + k)).toInt := by rw [k_S]; omega
      have e2 := k_ab (f ((a : Int) + k) - f ((a : Int) + p + k)) (by omega)
      have es : j_unl f f a ((a : Int) + p) (k + 1) = j_unl f f a ((a : Int) + p) k + am_ab (f ((a : Int) + k) - f ((a : Int) + p + k)) := rfl
      have eb : 0 ≤ (am_ab (f ((a : Int) + k) - f ((a : Int) + p + k))).toInt ∧ (am_ab (f ((a : Int) + k) - f ((a : Int) + p + k))).toInt ≤ 4094 := by
        rw [e2, e1]
        split <;> omega
      have e3 : Int32.toInt64 (j_unl f f a ((a : Int) + p) k) + Int32.toInt64 (am_ab (f ((a : Int) + k) - f ((a : Int) + p + k))) = Int32.toInt64 (j_unl f f a ((a : Int) + p) (k + 1)) := by
        apply k_64i
        rw [k_64a _ _ (by rw [k_64]; omega) (by rw [k_64]; omega), k_64, k_64, k_64, es, k_A]
        omega
      have g1 : am_gI E (134 + i) 600 (Int32.ofNat (a + k)) = some (f ((a : Int) + k)) := by
        rw [k_g (by omega) (by omega), harr _ (by omega)]
        congr 2
      have g2 : am_gI E (134 + i) 600 (Int32.ofNat (a + k + p)) = some (f ((a : Int) + p + k)) := by
        rw [k_g (by omega) (by omega), harr _ (by omega)]
        congr 2
        omega
      rw [f_X12_pitch_L50, ← Int32.ofNat_add, ← Int32.ofNat_add, if_neg (by rw [j_le, j_nat (by omega), j_nat (by omega)]; omega), k_a hi (by omega), Option.bind_some, g1, Option.bind_some, Option.bind_some, g2, Option.bind_some, k_amount, Option.bind_some, e3, j_suc]
      exact ih) (by
      intro fu
      rw [f_X12_pitch_L50, ← Int32.ofNat_add, ← Int32.ofNat_add, if_pos (by rw [j_le, j_nat (by omega), j_nat (by omega)]; omega)]) am_fu 0 (by omega) (by unfold am_fu; omega)
  exact key
theorem k_pitchL {D E : am_D} {i N a n : Nat} {f : Int → Int32} (hs : k_snd D E i N f) (hi : i < 5) (han : a + n ≤ N) : ∃ v, f_X10_pitchOf (30 + 2 * i) (Int32.ofNat a) (Int32.ofNat n) D = some v ∧ f_X12_pitch_L29 (Int32.ofNat i) (Int32.ofNat a) (Int32.ofNat n) E am_fu (-1) 0 1 4 = some v := by
  obtain ⟨s1, s2, s3, s4, s5, s6⟩ := hs
  have e60 : (60 : Int32).toInt = 60 := rfl
  have em1 : (-1 : Int32).toInt = -1 := rfl
  have e0 : (0 : Int32).toInt = 0 := rfl
  have e1 : (1 : Int32).toInt = 1 := rfl
  have key := k_ind (P := fun fu k => 4 ≤ k → ∀ (x : Int32) (y z : Int64), ∃ w, f_X10_pitchOf_L12 (30 + 2 * i) (Int32.ofNat a) (Int32.ofNat n) D fu x y z (Int32.ofNat k) = some w ∧ f_X12_pitch_L29 (Int32.ofNat i) (Int32.ofNat a) (Int32.ofNat n) E fu x y z (Int32.ofNat k) = some w) 61
    (by
      intro fu k hk ih hk4 x y z
      have c1 : ¬ (60 : Int32) < Int32.ofNat k := by rw [j_lt, e60, j_nat (by omega)]; omega
      have t2 : (2 : Int32) * Int32.ofNat k = Int32.ofNat (2 * k) := (Int32.ofNat_mul 2 _).symm
      rw [f_X10_pitchOf_L12, f_X12_pitch_L29, if_neg c1, if_neg c1, t2]
      by_cases c2 : n < 2 * k
      · have c3 : Int32.ofNat n < Int32.ofNat (2 * k) := by rw [j_lt, j_nat (by omega), j_nat (by omega)]; omega
        rw [if_pos c3, if_pos c3]
        exact ⟨x, rfl, rfl⟩
      · have c3 : ¬ Int32.ofNat n < Int32.ofNat (2 * k) := by rw [j_lt, j_nat (by omega), j_nat (by omega)]; omega
        have es : Int32.ofNat n - Int32.ofNat k = Int32.ofNat (n - k) := by rw [j_eq, k_S, j_nat (by omega), j_nat (by omega), j_nat (by omega)]; omega
        have un := j_row_unlike s3 s3 (Int32.ofNat a) (Int32.ofNat (a + k)) (n - k) (by omega) (by rw [j_nat (by omega)]; omega) (by rw [j_nat (by omega)]; omega) (by rw [j_nat (by omega)]; omega) (by rw [j_nat (by omega)]; omega)
        rw [j_nat (by omega), j_nat (by omega)] at un
        have ek : ((a + k : Nat) : Int) = (a : Int) + k := by omega
        rw [ek] at un
        have pin := k_pitchIn (p := k) x y z hi s5 s6 s2 (by omega) (by omega) han
        rw [if_neg c3, if_neg c3, ← Int32.ofNat_add, es, un, pin, Option.bind_some, Option.bind_some, j_suc]
        by_cases cx : x = -1
        · rw [if_pos cx, if_pos cx, Option.bind_some, Option.bind_some]
          exact ih (by omega) _ _ _
        · rw [if_neg cx, if_neg cx]
          unfold lg_cmp
          generalize Int32.toInt64 (j_unl f f a ((a : Int) + k) (n - k)) * z = u
          generalize y * Int32.toInt64 (Int32.ofNat (n - k)) = w
          by_cases g1 : u > w
          · rw [if_pos g1, if_pos (by rw [j_le, e0, e1]; omega), if_neg (by rw [j_lt, e0, e1]; omega), Option.bind_some, Option.bind_some]
            exact ih (by omega) _ _ _
          · rw [if_neg g1]
            by_cases g2 : u = w
            · rw [if_pos g2, if_pos (Int32.le_refl _), if_neg (by rw [j_lt]; omega), Option.bind_some, Option.bind_some]
              exact ih (by omega) _ _ _
            · rw [if_neg g2, if_neg (by rw [j_le, e0, em1]; omega), if_pos (by rw [j_lt, e0, em1]; omega), Option.bind_some, Option.bind_some]
              exact ih (by omega) _ _ _) (by
      intro fu hk4 x y z
      have c1 : (60 : Int32) < Int32.ofNat 61 := by decide
      rw [f_X10_pitchOf_L12, f_X12_pitch_L29, if_pos c1, if_pos c1]
      exact ⟨x, rfl, rfl⟩) am_fu 4 (by omega) (by unfold am_fu; omega) (Nat.le_refl _) (-1) 0 1
  obtain ⟨v, k1, k2⟩ := key
  have k1 : f_X10_pitchOf_L12 (30 + 2 * i) (Int32.ofNat a) (Int32.ofNat n) D am_fu (-1) 0 1 (4 : Int32) = some v := k1
  refine ⟨v, ?_, k2⟩
  unfold f_X10_pitchOf
  rw [k1, Option.bind_some]
theorem k_holdsN {a b : Int32} {n : Nat} (c : 0 ≤ a.toInt ∧ 0 ≤ b.toInt ∧ a.toInt + b.toInt ≤ n) : ∃ a' b' : Nat, a = Int32.ofNat a' ∧ b = Int32.ofNat b' ∧ a' + b' ≤ n := ⟨a.toInt.toNat, b.toInt.toNat, j_of c.1, j_of c.2.1, (by omega)⟩
theorem op_pitch {D E : am_D} (h : k_Q D E) (p a b : Int32) : k_opE D E (k_lf D (f_X11_pitch p a b D)) (f_X12_pitch p a b E) ["java/util/NoSuchElementException", "java/lang/IllegalArgumentException"] := by
  obtain ⟨E0, hE0, t0, f0, q0⟩ := k_start h
  have q0' := q0
  obtain ⟨ns, nm, nw, np, nh, ni, h1, h2, h3, h4, h5, h6, h7, h8, h9⟩ := q0'

  have hns := h1.1
  unfold f_X12_pitch
  rw [Option.bind_some, ← hE0]
  by_cases c : 0 ≤ p.toInt ∧ p.toInt < ns
  · obtain ⟨i, rfl, hi⟩ := k_ix c
    obtain ⟨n, g, bs⟩ := h1.2.2.2 i hi
    rw [k_badRow a b t0 h1.2.2.1 hns bs hi, Option.bind_some]
    by_cases cc : 0 ≤ a.toInt ∧ 0 ≤ b.toInt ∧ a.toInt + b.toInt ≤ n
    · have cls : f_X11_pitch (Int32.ofNat i) a b D = (f_X10_pitchOf (30 + 2 * i) a b D).bind fun x8 => some (.inr x8) := by
        unfold f_X11_pitch
        rw [k_soT h1.2.1 h1.1 hi, k_bR, k_row_holds bs.2.2.1, Option.bind_some, if_pos cc]
        rfl
      rw [if_pos cc, if_pos rfl, cls]
      dsimp only
      obtain ⟨a', b', rfl, rfl, hab⟩ := k_holdsN cc
      obtain ⟨v, v1, v2⟩ := k_pitchL bs (by omega) hab
      rw [v1, v2, Option.bind_some, Option.bind_some]
      exact k_valE v q0 t0 f0 (k_fc_refl D) rfl rfl
    · rw [if_neg cc, if_neg k_10]
      refine k_refE 0 1 _ q0 f0 (k_fc_refl D) rfl ?_ rfl
      unfold f_X11_pitch
      rw [k_soT h1.2.1 h1.1 hi, k_bR, k_row_holds bs.2.2.1, Option.bind_some, if_neg cc]
      rfl
  · rw [k_badRowF p a b t0 h1.2.2.1 hns c, Option.bind_some, if_neg k_10]
    refine k_refE 0 0 _ q0 f0 (k_fc_refl D) rfl ?_ rfl
    unfold f_X11_pitch
    rw [k_soF h1.2.1 h1.1 c, k_bL]
    rfl
/-- what the tones may change -/
theorem k_Q_t {D E D2 E2 : am_D} (h : k_Q D E) (hD : ∀ y, y ≠ 114 → D2.1 y = D.1 y) (hE : E2.1 = E.1) : k_Q D2 E2 := k_Q_sc h (fun y h1 h2 => hD y (by omega)) ⟨fun y hy => by rw [hE], fun j hj => by rw [hE], fun y _ => ⟨by rw [hE], by rw [hE]⟩, fun y _ => by rw [hE], fun q _ hq k y hk _ => by rw [hE]⟩
theorem op_turned {D E : am_D} (h : k_Q D E) (p q a b w : Int32) : k_opE D E (f_X11_turned p q a b w D) (f_X12_turned p q a b w E) ["java/util/NoSuchElementException", "java/lang/IllegalArgumentException"] := by
  obtain ⟨E0, hE0, t0, f0, q0⟩ := k_start h
  have q0' := q0
  obtain ⟨ns, nm, nw, np, nh, ni, h1, h2, h3, h4, h5, h6, h7, h8, h9⟩ := q0'

  have hns := h1.1
  have e0 : (0 : Int32).toInt = 0 := rfl
  have e1 : (1 : Int32).toInt = 1 := rfl
  have e2 : (2 : Int32).toInt = 2 := rfl
  have e3 : (3 : Int32).toInt = 3 := rfl
  have e4 : (4 : Int32).toInt = 4 := rfl
  have e60 : (60 : Int32).toInt = 60 := rfl
  unfold f_X12_turned
  rw [Option.bind_some, ← hE0]
  by_cases c : 0 ≤ p.toInt ∧ p.toInt < ns
  · obtain ⟨i, rfl, hi⟩ := k_ix c
    obtain ⟨n, g, bs⟩ := h1.2.2.2 i hi
    rw [k_badRow a b t0 h1.2.2.1 hns bs hi, Option.bind_some]
    have hchk : ((if (if 0 ≤ a.toInt ∧ 0 ≤ b.toInt ∧ a.toInt + b.toInt ≤ n then (1 : Int32) else 0) = 0 then some ((0 : Int32)) else (f_X11_isPitch q).bind fun x8 => if x8 = 0 then some ((0 : Int32)) else (f_X11_within w (0 : Int32) (3 : Int32)).bind fun x11 => if x11 = 0 then some ((0 : Int32)) else some ((1 : Int32)))) = some (if (0 ≤ a.toInt ∧ 0 ≤ b.toInt ∧ a.toInt + b.toInt ≤ n) ∧ (4 ≤ q.toInt ∧ q.toInt ≤ 60) ∧ (0 ≤ w.toInt ∧ w.toInt ≤ 3) then 1 else 0) := by
      by_cases c1 : 0 ≤ a.toInt ∧ 0 ≤ b.toInt ∧ a.toInt + b.toInt ≤ n
      · unfold f_X11_isPitch
        rw [if_pos c1, if_neg k_10, k_cwithin, e4, e60, Option.bind_some, Option.bind_some]
        by_cases c2 : 4 ≤ q.toInt ∧ q.toInt ≤ 60
        · rw [if_pos c2, if_neg k_10, k_cwithin, e0, e3, Option.bind_some]
          by_cases c3 : 0 ≤ w.toInt ∧ w.toInt ≤ 3
          · rw [if_pos c3, if_neg k_10, if_pos ⟨c1, c2, c3⟩]
          · rw [if_neg c3, if_pos rfl, if_neg (fun z => c3 z.2.2)]
        · rw [if_neg c2, if_pos rfl, if_neg (fun z => c2 z.2.1)]
      · rw [if_neg c1, if_pos rfl, if_neg (fun z => c1 z.1)]
    have cls0 : f_X11_turned (Int32.ofNat i) q a b w D = am_btD (f_X11_need (if (0 ≤ a.toInt ∧ 0 ≤ b.toInt ∧ a.toInt + b.toInt ≤ n) ∧ (4 ≤ q.toInt ∧ q.toInt ≤ 60) ∧ (0 ≤ w.toInt ∧ w.toInt ≤ 3) then 1 else 0)) D fun x15 => (f_X10_turn (30 + 2 * i) q a b D).bind fun x17 => if w.toInt < 0 ∨ 2 < w.toInt then (f_X10_eighth x17).bind fun x19 => some (.inr ((Int32.toInt64 x19), x17)) else if w = (0 : Int32) then some (.inr ((Int32.toInt64 (x17.1 114 1)), x17)) else if w = (1 : Int32) then some (.inr ((Int32.toInt64 (x17.1 114 2)), x17)) else if w = (2 : Int32) then (f_X10_strength x17).bind fun x21 => some (.inr (x21, x17)) else none := by
      unfold f_X11_turned
      rw [k_soT h1.2.1 h1.1 hi, k_btR, k_row_holds bs.2.2.1, Option.bind_some, hchk, Option.bind_some]
    rw [cls0]
    by_cases cr : 0 ≤ a.toInt ∧ 0 ≤ b.toInt ∧ a.toInt + b.toInt ≤ n
    · rw [if_pos cr, if_pos rfl]
      dsimp only
      have chk2 : ((f_X12_in q (4 : Int32) (60 : Int32)).bind fun x7 => (if x7 = 0 then some ((1 : Int32)) else (f_X12_in w (0 : Int32) (3 : Int32)).bind fun x11 => if x11 = 0 then some ((1 : Int32)) else some ((0 : Int32)))) = some (if (4 ≤ q.toInt ∧ q.toInt ≤ 60) ∧ (0 ≤ w.toInt ∧ w.toInt ≤ 3) then 0 else 1) := by
        rw [k_in, e4, e60, Option.bind_some]
        by_cases c2 : 4 ≤ q.toInt ∧ q.toInt ≤ 60
        · rw [if_pos c2, if_neg k_10, k_in, e0, e3, Option.bind_some]
          by_cases c3 : 0 ≤ w.toInt ∧ w.toInt ≤ 3
          · rw [if_pos c3, if_neg k_10, if_pos ⟨c2, c3⟩]
          · rw [if_neg c3, if_pos rfl, if_neg (fun z => c3 z.2)]
        · rw [if_neg c2, if_pos rfl, if_neg (fun z => c2 z.1)]
      rw [← Option.bind_assoc, chk2, Option.bind_some]
      by_cases cq : (4 ≤ q.toInt ∧ q.toInt ≤ 60) ∧ (0 ≤ w.toInt ∧ w.toInt ≤ 3)
      · rw [if_pos cq, if_pos ⟨cr, cq⟩, k_needT, k_b0 t0, Option.bind_some, if_pos rfl]
        dsimp only
        obtain ⟨a', b', rfl, rfl, hab⟩ := k_holdsN cr
        obtain ⟨q', rfl, hq1, hq2⟩ := k_natOf (lo := 4) (hi := 60) cq.1
        have hn6 := bs.2.1
        obtain ⟨D2, d1, d2, d3, d4, d5⟩ := k_turnC (D := D) (p := q') (a := a') (n := b') bs.2.2.1 hq1 hq2 (by omega) (by omega) (by omega)
        have q4 : Int32.ofNat q' / 4 = Int32.ofNat (q' / 4) := k_dvN (y := 4) (by omega) (by omega) (by omega)
        have r0 : f_X12_turnedBy (Int32.ofNat i) (Int32.ofNat q') (Int32.ofNat a') (Int32.ofNat b') (0 : Int32) E0 = some (k_tb g a' q' 0 b') := k_turnR (l := 0) (by omega) bs.2.2.2.2.1 hn6 hq1 hq2 hab (by omega)
        have r1 := k_turnR (l := q' / 4) (E := E0) (i := i) (by omega) bs.2.2.2.2.1 hn6 hq1 hq2 hab (by omega)
        rw [d1, Option.bind_some, r0, Option.bind_some, q4, r1, Option.bind_some]
        obtain ⟨X, hX⟩ : ∃ X, X = k_tb g a' q' 0 b' := ⟨_, rfl⟩
        obtain ⟨Y, hY⟩ : ∃ Y, Y = k_tb g a' q' (q' / 4) b' := ⟨_, rfl⟩
        rw [← hX] at d2 r0
        rw [← hY] at d3 r1
        rw [← hX, ← hY]
        have fin : ∀ v : Int64, k_opE D E (some (.inr (v, D2))) (some (v, E0)) ["java/util/NoSuchElementException", "java/lang/IllegalArgumentException"] := fun v => k_valE v (k_Q_t q0 d4 rfl) t0 f0 (fun y hy => ⟨d4 y (by omega), by rw [d5]⟩) rfl rfl
        by_cases w0 : w = 0
        · rw [if_neg (by rw [w0]; decide), if_pos w0, if_pos w0, d2]
          exact fin _
        rw [if_neg w0, if_neg w0]
        by_cases w1 : w = 1
        · rw [if_neg (by rw [w1]; decide), if_pos w1, if_pos w1, d3]
          exact fin _
        rw [if_neg w1, if_neg w1]
        by_cases w2 : w = 2
        · have hs : f_X12_strengthOf (Int32.ofNat i) (Int32.ofNat q') (Int32.ofNat a') (Int32.ofNat b') E0 = some (k_str X Y) := by
            unfold f_X12_strengthOf
            rw [r0, Option.bind_some, q4, r1, Option.bind_some]
            rfl
          have hc : f_X10_strength D2 = some (k_str X Y) := by
            unfold f_X10_strength
            rw [d2, d3]
            rfl
          rw [if_neg (by rw [w2]; decide), if_pos w2, if_pos w2, hs, hc, Option.bind_some, Option.bind_some]
          exact fin _
        · have w3 : 2 < w.toInt := by
            rw [j_eq] at w0 w1 w2
            omega
          rw [if_neg w2, if_pos (Or.inr w3)]
          have hc : f_X10_eighth D2 = some ((if 0 ≤ Y then 0 else 4) + (if 0 ≤ X then 0 else 2) + (if am_ab Y ≤ am_ab X then 0 else 1)) := by
            unfold f_X10_eighth
            rw [d2, d3]
            by_cases x1 : am_ab Y ≤ am_ab X
            · rw [if_pos x1, if_pos x1, Option.bind_some]
              by_cases x2 : 0 ≤ Y
              · rw [if_pos x2, if_pos x2, Option.bind_some]
                by_cases x3 : 0 ≤ X
                · rw [if_pos x3, if_pos x3]
                · rw [if_neg x3, if_neg x3]
              · rw [if_neg x2, if_neg x2, Option.bind_some]
                by_cases x3 : 0 ≤ X
                · rw [if_pos x3, if_pos x3]
                · rw [if_neg x3, if_neg x3]
            · rw [if_neg x1, if_neg x1, Option.bind_some]
              by_cases x2 : 0 ≤ Y
              · rw [if_pos x2, if_pos x2, Option.bind_some]
                by_cases x3 : 0 ≤ X
                · rw [if_pos x3, if_pos x3]
                · rw [if_neg x3, if_neg x3]
              · rw [if_neg x2, if_neg x2, Option.bind_some]
                by_cases x3 : 0 ≤ X
                · rw [if_pos x3, if_pos x3]
                · rw [if_neg x3, if_neg x3]
          rw [hc, Option.bind_some]
          have hr : ((if 0 ≤ Y then some ((0 : Int32)) else some ((4 : Int32))).bind fun w26 => (if 0 ≤ X then some ((0 : Int32)) else some ((2 : Int32))).bind fun w29 => (f_X12_amount Y).bind fun x31 => (f_X12_amount X).bind fun x33 => (if x31 ≤ x33 then some ((0 : Int32)) else some ((1 : Int32))).bind fun w36 => some ((Int32.toInt64 ((w26 + w29) + w36)), E0)) = some (Int32.toInt64 ((if 0 ≤ Y then 0 else 4) + (if 0 ≤ X then 0 else 2) + (if am_ab Y ≤ am_ab X then 0 else 1)), E0) := by
            rw [k_amount, k_amount]
            by_cases x2 : 0 ≤ Y
            · rw [if_pos x2, if_pos x2, Option.bind_some]
              by_cases x3 : 0 ≤ X
              · rw [if_pos x3, if_pos x3, Option.bind_some, Option.bind_some, Option.bind_some]
                by_cases x1 : am_ab Y ≤ am_ab X
                · rw [if_pos x1, if_pos x1, Option.bind_some]
                · rw [if_neg x1, if_neg x1, Option.bind_some]
              · rw [if_neg x3, if_neg x3, Option.bind_some, Option.bind_some, Option.bind_some]
                by_cases x1 : am_ab Y ≤ am_ab X
                · rw [if_pos x1, if_pos x1, Option.bind_some]
                · rw [if_neg x1, if_neg x1, Option.bind_some]
            · rw [if_neg x2, if_neg x2, Option.bind_some]
              by_cases x3 : 0 ≤ X
              · rw [if_pos x3, if_pos x3, Option.bind_some, Option.bind_some, Option.bind_some]
                by_cases x1 : am_ab Y ≤ am_ab X
                · rw [if_pos x1, if_pos x1, Option.bind_some]
                · rw [if_neg x1, if_neg x1, Option.bind_some]
              · rw [if_neg x3, if_neg x3, Option.bind_some, Option.bind_some, Option.bind_some]
                by_cases x1 : am_ab Y ≤ am_ab X
                · rw [if_pos x1, if_pos x1, Option.bind_some]
                · rw [if_neg x1, if_neg x1, Option.bind_some]
          rw [if_neg w2, hr]
          exact fin _
      · rw [if_neg cq, if_neg (fun z => cq z.2), k_needF, k_b1 t0 2 (by decide), Option.bind_some, if_neg k_10]
        exact k_refE 0 1 _ q0 f0 (k_fc_refl D) rfl rfl rfl
    · rw [if_neg cr, if_neg (fun z => cr z.1), if_neg k_10, k_needF]
      exact k_refE 0 1 _ q0 f0 (k_fc_refl D) rfl rfl rfl
  · rw [k_badRowF p a b t0 h1.2.2.1 hns c, Option.bind_some, if_neg k_10]
    refine k_refE 0 0 _ q0 f0 (k_fc_refl D) rfl ?_ rfl
    unfold f_X11_turned
    rw [k_soF h1.2.1 h1.1 c, k_btL]
theorem op_peak {D E : am_D} (h : k_Q D E) (p a b k : Int32) : k_opE D E (f_X11_peak p a b k D) (f_X12_peak p a b k E) ["java/util/NoSuchElementException", "java/lang/IllegalArgumentException"] := by
  obtain ⟨E0, hE0, t0, f0, q0⟩ := k_start h
  have q0' := q0
  obtain ⟨ns, nm, nw, np, nh, ni, h1, h2, h3, h4, h5, h6, h7, h8, h9⟩ := q0'

  have hns := h1.1
  unfold f_X12_peak
  rw [Option.bind_some, ← hE0]
  by_cases c : 0 ≤ p.toInt ∧ p.toInt < ns
  · obtain ⟨i, rfl, hi⟩ := k_ix c
    obtain ⟨n, g, bs⟩ := h1.2.2.2 i hi
    rw [k_badRow a b t0 h1.2.2.1 hns bs hi, Option.bind_some]
    by_cases cc : 0 ≤ a.toInt ∧ 0 ≤ b.toInt ∧ a.toInt + b.toInt ≤ n
    · have cls : f_X11_peak (Int32.ofNat i) a b k D = (f_X10_turnAll (30 + 2 * i) a b D).bind fun x8 => (f_X10_rankedPeak k x8).bind fun x10 => some (.inr (x10, x8)) := by
        unfold f_X11_peak
        rw [k_soT h1.2.1 h1.1 hi, k_btR, k_row_holds bs.2.2.1, Option.bind_some, if_pos cc, k_needT]
      rw [if_pos cc, if_pos rfl, cls]
      dsimp only
      obtain ⟨a', b', rfl, rfl, hab⟩ := k_holdsN cc
      obtain ⟨D2, E2, d1, d2, d3, d4, d5, d6, d7⟩ := k_turnAll bs (by omega) hab
      obtain ⟨v, v1, v2⟩ := k_ranked (D := D2) (E := E2) k d3
      rw [d1, d2, Option.bind_some, Option.bind_some, v1, v2 E2, Option.bind_some]
      exact k_valE v (k_Q_t q0 d4 d6) (by rw [d6]; exact t0) (k_fr_trans f0 (fun y hy => ⟨by rw [d6], d7 y (by omega)⟩)) (fun y hy => ⟨d4 y (by omega), d5 y (by omega)⟩) rfl rfl
    · rw [if_neg cc, if_neg k_10]
      refine k_refE 0 1 _ q0 f0 (k_fc_refl D) rfl ?_ rfl
      unfold f_X11_peak
      rw [k_soT h1.2.1 h1.1 hi, k_btR, k_row_holds bs.2.2.1, Option.bind_some, if_neg cc, k_needF]
  · rw [k_badRowF p a b t0 h1.2.2.1 hns c, Option.bind_some, if_neg k_10]
    refine k_refE 0 0 _ q0 f0 (k_fc_refl D) rfl ?_ rfl
    unfold f_X11_peak
    rw [k_soF h1.2.1 h1.1 c, k_btL]
theorem op_lock {D E : am_D} (h : k_Q D E) (p q a b : Int32) : k_opE D E (f_X11_lock p q a b D) (f_X12_lock p q a b E) ["java/util/NoSuchElementException", "java/lang/IllegalArgumentException"] := by
  obtain ⟨E0, hE0, t0, f0, q0⟩ := k_start h
  have q0' := q0
  obtain ⟨ns, nm, nw, np, nh, ni, h1, h2, h3, h4, h5, h6, h7, h8, h9⟩ := q0'

  have hns := h1.1
  have e4 : (4 : Int32).toInt = 4 := rfl
  have e60 : (60 : Int32).toInt = 60 := rfl
  unfold f_X12_lock
  rw [Option.bind_some, ← hE0]
  by_cases c : 0 ≤ p.toInt ∧ p.toInt < ns
  · obtain ⟨i, rfl, hi⟩ := k_ix c
    obtain ⟨n, g, bs⟩ := h1.2.2.2 i hi
    rw [k_badRow a b t0 h1.2.2.1 hns bs hi, Option.bind_some]
    by_cases cc : 0 ≤ a.toInt ∧ 0 ≤ b.toInt ∧ a.toInt + b.toInt ≤ n
    · rw [if_pos cc, if_pos rfl]
      dsimp only
      rw [k_in, e4, e60, Option.bind_some]
      have cls : f_X11_lock (Int32.ofNat i) q a b D = am_btD (f_X11_need (if 4 ≤ q.toInt ∧ q.toInt ≤ 60 then 1 else 0)) D fun x12 => (f_X10_turnAll (30 + 2 * i) a b D).bind fun x14 => (f_X10_nearestPeak q x14).bind fun x16 => some (.inr (x16, x14)) := by
        unfold f_X11_lock f_X11_isPitch
        rw [k_soT h1.2.1 h1.1 hi, k_btR, k_row_holds bs.2.2.1, Option.bind_some, if_pos cc, if_neg k_10, k_cwithin, e4, e60, Option.bind_some, Option.bind_some]
        by_cases cq : 4 ≤ q.toInt ∧ q.toInt ≤ 60
        · rw [if_pos cq, if_neg k_10, Option.bind_some]
        · rw [if_neg cq, if_pos rfl, Option.bind_some]
      rw [cls]
      by_cases cq : 4 ≤ q.toInt ∧ q.toInt ≤ 60
      · rw [if_pos cq, k_nT E0 2 t0, if_pos rfl, k_needT]
        dsimp only
        obtain ⟨a', b', rfl, rfl, hab⟩ := k_holdsN cc
        obtain ⟨D2, E2, d1, d2, d3, d4, d5, d6, d7⟩ := k_turnAll bs (by omega) hab
        obtain ⟨v, v1, v2⟩ := k_nearest (D := D2) (E := E2) q d3
        rw [d1, d2, Option.bind_some, Option.bind_some, v1, v2, Option.bind_some, Option.bind_some]
        exact k_valE v (k_Q_t q0 d4 d6) (by rw [d6]; exact t0) (k_fr_trans f0 (fun y hy => ⟨by rw [d6], d7 y (by omega)⟩)) (fun y hy => ⟨d4 y (by omega), d5 y (by omega)⟩) rfl rfl
      · rw [if_neg cq, k_nF E0 2 (by decide) t0, if_neg k_10, k_needF]
        exact k_refE 0 1 _ q0 f0 (k_fc_refl D) rfl rfl rfl
    · rw [if_neg cc, if_neg k_10]
      refine k_refE 0 1 _ q0 f0 (k_fc_refl D) rfl ?_ rfl
      unfold f_X11_lock
      rw [k_soT h1.2.1 h1.1 hi, k_btR, k_row_holds bs.2.2.1, Option.bind_some, if_neg cc, if_pos rfl, Option.bind_some, k_needF]
  · rw [k_badRowF p a b t0 h1.2.2.1 hns c, Option.bind_some, if_neg k_10]
    refine k_refE 0 0 _ q0 f0 (k_fc_refl D) rfl ?_ rfl
    unfold f_X11_lock
    rw [k_soF h1.2.1 h1.1 c, k_btL]
