/-! meant, wobble -/
theorem k_per_bd {D E : am_D} {n c : Nat} {pos : Nat → Nat} (h : k_cr D E n c pos) (hn : n ≤ 600) : -1 ≤ (k_per c pos).toInt ∧ (k_per c pos).toInt ≤ 60000 ∧ (2 ≤ c → 0 ≤ (k_per c pos).toInt) ∧ (¬ 2 ≤ c → k_per c pos = -1) := by
  have hc := h.1
  unfold k_per
  by_cases c2 : 2 ≤ c
  · have p1 := (h.2.2 (c - 1) (by omega)).2.2.2.1
    have p0 := (h.2.2 (c - 1) (by omega)).2.2.2.2 0 (by omega)
    have e100 : (100 : Int32).toInt = 100 := rfl
    have e1 : (Int32.ofNat (pos (c - 1)) - Int32.ofNat (pos 0)).toInt = (pos (c - 1) : Int) - pos 0 := by rw [k_S, j_nat (by omega), j_nat (by omega)]; omega
    have e2 : (100 * (Int32.ofNat (pos (c - 1)) - Int32.ofNat (pos 0))).toInt = 100 * ((pos (c - 1) : Int) - pos 0) := by rw [k_M, e1, e100]; omega
    have e3 := k_D (100 * (Int32.ofNat (pos (c - 1)) - Int32.ofNat (pos 0))) (Int32.ofNat (c - 1)) (by rw [j_nat (by omega)]; omega)
    have e4 := (k_q_le (100 * ((pos (c - 1) : Int) - pos 0)) (Int32.ofNat (c - 1)).toInt (by rw [j_nat (by omega)]; omega)).1 (by omega)
    rw [e2] at e3
    rw [if_pos c2, e3]
    exact ⟨(by omega), (by omega), fun _ => (by omega), fun z => absurd c2 z⟩
  · have e : (-1 : Int32).toInt = -1 := rfl
    rw [if_neg c2, e]
    exact ⟨(by omega), (by omega), fun z => absurd z c2, fun _ => rfl⟩
/-- how far a hum is from a period -/
def k_far (D : am_D) (own : Int32) (j : Nat) : Int32 := am_ab (D.1 21 j - own)
theorem k_humFar (D : am_D) (own : Int32) {j : Nat} (hj : j < 6) : f_X1_humFar (Int32.ofNat j) own D = some (k_far D own j) := by
  have e0 : (0 : Int32).toInt = 0 := rfl
  have e6 : (6 : Int32).toInt = 6 := rfl
  unfold f_X1_humFar
  rw [if_neg (by rw [j_lt, j_nat (by omega), e0]; omega), if_neg (by rw [j_le, j_nat (by omega), e6]; omega), k_g hj (by omega), Option.bind_some]
  rfl
theorem k_neg1 {j : Nat} (hj : j < 100000) : ¬ Int32.ofNat j = -1 := by
  have e : (-1 : Int32).toInt = -1 := rfl
  rw [j_eq, j_nat (by omega), e]
  omega
/-- the nearest hum, but for one -/
theorem k_near1 {D E : am_D} {nh : Nat} (own q2 q5 : Int32) (h6 : k_Rh D E nh) : ∃ v, f_X1_nearestHum own (-1) D = some v ∧ f_X12_meant_L72 q2 own q5 E am_fu (-1) 0 = some v ∧ ((v = -1 ∧ nh = 0) ∨ ∃ b, b < nh ∧ v = Int32.ofNat b) := by
  obtain ⟨h1, h2, h3, h4⟩ := h6
  have e6 : (6 : Int32).toInt = 6 := rfl
  have key := k_ind (P := fun fu k => ∀ v, ((v = -1 ∧ k = 0) ∨ ∃ b, b < nh ∧ v = Int32.ofNat b) → ∃ w, f_X1_nearestHum_L5 own (-1) D fu v (Int32.ofNat k) = some w ∧ f_X12_meant_L72 q2 own q5 E fu v (Int32.ofNat k) = some w ∧ ((w = -1 ∧ nh = 0) ∨ ∃ b, b < nh ∧ w = Int32.ofNat b)) nh
    (by
      intro fu k hk ih v hv
      have c1 : ¬ Int32.ofNat nh ≤ Int32.ofNat k := by rw [j_le, j_nat (by omega), j_nat (by omega)]; omega
      have c2 : ¬ (6 : Int32) ≤ Int32.ofNat k := by rw [j_le, j_nat (by omega), e6]; omega
      have ref1 : ∀ j, j < nh → (am_gI E 203 6 (Int32.ofNat j)).bind (fun x => f_X12_amount (x - own)) = some (k_far D own j) := by
        intro j hj
        rw [k_g (by omega) (by omega), ← (h4 j hj).1, Option.bind_some, k_amount]
        rfl
      rcases hv with ⟨rfl, _⟩ | ⟨b, hb, rfl⟩
      · have hc : f_X1_nearestHum_L5 own (-1) D (fu + 1) (-1) (Int32.ofNat k) = f_X1_nearestHum_L5 own (-1) D fu (Int32.ofNat k) (Int32.ofNat (k + 1)) := by
          rw [f_X1_nearestHum_L5, h2, if_neg c1, if_neg c2, if_pos rfl, Option.bind_some, if_neg (k_neg1 (by omega)), if_neg k_10, Option.bind_some, j_suc]
        have hr : f_X12_meant_L72 q2 own q5 E (fu + 1) (-1) (Int32.ofNat k) = f_X12_meant_L72 q2 own q5 E fu (Int32.ofNat k) (Int32.ofNat (k + 1)) := by
          rw [f_X12_meant_L72, h3, if_neg c1, if_pos rfl, Option.bind_some, j_suc]
        rw [hc, hr]
        exact ih _ (Or.inr ⟨k, hk, rfl⟩)
      · have hc : f_X1_nearestHum_L5 own (-1) D (fu + 1) (Int32.ofNat b) (Int32.ofNat k) = f_X1_nearestHum_L5 own (-1) D fu (if k_far D own b ≤ k_far D own k then Int32.ofNat b else Int32.ofNat k) (Int32.ofNat (k + 1)) := by
          rw [f_X1_nearestHum_L5, h2, if_neg c1, if_neg c2, if_neg (k_neg1 (by omega)), k_humFar D own (by omega), Option.bind_some, k_humFar D own (by omega), Option.bind_some]
          by_cases cc : k_far D own b ≤ k_far D own k
          · rw [if_pos cc, if_pos cc, Option.bind_some, if_neg (k_neg1 (by omega)), if_pos rfl, Option.bind_some, j_suc]
          · rw [if_neg cc, if_neg cc, Option.bind_some, if_neg (k_neg1 (by omega)), if_neg k_10, Option.bind_some, j_suc]
        have hr : f_X12_meant_L72 q2 own q5 E (fu + 1) (Int32.ofNat b) (Int32.ofNat k) = f_X12_meant_L72 q2 own q5 E fu (if k_far D own b ≤ k_far D own k then Int32.ofNat b else Int32.ofNat k) (Int32.ofNat (k + 1)) := by
          rw [f_X12_meant_L72, h3, if_neg c1, if_neg (k_neg1 (by omega)), k_g (by omega) (by omega), ← (h4 k hk).1, Option.bind_some, k_amount, Option.bind_some, k_g (by omega) (by omega), ← (h4 b hb).1, Option.bind_some, k_amount, Option.bind_some]
          show ((if k_far D own b ≤ k_far D own k then _ else _) : Option Int32).bind _ = _
          by_cases cc : k_far D own b ≤ k_far D own k
          · rw [if_pos cc, if_pos cc, Option.bind_some, j_suc]
          · rw [if_neg cc, if_neg cc, Option.bind_some, j_suc]
        rw [hc, hr]
        refine ih _ (Or.inr ?_)
        by_cases cc : k_far D own b ≤ k_far D own k
        · rw [if_pos cc]; exact ⟨b, hb, rfl⟩
        · rw [if_neg cc]; exact ⟨k, hk, rfl⟩) (by
      intro fu v hv
      rw [f_X1_nearestHum_L5, f_X12_meant_L72, h2, h3, if_pos (Int32.le_refl _), if_pos (Int32.le_refl _)]
      exact ⟨v, rfl, rfl, hv⟩) am_fu 0 (by omega) (by unfold am_fu; omega) (-1) (Or.inl ⟨rfl, rfl⟩)
  obtain ⟨v, k1, k2, k3⟩ := key
  have k1 : f_X1_nearestHum_L5 own (-1) D am_fu (-1) (0 : Int32) = some v := k1
  refine ⟨v, ?_, k2, k3⟩
  unfold f_X1_nearestHum
  rw [k1, Option.bind_some]
theorem k_near2 {D E : am_D} {nh b0 : Nat} (own : Int32) (h6 : k_Rh D E nh) (hb0 : b0 < nh) (ho : -1 ≤ own.toInt) (ho2 : own.toInt ≤ 60000) : ∃ v u, f_X1_nearestHum own (Int32.ofNat b0) D = some v ∧ f_X12_meant_L134 own (Int32.ofNat b0) E am_fu (-1) 0 = some u ∧ ((v = -1 ∧ u = -1) ∨ ∃ b, b < nh ∧ v = Int32.ofNat b ∧ u = k_far D own b ∧ ¬ u = -1) := by
  obtain ⟨h1, h2, h3, h4⟩ := h6
  have e6 : (6 : Int32).toInt = 6 := rfl
  have hfar : ∀ j, j < nh → ¬ k_far D own j = -1 := by
    intro j hj
    have q := h4 j hj
    have e : (D.1 21 j - own).toInt = (D.1 21 j).toInt - own.toInt := by rw [k_S]; omega
    have q2 := k_ab (D.1 21 j - own) (by omega)
    have em : (-1 : Int32).toInt = -1 := rfl
    unfold k_far
    rw [j_eq, q2, em]
    split <;> omega
  have key := k_ind (P := fun fu k => ∀ v u, ((v = -1 ∧ u = -1) ∨ ∃ b, b < nh ∧ v = Int32.ofNat b ∧ u = k_far D own b) → ∃ v2 u2, f_X1_nearestHum_L5 own (Int32.ofNat b0) D fu v (Int32.ofNat k) = some v2 ∧ f_X12_meant_L134 own (Int32.ofNat b0) E fu u (Int32.ofNat k) = some u2 ∧ ((v2 = -1 ∧ u2 = -1) ∨ ∃ b, b < nh ∧ v2 = Int32.ofNat b ∧ u2 = k_far D own b)) nh
    (by
      intro fu k hk ih v u hv
      have c1 : ¬ Int32.ofNat nh ≤ Int32.ofNat k := by rw [j_le, j_nat (by omega), j_nat (by omega)]; omega
      have c2 : ¬ (6 : Int32) ≤ Int32.ofNat k := by rw [j_le, j_nat (by omega), e6]; omega
      by_cases ck : k = b0
      · subst ck
        have hr : f_X12_meant_L134 own (Int32.ofNat k) E (fu + 1) u (Int32.ofNat k) = f_X12_meant_L134 own (Int32.ofNat k) E fu u (Int32.ofNat (k + 1)) := by
          rw [f_X12_meant_L134, h3, if_neg c1, if_pos rfl, Option.bind_some, j_suc]
        have hc : f_X1_nearestHum_L5 own (Int32.ofNat k) D (fu + 1) v (Int32.ofNat k) = f_X1_nearestHum_L5 own (Int32.ofNat k) D fu v (Int32.ofNat (k + 1)) := by
          rw [f_X1_nearestHum_L5, h2, if_neg c1, if_neg c2]
          rcases hv with ⟨rfl, _⟩ | ⟨b, hb, rfl, _⟩
          · rw [if_pos rfl, Option.bind_some, if_pos rfl, Option.bind_some, j_suc]
          · rw [if_neg (k_neg1 (by omega)), k_humFar D own (by omega), Option.bind_some, k_humFar D own (by omega), Option.bind_some]
            by_cases cc : k_far D own b ≤ k_far D own k
            · rw [if_pos cc, Option.bind_some, if_pos rfl, Option.bind_some, j_suc]
            · rw [if_neg cc, Option.bind_some, if_pos rfl, Option.bind_some, j_suc]
        rw [hc, hr]
        exact ih v u hv
      · have cne : ¬ Int32.ofNat k = Int32.ofNat b0 := fun z => ck (k_ofN_inj z (by omega) (by omega))
        rcases hv with ⟨rfl, rfl⟩ | ⟨b, hb, rfl, rfl⟩
        · have hc : f_X1_nearestHum_L5 own (Int32.ofNat b0) D (fu + 1) (-1) (Int32.ofNat k) = f_X1_nearestHum_L5 own (Int32.ofNat b0) D fu (Int32.ofNat k) (Int32.ofNat (k + 1)) := by
            rw [f_X1_nearestHum_L5, h2, if_neg c1, if_neg c2, if_pos rfl, Option.bind_some, if_neg cne, if_neg k_10, Option.bind_some, j_suc]
          have hr : f_X12_meant_L134 own (Int32.ofNat b0) E (fu + 1) (-1) (Int32.ofNat k) = f_X12_meant_L134 own (Int32.ofNat b0) E fu (k_far D own k) (Int32.ofNat (k + 1)) := by
            rw [f_X12_meant_L134, h3, if_neg c1, if_neg cne, if_pos rfl, k_g (by omega) (by omega), ← (h4 k hk).1, Option.bind_some, k_amount, Option.bind_some, Option.bind_some, Option.bind_some, j_suc]
            rfl
          rw [hc, hr]
          exact ih _ _ (Or.inr ⟨k, hk, rfl, rfl⟩)
        · have hc : f_X1_nearestHum_L5 own (Int32.ofNat b0) D (fu + 1) (Int32.ofNat b) (Int32.ofNat k) = f_X1_nearestHum_L5 own (Int32.ofNat b0) D fu (if k_far D own b ≤ k_far D own k then Int32.ofNat b else Int32.ofNat k) (Int32.ofNat (k + 1)) := by
            rw [f_X1_nearestHum_L5, h2, if_neg c1, if_neg c2, if_neg (k_neg1 (by omega)), k_humFar D own (by omega), Option.bind_some, k_humFar D own (by omega), Option.bind_some]
            by_cases cc : k_far D own b ≤ k_far D own k
            · rw [if_pos cc, if_pos cc, Option.bind_some, if_neg cne, if_pos rfl, Option.bind_some, j_suc]
            · rw [if_neg cc, if_neg cc, Option.bind_some, if_neg cne, if_neg k_10, Option.bind_some, j_suc]
          have hr : f_X12_meant_L134 own (Int32.ofNat b0) E (fu + 1) (k_far D own b) (Int32.ofNat k) = f_X12_meant_L134 own (Int32.ofNat b0) E fu (am_mn (k_far D own b) (k_far D own k)) (Int32.ofNat (k + 1)) := by
            rw [f_X12_meant_L134, h3, if_neg c1, if_neg cne, if_neg (hfar b hb), k_g (by omega) (by omega), ← (h4 k hk).1, Option.bind_some, k_amount, Option.bind_some, k_less, Option.bind_some, Option.bind_some, Option.bind_some, j_suc]
            rfl
          rw [hc, hr]
          by_cases cc : k_far D own b ≤ k_far D own k
          · have e : am_mn (k_far D own b) (k_far D own k) = k_far D own b := by
              unfold am_mn
              rw [if_neg (by rw [j_lt]; rw [j_le] at cc; omega)]
            rw [if_pos cc, e]
            exact ih _ _ (Or.inr ⟨b, hb, rfl, rfl⟩)
          · have e : am_mn (k_far D own b) (k_far D own k) = k_far D own k := by
              unfold am_mn
              rw [if_pos (by rw [j_lt]; rw [j_le] at cc; omega)]
            rw [if_neg cc, e]
            exact ih _ _ (Or.inr ⟨k, hk, rfl, rfl⟩)) (by
      intro fu v u hv
      rw [f_X1_nearestHum_L5, f_X12_meant_L134, h2, h3, if_pos (Int32.le_refl _), if_pos (Int32.le_refl _)]
      exact ⟨v, u, rfl, rfl, hv⟩) am_fu 0 (by omega) (by unfold am_fu; omega) (-1) (-1) (Or.inl ⟨rfl, rfl⟩)
  obtain ⟨v, u, k1, k2, k3⟩ := key
  have k1 : f_X1_nearestHum_L5 own (Int32.ofNat b0) D am_fu (-1) (0 : Int32) = some v := k1
  refine ⟨v, u, ?_, k2, ?_⟩
  · unfold f_X1_nearestHum
    rw [k1, Option.bind_some]
  · rcases k3 with ⟨a, b⟩ | ⟨b, b1, b2, b3⟩
    · exact Or.inl ⟨a, b⟩
    · exact Or.inr ⟨b, b1, b2, b3, by rw [b3]; exact hfar b b1⟩
theorem op_meant {D E : am_D} (h : k_Q D E) (p w : Int32) : k_opE D E (f_X11_meant p w D) (f_X12_meant p w E) ["java/util/NoSuchElementException", "java/lang/IllegalArgumentException"] := by
  obtain ⟨E0, hE0, t0, f0, q0⟩ := k_start h
  have q0' := q0
  obtain ⟨ns, nm, nw, np, nh, ni, h1, h2, h3, h4, h5, h6, h7, h8, h9⟩ := q0'

  have hns := h1.1
  have e0 : (0 : Int32).toInt = 0 := rfl
  have e1 : (1 : Int32).toInt = 1 := rfl
  unfold f_X12_meant
  rw [Option.bind_some, ← hE0, k_isS _ h1.2.2.1 h1.1, Option.bind_some]
  by_cases c : 0 ≤ p.toInt ∧ p.toInt < ns
  · obtain ⟨i, rfl, hi⟩ := k_ix c
    obtain ⟨n, g, b1, b2, b3, b4, b5, b6⟩ := h1.2.2.2 i hi
    rw [if_pos c, k_nT E0 1 t0, if_pos rfl]
    dsimp only
    rw [k_in, e0, e1, Option.bind_some]
    by_cases c2 : 0 ≤ w.toInt ∧ w.toInt ≤ 1
    · obtain ⟨D2, E2, cc, pos, d1, d2, d3, d4, d5⟩ := k_cfind b3 b4 b5 (by omega) b2 b1 (by omega)
      obtain ⟨q1, q2, q3, q4⟩ := k_per_bd d3 b2
      have h62 : k_Rh D2 E2 nh := k_Rh_mv h6 (by rw [d4.1 17 (by omega) (by omega)]) (by rw [d5.1 117 (by omega)]) (d4.1 21 (by omega) (by omega)) (d5.1 203 (by omega))
      obtain ⟨v, n1, n2, n3⟩ := k_near1 (k_per cc pos) w (-1) h62
      have cls0 : f_X11_meant (Int32.ofNat i) w D = if k_per cc pos = -1 then some (.inr (-1, D2)) else (f_X1_nearestHum (k_per cc pos) (-1 : Int32) D2).bind fun x13 => if w = 0 then some (.inr (x13, D2)) else if x13 = (-1 : Int32) then some (.inr (x13, D2)) else (f_X1_nearestHum (k_per cc pos) x13 D2).bind fun x17 => if x17 = (-1 : Int32) then some (.inr ((-1 : Int32), D2)) else (f_X1_humFar x17 (k_per cc pos) D2).bind fun x20 => (f_X1_humFar x13 (k_per cc pos) D2).bind fun x22 => some (.inr ((x20 - x22), D2)) := by
        unfold f_X11_meant
        rw [k_soT h1.2.1 h1.1 hi, k_btR, k_cwithin, e0, e1, if_pos c2, Option.bind_some, k_needT, d1, Option.bind_some, k_hundredths d3, Option.bind_some]
      rw [if_pos c2, k_nT E0 2 t0, if_pos rfl, cls0]
      dsimp only
      rw [k_periodOf d2 d3, Option.bind_some]
      dsimp only
      by_cases cp : k_per cc pos = -1
      · rw [if_pos cp, if_pos cp]
        exact k_valX _ q0 t0 f0 d4 d5 rfl rfl
      · have hc2 : 2 ≤ cc := by
          rcases Nat.lt_or_ge cc 2 with z | z
          · exact absurd (q4 (by omega)) cp
          · exact z
        rw [if_neg cp, if_neg cp, n1, n2, Option.bind_some, Option.bind_some]
        by_cases cw : w = 0
        · rw [if_pos cw, if_pos cw]
          exact k_valX _ q0 t0 f0 d4 d5 rfl rfl
        · rw [if_neg cw, if_neg cw]
          rcases n3 with ⟨rfl, hz⟩ | ⟨b, hb, rfl⟩
          · have hu : f_X12_meant_L134 (k_per cc pos) (-1) E2 am_fu (-1) 0 = some (-1) := by
              unfold am_fu
              rw [f_X12_meant_L134, h62.2.2.1, hz, if_pos (show Int32.ofNat 0 ≤ 0 from Int32.le_refl _)]
            rw [if_pos rfl, hu, Option.bind_some, if_pos rfl]
            exact k_valX _ q0 t0 f0 d4 d5 rfl rfl
          · obtain ⟨v2, u2, m1, m2, m3⟩ := k_near2 (b0 := b) (k_per cc pos) h62 hb q1 q2
            have hnh := h62.1
            rw [if_neg (k_neg1 (by omega)), m1, m2, Option.bind_some, Option.bind_some]
            rcases m3 with ⟨rfl, rfl⟩ | ⟨b2', hb2, rfl, rfl, hne⟩
            · rw [if_pos rfl, if_pos rfl]
              exact k_valX _ q0 t0 f0 d4 d5 rfl rfl
            · rw [if_neg (k_neg1 (by omega)), if_neg hne, k_humFar _ _ (by omega), k_humFar _ _ (by omega), k_g (by omega) (by omega), ← (h62.2.2.2 b hb).1, Option.bind_some, Option.bind_some, Option.bind_some, k_amount, Option.bind_some]
              exact k_valX _ q0 t0 f0 d4 d5 rfl rfl
    · rw [if_neg c2, k_nF E0 2 (by decide) t0, if_neg k_10]
      refine k_refE 0 1 _ q0 f0 (k_fc_refl D) rfl ?_ rfl
      unfold f_X11_meant
      rw [k_soT h1.2.1 h1.1 hi, k_btR, k_cwithin, e0, e1, if_neg c2, Option.bind_some, k_needF]
  · rw [if_neg c, k_nF E0 1 k_10 t0, if_neg k_10]
    refine k_refE 0 0 _ q0 f0 (k_fc_refl D) rfl ?_ rfl
    unfold f_X11_meant
    rw [k_soF h1.2.1 h1.1 c, k_btL]
/-- the k-th interval -/
def k_iv (pos : Nat → Nat) (k : Nat) : Int32 := Int32.ofNat (pos (k + 1)) - Int32.ofNat (pos k)
theorem k_interval {D E : am_D} {n c : Nat} {pos : Nat → Nat} (h : k_cr D E n c pos) {k : Nat} (hk : k + 1 < c) : f_X2_interval (Int32.ofNat k) D = some (k_iv pos k) ∧ f_X12_interval (Int32.ofNat k) E = some (k_iv pos k) := by
  have hc := h.1
  constructor
  · unfold f_X2_interval
    rw [j_suc, k_cratN h hk, Option.bind_some, k_cratN h (by omega), Option.bind_some]
    rfl
  · unfold f_X12_interval
    rw [j_suc, k_g (by omega) (by omega), (h.2.2 (k + 1) hk).2.1, Option.bind_some, k_g (by omega) (by omega), (h.2.2 k (by omega)).2.1, Option.bind_some]
    rfl
theorem k_swing {D E : am_D} {n c : Nat} {pos : Nat → Nat} (q2 q6 q7 q8 : Int32) (h : k_cr D E n c pos) (hc3 : 3 ≤ c) (hn : n ≤ 600) : ∃ lo hi, f_X2_swing D = some (hi - lo) ∧ f_X12_wobble_L83 q2 (Int32.ofNat (c - 1)) q6 q7 q8 E am_fu 0 0 0 = some (lo, hi) := by
  have hc := h.1
  have e0 : (0 : Int32).toInt = 0 := rfl
  have key := k_ind (P := fun fu k => ∀ fu2, c - 1 - k < fu2 → 1 ≤ k → ∀ lo hi, ∃ lo2 hi2, f_X2_swing_L10 D fu lo hi (Int32.ofNat k) = some (lo2, hi2) ∧ f_X12_wobble_L83 q2 (Int32.ofNat (c - 1)) q6 q7 q8 E fu2 lo hi (Int32.ofNat k) = some (lo2, hi2)) (c - 1)
    (by
      intro fu k hk ih fu2 hfu h1 lo hi
      obtain ⟨fu2, rfl⟩ : ∃ z, fu2 = z + 1 := ⟨fu2 - 1, by omega⟩
      have c1 : ¬ Int32.ofNat (c - 1) ≤ Int32.ofNat k := by rw [j_le, j_nat (by omega), j_nat (by omega)]; omega
      have c2 : ¬ Int32.ofNat k = 0 := by rw [j_eq, j_nat (by omega), e0]; omega
      obtain ⟨i1, i2⟩ := k_interval h (k := k) (by omega)
      have hc : f_X2_swing_L10 D (fu + 1) lo hi (Int32.ofNat k) = f_X2_swing_L10 D fu (am_mn lo (k_iv pos k)) (am_mx hi (k_iv pos k)) (Int32.ofNat (k + 1)) := by
        rw [f_X2_swing_L10, k_intervals h, Option.bind_some, if_neg c1, i1, Option.bind_some, Option.bind_some, j_suc]
      have hr : f_X12_wobble_L83 q2 (Int32.ofNat (c - 1)) q6 q7 q8 E (fu2 + 1) lo hi (Int32.ofNat k) = f_X12_wobble_L83 q2 (Int32.ofNat (c - 1)) q6 q7 q8 E fu2 (am_mn lo (k_iv pos k)) (am_mx hi (k_iv pos k)) (Int32.ofNat (k + 1)) := by
        rw [f_X12_wobble_L83, if_neg c1, if_neg c2, i2, Option.bind_some, k_less, Option.bind_some, Option.bind_some, Option.bind_some, k_more, Option.bind_some, j_suc]
      rw [hc, hr]
      exact ih fu2 (by omega) (by omega) _ _) (by
      intro fu fu2 hfu h1 lo hi
      obtain ⟨fu2, rfl⟩ : ∃ z, fu2 = z + 1 := ⟨fu2 - 1, by omega⟩
      rw [f_X2_swing_L10, f_X12_wobble_L83, k_intervals h, Option.bind_some, if_pos (Int32.le_refl _), if_pos (Int32.le_refl _)]
      exact ⟨lo, hi, rfl, rfl⟩)
  obtain ⟨i1, i2⟩ := k_interval h (k := 0) (by omega)
  have i1 : f_X2_interval (0 : Int32) D = some (k_iv pos 0) := i1
  have i2 : f_X12_interval (0 : Int32) E = some (k_iv pos 0) := i2
  have hmx : am_mx 0 (k_iv pos 0) = k_iv pos 0 := by
    have p1 := (h.2.2 1 (by omega)).2.2.2.1
    have p0 := (h.2.2 1 (by omega)).2.2.2.2 0 (by omega)
    have e : (k_iv pos 0).toInt = (pos 1 : Int) - pos 0 := by
      show (Int32.ofNat (pos 1) - Int32.ofNat (pos 0)).toInt = _
      rw [k_S, j_nat (by omega), j_nat (by omega)]
      omega
    rw [j_eq, j_mx, e, e0]
    omega
  obtain ⟨lo2, hi2, m1, m2⟩ := key am_fu 1 (by omega) (by unfold am_fu; omega) 4999 (by omega) (Nat.le_refl _) (k_iv pos 0) (k_iv pos 0)
  have hst : f_X12_wobble_L83 q2 (Int32.ofNat (c - 1)) q6 q7 q8 E am_fu 0 0 0 = some (lo2, hi2) := by
    show f_X12_wobble_L83 q2 (Int32.ofNat (c - 1)) q6 q7 q8 E (4999 + 1) 0 0 0 = _
    have e1 : (0 : Int32) + 1 = Int32.ofNat 1 := rfl
    rw [f_X12_wobble_L83, if_neg (by rw [j_le, j_nat (by omega), e0]; omega), if_pos rfl, i2, Option.bind_some, Option.bind_some, Option.bind_some, k_more, Option.bind_some, hmx, e1]
    exact m2
  refine ⟨lo2, hi2, ?_, hst⟩
  unfold f_X2_swing
  have m1 : f_X2_swing_L10 D am_fu (k_iv pos 0) (k_iv pos 0) (1 : Int32) = some (lo2, hi2) := m1
  rw [i1, Option.bind_some, m1, Option.bind_some]
theorem k_turns {D E : am_D} {n c : Nat} {pos : Nat → Nat} (q2 q4 q5 : Int32) (h : k_cr D E n c pos) : ∃ v, f_X2_turns D = some v ∧ f_X12_wobble_L138 q2 (Int32.ofNat (c - 1)) q4 q5 E am_fu (-1) 0 1 1 = some v := by
  have hc := h.1
  have e0 : (0 : Int32).toInt = 0 := rfl
  have inner : ∀ (t : Nat) (a1 a2 a3 : Int32), 1 ≤ t → 2 * t ≤ c - 1 → ∃ s, f_X2_turns_L35 a1 a2 a3 (Int32.ofNat t) (Int32.ofNat (c - 1 - t)) D am_fu 0 0 = some s ∧ f_X12_wobble_L152 q2 (Int32.ofNat (c - 1)) q4 q5 a1 a2 a3 (Int32.ofNat t) E am_fu 0 0 = some s := by
    intro t a1 a2 a3 ht ht2
    have key := k_ind (P := fun fu k => ∀ s, ∃ w, f_X2_turns_L35 a1 a2 a3 (Int32.ofNat t) (Int32.ofNat (c - 1 - t)) D fu s (Int32.ofNat k) = some w ∧ f_X12_wobble_L152 q2 (Int32.ofNat (c - 1)) q4 q5 a1 a2 a3 (Int32.ofNat t) E fu s (Int32.ofNat k) = some w) (c - 1 - t)
      (by
        intro fu k hk ih s
        obtain ⟨i1, i2⟩ := k_interval h (k := k) (by omega)
        obtain ⟨j1, j2⟩ := k_interval h (k := k + t) (by omega)
        have hc : f_X2_turns_L35 a1 a2 a3 (Int32.ofNat t) (Int32.ofNat (c - 1 - t)) D (fu + 1) s (Int32.ofNat k) = f_X2_turns_L35 a1 a2 a3 (Int32.ofNat t) (Int32.ofNat (c - 1 - t)) D fu (s + am_ab (k_iv pos k - k_iv pos (k + t))) (Int32.ofNat (k + 1)) := by
          rw [f_X2_turns_L35, if_neg (by rw [j_le, j_nat (by omega), j_nat (by omega)]; omega), i1, Option.bind_some, ← Int32.ofNat_add, j1, Option.bind_some, j_suc]
          rfl
        have hr : f_X12_wobble_L152 q2 (Int32.ofNat (c - 1)) q4 q5 a1 a2 a3 (Int32.ofNat t) E (fu + 1) s (Int32.ofNat k) = f_X12_wobble_L152 q2 (Int32.ofNat (c - 1)) q4 q5 a1 a2 a3 (Int32.ofNat t) E fu (s + am_ab (k_iv pos k - k_iv pos (k + t))) (Int32.ofNat (k + 1)) := by
          rw [f_X12_wobble_L152, ← Int32.ofNat_add, if_neg (by rw [j_le, j_nat (by omega), j_nat (by omega)]; omega), i2, Option.bind_some, j2, Option.bind_some, k_amount, Option.bind_some, j_suc]
        rw [hc, hr]
        exact ih _) (by
        intro fu s
        rw [f_X2_turns_L35, f_X12_wobble_L152, if_pos (Int32.le_refl _), ← Int32.ofNat_add, if_pos (by rw [j_le, j_nat (by omega), j_nat (by omega)]; omega)]
        exact ⟨s, rfl, rfl⟩) am_fu 0 (by omega) (by unfold am_fu; omega) 0
    exact key
  have hn2 : Int32.ofNat (c - 1) / 2 = Int32.ofNat ((c - 1) / 2) := k_dvN (y := 2) (by omega) (by omega) (by omega)
  have key := k_ind (P := fun fu k => 1 ≤ k → ∀ a1 a2 a3, ∃ w, f_X2_turns_L9 D fu a1 a2 a3 (Int32.ofNat k) = some w ∧ f_X12_wobble_L138 q2 (Int32.ofNat (c - 1)) q4 q5 E fu a1 a2 a3 (Int32.ofNat k) = some w) ((c - 1) / 2 + 1)
    (by
      intro fu k hk ih h1 a1 a2 a3
      have e2 : (2 : Int32) * Int32.ofNat k = Int32.ofNat (2 * k) := (Int32.ofNat_mul 2 k).symm
      have es : Int32.ofNat (c - 1) - Int32.ofNat k = Int32.ofNat (c - 1 - k) := by rw [j_eq, k_S, j_nat (by omega), j_nat (by omega), j_nat (by omega)]; omega
      obtain ⟨s, s1, s2⟩ := inner k a1 a2 a3 h1 (by omega)
      have hc : f_X2_turns_L9 D (fu + 1) a1 a2 a3 (Int32.ofNat k) = if a1 = -1 then f_X2_turns_L9 D fu (Int32.ofNat k) s (Int32.ofNat (c - 1 - k)) (Int32.ofNat (k + 1)) else if s * a3 < a2 * Int32.ofNat (c - 1 - k) then f_X2_turns_L9 D fu (Int32.ofNat k) s (Int32.ofNat (c - 1 - k)) (Int32.ofNat (k + 1)) else f_X2_turns_L9 D fu a1 a2 a3 (Int32.ofNat (k + 1)) := by
        rw [f_X2_turns_L9, k_intervals h, Option.bind_some, e2, if_neg (by rw [j_lt, j_nat (by omega), j_nat (by omega)]; omega), Option.bind_some, es, s1, Option.bind_some]
        by_cases ca : a1 = -1
        · rw [if_pos ca, if_pos ca, Option.bind_some, j_suc]
        · rw [if_neg ca, if_neg ca]
          by_cases cb : s * a3 < a2 * Int32.ofNat (c - 1 - k)
          · rw [if_pos cb, if_neg (by rw [j_le]; rw [j_lt] at cb; omega), Option.bind_some, j_suc]
          · rw [if_neg cb, if_pos (by rw [j_le]; rw [j_lt] at cb; omega), Option.bind_some, j_suc]
      have hr : f_X12_wobble_L138 q2 (Int32.ofNat (c - 1)) q4 q5 E (fu + 1) a1 a2 a3 (Int32.ofNat k) = if a1 = -1 then f_X12_wobble_L138 q2 (Int32.ofNat (c - 1)) q4 q5 E fu (Int32.ofNat k) s (Int32.ofNat (c - 1 - k)) (Int32.ofNat (k + 1)) else if s * a3 < a2 * Int32.ofNat (c - 1 - k) then f_X12_wobble_L138 q2 (Int32.ofNat (c - 1)) q4 q5 E fu (Int32.ofNat k) s (Int32.ofNat (c - 1 - k)) (Int32.ofNat (k + 1)) else f_X12_wobble_L138 q2 (Int32.ofNat (c - 1)) q4 q5 E fu a1 a2 a3 (Int32.ofNat (k + 1)) := by
        rw [f_X12_wobble_L138, hn2, if_neg (by rw [j_lt, j_nat (by omega), j_nat (by omega)]; omega), s2, Option.bind_some, es]
        by_cases ca : a1 = -1
        · rw [if_pos ca, if_pos ca, Option.bind_some, j_suc]
        · rw [if_neg ca, if_neg ca]
          by_cases cb : s * a3 < a2 * Int32.ofNat (c - 1 - k)
          · rw [if_pos cb, if_pos cb, Option.bind_some, j_suc]
          · rw [if_neg cb, if_neg cb, Option.bind_some, j_suc]
      rw [hc, hr]
      by_cases ca : a1 = -1
      · rw [if_pos ca, if_pos ca]
        exact ih (by omega) _ _ _
      · rw [if_neg ca, if_neg ca]
        by_cases cb : s * a3 < a2 * Int32.ofNat (c - 1 - k)
        · rw [if_pos cb, if_pos cb]
          exact ih (by omega) _ _ _
        · rw [if_neg cb, if_neg cb]
          exact ih (by omega) _ _ _) (by
      intro fu h1 a1 a2 a3
      have e2 : (2 : Int32) * Int32.ofNat ((c - 1) / 2 + 1) = Int32.ofNat (2 * ((c - 1) / 2 + 1)) := (Int32.ofNat_mul 2 _).symm
      rw [f_X2_turns_L9, f_X12_wobble_L138, k_intervals h, Option.bind_some, e2, if_pos (by rw [j_lt, j_nat (by omega), j_nat (by omega)]; omega), hn2, if_pos (by rw [j_lt, j_nat (by omega), j_nat (by omega)]; omega)]
      exact ⟨a1, rfl, rfl⟩) am_fu 1 (by omega) (by unfold am_fu; omega) (Nat.le_refl _) (-1) 0 1
  obtain ⟨v, k1, k2⟩ := key
  have k1 : f_X2_turns_L9 D am_fu (-1) 0 1 (1 : Int32) = some v := k1
  refine ⟨v, ?_, k2⟩
  unfold f_X2_turns
  rw [k1, Option.bind_some]
theorem op_wobble {D E : am_D} (h : k_Q D E) (p w : Int32) : k_opE D E (f_X11_wobble p w D) (f_X12_wobble p w E) ["java/util/NoSuchElementException", "java/lang/IllegalArgumentException"] := by
  obtain ⟨E0, hE0, t0, f0, q0⟩ := k_start h
  have q0' := q0
  obtain ⟨ns, nm, nw, np, nh, ni, h1, h2, h3, h4, h5, h6, h7, h8, h9⟩ := q0'

  have hns := h1.1
  have e0 : (0 : Int32).toInt = 0 := rfl
  have e1 : (1 : Int32).toInt = 1 := rfl
  have e2 : (2 : Int32).toInt = 2 := rfl
  unfold f_X12_wobble
  rw [Option.bind_some, ← hE0, k_isS _ h1.2.2.1 h1.1, Option.bind_some]
  by_cases c : 0 ≤ p.toInt ∧ p.toInt < ns
  · obtain ⟨i, rfl, hi⟩ := k_ix c
    obtain ⟨n, g, b1, b2, b3, b4, b5, b6⟩ := h1.2.2.2 i hi
    rw [if_pos c, k_nT E0 1 t0, if_pos rfl]
    dsimp only
    rw [k_in, e0, e1, Option.bind_some]
    by_cases c2 : 0 ≤ w.toInt ∧ w.toInt ≤ 1
    · obtain ⟨D2, E2, cc, pos, d1, d2, d3, d4, d5⟩ := k_cfind b3 b4 b5 (by omega) b2 b1 (by omega)
      have hcc := d3.1
      have cls0 : f_X11_wobble (Int32.ofNat i) w D = if (2 : Int32) ≤ Int32.ofNat (cc - 1) then if w = 0 then (f_X2_turns D2).bind fun x16 => some (.inr (x16, D2)) else (f_X2_swing D2).bind fun x14 => some (.inr (x14, D2)) else some (.inr (-1, D2)) := by
        unfold f_X11_wobble
        rw [k_soT h1.2.1 h1.1 hi, k_btR, k_cwithin, e0, e1, if_pos c2, Option.bind_some, k_needT, d1, Option.bind_some, k_intervals d3, Option.bind_some]
      rw [if_pos c2, k_nT E0 2 t0, if_pos rfl, cls0]
      dsimp only
      rw [d2, Option.bind_some]
      dsimp only
      by_cases c3 : 3 ≤ cc
      · have ec : Int32.ofNat cc - 1 = Int32.ofNat (cc - 1) := by rw [j_eq, j_pred cc (by omega), j_nat (by omega)]; omega
        have c4 : (2 : Int32) ≤ Int32.ofNat (cc - 1) := by rw [j_le, j_nat (by omega), e2]; omega
        obtain ⟨lo, hi', s1, s2⟩ := k_swing w (-1) 0 1 d3 c3 b2
        obtain ⟨v, v1, v2⟩ := k_turns w lo hi' d3
        rw [ec, if_pos c4, if_pos c4, s2, Option.bind_some]
        dsimp only
        rw [v2, Option.bind_some]
        by_cases cw : w = 0
        · rw [if_pos cw, if_pos cw, v1, Option.bind_some]
          exact k_valX _ q0 t0 f0 d4 d5 rfl rfl
        · rw [if_neg cw, if_neg cw, s1, Option.bind_some]
          exact k_valX _ q0 t0 f0 d4 d5 rfl rfl
      · have c4 : ¬ (2 : Int32) ≤ Int32.ofNat (cc - 1) := by rw [j_le, j_nat (by omega), e2]; omega
        have c5 : ¬ (2 : Int32) ≤ Int32.ofNat cc - 1 := by rw [j_le, j_pred cc (by omega), e2]; omega
        rw [if_neg c4, if_neg c5]
        exact k_valX _ q0 t0 f0 d4 d5 rfl rfl
    · rw [if_neg c2, k_nF E0 2 (by decide) t0, if_neg k_10]
      refine k_refE 0 1 _ q0 f0 (k_fc_refl D) rfl ?_ rfl
      unfold f_X11_wobble
      rw [k_soT h1.2.1 h1.1 hi, k_btR, k_cwithin, e0, e1, if_neg c2, Option.bind_some, k_needF]
  · rw [if_neg c, k_nF E0 1 k_10 t0, if_neg k_10]
    refine k_refE 0 0 _ q0 f0 (k_fc_refl D) rfl ?_ rfl
    unfold f_X11_wobble
    rw [k_soF h1.2.1 h1.1 c, k_btL]
