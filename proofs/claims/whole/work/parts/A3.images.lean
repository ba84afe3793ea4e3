/-! image, restore -/
theorem k_counts {D : am_D} {a b : Nat} (ha : am_ln a = 4) (hb : am_ln b = 4) (hne : a ≠ b) : ∃ D2, f_X4_copyCounts a b D = some D2 ∧ (∀ j, j < 4 → D2.1 b j = D.1 a j) ∧ (∀ y, y ≠ b → D2.1 y = D.1 y) ∧ D2.2 = D.2 := by
  have key := k_ind (P := fun fu k => ∀ D1 : am_D, (∀ j, j < k → D1.1 b j = D.1 a j) → (∀ y, y ≠ b → D1.1 y = D.1 y) → D1.2 = D.2 → ∃ D2, f_X4_copyCounts_L2 a b fu (Int32.ofNat k) D1 = some D2 ∧ (∀ j, j < 4 → D2.1 b j = D.1 a j) ∧ (∀ y, y ≠ b → D2.1 y = D.1 y) ∧ D2.2 = D.2) 4
    (by
      intro fu k hk ih D1 g1 g2 g3
      rw [f_X4_copyCounts_L2, ha, hb, if_neg (by rw [j_le, j_nat (by omega), j_nat (by omega)]; omega), if_neg (by rw [j_le, j_nat (by omega), j_nat (by omega)]; omega), k_g hk (by omega), g2 a hne, Option.bind_some, k_p _ hk (by omega), Option.bind_some, j_suc]
      refine ih _ (fun y hy => ?_) (fun y hy => by rw [j_wI_ne _ _ _ hy]; exact g2 y hy) g3
      rw [j_wI_at]
      by_cases c : y = k
      · rw [if_pos c, c]
      · rw [if_neg c]; exact g1 y (by omega)) (by
      intro fu D1 g1 g2 g3
      rw [f_X4_copyCounts_L2, ha, if_pos (Int32.le_refl _)]
      exact ⟨D1, rfl, g1, g2, g3⟩) am_fu 0 (by omega) (by unfold am_fu; omega) D (fun y hy => absurd hy (by omega)) (fun _ _ => rfl) rfl
  obtain ⟨D2, e1, e2⟩ := key
  have e1 : f_X4_copyCounts_L2 a b am_fu (0 : Int32) D = some D2 := e1
  refine ⟨D2, ?_, e2⟩
  unfold f_X4_copyCounts
  rw [e1]
  rfl
theorem k_take {D : am_D} {r : Nat} (hr : 60 ≤ r) (hl : am_ln (r + 2) = 4) : ∃ D2, f_X4_take r D = some D2 ∧ (D2.1 r 2 = D.1 17 7 ∧ D2.1 r 3 = D.1 17 8 ∧ D2.1 r 4 = D.1 17 9 ∧ D2.1 r 5 = D.1 24 5 ∧ D2.1 r 6 = D.1 17 10 ∧ D2.1 r 7 = D.1 17 11 ∧ D2.1 r 8 = D.1 17 12 ∧ D2.1 r 9 = D.1 17 13) ∧ (D2.1 (r + 1) 0 = D.1 23 0 ∧ D2.1 (r + 1) 1 = D.1 23 1 ∧ D2.1 (r + 1) 2 = D.1 23 2) ∧ (∀ j, j < 4 → D2.1 (r + 2) j = D.1 22 j) ∧ (∀ y, y ≠ r → y ≠ r + 1 → y ≠ r + 2 → D2.1 y = D.1 y) ∧ D2.2 = D.2 := by
  obtain ⟨_, _, _, _, _, _, _, l8, _⟩ := k_lnK
  obtain ⟨W1, hW1⟩ : ∃ W, W = am_wI D r 2 (D.1 17 7) := ⟨_, rfl⟩
  have f1 : ∀ y, y ≠ r → W1.1 y = D.1 y := fun y hy => by rw [hW1, j_wI_ne _ _ _ hy]
  have g1 : W1.2 = D.2 := by rw [hW1]; rfl
  obtain ⟨W2, hW2⟩ : ∃ W, W = am_wI W1 r 3 (D.1 17 8) := ⟨_, rfl⟩
  have f2 : ∀ y, y ≠ r → W2.1 y = D.1 y := fun y hy => by rw [hW2, j_wI_ne _ _ _ hy, f1 y hy]
  have g2 : W2.2 = D.2 := by rw [hW2]; exact g1
  obtain ⟨W3, hW3⟩ : ∃ W, W = am_wI W2 r 4 (D.1 17 9) := ⟨_, rfl⟩
  have f3 : ∀ y, y ≠ r → W3.1 y = D.1 y := fun y hy => by rw [hW3, j_wI_ne _ _ _ hy, f2 y hy]
  have g3 : W3.2 = D.2 := by rw [hW3]; exact g2
  obtain ⟨W4, hW4⟩ : ∃ W, W = am_wI W3 r 5 (D.1 24 5) := ⟨_, rfl⟩
  have f4 : ∀ y, y ≠ r → W4.1 y = D.1 y := fun y hy => by rw [hW4, j_wI_ne _ _ _ hy, f3 y hy]
  have g4 : W4.2 = D.2 := by rw [hW4]; exact g3
  obtain ⟨W5, hW5⟩ : ∃ W, W = am_wI W4 r 6 (D.1 17 10) := ⟨_, rfl⟩
  have f5 : ∀ y, y ≠ r → W5.1 y = D.1 y := fun y hy => by rw [hW5, j_wI_ne _ _ _ hy, f4 y hy]
  have g5 : W5.2 = D.2 := by rw [hW5]; exact g4
  obtain ⟨W6, hW6⟩ : ∃ W, W = am_wI W5 r 7 (D.1 17 11) := ⟨_, rfl⟩
  have f6 : ∀ y, y ≠ r → W6.1 y = D.1 y := fun y hy => by rw [hW6, j_wI_ne _ _ _ hy, f5 y hy]
  have g6 : W6.2 = D.2 := by rw [hW6]; exact g5
  obtain ⟨W7, hW7⟩ : ∃ W, W = am_wI W6 r 8 (D.1 17 12) := ⟨_, rfl⟩
  have f7 : ∀ y, y ≠ r → W7.1 y = D.1 y := fun y hy => by rw [hW7, j_wI_ne _ _ _ hy, f6 y hy]
  have g7 : W7.2 = D.2 := by rw [hW7]; exact g6
  obtain ⟨W8, hW8⟩ : ∃ W, W = am_wI W7 r 9 (D.1 17 13) := ⟨_, rfl⟩
  have f8 : ∀ y, y ≠ r → W8.1 y = D.1 y := fun y hy => by rw [hW8, j_wI_ne _ _ _ hy, f7 y hy]
  have g8 : W8.2 = D.2 := by rw [hW8]; exact g7
  have v2 : W8.1 r 2 = D.1 17 7 := by rw [hW8, k_wj _ _ (by decide), hW7, k_wj _ _ (by decide), hW6, k_wj _ _ (by decide), hW5, k_wj _ _ (by decide), hW4, k_wj _ _ (by decide), hW3, k_wj _ _ (by decide), hW2, k_wj _ _ (by decide), hW1, k_ws]
  have v3 : W8.1 r 3 = D.1 17 8 := by rw [hW8, k_wj _ _ (by decide), hW7, k_wj _ _ (by decide), hW6, k_wj _ _ (by decide), hW5, k_wj _ _ (by decide), hW4, k_wj _ _ (by decide), hW3, k_wj _ _ (by decide), hW2, k_ws]
  have v4 : W8.1 r 4 = D.1 17 9 := by rw [hW8, k_wj _ _ (by decide), hW7, k_wj _ _ (by decide), hW6, k_wj _ _ (by decide), hW5, k_wj _ _ (by decide), hW4, k_wj _ _ (by decide), hW3, k_ws]
  have v5 : W8.1 r 5 = D.1 24 5 := by rw [hW8, k_wj _ _ (by decide), hW7, k_wj _ _ (by decide), hW6, k_wj _ _ (by decide), hW5, k_wj _ _ (by decide), hW4, k_ws]
  have v6 : W8.1 r 6 = D.1 17 10 := by rw [hW8, k_wj _ _ (by decide), hW7, k_wj _ _ (by decide), hW6, k_wj _ _ (by decide), hW5, k_ws]
  have v7 : W8.1 r 7 = D.1 17 11 := by rw [hW8, k_wj _ _ (by decide), hW7, k_wj _ _ (by decide), hW6, k_ws]
  have v8 : W8.1 r 8 = D.1 17 12 := by rw [hW8, k_wj _ _ (by decide), hW7, k_ws]
  have v9 : W8.1 r 9 = D.1 17 13 := by rw [hW8, k_ws]
  obtain ⟨X, hX, x0, x1, x2, -, x3, x4⟩ := k_w3 W8 (r + 1) (D.1 23 0) (D.1 23 1) (D.1 23 2)
  obtain ⟨Y, y1, y2, y3, y4⟩ := k_counts (D := X) l8 hl (by omega)
  refine ⟨Y, ?_, ⟨?_, ?_, ?_, ?_, ?_, ?_, ?_, ?_⟩, ⟨?_, ?_, ?_⟩, fun j hj => ?_, fun y a b c => ?_, by rw [y4, x4, g8]⟩
  rotate_left
  · rw [y3 r (by omega), x3 r (by omega), v2]
  · rw [y3 r (by omega), x3 r (by omega), v3]
  · rw [y3 r (by omega), x3 r (by omega), v4]
  · rw [y3 r (by omega), x3 r (by omega), v5]
  · rw [y3 r (by omega), x3 r (by omega), v6]
  · rw [y3 r (by omega), x3 r (by omega), v7]
  · rw [y3 r (by omega), x3 r (by omega), v8]
  · rw [y3 r (by omega), x3 r (by omega), v9]
  · rw [y3 (r + 1) (by omega), x0]
  · rw [y3 (r + 1) (by omega), x1]
  · rw [y3 (r + 1) (by omega), x2]
  · rw [y2 j hj, x3 22 (by omega), f8 22 (by omega)]
  · rw [y3 y c, x3 y b, f8 y a]
  unfold f_X4_take
  rw [Option.bind_some, ← hW1]
  rw [f1 17 (by omega)]
  rw [Option.bind_some, ← hW2]
  rw [f2 17 (by omega)]
  rw [Option.bind_some, ← hW3]
  rw [f3 24 (by omega)]
  rw [Option.bind_some, ← hW4]
  rw [f4 17 (by omega)]
  rw [Option.bind_some, ← hW5]
  rw [f5 17 (by omega)]
  rw [Option.bind_some, ← hW6]
  rw [f6 17 (by omega)]
  rw [Option.bind_some, ← hW7]
  rw [f7 17 (by omega)]
  rw [Option.bind_some, ← hW8]
  have ec : f_X5_copyFrom (r + 1) 23 W8 = some X := by
    unfold f_X5_copyFrom
    rw [k_set0, f8 23 (by omega), ← hX]
    rfl
  rw [ec, Option.bind_some, y1, Option.bind_some]
theorem k_give {D : am_D} {r : Nat} (hr : 60 ≤ r) (hl : am_ln (r + 2) = 4) : ∃ D2, f_X4_giveBack r D = some D2 ∧ (D2.1 17 7 = D.1 r 2 ∧ D2.1 17 8 = D.1 r 3 ∧ D2.1 17 9 = D.1 r 4 ∧ D2.1 24 5 = D.1 r 5 ∧ D2.1 17 10 = D.1 r 6 ∧ D2.1 17 11 = D.1 r 7 ∧ D2.1 17 12 = D.1 r 8 ∧ D2.1 17 13 = D.1 r 9) ∧ (D2.1 23 0 = D.1 (r + 1) 0 ∧ D2.1 23 1 = D.1 (r + 1) 1 ∧ D2.1 23 2 = D.1 (r + 1) 2) ∧ (∀ j, j < 4 → D2.1 22 j = D.1 (r + 2) j) ∧ (∀ y, y ≠ 17 → y ≠ 24 → y ≠ 23 → y ≠ 22 → D2.1 y = D.1 y) ∧ D2.2 = D.2 := by
  obtain ⟨_, _, _, _, _, _, _, l8, _⟩ := k_lnK
  obtain ⟨W1, hW1⟩ : ∃ W, W = am_wI D 17 7 (D.1 r 2) := ⟨_, rfl⟩
  have f1 : ∀ y, y ≠ 17 → y ≠ 24 → W1.1 y = D.1 y := fun y hy hz => by rw [hW1, j_wI_ne _ _ _ hy]
  have g1 : W1.2 = D.2 := by rw [hW1]; rfl
  obtain ⟨W2, hW2⟩ : ∃ W, W = am_wI W1 17 8 (D.1 r 3) := ⟨_, rfl⟩
  have f2 : ∀ y, y ≠ 17 → y ≠ 24 → W2.1 y = D.1 y := fun y hy hz => by rw [hW2, j_wI_ne _ _ _ hy, f1 y hy hz]
  have g2 : W2.2 = D.2 := by rw [hW2]; exact g1
  obtain ⟨W3, hW3⟩ : ∃ W, W = am_wI W2 17 9 (D.1 r 4) := ⟨_, rfl⟩
  have f3 : ∀ y, y ≠ 17 → y ≠ 24 → W3.1 y = D.1 y := fun y hy hz => by rw [hW3, j_wI_ne _ _ _ hy, f2 y hy hz]
  have g3 : W3.2 = D.2 := by rw [hW3]; exact g2
  obtain ⟨W4, hW4⟩ : ∃ W, W = am_wI W3 24 5 (D.1 r 5) := ⟨_, rfl⟩
  have f4 : ∀ y, y ≠ 17 → y ≠ 24 → W4.1 y = D.1 y := fun y hy hz => by rw [hW4, j_wI_ne _ _ _ hz, f3 y hy hz]
  have g4 : W4.2 = D.2 := by rw [hW4]; exact g3
  obtain ⟨W5, hW5⟩ : ∃ W, W = am_wI W4 17 10 (D.1 r 6) := ⟨_, rfl⟩
  have f5 : ∀ y, y ≠ 17 → y ≠ 24 → W5.1 y = D.1 y := fun y hy hz => by rw [hW5, j_wI_ne _ _ _ hy, f4 y hy hz]
  have g5 : W5.2 = D.2 := by rw [hW5]; exact g4
  obtain ⟨W6, hW6⟩ : ∃ W, W = am_wI W5 17 11 (D.1 r 7) := ⟨_, rfl⟩
  have f6 : ∀ y, y ≠ 17 → y ≠ 24 → W6.1 y = D.1 y := fun y hy hz => by rw [hW6, j_wI_ne _ _ _ hy, f5 y hy hz]
  have g6 : W6.2 = D.2 := by rw [hW6]; exact g5
  obtain ⟨W7, hW7⟩ : ∃ W, W = am_wI W6 17 12 (D.1 r 8) := ⟨_, rfl⟩
  have f7 : ∀ y, y ≠ 17 → y ≠ 24 → W7.1 y = D.1 y := fun y hy hz => by rw [hW7, j_wI_ne _ _ _ hy, f6 y hy hz]
  have g7 : W7.2 = D.2 := by rw [hW7]; exact g6
  obtain ⟨W8, hW8⟩ : ∃ W, W = am_wI W7 17 13 (D.1 r 9) := ⟨_, rfl⟩
  have f8 : ∀ y, y ≠ 17 → y ≠ 24 → W8.1 y = D.1 y := fun y hy hz => by rw [hW8, j_wI_ne _ _ _ hy, f7 y hy hz]
  have g8 : W8.2 = D.2 := by rw [hW8]; exact g7
  have v2 : W8.1 17 7 = D.1 r 2 := by rw [hW8, k_wj _ _ (by decide), hW7, k_wj _ _ (by decide), hW6, k_wj _ _ (by decide), hW5, k_wj _ _ (by decide), hW4, j_wI_ne _ _ _ (by decide), hW3, k_wj _ _ (by decide), hW2, k_wj _ _ (by decide), hW1, k_ws]
  have v3 : W8.1 17 8 = D.1 r 3 := by rw [hW8, k_wj _ _ (by decide), hW7, k_wj _ _ (by decide), hW6, k_wj _ _ (by decide), hW5, k_wj _ _ (by decide), hW4, j_wI_ne _ _ _ (by decide), hW3, k_wj _ _ (by decide), hW2, k_ws]
  have v4 : W8.1 17 9 = D.1 r 4 := by rw [hW8, k_wj _ _ (by decide), hW7, k_wj _ _ (by decide), hW6, k_wj _ _ (by decide), hW5, k_wj _ _ (by decide), hW4, j_wI_ne _ _ _ (by decide), hW3, k_ws]
  have v5 : W8.1 24 5 = D.1 r 5 := by rw [hW8, j_wI_ne _ _ _ (by decide), hW7, j_wI_ne _ _ _ (by decide), hW6, j_wI_ne _ _ _ (by decide), hW5, j_wI_ne _ _ _ (by decide), hW4, k_ws]
  have v6 : W8.1 17 10 = D.1 r 6 := by rw [hW8, k_wj _ _ (by decide), hW7, k_wj _ _ (by decide), hW6, k_wj _ _ (by decide), hW5, k_ws]
  have v7 : W8.1 17 11 = D.1 r 7 := by rw [hW8, k_wj _ _ (by decide), hW7, k_wj _ _ (by decide), hW6, k_ws]
  have v8 : W8.1 17 12 = D.1 r 8 := by rw [hW8, k_wj _ _ (by decide), hW7, k_ws]
  have v9 : W8.1 17 13 = D.1 r 9 := by rw [hW8, k_ws]
  obtain ⟨X, hX, x0, x1, x2, -, x3, x4⟩ := k_w3 W8 23 (D.1 (r + 1) 0) (D.1 (r + 1) 1) (D.1 (r + 1) 2)
  obtain ⟨Y, y1, y2, y3, y4⟩ := k_counts (D := X) hl l8 (by omega)
  refine ⟨Y, ?_, ⟨?_, ?_, ?_, ?_, ?_, ?_, ?_, ?_⟩, ⟨?_, ?_, ?_⟩, fun j hj => ?_, fun y a b c d => ?_, by rw [y4, x4, g8]⟩
  rotate_left
  · rw [y3 17 (by decide), x3 17 (by decide), v2]
  · rw [y3 17 (by decide), x3 17 (by decide), v3]
  · rw [y3 17 (by decide), x3 17 (by decide), v4]
  · rw [y3 24 (by decide), x3 24 (by decide), v5]
  · rw [y3 17 (by decide), x3 17 (by decide), v6]
  · rw [y3 17 (by decide), x3 17 (by decide), v7]
  · rw [y3 17 (by decide), x3 17 (by decide), v8]
  · rw [y3 17 (by decide), x3 17 (by decide), v9]
  · rw [y3 23 (by decide), x0]
  · rw [y3 23 (by decide), x1]
  · rw [y3 23 (by decide), x2]
  · rw [y2 j hj, x3 (r + 2) (by omega), f8 (r + 2) (by omega) (by omega)]
  · rw [y3 y d, x3 y c, f8 y a b]
  unfold f_X4_giveBack
  rw [Option.bind_some, ← hW1]
  rw [f1 r (by omega) (by omega)]
  rw [Option.bind_some, ← hW2]
  rw [f2 r (by omega) (by omega)]
  rw [Option.bind_some, ← hW3]
  rw [f3 r (by omega) (by omega)]
  rw [Option.bind_some, ← hW4]
  rw [f4 r (by omega) (by omega)]
  rw [Option.bind_some, ← hW5]
  rw [f5 r (by omega) (by omega)]
  rw [Option.bind_some, ← hW6]
  rw [f6 r (by omega) (by omega)]
  rw [Option.bind_some, ← hW7]
  rw [f7 r (by omega) (by omega)]
  rw [Option.bind_some, ← hW8]
  have ec : f_X5_copyFrom 23 (r + 1) W8 = some X := by
    unfold f_X5_copyFrom
    rw [k_set0, f8 (r + 1) (by omega) (by omega), ← hX]
    rfl
  rw [ec, Option.bind_some, y1, Option.bind_some]
theorem k_pS {s k : Nat} (hs : s < 5) (hk : k < 600) : k_pos (31 + 600 * s + k) = (134 + s, k) := by
  rw [k_pos6 (by omega) (by omega)]
  have z1 : (31 + 600 * s + k - 31) / 600 = s := (by omega)
  have z2 : (31 + 600 * s + k - 31) % 600 = k := (by omega)
  rw [z1, z2]
theorem k_pM {m j : Nat} (hm : m < 60) (hj : j < 2) : k_pos (3031 + 2 * m + j) = (141 + m, j) := by
  rw [k_pos7 (by omega) (by omega)]
  have z1 : (3031 + 2 * m + j - 3031) / 2 = m := (by omega)
  have z2 : (3031 + 2 * m + j - 3031) % 2 = j := (by omega)
  rw [z1, z2]
theorem k_pW {w j : Nat} (hw : w < 4) (hj : j < 3) : k_pos (3151 + 3 * w + j) = (206 + w, j) := by
  rw [k_pos8 (by omega) (by omega)]
  have z1 : (3151 + 3 * w + j - 3151) / 3 = w := (by omega)
  have z2 : (3151 + 3 * w + j - 3151) % 3 = j := (by omega)
  rw [z1, z2]
theorem k_pP {w j : Nat} (hw : w < 10) (hj : j < 4) : k_pos (3163 + 4 * w + j) = (211 + w, j) := by
  rw [k_pos9 (by omega)]
  have z1 : (3163 + 4 * w + j - 3163) / 4 = w := (by omega)
  have z2 : (3163 + 4 * w + j - 3163) % 4 = j := (by omega)
  rw [z1, z2]
theorem k_p139 {s : Nat} (h : s < 5) : k_pos (11 + s) = (139, s) := by rw [k_pos2 (by omega) (by omega)]; have z : 11 + s - 11 = s := (by omega); rw [z]
theorem k_p201 {s : Nat} (h : s < 5) : k_pos (16 + s) = (201, s) := by rw [k_pos3 (by omega) (by omega)]; have z : 16 + s - 16 = s := (by omega); rw [z]
theorem k_p202 {s : Nat} (h : s < 4) : k_pos (21 + s) = (202, s) := by rw [k_pos4 (by omega) (by omega)]; have z : 21 + s - 21 = s := (by omega); rw [z]
theorem k_p203 {s : Nat} (h : s < 6) : k_pos (25 + s) = (203, s) := by rw [k_pos5 (by omega) (by omega)]; have z : 25 + s - 25 = s := (by omega); rw [z]
theorem k_mvJ0 {E0 E : am_D} {i : Nat} (hJ : k_mvJ E0 E i 0 3203) (y x : Nat) (h1 : y ≠ 2634 + i) (h2 : ¬ (y = 117 ∧ x = 56)) : E.1 y x = E0.1 y x := by
  obtain ⟨a1, a2, a3, a4, a5, a6⟩ := hJ
  by_cases c : ∃ j, j < 3203 ∧ (k_pos j).1 = y ∧ (k_pos j).2 = x
  · obtain ⟨j, hj, rfl, rfl⟩ := c
    exact (a1 j hj).2
  · exact a5 y x h1 h2 fun j hj q => c ⟨j, hj, q.1, q.2⟩
theorem op_image {D E : am_D} (h : k_Q D E) : k_opN D E (f_X11_image D) (f_X12_image E) := by
  obtain ⟨E0, hE0, t0, f0, q0⟩ := k_start h
  have q0' := q0
  obtain ⟨ns, nm, nw, np, nh, ni, h1, h2, h3, h4, h5, h6, h7, h8, h9⟩ := q0'

  have e0 : (0 : Int32).toInt = 0 := rfl
  have e3 : (3 : Int32).toInt = 3 := rfl
  have hni := h7.1
  unfold f_X12_image f_X11_image
  rw [Option.bind_some, ← hE0, h7.2.1, h7.2.2.1, if_neg (by rw [j_lt, j_nat (by omega), e0]; omega)]
  by_cases c : ni < 3
  · rw [if_pos (by rw [j_lt, j_nat (by omega), e3]; omega), if_neg (by rw [j_eq, j_nat (by omega), e3]; omega), k_a c (by omega), Option.bind_some]
    obtain ⟨_, _, _, _, _, _, _, _, l9⟩ := k_lnK
    obtain ⟨D2, u0, ⟨u1, u2, u3, u4, u5, u6, u7, u8⟩, ⟨u9, u10, u11⟩, u12, u13, u14⟩ := k_take (D := D) (r := 60 + 3 * ni) (by omega) (by have := l9 ni c; have z : 60 + 3 * ni + 2 = 62 + 3 * ni := (by omega); rw [z]; exact this)
    obtain ⟨E2, v0, J⟩ := k_mvAll (E := E0) 0 c
    have vf := k_mvJ0 J
    have vk : ∀ j, j < 3203 → E2.1 (2634 + ni) j = k_src E0 j := fun j hj => (J.1 j hj).1
    have v6 := J.2.2.2.2.2
    have v23 : E2.1 117 23 = Int32.ofNat ni := by rw [vf 117 23 (by omega) (by omega)]; exact h7.2.2.1
    rw [u0, Option.bind_some, u13 16 (by omega) (by omega) (by omega), h7.2.1, j_suc, Option.bind_some, k_ws, v0, Option.bind_some, v23, j_suc, Option.bind_some, k_ws]
    obtain ⟨D3, hD3⟩ : ∃ X, X = am_wI D2 16 2 (Int32.ofNat (ni + 1)) := ⟨_, rfl⟩
    obtain ⟨E3, hE3⟩ : ∃ X, X = am_wI E2 117 23 (Int32.ofNat (ni + 1)) := ⟨_, rfl⟩
    rw [← hD3, ← hE3]
    have dD : ∀ y, y ≠ 16 ∧ y ≠ 60 + 3 * ni ∧ y ≠ 60 + 3 * ni + 1 ∧ y ≠ 60 + 3 * ni + 2 → D3.1 y = D.1 y := fun y hy => by rw [hD3, j_wI_ne _ _ _ hy.1, u13 y hy.2.1 hy.2.2.1 hy.2.2.2]
    have dR : ∀ y, y ≠ 16 → D3.1 y = D2.1 y := fun y hy => by rw [hD3, j_wI_ne _ _ _ hy]
    have d17 : ∀ j : Nat, 0 ≤ j → D3.1 17 j = D.1 17 j := fun j _ => by rw [dD 17 (by omega)]
    have eE : ∀ y, y ≠ 117 ∧ y ≠ 2634 + ni → E3.1 y = E0.1 y := fun y hy => by
      rw [hE3, j_wI_ne _ _ _ hy.1]
      funext x
      exact vf y x hy.2 (by omega)
    have e117 : ∀ j, j ≠ 23 ∧ j ≠ 56 → E3.1 117 j = E0.1 117 j := fun j hj => by rw [hE3, k_wj _ _ hj.1]; exact vf 117 j (by omega) (by omega)
    have eK : ∀ j, j < 3203 → E3.1 (2634 + ni) j = k_src E0 j := fun j hj => by rw [hE3, j_wI_ne _ _ _ (by omega)]; exact vk j hj
    refine ⟨D3, E3, Int32.ofNat (ni + 1), rfl, rfl, ⟨ns, nm, nw, np, nh, ni + 1, k_Rs_mv h1 (d17 7 (by omega)) (e117 12 (by omega)) (fun y a b => dD y (by omega)) (eE _ (by omega)) (fun y a b => eE y (by omega)), k_Rm_mv h2 (d17 8 (by omega)) (e117 13 (by omega)) (fun y a b => dD y (by omega)) (eE _ (by omega)) (fun y a b => eE y (by omega)), k_Rn_mv h3 (dD _ (by omega)) (fun j _ => d17 j (by omega)) (dD _ (by omega)) (fun j a b => e117 j (by omega)) (eE _ (by omega)), k_Rw_mv h4 (d17 9 (by omega)) (e117 20 (by omega)) (fun y a b => dD y (by omega)) (fun y a b => eE y (by omega)), k_Rp_mv h5 (by rw [dD 24 (by omega)]) (e117 21 (by omega)) (fun y a b => dD y (by omega)) (fun y a b => eE y (by omega)), k_Rh_mv h6 (d17 10 (by omega)) (e117 22 (by omega)) (dD _ (by omega)) (eE _ (by omega)), ?_, ?_, k_Rt_mv h9 (dD _ (by omega)) (dD _ (by omega)) (e117 1 (by omega)) (e117 3 (by omega)) (eE _ (by omega))⟩, fun y hy => ⟨dD y (by omega), by rw [hD3]; show D2.2 y = D.2 y; rw [u14]⟩, k_fr_trans f0 (fun y hy => ⟨eE y (by omega), by rw [hE3]; show E2.2 y = E0.2 y; rw [v6]⟩)⟩
    · have k1 := h1
      have k2 := h2
      have k4 := h4
      have k5 := h5
      have k6 := h6
      obtain ⟨a1, a2, a3, a, a4⟩ := h7
      obtain ⟨a', ha'⟩ : ∃ f : Nat → Nat → Nat, ∀ i j, f i j = if i < ni then a i j else k_cn ns nm nw np nh j := ⟨_, fun _ _ => rfl⟩
      refine ⟨(by omega), by rw [hD3, k_ws], by rw [hE3, k_ws], a', fun i hi => ?_⟩
      by_cases ci : i < ni
      · obtain ⟨b1, b2, b3⟩ := a4 i ci
        have ef : a' i = a i := funext fun j => by rw [ha', if_pos ci]
        refine ⟨?_, fun j => by rw [ef]; exact b2 j, fun i2 j hi2 => by rw [ef, ha', if_pos (by omega)]; exact b3 i2 j hi2⟩
        rw [ef]
        have q0 : a i 0 ≤ ns := b2 0
        have q1 : a i 1 ≤ nm := b2 1
        have q2 : a i 2 ≤ nw := b2 2
        have q3 : a i 3 ≤ np := b2 3
        have q4 : a i 4 ≤ nh := b2 4
        have w1 := k1.1
        have w2 := k2.1
        have w4 := k4.1
        have w5 := k5.1
        exact k_im_mv b1 (dD _ (by omega)) (dD _ (by omega)) (dD _ (by omega)) (eE _ (by omega)) (fun s q => ⟨by rw [eE 139 (by omega)], fun k _ => by rw [eE (134 + s) (by omega)]⟩) (fun m q => ⟨by rw [eE 201 (by omega)], fun k j _ _ => by rw [eE _ (by omega)]⟩) (fun w j q _ => by rw [eE _ (by omega)]) (fun p j q _ => by rw [eE _ (by omega)]) (fun z q => by rw [eE 203 (by omega)])
      · have hin : i = ni := (by omega)
        subst hin
        have ef : a' i = k_cn ns nm nw np nh := funext fun j => by rw [ha', if_neg ci]
        refine ⟨?_, fun j => by rw [ef]; exact Nat.le_refl _, fun i2 j hi2 => by rw [ef, ha', if_pos hi2]; exact (a4 i2 hi2).2.1 j⟩
        rw [ef]
        have sc : ∀ j, j < 11 → k_src E0 j = E0.1 117 (12 + j) := fun j hj => by unfold k_src; rw [k_pos1 hj]
        have z1 : 61 + 3 * i = 60 + 3 * i + 1 := (by omega)
        have z2 : 62 + 3 * i = 60 + 3 * i + 2 := (by omega)
        have hns := k1.1
        have hnm := k2.1
        have hnw := k4.1
        have hnp := k5.1
        have hnh := k6.1
        refine ⟨⟨?_, ?_, ?_, ?_, ?_⟩, ⟨?_, ?_, ?_, ?_, ?_⟩, ?_, ?_, fun j hj => ?_, fun s q => ⟨?_, fun k hk => ?_⟩, fun m q => ⟨?_, fun k j hk hj => ?_⟩, fun w j q hj => ?_, fun p j q hj => ?_, fun z q => ?_⟩
        · rw [dR _ (by omega), u1]; exact k1.2.1
        · rw [dR _ (by omega), u2]; exact k2.2.1
        · rw [dR _ (by omega), u3]; exact k4.2.1
        · rw [dR _ (by omega), u4]; exact k5.2.1
        · rw [dR _ (by omega), u5]; exact k6.2.1
        · rw [eK _ (by omega), sc _ (by omega)]; exact k1.2.2.1
        · rw [eK _ (by omega), sc _ (by omega)]; exact k2.2.2.1
        · rw [eK _ (by omega), sc _ (by omega)]; exact k4.2.2.1
        · rw [eK _ (by omega), sc _ (by omega)]; exact k5.2.2.1
        · rw [eK _ (by omega), sc _ (by omega)]; exact k6.2.2.1
        · obtain ⟨w, o, s, b1, b2, b3, b4, b5, b6, b7⟩ := h3.1
          refine ⟨w, o, s, b1, ?_, ?_, ?_, ?_, ?_, ?_⟩
          · rw [z1, dR _ (by omega), u9]; exact b2
          · rw [z1, dR _ (by omega), u10]; exact b3
          · rw [z1, dR _ (by omega), u11]; exact b4
          · rw [eK _ (by omega), sc _ (by omega)]; exact b5
          · rw [eK _ (by omega), sc _ (by omega)]; exact b6
          · rw [eK _ (by omega), sc _ (by omega)]; exact b7
        · obtain ⟨x, y, z, b1, b2, b3, b4, b5, b6, c1, c2, c3, c4, c5, c6⟩ := h3.2.1
          refine ⟨x, y, z, b1, b2, b3, b4, b5, b6, ?_, ?_, ?_, ?_, ?_, ?_⟩
          · rw [dR _ (by omega), u6]; exact c1
          · rw [dR _ (by omega), u7]; exact c2
          · rw [dR _ (by omega), u8]; exact c3
          · rw [eK _ (by omega), sc _ (by omega)]; exact c4
          · rw [eK _ (by omega), sc _ (by omega)]; exact c5
          · rw [eK _ (by omega), sc _ (by omega)]; exact c6
        · rw [z2, dR _ (by omega), u12 j hj, eK _ (by omega)]
          unfold k_src
          rw [k_p202 hj]
          exact h3.2.2 j hj
        · have q : s < ns := q
          rw [eK _ (by omega), eE 139 (by omega)]
          unfold k_src
          rw [k_p139 (by omega)]
        · have q : s < ns := q
          rw [eK _ (by omega), eE (134 + s) (by omega)]
          unfold k_src
          rw [k_pS (by omega) hk]
        · have q : m < nm := q
          rw [eK _ (by omega), eE 201 (by omega)]
          unfold k_src
          rw [k_p201 (by omega)]
        · have q : m < nm := q
          rw [eK _ (by omega), eE _ (by omega)]
          unfold k_src
          rw [k_pM (by omega) hj]
        · have q : w < nw := q
          rw [eK _ (by omega), eE _ (by omega)]
          unfold k_src
          rw [k_pW (by omega) hj]
        · have q : p < np := q
          rw [eK _ (by omega), eE _ (by omega)]
          unfold k_src
          rw [k_pP (by omega) hj]
        · have q : z < nh := q
          rw [eK _ (by omega), eE 203 (by omega)]
          unfold k_src
          rw [k_p203 (by omega)]
    · exact k_Rd_mv h8 (fun y a b => dD y (by omega)) (fun j a b => e117 j (by omega)) (fun y _ => ⟨by rw [eE 221 (by omega)], by rw [eE 222 (by omega)]⟩) (fun y _ => by rw [eE 223 (by omega)]) (fun q _ hq k y hk _ => by rw [eE (225 + k) (by omega)])
  · rw [if_neg (by rw [j_lt, j_nat (by omega), e3]; omega), if_pos (by rw [j_eq, j_nat (by omega), e3]; omega)]
    exact ⟨D, E0, _, rfl, rfl, q0, k_fc_refl D, f0⟩
theorem k_bnd0 : k_bnd (fun _ => (0 : Int32)) := fun _ => show (-2047 : Int) ≤ (0 : Int32).toInt ∧ (0 : Int32).toInt ≤ 2047 by decide
theorem op_restore {D E : am_D} (h : k_Q D E) : k_opN D E (f_X11_restore D) (f_X12_restore E) := by
  obtain ⟨E0, hE0, t0, f0, q0⟩ := k_start h
  have q0' := q0
  obtain ⟨ns, nm, nw, np, nh, ni, h1, h2, h3, h4, h5, h6, h7, h8, h9⟩ := q0'

  have e0 : (0 : Int32).toInt = 0 := rfl
  have e3 : (3 : Int32).toInt = 3 := rfl
  have hni := h7.1
  unfold f_X12_restore
  rw [Option.bind_some, ← hE0, h7.2.2.1]
  unfold f_X11_restore
  rw [h7.2.1]
  by_cases c : ni = 0
  · rw [if_pos (by rw [j_le, j_nat (by omega), e0]; omega), if_pos (by rw [j_eq, j_nat (by omega), e0]; omega)]
    exact ⟨D, E0, _, rfl, rfl, q0, k_fc_refl D, f0⟩
  · obtain ⟨i, rfl⟩ : ∃ i, ni = i + 1 := ⟨ni - 1, (by omega)⟩
    rw [if_neg (by rw [j_le, j_nat (by omega), e0]; omega), if_pos (by rw [j_le, j_nat (by omega), e3]; omega), if_neg (by rw [j_eq, j_nat (by omega), e0]; omega), k_sub1, Option.bind_some, Option.bind_some, k_ws, k_ws, k_a (show i < 3 by omega) (by omega), Option.bind_some]
    obtain ⟨_, _, _, _, _, _, _, _, l9⟩ := k_lnK
    obtain ⟨D2, u0, ⟨u1, u2, u3, u4, u5, u6, u7, u8⟩, ⟨u9, u10, u11⟩, u12, u13, u14⟩ := k_give (D := am_wI D 16 2 (Int32.ofNat i)) (r := 60 + 3 * i) (by omega) (by have := l9 i (by omega); have z : 60 + 3 * i + 2 = 62 + 3 * i := (by omega); rw [z]; exact this)
    obtain ⟨E1, hE1⟩ : ∃ X, X = am_wI E0 117 23 (Int32.ofNat i) := ⟨_, rfl⟩
    obtain ⟨E2, v0, J⟩ := k_mvAll (E := E1) 1 (show i < 3 by omega)
    have r74 : j_rw 74 1200 := by
      refine ⟨?_, (by omega)⟩
      decide +kernel
    obtain ⟨D3, s0, s1, s2⟩ := j_row_start (D := D2) r74 0 (by omega)
    have s0 : f_X7_start (71 + 3) (0 : Int32) D2 = some D3 := s0
    have ec : f_X3_clear 71 D2 = some (am_wI (am_wI D3 71 6 0) 71 7 0) := by
      unfold f_X3_clear
      rw [s0]
      rfl
    rw [u0, Option.bind_some, ec, Option.bind_some, ← hE1, v0, Option.bind_some, Option.bind_some, Option.bind_some, Option.bind_some]
    obtain ⟨D4, hD4⟩ : ∃ X, X = am_wI (am_wI D3 71 6 0) 71 7 0 := ⟨_, rfl⟩
    obtain ⟨E4, hE4⟩ : ∃ X, X = am_wI (am_wI (am_wI E2 117 38 0) 117 39 0) 117 40 0 := ⟨_, rfl⟩
    rw [← hD4, ← hE4]
    -- class
    have dR : ∀ y, y ≠ 71 → y ≠ 74 → y ≠ 75 → D4.1 y = D2.1 y := fun y a b cc => by rw [hD4, j_wI_ne _ _ _ a, j_wI_ne _ _ _ a, (s2 y (by omega)).1]
    have w0 : ∀ y, y ≠ 16 → (am_wI D 16 2 (Int32.ofNat i)).1 y = D.1 y := fun y hy => j_wI_ne _ _ _ hy
    have dD : ∀ y, y ≠ 16 ∧ y ≠ 17 ∧ y ≠ 22 ∧ y ≠ 23 ∧ y ≠ 24 ∧ y ≠ 71 ∧ y ≠ 74 ∧ y ≠ 75 → D4.1 y = D.1 y := fun y hy => by rw [dR y (by omega) (by omega) (by omega), u13 y (by omega) (by omega) (by omega) (by omega), w0 y (by omega)]
    have d16 : D4.1 16 2 = Int32.ofNat i := by rw [dR 16 (by omega) (by omega) (by omega), u13 16 (by omega) (by omega) (by omega) (by omega), k_ws]
    -- reference
    obtain ⟨J1, J2, J3, J4, J5, J6⟩ := J
    have t1 : ∀ j, k_tgt E1 i 1 j = E0.1 (2634 + i) j := fun j => by unfold k_tgt; rw [if_neg k_10, hE1, j_wI_ne _ _ _ (by omega)]
    have vs : ∀ j, j < 3203 → k_src E2 j = E0.1 (2634 + i) j := fun j hj => by rw [(J1 j hj).2, t1]
    have vk : E2.1 (2634 + i) = E0.1 (2634 + i) := funext fun j => by
      by_cases cj : j < 3203
      · rw [(J1 j cj).1, t1]
      · rw [J2 j (by omega), hE1, j_wI_ne _ _ _ (by omega)]
    have vf : ∀ y x, y ≠ 2634 + i → ¬ (y = 117 ∧ x = 56) → ¬ (y = 117 ∧ x = 23) → (∀ j, j < 3203 → ¬ ((k_pos j).1 = y ∧ (k_pos j).2 = x)) → E2.1 y x = E0.1 y x := fun y x a b cc d => by
      rw [J5 y x a b d, hE1, k_w]
      by_cases c1 : y = 117
      · rw [if_pos c1, if_neg (fun q => cc ⟨c1, q⟩), c1]
      · rw [if_neg c1]
    have eR : ∀ y, y ≠ 117 → E4.1 y = E2.1 y := fun y hy => by rw [hE4, j_wI_ne _ _ _ hy, j_wI_ne _ _ _ hy, j_wI_ne _ _ _ hy]
    have eQ : ∀ j, j ≠ 38 → j ≠ 39 → j ≠ 40 → E4.1 117 j = E2.1 117 j := fun j a b cc => by rw [hE4, k_wj _ _ cc, k_wj _ _ b, k_wj _ _ a]
    have eE : ∀ y, y ≠ 117 → (y < 134 ∨ y = 140 ∨ y = 204 ∨ y = 205 ∨ y = 210 ∨ 221 ≤ y) → E4.1 y = E0.1 y := fun y hy hz => by
      rw [eR y hy]
      by_cases cy : y = 2634 + i
      · rw [cy, vk]
      · funext x
        refine vf y x cy (by omega) (by omega) fun j hj q => ?_
        have := (k_pos_all hj).2
        omega
    have e117 : ∀ j, (j < 12 ∨ 23 < j) ∧ j ≠ 38 ∧ j ≠ 39 ∧ j ≠ 40 ∧ j ≠ 56 → E4.1 117 j = E0.1 117 j := fun j hj => by
      rw [eQ j (by omega) (by omega) (by omega)]
      refine vf 117 j (by omega) (by omega) (by omega) fun q hq r => ?_
      have := (k_pos_all hq).2
      omega
    have sc : ∀ j, j < 11 → E4.1 117 (12 + j) = E0.1 (2634 + i) j := fun j hj => by
      rw [eQ _ (by omega) (by omega) (by omega), ← vs j (by omega)]
      unfold k_src
      rw [k_pos1 hj]
    have e23 : E4.1 117 23 = Int32.ofNat i := by
      rw [eQ _ (by omega) (by omega) (by omega), J5 117 23 (by omega) (by omega) (fun q hq r => by have := (k_pos_all hq).2; omega), hE1, k_ws]
    have g139 : ∀ s, s < 5 → E4.1 139 s = E0.1 (2634 + i) (11 + s) := fun s hs => by rw [eR _ (by omega), ← vs _ (by omega)]; unfold k_src; rw [k_p139 hs]
    have g201 : ∀ s, s < 5 → E4.1 201 s = E0.1 (2634 + i) (16 + s) := fun s hs => by rw [eR _ (by omega), ← vs _ (by omega)]; unfold k_src; rw [k_p201 hs]
    have g202 : ∀ s, s < 4 → E4.1 202 s = E0.1 (2634 + i) (21 + s) := fun s hs => by rw [eR _ (by omega), ← vs _ (by omega)]; unfold k_src; rw [k_p202 hs]
    have g203 : ∀ s, s < 6 → E4.1 203 s = E0.1 (2634 + i) (25 + s) := fun s hs => by rw [eR _ (by omega), ← vs _ (by omega)]; unfold k_src; rw [k_p203 hs]
    have gS : ∀ s k, s < 5 → k < 600 → E4.1 (134 + s) k = E0.1 (2634 + i) (31 + 600 * s + k) := fun s k hs hk => by rw [eR _ (by omega), ← vs _ (by omega)]; unfold k_src; rw [k_pS hs hk]
    have gM : ∀ m j, m < 60 → j < 2 → E4.1 (141 + m) j = E0.1 (2634 + i) (3031 + 2 * m + j) := fun m j hm hj => by rw [eR _ (by omega), ← vs _ (by omega)]; unfold k_src; rw [k_pM hm hj]
    have gW : ∀ w j, w < 4 → j < 3 → E4.1 (206 + w) j = E0.1 (2634 + i) (3151 + 3 * w + j) := fun m j hm hj => by rw [eR _ (by omega), ← vs _ (by omega)]; unfold k_src; rw [k_pW hm hj]
    have gP : ∀ w j, w < 10 → j < 4 → E4.1 (211 + w) j = E0.1 (2634 + i) (3163 + 4 * w + j) := fun m j hm hj => by rw [eR _ (by omega), ← vs _ (by omega)]; unfold k_src; rw [k_pP hm hj]
    -- the image
    obtain ⟨a1, a2, a3, a, a4⟩ := h7
    obtain ⟨⟨⟨b1, b2, b3, b4, b5⟩, ⟨c1, c2, c3, c4, c5⟩, b6, b7, b8, b9, b10, b11, b12, b13⟩, bl, br⟩ := a4 i (by omega)
    have q0 : a i 0 ≤ ns := bl 0
    have q1 : a i 1 ≤ nm := bl 1
    have q2 : a i 2 ≤ nw := bl 2
    have q3 : a i 3 ≤ np := bl 3
    have q4 : a i 4 ≤ nh := bl 4
    have hns := h1.1
    have hnm := h2.1
    have hnw := h4.1
    have hnp := h5.1
    have hnh := h6.1
    have m139 : ∀ s, s < a i 0 → E4.1 139 s = E0.1 139 s := fun s hs => by rw [g139 s (by omega)]; exact (b9 s hs).1
    have mS : ∀ s k, s < a i 0 → k < 600 → E4.1 (134 + s) k = E0.1 (134 + s) k := fun s k hs hk => by rw [gS s k (by omega) hk]; exact (b9 s hs).2 k hk
    have m201 : ∀ m, m < a i 1 → E4.1 201 m = E0.1 201 m := fun s hs => by rw [g201 s (by omega)]; exact (b10 s hs).1
    have mM : ∀ m k j, m < a i 1 → k < 12 → j < 2 → E4.1 (141 + (12 * m + k)) j = E0.1 (141 + (12 * m + k)) j := fun m k j hm hk hj => by rw [gM _ j (by omega) hj]; exact (b10 m hm).2 k j hk hj
    have mW : ∀ w j, w < a i 2 → j < 3 → E4.1 (206 + w) j = E0.1 (206 + w) j := fun w j hw hj => by rw [gW w j (by omega) hj]; exact b11 w j hw hj
    have mP : ∀ w j, w < a i 3 → j < 4 → E4.1 (211 + w) j = E0.1 (211 + w) j := fun w j hw hj => by rw [gP w j (by omega) hj]; exact b12 w j hw hj
    have mH : ∀ z, z < a i 4 → E4.1 203 z = E0.1 203 z := fun z hz => by rw [g203 z (by omega)]; exact b13 z hz
    have z1 : 61 + 3 * i = 60 + 3 * i + 1 := (by omega)
    have z2 : 62 + 3 * i = 60 + 3 * i + 2 := (by omega)
    rw [z1] at b6
    rw [z2] at b8
    refine ⟨D4, E4, Int32.ofNat i, by rw [d16], by rw [e23], ⟨a i 0, a i 1, a i 2, a i 3, a i 4, i, ?_, ?_, ?_, ?_, ?_, ?_, ?_, ?_, ?_⟩, fun y hy => ⟨dD y (by omega), ?_⟩, k_fr_trans f0 (fun y hy => ⟨eE y (by omega) (by omega), ?_⟩)⟩
    · refine ⟨(by omega), ?_, ?_, fun s hs => ?_⟩
      · rw [dR _ (by omega) (by omega) (by omega), u1, w0 _ (by omega)]; exact b1
      · rw [sc 0 (by omega)]; exact c1
      · obtain ⟨n, f, x1, x2, x3, x4, x5, x6⟩ := h1.2.2.2 s (by omega)
        exact ⟨n, f, x1, x2, j_row_fr x3 (dD _ (by omega)) (dD _ (by omega)), by rw [m139 s hs]; exact x4, fun k hk => by rw [mS s k hs (by omega)]; exact x5 k hk, x6⟩
    · refine ⟨(by omega), ?_, ?_, fun s hs => ?_⟩
      · rw [dR _ (by omega) (by omega) (by omega), u2, w0 _ (by omega)]; exact b2
      · rw [sc 1 (by omega)]; exact c2
      · obtain ⟨n, f, t, x1, x2, x3⟩ := h2.2.2.2 s (by omega)
        have hn := x1.2.1
        exact ⟨n, f, t, x1, j_map_fr x2 (dD _ (by omega)) (dD _ (by omega)) (dD _ (by omega)), by rw [m201 s hs]; exact x3.1, fun k hk => by rw [mM s k 0 hs (by omega) (by omega), mM s k 1 hs (by omega) (by omega)]; exact x3.2 k hk⟩
    · refine ⟨?_, ?_, fun j hj => ?_⟩
      · obtain ⟨w, o, s, x1, x2, x3, x4, x5, x6, x7⟩ := b6
        refine ⟨w, o, s, x1, ?_, ?_, ?_, ?_, ?_, ?_⟩
        · rw [dR _ (by omega) (by omega) (by omega), u9, w0 _ (by omega)]; exact x2
        · rw [dR _ (by omega) (by omega) (by omega), u10, w0 _ (by omega)]; exact x3
        · rw [dR _ (by omega) (by omega) (by omega), u11, w0 _ (by omega)]; exact x4
        · rw [sc 2 (by omega)]; exact x5
        · rw [sc 3 (by omega)]; exact x6
        · rw [sc 4 (by omega)]; exact x7
      · obtain ⟨x, y, z, x1, x2, x3, x4, x5, x6, y1, y2, y3, y4, y5, y6⟩ := b7
        refine ⟨x, y, z, x1, x2, x3, x4, x5, x6, ?_, ?_, ?_, ?_, ?_, ?_⟩
        · rw [dR _ (by omega) (by omega) (by omega), u6, w0 _ (by omega)]; exact y1
        · rw [dR _ (by omega) (by omega) (by omega), u7, w0 _ (by omega)]; exact y2
        · rw [dR _ (by omega) (by omega) (by omega), u8, w0 _ (by omega)]; exact y3
        · rw [sc 5 (by omega)]; exact y4
        · rw [sc 6 (by omega)]; exact y5
        · rw [sc 7 (by omega)]; exact y6
      · rw [dR _ (by omega) (by omega) (by omega), u12 j hj, w0 _ (by omega), g202 j hj]
        exact b8 j hj
    · refine ⟨(by omega), ?_, ?_, fun s hs => ?_⟩
      · rw [dR _ (by omega) (by omega) (by omega), u3, w0 _ (by omega)]; exact b3
      · rw [sc 8 (by omega)]; exact c3
      · have x := h4.2.2.2 s (by omega)
        unfold k_way at x ⊢
        rw [dD _ (by omega), mW s 0 hs (by omega), mW s 1 hs (by omega), mW s 2 hs (by omega)]
        exact x
    · refine ⟨(by omega), ?_, ?_, fun s hs => ?_⟩
      · rw [dR _ (by omega) (by omega) (by omega), u4, w0 _ (by omega)]; exact b4
      · rw [sc 9 (by omega)]; exact c4
      · have x := h5.2.2.2 s (by omega)
        unfold k_prt at x ⊢
        rw [dD 25 (by omega), dD 26 (by omega), dD 27 (by omega), dD 28 (by omega), mP s 0 hs (by omega), mP s 1 hs (by omega), mP s 2 hs (by omega), mP s 3 hs (by omega)]
        exact x
    · refine ⟨(by omega), ?_, ?_, fun s hs => ?_⟩
      · rw [dR _ (by omega) (by omega) (by omega), u5, w0 _ (by omega)]; exact b5
      · rw [sc 10 (by omega)]; exact c5
      · rw [dD 21 (by omega), mH s hs]
        exact h6.2.2.2 s (by omega)
    · refine ⟨(by omega), d16, e23, fun k j => a k (min j 4), fun k hk => ?_⟩
      obtain ⟨x1, x2, x3⟩ := a4 k (by omega)
      have ef : ∀ j, k_cn (a i 0) (a i 1) (a i 2) (a i 3) (a i 4) j = a i (min j 4) := fun j => by
        have cj : j = 0 ∨ j = 1 ∨ j = 2 ∨ j = 3 ∨ 4 ≤ j := (by omega)
        rcases cj with rfl | rfl | rfl | rfl | cj
        · rfl
        · rfl
        · rfl
        · rfl
        · have z : min j 4 = 4 := (by omega)
          rw [z]
          unfold k_cn
          rw [if_neg (by omega), if_neg (by omega), if_neg (by omega), if_neg (by omega)]
      have y0 := br k 0 hk
      have y1 := br k 1 hk
      have y2 := br k 2 hk
      have y3 := br k 3 hk
      have y4 := br k 4 hk
      refine ⟨?_, fun j => by rw [ef]; exact br k (min j 4) hk, fun i2 j hi2 => x3 i2 (min j 4) hi2⟩
      have x5 := k_im_mv x1 (dD _ (by omega)) (dD _ (by omega)) (dD _ (by omega)) (eE (2634 + k) (by omega) (by omega)) (fun s q => ⟨m139 s (by omega), fun z hz => mS s z (by omega) hz⟩) (fun m q => ⟨m201 m (by omega), fun z j hz hj => mM m z j (by omega) hz hj⟩) (fun w j q hj => mW w j (by omega) hj) (fun p j q hj => mP p j (by omega) hj) (fun z q => mH z (by omega))
      exact x5
    · refine ⟨0, fun _ => 0, 0, 1, (by omega), ?_, ?_, fun k hk => absurd hk (by omega), k_bnd0, ?_, ?_, (by omega), fun k hk => absurd hk (by omega), ?_, ?_, fun q => ?_, ?_, ?_⟩
      · exact j_row_fr s1 (by rw [hD4, j_wI_ne _ _ _ (by decide), j_wI_ne _ _ _ (by decide)]) (by rw [hD4, j_wI_ne _ _ _ (by decide), j_wI_ne _ _ _ (by decide)])
      · rw [hE4, k_wj _ _ (by decide), k_wj _ _ (by decide), k_ws]; rfl
      · rw [hD4, k_wj _ _ (by decide), k_ws]; rfl
      · rw [hE4, k_wj _ _ (by decide), k_ws]; rfl
      · rw [hD4, k_ws, hE4, k_ws]
      · exact Or.inl (by rw [hE4, k_ws])
      · rw [hE4, k_ws] at q
        exact absurd q (by decide)
      · obtain ⟨L, out, q, st, x⟩ := h8
        rw [eE 223 (by omega) (by omega)]
        exact x.2.2.2.2.2.2.2.2.2.2.2.2.1
      · obtain ⟨L, out, q, st, x⟩ := h8
        rw [eE 223 (by omega) (by omega)]
        exact x.2.2.2.2.2.2.2.2.2.2.2.2.2
    · exact k_Rt_mv h9 (dD _ (by omega)) (dD _ (by omega)) (e117 1 (by omega)) (e117 3 (by omega)) (eE _ (by omega) (by omega))
    · rw [hD4]
      show D3.2 y = D.2 y
      rw [(s2 y (by omega)).2, u14]
      rfl
    · rw [hE4]
      show E2.2 y = E0.2 y
      rw [J6, hE1]
      rfl
