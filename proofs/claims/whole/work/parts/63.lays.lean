/-! laid aside and laid back, whole -/
/-- what lies aside -/
def k_as (E E2 : am_D) (q : Nat) : Prop := (∀ y, y < 1200 → E2.1 1425 y = E.1 221 y ∧ E2.1 1426 y = E.1 222 y) ∧ (∀ y, y < 26 → E2.1 1427 y = E.1 223 y) ∧ (∀ k y, k < q → y < 3 → E2.1 (1429 + k) y = E.1 (225 + k) y) ∧ E2.1 117 46 = E.1 117 36 ∧ E2.1 117 47 = E.1 117 37 ∧ E2.1 117 48 = E.1 117 38 ∧ E2.1 117 49 = Int32.ofNat q ∧ E2.1 117 50 = E.1 117 40
theorem k_lays (E : am_D) (q : Nat) (hq : q ≤ 1200) (h39 : E.1 117 39 = Int32.ofNat q) (h40 : E.1 117 40 = 0 ∨ E.1 117 40 = 1) : ∃ E2, f_X12_lays E = some E2 ∧ k_as E E2 q ∧ (∀ y, y ≠ 117 → (y < 1425 ∨ 2629 ≤ y) → E2.1 y = E.1 y) ∧ (∀ j, (j < 46 ∨ 50 < j) → E2.1 117 j = E.1 117 j) ∧ E2.2 = E.2 := by
  obtain ⟨E2, e2, a1, a2, a3⟩ := k_ly_rows E
  obtain ⟨E3, e3, b1, b2, b3⟩ := k_ly_marks E2
  obtain ⟨E4, e4, c1, c2, c3⟩ := k_ly_seams E3 q hq (by rw [b2 117 (by decide), a2 117 (by decide) (by decide)]; exact h39)
  have m : ∀ y, (y < 1425 ∨ 2629 ≤ y) → E4.1 y = E.1 y := fun y hy => by rw [c2 y (by omega), b2 y (by omega), a2 y (by omega) (by omega)]
  have m4 : E4.1 117 = E.1 117 := m 117 (by omega)
  obtain ⟨E5, h5⟩ : ∃ E5, E5 = am_wI (am_wI (am_wI (am_wI (am_wI E4 117 46 (E.1 117 36)) 117 47 (E.1 117 37)) 117 48 (E.1 117 38)) 117 49 (E.1 117 39)) 117 50 (E.1 117 40) := ⟨_, rfl⟩
  have f5 : ∀ y, y ≠ 117 → E5.1 y = E4.1 y := fun y hy => by rw [h5, j_wI_ne _ _ _ hy, j_wI_ne _ _ _ hy, j_wI_ne _ _ _ hy, j_wI_ne _ _ _ hy, j_wI_ne _ _ _ hy]
  refine ⟨E5, ?_, ⟨fun y hy => ?_, fun y hy => ?_, fun k y hk hy => ?_, ?_, ?_, ?_, ?_, ?_⟩, fun y h1 h2 => ?_, fun j hj => ?_, ?_⟩
  · unfold f_X12_lays
    rw [e2, Option.bind_some, e3, Option.bind_some, e4, Option.bind_some, Option.bind_some, Option.bind_some, Option.bind_some, Option.bind_some]
    rw [k_wj _ _ (by decide), k_wj _ _ (by decide), k_wj _ _ (by decide), k_wj _ _ (by decide), k_wj _ _ (by decide), k_wj _ _ (by decide), k_wj _ _ (by decide), k_wj _ _ (by decide), k_wj _ _ (by decide), k_wj _ _ (by decide), m4]
    have z : am_zb (E.1 117 40) = some (E.1 117 40) := by unfold am_zb; rw [if_pos h40]
    rw [z, ← h5]
    rfl
  · rw [f5 _ (by decide), f5 _ (by decide), c2 _ (by omega), c2 _ (by omega), b2 _ (by decide), b2 _ (by decide)]; exact a1 y hy
  · rw [f5 _ (by decide), c2 _ (by omega), b1 y hy, a2 _ (by decide) (by decide)]
  · rw [f5 _ (by omega), c1 k y hk hy, b2 _ (by omega), a2 _ (by omega) (by omega)]
  · rw [h5, k_wj _ _ (by decide), k_wj _ _ (by decide), k_wj _ _ (by decide), k_wj _ _ (by decide), k_ws]
  · rw [h5, k_wj _ _ (by decide), k_wj _ _ (by decide), k_wj _ _ (by decide), k_ws]
  · rw [h5, k_wj _ _ (by decide), k_wj _ _ (by decide), k_ws]
  · rw [h5, k_wj _ _ (by decide), k_ws, h39]
  · rw [h5, k_ws]
  · rw [f5 y h1, m y h2]
  · rw [h5, k_wj _ _ (by omega), k_wj _ _ (by omega), k_wj _ _ (by omega), k_wj _ _ (by omega), k_wj _ _ (by omega), m4]
  · rw [h5]
    show E4.2 = E.2
    rw [c3, b3, a3]
/-- the drawing is as it was -/
def k_back (E E2 : am_D) (q : Nat) : Prop := (∀ y, y < 1200 → E2.1 221 y = E.1 221 y ∧ E2.1 222 y = E.1 222 y) ∧ (∀ y, y < 26 → E2.1 223 y = E.1 223 y) ∧ (∀ k y, k < q → y < 3 → E2.1 (225 + k) y = E.1 (225 + k) y) ∧ (∀ j, 36 ≤ j → j ≤ 40 → E2.1 117 j = E.1 117 j)
theorem k_laysBack {E E3 : am_D} (q : Nat) (hq : q ≤ 1200) (h39 : E.1 117 39 = Int32.ofNat q) (h40 : E.1 117 40 = 0 ∨ E.1 117 40 = 1) (ha : k_as E E3 q) : ∃ E4, f_X12_laysBack E3 = some E4 ∧ k_back E E4 q ∧ (∀ y, y ≠ 117 → (y < 221 ∨ 1425 ≤ y) → E4.1 y = E3.1 y) ∧ (∀ j, (j < 36 ∨ 40 < j) → E4.1 117 j = E3.1 117 j) ∧ E4.2 = E3.2 := by
  obtain ⟨q1, q2, q3, q4, q5, q6, q7, q8⟩ := ha
  obtain ⟨E2, e2, a1, a2, a3⟩ := k_lb_rows E3
  obtain ⟨E4, e3, b1, b2, b3⟩ := k_lb_marks E2
  obtain ⟨E5, e4, c1, c2, c3⟩ := k_lb_seams E4 q hq (by rw [b2 117 (by decide), a2 117 (by decide) (by decide)]; exact q7)
  have m : ∀ y, (y < 221 ∨ 1425 ≤ y) → E5.1 y = E3.1 y := fun y hy => by rw [c2 y (by omega), b2 y (by omega), a2 y (by omega) (by omega)]
  have m4 : E5.1 117 = E3.1 117 := m 117 (by omega)
  obtain ⟨E6, h5⟩ : ∃ E6, E6 = am_wI (am_wI (am_wI (am_wI (am_wI E5 117 36 (E.1 117 36)) 117 37 (E.1 117 37)) 117 38 (E.1 117 38)) 117 39 (E.1 117 39)) 117 40 (E.1 117 40) := ⟨_, rfl⟩
  have f5 : ∀ y, y ≠ 117 → E6.1 y = E5.1 y := fun y hy => by rw [h5, j_wI_ne _ _ _ hy, j_wI_ne _ _ _ hy, j_wI_ne _ _ _ hy, j_wI_ne _ _ _ hy, j_wI_ne _ _ _ hy]
  refine ⟨E6, ?_, ⟨fun y hy => ?_, fun y hy => ?_, fun k y hk hy => ?_, fun j h1 h2 => ?_⟩, fun y h1 h2 => ?_, fun j hj => ?_, ?_⟩
  · unfold f_X12_laysBack
    rw [e2, Option.bind_some, e3, Option.bind_some, e4, Option.bind_some, Option.bind_some, Option.bind_some, Option.bind_some, Option.bind_some]
    rw [k_wj _ _ (by decide), k_wj _ _ (by decide), k_wj _ _ (by decide), k_wj _ _ (by decide), k_wj _ _ (by decide), k_wj _ _ (by decide), k_wj _ _ (by decide), k_wj _ _ (by decide), k_wj _ _ (by decide), k_wj _ _ (by decide), m4, q4, q5, q6, q7, q8]
    have z : am_zb (E.1 117 40) = some (E.1 117 40) := by unfold am_zb; rw [if_pos h40]
    rw [z, ← h39, ← h5]
    rfl
  · rw [f5 _ (by decide), f5 _ (by decide), c2 _ (by omega), c2 _ (by omega), b2 _ (by decide), b2 _ (by decide), (a1 y hy).1, (a1 y hy).2]; exact q1 y hy
  · rw [f5 _ (by decide), c2 _ (by omega), b1 y hy, a2 _ (by decide) (by decide)]; exact q2 y hy
  · rw [f5 _ (by omega), c1 k y hk hy, b2 _ (by omega), a2 _ (by omega) (by omega)]; exact q3 k y hk hy
  · rw [h5]
    by_cases d40 : j = 40
    · rw [d40, k_ws]
    · rw [k_wj _ _ d40]
      by_cases d39 : j = 39
      · rw [d39, k_ws]
      · rw [k_wj _ _ d39]
        by_cases d38 : j = 38
        · rw [d38, k_ws]
        · rw [k_wj _ _ d38]
          by_cases d37 : j = 37
          · rw [d37, k_ws]
          · have d36 : j = 36 := by omega
            rw [k_wj _ _ d37, d36, k_ws]
  · rw [f5 y h1, m y h2]
  · rw [h5, k_wj _ _ (by omega), k_wj _ _ (by omega), k_wj _ _ (by omega), k_wj _ _ (by omega), k_wj _ _ (by omega), m4]
  · rw [h5]
    show E5.2 = E3.2
    rw [c3, b3, a3]
