/-! the drawing laid aside in the reference, and laid back -/
theorem k_ly_rows (E : am_D) : ∃ E2, f_X12_lays_L2 am_fu 0 E = some E2 ∧ (∀ y, y < 1200 → E2.1 1425 y = E.1 221 y ∧ E2.1 1426 y = E.1 222 y) ∧ (∀ y, y ≠ 1425 → y ≠ 1426 → E2.1 y = E.1 y) ∧ E2.2 = E.2 := by
  have key := k_ind (P := fun fu k => ∀ E1 : am_D, (∀ y, y < k → E1.1 1425 y = E.1 221 y ∧ E1.1 1426 y = E.1 222 y) → (∀ y, y ≠ 1425 → y ≠ 1426 → E1.1 y = E.1 y) → E1.2 = E.2 → ∃ E2, f_X12_lays_L2 fu (Int32.ofNat k) E1 = some E2 ∧ (∀ y, y < 1200 → E2.1 1425 y = E.1 221 y ∧ E2.1 1426 y = E.1 222 y) ∧ (∀ y, y ≠ 1425 → y ≠ 1426 → E2.1 y = E.1 y) ∧ E2.2 = E.2) 1200
    (by
      intro fu k hk ih E1 h1 h2 h3
      have c : ¬ (1200 : Int32) ≤ Int32.ofNat k := by rw [j_le, j_nat (by omega), show (1200 : Int32).toInt = 1200 from rfl]; omega
      rw [f_X12_lays_L2, if_neg c, k_g (by omega) (by omega), h2 221 (by decide) (by decide)]
      simp only [Option.bind_some]
      rw [k_p _ (by omega) (by omega)]
      simp only [Option.bind_some]
      rw [k_g (by omega) (by omega), j_wI_ne _ _ _ (by decide), h2 222 (by decide) (by decide)]
      simp only [Option.bind_some]
      rw [k_p _ (by omega) (by omega), j_suc]
      simp only [Option.bind_some]
      refine ih _ (fun y hy => ?_) (fun y hy hy2 => by rw [j_wI_ne _ _ _ hy2, j_wI_ne _ _ _ hy]; exact h2 y hy hy2) h3
      rw [j_wI_ne _ _ _ (by decide), j_wI_at, j_wI_at, j_wI_ne _ _ _ (by decide)]
      by_cases c1 : y = k
      · rw [if_pos c1, if_pos c1, c1]; exact ⟨rfl, rfl⟩
      · rw [if_neg c1, if_neg c1]; exact h1 y (by omega)) (by
      intro fu E1 h1 h2 h3
      have c : (1200 : Int32) ≤ Int32.ofNat 1200 := Int32.le_refl _
      rw [f_X12_lays_L2, if_pos c]
      exact ⟨E1, rfl, h1, h2, h3⟩) am_fu 0 (by omega) (by unfold am_fu; omega) E (fun y hy => absurd hy (by omega)) (fun _ _ _ => rfl) rfl
  exact key
theorem k_ly_marks (E : am_D) : ∃ E2, f_X12_lays_L41 am_fu 0 E = some E2 ∧ (∀ y, y < 26 → E2.1 1427 y = E.1 223 y) ∧ (∀ y, y ≠ 1427 → E2.1 y = E.1 y) ∧ E2.2 = E.2 := by
  have key := k_ind (P := fun fu k => ∀ E1 : am_D, (∀ y, y < k → E1.1 1427 y = E.1 223 y) → (∀ y, y ≠ 1427 → E1.1 y = E.1 y) → E1.2 = E.2 → ∃ E2, f_X12_lays_L41 fu (Int32.ofNat k) E1 = some E2 ∧ (∀ y, y < 26 → E2.1 1427 y = E.1 223 y) ∧ (∀ y, y ≠ 1427 → E2.1 y = E.1 y) ∧ E2.2 = E.2) 26
    (by
      intro fu k hk ih E1 h1 h2 h3
      have c : ¬ (26 : Int32) ≤ Int32.ofNat k := by rw [j_le, j_nat (by omega), show (26 : Int32).toInt = 26 from rfl]; omega
      rw [f_X12_lays_L41, if_neg c, k_g (by omega) (by omega), h2 223 (by decide)]
      simp only [Option.bind_some]
      rw [k_p _ (by omega) (by omega), j_suc]
      simp only [Option.bind_some]
      refine ih _ (fun y hy => ?_) (fun y hy => by rw [j_wI_ne _ _ _ hy]; exact h2 y hy) h3
      rw [j_wI_at]
      by_cases c1 : y = k
      · rw [if_pos c1, c1]
      · rw [if_neg c1]; exact h1 y (by omega)) (by
      intro fu E1 h1 h2 h3
      have c : (26 : Int32) ≤ Int32.ofNat 26 := Int32.le_refl _
      rw [f_X12_lays_L41, if_pos c]
      exact ⟨E1, rfl, h1, h2, h3⟩) am_fu 0 (by omega) (by unfold am_fu; omega) E (fun y hy => absurd hy (by omega)) (fun _ _ => rfl) rfl
  exact key
theorem k_ly_seam (E : am_D) (q : Nat) (hq : q < 1200) : ∃ E2, f_X12_lays_L77 (Int32.ofNat q) am_fu 0 E = some E2 ∧ (∀ y, y < 3 → E2.1 (1429 + q) y = E.1 (225 + q) y) ∧ (∀ y, y ≠ 1429 + q → E2.1 y = E.1 y) ∧ E2.2 = E.2 := by
  have key := k_ind (P := fun fu k => ∀ E1 : am_D, (∀ y, y < k → E1.1 (1429 + q) y = E.1 (225 + q) y) → (∀ y, y ≠ 1429 + q → E1.1 y = E.1 y) → E1.2 = E.2 → ∃ E2, f_X12_lays_L77 (Int32.ofNat q) fu (Int32.ofNat k) E1 = some E2 ∧ (∀ y, y < 3 → E2.1 (1429 + q) y = E.1 (225 + q) y) ∧ (∀ y, y ≠ 1429 + q → E2.1 y = E.1 y) ∧ E2.2 = E.2) 3
    (by
      intro fu k hk ih E1 h1 h2 h3
      have c : ¬ (3 : Int32) ≤ Int32.ofNat k := by rw [j_le, j_nat (by omega), show (3 : Int32).toInt = 3 from rfl]; omega
      rw [f_X12_lays_L77, if_neg c, k_a hq (by omega)]
      simp only [Option.bind_some]
      rw [k_g (by omega) (by omega), h2 (225 + q) (by omega)]
      simp only [Option.bind_some]
      rw [k_p _ (by omega) (by omega), j_suc]
      simp only [Option.bind_some]
      refine ih _ (fun y hy => ?_) (fun y hy => by rw [j_wI_ne _ _ _ hy]; exact h2 y hy) h3
      rw [j_wI_at]
      by_cases c1 : y = k
      · rw [if_pos c1, c1]
      · rw [if_neg c1]; exact h1 y (by omega)) (by
      intro fu E1 h1 h2 h3
      have c : (3 : Int32) ≤ Int32.ofNat 3 := Int32.le_refl _
      rw [f_X12_lays_L77, if_pos c]
      exact ⟨E1, rfl, h1, h2, h3⟩) am_fu 0 (by omega) (by unfold am_fu; omega) E (fun y hy => absurd hy (by omega)) (fun _ _ => rfl) rfl
  exact key
theorem k_ly_seams (E : am_D) (q : Nat) (hq : q ≤ 1200) (h39 : E.1 117 39 = Int32.ofNat q) : ∃ E2, f_X12_lays_L67 am_fu 0 E = some E2 ∧ (∀ k y, k < q → y < 3 → E2.1 (1429 + k) y = E.1 (225 + k) y) ∧ (∀ y, (y < 1429 ∨ 1429 + 1200 ≤ y) → E2.1 y = E.1 y) ∧ E2.2 = E.2 := by
  have key := k_ind (P := fun fu k => ∀ E1 : am_D, (∀ z y, z < k → y < 3 → E1.1 (1429 + z) y = E.1 (225 + z) y) → (∀ y, (y < 1429 ∨ 1429 + 1200 ≤ y) → E1.1 y = E.1 y) → E1.2 = E.2 → ∃ E2, f_X12_lays_L67 fu (Int32.ofNat k) E1 = some E2 ∧ (∀ z y, z < q → y < 3 → E2.1 (1429 + z) y = E.1 (225 + z) y) ∧ (∀ y, (y < 1429 ∨ 1429 + 1200 ≤ y) → E2.1 y = E.1 y) ∧ E2.2 = E.2) q
    (by
      intro fu k hk ih E1 h1 h2 h3
      rw [f_X12_lays_L67, h2 117 (by omega), h39, if_neg (by rw [j_le, j_nat (by omega), j_nat (by omega)]; omega)]
      obtain ⟨E2, e2, a1, a2, a3⟩ := k_ly_seam E1 k (by omega)
      rw [e2, j_suc]
      simp only [Option.bind_some]
      refine ih _ (fun z y hz hy => ?_) (fun y hy => by rw [a2 y (by omega)]; exact h2 y hy) (a3.trans h3)
      by_cases c1 : z = k
      · rw [c1, a1 y hy, h2 (225 + k) (by omega)]
      · rw [a2 (1429 + z) (by omega)]; exact h1 z y (by omega) hy) (by
      intro fu E1 h1 h2 h3
      rw [f_X12_lays_L67, h2 117 (by omega), h39, if_pos (Int32.le_refl _)]
      exact ⟨E1, rfl, h1, h2, h3⟩) am_fu 0 (by omega) (by unfold am_fu; omega) E (fun z y hz => absurd hz (by omega)) (fun _ _ => rfl) rfl
  exact key
theorem k_lb_rows (E : am_D) : ∃ E2, f_X12_laysBack_L2 am_fu 0 E = some E2 ∧ (∀ y, y < 1200 → E2.1 221 y = E.1 1425 y ∧ E2.1 222 y = E.1 1426 y) ∧ (∀ y, y ≠ 221 → y ≠ 222 → E2.1 y = E.1 y) ∧ E2.2 = E.2 := by
  have key := k_ind (P := fun fu k => ∀ E1 : am_D, (∀ y, y < k → E1.1 221 y = E.1 1425 y ∧ E1.1 222 y = E.1 1426 y) → (∀ y, y ≠ 221 → y ≠ 222 → E1.1 y = E.1 y) → E1.2 = E.2 → ∃ E2, f_X12_laysBack_L2 fu (Int32.ofNat k) E1 = some E2 ∧ (∀ y, y < 1200 → E2.1 221 y = E.1 1425 y ∧ E2.1 222 y = E.1 1426 y) ∧ (∀ y, y ≠ 221 → y ≠ 222 → E2.1 y = E.1 y) ∧ E2.2 = E.2) 1200
    (by
      intro fu k hk ih E1 h1 h2 h3
      have c : ¬ (1200 : Int32) ≤ Int32.ofNat k := by rw [j_le, j_nat (by omega), show (1200 : Int32).toInt = 1200 from rfl]; omega
      rw [f_X12_laysBack_L2, if_neg c, k_g (by omega) (by omega), h2 1425 (by decide) (by decide)]
      simp only [Option.bind_some]
      rw [k_p _ (by omega) (by omega)]
      simp only [Option.bind_some]
      rw [k_g (by omega) (by omega), j_wI_ne _ _ _ (by decide), h2 1426 (by decide) (by decide)]
      simp only [Option.bind_some]
      rw [k_p _ (by omega) (by omega), j_suc]
      simp only [Option.bind_some]
      refine ih _ (fun y hy => ?_) (fun y hy hy2 => by rw [j_wI_ne _ _ _ hy2, j_wI_ne _ _ _ hy]; exact h2 y hy hy2) h3
      rw [j_wI_ne _ _ _ (by decide), j_wI_at, j_wI_at, j_wI_ne _ _ _ (by decide)]
      by_cases c1 : y = k
      · rw [if_pos c1, if_pos c1, c1]; exact ⟨rfl, rfl⟩
      · rw [if_neg c1, if_neg c1]; exact h1 y (by omega)) (by
      intro fu E1 h1 h2 h3
      have c : (1200 : Int32) ≤ Int32.ofNat 1200 := Int32.le_refl _
      rw [f_X12_laysBack_L2, if_pos c]
      exact ⟨E1, rfl, h1, h2, h3⟩) am_fu 0 (by omega) (by unfold am_fu; omega) E (fun y hy => absurd hy (by omega)) (fun _ _ _ => rfl) rfl
  exact key
theorem k_lb_marks (E : am_D) : ∃ E2, f_X12_laysBack_L41 am_fu 0 E = some E2 ∧ (∀ y, y < 26 → E2.1 223 y = E.1 1427 y) ∧ (∀ y, y ≠ 223 → E2.1 y = E.1 y) ∧ E2.2 = E.2 := by
  have key := k_ind (P := fun fu k => ∀ E1 : am_D, (∀ y, y < k → E1.1 223 y = E.1 1427 y) → (∀ y, y ≠ 223 → E1.1 y = E.1 y) → E1.2 = E.2 → ∃ E2, f_X12_laysBack_L41 fu (Int32.ofNat k) E1 = some E2 ∧ (∀ y, y < 26 → E2.1 223 y = E.1 1427 y) ∧ (∀ y, y ≠ 223 → E2.1 y = E.1 y) ∧ E2.2 = E.2) 26
    (by
      intro fu k hk ih E1 h1 h2 h3
      have c : ¬ (26 : Int32) ≤ Int32.ofNat k := by rw [j_le, j_nat (by omega), show (26 : Int32).toInt = 26 from rfl]; omega
      rw [f_X12_laysBack_L41, if_neg c, k_g (by omega) (by omega), h2 1427 (by decide)]
      simp only [Option.bind_some]
      rw [k_p _ (by omega) (by omega), j_suc]
      simp only [Option.bind_some]
      refine ih _ (fun y hy => ?_) (fun y hy => by rw [j_wI_ne _ _ _ hy]; exact h2 y hy) h3
      rw [j_wI_at]
      by_cases c1 : y = k
      · rw [if_pos c1, c1]
      · rw [if_neg c1]; exact h1 y (by omega)) (by
      intro fu E1 h1 h2 h3
      have c : (26 : Int32) ≤ Int32.ofNat 26 := Int32.le_refl _
      rw [f_X12_laysBack_L41, if_pos c]
      exact ⟨E1, rfl, h1, h2, h3⟩) am_fu 0 (by omega) (by unfold am_fu; omega) E (fun y hy => absurd hy (by omega)) (fun _ _ => rfl) rfl
  exact key
theorem k_lb_seam (E : am_D) (q : Nat) (hq : q < 1200) : ∃ E2, f_X12_laysBack_L77 (Int32.ofNat q) am_fu 0 E = some E2 ∧ (∀ y, y < 3 → E2.1 (225 + q) y = E.1 (1429 + q) y) ∧ (∀ y, y ≠ 225 + q → E2.1 y = E.1 y) ∧ E2.2 = E.2 := by
  have key := k_ind (P := fun fu k => ∀ E1 : am_D, (∀ y, y < k → E1.1 (225 + q) y = E.1 (1429 + q) y) → (∀ y, y ≠ 225 + q → E1.1 y = E.1 y) → E1.2 = E.2 → ∃ E2, f_X12_laysBack_L77 (Int32.ofNat q) fu (Int32.ofNat k) E1 = some E2 ∧ (∀ y, y < 3 → E2.1 (225 + q) y = E.1 (1429 + q) y) ∧ (∀ y, y ≠ 225 + q → E2.1 y = E.1 y) ∧ E2.2 = E.2) 3
    (by
      intro fu k hk ih E1 h1 h2 h3
      have c : ¬ (3 : Int32) ≤ Int32.ofNat k := by rw [j_le, j_nat (by omega), show (3 : Int32).toInt = 3 from rfl]; omega
      rw [f_X12_laysBack_L77, if_neg c, k_a hq (by omega)]
      simp only [Option.bind_some]
      rw [k_g (by omega) (by omega), h2 (1429 + q) (by omega)]
      simp only [Option.bind_some]
      rw [k_p _ (by omega) (by omega), j_suc]
      simp only [Option.bind_some]
      refine ih _ (fun y hy => ?_) (fun y hy => by rw [j_wI_ne _ _ _ hy]; exact h2 y hy) h3
      rw [j_wI_at]
      by_cases c1 : y = k
      · rw [if_pos c1, c1]
      · rw [if_neg c1]; exact h1 y (by omega)) (by
      intro fu E1 h1 h2 h3
      have c : (3 : Int32) ≤ Int32.ofNat 3 := Int32.le_refl _
      rw [f_X12_laysBack_L77, if_pos c]
      exact ⟨E1, rfl, h1, h2, h3⟩) am_fu 0 (by omega) (by unfold am_fu; omega) E (fun y hy => absurd hy (by omega)) (fun _ _ => rfl) rfl
  exact key
theorem k_lb_seams (E : am_D) (q : Nat) (hq : q ≤ 1200) (h39 : E.1 117 49 = Int32.ofNat q) : ∃ E2, f_X12_laysBack_L67 am_fu 0 E = some E2 ∧ (∀ k y, k < q → y < 3 → E2.1 (225 + k) y = E.1 (1429 + k) y) ∧ (∀ y, (y < 225 ∨ 225 + 1200 ≤ y) → E2.1 y = E.1 y) ∧ E2.2 = E.2 := by
  have key := k_ind (P := fun fu k => ∀ E1 : am_D, (∀ z y, z < k → y < 3 → E1.1 (225 + z) y = E.1 (1429 + z) y) → (∀ y, (y < 225 ∨ 225 + 1200 ≤ y) → E1.1 y = E.1 y) → E1.2 = E.2 → ∃ E2, f_X12_laysBack_L67 fu (Int32.ofNat k) E1 = some E2 ∧ (∀ z y, z < q → y < 3 → E2.1 (225 + z) y = E.1 (1429 + z) y) ∧ (∀ y, (y < 225 ∨ 225 + 1200 ≤ y) → E2.1 y = E.1 y) ∧ E2.2 = E.2) q
    (by
      intro fu k hk ih E1 h1 h2 h3
      rw [f_X12_laysBack_L67, h2 117 (by omega), h39, if_neg (by rw [j_le, j_nat (by omega), j_nat (by omega)]; omega)]
      obtain ⟨E2, e2, a1, a2, a3⟩ := k_lb_seam E1 k (by omega)
      rw [e2, j_suc]
      simp only [Option.bind_some]
      refine ih _ (fun z y hz hy => ?_) (fun y hy => by rw [a2 y (by omega)]; exact h2 y hy) (a3.trans h3)
      by_cases c1 : z = k
      · rw [c1, a1 y hy, h2 (1429 + k) (by omega)]
      · rw [a2 (225 + z) (by omega)]; exact h1 z y (by omega) hy) (by
      intro fu E1 h1 h2 h3
      rw [f_X12_laysBack_L67, h2 117 (by omega), h39, if_pos (Int32.le_refl _)]
      exact ⟨E1, rfl, h1, h2, h3⟩) am_fu 0 (by omega) (by unfold am_fu; omega) E (fun z y hz => absurd hz (by omega)) (fun _ _ => rfl) rfl
  exact key
/-- a map of the reference -/
def k_rm (E : am_D) (i n : Nat) (f t : Int → Int32) : Prop := E.1 201 i = Int32.ofNat n ∧ ∀ k : Nat, k < n → E.1 (141 + (12 * i + k)) 0 = f k ∧ E.1 (141 + (12 * i + k)) 1 = t k
theorem k_takes {E : am_D} {i n : Nat} {f t : Int → Int32} (h : k_rm E i n f t) (hv : k_mv n f t) (hi : i < 5) (h0 : E.1 223 0 = 0) (h1 : E.1 223 1 = 0) :
    ∃ E2, f_X12_takes (Int32.ofNat i) E = some E2 ∧ k_fm E2 n f t ∧ E2.1 223 0 = 0 ∧ E2.1 223 1 = 0 ∧ (∀ y, y ≠ 117 → y ≠ 223 → E2.1 y = E.1 y) ∧ (∀ j, j ≠ 37 → E2.1 117 j = E.1 117 j) ∧ E2.2 = E.2 := by
  have hn := hv.2.1
  obtain ⟨E1, hE1⟩ : ∃ E1, E1 = am_wI E 117 37 (Int32.ofNat n) := ⟨_, rfl⟩
  have g1 : ∀ y, y ≠ 117 → E1.1 y = E.1 y := fun y hy => by rw [hE1, j_wI_ne _ _ _ hy]
  have g2 : E1.1 117 37 = Int32.ofNat n := by rw [hE1, k_ws]
  have key := k_ind (P := fun fu k => ∀ E2 : am_D, (∀ z, z < k → E2.1 223 (2 + 2 * z) = f z ∧ E2.1 223 (3 + 2 * z) = t z) → E2.1 223 0 = 0 → E2.1 223 1 = 0 → (∀ y, y ≠ 223 → E2.1 y = E1.1 y) → E2.2 = E.2 →
      ∃ E3, f_X12_takes_L12 (Int32.ofNat i) fu (Int32.ofNat k) E2 = some E3 ∧ (∀ z, z < n → E3.1 223 (2 + 2 * z) = f z ∧ E3.1 223 (3 + 2 * z) = t z) ∧ E3.1 223 0 = 0 ∧ E3.1 223 1 = 0 ∧ (∀ y, y ≠ 223 → E3.1 y = E1.1 y) ∧ E3.2 = E.2) n
    (by
      intro fu k hk ih E2 a1 a2 a3 a4 a5
      have e1 : (12 : Int32) * Int32.ofNat i + Int32.ofNat k = Int32.ofNat (12 * i + k) := by rw [Int32.ofNat_add, Int32.ofNat_mul]; rfl
      have e2 : (2 : Int32) + (2 : Int32) * Int32.ofNat k = Int32.ofNat (2 + 2 * k) := by rw [Int32.ofNat_add, Int32.ofNat_mul]; rfl
      have e3 : (3 : Int32) + (2 : Int32) * Int32.ofNat k = Int32.ofNat (3 + 2 * k) := by rw [Int32.ofNat_add, Int32.ofNat_mul]; rfl
      have p0 : ∀ (X : am_D) (y : Nat), am_gI X y 2 (0 : Int32) = some (X.1 y 0) := fun X y => k_g (k := 0) (by omega) (by omega)
      have p1 : ∀ (X : am_D) (y : Nat), am_gI X y 2 (1 : Int32) = some (X.1 y 1) := fun X y => k_g (k := 1) (by omega) (by omega)
      rw [f_X12_takes_L12, a4 117 (by decide), g2, if_neg (by rw [j_le, j_nat (by omega), j_nat (by omega)]; omega), e1, e2, e3, k_a (by omega) (by omega)]
      simp only [Option.bind_some]
      rw [p0, a4 _ (by omega), g1 _ (by omega), (h.2 k hk).1]
      simp only [Option.bind_some]
      rw [k_p _ (by omega) (by omega)]
      simp only [Option.bind_some]
      rw [p1, j_wI_ne _ _ _ (by omega), a4 _ (by omega), g1 _ (by omega), (h.2 k hk).2]
      simp only [Option.bind_some]
      rw [k_p _ (by omega) (by omega), j_suc]
      simp only [Option.bind_some]
      refine ih _ (fun z hz => ?_) ?_ ?_ (fun y hy => by rw [j_wI_ne _ _ _ hy, j_wI_ne _ _ _ hy]; exact a4 y hy) a5
      · by_cases c : z = k
        · subst c
          rw [k_wj _ _ (by omega), k_ws, k_ws]
          exact ⟨rfl, rfl⟩
        · rw [k_wj _ _ (by omega), k_wj _ _ (by omega), k_wj _ _ (by omega), k_wj _ _ (by omega)]
          exact a1 z (by omega)
      · rw [k_wj _ _ (by omega), k_wj _ _ (by omega)]; exact a2
      · rw [k_wj _ _ (by omega), k_wj _ _ (by omega)]; exact a3) (by
      intro fu E2 a1 a2 a3 a4 a5
      rw [f_X12_takes_L12, a4 117 (by decide), g2, if_pos (Int32.le_refl _)]
      exact ⟨E2, rfl, a1, a2, a3, a4, a5⟩) am_fu 0 (by omega) (by unfold am_fu; omega) E1 (fun z hz => absurd hz (by omega)) (by rw [g1 223 (by decide)]; exact h0) (by rw [g1 223 (by decide)]; exact h1) (fun _ _ => rfl) (by rw [hE1]; rfl)
  obtain ⟨E3, e3, b1, b2, b3, b4, b5⟩ := key
  have e3 : f_X12_takes_L12 (Int32.ofNat i) am_fu (0 : Int32) E1 = some E3 := e3
  refine ⟨E3, ?_, ⟨by rw [b4 117 (by decide)]; exact g2, fun k hk => ?_⟩, b2, b3, fun y h2 h3 => by rw [b4 y h3, g1 y h2], fun j hj => by rw [b4 117 (by decide), hE1, k_wj _ _ hj], b5⟩
  · unfold f_X12_takes
    rw [k_g hi (by omega), h.1]
    simp only [Option.bind_some]
    rw [← hE1, e3]
    rfl
  · by_cases c : k = 0
    · subst c
      have z1 : f (((0 : Nat) : Int) - 1) = 0 := by rw [j_eq]; exact hv.2.2.1
      have z2 : t (((0 : Nat) : Int) - 1) = 0 := by rw [j_eq]; exact hv.2.2.2.1
      rw [z1, z2]
      exact ⟨b2, b3⟩
    · have q := b1 (k - 1) (by omega)
      have e1 : 2 + 2 * (k - 1) = 2 * k := by omega
      have e2 : 3 + 2 * (k - 1) = 2 * k + 1 := by omega
      have e4 : ((k - 1 : Nat) : Int) = (k : Int) - 1 := by omega
      rw [e1, e2, e4] at q
      exact q
theorem k_takesSound {E : am_D} {i n : Nat} {g : Int → Int32} (h1 : E.1 139 i = Int32.ofNat n) (h2 : k_arr E (134 + i) n g) (hn : n ≤ 600) (hi : i < 5) :
    ∃ E2, f_X12_takesSound (Int32.ofNat i) E = some E2 ∧ E2.1 117 36 = Int32.ofNat n ∧ k_arr E2 221 n g ∧ (∀ y, y ≠ 117 → y ≠ 221 → E2.1 y = E.1 y) ∧ (∀ j, j ≠ 36 → E2.1 117 j = E.1 117 j) ∧ E2.2 = E.2 := by
  obtain ⟨E1, hE1⟩ : ∃ E1, E1 = am_wI E 117 36 (Int32.ofNat n) := ⟨_, rfl⟩
  have g1 : ∀ y, y ≠ 117 → E1.1 y = E.1 y := fun y hy => by rw [hE1, j_wI_ne _ _ _ hy]
  have g2 : E1.1 117 36 = Int32.ofNat n := by rw [hE1, k_ws]
  have key := k_ind (P := fun fu k => ∀ E2 : am_D, k_arr E2 221 k g → (∀ y, y ≠ 221 → E2.1 y = E1.1 y) → E2.2 = E.2 → ∃ E3, f_X12_takesSound_L12 (Int32.ofNat i) fu (Int32.ofNat k) E2 = some E3 ∧ k_arr E3 221 n g ∧ (∀ y, y ≠ 221 → E3.1 y = E1.1 y) ∧ E3.2 = E.2) n
    (by
      intro fu k hk ih E2 a1 a4 a5
      rw [f_X12_takesSound_L12, a4 117 (by decide), g2, if_neg (by rw [j_le, j_nat (by omega), j_nat (by omega)]; omega), k_a (by omega) (by omega)]
      simp only [Option.bind_some]
      rw [k_g (by omega) (by omega), a4 _ (by omega), g1 _ (by omega), h2 k hk]
      simp only [Option.bind_some]
      rw [k_p _ (by omega) (by omega), j_suc]
      simp only [Option.bind_some]
      refine ih _ (fun z hz => ?_) (fun y hy => by rw [j_wI_ne _ _ _ hy]; exact a4 y hy) a5
      rw [j_wI_at]
      by_cases c : z = k
      · rw [if_pos c, c]
      · rw [if_neg c]; exact a1 z (by omega)) (by
      intro fu E2 a1 a4 a5
      rw [f_X12_takesSound_L12, a4 117 (by decide), g2, if_pos (Int32.le_refl _)]
      exact ⟨E2, rfl, a1, a4, a5⟩) am_fu 0 (by omega) (by unfold am_fu; omega) E1 (fun z hz => absurd hz (by omega)) (fun _ _ => rfl) (by rw [hE1]; rfl)
  obtain ⟨E3, e3, b1, b4, b5⟩ := key
  have e3 : f_X12_takesSound_L12 (Int32.ofNat i) am_fu (0 : Int32) E1 = some E3 := e3
  refine ⟨E3, ?_, by rw [b4 117 (by decide)]; exact g2, b1, fun y h2 h3 => by rw [b4 y h3, g1 y h2], fun j hj => by rw [b4 117 (by decide), hE1, k_wj _ _ hj], b5⟩
  unfold f_X12_takesSound
  rw [k_g hi (by omega), h1]
  simp only [Option.bind_some]
  rw [← hE1, e3]
  rfl
