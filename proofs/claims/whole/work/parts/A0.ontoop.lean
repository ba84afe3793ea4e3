/-! onto, the operation -/
theorem k_ontoF {D E : am_D} {r L c st a w : Nat} {pos : Nat → Nat} (h : k_bl D E 106 L c pos) (hL : L ≤ 600) (hst : 4 ≤ st ∧ st ≤ 200 ∧ a < st) (h3 : D.1 106 3 = Int32.ofNat st) (h4 : D.1 106 4 = Int32.ofNat a) (hw : w ≤ 200) (hg : k_good D E r 11 L 1000000) : ∀ fu k, k ≤ c → c - k < fu → f_X0_intoMap_L17 106 (Int32.ofNat w) r (k_nb st a (pos 0)) fu (Int32.ofNat k) D = some D := by
  have hc := h.1
  exact k_ind (P := fun fu k => f_X0_intoMap_L17 106 (Int32.ofNat w) r (k_nb st a (pos 0)) fu (Int32.ofNat k) D = some D) c
    (by
      intro fu k hk ih
      obtain ⟨u, y, _, _, q, _⟩ := k_onto1 (w := w) h hL hst h3 h4 hw hg (Nat.le_refl 11) hk
      rw [q (Or.inl rfl) fu]
      exact ih) (by
      intro fu
      rw [f_X0_intoMap_L17, h.2.1, if_pos (Int32.le_refl _)])
theorem k_ontoL {D E : am_D} {r L c st a w : Nat} {pos : Nat → Nat} (q1 : Int32) (h : k_bl D E 106 L c pos) (hc1 : 1 ≤ c) (hr : 40 ≤ r ∧ r ≤ 52) (hL : L ≤ 600) (hst : 4 ≤ st ∧ st ≤ 200 ∧ a < st) (h3 : D.1 106 3 = Int32.ofNat st) (h4 : D.1 106 4 = Int32.ofNat a) (hw : w ≤ 200) (hg : k_good D E r 0 L 1000000) :
    ∃ D2 E2 n2, f_X0_intoMap_L17 106 (Int32.ofNat w) r (k_nb st a (pos 0)) am_fu 0 D = some D2 ∧ f_X12_onto_L116 q1 (Int32.ofNat w) (Int32.ofNat c) (Int32.ofNat st) (Int32.ofNat a) am_fu 0 0 E = some (Int32.ofNat n2, E2) ∧ k_good D2 E2 r n2 L 1000000 ∧ n2 ≤ 11 ∧ k_fm2 r D D2 E E2 := by
  have hc := h.1
  have e0 : (0 : Int32).toInt = 0 := rfl
  have e11 : (11 : Int32).toInt = 11 := rfl
  have p12 : ∀ (X : am_D) (y : Nat) (z : Int32), am_pI X y 2 (0 : Int32) z = some (am_wI X y 0 z) := fun X y z => k_p (k := 0) z (by omega) (by omega)
  have p13 : ∀ (X : am_D) (y : Nat) (z : Int32), am_pI X y 2 (1 : Int32) z = some (am_wI X y 1 z) := fun X y z => k_p (k := 1) z (by omega) (by omega)
  have key := k_ind (P := fun fu k => c - k < fu → ∀ (D1 E1 : am_D) (n : Nat), k_good D1 E1 r n L 1000000 → n ≤ 11 → k_fm2 r D D1 E E1 → ∃ D2 E2 n2, f_X0_intoMap_L17 106 (Int32.ofNat w) r (k_nb st a (pos 0)) fu (Int32.ofNat k) D1 = some D2 ∧ f_X12_onto_L116 q1 (Int32.ofNat w) (Int32.ofNat c) (Int32.ofNat st) (Int32.ofNat a) fu (Int32.ofNat n) (Int32.ofNat k) E1 = some (Int32.ofNat n2, E2) ∧ k_good D2 E2 r n2 L 1000000 ∧ n2 ≤ 11 ∧ k_fm2 r D D2 E E2) c
    (by
      intro fu k hk ih hfu D1 E1 n g1 g2 f1
      have hb : k_bl D1 E1 106 L c pos := ⟨h.1, by rw [(f1.1 106 (by omega)).1]; exact h.2.1, fun j hj => by rw [(f1.1 107 (by omega)).1, f1.2.1 2629 (by omega)]; exact h.2.2 j hj⟩
      have h31 : D1.1 106 3 = Int32.ofNat st := by rw [(f1.1 106 (by omega)).1]; exact h3
      have h41 : D1.1 106 4 = Int32.ofNat a := by rw [(f1.1 106 (by omega)).1]; exact h4
      by_cases cn : n = 11
      · subst cn
        refine ⟨D1, E1, 11, k_ontoF hb hL hst h31 h41 hw g1 (fu + 1) k (by omega) hfu, ?_, g1, (by omega), f1⟩
        rw [f_X12_onto_L116, if_neg (by rw [j_le, j_nat (by omega), j_nat (by omega)]; omega), if_pos (show (11 : Int32) ≤ Int32.ofNat 11 from Int32.le_refl _)]
      · obtain ⟨u, y, u0, hy, c1, c2, c3, c4⟩ := k_onto1 (w := w) hb hL hst h31 h41 hw g1 g2 hk
        obtain ⟨b1, b2, b3, b4⟩ := hb.2.2 k hk
        obtain ⟨z1, z2, z3, z4⟩ := hb.2.2 0 (by omega)
        have x1 := (k_nb_ok (x := pos k) hst.1 hst.2.1 hst.2.2 (by omega)).1
        have w1 := (k_nb_ok (x := pos 0) hst.1 hst.2.1 hst.2.2 (by omega)).1
        have g0 : am_gI E1 2629 1200 (0 : Int32) = some (Int32.ofNat (pos 0)) := by
          have q : am_gI E1 2629 1200 (Int32.ofNat 0) = some (E1.1 2629 0) := k_g (k := 0) (by omega) (by omega)
          rw [z2] at q
          exact q
        have ref : f_X12_onto_L116 q1 (Int32.ofNat w) (Int32.ofNat c) (Int32.ofNat st) (Int32.ofNat a) (fu + 1) (Int32.ofNat n) (Int32.ofNat k) E1 = if u = 0 then f_X12_onto_L116 q1 (Int32.ofNat w) (Int32.ofNat c) (Int32.ofNat st) (Int32.ofNat a) fu (Int32.ofNat n) (Int32.ofNat (k + 1)) E1 else f_X12_onto_L116 q1 (Int32.ofNat w) (Int32.ofNat c) (Int32.ofNat st) (Int32.ofNat a) fu (Int32.ofNat (n + 1)) (Int32.ofNat (k + 1)) (am_wI (am_wI E1 (121 + n) 0 (Int32.ofNat (pos k))) (121 + n) 1 y) := by
          rw [f_X12_onto_L116, if_neg (by rw [j_le, j_nat (by omega), j_nat (by omega)]; omega), if_neg (by rw [j_le, j_nat (by omega), e11]; omega), k_g (by omega) (by omega), b2, Option.bind_some, x1, Option.bind_some, g0, Option.bind_some, w1, Option.bind_some, ← hy, c2]
          by_cases cp : Int32.ofNat (pos k) = 0
          · have hp0 : pos k = 0 := by
              have := (j_eq _ _).mp cp
              rw [j_nat (by omega), e0] at this
              omega
            rw [if_pos cp, if_pos (c3 hp0), Option.bind_some, j_suc]
          · rw [if_neg cp, Option.bind_some]
            by_cases cu : u = 0
            · rw [if_pos cu, if_pos cu, Option.bind_some, j_suc]
            · rw [if_neg cu, if_neg cu, k_a (by omega) (by omega), Option.bind_some, p12, Option.bind_some, Option.bind_some, p13, Option.bind_some, Option.bind_some, j_suc, j_suc]
        rw [ref]
        rcases u0 with rfl | rfl
        · rw [if_pos rfl, c1 (Or.inr rfl)]
          exact ih (by omega) D1 E1 n g1 g2 f1
        · obtain ⟨D2, i1, i2, i3⟩ := c4 (by omega) rfl
          rw [if_neg k_10, i3]
          exact ih (by omega) D2 _ (n + 1) i1 (by omega) (k_fm2_trans f1 i2)) (by
      intro fu hfu D1 E1 n g1 g2 f1
      rw [f_X0_intoMap_L17, (f1.1 106 (by omega)).1, h.2.1, if_pos (Int32.le_refl _), f_X12_onto_L116, if_pos (Int32.le_refl _)]
      exact ⟨D1, E1, n, rfl, rfl, g1, g2, f1⟩) am_fu 0 (by omega) (by unfold am_fu; omega) (by unfold am_fu; omega) D E 0 hg (by omega) (k_fm2_refl r D E)
  exact key
