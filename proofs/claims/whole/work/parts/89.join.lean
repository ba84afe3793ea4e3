/-! join -/
theorem k_joinU {D E : am_D} {i j n m o k : Nat} {g f : Int → Int32} (q3 q4 : Int32) (hs : k_snd D E i n g) (hs2 : k_snd D E j m f) (hi : i < 5) (hj : j < 5) (h15 : E.1 117 15 = Int32.ofNat o) (hk : o + k ≤ n) (hom : o ≤ m) :
    f_X12_join_L115 (Int32.ofNat i) (Int32.ofNat j) q3 q4 (Int32.ofNat k) E am_fu 0 0 = some (j_unl g f (Int32.ofNat (n - o - k)).toInt (0 : Int32).toInt o) := by
  obtain ⟨s1, s2, s3, s4, s5, s6⟩ := hs
  obtain ⟨z1, z2, z3, z4, z5, z6⟩ := hs2
  have e0 : (0 : Int32).toInt = 0 := rfl
  have l1 := k_lnS i hi
  have l2 := k_lnS j hj
  have key := k_ind (P := fun fu v => f_X12_join_L115 (Int32.ofNat i) (Int32.ofNat j) q3 q4 (Int32.ofNat k) E fu (j_unl g f (Int32.ofNat (n - o - k)).toInt (0 : Int32).toInt v) (Int32.ofNat v) = some (j_unl g f (Int32.ofNat (n - o - k)).toInt (0 : Int32).toInt o)) o
    (by
      intro fu v hv ih
      have ei : Int32.ofNat n - Int32.ofNat o - Int32.ofNat k + Int32.ofNat v = Int32.ofNat (n - o - k + v) := by
        rw [j_eq, k_A, k_S, k_S, j_nat (by omega), j_nat (by omega), j_nat (by omega), j_nat (by omega), j_nat (by omega)]
        omega
      have es : j_unl g f (Int32.ofNat (n - o - k)).toInt (0 : Int32).toInt (v + 1) = j_unl g f (Int32.ofNat (n - o - k)).toInt (0 : Int32).toInt v + am_ab (g ((n - o - k + v : Nat) : Int) - f v) := by
        show j_unl g f (Int32.ofNat (n - o - k)).toInt (0 : Int32).toInt v + am_ab (g ((Int32.ofNat (n - o - k)).toInt + v) - f ((0 : Int32).toInt + v)) = _
        have e1 : (Int32.ofNat (n - o - k)).toInt + v = ((n - o - k + v : Nat) : Int) := by rw [j_nat (by omega)]; omega
        have e2 : (0 : Int32).toInt + (v : Int) = v := by rw [e0]; omega
        rw [e1, e2]
      rw [f_X12_join_L115, h15, if_neg (by rw [j_le, j_nat (by omega), j_nat (by omega)]; omega), k_a hi (by omega), Option.bind_some, k_g hi (by omega), s4, Option.bind_some, ei, k_g (by omega) (by omega), s5 _ (by omega), Option.bind_some, k_a hj (by omega), Option.bind_some, k_g (by omega) (by omega), z5 _ (by omega), Option.bind_some, k_amount, Option.bind_some, j_suc, ← es]
      exact ih) (by
      intro fu
      rw [f_X12_join_L115, h15, if_pos (Int32.le_refl _)]) am_fu 0 (by omega) (by unfold am_fu; omega)
  exact key
theorem k_joinB {D E : am_D} {i j n m o s : Nat} {g f : Int → Int32} (hs : k_snd D E i n g) (hs2 : k_snd D E j m f) (hi : i < 5) (hj : j < 5) (h15 : E.1 117 15 = Int32.ofNat o) (h16 : E.1 117 16 = Int32.ofNat s) (hss : s ≤ 20) (hon : o ≤ n) (hom : o ≤ m) : ∀ (t c f1 f2 : Nat) (b l : Int32), s < c + t → c ≤ 100 → 0 ≤ b.toInt → b.toInt ≤ (n : Int) - o →
    ∃ e, f_X7_bestJoin_L26 (30 + 2 * i) (30 + 2 * j) (Int32.ofNat o) (Int32.ofNat s) (Int32.ofNat (n - o)) D (f1 + t + 1) b l (Int32.ofNat c) = some e ∧ f_X12_join_L83 (Int32.ofNat i) (Int32.ofNat j) E (f2 + t + 1) b l (Int32.ofNat c) = some e ∧ 0 ≤ e.toInt ∧ e.toInt ≤ (n : Int) - o
  | t, c, f1, f2, b, l, ht, hc, hb, hb2 => by
    have e0 : (0 : Int32).toInt = 0 := rfl
    have em1 : (-1 : Int32).toInt = -1 := rfl
    have hn := hs.2.1
    have hm := hs2.2.1
    rw [f_X7_bestJoin_L26, f_X12_join_L83, h16]
    by_cases c1 : s < c
    · have cc : Int32.ofNat s < Int32.ofNat c := by rw [j_lt, j_nat (by omega), j_nat (by omega)]; omega
      rw [if_pos cc, if_pos cc]
      exact ⟨b, rfl, rfl, hb, hb2⟩
    · have cc : ¬ Int32.ofNat s < Int32.ofNat c := by rw [j_lt, j_nat (by omega), j_nat (by omega)]; omega
      have eno : Int32.ofNat n - Int32.ofNat o = Int32.ofNat (n - o) := by
        rw [j_eq, k_S, j_nat (by omega), j_nat (by omega), j_nat (by omega)]; omega
      rw [if_neg cc, if_neg cc, k_g hi (by omega), hs.2.2.2.1, Option.bind_some, h15, eno]
      by_cases c2 : n - o < c
      · have cd : Int32.ofNat (n - o) < Int32.ofNat c := by rw [j_lt, j_nat (by omega), j_nat (by omega)]; omega
        have cf : Int32.ofNat (n - o) - Int32.ofNat c < 0 := by rw [j_lt, k_S, j_nat (by omega), j_nat (by omega), e0]; omega
        rw [if_pos cd, if_pos cf]
        exact ⟨b, rfl, rfl, hb, hb2⟩
      · have cd : ¬ Int32.ofNat (n - o) < Int32.ofNat c := by rw [j_lt, j_nat (by omega), j_nat (by omega)]; omega
        have cf : ¬ Int32.ofNat (n - o) - Int32.ofNat c < 0 := by rw [j_lt, k_S, j_nat (by omega), j_nat (by omega), e0]; omega
        have ep : Int32.ofNat (n - o) - Int32.ofNat c = Int32.ofNat (n - o - c) := by rw [j_eq, k_S, j_nat (by omega), j_nat (by omega), j_nat (by omega)]; omega
        have hu := j_row_unlike hs.2.2.1 hs2.2.2.1 (Int32.ofNat (n - o - c)) 0 o (by omega) (by rw [j_nat (by omega)]; omega) (by rw [j_nat (by omega)]; omega) (by rw [e0]; omega) (by rw [e0]; omega)
        have hr := k_joinU (k := c) b l hs hs2 hi hj h15 (by omega) hom
        have nb : ¬ b = (-1 : Int32) := by rw [j_eq, em1]; omega
        rw [if_neg cd, if_neg cf, ep, hu, hr, Option.bind_some, Option.bind_some, if_neg nb]
        generalize j_unl g f (Int32.ofNat (n - o - c)).toInt (0 : Int32).toInt o = u
        match t, ht with
        | 0, ht => exact absurd ht (by omega)
        | t + 1, ht =>
          by_cases c3 : l ≤ u
          · have c4 : ¬ u < l := by rw [j_lt]; rw [j_le] at c3; omega
            rw [if_pos c3, if_neg c4, Option.bind_some, Option.bind_some, j_suc]
            exact k_joinB hs hs2 hi hj h15 h16 hss hon hom t (c + 1) f1 f2 b l (by omega) (by omega) hb hb2
          · have c4 : u < l := by rw [j_lt]; rw [j_le] at c3; omega
            rw [if_neg c3, if_pos c4, Option.bind_some, Option.bind_some, Option.bind_some, j_suc]
            dsimp only
            rw [eno, ep]
            exact k_joinB hs hs2 hi hj h15 h16 hss hon hom t (c + 1) f1 f2 (Int32.ofNat (n - o - c)) u (by omega) (by omega) (by rw [j_nat (by omega)]; omega) (by rw [j_nat (by omega)]; omega)
theorem k_joinBest {D E : am_D} {i j n m o s : Nat} {g f : Int → Int32} (hs : k_snd D E i n g) (hs2 : k_snd D E j m f) (hi : i < 5) (hj : j < 5) (h15 : E.1 117 15 = Int32.ofNat o) (h16 : E.1 117 16 = Int32.ofNat s) (hss : s ≤ 20) (hon : o ≤ n) (hom : o ≤ m) :
    ∃ p : Nat, f_X7_bestJoin (30 + 2 * i) (30 + 2 * j) (Int32.ofNat o) (Int32.ofNat s) D = some (Int32.ofNat p) ∧ f_X12_join_L83 (Int32.ofNat i) (Int32.ofNat j) E am_fu (-1) 0 0 = some (Int32.ofNat p) ∧ p + o ≤ n := by
  have e0 : (0 : Int32).toInt = 0 := rfl
  have hn := hs.2.1
  have hm := hs2.2.1
  have eno : Int32.ofNat n - Int32.ofNat o = Int32.ofNat (n - o) := by
    rw [j_eq, k_S, j_nat (by omega), j_nat (by omega), j_nat (by omega)]; omega
  have ez : Int32.ofNat (n - o) - 0 = Int32.ofNat (n - o) := by rw [j_eq, k_S, j_nat (by omega), e0]; omega
  have hu := j_row_unlike hs.2.2.1 hs2.2.2.1 (Int32.ofNat (n - o)) 0 o (by omega) (by rw [j_nat (by omega)]; omega) (by rw [j_nat (by omega)]; omega) (by rw [e0]; omega) (by rw [e0]; omega)
  have hr := k_joinU (k := 0) (-1) 0 hs hs2 hi hj h15 (by omega) hom
  obtain ⟨e, x1, x2, x3, x4⟩ := k_joinB hs hs2 hi hj h15 h16 hss hon hom s 1 (4999 - s) (4998 - s) (Int32.ofNat (n - o)) (j_unl g f (Int32.ofNat (n - o)).toInt (0 : Int32).toInt o) (by omega) (by omega) (by rw [j_nat (by omega)]; omega) (by rw [j_nat (by omega)]; omega)
  have y1 : 4999 - s + s + 1 = am_fu := by unfold am_fu; omega
  have y2 : 4998 - s + s + 1 = 4999 := by omega
  have y3 : am_fu = 4999 + 1 := rfl
  rw [y1] at x1
  rw [y2] at x2
  refine ⟨e.toInt.toNat, ?_, ?_, (by omega)⟩
  · unfold f_X7_bestJoin
    rw [hs.2.2.1.2.2.1, eno, hu, Option.bind_some]
    have x1 : f_X7_bestJoin_L26 (30 + 2 * i) (30 + 2 * j) (Int32.ofNat o) (Int32.ofNat s) (Int32.ofNat (n - o)) D am_fu (Int32.ofNat (n - o)) _ (1 : Int32) = some e := x1
    rw [x1, Option.bind_some, ← j_of x3]
  · rw [y3, f_X12_join_L83, h16, if_neg (by rw [j_lt, j_nat (by omega), e0]; omega), k_g hi (by omega), hs.2.2.2.1, Option.bind_some, h15, eno, ez, if_neg (by rw [j_lt, j_nat (by omega), e0]; omega)]
    have hr : f_X12_join_L115 (Int32.ofNat i) (Int32.ofNat j) (-1) 0 (0 : Int32) E am_fu 0 0 = some (j_unl g f (Int32.ofNat (n - o)).toInt (0 : Int32).toInt o) := hr
    rw [hr, Option.bind_some, if_pos rfl, Option.bind_some, Option.bind_some]
    have x2 : f_X12_join_L83 (Int32.ofNat i) (Int32.ofNat j) E 4999 (Int32.ofNat (n - o)) _ (0 + 1 : Int32) = some e := x2
    dsimp only
    rw [eno, ez, x2, ← j_of x3]
/-- the joined row -/
def k_jn (g f : Int → Int32) (p o m : Nat) : Int → Int32 := fun k => if k < 0 ∨ (p : Int) + m ≤ k then 0 else if k < p then g k else if k < (p : Int) + o then k_mix (g k) (f (k - p)) o (k - p).toNat else f (k - p)
theorem k_jn_bd {g f : Int → Int32} (hg : k_bnd g) (hf : k_bnd f) {p o m : Nat} (h1 : 1 ≤ o) (h2 : o ≤ 100) : k_bnd (k_jn g f p o m) := by
  intro k
  unfold k_jn
  split
  · show -2047 ≤ (0 : Int32).toInt ∧ (0 : Int32).toInt ≤ 2047
    decide
  · split
    · exact hg k
    · split
      · exact k_mix_bd (hg k) (hf _) h1 h2 (by omega)
      · exact hf _
theorem k_joinC {D E : am_D} {i j n m o p z : Nat} {g f : Int → Int32} (hs : k_snd D E i n g) (hs2 : k_snd D E j m f) (hz : z < 5) (hi : i < z) (hj : j < z) (h1 : 1 ≤ o) (hom : o ≤ m) (hpo : p + o ≤ n) (hpm : p + m ≤ 600) :
    ∃ D2, f_X7_joinOf (30 + 2 * z) (30 + 2 * i) (30 + 2 * j) (Int32.ofNat p) (Int32.ofNat o) D = some D2 ∧ j_row D2 (30 + 2 * z) (p + m) (k_jn g f p o m) ∧ j_fr (fun y => y = 30 + 2 * z ∨ y = 31 + 2 * z) D D2 := by
  have e0 : (0 : Int32).toInt = 0 := rfl
  have r1 := hs.2.2.1
  have r2 := hs2.2.2.1
  have em : Int32.ofNat p + Int32.ofNat m = Int32.ofNat (p + m) := (Int32.ofNat_add p m).symm
  have eo : Int32.ofNat p + Int32.ofNat o = Int32.ofNat (p + o) := (Int32.ofNat_add p o).symm
  have hn := hs.2.1
  obtain ⟨D1, a1, a2, a3⟩ := j_row_start (D := D) (k_rwS z hz) (p + m) hpm
  obtain ⟨D3, b1, b2, b3⟩ := j_row_lay a2 (j_row_by r1 a3 (by omega) (by omega)) (by omega) 0 0 (p + o) (by omega) (by rw [e0]; omega) (by rw [e0]; omega) (by rw [e0]; omega) (by rw [e0]; omega)
  have f2 : j_fr (fun y => y = 30 + 2 * z ∨ y = 31 + 2 * z) D D3 := j_fr_trans a3 b3 (fun _ h => by omega) (fun _ h => by omega)
  obtain ⟨D4, c1, c2, c3⟩ := j_row_fade b2 (j_row_by r2 f2 (by omega) (by omega)) (by omega) (Int32.ofNat p) 0 o h1 (by omega) (by rw [j_nat (by omega)]; omega) (by rw [j_nat (by omega)]; omega) (by rw [e0]; omega) (by rw [e0]; omega)
  have f3 : j_fr (fun y => y = 30 + 2 * z ∨ y = 31 + 2 * z) D D4 := j_fr_trans f2 c3 (fun _ h => h) (fun _ h => by omega)
  have r4 := j_row_by r2 f3 (by omega) (by omega)
  obtain ⟨D5, d1, d2, d3⟩ := j_row_lay c2 r4 (by omega) (Int32.ofNat (p + o)) (Int32.ofNat o) (m - o) (by omega) (by rw [j_nat (by omega)]; omega) (by rw [j_nat (by omega)]; omega) (by rw [j_nat (by omega)]; omega) (by rw [j_nat (by omega)]; omega)
  have emo : Int32.ofNat m - Int32.ofNat o = Int32.ofNat (m - o) := by rw [j_eq, k_S, j_nat (by omega), j_nat (by omega), j_nat (by omega)]; omega
  refine ⟨D5, ?_, j_row_cong d2 fun k => ?_, j_fr_trans f3 d3 (fun _ h => h) (fun _ h => by omega)⟩
  · unfold f_X7_joinOf
    rw [r2.2.2.1, em, a1, Option.bind_some, eo, b1, Option.bind_some, c1, Option.bind_some, r4.2.2.1, emo, d1, Option.bind_some]
  · rw [j_nat (by omega), j_nat (by omega), j_nat (by omega), e0]
    unfold k_jn j_lays j_fades
    dsimp only
    by_cases k1 : k < 0 ∨ (p : Int) + m ≤ k
    · rw [if_pos k1, if_neg (by omega), if_neg (by omega), if_neg (by omega)]
    · rw [if_neg k1]
      by_cases k2 : k < p
      · rw [if_pos k2, if_neg (by omega), if_neg (by omega), if_pos (by omega)]
        congr 1
        omega
      · rw [if_neg k2]
        by_cases k3 : k < (p : Int) + o
        · rw [if_pos k3, if_neg (by omega), if_pos (by omega), if_pos (by omega)]
          unfold k_mix
          have q1 : 0 + (k - 0) = k := by omega
          have q2 : 0 + (k - (p : Int)) = k - p := by omega
          rw [q1, q2]
        · rw [if_neg k3, if_pos (by omega)]
          congr 1
          omega
theorem k_joinR {D E : am_D} {i j n m o p : Nat} {g f : Int → Int32} (hs : k_snd D E i n g) (hs2 : k_snd D E j m f) (hi : i < 5) (hj : j < 5) (h15 : E.1 117 15 = Int32.ofNat o) (h1 : 1 ≤ o) (hom : o ≤ m) (hpo : p + o ≤ n) (hpm : p + m ≤ 600) :
    ∃ E1 E2, f_X12_join_L232 (Int32.ofNat i) (Int32.ofNat j) (Int32.ofNat p) am_fu 0 E = some E1 ∧ f_X12_join_L263 (Int32.ofNat i) (Int32.ofNat j) (Int32.ofNat p) am_fu 0 E1 = some E2 ∧ k_arr E2 119 (p + m) (k_jn g f p o m) ∧ (∀ y, y ≠ 119 → E2.1 y = E.1 y) ∧ E2.2 = E.2 := by
  obtain ⟨s1, s2, s3, s4, s5, s6⟩ := hs
  obtain ⟨z1, z2, z3, z4, z5, z6⟩ := hs2
  have e0 : (0 : Int32).toInt = 0 := rfl
  have l1 := k_lnS i hi
  have l2 := k_lnS j hj
  have key := k_ind (P := fun fu k => ∀ E1 : am_D, (∀ y : Nat, y < k → E1.1 119 y = g y) → (∀ y, y ≠ 119 → E1.1 y = E.1 y) → E1.2 = E.2 → ∃ E2, f_X12_join_L232 (Int32.ofNat i) (Int32.ofNat j) (Int32.ofNat p) fu (Int32.ofNat k) E1 = some E2 ∧ (∀ y : Nat, y < p → E2.1 119 y = g y) ∧ (∀ y, y ≠ 119 → E2.1 y = E.1 y) ∧ E2.2 = E.2) p
    (by
      intro fu k hk ih E1 g1 g2 g3
      rw [f_X12_join_L232, if_neg (by rw [j_le, j_nat (by omega), j_nat (by omega)]; omega), k_a hi (by omega), Option.bind_some, k_g (by omega) (by omega), g2 _ (by omega), s5 k (by omega), Option.bind_some, k_p _ (by omega) (by omega), Option.bind_some, j_suc]
      refine ih _ (fun y hy => ?_) (fun y hy => by rw [j_wI_ne _ _ _ hy]; exact g2 y hy) g3
      rw [j_wI_at]
      by_cases cy : y = k
      · rw [if_pos (by omega), cy]
      · rw [if_neg (by omega)]; exact g1 y (by omega)) (by
      intro fu E1 g1 g2 g3
      rw [f_X12_join_L232, if_pos (Int32.le_refl _)]
      exact ⟨E1, rfl, g1, g2, g3⟩) am_fu 0 (by omega) (by unfold am_fu; omega) E (fun y hy => absurd hy (by omega)) (fun _ _ => rfl) rfl
  obtain ⟨E1, x1, x2, x3, x4⟩ := key
  have key2 := k_ind (P := fun fu k => ∀ E3 : am_D, (∀ y : Nat, y < p + k → E3.1 119 y = k_jn g f p o m y) → (∀ y, y ≠ 119 → E3.1 y = E.1 y) → E3.2 = E.2 → ∃ E2, f_X12_join_L263 (Int32.ofNat i) (Int32.ofNat j) (Int32.ofNat p) fu (Int32.ofNat k) E3 = some E2 ∧ k_arr E2 119 (p + m) (k_jn g f p o m) ∧ (∀ y, y ≠ 119 → E2.1 y = E.1 y) ∧ E2.2 = E.2) m
    (by
      intro fu k hk ih E3 g1 g2 g3
      have ev : (if (E3.1 117 15) ≤ Int32.ofNat k then (am_gA 5 (Int32.ofNat j)).bind fun j66 => (am_gI E3 (134 + j66) 600 (Int32.ofNat k)).bind fun x68 => some x68 else (am_gA 5 (Int32.ofNat i)).bind fun j70 => (am_gI E3 (134 + j70) 600 (Int32.ofNat p + Int32.ofNat k)).bind fun x72 => (am_gA 5 (Int32.ofNat j)).bind fun j74 => (am_gI E3 (134 + j74) 600 (Int32.ofNat k)).bind fun x76 => (am_dv ((x72 * ((E3.1 117 15) - Int32.ofNat k)) + (x76 * Int32.ofNat k)) (E3.1 117 15)).bind fun x78 => some x78) = some (k_jn g f p o m ((p + k : Nat) : Int)) := by
        rw [g2 117 (by omega), h15]
        have q3 : ((p + k : Nat) : Int) - p = k := by omega
        by_cases c : o ≤ k
        · rw [if_pos (by rw [j_le, j_nat (by omega), j_nat (by omega)]; omega), k_a hj (by omega), Option.bind_some, k_g (by omega) (by omega), g2 _ (by omega), z5 k (by omega), Option.bind_some]
          unfold k_jn
          rw [if_neg (by omega), if_neg (by omega), if_neg (by omega), q3]
        · rw [if_neg (by rw [j_le, j_nat (by omega), j_nat (by omega)]; omega), ← Int32.ofNat_add, k_a hi (by omega), Option.bind_some, k_g (by omega) (by omega), g2 _ (by omega), s5 _ (by omega), Option.bind_some, k_a hj (by omega), Option.bind_some, k_g (by omega) (by omega), g2 _ (by omega), z5 k (by omega), Option.bind_some]
          unfold am_dv
          rw [if_neg (by rw [j_eq, j_nat (by omega), e0]; omega), Option.bind_some]
          unfold k_jn
          rw [if_neg (by omega), if_neg (by omega), if_pos (by omega), q3]
          rfl
      rw [f_X12_join_L263, k_g hj (by omega), g2 139 (by omega), z4, Option.bind_some, if_neg (by rw [j_le, j_nat (by omega), j_nat (by omega)]; omega), ev, Option.bind_some, ← Int32.ofNat_add, k_p _ (by omega) (by omega), Option.bind_some, j_suc]
      refine ih _ (fun y hy => ?_) (fun y hy => by rw [j_wI_ne _ _ _ hy]; exact g2 y hy) g3
      rw [j_wI_at]
      by_cases cy : y = p + k
      · rw [if_pos (by omega), cy]
      · rw [if_neg (by omega)]; exact g1 y (by omega)) (by
      intro fu E3 g1 g2 g3
      rw [f_X12_join_L263, k_g hj (by omega), g2 139 (by omega), z4, Option.bind_some, if_pos (Int32.le_refl _)]
      exact ⟨E3, rfl, g1, g2, g3⟩) am_fu 0 (by omega) (by unfold am_fu; omega) E1 (fun y hy => by
        rw [x2 y (by omega)]
        unfold k_jn
        rw [if_neg (by omega), if_pos (by omega)]) x3 x4
  obtain ⟨E2, y1, y2⟩ := key2
  exact ⟨E1, E2, x1, y1, y2⟩
theorem op_join {D E : am_D} (h : k_Q D E) (p q : Int32) : k_opE D E (f_X11_join p q D) (f_X12_join p q E) ["java/util/NoSuchElementException"] := by
  obtain ⟨E0, hE0, t0, f0, q0⟩ := k_start h
  have q0' := q0
  obtain ⟨ns, nm, nw, np, nh, ni, h1, h2, h3, h4, h5, h6, h7, h8, h9⟩ := q0'

  have hns := h1.1
  have e5 : (5 : Int32).toInt = 5 := rfl
  have e600 : (600 : Int32).toInt = 600 := rfl
  unfold f_X12_join
  rw [Option.bind_some, ← hE0, k_isS _ h1.2.2.1 h1.1, k_isS _ h1.2.2.1 h1.1, Option.bind_some, Option.bind_some]
  by_cases c : 0 ≤ p.toInt ∧ p.toInt < ns
  · obtain ⟨i, rfl, hi⟩ := k_ix c
    obtain ⟨n, g, bs⟩ := h1.2.2.2 i hi
    have hn1 := bs.1
    have hn2 := bs.2.1
    rw [if_pos c, if_neg k_10]
    by_cases cq : 0 ≤ q.toInt ∧ q.toInt < ns
    · obtain ⟨j, rfl, hj⟩ := k_ix cq
      obtain ⟨m, f, bs2⟩ := h1.2.2.2 j hj
      have hm1 := bs2.1
      have hm2 := bs2.2.1
      rw [if_pos cq, if_neg k_10, Option.bind_some, k_b0 t0, Option.bind_some, if_pos rfl]
      dsimp only
      obtain ⟨w, o, s, hps⟩ := h3.1
      have hpv := hps.1
      unfold k_pv at hpv
      have h15 := hps.2.2.2.2.2.1
      have h16 := hps.2.2.2.2.2.2
      have cls0 : f_X11_join (Int32.ofNat i) (Int32.ofNat j) D = am_bn (f_X1_freeSound D) (fun x6 => if Int32.ofNat n < Int32.ofNat o then some (.inr ((-2 : Int32), D)) else if Int32.ofNat o ≤ Int32.ofNat m then (f_X7_bestJoin (30 + 2 * i) (30 + 2 * j) (Int32.ofNat o) (Int32.ofNat s) D).bind fun x10 => if (x10 + Int32.ofNat m) ≤ (600 : Int32) then (f_X7_joinOf x6 (30 + 2 * i) (30 + 2 * j) x10 (Int32.ofNat o) D).bind fun x13 => (f_X1_takeSound x13).bind fun x15 => some (.inr (x15.1, x15.2)) else some (.inr ((-2 : Int32), D)) else some (.inr ((-2 : Int32), D))) (some (.inr ((-1 : Int32), D))) := by
        unfold f_X11_join
        rw [k_soT h1.2.1 h1.1 hi, k_btR, k_soT h1.2.1 h1.1 hj, k_btR, hps.2.2.1, hps.2.2.2.1, bs.2.2.1.2.2.1, bs2.2.2.1.2.2.1]
      rw [cls0, h1.2.2.1, k_freeS h1.2.1 hns]
      have fin : ∀ v : Int32, k_opE D E (some (.inr (v, D))) (some (v, E0)) ["java/util/NoSuchElementException"] := fun v => k_valE v q0 t0 f0 (k_fc_refl D) rfl rfl
      by_cases c5 : ns < 5
      · rw [if_pos c5, if_neg (by rw [j_eq, j_nat (by omega), e5]; omega), k_g (by omega) (by omega), bs.2.2.2.1, Option.bind_some, h15]
        show k_opE D E (if Int32.ofNat n < Int32.ofNat o then _ else _) _ _
        by_cases ca : n < o
        · have c1 : Int32.ofNat n < Int32.ofNat o := by rw [j_lt, j_nat (by omega), j_nat (by omega)]; omega
          rw [if_pos c1, if_pos c1]
          exact fin _
        · have c1 : ¬ Int32.ofNat n < Int32.ofNat o := by rw [j_lt, j_nat (by omega), j_nat (by omega)]; omega
          rw [if_neg c1, if_neg c1, k_g (by omega) (by omega), bs2.2.2.2.1, Option.bind_some]
          by_cases cb : o ≤ m
          · have c2 : Int32.ofNat o ≤ Int32.ofNat m := by rw [j_le, j_nat (by omega), j_nat (by omega)]; omega
            rw [if_pos c2, if_pos c2]
            obtain ⟨x, x1, x2, x3⟩ := k_joinBest bs bs2 (i := i) (j := j) (by omega) (by omega) h15 h16 (by omega) (by omega) cb
            have exm : Int32.ofNat x + Int32.ofNat m = Int32.ofNat (x + m) := (Int32.ofNat_add x m).symm
            rw [x1, Option.bind_some, x2, Option.bind_some, Option.bind_some, exm]
            by_cases cx : x + m ≤ 600
            · have c3 : Int32.ofNat (x + m) ≤ 600 := by rw [j_le, j_nat (by omega), e600]; omega
              rw [if_pos c3, if_pos c3]
              obtain ⟨D1, d1, d2, d3⟩ := k_joinC (z := ns) bs bs2 c5 hi hj hpv.2.2.1 cb x3 cx
              obtain ⟨E1, E2, r1, r2, r3, r4, r5⟩ := k_joinR bs bs2 (by omega) (by omega) h15 hpv.2.2.1 cb x3 cx
              have l119 := k_lnA.2.2.2.2.2.1
              obtain ⟨E3, g1, g2, g3, g4, g5, g6, g7, g8⟩ := k_keeps (a := 119) r3 (by rw [l119]; omega) (by rw [l119]; omega) cx (by rw [r4 117 (by omega)]; exact h1.2.2.1) c5 (by omega)
              have d17 : D1.1 17 = D.1 17 := (d3 17 (by omega)).1
              obtain ⟨D2, hD2⟩ : ∃ D2, D2 = am_wI D1 17 7 (Int32.ofNat (ns + 1)) := ⟨_, rfl⟩
              have hE39 : am_gI E2 139 5 (Int32.ofNat j) = some (Int32.ofNat m) := by rw [k_g (by omega) (by omega), r4 139 (by omega), bs2.2.2.2.1]
              rw [d1, Option.bind_some, k_takeS (by rw [d17]; exact h1.2.1), Option.bind_some, r1, Option.bind_some, r2, Option.bind_some, hE39, Option.bind_some, exm, g1, Option.bind_some, ← hD2]
              have hQ : k_Q D2 E3 := k_addS (n := x + m) (f := k_jn g f x o m) h1 h2 h3 h4 h5 h6 h7 h8 (k_Rt_mv h9 (by rw [hD2, j_wI_ne _ _ _ (by omega), (d3 69 (by omega)).1]) (by rw [hD2, j_wI_ne _ _ _ (by omega), (d3 70 (by omega)).1]) (by rw [g6 1 (by omega), r4 117 (by omega)]) (by rw [g6 3 (by omega), r4 117 (by omega)]) (by rw [g7 118 (by omega) (by omega) (by omega), r4 118 (by omega)])) c5 ⟨(by omega), cx⟩ (k_jn_bd bs.2.2.2.2.2 bs2.2.2.2.2.2 hpv.2.2.1 (by omega))
                (j_row_fr d2 (by rw [hD2, j_wI_ne _ _ _ (by omega)]) (by rw [hD2, j_wI_ne _ _ _ (by omega)])) (by rw [hD2, k_ws]) (fun j hj => by rw [hD2, k_wj _ _ hj, d17]) (fun y hy => by rw [hD2, j_wI_ne _ _ _ (by omega), (d3 y (by omega)).1]) g5 (fun j hj => by rw [g6 j (by omega), r4 117 (by omega)]) g3 (fun j hj => by rw [g4 j hj, r4 139 (by omega)]) g2 (fun y hy => by rw [g7 y (by omega) (by omega) (by omega), r4 y (by omega)])
              refine k_valE (Int32.ofNat ns) hQ ?_ ?_ ?_ rfl rfl
              · rw [g6 0 (by omega), r4 117 (by omega)]; exact t0
              · exact k_fr_trans f0 (fun y hy => ⟨by rw [g7 y (by omega) (by omega) (by omega), r4 y (by omega)], by rw [g8, r5]⟩)
              · intro y hy
                rw [hD2]
                exact ⟨by rw [j_wI_ne _ _ _ (by omega), (d3 y (by omega)).1], (d3 y (by omega)).2⟩
            · have c3 : ¬ Int32.ofNat (x + m) ≤ 600 := by rw [j_le, j_nat (by omega), e600]; omega
              rw [if_neg c3, if_neg c3]
              exact fin _
          · have c2 : ¬ Int32.ofNat o ≤ Int32.ofNat m := by rw [j_le, j_nat (by omega), j_nat (by omega)]; omega
            rw [if_neg c2, if_neg c2]
            exact fin _
      · rw [if_neg c5, if_pos (by rw [j_eq, j_nat (by omega), e5]; omega)]
        exact fin _
    · rw [if_neg cq, if_pos rfl, Option.bind_some, k_b1 t0 1 k_10, Option.bind_some, if_neg k_10]
      refine k_refE 0 0 _ q0 f0 (k_fc_refl D) rfl ?_ rfl
      unfold f_X11_join
      rw [k_soT h1.2.1 h1.1 hi, k_btR, k_soF h1.2.1 h1.1 cq, k_btL]
  · rw [if_neg c, if_pos rfl, Option.bind_some, k_b1 t0 1 k_10, Option.bind_some, if_neg k_10]
    refine k_refE 0 0 _ q0 f0 (k_fc_refl D) rfl ?_ rfl
    unfold f_X11_join
    rw [k_soF h1.2.1 h1.1 c, k_btL]
