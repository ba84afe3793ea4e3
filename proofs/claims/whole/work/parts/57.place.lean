/-! maps: where a time stands, on both sides -/
/-- a map that may be: marks that rise -/
def k_mv (n : Nat) (f t : Int → Int32) : Prop := 1 ≤ n ∧ n ≤ 12 ∧ (f (-1)).toInt = 0 ∧ (t (-1)).toInt = 0 ∧ (∀ k : Nat, k < n → (f ((k : Int) - 1)).toInt < (f k).toInt ∧ (t ((k : Int) - 1)).toInt < (t k).toInt) ∧ (f ((n : Int) - 1)).toInt ≤ 600 ∧ (t ((n : Int) - 1)).toInt ≤ 1200
theorem k_mv_mono {n : Nat} {f t : Int → Int32} (h : k_mv n f t) : ∀ k j : Nat, j ≤ k → k ≤ n → (f ((j : Int) - 1)).toInt ≤ (f ((k : Int) - 1)).toInt ∧ (t ((j : Int) - 1)).toInt ≤ (t ((k : Int) - 1)).toInt
  | 0, j, hj, _ => by
    have e : j = 0 := by omega
    subst e
    exact ⟨Int.le_refl _, Int.le_refl _⟩
  | k + 1, j, hj, hk => by
    by_cases c : j = k + 1
    · subst c
      exact ⟨Int.le_refl _, Int.le_refl _⟩
    · have h1 := k_mv_mono h k j (by omega) (by omega)
      have h2 := h.2.2.2.2.1 k (by omega)
      have e : ((k + 1 : Nat) : Int) - 1 = k := by omega
      rw [e]
      omega
theorem k_mv_bd {n : Nat} {f t : Int → Int32} (h : k_mv n f t) (k : Nat) (hk : k ≤ n) : 0 ≤ (f ((k : Int) - 1)).toInt ∧ (f ((k : Int) - 1)).toInt ≤ 600 ∧ 0 ≤ (t ((k : Int) - 1)).toInt ∧ (t ((k : Int) - 1)).toInt ≤ 1200 := by
  have h1 := k_mv_mono h k 0 (by omega) hk
  have h2 := k_mv_mono h n k hk (by omega)
  obtain ⟨g1, g2, g3, g4, g5, g6, g7⟩ := h
  have e : ((0 : Nat) : Int) - 1 = -1 := rfl
  rw [e] at h1
  omega
/-- how many marks stand at a time or ahead of it -/
def k_fi (t : Int → Int32) (q : Int32) : Nat → Nat
  | 0 => 0
  | n + 1 => if k_fi t q n = n ∧ (t n).toInt ≤ q.toInt then n + 1 else k_fi t q n
theorem k_fi_ok (t : Int → Int32) (q : Int32) : ∀ n : Nat, k_fi t q n ≤ n ∧ (∀ j : Nat, j < k_fi t q n → (t j).toInt ≤ q.toInt) ∧ (k_fi t q n < n → q.toInt < (t (k_fi t q n : Nat)).toInt)
  | 0 => ⟨Nat.le_refl _, fun j h => absurd h (by unfold k_fi; omega), fun h => absurd h (by unfold k_fi; omega)⟩
  | n + 1 => by
    obtain ⟨h1, h2, h3⟩ := k_fi_ok t q n
    unfold k_fi
    by_cases c : k_fi t q n = n ∧ (t n).toInt ≤ q.toInt
    · rw [if_pos c]
      refine ⟨Nat.le_refl _, fun j hj => ?_, fun h => absurd h (by omega)⟩
      by_cases e : j = n
      · rw [e]
        exact c.2
      · exact h2 j (by omega)
    · rw [if_neg c]
      refine ⟨by omega, h2, fun h => ?_⟩
      by_cases e : k_fi t q n = n
      · rw [e]
        have := fun z => c ⟨e, z⟩
        omega
      · exact h3 (by omega)
theorem k_fi_un {t : Int → Int32} {q : Int32} {n k : Nat} (h : k ≤ n) (h1 : ∀ j : Nat, j < k → (t j).toInt ≤ q.toInt) (h2 : k < n → q.toInt < (t k).toInt) : k_fi t q n = k := by
  obtain ⟨g1, g2, g3⟩ := k_fi_ok t q n
  rcases Nat.lt_trichotomy (k_fi t q n) k with c | c | c
  · have a1 := h1 _ c
    have a2 := g3 (by omega)
    omega
  · exact c
  · have a1 := g2 _ c
    have a2 := h2 (by omega)
    omega
theorem k_fi_lt {n : Nat} {f t : Int → Int32} (h : k_mv n f t) (q : Int32) : k_fi t q n < n ↔ q.toInt < (t ((n : Int) - 1)).toInt := by
  obtain ⟨g1, g2, g3⟩ := k_fi_ok t q n
  constructor
  · intro c
    have a1 := g3 c
    have a2 := (k_mv_mono h n (k_fi t q n + 1) (by omega) (by omega)).2
    have e : ((k_fi t q n + 1 : Nat) : Int) - 1 = (k_fi t q n : Nat) := by omega
    rw [e] at a2
    omega
  · intro c
    have h0 := h.1
    rcases Nat.lt_or_ge (k_fi t q n) n with z | z
    · exact z
    · have a1 := g2 (n - 1) (by omega)
      have e : ((n - 1 : Nat) : Int) = (n : Int) - 1 := by omega
      rw [e] at a1
      omega
/-- where a time stands in the sound -/
def k_pc (n : Nat) (f t : Int → Int32) (q : Int32) : Int32 := if 0 ≤ q.toInt ∧ k_fi t q n < n then f ((k_fi t q n : Nat) - 1) + (f (k_fi t q n : Nat) - f ((k_fi t q n : Nat) - 1)) * (q - t ((k_fi t q n : Nat) - 1)) / (t (k_fi t q n : Nat) - t ((k_fi t q n : Nat) - 1)) else -1
/-- the same as a whole number -/
def k_pi (n : Nat) (f t : Int → Int32) (q : Int) (k : Nat) : Int := (f ((k : Int) - 1)).toInt + ((f k).toInt - (f ((k : Int) - 1)).toInt) * (q - (t ((k : Int) - 1)).toInt) / ((t k).toInt - (t ((k : Int) - 1)).toInt)
theorem k_mul_bd {a b c d : Int} (h0 : 0 ≤ a) (h1 : a ≤ c) (h2 : 0 ≤ b) (h3 : b ≤ d) : 0 ≤ a * b ∧ a * b ≤ c * d := ⟨Int.mul_nonneg h0 h2, Int.mul_le_mul h1 h3 h2 (by omega)⟩
theorem k_mul_bd2 {a b c d : Int} (h0 : -c ≤ a) (h1 : a ≤ c) (h2 : -d ≤ b) (h3 : b ≤ d) (hc : 0 ≤ c) (hd : 0 ≤ d) : -(c * d) ≤ a * b ∧ a * b ≤ c * d := by
  rcases Int.le_total 0 a with p | p <;> rcases Int.le_total 0 b with q | q
  · have := k_mul_bd p h1 q h3
    have := Int.mul_nonneg hc hd
    omega
  · have := k_mul_bd (a := a) (b := -b) (c := c) (d := d) p h1 (by omega) (by omega)
    have e := Int.mul_neg a b
    have := Int.mul_nonneg hc hd
    omega
  · have := k_mul_bd (a := -a) (b := b) (c := c) (d := d) (by omega) (by omega) q h3
    have e := Int.neg_mul a b
    have := Int.mul_nonneg hc hd
    omega
  · have := k_mul_bd (a := -a) (b := -b) (c := c) (d := d) (by omega) (by omega) (by omega) (by omega)
    have e := Int.neg_mul_neg a b
    have := Int.mul_nonneg hc hd
    omega
theorem k_pc_int {n : Nat} {f t : Int → Int32} (h : k_mv n f t) (q : Int32) (h0 : 0 ≤ q.toInt) (h1 : q.toInt < (t ((n : Int) - 1)).toInt) :
    (k_pc n f t q).toInt = k_pi n f t q.toInt (k_fi t q n) ∧ (f ((k_fi t q n : Nat) - 1)).toInt ≤ (k_pc n f t q).toInt ∧ (k_pc n f t q).toInt < (f (k_fi t q n : Nat)).toInt := by
  have hk := (k_fi_lt h q).mpr h1
  obtain ⟨g1, g2, g3⟩ := k_fi_ok t q n
  have a3 := g3 hk
  unfold k_pc k_pi
  rw [if_pos ⟨h0, hk⟩]
  have hb := k_mv_bd h (k_fi t q n) g1
  have hb2 := k_mv_bd h (k_fi t q n + 1) hk
  have hs := h.2.2.2.2.1 _ hk
  have e : ((k_fi t q n + 1 : Nat) : Int) - 1 = (k_fi t q n : Nat) := by omega
  rw [e] at hb2
  have hq : (t ((k_fi t q n : Nat) - 1)).toInt ≤ q.toInt := by
    rcases Nat.eq_zero_or_pos (k_fi t q n) with z | z
    · rw [z]
      have := h.2.2.2.1
      have e : ((0 : Nat) : Int) - 1 = -1 := rfl
      rw [e]
      omega
    · have := g2 (k_fi t q n - 1) (by omega)
      have e : ((k_fi t q n - 1 : Nat) : Int) = (k_fi t q n : Nat) - 1 := by omega
      rw [e] at this
      exact this
  have d1 : (f (k_fi t q n : Nat) - f ((k_fi t q n : Nat) - 1)).toInt = (f (k_fi t q n : Nat)).toInt - (f ((k_fi t q n : Nat) - 1)).toInt := by rw [k_S]; omega
  have d2 : (q - t ((k_fi t q n : Nat) - 1)).toInt = q.toInt - (t ((k_fi t q n : Nat) - 1)).toInt := by rw [k_S]; omega
  have d3 : (t (k_fi t q n : Nat) - t ((k_fi t q n : Nat) - 1)).toInt = (t (k_fi t q n : Nat)).toInt - (t ((k_fi t q n : Nat) - 1)).toInt := by rw [k_S]; omega
  have m := k_mul_bd (a := (f (k_fi t q n : Nat)).toInt - (f ((k_fi t q n : Nat) - 1)).toInt) (b := q.toInt - (t ((k_fi t q n : Nat) - 1)).toInt) (c := 600) (d := 1200) (by omega) (by omega) (by omega) (by omega)
  have d4 : ((f (k_fi t q n : Nat) - f ((k_fi t q n : Nat) - 1)) * (q - t ((k_fi t q n : Nat) - 1))).toInt = ((f (k_fi t q n : Nat)).toInt - (f ((k_fi t q n : Nat) - 1)).toInt) * (q.toInt - (t ((k_fi t q n : Nat) - 1)).toInt) := by rw [k_M, d1, d2]; omega
  have d5 := k_D ((f (k_fi t q n : Nat) - f ((k_fi t q n : Nat) - 1)) * (q - t ((k_fi t q n : Nat) - 1))) (t (k_fi t q n : Nat) - t ((k_fi t q n : Nat) - 1)) (by omega)
  rw [d4, d3] at d5
  unfold k_q at d5
  rw [if_pos (by omega)] at d5
  have u1 : ((f (k_fi t q n : Nat)).toInt - (f ((k_fi t q n : Nat) - 1)).toInt) * (q.toInt - (t ((k_fi t q n : Nat) - 1)).toInt) / ((t (k_fi t q n : Nat)).toInt - (t ((k_fi t q n : Nat) - 1)).toInt) < (f (k_fi t q n : Nat)).toInt - (f ((k_fi t q n : Nat) - 1)).toInt := by
    refine Int.ediv_lt_of_lt_mul (by omega) ?_
    exact Int.mul_lt_mul_of_pos_left (by omega) (by omega)
  have u2 : 0 ≤ ((f (k_fi t q n : Nat)).toInt - (f ((k_fi t q n : Nat) - 1)).toInt) * (q.toInt - (t ((k_fi t q n : Nat) - 1)).toInt) / ((t (k_fi t q n : Nat)).toInt - (t ((k_fi t q n : Nat) - 1)).toInt) := Int.ediv_nonneg m.1 (by omega)
  rw [k_A, d5]
  omega
theorem k_pc_mono {n : Nat} {f t : Int → Int32} (h : k_mv n f t) (q p : Int32) (h0 : 0 ≤ q.toInt) (h1 : q.toInt ≤ p.toInt) (h2 : p.toInt < (t ((n : Int) - 1)).toInt) : (k_pc n f t q).toInt ≤ (k_pc n f t p).toInt := by
  obtain ⟨a1, a2, a3⟩ := k_pc_int h q h0 (by omega)
  obtain ⟨b1, b2, b3⟩ := k_pc_int h p (by omega) h2
  obtain ⟨g1, g2, g3⟩ := k_fi_ok t q n
  obtain ⟨i1, i2, i3⟩ := k_fi_ok t p n
  have hk := (k_fi_lt h q).mpr (by omega)
  have hk2 := (k_fi_lt h p).mpr h2
  rcases Nat.lt_trichotomy (k_fi t q n) (k_fi t p n) with c | c | c
  · have m := (k_mv_mono h (k_fi t p n) (k_fi t q n + 1) c (by omega)).1
    have e : ((k_fi t q n + 1 : Nat) : Int) - 1 = (k_fi t q n : Nat) := by omega
    rw [e] at m
    omega
  · rw [a1, b1, ← c]
    unfold k_pi
    have hs := h.2.2.2.2.1 _ hk
    have m : ((f (k_fi t q n : Nat)).toInt - (f ((k_fi t q n : Nat) - 1)).toInt) * (q.toInt - (t ((k_fi t q n : Nat) - 1)).toInt) ≤ ((f (k_fi t q n : Nat)).toInt - (f ((k_fi t q n : Nat) - 1)).toInt) * (p.toInt - (t ((k_fi t q n : Nat) - 1)).toInt) := Int.mul_le_mul_of_nonneg_left (by omega) (by omega)
    have m2 := Int.ediv_le_ediv (a := ((f (k_fi t q n : Nat)).toInt - (f ((k_fi t q n : Nat) - 1)).toInt) * (q.toInt - (t ((k_fi t q n : Nat) - 1)).toInt)) (c := (t (k_fi t q n : Nat)).toInt - (t ((k_fi t q n : Nat) - 1)).toInt) (by omega) m
    omega
  · have z1 := g2 _ c
    have z2 := i3 hk2
    omega
