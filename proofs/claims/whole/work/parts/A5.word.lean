/-! words: letter by letter in the class, as one number in the reference -/
/-- the number of the first so many letters from a on -/
def k_hash (n : Nat) (B : Nat → Int32) (a : Nat) : Nat → Int32
  | 0 => 0
  | k + 1 => if k < 5 then (27 : Int32) * k_hash n B a k + k_by n B (a + k) - 97 + 1 else k_hash n B a k
/-- what the reference makes of the letters from a to b -/
def k_H (n : Nat) (B : Nat → Int32) (a b : Nat) : Int32 := if b - a ≤ 5 then k_hash n B a (b - a) else -1
theorem k_hs {h x : Int32} (h1 : 0 ≤ h.toInt) (h2 : h.toInt ≤ 600000) (x1 : 97 ≤ x.toInt) (x2 : x.toInt ≤ 122) : ((27 : Int32) * h + x - 97 + 1).toInt = 27 * h.toInt + x.toInt - 96 := by
  have e27 : (27 : Int32).toInt = 27 := rfl
  have e97 : (97 : Int32).toInt = 97 := rfl
  have e1 : (1 : Int32).toInt = 1 := rfl
  have m : ((27 : Int32) * h).toInt = 27 * h.toInt := by rw [j_mul (by rw [e27]; omega) (by rw [e27]; omega), e27]
  have s : ((27 : Int32) * h + x).toInt = 27 * h.toInt + x.toInt := by rw [j_add (by rw [m]; omega) (by rw [m]; omega), m]
  have s2 : ((27 : Int32) * h + x - 97).toInt = 27 * h.toInt + x.toInt - 97 := by rw [j_sub (by rw [s, e97]; omega) (by rw [s, e97]; omega), s, e97]
  rw [j_add (by rw [s2, e1]; omega) (by rw [s2, e1]; omega), s2, e1]
  omega
theorem k_hz {n a m : Nat} {B : Nat → Int32} (hm : m ≤ 5) (hl : ∀ j, j < m → 97 ≤ (k_by n B (a + j)).toInt ∧ (k_by n B (a + j)).toInt ≤ 122) :
    (m = 0 → (k_hash n B a m).toInt = 0) ∧ (m = 1 → (k_hash n B a m).toInt = (k_by n B (a + 0)).toInt - 96) ∧ (m = 2 → (k_hash n B a m).toInt = 27 * ((k_by n B (a + 0)).toInt - 96) + (k_by n B (a + 1)).toInt - 96) ∧
    (m = 3 → (k_hash n B a m).toInt = 729 * ((k_by n B (a + 0)).toInt - 96) + 27 * ((k_by n B (a + 1)).toInt - 96) + (k_by n B (a + 2)).toInt - 96) ∧
    (m = 4 → (k_hash n B a m).toInt = 19683 * ((k_by n B (a + 0)).toInt - 96) + 729 * ((k_by n B (a + 1)).toInt - 96) + 27 * ((k_by n B (a + 2)).toInt - 96) + (k_by n B (a + 3)).toInt - 96) ∧
    (m = 5 → (k_hash n B a m).toInt = 531441 * ((k_by n B (a + 0)).toInt - 96) + 19683 * ((k_by n B (a + 1)).toInt - 96) + 729 * ((k_by n B (a + 2)).toInt - 96) + 27 * ((k_by n B (a + 3)).toInt - 96) + (k_by n B (a + 4)).toInt - 96) := by
  have z0 : (k_hash n B a 0).toInt = 0 := rfl
  have st : ∀ k, k < 5 → k_hash n B a (k + 1) = (27 : Int32) * k_hash n B a k + k_by n B (a + k) - 97 + 1 := fun k hk => by
    show (if k < 5 then _ else _) = _
    rw [if_pos hk]
  have z1 : 1 ≤ m → (k_hash n B a 1).toInt = 1 * ((k_by n B (a + 0)).toInt - 96) := fun hk => by
    have l0 := hl 0 (by omega)
    rw [st 0 (by omega), k_hs (by omega) (by omega) l0.1 l0.2, z0]
    omega
  have z2 : 2 ≤ m → (k_hash n B a 2).toInt = 27 * ((k_by n B (a + 0)).toInt - 96) + 1 * ((k_by n B (a + 1)).toInt - 96) := fun hk => by
    have z1 := z1 (by omega)
    have l0 := hl 0 (by omega)
    have l1 := hl 1 (by omega)
    rw [st 1 (by omega), k_hs (by omega) (by omega) l1.1 l1.2]
    omega
  have z3 : 3 ≤ m → (k_hash n B a 3).toInt = 729 * ((k_by n B (a + 0)).toInt - 96) + 27 * ((k_by n B (a + 1)).toInt - 96) + 1 * ((k_by n B (a + 2)).toInt - 96) := fun hk => by
    have z2 := z2 (by omega)
    have l0 := hl 0 (by omega)
    have l1 := hl 1 (by omega)
    have l2 := hl 2 (by omega)
    rw [st 2 (by omega), k_hs (by omega) (by omega) l2.1 l2.2]
    omega
  have z4 : 4 ≤ m → (k_hash n B a 4).toInt = 19683 * ((k_by n B (a + 0)).toInt - 96) + 729 * ((k_by n B (a + 1)).toInt - 96) + 27 * ((k_by n B (a + 2)).toInt - 96) + 1 * ((k_by n B (a + 3)).toInt - 96) := fun hk => by
    have z3 := z3 (by omega)
    have l0 := hl 0 (by omega)
    have l1 := hl 1 (by omega)
    have l2 := hl 2 (by omega)
    have l3 := hl 3 (by omega)
    rw [st 3 (by omega), k_hs (by omega) (by omega) l3.1 l3.2]
    omega
  have z5 : 5 ≤ m → (k_hash n B a 5).toInt = 531441 * ((k_by n B (a + 0)).toInt - 96) + 19683 * ((k_by n B (a + 1)).toInt - 96) + 729 * ((k_by n B (a + 2)).toInt - 96) + 27 * ((k_by n B (a + 3)).toInt - 96) + 1 * ((k_by n B (a + 4)).toInt - 96) := fun hk => by
    have z4 := z4 (by omega)
    have l0 := hl 0 (by omega)
    have l1 := hl 1 (by omega)
    have l2 := hl 2 (by omega)
    have l3 := hl 3 (by omega)
    have l4 := hl 4 (by omega)
    rw [st 4 (by omega), k_hs (by omega) (by omega) l4.1 l4.2]
    omega
  refine ⟨fun e => by rw [e]; exact z0, fun e => ?_, fun e => ?_, fun e => ?_, fun e => ?_, fun e => ?_⟩
  · have z := z1 (by omega)
    rw [e]
    omega
  · have z := z2 (by omega)
    rw [e]
    omega
  · have z := z3 (by omega)
    rw [e]
    omega
  · have z := z4 (by omega)
    rw [e]
    omega
  · have z := z5 (by omega)
    rw [e]
    omega
theorem k_iff_still {n a b : Nat} {B : Nat → Int32} (hl : ∀ j, j < b - a → 97 ≤ (k_by n B (a + j)).toInt ∧ (k_by n B (a + j)).toInt ≤ 122) : k_H n B a b = 10497936 ↔ (b - a = 5 ∧ (k_by n B (a + 0)).toInt = 115 ∧ (k_by n B (a + 1)).toInt = 116 ∧ (k_by n B (a + 2)).toInt = 105 ∧ (k_by n B (a + 3)).toInt = 108 ∧ (k_by n B (a + 4)).toInt = 108) := by
  have eK : (10497936 : Int32).toInt = 10497936 := rfl
  have em : (-1 : Int32).toInt = -1 := rfl
  unfold k_H
  by_cases c : b - a ≤ 5
  · obtain ⟨h0, h1, h2, h3, h4, h5⟩ := k_hz (B := B) (n := n) (a := a) c hl
    rw [if_pos c, j_eq, eK]
    constructor
    · intro h
      have cm : b - a = 0 ∨ b - a = 1 ∨ b - a = 2 ∨ b - a = 3 ∨ b - a = 4 ∨ b - a = 5 := (by omega)
      rcases cm with m | m | m | m | m | m
      · have z := h0 m
        rw [h] at z
        exfalso
        omega
      · have z := h1 m
        rw [h] at z
        have l0 := hl 0 (by omega)
        exfalso
        omega
      · have z := h2 m
        rw [h] at z
        have l0 := hl 0 (by omega)
        have l1 := hl 1 (by omega)
        exfalso
        omega
      · have z := h3 m
        rw [h] at z
        have l0 := hl 0 (by omega)
        have l1 := hl 1 (by omega)
        have l2 := hl 2 (by omega)
        exfalso
        omega
      · have z := h4 m
        rw [h] at z
        have l0 := hl 0 (by omega)
        have l1 := hl 1 (by omega)
        have l2 := hl 2 (by omega)
        have l3 := hl 3 (by omega)
        exfalso
        omega
      · have z := h5 m
        rw [h] at z
        have l0 := hl 0 (by omega)
        have l1 := hl 1 (by omega)
        have l2 := hl 2 (by omega)
        have l3 := hl 3 (by omega)
        have l4 := hl 4 (by omega)
        have t0 : (k_by n B (a + 0)).toInt = 115 := (by omega)
        have t1 : (k_by n B (a + 1)).toInt = 116 := (by omega)
        have t2 : (k_by n B (a + 2)).toInt = 105 := (by omega)
        have t3 : (k_by n B (a + 3)).toInt = 108 := (by omega)
        have t4 : (k_by n B (a + 4)).toInt = 108 := (by omega)
        exact ⟨m, t0, t1, t2, t3, t4⟩
    · intro ⟨m, t0, t1, t2, t3, t4⟩
      have z := h5 m
      rw [z, t0, t1, t2, t3, t4]
      rfl
  · rw [if_neg c]
    constructor
    · intro h
      rw [j_eq, eK, em] at h
      exact absurd h (by decide)
    · intro h
      exact absurd h.1 (by omega)
theorem k_iff_tone {n a b : Nat} {B : Nat → Int32} (hl : ∀ j, j < b - a → 97 ≤ (k_by n B (a + j)).toInt ∧ (k_by n B (a + j)).toInt ≤ 122) : k_H n B a b = 404978 ↔ (b - a = 4 ∧ (k_by n B (a + 0)).toInt = 116 ∧ (k_by n B (a + 1)).toInt = 111 ∧ (k_by n B (a + 2)).toInt = 110 ∧ (k_by n B (a + 3)).toInt = 101) := by
  have eK : (404978 : Int32).toInt = 404978 := rfl
  have em : (-1 : Int32).toInt = -1 := rfl
  unfold k_H
  by_cases c : b - a ≤ 5
  · obtain ⟨h0, h1, h2, h3, h4, h5⟩ := k_hz (B := B) (n := n) (a := a) c hl
    rw [if_pos c, j_eq, eK]
    constructor
    · intro h
      have cm : b - a = 0 ∨ b - a = 1 ∨ b - a = 2 ∨ b - a = 3 ∨ b - a = 4 ∨ b - a = 5 := (by omega)
      rcases cm with m | m | m | m | m | m
      · have z := h0 m
        rw [h] at z
        exfalso
        omega
      · have z := h1 m
        rw [h] at z
        have l0 := hl 0 (by omega)
        exfalso
        omega
      · have z := h2 m
        rw [h] at z
        have l0 := hl 0 (by omega)
        have l1 := hl 1 (by omega)
        exfalso
        omega
      · have z := h3 m
        rw [h] at z
        have l0 := hl 0 (by omega)
        have l1 := hl 1 (by omega)
        have l2 := hl 2 (by omega)
        exfalso
        omega
      · have z := h4 m
        rw [h] at z
        have l0 := hl 0 (by omega)
        have l1 := hl 1 (by omega)
        have l2 := hl 2 (by omega)
        have l3 := hl 3 (by omega)
        have t0 : (k_by n B (a + 0)).toInt = 116 := (by omega)
        have t1 : (k_by n B (a + 1)).toInt = 111 := (by omega)
        have t2 : (k_by n B (a + 2)).toInt = 110 := (by omega)
        have t3 : (k_by n B (a + 3)).toInt = 101 := (by omega)
        exact ⟨m, t0, t1, t2, t3⟩
      · have z := h5 m
        rw [h] at z
        have l0 := hl 0 (by omega)
        have l1 := hl 1 (by omega)
        have l2 := hl 2 (by omega)
        have l3 := hl 3 (by omega)
        have l4 := hl 4 (by omega)
        exfalso
        omega
    · intro ⟨m, t0, t1, t2, t3⟩
      have z := h4 m
      rw [z, t0, t1, t2, t3]
      rfl
  · rw [if_neg c]
    constructor
    · intro h
      rw [j_eq, eK, em] at h
      exact absurd h (by decide)
    · intro h
      exact absurd h.1 (by omega)
theorem k_iff_blow {n a b : Nat} {B : Nat → Int32} (hl : ∀ j, j < b - a → 97 ≤ (k_by n B (a + j)).toInt ∧ (k_by n B (a + j)).toInt ≤ 122) : k_H n B a b = 48542 ↔ (b - a = 4 ∧ (k_by n B (a + 0)).toInt = 98 ∧ (k_by n B (a + 1)).toInt = 108 ∧ (k_by n B (a + 2)).toInt = 111 ∧ (k_by n B (a + 3)).toInt = 119) := by
  have eK : (48542 : Int32).toInt = 48542 := rfl
  have em : (-1 : Int32).toInt = -1 := rfl
  unfold k_H
  by_cases c : b - a ≤ 5
  · obtain ⟨h0, h1, h2, h3, h4, h5⟩ := k_hz (B := B) (n := n) (a := a) c hl
    rw [if_pos c, j_eq, eK]
    constructor
    · intro h
      have cm : b - a = 0 ∨ b - a = 1 ∨ b - a = 2 ∨ b - a = 3 ∨ b - a = 4 ∨ b - a = 5 := (by omega)
      rcases cm with m | m | m | m | m | m
      · have z := h0 m
        rw [h] at z
        exfalso
        omega
      · have z := h1 m
        rw [h] at z
        have l0 := hl 0 (by omega)
        exfalso
        omega
      · have z := h2 m
        rw [h] at z
        have l0 := hl 0 (by omega)
        have l1 := hl 1 (by omega)
        exfalso
        omega
      · have z := h3 m
        rw [h] at z
        have l0 := hl 0 (by omega)
        have l1 := hl 1 (by omega)
        have l2 := hl 2 (by omega)
        exfalso
        omega
      · have z := h4 m
        rw [h] at z
        have l0 := hl 0 (by omega)
        have l1 := hl 1 (by omega)
        have l2 := hl 2 (by omega)
        have l3 := hl 3 (by omega)
        have t0 : (k_by n B (a + 0)).toInt = 98 := (by omega)
        have t1 : (k_by n B (a + 1)).toInt = 108 := (by omega)
        have t2 : (k_by n B (a + 2)).toInt = 111 := (by omega)
        have t3 : (k_by n B (a + 3)).toInt = 119 := (by omega)
        exact ⟨m, t0, t1, t2, t3⟩
      · have z := h5 m
        rw [h] at z
        have l0 := hl 0 (by omega)
        have l1 := hl 1 (by omega)
        have l2 := hl 2 (by omega)
        have l3 := hl 3 (by omega)
        have l4 := hl 4 (by omega)
        exfalso
        omega
    · intro ⟨m, t0, t1, t2, t3⟩
      have z := h4 m
      rw [z, t0, t1, t2, t3]
      rfl
  · rw [if_neg c]
    constructor
    · intro h
      rw [j_eq, eK, em] at h
      exact absurd h (by decide)
    · intro h
      exact absurd h.1 (by omega)
theorem k_iff_hiss {n a b : Nat} {B : Nat → Int32} (hl : ∀ j, j < b - a → 97 ≤ (k_by n B (a + j)).toInt ∧ (k_by n B (a + j)).toInt ≤ 122) : k_H n B a b = 164557 ↔ (b - a = 4 ∧ (k_by n B (a + 0)).toInt = 104 ∧ (k_by n B (a + 1)).toInt = 105 ∧ (k_by n B (a + 2)).toInt = 115 ∧ (k_by n B (a + 3)).toInt = 115) := by
  have eK : (164557 : Int32).toInt = 164557 := rfl
  have em : (-1 : Int32).toInt = -1 := rfl
  unfold k_H
  by_cases c : b - a ≤ 5
  · obtain ⟨h0, h1, h2, h3, h4, h5⟩ := k_hz (B := B) (n := n) (a := a) c hl
    rw [if_pos c, j_eq, eK]
    constructor
    · intro h
      have cm : b - a = 0 ∨ b - a = 1 ∨ b - a = 2 ∨ b - a = 3 ∨ b - a = 4 ∨ b - a = 5 := (by omega)
      rcases cm with m | m | m | m | m | m
      · have z := h0 m
        rw [h] at z
        exfalso
        omega
      · have z := h1 m
        rw [h] at z
        have l0 := hl 0 (by omega)
        exfalso
        omega
      · have z := h2 m
        rw [h] at z
        have l0 := hl 0 (by omega)
        have l1 := hl 1 (by omega)
        exfalso
        omega
      · have z := h3 m
        rw [h] at z
        have l0 := hl 0 (by omega)
        have l1 := hl 1 (by omega)
        have l2 := hl 2 (by omega)
        exfalso
        omega
      · have z := h4 m
        rw [h] at z
        have l0 := hl 0 (by omega)
        have l1 := hl 1 (by omega)
        have l2 := hl 2 (by omega)
        have l3 := hl 3 (by omega)
        have t0 : (k_by n B (a + 0)).toInt = 104 := (by omega)
        have t1 : (k_by n B (a + 1)).toInt = 105 := (by omega)
        have t2 : (k_by n B (a + 2)).toInt = 115 := (by omega)
        have t3 : (k_by n B (a + 3)).toInt = 115 := (by omega)
        exact ⟨m, t0, t1, t2, t3⟩
      · have z := h5 m
        rw [h] at z
        have l0 := hl 0 (by omega)
        have l1 := hl 1 (by omega)
        have l2 := hl 2 (by omega)
        have l3 := hl 3 (by omega)
        have l4 := hl 4 (by omega)
        exfalso
        omega
    · intro ⟨m, t0, t1, t2, t3⟩
      have z := h4 m
      rw [z, t0, t1, t2, t3]
      rfl
  · rw [if_neg c]
    constructor
    · intro h
      rw [j_eq, eK, em] at h
      exact absurd h (by decide)
    · intro h
      exact absurd h.1 (by omega)
theorem k_iff_hum {n a b : Nat} {B : Nat → Int32} (hl : ∀ j, j < b - a → 97 ≤ (k_by n B (a + j)).toInt ∧ (k_by n B (a + j)).toInt ≤ 122) : k_H n B a b = 6412 ↔ (b - a = 3 ∧ (k_by n B (a + 0)).toInt = 104 ∧ (k_by n B (a + 1)).toInt = 117 ∧ (k_by n B (a + 2)).toInt = 109) := by
  have eK : (6412 : Int32).toInt = 6412 := rfl
  have em : (-1 : Int32).toInt = -1 := rfl
  unfold k_H
  by_cases c : b - a ≤ 5
  · obtain ⟨h0, h1, h2, h3, h4, h5⟩ := k_hz (B := B) (n := n) (a := a) c hl
    rw [if_pos c, j_eq, eK]
    constructor
    · intro h
      have cm : b - a = 0 ∨ b - a = 1 ∨ b - a = 2 ∨ b - a = 3 ∨ b - a = 4 ∨ b - a = 5 := (by omega)
      rcases cm with m | m | m | m | m | m
      · have z := h0 m
        rw [h] at z
        exfalso
        omega
      · have z := h1 m
        rw [h] at z
        have l0 := hl 0 (by omega)
        exfalso
        omega
      · have z := h2 m
        rw [h] at z
        have l0 := hl 0 (by omega)
        have l1 := hl 1 (by omega)
        exfalso
        omega
      · have z := h3 m
        rw [h] at z
        have l0 := hl 0 (by omega)
        have l1 := hl 1 (by omega)
        have l2 := hl 2 (by omega)
        have t0 : (k_by n B (a + 0)).toInt = 104 := (by omega)
        have t1 : (k_by n B (a + 1)).toInt = 117 := (by omega)
        have t2 : (k_by n B (a + 2)).toInt = 109 := (by omega)
        exact ⟨m, t0, t1, t2⟩
      · have z := h4 m
        rw [h] at z
        have l0 := hl 0 (by omega)
        have l1 := hl 1 (by omega)
        have l2 := hl 2 (by omega)
        have l3 := hl 3 (by omega)
        exfalso
        omega
      · have z := h5 m
        rw [h] at z
        have l0 := hl 0 (by omega)
        have l1 := hl 1 (by omega)
        have l2 := hl 2 (by omega)
        have l3 := hl 3 (by omega)
        have l4 := hl 4 (by omega)
        exfalso
        omega
    · intro ⟨m, t0, t1, t2⟩
      have z := h3 m
      rw [z, t0, t1, t2]
      rfl
  · rw [if_neg c]
    constructor
    · intro h
      rw [j_eq, eK, em] at h
      exact absurd h (by decide)
    · intro h
      exact absurd h.1 (by omega)
theorem k_iff_mark {n a b : Nat} {B : Nat → Int32} (hl : ∀ j, j < b - a → 97 ≤ (k_by n B (a + j)).toInt ∧ (k_by n B (a + j)).toInt ≤ 122) : k_H n B a b = 257105 ↔ (b - a = 4 ∧ (k_by n B (a + 0)).toInt = 109 ∧ (k_by n B (a + 1)).toInt = 97 ∧ (k_by n B (a + 2)).toInt = 114 ∧ (k_by n B (a + 3)).toInt = 107) := by
  have eK : (257105 : Int32).toInt = 257105 := rfl
  have em : (-1 : Int32).toInt = -1 := rfl
  unfold k_H
  by_cases c : b - a ≤ 5
  · obtain ⟨h0, h1, h2, h3, h4, h5⟩ := k_hz (B := B) (n := n) (a := a) c hl
    rw [if_pos c, j_eq, eK]
    constructor
    · intro h
      have cm : b - a = 0 ∨ b - a = 1 ∨ b - a = 2 ∨ b - a = 3 ∨ b - a = 4 ∨ b - a = 5 := (by omega)
      rcases cm with m | m | m | m | m | m
      · have z := h0 m
        rw [h] at z
        exfalso
        omega
      · have z := h1 m
        rw [h] at z
        have l0 := hl 0 (by omega)
        exfalso
        omega
      · have z := h2 m
        rw [h] at z
        have l0 := hl 0 (by omega)
        have l1 := hl 1 (by omega)
        exfalso
        omega
      · have z := h3 m
        rw [h] at z
        have l0 := hl 0 (by omega)
        have l1 := hl 1 (by omega)
        have l2 := hl 2 (by omega)
        exfalso
        omega
      · have z := h4 m
        rw [h] at z
        have l0 := hl 0 (by omega)
        have l1 := hl 1 (by omega)
        have l2 := hl 2 (by omega)
        have l3 := hl 3 (by omega)
        have t0 : (k_by n B (a + 0)).toInt = 109 := (by omega)
        have t1 : (k_by n B (a + 1)).toInt = 97 := (by omega)
        have t2 : (k_by n B (a + 2)).toInt = 114 := (by omega)
        have t3 : (k_by n B (a + 3)).toInt = 107 := (by omega)
        exact ⟨m, t0, t1, t2, t3⟩
      · have z := h5 m
        rw [h] at z
        have l0 := hl 0 (by omega)
        have l1 := hl 1 (by omega)
        have l2 := hl 2 (by omega)
        have l3 := hl 3 (by omega)
        have l4 := hl 4 (by omega)
        exfalso
        omega
    · intro ⟨m, t0, t1, t2, t3⟩
      have z := h4 m
      rw [z, t0, t1, t2, t3]
      rfl
  · rw [if_neg c]
    constructor
    · intro h
      rw [j_eq, eK, em] at h
      exact absurd h (by decide)
    · intro h
      exact absurd h.1 (by omega)
/-- the class compares letters -/
theorem k_cword {n a b q L : Nat} {B : Nat → Int32} {D : am_D} (h : k_tc n B D b) (hw : D.1 69 6 = Int32.ofNat a) (hab : a ≤ b) (hL : am_wl q = Int32.ofNat L) (hL5 : L ≤ 5) (ch : Nat → Int32) (hch : ∀ k, k < L → am_wc q (Int32.ofNat k) = some (ch k)) :
    f_X8_isWord q D = some (if b - a = L ∧ ∀ k, k < L → k_by n B (a + k) = ch k then 1 else 0) := by
  have hb := h.1
  have hn := h.2.1
  have key := k_ind (P := fun fu k => (∀ j, j < k → k_by n B (a + j) = ch j) → f_X8_isWord_L20 q D fu (Int32.ofNat k) = some (if ∀ j, j < L → k_by n B (a + j) = ch j then .inr () else .inl ())) L
    (by
      intro fu k hk ih g
      have e : Int32.ofNat a + Int32.ofNat k = Int32.ofNat (a + k) := (Int32.ofNat_add a k).symm
      rw [f_X8_isWord_L20, hL, if_neg (by rw [j_le, j_nat (by omega), j_nat (by omega)]; omega), hw, e, k_cby h (by omega), Option.bind_some, hch k hk, Option.bind_some]
      by_cases c : k_by n B (a + k) = ch k
      · rw [if_pos c, j_suc]
        refine ih fun j hj => ?_
        by_cases cj : j = k
        · rw [cj]; exact c
        · exact g j (by omega)
      · rw [if_neg c, if_neg (fun z => c (z k hk))]) (by
      intro fu g
      rw [f_X8_isWord_L20, hL, if_pos (Int32.le_refl _), if_pos g]) am_fu 0 (by omega) (by unfold am_fu; omega) (fun j hj => absurd hj (by omega))
  have key : f_X8_isWord_L20 q D am_fu (0 : Int32) = _ := key
  have es : Int32.ofNat b - Int32.ofNat a = Int32.ofNat (b - a) := by
    rw [j_eq, j_sub (by rw [j_nat (by omega), j_nat (by omega)]; omega) (by rw [j_nat (by omega), j_nat (by omega)]; omega), j_nat (by omega), j_nat (by omega), j_nat (by omega)]
    omega
  unfold f_X8_isWord
  rw [h.2.2.2.1, hw, es, hL, key]
  by_cases c : b - a = L
  · rw [if_pos (by rw [c])]
    by_cases c2 : ∀ j, j < L → k_by n B (a + j) = ch j
    · rw [if_pos c2, if_pos ⟨c, c2⟩]
      rfl
    · rw [if_neg c2, if_neg (fun z => c2 z.2)]
      rfl
  · rw [if_neg (fun z => c (k_ofN_inj z (by omega) (by omega))), if_neg (fun z => c z.1)]
theorem k_is_still {n a b : Nat} {B : Nat → Int32} {D : am_D} (h : k_tc n B D b) (hw : D.1 69 6 = Int32.ofNat a) (hab : a ≤ b) (hl : ∀ j, j < b - a → 97 ≤ (k_by n B (a + j)).toInt ∧ (k_by n B (a + j)).toInt ≤ 122) : f_X8_isWord 1 D = some (if k_H n B a b = 10497936 then 1 else 0) := by
  rw [k_cword (q := 1) (L := 5) h hw hab (by decide) (by decide) (fun k => Int32.ofNat ([115, 116, 105, 108, 108].getD k 0)) (by decide)]
  have iff := k_iff_still (n := n) (B := B) hl
  by_cases c : k_H n B a b = 10497936
  · obtain ⟨m, t0, t1, t2, t3, t4⟩ := iff.mp c
    rw [if_pos c, if_pos]
    refine ⟨m, fun k hk => ?_⟩
    have ck : k = 0 ∨ k = 1 ∨ k = 2 ∨ k = 3 ∨ k = 4 := (by omega)
    rcases ck with rfl | rfl | rfl | rfl | rfl
    · rw [j_eq, t0]; rfl
    · rw [j_eq, t1]; rfl
    · rw [j_eq, t2]; rfl
    · rw [j_eq, t3]; rfl
    · rw [j_eq, t4]; rfl
  · rw [if_neg c, if_neg]
    intro z
    refine c (iff.mpr ⟨z.1, ?_, ?_, ?_, ?_, ?_⟩)
    · rw [z.2 0 (by omega)]; rfl
    · rw [z.2 1 (by omega)]; rfl
    · rw [z.2 2 (by omega)]; rfl
    · rw [z.2 3 (by omega)]; rfl
    · rw [z.2 4 (by omega)]; rfl
theorem k_is_tone {n a b : Nat} {B : Nat → Int32} {D : am_D} (h : k_tc n B D b) (hw : D.1 69 6 = Int32.ofNat a) (hab : a ≤ b) (hl : ∀ j, j < b - a → 97 ≤ (k_by n B (a + j)).toInt ∧ (k_by n B (a + j)).toInt ≤ 122) : f_X8_isWord 2 D = some (if k_H n B a b = 404978 then 1 else 0) := by
  rw [k_cword (q := 2) (L := 4) h hw hab (by decide) (by decide) (fun k => Int32.ofNat ([116, 111, 110, 101].getD k 0)) (by decide)]
  have iff := k_iff_tone (n := n) (B := B) hl
  by_cases c : k_H n B a b = 404978
  · obtain ⟨m, t0, t1, t2, t3⟩ := iff.mp c
    rw [if_pos c, if_pos]
    refine ⟨m, fun k hk => ?_⟩
    have ck : k = 0 ∨ k = 1 ∨ k = 2 ∨ k = 3 := (by omega)
    rcases ck with rfl | rfl | rfl | rfl
    · rw [j_eq, t0]; rfl
    · rw [j_eq, t1]; rfl
    · rw [j_eq, t2]; rfl
    · rw [j_eq, t3]; rfl
  · rw [if_neg c, if_neg]
    intro z
    refine c (iff.mpr ⟨z.1, ?_, ?_, ?_, ?_⟩)
    · rw [z.2 0 (by omega)]; rfl
    · rw [z.2 1 (by omega)]; rfl
    · rw [z.2 2 (by omega)]; rfl
    · rw [z.2 3 (by omega)]; rfl
theorem k_is_blow {n a b : Nat} {B : Nat → Int32} {D : am_D} (h : k_tc n B D b) (hw : D.1 69 6 = Int32.ofNat a) (hab : a ≤ b) (hl : ∀ j, j < b - a → 97 ≤ (k_by n B (a + j)).toInt ∧ (k_by n B (a + j)).toInt ≤ 122) : f_X8_isWord 3 D = some (if k_H n B a b = 48542 then 1 else 0) := by
  rw [k_cword (q := 3) (L := 4) h hw hab (by decide) (by decide) (fun k => Int32.ofNat ([98, 108, 111, 119].getD k 0)) (by decide)]
  have iff := k_iff_blow (n := n) (B := B) hl
  by_cases c : k_H n B a b = 48542
  · obtain ⟨m, t0, t1, t2, t3⟩ := iff.mp c
    rw [if_pos c, if_pos]
    refine ⟨m, fun k hk => ?_⟩
    have ck : k = 0 ∨ k = 1 ∨ k = 2 ∨ k = 3 := (by omega)
    rcases ck with rfl | rfl | rfl | rfl
    · rw [j_eq, t0]; rfl
    · rw [j_eq, t1]; rfl
    · rw [j_eq, t2]; rfl
    · rw [j_eq, t3]; rfl
  · rw [if_neg c, if_neg]
    intro z
    refine c (iff.mpr ⟨z.1, ?_, ?_, ?_, ?_⟩)
    · rw [z.2 0 (by omega)]; rfl
    · rw [z.2 1 (by omega)]; rfl
    · rw [z.2 2 (by omega)]; rfl
    · rw [z.2 3 (by omega)]; rfl
theorem k_is_hiss {n a b : Nat} {B : Nat → Int32} {D : am_D} (h : k_tc n B D b) (hw : D.1 69 6 = Int32.ofNat a) (hab : a ≤ b) (hl : ∀ j, j < b - a → 97 ≤ (k_by n B (a + j)).toInt ∧ (k_by n B (a + j)).toInt ≤ 122) : f_X8_isWord 4 D = some (if k_H n B a b = 164557 then 1 else 0) := by
  rw [k_cword (q := 4) (L := 4) h hw hab (by decide) (by decide) (fun k => Int32.ofNat ([104, 105, 115, 115].getD k 0)) (by decide)]
  have iff := k_iff_hiss (n := n) (B := B) hl
  by_cases c : k_H n B a b = 164557
  · obtain ⟨m, t0, t1, t2, t3⟩ := iff.mp c
    rw [if_pos c, if_pos]
    refine ⟨m, fun k hk => ?_⟩
    have ck : k = 0 ∨ k = 1 ∨ k = 2 ∨ k = 3 := (by omega)
    rcases ck with rfl | rfl | rfl | rfl
    · rw [j_eq, t0]; rfl
    · rw [j_eq, t1]; rfl
    · rw [j_eq, t2]; rfl
    · rw [j_eq, t3]; rfl
  · rw [if_neg c, if_neg]
    intro z
    refine c (iff.mpr ⟨z.1, ?_, ?_, ?_, ?_⟩)
    · rw [z.2 0 (by omega)]; rfl
    · rw [z.2 1 (by omega)]; rfl
    · rw [z.2 2 (by omega)]; rfl
    · rw [z.2 3 (by omega)]; rfl
theorem k_is_hum {n a b : Nat} {B : Nat → Int32} {D : am_D} (h : k_tc n B D b) (hw : D.1 69 6 = Int32.ofNat a) (hab : a ≤ b) (hl : ∀ j, j < b - a → 97 ≤ (k_by n B (a + j)).toInt ∧ (k_by n B (a + j)).toInt ≤ 122) : f_X8_isWord 5 D = some (if k_H n B a b = 6412 then 1 else 0) := by
  rw [k_cword (q := 5) (L := 3) h hw hab (by decide) (by decide) (fun k => Int32.ofNat ([104, 117, 109].getD k 0)) (by decide)]
  have iff := k_iff_hum (n := n) (B := B) hl
  by_cases c : k_H n B a b = 6412
  · obtain ⟨m, t0, t1, t2⟩ := iff.mp c
    rw [if_pos c, if_pos]
    refine ⟨m, fun k hk => ?_⟩
    have ck : k = 0 ∨ k = 1 ∨ k = 2 := (by omega)
    rcases ck with rfl | rfl | rfl
    · rw [j_eq, t0]; rfl
    · rw [j_eq, t1]; rfl
    · rw [j_eq, t2]; rfl
  · rw [if_neg c, if_neg]
    intro z
    refine c (iff.mpr ⟨z.1, ?_, ?_, ?_⟩)
    · rw [z.2 0 (by omega)]; rfl
    · rw [z.2 1 (by omega)]; rfl
    · rw [z.2 2 (by omega)]; rfl
theorem k_is_mark {n a b : Nat} {B : Nat → Int32} {D : am_D} (h : k_tc n B D b) (hw : D.1 69 6 = Int32.ofNat a) (hab : a ≤ b) (hl : ∀ j, j < b - a → 97 ≤ (k_by n B (a + j)).toInt ∧ (k_by n B (a + j)).toInt ≤ 122) : f_X8_isWord 6 D = some (if k_H n B a b = 257105 then 1 else 0) := by
  rw [k_cword (q := 6) (L := 4) h hw hab (by decide) (by decide) (fun k => Int32.ofNat ([109, 97, 114, 107].getD k 0)) (by decide)]
  have iff := k_iff_mark (n := n) (B := B) hl
  by_cases c : k_H n B a b = 257105
  · obtain ⟨m, t0, t1, t2, t3⟩ := iff.mp c
    rw [if_pos c, if_pos]
    refine ⟨m, fun k hk => ?_⟩
    have ck : k = 0 ∨ k = 1 ∨ k = 2 ∨ k = 3 := (by omega)
    rcases ck with rfl | rfl | rfl | rfl
    · rw [j_eq, t0]; rfl
    · rw [j_eq, t1]; rfl
    · rw [j_eq, t2]; rfl
    · rw [j_eq, t3]; rfl
  · rw [if_neg c, if_neg]
    intro z
    refine c (iff.mpr ⟨z.1, ?_, ?_, ?_, ?_⟩)
    · rw [z.2 0 (by omega)]; rfl
    · rw [z.2 1 (by omega)]; rfl
    · rw [z.2 2 (by omega)]; rfl
    · rw [z.2 3 (by omega)]; rfl
/-- the reference's number of the word that stands at its place -/
theorem k_rword {n a : Nat} {B : Nat → Int32} {E : am_D} (h : k_tr n B E a) (hs : k_P32 (k_by n B a) = false) : f_X12_wordHere E = some (k_H n B a (k_skp k_Pl n B a), E) := by
  have hn := h.2.1
  have e97 : (97 : Int32).toInt = 97 := rfl
  have e122 : (122 : Int32).toInt = 122 := rfl
  have e5 : (5 : Int32).toInt = 5 := rfl
  obtain ⟨s1, s2, s3, s4⟩ := k_skp_spec (B := B) k_Pl_1 h.1
  obtain ⟨b, hb⟩ : ∃ x, x = k_skp k_Pl n B a := ⟨_, rfl⟩
  rw [← hb] at s1 s2 s3 s4 ⊢
  have key := k_ind (P := fun fu k => f_X12_wordHere_L8 E fu (k_hash n B a k) (Int32.ofNat k) = some (k_hash n B a (b - a), Int32.ofNat (b - a))) (b - a)
    (by
      intro fu k hk ih
      have e : Int32.ofNat a + Int32.ofNat k = Int32.ofNat (a + k) := (Int32.ofNat_add a k).symm
      have q := of_decide_eq_true (s4 (a + k) (by omega) (by omega))
      rw [f_X12_wordHere_L8, h.2.2.2.1, e, k_rby h (by omega), Option.bind_some, if_neg (by rw [j_lt, e97]; omega), Option.bind_some, if_neg (by rw [j_lt, e122]; omega)]
      have st : (if (5 : Int32) ≤ Int32.ofNat k then some (k_hash n B a k) else (some (k_by n B (a + k))).bind fun x12 => some (((27 : Int32) * k_hash n B a k + x12 - 97 + 1))) = some (k_hash n B a (k + 1)) := by
        show _ = some (if k < 5 then _ else _)
        by_cases c : k < 5
        · rw [if_neg (by rw [j_le, j_nat (by omega), e5]; omega), if_pos c, Option.bind_some]
        · rw [if_pos (by rw [j_le, j_nat (by omega), e5]; omega), if_neg c]
      rw [st, Option.bind_some, j_suc]
      exact ih) (by
      intro fu
      have e : Int32.ofNat a + Int32.ofNat (b - a) = Int32.ofNat b := by rw [← Int32.ofNat_add]; congr 1; omega
      have q := of_decide_eq_false s3
      rw [f_X12_wordHere_L8, h.2.2.2.1, e, k_rby h (by omega), Option.bind_some]
      by_cases c : k_by n B b < 97
      · rw [if_pos c]
      · rw [if_neg c, Option.bind_some, if_pos (by rw [j_lt, e97] at c; rw [j_lt, e122]; omega)]) am_fu 0 (by omega) (by unfold am_fu; omega)
  have key : f_X12_wordHere_L8 E am_fu (0 : Int32) (0 : Int32) = some (k_hash n B a (b - a), Int32.ofNat (b - a)) := key
  unfold f_X12_wordHere
  rw [k_rblank h, k_skp_same k_P32_1 h.1 hs, k_wIs _ _ _ _ h.2.2.2.1, Option.bind_some, key, Option.bind_some]
  unfold k_H
  by_cases c : b - a ≤ 5
  · rw [if_pos c, if_pos (by rw [j_le, j_nat (by omega), e5]; omega)]
  · rw [if_neg c, if_neg (by rw [j_le, j_nat (by omega), e5]; omega)]
theorem k_risw {n a : Nat} {B : Nat → Int32} {E : am_D} (h : k_tr n B E a) (hs : k_P32 (k_by n B a) = false) (hE : E.1 117 5 = 0) (p1 p2 p3 p4 p5 K : Int32) (hK : f_X12_word p1 p2 p3 p4 p5 = some K) : f_X12_isWord p1 p2 p3 p4 p5 E = some (if k_H n B a (k_skp k_Pl n B a) = K then 1 else 0, E) := by
  unfold f_X12_isWord
  rw [if_pos hE, k_rword h hs, Option.bind_some, hK, Option.bind_some]
  by_cases c : k_H n B a (k_skp k_Pl n B a) = K
  · rw [if_pos c, if_pos c]
  · rw [if_neg c, if_neg c]
def k_kind (H : Int32) : Int32 := if H = 10497936 then 0 else if H = 404978 then 1 else if H = 48542 then 2 else if H = 164557 then 3 else if H = 6412 then 4 else -1
theorem k_rkind {n a : Nat} {B : Nat → Int32} {E : am_D} (h : k_tr n B E a) (hs : k_P32 (k_by n B a) = false) (hE : E.1 117 5 = 0) : f_X12_kindHere E = some (k_kind (k_H n B a (k_skp k_Pl n B a)), E) := by
  have r0 := k_risw h hs hE 19 20 9 12 12 10497936 (by decide)
  have r1 := k_risw h hs hE 20 15 14 5 0 404978 (by decide)
  have r2 := k_risw h hs hE 2 12 15 23 0 48542 (by decide)
  have r3 := k_risw h hs hE 8 9 19 19 0 164557 (by decide)
  have r4 := k_risw h hs hE 8 21 13 0 0 6412 (by decide)
  unfold f_X12_kindHere k_kind
  rw [r0, Option.bind_some]
  by_cases c0 : k_H n B a (k_skp k_Pl n B a) = 10497936
  · rw [if_pos c0, if_neg k_10, if_pos c0]
  rw [if_neg c0, if_pos rfl, if_neg c0, r1, Option.bind_some]
  by_cases c1 : k_H n B a (k_skp k_Pl n B a) = 404978
  · rw [if_pos c1, if_neg k_10, if_pos c1]
  rw [if_neg c1, if_pos rfl, if_neg c1, r2, Option.bind_some]
  by_cases c2 : k_H n B a (k_skp k_Pl n B a) = 48542
  · rw [if_pos c2, if_neg k_10, if_pos c2]
  rw [if_neg c2, if_pos rfl, if_neg c2, r3, Option.bind_some]
  by_cases c3 : k_H n B a (k_skp k_Pl n B a) = 164557
  · rw [if_pos c3, if_neg k_10, if_pos c3]
  rw [if_neg c3, if_pos rfl, if_neg c3, r4, Option.bind_some]
  by_cases c4 : k_H n B a (k_skp k_Pl n B a) = 6412
  · rw [if_pos c4, if_neg k_10, if_pos c4]
  rw [if_neg c4, if_pos rfl, if_neg c4]
