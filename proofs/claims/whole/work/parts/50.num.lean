/-! THE MATHEMATICS. Numbers, rows of numbers, loops. -/
theorem j_lt (a b : Int32) : a < b ↔ a.toInt < b.toInt := Int32.lt_iff_toInt_lt
theorem j_le (a b : Int32) : a ≤ b ↔ a.toInt ≤ b.toInt := Int32.le_iff_toInt_le
theorem j_eq (a b : Int32) : a = b ↔ a.toInt = b.toInt := Int32.toInt_inj.symm
theorem j_nat {n : Nat} (h : n < 2147483648) : (Int32.ofNat n).toInt = n := Int32.toInt_ofNat_of_lt h
theorem j_int {n : Int} (h : -2147483648 ≤ n) (h2 : n < 2147483648) : (Int32.ofInt n).toInt = n := Int32.toInt_ofInt_of_le h h2
theorem j_bm {n : Int} (h : -2147483648 ≤ n) (h2 : n < 2147483648) : n.bmod (2 ^ 32) = n := by
  have e : (2 : Nat) ^ 32 = 4294967296 := by decide
  rw [e]
  exact Int.bmod_eq_of_le (by omega) (by omega)
theorem j_add {a b : Int32} (h : -2147483648 ≤ a.toInt + b.toInt) (h2 : a.toInt + b.toInt < 2147483648) : (a + b).toInt = a.toInt + b.toInt := by rw [Int32.toInt_add, j_bm h h2]
theorem j_sub {a b : Int32} (h : -2147483648 ≤ a.toInt - b.toInt) (h2 : a.toInt - b.toInt < 2147483648) : (a - b).toInt = a.toInt - b.toInt := by rw [Int32.toInt_sub, j_bm h h2]
theorem j_mul {a b : Int32} (h : -2147483648 ≤ a.toInt * b.toInt) (h2 : a.toInt * b.toInt < 2147483648) : (a * b).toInt = a.toInt * b.toInt := by rw [Int32.toInt_mul, j_bm h h2]
theorem j_cn {n : Nat} (h : n < 2147483648) : (Int32.ofNat n).toNatClampNeg = n := Int32.toNatClampNeg_ofNat_of_lt h
theorem j_cl (a : Int32) : a.toNatClampNeg = a.toInt.toNat := rfl
theorem j_suc (k : Nat) : Int32.ofNat k + (1 : Int32) = Int32.ofNat (k + 1) := (Int32.ofNat_add k 1).symm
theorem j_of {a : Int32} (h : 0 ≤ a.toInt) : a = Int32.ofNat a.toInt.toNat := by
  have e := Int32.ofNat_toNatClampNeg a ((j_le 0 a).mpr h)
  exact e.symm
theorem j_in {i : Int32} {n : Nat} (h : 0 ≤ i.toInt) (h2 : i.toInt < n) : am_in i n = true := by
  unfold am_in
  have e : ¬ i < 0 := by
    rw [j_lt]
    show ¬ i.toInt < 0
    omega
  have e2 : i.toNatClampNeg < n := by
    rw [j_cl]
    omega
  simp [e, e2]
theorem j_gI {D : am_D} {a n : Nat} {i : Int32} (h : 0 ≤ i.toInt) (h2 : i.toInt < n) : am_gI D a n i = some (D.1 a i.toInt.toNat) := by
  unfold am_gI
  rw [if_pos (j_in h h2)]
  rfl
theorem j_pI {D : am_D} {a n : Nat} {i x : Int32} (h : 0 ≤ i.toInt) (h2 : i.toInt < n) : am_pI D a n i x = some (am_wI D a i.toInt.toNat x) := by
  unfold am_pI
  rw [if_pos (j_in h h2)]
  rfl
theorem j_gL {D : am_D} {a n : Nat} {i : Int32} (h : 0 ≤ i.toInt) (h2 : i.toInt < n) : am_gL D a n i = some (D.2 a i.toInt.toNat) := by
  unfold am_gL
  rw [if_pos (j_in h h2)]
  rfl
theorem j_pL {D : am_D} {a n : Nat} {i : Int32} {x : Int64} (h : 0 ≤ i.toInt) (h2 : i.toInt < n) : am_pL D a n i x = some (am_wL D a i.toInt.toNat x) := by
  unfold am_pL
  rw [if_pos (j_in h h2)]
  rfl
theorem j_gA {n : Nat} {i : Int32} (h : 0 ≤ i.toInt) (h2 : i.toInt < n) : am_gA n i = some i.toInt.toNat := by
  unfold am_gA
  rw [if_pos (j_in h h2)]
  rfl
/-- a loop whose state after k rounds is known -/
theorem j_loop {σ β : Type} (L : Nat → Nat → σ → Option β) (S : Nat → σ) (N : Nat) (r : Option β) (hs : ∀ f k, k < N → L (f + 1) k (S k) = L f (k + 1) (S (k + 1))) (he : ∀ f, L (f + 1) N (S N) = r) : ∀ n f k, k + n = N → n < f → L f k (S k) = r
  | 0, f + 1, k, h, _ => by
    have e : k = N := by omega
    subst e
    exact he f
  | 0, 0, k, h, h2 => absurd h2 (by omega)
  | n + 1, 0, k, h, h2 => absurd h2 (by omega)
  | n + 1, f + 1, k, h, h2 => by
    rw [hs f k (by omega)]
    exact j_loop L S N r hs he n f (k + 1) (by omega) (by omega)
/-- so many values together -/
def j_sum (g : Nat → Int32) : Nat → Int32
  | 0 => 0
  | n + 1 => j_sum g n + g n
theorem j_sum_cong {g h : Nat → Int32} : ∀ {n : Nat}, (∀ k, k < n → g k = h k) → j_sum g n = j_sum h n
  | 0, _ => rfl
  | n + 1, e => by
    show j_sum g n + g n = j_sum h n + h n
    rw [j_sum_cong fun k hk => e k (by omega), e n (by omega)]
/-- the greatest of so many values, from 0 up -/
def j_max (g : Nat → Int32) : Nat → Int32
  | 0 => 0
  | n + 1 => am_mx (j_max g n) (g n)
theorem j_max_cong {g h : Nat → Int32} : ∀ {n : Nat}, (∀ k, k < n → g k = h k) → j_max g n = j_max h n
  | 0, _ => rfl
  | n + 1, e => by
    show am_mx (j_max g n) (g n) = am_mx (j_max h n) (h n)
    rw [j_max_cong fun k hk => e k (by omega), e n (by omega)]
/-- a row of the class: so many samples, and what it tells at each place -/
def j_row (D : am_D) (r n : Nat) (f : Int → Int32) : Prop := n ≤ am_ln (r + 1) ∧ am_ln (r + 1) ≤ 1200 ∧ D.1 r 1 = Int32.ofNat n ∧ (∀ k : Nat, k < n → D.1 (r + 1) k = f k) ∧ ∀ k : Int, k < 0 ∨ (n : Int) ≤ k → f k = 0
theorem j_row_at {D : am_D} {r n : Nat} {f : Int → Int32} (h : j_row D r n f) (i : Int32) : f_X7_at r i D = some (f i.toInt) := by
  obtain ⟨h1, h2, h3, h4, h5⟩ := h
  unfold f_X7_at
  by_cases c1 : i < 0
  · rw [if_pos c1, h5 _ (Or.inl ((j_lt i 0).mp c1))]
  · have g1 : 0 ≤ i.toInt := by
      have := (not_congr (j_lt i 0)).mp c1
      have e : (0 : Int32).toInt = 0 := rfl
      omega
    rw [if_neg c1, h3]
    by_cases c2 : Int32.ofNat n ≤ i
    · rw [if_pos c2]
      have := (j_le _ _).mp c2
      rw [j_nat (by omega)] at this
      rw [h5 _ (Or.inr this)]
    · have g2 : i.toInt < n := by
        have := (not_congr (j_le (Int32.ofNat n) i)).mp c2
        rw [j_nat (by omega)] at this
        omega
      have c3 : ¬ Int32.ofNat (am_ln (r + 1)) ≤ i := by
        rw [j_le, j_nat (by omega)]
        omega
      rw [if_neg c2, if_neg c3, j_gI g1 (by omega)]
      show some (D.1 (r + 1) i.toInt.toNat) = _
      rw [h4 _ (by omega)]
      congr 2
      omega
theorem j_row_loud {D : am_D} {r n : Nat} {f : Int → Int32} (h : j_row D r n f) (i : Int32) : f_X7_loud r i D = some (am_ab (f i.toInt)) := by
  unfold f_X7_loud
  rw [j_row_at h]
  rfl
theorem j_row_loudest {D : am_D} {r n : Nat} {f : Int → Int32} (h : j_row D r n f) (i : Int32) (m : Nat) (hm : m ≤ 1200) (hi : -2000 ≤ i.toInt) (hi2 : i.toInt ≤ 100000) : f_X7_loudest r i (Int32.ofNat m) D = some (j_max (fun k => am_ab (f (i.toInt + k))) m) := by
  unfold f_X7_loudest
  have key := j_loop (fun fu k (s : Int32) => f_X7_loudest_L5 r i (Int32.ofNat m) D fu s (Int32.ofNat k)) (j_max (fun k => am_ab (f (i.toInt + k)))) m (some (j_max (fun k => am_ab (f (i.toInt + k))) m)) (fun fu k hk => by
      show f_X7_loudest_L5 r i (Int32.ofNat m) D (fu + 1) _ _ = _
      rw [f_X7_loudest_L5]
      have c : ¬ Int32.ofNat m ≤ Int32.ofNat k := by
        rw [j_le, j_nat (by omega), j_nat (by omega)]
        omega
      have e : (i + Int32.ofNat k).toInt = i.toInt + k := by
        rw [j_add (by rw [j_nat (by omega)]; omega) (by rw [j_nat (by omega)]; omega), j_nat (by omega)]
      rw [if_neg c, j_row_at h, e, j_suc]
      rfl) (fun fu => by
      show f_X7_loudest_L5 r i (Int32.ofNat m) D (fu + 1) _ _ = _
      rw [f_X7_loudest_L5, if_pos ((j_le _ _).mpr (by omega))]) m am_fu 0 (by omega) (by unfold am_fu; omega)
  have key2 : f_X7_loudest_L5 r i (Int32.ofNat m) D am_fu (0 : Int32) (0 : Int32) = some (j_max (fun k => am_ab (f (i.toInt + k))) m) := key
  rw [key2]
  rfl
