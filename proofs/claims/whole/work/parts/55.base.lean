/-! numbers for automatic steps: every number of the machine as an Int -/
theorem k_bm (n : Int) : n.bmod (2 ^ 32) = (n + 2147483648) % 4294967296 - 2147483648 := by
  have e : (2 : Nat) ^ 32 = 4294967296 := by decide
  rw [e, Int.bmod_def]
  have e2 : ((4294967296 : Nat) : Int) = 4294967296 := rfl
  rw [e2]
  by_cases c : n % 4294967296 < (4294967296 + 1) / 2
  · rw [if_pos c]; omega
  · rw [if_neg c]; omega
theorem k_N (n : Nat) : (Int32.ofNat n).toInt = ((n : Int) + 2147483648) % 4294967296 - 2147483648 := by
  rw [Int32.toInt_ofNat', k_bm]
theorem k_A (a b : Int32) : (a + b).toInt = (a.toInt + b.toInt + 2147483648) % 4294967296 - 2147483648 := by rw [Int32.toInt_add, k_bm]
theorem k_S (a b : Int32) : (a - b).toInt = (a.toInt - b.toInt + 2147483648) % 4294967296 - 2147483648 := by rw [Int32.toInt_sub, k_bm]
theorem k_M (a b : Int32) : (a * b).toInt = (a.toInt * b.toInt + 2147483648) % 4294967296 - 2147483648 := by rw [Int32.toInt_mul, k_bm]
theorem k_G (a : Int32) : (-a).toInt = (-a.toInt + 2147483648) % 4294967296 - 2147483648 := by rw [Int32.toInt_neg, k_bm]
theorem k_R (a : Int32) : -2147483648 ≤ a.toInt ∧ a.toInt < 2147483648 := ⟨Int32.le_toInt a, Int32.toInt_lt a⟩
/-- a quotient cut toward 0, of a divisor above 0 -/
def k_q (a b : Int) : Int := if 0 ≤ a then a / b else -((-a) / b)
theorem k_q_td (a b : Int) : a.tdiv b = k_q a b := by
  unfold k_q
  by_cases c : 0 ≤ a
  · rw [if_pos c, Int.tdiv_eq_ediv_of_nonneg c]
  · rw [if_neg c]
    have e : a = -(-a) := by omega
    rw [← Int.tdiv_eq_ediv_of_nonneg (by omega), Int.neg_tdiv]
    omega
theorem k_q_le (a b : Int) (hb : 0 < b) : (0 ≤ a → 0 ≤ k_q a b ∧ k_q a b ≤ a) ∧ (a ≤ 0 → k_q a b ≤ 0 ∧ a ≤ k_q a b) := by
  unfold k_q
  constructor
  · intro h
    rw [if_pos h]
    exact ⟨Int.ediv_nonneg h (by omega), Int.ediv_le_self b h⟩
  · intro h
    by_cases c : 0 ≤ a
    · have e : a = 0 := by omega
      subst e
      simp
    · rw [if_neg c]
      have h1 := Int.ediv_nonneg (a := -a) (b := b) (by omega) (by omega)
      have h2 := Int.ediv_le_self (a := -a) b (by omega)
      omega
theorem k_D (a b : Int32) (hb : 0 < b.toInt) : (a / b).toInt = k_q a.toInt b.toInt := by
  have h := k_R a
  have h2 := k_q_le a.toInt b.toInt hb
  rw [Int32.toInt_div, k_bm, k_q_td]
  omega
theorem k_tn {k : Nat} (h : k < 100000) : (Int32.ofNat k).toInt.toNat = k := by rw [k_N]; omega
/-- a read at a place that is a natural number -/
theorem k_g {D : am_D} {a n k : Nat} (h : k < n) (h2 : n < 100000) : am_gI D a n (Int32.ofNat k) = some (D.1 a k) := by
  rw [j_gI (by rw [k_N]; omega) (by rw [k_N]; omega), k_tn (by omega)]
theorem k_gl {D : am_D} {a n k : Nat} (h : k < n) (h2 : n < 100000) : am_gL D a n (Int32.ofNat k) = some (D.2 a k) := by
  rw [j_gL (by rw [k_N]; omega) (by rw [k_N]; omega), k_tn (by omega)]
theorem k_gi {D : am_D} {a n : Nat} {i : Int32} (h : 0 ≤ i.toInt) (h2 : i.toInt < n) : am_gI D a n i = some (D.1 a i.toInt.toNat) := j_gI h h2
theorem k_p {D : am_D} {a n k : Nat} (x : Int32) (h : k < n) (h2 : n < 100000) : am_pI D a n (Int32.ofNat k) x = some (am_wI D a k x) := by
  rw [j_pI (by rw [k_N]; omega) (by rw [k_N]; omega), k_tn (by omega)]
theorem k_pl {D : am_D} {a n k : Nat} (x : Int64) (h : k < n) (h2 : n < 100000) : am_pL D a n (Int32.ofNat k) x = some (am_wL D a k x) := by
  rw [j_pL (by rw [k_N]; omega) (by rw [k_N]; omega), k_tn (by omega)]
theorem k_a {n k : Nat} (h : k < n) (h2 : n < 100000) : am_gA n (Int32.ofNat k) = some k := by
  rw [j_gA (by rw [k_N]; omega) (by rw [k_N]; omega), k_tn (by omega)]
theorem k_s (k : Nat) : Int32.ofNat k + (1 : Int32) = Int32.ofNat (k + 1) := j_suc k
theorem k_w (D : am_D) (a j b k : Nat) (v : Int32) : (am_wI D a j v).1 b k = if b = a then (if k = j then v else D.1 b k) else D.1 b k := by
  by_cases c : b = a
  · subst c
    rw [if_pos rfl, j_wI_at]
  · rw [if_neg c, j_wI_ne _ _ _ c]
/-- a loop over k from somewhere to N -/
theorem k_ind {P : Nat → Nat → Prop} (N : Nat) (hs : ∀ f k, k < N → P f (k + 1) → P (f + 1) k) (he : ∀ f, P (f + 1) N) : ∀ f k, k ≤ N → N - k < f → P f k
  | 0, _, _, h => absurd h (by omega)
  | f + 1, k, h, h2 => by
    by_cases c : k = N
    · subst c
      exact he f
    · exact hs f k (by omega) (k_ind N hs he f (k + 1) (by omega) (by omega))
