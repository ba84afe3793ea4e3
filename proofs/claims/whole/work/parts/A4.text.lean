/-! texts: what both sides read of them -/
def k_by (n : Nat) (B : Nat → Int32) (k : Nat) : Int32 := if k < n then B k else -1
/-- the first place from a on where P does not hold -/
def k_sk (P : Int32 → Bool) (n : Nat) (B : Nat → Int32) : Nat → Nat → Nat
  | 0, a => a
  | f + 1, a => if P (k_by n B a) = true then k_sk P n B f (a + 1) else a
def k_skp (P : Int32 → Bool) (n : Nat) (B : Nat → Int32) (a : Nat) : Nat := k_sk P n B (n - a) a
theorem k_sk_spec {P : Int32 → Bool} {n : Nat} {B : Nat → Int32} (hP : P (-1) = false) : ∀ f a, a + f = n → a ≤ k_sk P n B f a ∧ k_sk P n B f a ≤ n ∧ P (k_by n B (k_sk P n B f a)) = false ∧ ∀ j, a ≤ j → j < k_sk P n B f a → P (k_by n B j) = true
  | 0, a, h => by
    unfold k_sk
    refine ⟨Nat.le_refl _, (by omega), ?_, fun j h1 h2 => absurd h1 (by omega)⟩
    unfold k_by
    rw [if_neg (by omega)]
    exact hP
  | f + 1, a, h => by
    unfold k_sk
    by_cases c : P (k_by n B a) = true
    · rw [if_pos c]
      obtain ⟨h1, h2, h3, h4⟩ := k_sk_spec (n := n) (B := B) hP f (a + 1) (by omega)
      refine ⟨(by omega), h2, h3, fun j g1 g2 => ?_⟩
      by_cases cj : j = a
      · rw [cj]; exact c
      · exact h4 j (by omega) g2
    · rw [if_neg c]
      exact ⟨Nat.le_refl _, (by omega), Bool.eq_false_iff.mpr c, fun j h1 h2 => absurd h1 (by omega)⟩
theorem k_skp_spec {P : Int32 → Bool} {n a : Nat} {B : Nat → Int32} (hP : P (-1) = false) (h : a ≤ n) : a ≤ k_skp P n B a ∧ k_skp P n B a ≤ n ∧ P (k_by n B (k_skp P n B a)) = false ∧ ∀ j, a ≤ j → j < k_skp P n B a → P (k_by n B j) = true := k_sk_spec hP (n - a) a (by omega)
theorem k_skp_same {P : Int32 → Bool} {n a : Nat} {B : Nat → Int32} (hP : P (-1) = false) (h : a ≤ n) (c : P (k_by n B a) = false) : k_skp P n B a = a := by
  obtain ⟨h1, h2, h3, h4⟩ := k_skp_spec (B := B) hP h
  by_cases e : k_skp P n B a = a
  · exact e
  · have := h4 a (Nat.le_refl _) (by omega)
    rw [c] at this
    cases this
theorem k_skp_twice {P : Int32 → Bool} {n a : Nat} {B : Nat → Int32} (hP : P (-1) = false) (h : a ≤ n) : k_skp P n B (k_skp P n B a) = k_skp P n B a := by
  obtain ⟨h1, h2, h3, h4⟩ := k_skp_spec (B := B) hP h
  exact k_skp_same hP h2 h3
theorem k_wIs (D : am_D) (a j : Nat) (v : Int32) (h : D.1 a j = v) : am_wI D a j v = D := by
  refine Prod.ext (funext fun y => funext fun k => ?_) rfl
  rw [k_w]
  by_cases c : y = a
  · by_cases c2 : k = j
    · rw [if_pos c, if_pos c2, c, c2, h]
    · rw [if_pos c, if_neg c2, c]
  · rw [if_neg c]
theorem k_wIw (D : am_D) (a j : Nat) (v w : Int32) : am_wI (am_wI D a j v) a j w = am_wI D a j w := by
  refine Prod.ext (funext fun y => funext fun k => ?_) rfl
  rw [k_w, k_w, k_w]
  by_cases c : y = a
  · by_cases c2 : k = j
    · rw [if_pos c, if_pos c2, if_pos c, if_pos c2]
    · rw [if_pos c, if_neg c2, if_pos c, if_neg c2, if_pos c, if_neg c2]
  · rw [if_neg c, if_neg c, if_neg c]
/-- a loop that goes on while P holds -/
theorem k_skl {n : Nat} {B : Nat → Int32} (P : Int32 → Bool) (hP : P (-1) = false) (c j : Nat) (T : am_D → Nat → Prop) (L : Nat → am_D → Option am_D) (hT : ∀ D a, T D a → a ≤ n ∧ D.1 c j = Int32.ofNat a) (hw : ∀ D a b, T D a → b ≤ n → T (am_wI D c j (Int32.ofNat b)) b)
    (h1 : ∀ fu D a, T D a → a < n → P (k_by n B a) = true → L (fu + 1) D = L fu (am_wI D c j (Int32.ofNat (a + 1)))) (h0 : ∀ fu D a, T D a → P (k_by n B a) = false → L (fu + 1) D = some D) : ∀ f a D fu, a + f = n → f < fu → T D a → L fu D = some (am_wI D c j (Int32.ofNat (k_sk P n B f a)))
  | f, a, D, 0, _, h, _ => absurd h (by omega)
  | 0, a, D, fu + 1, h, _, t => by
    unfold k_sk
    rw [k_wIs _ _ _ _ (hT D a t).2]
    refine h0 fu D a t ?_
    unfold k_by
    rw [if_neg (by omega)]
    exact hP
  | f + 1, a, D, fu + 1, h, h2, t => by
    unfold k_sk
    by_cases q : P (k_by n B a) = true
    · rw [if_pos q, h1 fu D a t (by omega) q, k_skl P hP c j T L hT hw h1 h0 f (a + 1) _ fu (by omega) (by omega) (hw D a (a + 1) t (by omega)), k_wIw]
    · rw [if_neg q, k_wIs _ _ _ _ (hT D a t).2]
      exact h0 fu D a t (Bool.eq_false_iff.mpr q)
/-- the value of digits -/
def k_vs (v x : Int32) : Int32 := am_mn (100000 : Int32) (((v * (10 : Int32)) + x) - (48 : Int32))
def k_vl (P : Int32 → Bool) (n : Nat) (B : Nat → Int32) : Nat → Int32 → Nat → Int32
  | 0, v, _ => v
  | f + 1, v, a => if P (k_by n B a) = true then k_vl P n B f (k_vs v (k_by n B a)) (a + 1) else v
theorem k_nml {n : Nat} {B : Nat → Int32} (P : Int32 → Bool) (hP : P (-1) = false) (c j : Nat) (T : am_D → Nat → Prop) (L : Nat → Int32 → am_D → Option (Int32 × am_D)) (hT : ∀ D a, T D a → a ≤ n ∧ D.1 c j = Int32.ofNat a) (hw : ∀ D a b, T D a → b ≤ n → T (am_wI D c j (Int32.ofNat b)) b)
    (h1 : ∀ fu v D a, T D a → a < n → P (k_by n B a) = true → L (fu + 1) v D = L fu (k_vs v (k_by n B a)) (am_wI D c j (Int32.ofNat (a + 1)))) (h0 : ∀ fu v D a, T D a → P (k_by n B a) = false → L (fu + 1) v D = some (v, D)) : ∀ f a v D fu, a + f = n → f < fu → T D a → L fu v D = some (k_vl P n B f v a, am_wI D c j (Int32.ofNat (k_sk P n B f a)))
  | f, a, v, D, 0, _, h, _ => absurd h (by omega)
  | 0, a, v, D, fu + 1, h, _, t => by
    unfold k_sk k_vl
    rw [k_wIs _ _ _ _ (hT D a t).2]
    refine h0 fu v D a t ?_
    unfold k_by
    rw [if_neg (by omega)]
    exact hP
  | f + 1, a, v, D, fu + 1, h, h2, t => by
    unfold k_sk k_vl
    by_cases q : P (k_by n B a) = true
    · rw [if_pos q, if_pos q, h1 fu v D a t (by omega) q, k_nml P hP c j T L hT hw h1 h0 f (a + 1) _ _ fu (by omega) (by omega) (hw D a (a + 1) t (by omega)), k_wIw]
    · rw [if_neg q, if_neg q, k_wIs _ _ _ _ (hT D a t).2]
      exact h0 fu v D a t (Bool.eq_false_iff.mpr q)
def k_P32 (x : Int32) : Bool := decide (x = 32)
def k_Pl (x : Int32) : Bool := decide (97 ≤ x.toInt ∧ x.toInt ≤ 122)
def k_Pd (x : Int32) : Bool := decide (48 ≤ x.toInt ∧ x.toInt ≤ 57)
theorem k_P32_1 : k_P32 (-1) = false := (by decide)
theorem k_Pl_1 : k_Pl (-1) = false := (by decide)
theorem k_Pd_1 : k_Pd (-1) = false := (by decide)
/-- the class's tape, the reference's -/
def k_tc (n : Nat) (B : Nat → Int32) (D : am_D) (a : Nat) : Prop := a ≤ n ∧ n ≤ 300 ∧ D.1 69 5 = Int32.ofNat n ∧ D.1 69 4 = Int32.ofNat a ∧ ∀ k, k < n → D.1 70 k = B k
def k_tr (n : Nat) (B : Nat → Int32) (E : am_D) (a : Nat) : Prop := a ≤ n ∧ n ≤ 300 ∧ E.1 117 2 = Int32.ofNat n ∧ E.1 117 4 = Int32.ofNat a ∧ ∀ k, k < n → E.1 118 k = B k
theorem k_cby {n a j : Nat} {B : Nat → Int32} {D : am_D} (h : k_tc n B D a) (hj : j < 100000) : f_X8_byteAt (Int32.ofNat j) D = some (k_by n B j) := by
  obtain ⟨h1, h2, h3, h4, h5⟩ := h
  have e0 : (0 : Int32).toInt = 0 := rfl
  have e300 : (300 : Int32).toInt = 300 := rfl
  unfold f_X8_byteAt k_by
  rw [if_neg (by rw [j_lt, j_nat (by omega), e0]; omega), h3]
  by_cases c : j < n
  · rw [if_neg (by rw [j_le, j_nat (by omega), j_nat (by omega)]; omega), if_neg (by rw [j_le, j_nat (by omega), e300]; omega), k_g (by omega) (by omega), h5 j c, if_pos c, Option.bind_some]
  · rw [if_pos (by rw [j_le, j_nat (by omega), j_nat (by omega)]; omega), if_neg c]
theorem k_rby {n a j : Nat} {B : Nat → Int32} {E : am_D} (h : k_tr n B E a) (hj : j < 100000) : f_X12_byteAt (Int32.ofNat j) E = some (k_by n B j) := by
  obtain ⟨h1, h2, h3, h4, h5⟩ := h
  unfold f_X12_byteAt k_by
  rw [h3]
  by_cases c : j < n
  · rw [if_pos (by rw [j_lt, j_nat (by omega), j_nat (by omega)]; omega), k_g (by omega) (by omega), h5 j c, if_pos c, Option.bind_some]
  · rw [if_neg (by rw [j_lt, j_nat (by omega), j_nat (by omega)]; omega), if_neg c]
theorem k_tc_w {n a b : Nat} {B : Nat → Int32} {D : am_D} (h : k_tc n B D a) (hb : b ≤ n) : k_tc n B (am_wI D 69 4 (Int32.ofNat b)) b := by
  obtain ⟨h1, h2, h3, h4, h5⟩ := h
  exact ⟨hb, h2, by rw [k_wj _ _ (by decide)]; exact h3, k_ws _ _ _ _, fun k hk => by rw [j_wI_ne _ _ _ (by decide)]; exact h5 k hk⟩
theorem k_tr_w {n a b : Nat} {B : Nat → Int32} {E : am_D} (h : k_tr n B E a) (hb : b ≤ n) : k_tr n B (am_wI E 117 4 (Int32.ofNat b)) b := by
  obtain ⟨h1, h2, h3, h4, h5⟩ := h
  exact ⟨hb, h2, by rw [k_wj _ _ (by decide)]; exact h3, k_ws _ _ _ _, fun k hk => by rw [j_wI_ne _ _ _ (by decide)]; exact h5 k hk⟩
theorem k_tc_mv {n a : Nat} {B : Nat → Int32} {D D2 : am_D} (h : k_tc n B D a) (h5 : D2.1 69 5 = D.1 69 5) (h4 : D2.1 69 4 = D.1 69 4) (h7 : D2.1 70 = D.1 70) : k_tc n B D2 a :=
  ⟨h.1, h.2.1, by rw [h5]; exact h.2.2.1, by rw [h4]; exact h.2.2.2.1, fun k hk => by rw [h7]; exact h.2.2.2.2 k hk⟩
theorem k_tr_mv {n a : Nat} {B : Nat → Int32} {D D2 : am_D} (h : k_tr n B D a) (h5 : D2.1 117 2 = D.1 117 2) (h4 : D2.1 117 4 = D.1 117 4) (h7 : D2.1 118 = D.1 118) : k_tr n B D2 a :=
  ⟨h.1, h.2.1, by rw [h5]; exact h.2.2.1, by rw [h4]; exact h.2.2.2.1, fun k hk => by rw [h7]; exact h.2.2.2.2 k hk⟩
theorem k_isL {n a j : Nat} {B : Nat → Int32} {D : am_D} (h : k_tc n B D a) (hj : j < 100000) : f_X8_isLetter (Int32.ofNat j) D = some (if k_Pl (k_by n B j) = true then 1 else 0) := by
  have e1 : (97 : Int32).toInt = 97 := rfl
  have e2 : (122 : Int32).toInt = 122 := rfl
  unfold f_X8_isLetter
  rw [k_cby h hj, Option.bind_some, k_cwithin, Option.bind_some, e1, e2]
  unfold k_Pl
  by_cases c : 97 ≤ (k_by n B j).toInt ∧ (k_by n B j).toInt ≤ 122
  · rw [if_pos c, if_pos (decide_eq_true c)]
  · rw [if_neg c, if_neg (by rw [decide_eq_true_eq]; exact c)]
theorem k_isD {n a j : Nat} {B : Nat → Int32} {D : am_D} (h : k_tc n B D a) (hj : j < 100000) : f_X8_isDigit (Int32.ofNat j) D = some (if k_Pd (k_by n B j) = true then 1 else 0) := by
  have e1 : (48 : Int32).toInt = 48 := rfl
  have e2 : (57 : Int32).toInt = 57 := rfl
  unfold f_X8_isDigit
  rw [k_cby h hj, Option.bind_some, k_cwithin, Option.bind_some, e1, e2]
  unfold k_Pd
  by_cases c : 48 ≤ (k_by n B j).toInt ∧ (k_by n B j).toInt ≤ 57
  · rw [if_pos c, if_pos (decide_eq_true c)]
  · rw [if_neg c, if_neg (by rw [decide_eq_true_eq]; exact c)]
theorem k_risD (x : Int32) : f_X12_isDigit x = some (if k_Pd x = true then 1 else 0) := by
  have e1 : (48 : Int32).toInt = 48 := rfl
  have e2 : (57 : Int32).toInt = 57 := rfl
  unfold f_X12_isDigit k_Pd
  by_cases c1 : x < 48
  · rw [if_pos c1, if_neg (by rw [decide_eq_true_eq]; rw [j_lt, e1] at c1; omega)]
  · rw [if_neg c1]
    by_cases c2 : 57 < x
    · rw [if_pos c2, if_neg (by rw [decide_eq_true_eq]; rw [j_lt, e2] at c2; omega)]
    · rw [if_neg c2, if_pos (by rw [decide_eq_true_eq]; rw [j_lt, e1] at c1; rw [j_lt, e2] at c2; omega)]
/-- blanks, letters, digits passed over -/
theorem k_cblank {n a : Nat} {B : Nat → Int32} {D : am_D} (h : k_tc n B D a) : f_X8_skipBlanks D = some (am_wI D 69 4 (Int32.ofNat (k_skp k_P32 n B a))) := by
  have key := k_skl (n := n) (B := B) k_P32 k_P32_1 69 4 (k_tc n B) f_X8_skipBlanks_L0 (fun D a t => ⟨t.1, t.2.2.2.1⟩) (fun D a b t hb => k_tc_w t hb)
    (fun fu D a t ha q => by
      have := t.2.1
      rw [f_X8_skipBlanks_L0, t.2.2.1, t.2.2.2.1, if_neg (by rw [j_le, j_nat (by omega), j_nat (by omega)]; omega), k_cby t (by omega), Option.bind_some, if_pos (of_decide_eq_true q), Option.bind_some, j_suc])
    (fun fu D a t q => by
      have := t.2.1
      have := t.1
      rw [f_X8_skipBlanks_L0, t.2.2.1, t.2.2.2.1]
      by_cases c : Int32.ofNat n ≤ Int32.ofNat a
      · rw [if_pos c]
      · rw [if_neg c, k_cby t (by omega), Option.bind_some, if_neg (of_decide_eq_false q)]) (n - a) a D am_fu (by have := h.1; omega) (by have := h.2.1; unfold am_fu; omega) h
  unfold f_X8_skipBlanks
  rw [key]
  rfl
theorem k_rblank {n a : Nat} {B : Nat → Int32} {E : am_D} (h : k_tr n B E a) : f_X12_blanks E = some (am_wI E 117 4 (Int32.ofNat (k_skp k_P32 n B a))) := by
  have key := k_skl (n := n) (B := B) k_P32 k_P32_1 117 4 (k_tr n B) f_X12_blanks_L0 (fun D a t => ⟨t.1, t.2.2.2.1⟩) (fun D a b t hb => k_tr_w t hb)
    (fun fu D a t ha q => by
      have := t.2.1
      rw [f_X12_blanks_L0, t.2.2.2.1, k_rby t (by omega), Option.bind_some, if_pos (of_decide_eq_true q), Option.bind_some, j_suc])
    (fun fu D a t q => by
      have := t.2.1
      have := t.1
      rw [f_X12_blanks_L0, t.2.2.2.1, k_rby t (by omega), Option.bind_some, if_neg (of_decide_eq_false q)]) (n - a) a E am_fu (by have := h.1; omega) (by have := h.2.1; unfold am_fu; omega) h
  unfold f_X12_blanks
  rw [key]
  rfl
theorem k_cletters {n a : Nat} {B : Nat → Int32} {D : am_D} (h : k_tc n B D a) : f_X8_readWord_L12 am_fu D = some (am_wI D 69 4 (Int32.ofNat (k_skp k_Pl n B a))) :=
  k_skl (n := n) (B := B) k_Pl k_Pl_1 69 4 (k_tc n B) f_X8_readWord_L12 (fun D a t => ⟨t.1, t.2.2.2.1⟩) (fun D a b t hb => k_tc_w t hb)
    (fun fu D a t ha q => by
      have := t.2.1
      rw [f_X8_readWord_L12, t.2.2.1, t.2.2.2.1, if_neg (by rw [j_le, j_nat (by omega), j_nat (by omega)]; omega), k_isL t (by omega), Option.bind_some, if_pos q, if_neg k_10, Option.bind_some, j_suc])
    (fun fu D a t q => by
      have := t.2.1
      have := t.1
      rw [f_X8_readWord_L12, t.2.2.1, t.2.2.2.1]
      by_cases c : Int32.ofNat n ≤ Int32.ofNat a
      · rw [if_pos c]
      · rw [if_neg c, k_isL t (by omega), Option.bind_some, if_neg (Bool.eq_false_iff.mp q), if_pos rfl]) (n - a) a D am_fu (by have := h.1; omega) (by have := h.2.1; unfold am_fu; omega) h
theorem k_rletters {n a : Nat} {B : Nat → Int32} {E : am_D} (h : k_tr n B E a) : f_X12_skipWord E = some (am_wI E 117 4 (Int32.ofNat (k_skp k_Pl n B a))) := by
  have e1 : (97 : Int32).toInt = 97 := rfl
  have e2 : (122 : Int32).toInt = 122 := rfl
  have key := k_skl (n := n) (B := B) k_Pl k_Pl_1 117 4 (k_tr n B) f_X12_skipWord_L0 (fun D a t => ⟨t.1, t.2.2.2.1⟩) (fun D a b t hb => k_tr_w t hb)
    (fun fu D a t ha q => by
      have := t.2.1
      have q := of_decide_eq_true q
      rw [f_X12_skipWord_L0, t.2.2.2.1, k_rby t (by omega), Option.bind_some, if_neg (by rw [j_lt, e1]; omega), Option.bind_some, if_neg (by rw [j_lt, e2]; omega), Option.bind_some, j_suc])
    (fun fu D a t q => by
      have := t.2.1
      have := t.1
      have q := of_decide_eq_false q
      rw [f_X12_skipWord_L0, t.2.2.2.1, k_rby t (by omega), Option.bind_some]
      by_cases c : k_by n B a < 97
      · rw [if_pos c]
      · rw [if_neg c, Option.bind_some, if_pos (by rw [j_lt, e1] at c; rw [j_lt, e2]; omega)]) (n - a) a E am_fu (by have := h.1; omega) (by have := h.2.1; unfold am_fu; omega) h
  unfold f_X12_skipWord
  rw [key]
  rfl
theorem k_cdigits {n a : Nat} {B : Nat → Int32} {D : am_D} (lo hi : Int32) (h : k_tc n B D a) : f_X8_readNumber_L23 lo hi am_fu 0 D = some (k_vl k_Pd n B (n - a) 0 a, am_wI D 69 4 (Int32.ofNat (k_skp k_Pd n B a))) :=
  k_nml (n := n) (B := B) k_Pd k_Pd_1 69 4 (k_tc n B) (f_X8_readNumber_L23 lo hi) (fun D a t => ⟨t.1, t.2.2.2.1⟩) (fun D a b t hb => k_tc_w t hb)
    (fun fu v D a t ha q => by
      have := t.2.1
      rw [f_X8_readNumber_L23, t.2.2.1, t.2.2.2.1, if_neg (by rw [j_le, j_nat (by omega), j_nat (by omega)]; omega), k_isD t (by omega), Option.bind_some, if_pos q, if_neg k_10, k_cby t (by omega), Option.bind_some, Option.bind_some, j_suc]
      rfl)
    (fun fu v D a t q => by
      have := t.2.1
      have := t.1
      rw [f_X8_readNumber_L23, t.2.2.1, t.2.2.2.1]
      by_cases c : Int32.ofNat n ≤ Int32.ofNat a
      · rw [if_pos c]
      · rw [if_neg c, k_isD t (by omega), Option.bind_some, if_neg (Bool.eq_false_iff.mp q), if_pos rfl]) (n - a) a 0 D am_fu (by have := h.1; omega) (by have := h.2.1; unfold am_fu; omega) h
theorem k_rvs (v x : Int32) : (if ((((10 : Int32) * v) + x) - (48 : Int32)) ≤ (100000 : Int32) then some (((((10 : Int32) * v) + x) - (48 : Int32))) else some ((100000 : Int32))) = some (k_vs v x) := by
  unfold k_vs am_mn
  rw [Int32.mul_comm v 10]
  by_cases c : ((((10 : Int32) * v) + x) - (48 : Int32)) < 100000
  · rw [if_pos c, if_pos (by rw [j_le]; rw [j_lt] at c; omega)]
  · rw [if_neg c]
    by_cases c2 : ((((10 : Int32) * v) + x) - (48 : Int32)) ≤ 100000
    · rw [if_pos c2]
      refine congrArg some ?_
      rw [j_eq]
      rw [j_le] at c2
      rw [j_lt] at c
      omega
    · rw [if_neg c2]
theorem k_rdigits {n a : Nat} {B : Nat → Int32} {E : am_D} (lo hi q3 : Int32) (h : k_tr n B E a) : f_X12_number_L44 lo hi q3 am_fu 0 E = some (k_vl k_Pd n B (n - a) 0 a, am_wI E 117 4 (Int32.ofNat (k_skp k_Pd n B a))) :=
  k_nml (n := n) (B := B) k_Pd k_Pd_1 117 4 (k_tr n B) (f_X12_number_L44 lo hi q3) (fun D a t => ⟨t.1, t.2.2.2.1⟩) (fun D a b t hb => k_tr_w t hb)
    (fun fu v D a t ha q => by
      have := t.2.1
      rw [f_X12_number_L44, t.2.2.2.1, k_rby t (by omega), Option.bind_some, k_risD, Option.bind_some, if_pos q, if_neg k_10, Option.bind_some, k_rvs, Option.bind_some, Option.bind_some, j_suc])
    (fun fu v D a t q => by
      have := t.2.1
      have := t.1
      rw [f_X12_number_L44, t.2.2.2.1, k_rby t (by omega), Option.bind_some, k_risD, Option.bind_some, if_neg (Bool.eq_false_iff.mp q), if_pos rfl]) (n - a) a 0 E am_fu (by have := h.1; omega) (by have := h.2.1; unfold am_fu; omega) h
/-- faults -/
theorem k_cfail0 {D : am_D} (k p : Int32) (h : ¬ D.1 69 2 = 0) : f_X8_fail k p D = some D := by
  unfold f_X8_fail
  rw [if_neg h]
theorem k_rwrong0 {E : am_D} (k p : Int32) (h : ¬ E.1 117 5 = 0) : f_X12_wrong k p E = some E := by
  unfold f_X12_wrong
  rw [if_neg h]
theorem k_cfail {D : am_D} (k p : Int32) (h : D.1 69 2 = 0) : f_X8_fail k p D = some (am_wI (am_wI D 69 2 k) 69 3 p) := by
  unfold f_X8_fail
  rw [if_pos h]
  rfl
theorem k_rwrong {E : am_D} (k p : Int32) (h : E.1 117 5 = 0) : f_X12_wrong k p E = some (am_wI (am_wI E 117 5 k) 117 6 p) := by
  unfold f_X12_wrong
  rw [if_pos h]
  rfl
/-- what reading changes -/
def k_wc (D D2 : am_D) : Prop := (∀ y, y ≠ 69 → D2.1 y = D.1 y) ∧ D2.2 = D.2 ∧ ∀ j, j ≠ 2 → j ≠ 3 → j ≠ 4 → j ≠ 6 → j ≠ 7 → D2.1 69 j = D.1 69 j
def k_wr (E E2 : am_D) : Prop := (∀ y, y ≠ 117 → E2.1 y = E.1 y) ∧ E2.2 = E.2 ∧ ∀ j, j ≠ 4 → j ≠ 5 → j ≠ 6 → E2.1 117 j = E.1 117 j
theorem k_wc_refl (D : am_D) : k_wc D D := ⟨fun _ _ => rfl, rfl, fun _ _ _ _ _ _ => rfl⟩
theorem k_wr_refl (D : am_D) : k_wr D D := ⟨fun _ _ => rfl, rfl, fun _ _ _ _ => rfl⟩
theorem k_wc_trans {D D2 D3 : am_D} (h : k_wc D D2) (g : k_wc D2 D3) : k_wc D D3 := ⟨fun y a => (g.1 y a).trans (h.1 y a), g.2.1.trans h.2.1, fun j a b c d e => (g.2.2 j a b c d e).trans (h.2.2 j a b c d e)⟩
theorem k_wr_trans {D D2 D3 : am_D} (h : k_wr D D2) (g : k_wr D2 D3) : k_wr D D3 := ⟨fun y a => (g.1 y a).trans (h.1 y a), g.2.1.trans h.2.1, fun j a b c => (g.2.2 j a b c).trans (h.2.2 j a b c)⟩
theorem k_wc_w (D : am_D) (j : Nat) (v : Int32) (h : j = 2 ∨ j = 3 ∨ j = 4 ∨ j = 6 ∨ j = 7) : k_wc D (am_wI D 69 j v) := ⟨fun y hy => j_wI_ne _ _ _ hy, rfl, fun i a b c d e => k_wj _ _ (by omega)⟩
theorem k_wr_w (D : am_D) (j : Nat) (v : Int32) (h : j = 4 ∨ j = 5 ∨ j = 6) : k_wr D (am_wI D 117 j v) := ⟨fun y hy => j_wI_ne _ _ _ hy, rfl, fun i a b c => k_wj _ _ (by omega)⟩
/-- both at the same place without a fault, or with the same fault -/
def k_RR (n : Nat) (B : Nat → Int32) (D E : am_D) : Prop := ∃ a b, k_tc n B D a ∧ k_tr n B E b ∧ ((a = b ∧ D.1 69 2 = 0 ∧ E.1 117 5 = 0 ∧ E.1 117 6 = -1) ∨ (¬ D.1 69 2 = 0 ∧ E.1 117 5 = D.1 69 2 ∧ E.1 117 6 = D.1 69 3))
/-- a fault at a place -/
theorem k_flt {n a b : Nat} {B : Nat → Int32} {D E : am_D} (h : k_tc n B D a) (g : k_tr n B E b) (hD : D.1 69 2 = 0) (hE : E.1 117 5 = 0) (k p : Int32) (hk : ¬ k = 0) :
    ∃ D2 E2, f_X8_fail k p D = some D2 ∧ f_X12_wrong k p E = some E2 ∧ k_RR n B D2 E2 ∧ D2.1 69 2 = k ∧ E2.1 117 5 = k ∧ k_wc D D2 ∧ k_wr E E2 ∧ k_tc n B D2 a := by
  have t1 : k_tc n B (am_wI (am_wI D 69 2 k) 69 3 p) a := k_tc_mv h (by rw [k_wj _ _ (by decide), k_wj _ _ (by decide)]) (by rw [k_wj _ _ (by decide), k_wj _ _ (by decide)]) (by rw [j_wI_ne _ _ _ (by decide), j_wI_ne _ _ _ (by decide)])
  have t2 : k_tr n B (am_wI (am_wI E 117 5 k) 117 6 p) b := k_tr_mv g (by rw [k_wj _ _ (by decide), k_wj _ _ (by decide)]) (by rw [k_wj _ _ (by decide), k_wj _ _ (by decide)]) (by rw [j_wI_ne _ _ _ (by decide), j_wI_ne _ _ _ (by decide)])
  have e1 : (am_wI (am_wI D 69 2 k) 69 3 p).1 69 2 = k := by rw [k_wj _ _ (by decide), k_ws]
  have e2 : (am_wI (am_wI E 117 5 k) 117 6 p).1 117 5 = k := by rw [k_wj _ _ (by decide), k_ws]
  refine ⟨_, _, k_cfail k p hD, k_rwrong k p hE, ⟨a, b, t1, t2, Or.inr ⟨by rw [e1]; exact hk, by rw [e1, e2], by rw [k_ws, k_ws]⟩⟩, e1, e2, k_wc_trans (k_wc_w D 2 k (by omega)) (k_wc_w _ 3 p (by omega)), k_wr_trans (k_wr_w E 5 k (by omega)) (k_wr_w _ 6 p (by omega)), t1⟩
/-- a number on both sides; where it begins -/
theorem k_num0 {n a : Nat} {B : Nat → Int32} {D E : am_D} (hc : k_tc n B D a) (hr : k_tr n B E a) (hD : D.1 69 2 = 0) (hE : E.1 117 5 = 0) (hF : E.1 117 6 = -1) (lo hi : Int32) :
    ∃ v D2 E2, f_X8_readNumber lo hi D = some (v, D2) ∧ f_X12_number lo hi E = some (v, E2) ∧ k_RR n B D2 E2 ∧ k_wc D D2 ∧ k_wr E E2 ∧ (D2.1 69 2 = 0 → lo.toInt ≤ v.toInt ∧ v.toInt ≤ hi.toInt) ∧ D2.1 69 7 = Int32.ofNat (k_skp k_P32 n B a) := by
  have hn := hc.2.1
  obtain ⟨s1, s2, s3, s4⟩ := k_skp_spec (B := B) k_P32_1 hc.1
  obtain ⟨a1, ha1⟩ : ∃ x, x = k_skp k_P32 n B a := ⟨_, rfl⟩
  rw [← ha1] at s1 s2 s3 ⊢
  obtain ⟨u1, u2, u3, u4⟩ := k_skp_spec (B := B) k_Pd_1 s2
  obtain ⟨a2, ha2⟩ : ∃ x, x = k_skp k_Pd n B a1 := ⟨_, rfl⟩
  rw [← ha2] at u1 u2 u3 u4
  obtain ⟨v, hv⟩ : ∃ x, x = k_vl k_Pd n B (n - a1) 0 a1 := ⟨_, rfl⟩
  -- class
  obtain ⟨D1, hD1⟩ : ∃ X, X = am_wI (am_wI D 69 4 (Int32.ofNat a1)) 69 7 (Int32.ofNat a1) := ⟨_, rfl⟩
  have t1 : k_tc n B D1 a1 := by
    rw [hD1]
    exact k_tc_mv (k_tc_w hc s2) (k_wj _ _ (by decide)) (k_wj _ _ (by decide)) (j_wI_ne _ _ _ (by decide))
  obtain ⟨D3, hD3⟩ : ∃ X, X = am_wI D1 69 4 (Int32.ofNat a2) := ⟨_, rfl⟩
  have t3 : k_tc n B D3 a2 := by rw [hD3]; exact k_tc_w t1 u2
  have f3 : D3.1 69 2 = 0 := by rw [hD3, k_wj _ _ (by decide), hD1, k_wj _ _ (by decide), k_wj _ _ (by decide), hD]
  have g3 : D3.1 69 7 = Int32.ofNat a1 := by rw [hD3, k_wj _ _ (by decide), hD1, k_ws]
  have w3 : k_wc D D3 := by
    rw [hD3, hD1]
    exact k_wc_trans (k_wc_trans (k_wc_w D 4 _ (by omega)) (k_wc_w _ 7 _ (by omega))) (k_wc_w _ 4 _ (by omega))
  have cl : f_X8_readNumber lo hi D = if Int32.ofNat a2 = Int32.ofNat a1 then (f_X8_fail (1 : Int32) (Int32.ofNat a2) D3).bind fun x22 => some (v, x22) else (f_X11_within v lo hi).bind fun x17 => if x17 = 0 then (f_X8_fail (2 : Int32) (Int32.ofNat a1) D3).bind fun x20 => some (v, x20) else some (v, D3) := by
    unfold f_X8_readNumber
    rw [if_pos hD, k_cblank hc, ← ha1, Option.bind_some, k_ws, Option.bind_some, ← hD1, k_cdigits lo hi t1, ← ha2, ← hv, ← hD3, Option.bind_some, t3.2.2.2.1, g3]
  -- reference
  obtain ⟨E1, hE1⟩ : ∃ X, X = am_wI E 117 4 (Int32.ofNat a1) := ⟨_, rfl⟩
  have r1 : k_tr n B E1 a1 := by rw [hE1]; exact k_tr_w hr s2
  have q1 : E1.1 117 5 = 0 := by rw [hE1, k_wj _ _ (by decide), hE]
  have x1 : k_wr E E1 := by rw [hE1]; exact k_wr_w E 4 _ (by omega)
  have e1 : E1.1 117 4 = Int32.ofNat a1 := r1.2.2.2.1
  by_cases c : a2 = a1
  · -- no digit
    have hd : k_Pd (k_by n B a1) = false := by rw [← c]; exact u3
    have v0 : v = 0 := by
      rw [hv]
      cases hq : n - a1 with
      | zero => rfl
      | succ z =>
        unfold k_vl
        rw [if_neg (Bool.eq_false_iff.mp hd)]
    obtain ⟨E3, hE3⟩ : ∃ X, X = am_wI (am_wI E1 117 5 1) 117 6 (Int32.ofNat a1) := ⟨_, rfl⟩
    have r3 : k_tr n B E3 a1 := by
      rw [hE3]
      exact k_tr_mv r1 (by rw [k_wj _ _ (by decide), k_wj _ _ (by decide)]) (by rw [k_wj _ _ (by decide), k_wj _ _ (by decide)]) (by rw [j_wI_ne _ _ _ (by decide), j_wI_ne _ _ _ (by decide)])
    have q3 : E3.1 117 5 = 1 := by rw [hE3, k_wj _ _ (by decide), k_ws]
    have q3' : ¬ E3.1 117 5 = 0 := by rw [q3]; exact k_10
    have q6 : E3.1 117 6 = Int32.ofNat a1 := by rw [hE3, k_ws]
    have x3 : k_wr E E3 := by
      rw [hE3]
      exact k_wr_trans x1 (k_wr_trans (k_wr_w _ 5 _ (by omega)) (k_wr_w _ 6 _ (by omega)))
    have rl : f_X12_number lo hi E = some (v, E3) := by
      unfold f_X12_number
      rw [if_pos hE, k_rblank hr, ← ha1, ← hE1, Option.bind_some, e1, k_rby r1 (by omega), Option.bind_some, k_risD, if_neg (Bool.eq_false_iff.mp hd), Option.bind_some, if_pos rfl, k_rwrong _ _ q1, ← hE3, Option.bind_some, Option.bind_some, k_rdigits lo hi _ r3, ← hv, ← ha2, c, k_wIs _ _ _ _ r3.2.2.2.1, Option.bind_some, k_in, Option.bind_some]
      by_cases ci : lo.toInt ≤ v.toInt ∧ v.toInt ≤ hi.toInt
      · rw [if_pos ci, if_neg k_10]
      · rw [if_neg ci, if_pos rfl, k_rwrong0 _ _ q3', Option.bind_some]
    have D4e : f_X8_fail 1 (Int32.ofNat a2) D3 = some (am_wI (am_wI D3 69 2 1) 69 3 (Int32.ofNat a2)) := k_cfail _ _ f3
    rw [cl, if_pos (by rw [c]), D4e, Option.bind_some, rl]
    obtain ⟨D4, hD4⟩ : ∃ X, X = am_wI (am_wI D3 69 2 1) 69 3 (Int32.ofNat a2) := ⟨_, rfl⟩
    rw [← hD4]
    have t4 : k_tc n B D4 a2 := by
      rw [hD4]
      exact k_tc_mv t3 (by rw [k_wj _ _ (by decide), k_wj _ _ (by decide)]) (by rw [k_wj _ _ (by decide), k_wj _ _ (by decide)]) (by rw [j_wI_ne _ _ _ (by decide), j_wI_ne _ _ _ (by decide)])
    have f4 : D4.1 69 2 = 1 := by rw [hD4, k_wj _ _ (by decide), k_ws]
    refine ⟨v, D4, E3, rfl, rfl, ⟨a2, a1, t4, r3, Or.inr ⟨by rw [f4]; exact k_10, by rw [q3, f4], by rw [q6, hD4, k_ws, c]⟩⟩, ?_, x3, fun q => absurd (f4.symm.trans q) k_10, ?_⟩
    · rw [hD4]
      exact k_wc_trans w3 (k_wc_trans (k_wc_w _ 2 _ (by omega)) (k_wc_w _ 3 _ (by omega)))
    · rw [hD4, k_wj _ _ (by decide), k_wj _ _ (by decide), g3]
  · have hd : k_Pd (k_by n B a1) = true := u4 a1 (Nat.le_refl _) (by omega)
    have ne : ¬ Int32.ofNat a2 = Int32.ofNat a1 := fun q => c (k_ofN_inj q (by omega) (by omega))
    obtain ⟨E3, hE3⟩ : ∃ X, X = am_wI E1 117 4 (Int32.ofNat a2) := ⟨_, rfl⟩
    have r3 : k_tr n B E3 a2 := by rw [hE3]; exact k_tr_w r1 u2
    have q3 : E3.1 117 5 = 0 := by rw [hE3, k_wj _ _ (by decide), q1]
    have q36 : E3.1 117 6 = -1 := by rw [hE3, k_wj _ _ (by decide), hE1, k_wj _ _ (by decide), hF]
    have x3 : k_wr E E3 := by rw [hE3]; exact k_wr_trans x1 (k_wr_w _ 4 _ (by omega))
    have rl : f_X12_number lo hi E = if (if lo.toInt ≤ v.toInt ∧ v.toInt ≤ hi.toInt then (1 : Int32) else 0) = 0 then (f_X12_wrong (2 : Int32) (Int32.ofNat a1) E3).bind fun x31 => some (v, x31) else some (v, E3) := by
      unfold f_X12_number
      rw [if_pos hE, k_rblank hr, ← ha1, ← hE1, Option.bind_some, e1, k_rby r1 (by omega), Option.bind_some, k_risD, if_pos hd, Option.bind_some, if_neg k_10, Option.bind_some, k_rdigits lo hi _ r1, ← hv, ← ha2, ← hE3, Option.bind_some, k_in, Option.bind_some]
    rw [cl, if_neg ne, k_cwithin, Option.bind_some, rl]
    by_cases ci : lo.toInt ≤ v.toInt ∧ v.toInt ≤ hi.toInt
    · rw [if_pos ci, if_neg k_10, if_neg k_10]
      exact ⟨v, D3, E3, rfl, rfl, ⟨a2, a2, t3, r3, Or.inl ⟨rfl, f3, q3, q36⟩⟩, w3, x3, fun _ => ci, g3⟩
    · rw [if_neg ci, if_pos rfl, if_pos rfl]
      obtain ⟨D4, E4, z1, z2, z3, z4, z5, z6, z7, z8⟩ := k_flt t3 r3 f3 q3 2 (Int32.ofNat a1) (by decide)
      have g4 : D4.1 69 7 = Int32.ofNat a1 := by
        have z1 := z1
        rw [k_cfail _ _ f3] at z1
        rw [← Option.some.inj z1, k_wj _ _ (by decide), k_wj _ _ (by decide), g3]
      rw [z1, z2]
      exact ⟨v, D4, E4, rfl, rfl, z3, k_wc_trans w3 z6, k_wr_trans x3 z7, fun q => absurd (z4.symm.trans q) (by decide), g4⟩
theorem k_num {n : Nat} {B : Nat → Int32} {D E : am_D} (h : k_RR n B D E) (lo hi : Int32) :
    ∃ v v2 D2 E2, f_X8_readNumber lo hi D = some (v, D2) ∧ f_X12_number lo hi E = some (v2, E2) ∧ k_RR n B D2 E2 ∧ k_wc D D2 ∧ k_wr E E2 ∧ (D2.1 69 2 = 0 → D.1 69 2 = 0 ∧ v2 = v ∧ lo.toInt ≤ v.toInt ∧ v.toInt ≤ hi.toInt) := by
  obtain ⟨a, b, hc, hr, ⟨rfl, hD, hE, hF⟩ | ⟨hD, hE, hP⟩⟩ := h
  · obtain ⟨v, D2, E2, e1, e2, e3, e4, e5, e6, _⟩ := k_num0 hc hr hD hE hF lo hi
    exact ⟨v, v, D2, E2, e1, e2, e3, e4, e5, fun q => ⟨hD, rfl, e6 q⟩⟩
  · refine ⟨0, 0, D, E, ?_, ?_, ⟨a, b, hc, hr, Or.inr ⟨hD, hE, hP⟩⟩, k_wc_refl D, k_wr_refl E, fun q => absurd q hD⟩
    · unfold f_X8_readNumber
      rw [if_neg hD]
    · unfold f_X12_number
      rw [if_neg (by rw [hE]; exact hD)]
/-- how many: a number, and room for so many -/
theorem k_many {n r made : Nat} {B : Nat → Int32} {D E : am_D} (h : k_RR n B D E) (hr : r ≠ 69) (hm : D.1 r 1 = Int32.ofNat made) (hm2 : E.1 117 8 = Int32.ofNat made) (hm3 : made ≤ 600) :
    ∃ v v2 D2 E2, f_X8_readMany r D = some (v, D2) ∧ f_X12_manyHere E = some (v2, E2) ∧ k_RR n B D2 E2 ∧ k_wc D D2 ∧ k_wr E E2 ∧ (D2.1 69 2 = 0 → D.1 69 2 = 0 ∧ v2 = v ∧ 1 ≤ v.toInt ∧ v.toInt ≤ 300 ∧ made + v.toInt ≤ 600) := by
  have e1 : (1 : Int32).toInt = 1 := rfl
  have e300 : (300 : Int32).toInt = 300 := rfl
  have e600 : (600 : Int32).toInt = 600 := rfl
  have noop : ∀ (x : Int32 × am_D), ¬ x.2.1 69 2 = 0 → (if ((x.2.1 r 1) + x.1) ≤ (600 : Int32) then some (x.1, x.2) else (f_X8_fail (3 : Int32) (x.2.1 69 7) x.2).bind fun x5 => some (x.1, x5)) = some (x.1, x.2) := fun x hx => by
    by_cases c : ((x.2.1 r 1) + x.1) ≤ (600 : Int32)
    · rw [if_pos c]
    · rw [if_neg c, k_cfail0 _ _ hx, Option.bind_some]
  obtain ⟨a, b, hc, hr2, ⟨rfl, hD, hE, hF⟩ | ⟨hD, hE, hP⟩⟩ := h
  · have hn := hc.2.1
    obtain ⟨s1, s2, s3, s4⟩ := k_skp_spec (B := B) k_P32_1 hc.1
    have rE : k_tr n B (am_wI E 117 4 (Int32.ofNat (k_skp k_P32 n B a))) (k_skp k_P32 n B a) := k_tr_w hr2 s2
    have qE : (am_wI E 117 4 (Int32.ofNat (k_skp k_P32 n B a))).1 117 5 = 0 := by rw [k_wj _ _ (by decide), hE]
    -- the same number from behind the blanks
    have hcB : k_tc n B (am_wI D 69 4 (Int32.ofNat (k_skp k_P32 n B a))) (k_skp k_P32 n B a) := k_tc_w hc s2
    have cB : f_X8_readNumber 1 300 (am_wI D 69 4 (Int32.ofNat (k_skp k_P32 n B a))) = f_X8_readNumber 1 300 D := by
      unfold f_X8_readNumber
      rw [k_wj _ _ (by decide), if_pos hD, if_pos hD, k_cblank hcB, k_cblank hc, k_skp_twice k_P32_1 hc.1, k_wIw]
    obtain ⟨v, D2, E2, x1, x2, x3, x4, x5, x6, x7⟩ := k_num0 hcB rE (by rw [k_wj _ _ (by decide), hD]) qE (by rw [k_wj _ _ (by decide), hF]) 1 300
    rw [cB] at x1
    rw [k_skp_twice k_P32_1 hc.1] at x7
    have w2 : k_wc D D2 := k_wc_trans (k_wc_w D 4 _ (by omega)) x4
    have y2 : k_wr E E2 := k_wr_trans (k_wr_w E 4 _ (by omega)) x5
    have m1 : D2.1 r 1 = Int32.ofNat made := by rw [w2.1 r hr]; exact hm
    have m2 : E2.1 117 8 = Int32.ofNat made := by rw [y2.2.2 8 (by decide) (by decide) (by decide)]; exact hm2
    have cl : f_X8_readMany r D = if ((D2.1 r 1) + v) ≤ (600 : Int32) then some (v, D2) else (f_X8_fail (3 : Int32) (D2.1 69 7) D2).bind fun x5 => some (v, x5) := by
      unfold f_X8_readMany
      rw [x1, Option.bind_some]
    have rl : f_X12_manyHere E = if E2.1 117 5 = 0 then if ((E2.1 117 8) + v) ≤ (600 : Int32) then some (v, E2) else (f_X12_wrong (3 : Int32) (Int32.ofNat (k_skp k_P32 n B a)) E2).bind fun x9 => some (v, x9) else some (v, E2) := by
      unfold f_X12_manyHere
      rw [if_pos hE, k_rblank hr2, Option.bind_some, x2, Option.bind_some, k_ws]
    obtain ⟨p, q, p1, p2, ⟨rfl, p3, p4, p6⟩ | ⟨p3, p4, p5⟩⟩ := x3
    · have rg := x6 p3
      rw [e1, e300] at rg
      have es : (Int32.ofNat made + v).toInt = made + v.toInt := by rw [j_add (by rw [j_nat (by omega)]; omega) (by rw [j_nat (by omega)]; omega), j_nat (by omega)]
      rw [cl, rl, if_pos p4, m1, m2]
      by_cases c : Int32.ofNat made + v ≤ 600
      · rw [if_pos c, if_pos c]
        rw [j_le, es, e600] at c
        exact ⟨v, v, D2, E2, rfl, rfl, ⟨p, p, p1, p2, Or.inl ⟨rfl, p3, p4, p6⟩⟩, w2, y2, fun _ => ⟨hD, rfl, rg.1, rg.2, c⟩⟩
      · rw [if_neg c, if_neg c, x7]
        obtain ⟨D4, E4, z1, z2, z3, z4, z5, z6, z7, z8⟩ := k_flt p1 p2 p3 p4 3 (Int32.ofNat (k_skp k_P32 n B a)) (by decide)
        rw [z1, z2]
        exact ⟨v, v, D4, E4, rfl, rfl, z3, k_wc_trans w2 z6, k_wr_trans y2 z7, fun q => absurd (z4.symm.trans q) (by decide)⟩
    · rw [cl, rl, if_neg (show ¬ E2.1 117 5 = 0 by rw [p4]; exact p3)]
      have nn := noop (v, D2) p3
      exact ⟨v, v, D2, E2, nn, rfl, ⟨p, q, p1, p2, Or.inr ⟨p3, p4, p5⟩⟩, w2, y2, fun z => absurd z p3⟩
  · refine ⟨0, 0, D, E, ?_, ?_, ⟨a, b, hc, hr2, Or.inr ⟨hD, hE, hP⟩⟩, k_wc_refl D, k_wr_refl E, fun q => absurd q hD⟩
    · unfold f_X8_readMany f_X8_readNumber
      rw [if_neg hD, Option.bind_some]
      exact noop (0, D) hD
    · unfold f_X12_manyHere
      rw [if_neg (by rw [hE]; exact hD)]
/-- the end of a clause -/
theorem k_end {n : Nat} {B : Nat → Int32} {D E : am_D} (h : k_RR n B D E) : ∃ D2 E2, f_X8_readEnd D = some D2 ∧ f_X12_sign 59 E = some E2 ∧ k_RR n B D2 E2 ∧ k_wc D D2 ∧ k_wr E E2 ∧ (D2.1 69 2 = 0 → D.1 69 2 = 0) := by
  obtain ⟨a, b, hc, hr, ⟨rfl, hD, hE, hF⟩ | ⟨hD, hE, hP⟩⟩ := h
  · have hn := hc.2.1
    obtain ⟨s1, s2, s3, s4⟩ := k_skp_spec (B := B) k_P32_1 hc.1
    obtain ⟨a1, ha1⟩ : ∃ x, x = k_skp k_P32 n B a := ⟨_, rfl⟩
    rw [← ha1] at s1 s2 s3
    obtain ⟨D1, hD1⟩ : ∃ X, X = am_wI D 69 4 (Int32.ofNat a1) := ⟨_, rfl⟩
    obtain ⟨E1, hE1⟩ : ∃ X, X = am_wI E 117 4 (Int32.ofNat a1) := ⟨_, rfl⟩
    have t1 : k_tc n B D1 a1 := by rw [hD1]; exact k_tc_w hc s2
    have r1 : k_tr n B E1 a1 := by rw [hE1]; exact k_tr_w hr s2
    have f1 : D1.1 69 2 = 0 := by rw [hD1, k_wj _ _ (by decide), hD]
    have q1 : E1.1 117 5 = 0 := by rw [hE1, k_wj _ _ (by decide), hE]
    have q16 : E1.1 117 6 = -1 := by rw [hE1, k_wj _ _ (by decide), hF]
    have w1 : k_wc D D1 := by rw [hD1]; exact k_wc_w D 4 _ (by omega)
    have x1 : k_wr E E1 := by rw [hE1]; exact k_wr_w E 4 _ (by omega)
    have cl : f_X8_readEnd D = if k_by n B a1 = (59 : Int32) then some (am_wI D1 69 4 (Int32.ofNat (a1 + 1))) else (f_X8_fail (1 : Int32) (Int32.ofNat a1) D1).bind fun x8 => some x8 := by
      unfold f_X8_readEnd
      rw [if_pos hD, k_cblank hc, ← ha1, ← hD1, Option.bind_some, t1.2.2.2.1, k_cby t1 (by omega), Option.bind_some, Option.bind_some, j_suc]
    have rl : f_X12_sign 59 E = if k_by n B a1 = (59 : Int32) then some (am_wI E1 117 4 (Int32.ofNat (a1 + 1))) else (f_X12_wrong (1 : Int32) (Int32.ofNat a1) E1).bind fun x8 => some x8 := by
      unfold f_X12_sign
      rw [if_pos hE, k_rblank hr, ← ha1, ← hE1, Option.bind_some, r1.2.2.2.1, k_rby r1 (by omega), Option.bind_some, Option.bind_some, j_suc]
    rw [cl, rl]
    by_cases c : k_by n B a1 = 59
    · have la : a1 < n := by
        by_cases cn : a1 < n
        · exact cn
        · unfold k_by at c
          rw [if_neg cn] at c
          exact absurd c (by decide)
      rw [if_pos c, if_pos c]
      exact ⟨_, _, rfl, rfl, ⟨a1 + 1, a1 + 1, k_tc_w t1 (by omega), k_tr_w r1 (by omega), Or.inl ⟨rfl, by rw [k_wj _ _ (by decide), f1], by rw [k_wj _ _ (by decide), q1], by rw [k_wj _ _ (by decide), q16]⟩⟩, k_wc_trans w1 (k_wc_w _ 4 _ (by omega)), k_wr_trans x1 (k_wr_w _ 4 _ (by omega)), fun _ => hD⟩
    · rw [if_neg c, if_neg c]
      obtain ⟨D4, E4, z1, z2, z3, z4, z5, z6, z7, z8⟩ := k_flt t1 r1 f1 q1 1 (Int32.ofNat a1) (by decide)
      rw [z1, z2]
      exact ⟨D4, E4, rfl, rfl, z3, k_wc_trans w1 z6, k_wr_trans x1 z7, fun _ => hD⟩
  · refine ⟨D, E, ?_, ?_, ⟨a, b, hc, hr, Or.inr ⟨hD, hE, hP⟩⟩, k_wc_refl D, k_wr_refl E, fun q => q⟩
    · unfold f_X8_readEnd
      rw [if_neg hD]
    · unfold f_X12_sign
      rw [if_neg (by rw [hE]; exact hD)]
