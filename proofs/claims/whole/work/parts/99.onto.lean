/-! onto -/
/-- one mark more or none, its place any number -/
theorem k_step2 {D E : am_D} {r n L B x : Nat} {y : Int32} (hg : k_good D E r n L B) (hn : n < 12) (hx : x < L) (hL : L ≤ 600) (hy : y.toInt ≤ B) (hB : B ≤ 1000000) :
    ∃ w, (w = 0 ∨ w = 1) ∧ ((f_X9_lastFrom r D).bind fun x13 => if Int32.ofNat x ≤ x13 then some ((0 : Int32)) else (f_X9_lastTo r D).bind fun x17 => if y ≤ x17 then some ((0 : Int32)) else some ((1 : Int32))) = some w ∧ f_X12_rises (Int32.ofNat n) (Int32.ofNat x) y E = some w ∧ (x = 0 → w = 0) ∧
      (w = 1 → ∃ D2, f_X9_add r (Int32.ofNat x) y D = some D2 ∧ k_good D2 (am_wI (am_wI E (121 + n) 0 (Int32.ofNat x)) (121 + n) 1 y) r (n + 1) L B ∧ k_fm2 r D D2 E (am_wI (am_wI E (121 + n) 0 (Int32.ofNat x)) (121 + n) 1 y)) := by
  obtain ⟨f, t, h1, h2, h3, h4⟩ := hg
  have z := h1.1.2.2.2 (-1) (Or.inl (by omega))
  have pz := k_up_pos h2 (by rw [z.1]; rfl) (by rw [z.2]; rfl) n (Nat.le_refl n)
  rw [j_map_lastFrom h1.1, Option.bind_some, j_map_lastTo h1.1, Option.bind_some, k_riseR h1, j_nat (by omega)]
  by_cases c1 : (x : Int) ≤ (f ((n : Int) - 1)).toInt
  · rw [if_pos (by rw [j_le, j_nat (by omega)]; exact c1), if_pos (Or.inl c1)]
    exact ⟨0, Or.inl rfl, rfl, rfl, fun _ => rfl, fun z => absurd z.symm k_10⟩
  · rw [if_neg (by rw [j_le, j_nat (by omega)]; exact c1)]
    by_cases c2 : y ≤ t ((n : Int) - 1)
    · have c2' := (j_le _ _).mp c2
      rw [if_pos c2, if_pos (Or.inr c2')]
      exact ⟨0, Or.inl rfl, rfl, rfl, fun _ => rfl, fun z => absurd z.symm k_10⟩
    · have c2' := (not_congr (j_le _ _)).mp c2
      obtain ⟨D2, a1, a2, a3⟩ := k_mk_add h1 hn (Int32.ofNat x) y
      rw [if_neg c2, if_neg (show ¬ ((x : Int) ≤ (f ((n : Int) - 1)).toInt ∨ y.toInt ≤ (t ((n : Int) - 1)).toInt) by omega)]
      exact ⟨1, Or.inr rfl, rfl, rfl, fun hx0 => absurd hx0 (by omega), fun _ => ⟨D2, a1, ⟨_, _, a2, k_up_add h2 (by rw [j_nat (by omega)]; omega) (by omega), by rw [k_put_at, j_nat (by omega)]; omega, by rw [k_put_at]; omega⟩, a3, fun q hq => by rw [j_wI_ne _ _ _ (by omega), j_wI_ne _ _ _ (by omega)], rfl⟩⟩
/-- the number of a place on the grid -/
def k_nb (st a x : Nat) : Int32 := ((2 : Int32) * (Int32.ofNat x - Int32.ofNat a) + Int32.ofNat st) / ((2 : Int32) * Int32.ofNat st)
theorem k_nb_ok {st a x : Nat} (h1 : 4 ≤ st) (h2 : st ≤ 200) (ha : a < st) (hx : x ≤ 1200) : f_X12_numberOf (Int32.ofNat x) (Int32.ofNat st) (Int32.ofNat a) = some (k_nb st a x) ∧ (∀ D : am_D, D.1 106 3 = Int32.ofNat st → D.1 106 4 = Int32.ofNat a → f_X0_numberOf 106 (Int32.ofNat x) D = some (k_nb st a x)) ∧ -2047 ≤ (k_nb st a x).toInt ∧ (k_nb st a x).toInt ≤ 2047 := by
  have e0 : (0 : Int32).toInt = 0 := rfl
  have e2 : (2 : Int32).toInt = 2 := rfl
  have m1 : (2 : Int32) * Int32.ofNat st = Int32.ofNat (2 * st) := (Int32.ofNat_mul 2 st).symm
  have m2 : (Int32.ofNat x - Int32.ofNat a).toInt = (x : Int) - a := by rw [k_S, j_nat (by omega), j_nat (by omega)]; omega
  have m3 : ((2 : Int32) * (Int32.ofNat x - Int32.ofNat a)).toInt = 2 * ((x : Int) - a) := by rw [k_M, e2, m2]; omega
  have m4 : ((2 : Int32) * (Int32.ofNat x - Int32.ofNat a) + Int32.ofNat st).toInt = 2 * ((x : Int) - a) + st := by rw [k_A, m3, j_nat (by omega)]; omega
  refine ⟨?_, fun D h3 h4 => ?_, ?_⟩
  · unfold f_X12_numberOf am_dv
    rw [m1, if_neg (by rw [j_eq, j_nat (by omega), e0]; omega), Option.bind_some, ← m1]
    rfl
  · unfold f_X0_numberOf
    rw [h3, h4, m1, j_cut (by rw [j_nat (by omega)]; omega), Option.bind_some, ← m1]
    rfl
  · unfold k_nb
    rw [m1, k_D _ _ (by rw [j_nat (by omega)]; omega), m4, j_nat (by omega)]
    exact k_q_bd (by omega) (by omega) (by omega)
