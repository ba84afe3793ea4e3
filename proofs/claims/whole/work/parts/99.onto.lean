/-! onto -/
/-- one mark more or none, its place any number -/
theorem k_step2 {D E : am_D} {r n L B x : Nat} {y : Int32} (hg : k_good D E r n L B) (hn : n < 12) (hx : x < L) (hL : L ≤ 600) (hy : y.toInt ≤ B) (hB : B ≤ 1000000) :
    ∃ w, (w = 0 ∨ w = 1) ∧ ((f_X9_lastFrom r D).bind fun x13 => if Int32.ofNat x ≤ x13 then some ((0 : Int32)) else (f_X9_lastTo r D).bind fun x17 => if y ≤ x17 then some ((0 : Int32)) else some ((1 : Int32))) = some w ∧ f_X12_rises (Int32.ofNat n) (Int32.ofNat x) y E = some w ∧ (x = 0 → w = 0) ∧
      (w = 1 → ∃ D2, f_X9_add r (Int32.ofNat x) y D = some D2 ∧ k_good D2 (am_wI (am_wI E (121 + n) 0 (Int32.ofNat x)) (121 + n) 1 y) r (n + 1) L B ∧ k_fm2 r D D2 E (am_wI (am_wI E (121 + n) 0 (Int32.ofNat x)) (121 + n) 1 y)) := by
  obtain ⟨f, t, h1, h2, h3, h4⟩ := hg
  have z := h1.1.2.2.2 (-1) (Or.inl (by omega))
  have pz := k_up_pos h2 (by rw [z.1]; rfl) (by rw [z.2]; rfl) n (Nat.le_refl n)
  rw [j_map_lastFrom h1.1, Option.bind_some, j_map_lastTo h1.1, Option.bind_some, k_riseR h1, j_nat (by omega)]
  by_cases c1 : (x : Int) ≤ (f ((n : Int) - 1)).toInt
  · rw [if_pos (by rw [j_le, j_nat (by omega)]; exact c1), if_pos (Or.inl c1)]
    exact ⟨0, Or.inl rfl, rfl, rfl, fun _ => rfl, fun z => absurd z.symm k_10⟩
  · rw [if_neg (by rw [j_le, j_nat (by omega)]; exact c1)]
    by_cases c2 : y ≤ t ((n : Int) - 1)
    · have c2' := (j_le _ _).mp c2
      rw [if_pos c2, if_pos (Or.inr c2')]
      exact ⟨0, Or.inl rfl, rfl, rfl, fun _ => rfl, fun z => absurd z.symm k_10⟩
    · have c2' := (not_congr (j_le _ _)).mp c2
      obtain ⟨D2, a1, a2, a3⟩ := k_mk_add h1 hn (Int32.ofNat x) y
      rw [if_neg c2, if_neg (show ¬ ((x : Int) ≤ (f ((n : Int) - 1)).toInt ∨ y.toInt ≤ (t ((n : Int) - 1)).toInt) by omega)]
      exact ⟨1, Or.inr rfl, rfl, rfl, fun hx0 => absurd hx0 (by omega), fun _ => ⟨D2, a1, ⟨_, _, a2, k_up_add h2 (by rw [j_nat (by omega)]; omega) (by omega), by rw [k_put_at, j_nat (by omega)]; omega, by rw [k_put_at]; omega⟩, a3, fun q hq => by rw [j_wI_ne _ _ _ (by omega), j_wI_ne _ _ _ (by omega)], rfl⟩⟩
/-- the number of a place on the grid -/
def k_nb (st a x : Nat) : Int32 := ((2 : Int32) * (Int32.ofNat x - Int32.ofNat a) + Int32.ofNat st) / ((2 : Int32) * Int32.ofNat st)
theorem k_nb_ok {st a x : Nat} (h1 : 4 ≤ st) (h2 : st ≤ 200) (ha : a < st) (hx : x ≤ 1200) : f_X12_numberOf (Int32.ofNat x) (Int32.ofNat st) (Int32.ofNat a) = some (k_nb st a x) ∧ (∀ D : am_D, D.1 106 3 = Int32.ofNat st → D.1 106 4 = Int32.ofNat a → f_X0_numberOf 106 (Int32.ofNat x) D = some (k_nb st a x)) ∧ -2047 ≤ (k_nb st a x).toInt ∧ (k_nb st a x).toInt ≤ 2047 := by
  have e0 : (0 : Int32).toInt = 0 := rfl
  have e2 : (2 : Int32).toInt = 2 := rfl
  have m1 : (2 : Int32) * Int32.ofNat st = Int32.ofNat (2 * st) := (Int32.ofNat_mul 2 st).symm
  have m2 : (Int32.ofNat x - Int32.ofNat a).toInt = (x : Int) - a := by rw [k_S, j_nat (by omega), j_nat (by omega)]; omega
  have m3 : ((2 : Int32) * (Int32.ofNat x - Int32.ofNat a)).toInt = 2 * ((x : Int) - a) := by rw [k_M, e2, m2]; omega
  have m4 : ((2 : Int32) * (Int32.ofNat x - Int32.ofNat a) + Int32.ofNat st).toInt = 2 * ((x : Int) - a) + st := by rw [k_A, m3, j_nat (by omega)]; omega
  refine ⟨?_, fun D h3 h4 => ?_, ?_⟩
  · unfold f_X12_numberOf am_dv
    rw [m1, if_neg (by rw [j_eq, j_nat (by omega), e0]; omega), Option.bind_some, ← m1]
    rfl
  · unfold f_X0_numberOf
    rw [h3, h4, m1, j_cut (by rw [j_nat (by omega)]; omega), Option.bind_some, ← m1]
    rfl
  · unfold k_nb
    rw [m1, k_D _ _ (by rw [j_nat (by omega)]; omega), m4, j_nat (by omega)]
    exact k_q_bd (by omega) (by omega) (by omega)
/-- one round of the class -/
theorem k_onto1 {D E : am_D} {r L c st a w n k : Nat} {pos : Nat → Nat} (h : k_bl D E 106 L c pos) (hL : L ≤ 600) (hst : 4 ≤ st ∧ st ≤ 200 ∧ a < st) (h3 : D.1 106 3 = Int32.ofNat st) (h4 : D.1 106 4 = Int32.ofNat a) (hw : w ≤ 200) (hg : k_good D E r n L 1000000) (hn : n ≤ 11) (hk : k < c) :
    ∃ u y, (u = 0 ∨ u = 1) ∧ y = Int32.ofNat w * ((k_nb st a (pos k) - k_nb st a (pos 0)) + 1) ∧ (n = 11 ∨ u = 0 → ∀ fu, f_X0_intoMap_L17 106 (Int32.ofNat w) r (k_nb st a (pos 0)) (fu + 1) (Int32.ofNat k) D = f_X0_intoMap_L17 106 (Int32.ofNat w) r (k_nb st a (pos 0)) fu (Int32.ofNat (k + 1)) D) ∧ f_X12_rises (Int32.ofNat n) (Int32.ofNat (pos k)) y E = some u ∧ (pos k = 0 → u = 0) ∧
      (n < 11 → u = 1 → ∃ D2, k_good D2 (am_wI (am_wI E (121 + n) 0 (Int32.ofNat (pos k))) (121 + n) 1 y) r (n + 1) L 1000000 ∧ k_fm2 r D D2 E (am_wI (am_wI E (121 + n) 0 (Int32.ofNat (pos k))) (121 + n) 1 y) ∧ ∀ fu, f_X0_intoMap_L17 106 (Int32.ofNat w) r (k_nb st a (pos 0)) (fu + 1) (Int32.ofNat k) D = f_X0_intoMap_L17 106 (Int32.ofNat w) r (k_nb st a (pos 0)) fu (Int32.ofNat (k + 1)) D2) := by
  have hc := h.1
  have e11 : (11 : Int32).toInt = 11 := rfl
  have e1 : (1 : Int32).toInt = 1 := rfl
  obtain ⟨b1, b2, b3, b4⟩ := h.2.2 k hk
  obtain ⟨z1, z2, z3, z4⟩ := h.2.2 0 (by omega)
  obtain ⟨N1, hN1⟩ : ∃ N1, N1 = k_nb st a (pos k) := ⟨_, rfl⟩
  obtain ⟨N0, hN0⟩ : ∃ N0, N0 = k_nb st a (pos 0) := ⟨_, rfl⟩
  obtain ⟨x1, x2, x3, x4⟩ := k_nb_ok (x := pos k) hst.1 hst.2.1 hst.2.2 (by omega)
  obtain ⟨w1, w2, w3, w4⟩ := k_nb_ok (x := pos 0) hst.1 hst.2.1 hst.2.2 (by omega)
  have x2 := x2 D h3 h4
  rw [← hN1] at x2 x3 x4
  rw [← hN0] at w3 w4
  obtain ⟨y, hy⟩ : ∃ y, y = Int32.ofNat w * ((N1 - N0) + 1) := ⟨_, rfl⟩
  have hyb : y.toInt ≤ ((1000000 : Nat) : Int) := by
    have m1 : (N1 - N0).toInt = N1.toInt - N0.toInt := by rw [k_S]; omega
    have m2 : (N1 - N0 + 1).toInt = N1.toInt - N0.toInt + 1 := by rw [k_A, m1, e1]; omega
    have q := k_mul_bd2 (a := (w : Int)) (b := (N1 - N0 + 1).toInt) (c := 200) (d := 4096) (by omega) (by omega) (by omega) (by omega) (by omega) (by omega)
    rw [hy, k_M, j_nat (by omega)]
    omega
  obtain ⟨u, u0, u1, u2, u3, u4⟩ := k_step2 (x := pos k) (y := y) hg (show n < 12 by omega) b3 hL hyb (by omega)
  have hat : f_X0_at 106 (Int32.ofNat k) D = some (Int32.ofNat (pos k)) := by
    have q := k_blat h (Int32.ofNat k)
    rw [j_nat (by omega), if_pos (by omega)] at q
    have e : ((k : Nat) : Int).toNat = k := by omega
    rw [e] at q
    exact q
  have hcnt : D.1 r 2 = Int32.ofNat n := by
    obtain ⟨f, t, g1, _⟩ := hg
    exact g1.1.2.1
  have hcl : ∀ fu, f_X0_intoMap_L17 106 (Int32.ofNat w) r N0 (fu + 1) (Int32.ofNat k) D = (if u = 0 then some D else if (11 : Int32) ≤ Int32.ofNat n then some D else (f_X9_add r (Int32.ofNat (pos k)) y D).bind fun x24 => some x24).bind fun w25 => f_X0_intoMap_L17 106 (Int32.ofNat w) r N0 fu (Int32.ofNat (k + 1)) w25 := by
    intro fu
    have q := congrArg (fun X => Option.bind X (fun w19 : Int32 => (if w19 = 0 then some D else if (11 : Int32) ≤ Int32.ofNat n then some D else (f_X9_add r (Int32.ofNat (pos k)) y D).bind fun x24 => some x24).bind fun w25 => f_X0_intoMap_L17 106 (Int32.ofNat w) r N0 fu (Int32.ofNat (k + 1)) w25)) u1
    simp only [Option.bind_assoc] at q
    rw [f_X0_intoMap_L17, h.2.1, if_neg (by rw [j_le, j_nat (by omega), j_nat (by omega)]; omega), hat, Option.bind_some, x2, Option.bind_some, ← hy, hcnt, j_suc, q, Option.bind_some]
  rw [← hN1, ← hN0]
  refine ⟨u, y, u0, hy, fun hz fu => ?_, u2, u3, fun hn2 hu => ?_⟩
  · rw [hcl]
    by_cases cu : u = 0
    · rw [if_pos cu, Option.bind_some]
    · rw [if_neg cu, if_pos (by rw [j_le, e11, j_nat (by omega)]; rcases hz with rfl | q <;> first | omega | exact absurd q cu), Option.bind_some]
  · obtain ⟨D2, a1, a2, a3⟩ := u4 hu
    refine ⟨D2, a2, a3, fun fu => ?_⟩
    rw [hcl, if_neg (by rw [hu]; exact k_10), if_neg (by rw [j_le, e11, j_nat (by omega)]; omega), a1, Option.bind_some, Option.bind_some]
