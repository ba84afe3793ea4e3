/-! rows of the class: start, copy, fade, silence, add -/
theorem j_mx (a b : Int32) : (am_mx a b).toInt = max a.toInt b.toInt := by
  unfold am_mx
  by_cases c : a < b
  · rw [if_pos c]
    have := (j_lt a b).mp c
    omega
  · rw [if_neg c]
    have := (not_congr (j_lt a b)).mp c
    omega
theorem j_mn (a b : Int32) : (am_mn a b).toInt = min a.toInt b.toInt := by
  unfold am_mn
  by_cases c : b < a
  · rw [if_pos c]
    have := (j_lt b a).mp c
    omega
  · rw [if_neg c]
    have := (not_congr (j_lt b a)).mp c
    omega
/-- a number of the class between two others -/
def j_bd (n a b : Int) : Int := max a (min n b)
theorem j_bounded (n a b : Int32) : ∃ v, f_X11_bounded n a b = some v ∧ v.toInt = j_bd n.toInt a.toInt b.toInt := ⟨_, rfl, by rw [j_mx, j_mn]; rfl⟩
theorem j_boundedN (n c : Nat) (hn : n < 2147483648) (hc : c < 2147483648) : f_X11_bounded (Int32.ofNat n) 0 (Int32.ofNat c) = some (Int32.ofNat (min n c)) := by
  obtain ⟨v, e, h⟩ := j_bounded (Int32.ofNat n) 0 (Int32.ofNat c)
  rw [e]
  congr 1
  rw [j_eq, h, j_nat hn, j_nat hc, j_nat (by omega)]
  show max 0 (min (n : Int) c) = _
  omega
theorem j_cut {a b : Int32} (h : b.toInt ≠ 0) : f_X11_cut a b = some (a / b) := by
  have e : ¬ b = 0 := fun q => h (by rw [q]; rfl)
  unfold f_X11_cut am_dv
  rw [if_neg e, if_neg e]
  rfl
theorem j_left {a b : Int32} (h : b.toInt ≠ 0) : f_X11_left a b = some (a - a / b * b) := by
  have e : ¬ b = 0 := fun q => h (by rw [q]; rfl)
  unfold f_X11_left am_rm
  rw [if_neg e, if_neg e]
  rfl
/-- Arrays.fill over so many places -/
def j_fills (f : Nat → Int32) (a c : Nat) (x : Int32) : Nat → Int32 := fun k => if a ≤ k ∧ k < c then x else f k
theorem j_fill {D : am_D} {q n : Nat} (x : Int32) (hn : n ≤ am_ln q) (hl : am_ln q ≤ 4000) : ∃ D2, f_J7_fill_fda19 q 0 (Int32.ofNat n) x D = some D2 ∧ D2.1 q = j_fills (D.1 q) 0 n x ∧ j_fr (fun y => y = q) D D2 := by
  have key := j_loopP (fun fu k (s : am_D) => f_J7_fill_fda19_L10 q (Int32.ofNat n) x fu (Int32.ofNat k) s) (fun k s => s.1 q = j_fills (D.1 q) 0 k x ∧ j_fr (fun y => y = q) D s)
    (fun o => ∃ D2, o = some D2 ∧ D2.1 q = j_fills (D.1 q) 0 n x ∧ j_fr (fun y => y = q) D D2) n (fun fu k s hk hp => by
      have e1 : (Int32.ofNat k).toInt = k := j_nat (by omega)
      refine ⟨am_wI s q k x, ?_, ?_, j_fr_trans hp.2 (j_fr_wI s q k x) (fun _ h => h) (fun _ h => h)⟩
      · show f_J7_fill_fda19_L10 q (Int32.ofNat n) x (fu + 1) _ _ = _
        rw [f_J7_fill_fda19_L10]
        have c1 : ¬ Int32.ofNat n ≤ Int32.ofNat k := by
          rw [j_le, j_nat (by omega), j_nat (by omega)]
          omega
        rw [if_neg c1, j_pI (by omega) (by omega), j_suc, e1]
        rfl
      · funext z
        rw [j_wI_at, hp.1]
        unfold j_fills
        by_cases c1 : z = k
        · rw [if_pos c1, if_pos (by omega)]
        · rw [if_neg c1]
          by_cases c2 : 0 ≤ z ∧ z < k
          · rw [if_pos c2, if_pos (by omega)]
          · rw [if_neg c2, if_neg (by omega)]) (fun fu s hp => by
      refine ⟨s, ?_, hp⟩
      show f_J7_fill_fda19_L10 q (Int32.ofNat n) x (fu + 1) _ _ = _
      rw [f_J7_fill_fda19_L10, if_pos ((j_le _ _).mpr (by omega))]) n am_fu 0 D (by omega) (by unfold am_fu; omega) ⟨by
        funext z
        unfold j_fills
        rw [if_neg (by omega)], j_fr_refl _ _⟩
  obtain ⟨D2, e, h2⟩ := key
  refine ⟨D2, ?_, h2⟩
  unfold f_J7_fill_fda19 f_J7_rangeCheck_23922
  have e0 : (0 : Int32).toInt = 0 := rfl
  rw [if_pos ((j_le _ _).mpr (by rw [e0, j_nat (by omega)]; omega)), if_pos ((j_le _ _).mpr (by omega)), if_pos ((j_le _ _).mpr (by rw [j_nat (by omega), j_nat (by omega)]; omega))]
  have e2 : f_J7_fill_fda19_L10 q (Int32.ofNat n) x am_fu (0 : Int32) D = some D2 := e
  show (f_J7_fill_fda19_L10 q (Int32.ofNat n) x am_fu (0 : Int32) D).bind _ = _
  rw [e2]
  rfl
/-- what a row's cells are: how many at most -/
def j_rw (r c : Nat) : Prop := am_ln (r + 1) = c ∧ c ≤ 1200
theorem j_row_start {D : am_D} {r c : Nat} (hr : j_rw r c) (n : Nat) (hn : n ≤ c) : ∃ D2, f_X7_start r (Int32.ofNat n) D = some D2 ∧ j_row D2 r n (fun _ => 0) ∧ j_fr (fun x => x = r ∨ x = r + 1) D D2 := by
  obtain ⟨h1, h2⟩ := hr
  obtain ⟨D2, e, hf, hfr⟩ := j_fill (D := am_wI D r 1 (Int32.ofNat n)) (q := r + 1) (n := n) 0 (by omega) (by omega)
  refine ⟨D2, ?_, ⟨by omega, by omega, ?_, fun k hk => ?_, fun _ _ => rfl⟩, j_fr_trans (j_fr_wI D r 1 (Int32.ofNat n)) hfr (fun _ h => Or.inl h) (fun _ h => Or.inr h)⟩
  · unfold f_X7_start
    rw [h1, j_boundedN n c (by omega) (by omega), Nat.min_eq_left hn]
    show (f_J7_fill_fda19 (r + 1) 0 ((am_wI D r 1 (Int32.ofNat n)).1 r 1) 0 (am_wI D r 1 (Int32.ofNat n))).bind _ = _
    rw [j_wI_at, if_pos rfl, e]
    rfl
  · rw [(hfr r (by omega)).1, j_wI_at, if_pos rfl]
  · rw [hf]
    unfold j_fills
    rw [if_pos (by omega)]
theorem j_row_copy {D : am_D} {r q n : Nat} {f : Int → Int32} (h : j_row D q n f) {c : Nat} (hr : j_rw r c) (hn : n ≤ c) (hne : q ≠ r ∧ q + 1 ≠ r ∧ q ≠ r + 1) : ∃ D2, f_X7_copyFrom r q D = some D2 ∧ j_row D2 r n f ∧ j_fr (fun x => x = r ∨ x = r + 1) D D2 := by
  obtain ⟨h1, h2, h3, h4, h5⟩ := h
  obtain ⟨g1, g2⟩ := hr
  have e0 : (0 : Int32).toInt = 0 := rfl
  have z0 : ¬ (0 : Int32) < 0 := by rw [j_lt]; omega
  have em : am_mn (Int32.ofNat (am_ln (r + 1))) (Int32.ofNat (am_ln (q + 1))) = Int32.ofNat (min (am_ln (r + 1)) (am_ln (q + 1))) := by
    rw [j_eq, j_mn, j_nat (by omega), j_nat (by omega), j_nat (by omega)]
    omega
  have e3 : (am_wI D r 1 (Int32.ofNat n)).1 r 1 = Int32.ofNat n := by rw [j_wI_at, if_pos rfl]
  have ec : am_cp (am_wI D r 1 (Int32.ofNat n)) (q + 1) (am_ln (q + 1)) (0 : Int32) (r + 1) (am_ln (r + 1)) (0 : Int32) (Int32.ofNat n) = some (am_row (am_wI D r 1 (Int32.ofNat n)).1 (r + 1) (va_cpy ((am_wI D r 1 (Int32.ofNat n)).1 (q + 1)) ((am_wI D r 1 (Int32.ofNat n)).1 (r + 1)) 0 0 n), (am_wI D r 1 (Int32.ofNat n)).2) := by
    unfold am_cp
    have ecn : (Int32.ofNat n).toNatClampNeg = n := j_cn (by omega)
    have ec0 : (0 : Int32).toNatClampNeg = 0 := rfl
    have zn : ¬ Int32.ofNat n < 0 := by rw [j_lt, j_nat (by omega)]; omega
    rw [if_pos ⟨z0, z0, zn, by rw [ecn, ec0]; omega, by rw [ecn, ec0]; omega⟩, ecn, ec0]
  refine ⟨(am_row (am_wI D r 1 (Int32.ofNat n)).1 (r + 1) (va_cpy ((am_wI D r 1 (Int32.ofNat n)).1 (q + 1)) ((am_wI D r 1 (Int32.ofNat n)).1 (r + 1)) 0 0 n), (am_wI D r 1 (Int32.ofNat n)).2), ?_, ⟨by omega, by omega, ?_, fun k hk => ?_, h5⟩, ?_⟩
  · unfold f_X7_copyFrom
    rw [em, h3, j_boundedN n _ (by omega) (by omega), Nat.min_eq_left (by omega)]
    show (am_cp (am_wI D r 1 (Int32.ofNat n)) (q + 1) (am_ln (q + 1)) (0 : Int32) (r + 1) (am_ln (r + 1)) (0 : Int32) ((am_wI D r 1 (Int32.ofNat n)).1 r 1)).bind _ = _
    rw [e3, ec]
    rfl
  · show am_row _ (r + 1) _ r 1 = _
    unfold am_row
    rw [if_neg (by omega)]
    exact e3
  · show am_row _ (r + 1) _ (r + 1) k = _
    unfold am_row va_cpy
    rw [if_pos rfl, if_pos (by omega), j_wI_ne _ _ _ (by omega), Nat.zero_add, Nat.sub_zero]
    exact h4 k hk
  · intro x hx
    refine ⟨?_, rfl⟩
    show am_row _ (r + 1) _ x = _
    unfold am_row
    rw [if_neg (fun q => hx (Or.inr q)), j_wI_ne _ _ _ (fun q => hx (Or.inl q))]
