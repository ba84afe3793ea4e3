/-! maps of the class -/
/-- a map of the class: so many marks, their places in the sound and their times; 0 outside -/
def j_map (D : am_D) (r n : Nat) (f t : Int → Int32) : Prop := n ≤ 12 ∧ D.1 r 2 = Int32.ofNat n ∧ (∀ k : Nat, k < n → D.1 (r + 1) k = f k ∧ D.1 (r + 2) k = t k) ∧ ∀ k : Int, k < 0 ∨ (n : Int) ≤ k → f k = 0 ∧ t k = 0
theorem j_map_fr {D D2 : am_D} {r n : Nat} {f t : Int → Int32} (h : j_map D r n f t) (h0 : D2.1 r = D.1 r) (h1 : D2.1 (r + 1) = D.1 (r + 1)) (h2 : D2.1 (r + 2) = D.1 (r + 2)) : j_map D2 r n f t :=
  ⟨h.1, by rw [h0]; exact h.2.1, fun k hk => by rw [h1, h2]; exact h.2.2.1 k hk, h.2.2.2⟩
theorem j_map_by {A : Nat → Prop} {D D2 : am_D} {r n : Nat} {f t : Int → Int32} (h : j_map D r n f t) (hf : j_fr A D D2) (h0 : ¬ A r) (h1 : ¬ A (r + 1)) (h2 : ¬ A (r + 2)) : j_map D2 r n f t := j_map_fr h (hf r h0).1 (hf (r + 1) h1).1 (hf (r + 2) h2).1
theorem j_lit12 : (12 : Int32).toInt = 12 := rfl
theorem j_map_from {D : am_D} {r n : Nat} {f t : Int → Int32} (h : j_map D r n f t) (i : Int32) : f_X9_from r i D = some (f i.toInt) := by
  obtain ⟨h1, h2, h3, h4⟩ := h
  have e0 : (0 : Int32).toInt = 0 := rfl
  unfold f_X9_from
  by_cases c1 : i < 0
  · have := (j_lt i 0).mp c1
    rw [if_pos c1, (h4 _ (by omega)).1]
  · have g1 := (not_congr (j_lt i 0)).mp c1
    rw [if_neg c1, h2]
    by_cases c2 : Int32.ofNat n ≤ i
    · have := (j_le _ _).mp c2
      rw [j_nat (by omega)] at this
      rw [if_pos c2, (h4 _ (by omega)).1]
    · have g2 := (not_congr (j_le (Int32.ofNat n) i)).mp c2
      rw [j_nat (by omega)] at g2
      have c3 : ¬ (12 : Int32) ≤ i := by
        rw [j_le, j_lit12]
        omega
      rw [if_neg c2, if_neg c3, j_gI (by omega) (by omega)]
      show some (D.1 (r + 1) i.toInt.toNat) = _
      rw [(h3 _ (by omega)).1]
      congr 2
      omega
theorem j_map_to {D : am_D} {r n : Nat} {f t : Int → Int32} (h : j_map D r n f t) (i : Int32) : f_X9_to r i D = some (t i.toInt) := by
  obtain ⟨h1, h2, h3, h4⟩ := h
  have e0 : (0 : Int32).toInt = 0 := rfl
  unfold f_X9_to
  by_cases c1 : i < 0
  · have := (j_lt i 0).mp c1
    rw [if_pos c1, (h4 _ (by omega)).2]
  · have g1 := (not_congr (j_lt i 0)).mp c1
    rw [if_neg c1, h2]
    by_cases c2 : Int32.ofNat n ≤ i
    · have := (j_le _ _).mp c2
      rw [j_nat (by omega)] at this
      rw [if_pos c2, (h4 _ (by omega)).2]
    · have g2 := (not_congr (j_le (Int32.ofNat n) i)).mp c2
      rw [j_nat (by omega)] at g2
      have c3 : ¬ (12 : Int32) ≤ i := by
        rw [j_le, j_lit12]
        omega
      rw [if_neg c2, if_neg c3, j_gI (by omega) (by omega)]
      show some (D.1 (r + 2) i.toInt.toNat) = _
      rw [(h3 _ (by omega)).2]
      congr 2
      omega
theorem j_pred (n : Nat) (h : n ≤ 100000) : (Int32.ofNat n - (1 : Int32)).toInt = (n : Int) - 1 := by
  have e1 : (1 : Int32).toInt = 1 := rfl
  rw [j_sub (by rw [e1, j_nat (by omega)]; omega) (by rw [e1, j_nat (by omega)]; omega), e1, j_nat (by omega)]
theorem j_map_lastFrom {D : am_D} {r n : Nat} {f t : Int → Int32} (h : j_map D r n f t) : f_X9_lastFrom r D = some (f ((n : Int) - 1)) := by
  have h1 := h.1
  unfold f_X9_lastFrom
  rw [h.2.1, j_map_from h, j_pred n (by omega)]
  rfl
theorem j_map_lastTo {D : am_D} {r n : Nat} {f t : Int → Int32} (h : j_map D r n f t) : f_X9_lastTo r D = some (t ((n : Int) - 1)) := by
  have h1 := h.1
  unfold f_X9_lastTo
  rw [h.2.1, j_map_to h, j_pred n (by omega)]
  rfl
theorem j_map_clear {D : am_D} (r : Nat) : ∃ D2, f_X9_clear r D = some D2 ∧ j_map D2 r 0 (fun _ => 0) (fun _ => 0) ∧ j_fr (fun x => x = r) D D2 :=
  ⟨am_wI D r 2 0, rfl, ⟨by omega, by rw [j_wI_at, if_pos rfl]; rfl, fun k hk => absurd hk (by omega), fun _ _ => ⟨rfl, rfl⟩⟩, j_fr_wI _ _ _ _⟩
theorem j_map_add {D : am_D} {r n : Nat} {f t : Int → Int32} (h : j_map D r n f t) (hn : n < 12) (x y : Int32) : ∃ D2, f_X9_add r x y D = some D2 ∧ j_map D2 r (n + 1) (fun k => if k = n then x else f k) (fun k => if k = n then y else t k) ∧ j_fr (fun q => q = r ∨ q = r + 1 ∨ q = r + 2) D D2 := by
  obtain ⟨h1, h2, h3, h4⟩ := h
  have e0 : (0 : Int32).toInt = 0 := rfl
  have en : (Int32.ofNat n).toInt = n := j_nat (by omega)
  have c1 : ¬ Int32.ofNat n < 0 := by rw [j_lt]; omega
  have c2 : ¬ (12 : Int32) ≤ Int32.ofNat n := by
    rw [j_le, j_lit12]
    omega
  have ep : ∀ (D9 : am_D) (a : Nat) (v : Int32), am_pI D9 a 12 (Int32.ofNat n) v = some (am_wI D9 a n v) := by
    intro D9 a v
    rw [j_pI (by omega) (by omega), en]
    rfl
  have e3 : (am_wI D (r + 1) n x).1 r 2 = Int32.ofNat n := by
    rw [j_wI_ne _ _ _ (by omega)]
    exact h2
  have e4 : (am_wI (am_wI D (r + 1) n x) (r + 2) n y).1 r 2 = Int32.ofNat n := by
    rw [j_wI_ne _ _ _ (by omega)]
    exact e3
  refine ⟨am_wI (am_wI (am_wI D (r + 1) n x) (r + 2) n y) r 2 (Int32.ofNat (n + 1)), ?_, ⟨by omega, by rw [j_wI_at, if_pos rfl], fun k hk => ⟨?_, ?_⟩, fun k hk => ⟨?_, ?_⟩⟩, j_fr_trans (j_fr_trans (C := fun q => q = r + 1 ∨ q = r + 2) (j_fr_wI D (r + 1) n x) (j_fr_wI _ (r + 2) n y) (fun _ h => Or.inl h) (fun _ h => Or.inr h)) (j_fr_wI _ r 2 _) (fun _ h => Or.inr h) (fun _ h => Or.inl h)⟩
  · unfold f_X9_add
    rw [h2, if_neg c1, if_neg c2, ep]
    show (am_pI (am_wI D (r + 1) n x) (r + 2) 12 ((am_wI D (r + 1) n x).1 r 2) y).bind _ = _
    rw [e3, ep]
    show some (am_wI _ r 2 ((am_wI (am_wI D (r + 1) n x) (r + 2) n y).1 r 2 + 1)) = _
    rw [e4, j_suc]
  · rw [j_wI_ne _ _ _ (by omega), j_wI_ne _ _ _ (by omega), j_wI_at]
    show _ = if (k : Int) = (n : Int) then x else f k
    by_cases q : k = n
    · rw [if_pos q, if_pos (by omega)]
    · rw [if_neg q, if_neg (by omega)]
      exact (h3 k (by omega)).1
  · rw [j_wI_ne _ _ _ (by omega), j_wI_at, j_wI_ne _ _ _ (by omega)]
    show _ = if (k : Int) = (n : Int) then y else t k
    by_cases q : k = n
    · rw [if_pos q, if_pos (by omega)]
    · rw [if_neg q, if_neg (by omega)]
      exact (h3 k (by omega)).2
  · show (if k = (n : Int) then x else f k) = 0
    rw [if_neg (by omega)]
    exact (h4 k (by omega)).1
  · show (if k = (n : Int) then y else t k) = 0
    rw [if_neg (by omega)]
    exact (h4 k (by omega)).2
