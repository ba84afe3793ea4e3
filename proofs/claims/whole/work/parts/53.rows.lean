/-! rows of the class: silence, told, holds, add, fade -/
theorem j_row_told {D : am_D} {r n : Nat} {f : Int → Int32} (h : j_row D r n f) (i : Int32) : f_X7_toldAt r i D = some (if 0 ≤ i.toInt ∧ i.toInt < n then f i.toInt else -5000) := by
  have h2 := h.2.1
  have h1 := h.1
  have e0 : (0 : Int32).toInt = 0 := rfl
  unfold f_X7_toldAt
  by_cases c1 : i < 0
  · have := (j_lt i 0).mp c1
    rw [if_pos c1, if_neg (by omega)]
  · have g1 := (not_congr (j_lt i 0)).mp c1
    rw [if_neg c1, h.2.2.1]
    by_cases c2 : Int32.ofNat n ≤ i
    · have := (j_le _ _).mp c2
      rw [j_nat (by omega)] at this
      rw [if_pos c2, if_neg (by omega)]
    · have g2 := (not_congr (j_le (Int32.ofNat n) i)).mp c2
      rw [j_nat (by omega)] at g2
      rw [if_neg c2, if_pos (by omega), j_row_at h]
      rfl
/-- one sample more -/
theorem j_row_add {D : am_D} {r n c : Nat} {f : Int → Int32} (h : j_row D r n f) (hr : j_rw r c) (hn : n < c) (x : Int32) : ∃ D2, f_X7_add r x D = some D2 ∧ j_row D2 r (n + 1) (fun k => if k = n then x else f k) ∧ j_fr (fun q => q = r ∨ q = r + 1) D D2 := by
  obtain ⟨h1, h2, h3, h4, h5⟩ := h
  obtain ⟨g1, g2⟩ := hr
  have e0 : (0 : Int32).toInt = 0 := rfl
  have en : (Int32.ofNat n).toInt = n := j_nat (by omega)
  have c1 : ¬ Int32.ofNat n < 0 := by rw [j_lt]; omega
  have c2 : ¬ Int32.ofNat (am_ln (r + 1)) ≤ Int32.ofNat n := by
    rw [j_le, j_nat (by omega)]
    omega
  have ep : am_pI D (r + 1) (am_ln (r + 1)) (Int32.ofNat n) x = some (am_wI D (r + 1) n x) := by
    rw [j_pI (by omega) (by omega), en]
    rfl
  have e3 : (am_wI D (r + 1) n x).1 r 1 = Int32.ofNat n := by
    rw [j_wI_ne _ _ _ (by omega)]
    exact h3
  refine ⟨am_wI (am_wI D (r + 1) n x) r 1 (Int32.ofNat (n + 1)), ?_, ⟨by omega, by omega, by rw [j_wI_at, if_pos rfl], fun k hk => ?_, fun k hk => ?_⟩, j_fr_trans (j_fr_wI D (r + 1) n x) (j_fr_wI _ r 1 _) (fun _ h => Or.inr h) (fun _ h => Or.inl h)⟩
  · unfold f_X7_add
    rw [h3, if_neg c1, if_neg c2, ep]
    show some (am_wI (am_wI D (r + 1) n x) r 1 ((am_wI D (r + 1) n x).1 r 1 + 1)) = _
    rw [e3, j_suc]
  · rw [j_wI_ne _ _ _ (by omega), j_wI_at]
    show _ = if (k : Int) = (n : Int) then x else f k
    by_cases q : k = n
    · rw [if_pos q, if_pos (by omega)]
    · rw [if_neg q, if_neg (by omega)]
      exact h4 k (by omega)
  · show (if k = (n : Int) then x else f k) = 0
    rw [if_neg (by omega)]
    exact h5 k (by omega)
/-- another row comes in over so many samples -/
def j_fades (n : Nat) (f g : Int → Int32) (a b : Int) (o c : Nat) : Int → Int32 := fun k => if a ≤ k ∧ k < a + c ∧ 0 ≤ k ∧ k < n then (f k * (Int32.ofNat o - Int32.ofNat (k - a).toNat) + g (b + (k - a)) * Int32.ofNat (k - a).toNat) / Int32.ofNat o else f k
theorem j_row_fade {D : am_D} {r n q m : Nat} {f g : Int → Int32} (h : j_row D r n f) (hq : j_row D q m g) (hne : q ≠ r + 1 ∧ q ≠ r) (a b : Int32) (o : Nat) (ho0 : 0 < o) (ho : o ≤ 1200) (ha : -100000 ≤ a.toInt) (ha2 : a.toInt ≤ 100000) (hb : -100000 ≤ b.toInt) (hb2 : b.toInt ≤ 100000) :
    ∃ D2, f_X7_fadeIn r a q b (Int32.ofNat o) D = some D2 ∧ j_row D2 r n (j_fades n f g a.toInt b.toInt o o) ∧ j_fr (fun x => x = r + 1) D D2 := by
  have key := j_loopP (fun fu k (s : am_D) => f_X7_fadeIn_L3 r a q b (Int32.ofNat o) fu (Int32.ofNat k) s) (fun k s => j_row s r n (j_fades n f g a.toInt b.toInt o k) ∧ j_fr (fun x => x = r + 1) D s)
    (fun y => ∃ D2, y = some D2 ∧ j_row D2 r n (j_fades n f g a.toInt b.toInt o o) ∧ j_fr (fun x => x = r + 1) D D2) o (fun fu k s hk hp => by
      have hqs := j_row_by hq hp.2 hne.1 (by omega)
      have ea : (a + Int32.ofNat k).toInt = a.toInt + k := by
        rw [j_add (by rw [j_nat (by omega)]; omega) (by rw [j_nat (by omega)]; omega), j_nat (by omega)]
      have eb : (b + Int32.ofNat k).toInt = b.toInt + k := by
        rw [j_add (by rw [j_nat (by omega)]; omega) (by rw [j_nat (by omega)]; omega), j_nat (by omega)]
      have ef : j_fades n f g a.toInt b.toInt o k (a.toInt + k) = f (a.toInt + k) := by
        unfold j_fades
        rw [if_neg (by omega)]
      obtain ⟨D2, e, hr, hf⟩ := j_row_put hp.1 (a + Int32.ofNat k) ((f (a.toInt + k) * (Int32.ofNat o - Int32.ofNat k) + g (b.toInt + k) * Int32.ofNat k) / Int32.ofNat o)
      refine ⟨D2, ?_, j_row_cong hr fun x => ?_, j_fr_trans hp.2 hf (fun _ h => h) (fun _ h => h)⟩
      · show f_X7_fadeIn_L3 r a q b (Int32.ofNat o) (fu + 1) _ _ = _
        rw [f_X7_fadeIn_L3]
        have c1 : ¬ Int32.ofNat o ≤ Int32.ofNat k := by
          rw [j_le, j_nat (by omega), j_nat (by omega)]
          omega
        rw [if_neg c1, j_row_at hp.1, j_row_at hqs, ea, eb, ef]
        show (f_X11_cut (f (a.toInt + k) * (Int32.ofNat o - Int32.ofNat k) + g (b.toInt + k) * Int32.ofNat k) (Int32.ofNat o)).bind _ = _
        rw [j_cut (by rw [j_nat (by omega)]; omega)]
        show (f_X7_put r (a + Int32.ofNat k) ((f (a.toInt + k) * (Int32.ofNat o - Int32.ofNat k) + g (b.toInt + k) * Int32.ofNat k) / Int32.ofNat o) s).bind _ = _
        rw [e, j_suc]
        rfl
      · rw [ea]
        unfold j_up j_fades
        by_cases q1 : x = a.toInt + k
        · subst q1
          by_cases q2 : 0 ≤ a.toInt + (k : Int) ∧ a.toInt + (k : Int) < n
          · have e9 : a.toInt + (k : Int) - a.toInt = k := by omega
            rw [if_pos (by omega), if_pos (by omega), e9]
            rfl
          · rw [if_neg (by omega), if_neg (by omega), if_neg (by omega)]
        · rw [if_neg (by omega)]
          by_cases q2 : a.toInt ≤ x ∧ x < a.toInt + k ∧ 0 ≤ x ∧ x < n
          · rw [if_pos q2, if_pos (by omega)]
          · rw [if_neg q2, if_neg (by omega)]) (fun fu s hp => by
      refine ⟨s, ?_, hp⟩
      show f_X7_fadeIn_L3 r a q b (Int32.ofNat o) (fu + 1) _ _ = _
      rw [f_X7_fadeIn_L3, if_pos ((j_le _ _).mpr (by omega))]) o am_fu 0 D (by omega) (by unfold am_fu; omega) ⟨j_row_cong h fun k => by
        unfold j_fades
        rw [if_neg (by omega)], j_fr_refl _ _⟩
  obtain ⟨D2, e, h2⟩ := key
  refine ⟨D2, ?_, h2⟩
  unfold f_X7_fadeIn
  have e2 : f_X7_fadeIn_L3 r a q b (Int32.ofNat o) am_fu (0 : Int32) D = some D2 := e
  rw [e2]
  rfl
