/-! rows: what the class reads of a row, what the reference reads of its own -/
theorem k_row_silent {D : am_D} {r n : Nat} {f : Int → Int32} (h : j_row D r n f) (a : Int32) (ha : -100000 ≤ a.toInt) (ha2 : a.toInt ≤ 100000) (w : Nat) (hw : w ≤ 100) :
    f_X7_silent r a (Int32.ofNat w) D = some (if ∀ k : Nat, k < w → f (a.toInt + k) = 0 then 1 else 0) := by
  have key := k_ind (P := fun fu k => (∀ j : Nat, j < k → f (a.toInt + j) = 0) → f_X7_silent_L2 r a (Int32.ofNat w) D fu (Int32.ofNat k) = some (if ∀ k : Nat, k < w → f (a.toInt + k) = 0 then .inr () else .inl ())) w
    (by
      intro fu k hk ih hj
      rw [f_X7_silent_L2, j_row_at h]
      have e : (a + Int32.ofNat k).toInt = a.toInt + k := by simp only [k_A, k_N]; omega
      grind [k_N, j_le, j_suc]) (by
      intro fu hj
      rw [f_X7_silent_L2]
      grind [k_N, j_le]) am_fu 0 (by omega) (by unfold am_fu; omega) (by omega)
  unfold f_X7_silent
  have key2 : f_X7_silent_L2 r a (Int32.ofNat w) D am_fu (0 : Int32) = _ := key
  rw [key2]
  by_cases c : ∀ k : Nat, k < w → f (a.toInt + k) = 0
  · rw [if_pos c, if_pos c]; rfl
  · rw [if_neg c, if_neg c]; rfl
theorem k_row_holds {D : am_D} {r n : Nat} {f : Int → Int32} (h : j_row D r n f) (a b : Int32) :
    f_X7_holds r a b D = some (if 0 ≤ a.toInt ∧ 0 ≤ b.toInt ∧ a.toInt + b.toInt ≤ n then 1 else 0) := by
  have h1 := h.2.2.1
  have h2 := h.1
  have h3 := h.2.1
  have ra := k_R a
  have rb := k_R b
  unfold f_X7_holds
  rw [h1]
  grind [k_N, k_S, j_le, j_lt]
/-- a row of the reference -/
def k_arr (E : am_D) (a n : Nat) (f : Int → Int32) : Prop := ∀ k : Nat, k < n → E.1 a k = f k
theorem k_arr_g {E : am_D} {a n N : Nat} {f : Int → Int32} (h : k_arr E a n f) {i : Int32} (h0 : 0 ≤ i.toInt) (h1 : i.toInt < n) (h2 : n ≤ N) : am_gI E a N i = some (f i.toInt) := by
  rw [k_gi h0 (by omega), h _ (by omega)]
  congr 2
  omega
theorem k_amount (x : Int32) : f_X12_amount x = some (am_ab x) := by
  unfold f_X12_amount am_ab
  by_cases c : 0 ≤ x
  · rw [if_pos c, if_pos c]
  · rw [if_neg c, if_neg c]
    exact congrArg some (by grind)
theorem k_more (x y : Int32) : f_X12_more x y = some (am_mx x y) := by
  unfold f_X12_more am_mx
  grind [j_le, j_lt, j_eq]
theorem k_less (x y : Int32) : f_X12_less x y = some (am_mn x y) := by
  unfold f_X12_less am_mn
  grind [j_le, j_lt, j_eq]
theorem k_within (x a b : Int32) (h : a.toInt ≤ b.toInt) : f_X12_within x a b = some (am_mx a (am_mn x b)) := by
  unfold f_X12_within am_mx am_mn
  grind [j_le, j_lt, j_eq]
theorem k_in (x a b : Int32) : f_X12_in x a b = some (if a.toInt ≤ x.toInt ∧ x.toInt ≤ b.toInt then 1 else 0) := by
  unfold f_X12_in
  grind [j_le, j_lt, j_eq]
theorem k_cwithin (x a b : Int32) : f_X11_within x a b = some (if a.toInt ≤ x.toInt ∧ x.toInt ≤ b.toInt then 1 else 0) := by
  unfold f_X11_within
  grind [j_le, j_lt, j_eq]
theorem k_row_step {D E : am_D} {r a n : Nat} {f : Int → Int32} (h : j_row D r n f) (he : k_arr E a n f) (v : Int32) (hv : E.1 117 38 = Int32.ofNat n) (ha : a = 222) :
    ∃ w, f_X7_widestStep r D = some w ∧ f_X12_jump_L9 E am_fu 0 1 = some w := by
  have h2 := h.1
  have h3 := h.2.1
  by_cases c : n = 0
  · subst c
    refine ⟨0, ?_, ?_⟩
    · unfold f_X7_widestStep am_fu
      rw [f_X7_widestStep_L4, h.2.2.1]
      rfl
    · unfold am_fu
      rw [f_X12_jump_L9, hv]
      rfl
  have key := k_ind (P := fun fu k => 1 ≤ k → ∀ v, ∃ w, f_X7_widestStep_L4 r D fu v (Int32.ofNat k) = some w ∧ f_X12_jump_L9 E fu v (Int32.ofNat k) = some w) n
    (by
      intro fu k hk ih hj v
      have e : (Int32.ofNat k - 1).toInt = k - 1 := by simp only [k_S, k_N, Int32.reduceToInt]; omega
      have e2 : (Int32.ofNat k).toInt = k := by rw [k_N]; omega
      obtain ⟨w, h1, h2⟩ := ih (by omega) (am_mx v (am_ab (f k - f (k - 1))))
      have c1 : ¬ Int32.ofNat n ≤ Int32.ofNat k := by simp only [j_le, k_N]; omega
      refine ⟨w, ?_, ?_⟩
      · rw [f_X7_widestStep_L4, h.2.2.1, if_neg c1, j_row_at h, j_row_at h, e, e2, j_suc]
        exact h1
      · rw [f_X12_jump_L9, hv, if_neg c1, ← ha, k_arr_g he (by omega) (by omega) (by omega), k_arr_g he (by omega) (by omega) (by omega), e, e2, j_suc]
        simp only [Option.bind_some, k_amount, k_more]
        exact h2) (by
      intro fu hj v
      refine ⟨v, ?_, ?_⟩
      · rw [f_X7_widestStep_L4, h.2.2.1, if_pos (Int32.le_refl _)]
      · rw [f_X12_jump_L9, hv, if_pos (Int32.le_refl _)]) am_fu 1 (by omega) (by unfold am_fu; omega) (by omega) 0
  obtain ⟨w, h1, h2⟩ := key
  refine ⟨w, ?_, h2⟩
  unfold f_X7_widestStep
  have h1 : f_X7_widestStep_L4 r D am_fu 0 1 = some w := h1
  rw [h1]
  rfl
