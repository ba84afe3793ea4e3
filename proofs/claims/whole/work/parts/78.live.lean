/-! live, lag, lags -/
/-- what the buffer holds in tick k behind the coming in -/
def k_v (a b l k : Nat) : Int := (a : Int) * (k + 1) - b * ((k - l : Nat) : Int)
theorem k_v_s (a b l k : Nat) : k_v a b l (k + 1) = k_v a b l k + a - (if l ≤ k then (b : Int) else 0) := by
  unfold k_v
  by_cases c : l ≤ k
  · rw [if_pos c]
    have e : ((k + 1 - l : Nat) : Int) = ((k - l : Nat) : Int) + 1 := by omega
    have e2 : ((k + 1 : Nat) : Int) + 1 = ((k : Int) + 1) + 1 := by omega
    rw [e, e2, Int.mul_add, Int.mul_add (b : Int), Int.mul_one, Int.mul_one]
    omega
  · rw [if_neg c]
    have e : ((k + 1 - l : Nat) : Int) = ((k - l : Nat) : Int) := by omega
    have e2 : ((k + 1 : Nat) : Int) + 1 = ((k : Int) + 1) + 1 := by omega
    rw [e, e2, Int.mul_add, Int.mul_one]
    omega
def k_okt (a b h l k : Nat) : Prop := k_v a b l k ≤ h ∧ (l ≤ k → (b : Int) ≤ k_v a b l k)
/-- the run of a buffer, on both sides -/
theorem k_liveL {a b h l t : Nat} (ha : a ≤ 99) (hb : b ≤ 99) (hh : h ≤ 999) (ht : t ≤ 999) (hl : l ≤ 999) :
    (∃ k, k < t ∧ f_X11_live_L49 (Int32.ofNat a) (Int32.ofNat b) (Int32.ofNat h) (Int32.ofNat l) (Int32.ofNat t) am_fu 0 0 = some (.inl (Int32.ofNat k)) ∧ f_X12_fails (Int32.ofNat a) (Int32.ofNat b) (Int32.ofNat h) (Int32.ofNat l) (Int32.ofNat t) = some (Int32.ofNat k) ∧ ¬ k_okt a b h l k) ∨
    (f_X11_live_L49 (Int32.ofNat a) (Int32.ofNat b) (Int32.ofNat h) (Int32.ofNat l) (Int32.ofNat t) am_fu 0 0 = some (.inr ()) ∧ f_X12_fails (Int32.ofNat a) (Int32.ofNat b) (Int32.ofNat h) (Int32.ofNat l) (Int32.ofNat t) = some (-1) ∧ ∀ k, k < t → k_okt a b h l k) := by
  have e0 : (0 : Int32).toInt = 0 := rfl
  have key2 := k_ind (P := fun fu k => ∀ (x : Int32), x.toInt + a = k_v a b l k → 0 ≤ x.toInt → x.toInt ≤ 999 → (∀ j, j < k → k_okt a b h l j) →
      (∃ i, i < t ∧ f_X11_live_L49 (Int32.ofNat a) (Int32.ofNat b) (Int32.ofNat h) (Int32.ofNat l) (Int32.ofNat t) fu x (Int32.ofNat k) = some (.inl (Int32.ofNat i)) ∧ (f_X12_fails_L6 (Int32.ofNat a) (Int32.ofNat b) (Int32.ofNat h) (Int32.ofNat l) (Int32.ofNat t) fu x (Int32.ofNat k) = some (.inl (Int32.ofNat i)) ∨ f_X12_fails_L6 (Int32.ofNat a) (Int32.ofNat b) (Int32.ofNat h) (Int32.ofNat l) (Int32.ofNat t) fu x (Int32.ofNat k) = some (.inr (.inl (Int32.ofNat i)))) ∧ ¬ k_okt a b h l i) ∨
      (f_X11_live_L49 (Int32.ofNat a) (Int32.ofNat b) (Int32.ofNat h) (Int32.ofNat l) (Int32.ofNat t) fu x (Int32.ofNat k) = some (.inr ()) ∧ f_X12_fails_L6 (Int32.ofNat a) (Int32.ofNat b) (Int32.ofNat h) (Int32.ofNat l) (Int32.ofNat t) fu x (Int32.ofNat k) = some (.inr (.inr ())) ∧ ∀ j, j < t → k_okt a b h l j)) t
    (by
      intro fu k hk ih x h1 h2 h3 h4
      have c1 : ¬ Int32.ofNat t ≤ Int32.ofNat k := by rw [j_le, j_nat (by omega), j_nat (by omega)]; omega
      have ex : (x + Int32.ofNat a).toInt = x.toInt + a := by rw [k_A, j_nat (by omega)]; omega
      have vs := k_v_s a b l k
      obtain ⟨go, hgo⟩ : ∃ go : Nat, go = if l ≤ k then b else 0 := ⟨_, rfl⟩
      have hcl : f_X11_live_L49 (Int32.ofNat a) (Int32.ofNat b) (Int32.ofNat h) (Int32.ofNat l) (Int32.ofNat t) (fu + 1) x (Int32.ofNat k) = if Int32.ofNat h < x + Int32.ofNat a then some (.inl (Int32.ofNat k)) else if Int32.ofNat go ≤ x + Int32.ofNat a then f_X11_live_L49 (Int32.ofNat a) (Int32.ofNat b) (Int32.ofNat h) (Int32.ofNat l) (Int32.ofNat t) fu (x + Int32.ofNat a - Int32.ofNat go) (Int32.ofNat (k + 1)) else some (.inl (Int32.ofNat k)) := by
        rw [f_X11_live_L49, if_neg c1]
        by_cases cl : l ≤ k
        · rw [if_neg (by rw [j_lt, j_nat (by omega), j_nat (by omega)]; omega), Option.bind_some, hgo, if_pos cl, j_suc]
        · rw [if_pos (by rw [j_lt, j_nat (by omega), j_nat (by omega)]; omega), Option.bind_some, hgo, if_neg cl, j_suc]
          rfl
      by_cases ch : h < x.toInt + a
      · left
        refine ⟨k, hk, ?_, Or.inl ?_, ?_⟩
        · rw [hcl, if_pos (by rw [j_lt, j_nat (by omega), ex]; omega)]
        · rw [f_X12_fails_L6, if_neg c1, if_neg (by rw [j_le, j_nat (by omega), ex]; omega)]
        · unfold k_okt
          intro z
          omega
      · have c2 : ¬ Int32.ofNat h < x + Int32.ofNat a := by rw [j_lt, j_nat (by omega), ex]; omega
        have c3 : x + Int32.ofNat a ≤ Int32.ofNat h := by rw [j_le, j_nat (by omega), ex]; omega
        by_cases cl : l ≤ k
        · rw [if_pos cl] at hgo vs
          by_cases cb : b ≤ x.toInt + a
          · have c4 : Int32.ofNat b ≤ x + Int32.ofNat a := by rw [j_le, j_nat (by omega), ex]; omega
            have c5 : Int32.ofNat l ≤ Int32.ofNat k := by rw [j_le, j_nat (by omega), j_nat (by omega)]; omega
            have hr : f_X12_fails_L6 (Int32.ofNat a) (Int32.ofNat b) (Int32.ofNat h) (Int32.ofNat l) (Int32.ofNat t) (fu + 1) x (Int32.ofNat k) = f_X12_fails_L6 (Int32.ofNat a) (Int32.ofNat b) (Int32.ofNat h) (Int32.ofNat l) (Int32.ofNat t) fu (x + Int32.ofNat a - Int32.ofNat b) (Int32.ofNat (k + 1)) := by
              rw [f_X12_fails_L6, if_neg c1, if_pos c3, if_pos c5, if_pos c4, j_suc]
            rw [hcl, if_neg c2, hgo, if_pos c4, hr]
            have ey : (x + Int32.ofNat a - Int32.ofNat b).toInt = x.toInt + a - b := by rw [k_S, ex, j_nat (by omega)]; omega
            refine ih _ (by rw [ey]; omega) (by rw [ey]; omega) (by rw [ey]; omega) (fun j hj => ?_)
            by_cases cj : j = k
            · rw [cj]
              unfold k_okt
              exact ⟨(by omega), fun _ => (by omega)⟩
            · exact h4 j (by omega)
          · left
            refine ⟨k, hk, ?_, Or.inr ?_, ?_⟩
            · rw [hcl, if_neg c2, hgo, if_neg (by rw [j_le, j_nat (by omega), ex]; omega)]
            · rw [f_X12_fails_L6, if_neg c1, if_pos c3, if_pos (by rw [j_le, j_nat (by omega), j_nat (by omega)]; omega), if_neg (by rw [j_le, j_nat (by omega), ex]; omega)]
            · unfold k_okt
              intro z
              have := z.2 cl
              omega
        · rw [if_neg cl] at hgo vs
          have c5 : ¬ Int32.ofNat l ≤ Int32.ofNat k := by rw [j_le, j_nat (by omega), j_nat (by omega)]; omega
          have hr : f_X12_fails_L6 (Int32.ofNat a) (Int32.ofNat b) (Int32.ofNat h) (Int32.ofNat l) (Int32.ofNat t) (fu + 1) x (Int32.ofNat k) = f_X12_fails_L6 (Int32.ofNat a) (Int32.ofNat b) (Int32.ofNat h) (Int32.ofNat l) (Int32.ofNat t) fu (x + Int32.ofNat a) (Int32.ofNat (k + 1)) := by
            rw [f_X12_fails_L6, if_neg c1, if_pos c3, if_neg c5, j_suc]
          have e9 : x + Int32.ofNat a - Int32.ofNat 0 = x + Int32.ofNat a := by
            rw [j_eq, k_S, ex, j_nat (by omega)]
            omega
          rw [hcl, if_neg c2, hgo, if_pos (by rw [j_le, j_nat (by omega), ex]; omega), hr, e9]
          refine ih _ (by rw [ex]; omega) (by rw [ex]; omega) (by rw [ex]; omega) (fun j hj => ?_)
          by_cases cj : j = k
          · rw [cj]
            unfold k_okt
            exact ⟨(by omega), fun z => absurd z cl⟩
          · exact h4 j (by omega)) (by
      intro fu x h1 h2 h3 h4
      right
      rw [f_X11_live_L49, f_X12_fails_L6, if_pos (Int32.le_refl _), if_pos (Int32.le_refl _)]
      exact ⟨rfl, rfl, h4⟩) am_fu 0 (by omega) (by unfold am_fu; omega) 0 (by
        unfold k_v
        have e : ((0 - l : Nat) : Int) = 0 := by omega
        rw [e0, e]
        simp) (by omega) (by omega) (fun j hj => absurd hj (by omega))
  unfold f_X12_fails
  rcases key2 with ⟨i, i1, i2, i3, i4⟩ | ⟨i1, i2, i3⟩
  · left
    refine ⟨i, i1, i2, ?_, i4⟩
    rcases i3 with z | z
    · have z : f_X12_fails_L6 (Int32.ofNat a) (Int32.ofNat b) (Int32.ofNat h) (Int32.ofNat l) (Int32.ofNat t) am_fu 0 (0 : Int32) = _ := z
      rw [z]; rfl
    · have z : f_X12_fails_L6 (Int32.ofNat a) (Int32.ofNat b) (Int32.ofNat h) (Int32.ofNat l) (Int32.ofNat t) am_fu 0 (0 : Int32) = _ := z
      rw [z]; rfl
  · right
    refine ⟨i1, ?_, i3⟩
    have z : f_X12_fails_L6 (Int32.ofNat a) (Int32.ofNat b) (Int32.ofNat h) (Int32.ofNat l) (Int32.ofNat t) am_fu 0 (0 : Int32) = _ := i2
    rw [z]; rfl
theorem k_v_lin (a b l k : Nat) (hk : l ≤ k) : k_v a b l k = k_v a b l l + ((a : Int) - b) * ((k - l : Nat) : Int) := by
  unfold k_v
  have e : ((l - l : Nat) : Int) = 0 := by omega
  have e2 : ((k : Int) + 1) = ((l : Int) + 1) + ((k - l : Nat) : Int) := by omega
  rw [e, e2, Int.mul_add, Int.sub_mul]
  omega
/-- the ends decide -/
theorem k_ends {a b h l t : Nat} : (∀ k, k < t → k_okt a b h l k) ↔ if l < t then (k_v a b l l ≤ h ∧ (b : Int) ≤ k_v a b l l ∧ k_v a b l (t - 1) ≤ h ∧ (b : Int) ≤ k_v a b l (t - 1)) else (a : Int) * t ≤ h := by
  by_cases c : l < t
  · rw [if_pos c]
    constructor
    · intro z
      have z1 := z l c
      have z2 := z (t - 1) (by omega)
      exact ⟨z1.1, z1.2 (Nat.le_refl _), z2.1, z2.2 (by omega)⟩
    · intro ⟨z1, z2, z3, z4⟩ k hk
      have base : ∀ j : Nat, j ≤ l → k_v a b l j ≤ k_v a b l l := by
        intro j hj
        unfold k_v
        have e : ((j - l : Nat) : Int) = 0 := by omega
        have e2 : ((l - l : Nat) : Int) = 0 := by omega
        rw [e, e2]
        have := Int.mul_le_mul_of_nonneg_left (show (j : Int) + 1 ≤ (l : Int) + 1 by omega) (show (0 : Int) ≤ a by omega)
        omega
      rcases Nat.lt_or_ge k l with q | q
      · exact ⟨Int.le_trans (base k (by omega)) z1, fun w => absurd w (by omega)⟩
      · have l1 := k_v_lin a b l k q
        have l2 := k_v_lin a b l (t - 1) (by omega)
        rcases Int.le_total 0 ((a : Int) - b) with s | s
        · have m1 := Int.mul_nonneg s (show (0 : Int) ≤ ((k - l : Nat) : Int) by omega)
          have m2 := Int.mul_le_mul_of_nonneg_left (show ((k - l : Nat) : Int) ≤ ((t - 1 - l : Nat) : Int) by omega) s
          exact ⟨(by omega), fun _ => (by omega)⟩
        · have s2 : 0 ≤ -((a : Int) - b) := by omega
          have m1 := Int.mul_nonneg s2 (show (0 : Int) ≤ ((k - l : Nat) : Int) by omega)
          have m2 := Int.mul_le_mul_of_nonneg_left (show ((k - l : Nat) : Int) ≤ ((t - 1 - l : Nat) : Int) by omega) s2
          rw [Int.neg_mul] at m1 m2
          rw [Int.neg_mul] at m2
          exact ⟨(by omega), fun _ => (by omega)⟩
  · rw [if_neg c]
    have hv : ∀ k : Nat, k < t → k_v a b l k = (a : Int) * (k + 1) := by
      intro k hk
      unfold k_v
      have e : ((k - l : Nat) : Int) = 0 := by omega
      rw [e]
      omega
    constructor
    · intro z
      rcases Nat.eq_zero_or_pos t with q | q
      · rw [q]
        have e : ((0 : Nat) : Int) = 0 := rfl
        rw [e, Int.mul_zero]
        omega
      · have z1 := (z (t - 1) (by omega)).1
        rw [hv (t - 1) (by omega)] at z1
        have e : ((t - 1 : Nat) : Int) + 1 = t := by omega
        rw [e] at z1
        exact z1
    · intro z k hk
      refine ⟨?_, fun w => absurd w (by omega)⟩
      rw [hv k hk]
      have := Int.mul_le_mul_of_nonneg_left (show (k : Int) + 1 ≤ (t : Int) by omega) (show (0 : Int) ≤ a by omega)
      omega
theorem k_liveFails {a b h l t : Nat} (ha : a ≤ 99) (hb : b ≤ 99) (hh : h ≤ 999) (ht : t ≤ 999) (ht1 : 1 ≤ t) (hl : l ≤ 999) : ∃ e, f_X11_liveFails (Int32.ofNat a) (Int32.ofNat b) (Int32.ofNat h) (Int32.ofNat l) (Int32.ofNat t) = some e ∧ ((e = 0 ∧ ∀ k, k < t → k_okt a b h l k) ∨ (e = 1 ∧ ¬ ∀ k, k < t → k_okt a b h l k)) := by
  have en := k_ends (a := a) (b := b) (h := h) (l := l) (t := t)
  have m1 := k_mul_bd (a := (a : Int)) (b := (l : Int) + 1) (c := 99) (d := 1000) (by omega) (by omega) (by omega) (by omega)
  have m2 := k_mul_bd (a := (a : Int)) (b := (t : Int)) (c := 99) (d := 1000) (by omega) (by omega) (by omega) (by omega)
  have m3 := k_mul_bd (a := (b : Int)) (b := ((t - 1 - l : Nat) : Int)) (c := 99) (d := 1000) (by omega) (by omega) (by omega) (by omega)
  have v1 : (Int32.ofNat a * (Int32.ofNat l + 1)).toInt = (a : Int) * (l + 1) := by
    rw [j_suc, k_M, j_nat (by omega), j_nat (by omega)]
    have e : ((l + 1 : Nat) : Int) = (l : Int) + 1 := by omega
    rw [e]
    omega
  have v2 : (Int32.ofNat a * Int32.ofNat t).toInt = (a : Int) * t := by rw [k_M, j_nat (by omega), j_nat (by omega)]; omega
  unfold f_X11_liveFails
  by_cases c : l < t
  · rw [if_pos c] at en
    have w1 : k_v a b l l = (a : Int) * (l + 1) := by
      unfold k_v
      have e : ((l - l : Nat) : Int) = 0 := by omega
      rw [e]
      omega
    have w2 : k_v a b l (t - 1) = (a : Int) * t - b * ((t - 1 - l : Nat) : Int) := by
      unfold k_v
      have e : ((t - 1 : Nat) : Int) + 1 = t := by omega
      rw [e]
    have v3 : (Int32.ofNat t - 1 - Int32.ofNat l).toInt = ((t - 1 - l : Nat) : Int) := by rw [k_S, j_pred t (by omega), j_nat (by omega)]; omega
    have v4 : (Int32.ofNat b * (Int32.ofNat t - 1 - Int32.ofNat l)).toInt = (b : Int) * ((t - 1 - l : Nat) : Int) := by rw [k_M, v3, j_nat (by omega)]; omega
    have v5 : (Int32.ofNat a * Int32.ofNat t - Int32.ofNat b * (Int32.ofNat t - 1 - Int32.ofNat l)).toInt = (a : Int) * t - b * ((t - 1 - l : Nat) : Int) := by rw [k_S, v2, v4]; omega
    rw [w1, w2] at en
    rw [if_pos (by rw [j_lt, j_nat (by omega), j_nat (by omega)]; omega)]
    by_cases c1 : (h : Int) < (a : Int) * (l + 1)
    · rw [if_pos (by rw [j_lt, v1, j_nat (by omega)]; exact c1)]
      exact ⟨1, rfl, Or.inr ⟨rfl, fun z => by have := en.mp z; omega⟩⟩
    · rw [if_neg (by rw [j_lt, v1, j_nat (by omega)]; exact c1)]
      by_cases c2 : (a : Int) * (l + 1) < b
      · rw [if_pos (by rw [j_lt, v1, j_nat (by omega)]; exact c2)]
        exact ⟨1, rfl, Or.inr ⟨rfl, fun z => by have := en.mp z; omega⟩⟩
      · rw [if_neg (by rw [j_lt, v1, j_nat (by omega)]; exact c2)]
        by_cases c3 : (h : Int) < (a : Int) * t - b * ((t - 1 - l : Nat) : Int)
        · rw [if_pos (by rw [j_lt, v5, j_nat (by omega)]; exact c3)]
          exact ⟨1, rfl, Or.inr ⟨rfl, fun z => by have := en.mp z; omega⟩⟩
        · rw [if_neg (by rw [j_lt, v5, j_nat (by omega)]; exact c3)]
          by_cases c4 : (b : Int) ≤ (a : Int) * t - b * ((t - 1 - l : Nat) : Int)
          · rw [if_pos (by rw [j_le, v5, j_nat (by omega)]; exact c4)]
            exact ⟨0, rfl, Or.inl ⟨rfl, en.mpr ⟨(by omega), (by omega), (by omega), (by omega)⟩⟩⟩
          · rw [if_neg (by rw [j_le, v5, j_nat (by omega)]; exact c4)]
            exact ⟨1, rfl, Or.inr ⟨rfl, fun z => by have := en.mp z; omega⟩⟩
  · rw [if_neg c] at en
    rw [if_neg (by rw [j_lt, j_nat (by omega), j_nat (by omega)]; omega)]
    by_cases c1 : (a : Int) * t ≤ h
    · rw [if_pos (by rw [j_le, v2, j_nat (by omega)]; exact c1)]
      exact ⟨0, rfl, Or.inl ⟨rfl, en.mpr c1⟩⟩
    · rw [if_neg (by rw [j_le, v2, j_nat (by omega)]; exact c1)]
      exact ⟨1, rfl, Or.inr ⟨rfl, fun z => c1 (en.mp z)⟩⟩
theorem k_isBuf (h t : Int32) : f_X11_isBuffer h t = some (if (1 ≤ h.toInt ∧ h.toInt ≤ 999) ∧ (1 ≤ t.toInt ∧ t.toInt ≤ 999) then 1 else 0) := by
  have e1 : (1 : Int32).toInt = 1 := rfl
  have e999 : (999 : Int32).toInt = 999 := rfl
  unfold f_X11_isBuffer
  rw [k_cwithin, e1, e999, Option.bind_some]
  by_cases c1 : 1 ≤ h.toInt ∧ h.toInt ≤ 999
  · rw [if_pos c1, if_neg k_10, k_cwithin, e1, e999, Option.bind_some]
    by_cases c2 : 1 ≤ t.toInt ∧ t.toInt ≤ 999
    · rw [if_pos c2, if_neg k_10, if_pos ⟨c1, c2⟩]
    · rw [if_neg c2, if_pos rfl, if_neg (fun z => c2 z.2)]
  · rw [if_neg c1, if_pos rfl, if_neg (fun z => c1 z.1)]
theorem k_isStr (a : Int32) : f_X11_isStream a = some (if 0 ≤ a.toInt ∧ a.toInt ≤ 99 then 1 else 0) := by
  have e0 : (0 : Int32).toInt = 0 := rfl
  have e99 : (99 : Int32).toInt = 99 := rfl
  unfold f_X11_isStream
  rw [k_cwithin, e0, e99, Option.bind_some]
theorem k_isLive (a b h t : Int32) : f_X12_isLive a b h t = some (if (0 ≤ a.toInt ∧ a.toInt ≤ 99) ∧ (0 ≤ b.toInt ∧ b.toInt ≤ 99) ∧ (1 ≤ h.toInt ∧ h.toInt ≤ 999) ∧ (1 ≤ t.toInt ∧ t.toInt ≤ 999) then 1 else 0) := by
  have e0 : (0 : Int32).toInt = 0 := rfl
  have e1 : (1 : Int32).toInt = 1 := rfl
  have e99 : (99 : Int32).toInt = 99 := rfl
  have e999 : (999 : Int32).toInt = 999 := rfl
  unfold f_X12_isLive
  rw [k_in, e0, e99, Option.bind_some]
  by_cases c1 : 0 ≤ a.toInt ∧ a.toInt ≤ 99
  · rw [if_pos c1, if_neg k_10, k_in, e0, e99, Option.bind_some]
    by_cases c2 : 0 ≤ b.toInt ∧ b.toInt ≤ 99
    · rw [if_pos c2, if_neg k_10, k_in, e1, e999, Option.bind_some]
      by_cases c3 : 1 ≤ h.toInt ∧ h.toInt ≤ 999
      · rw [if_pos c3, if_neg k_10, k_in, e1, e999, Option.bind_some]
        by_cases c4 : 1 ≤ t.toInt ∧ t.toInt ≤ 999
        · rw [if_pos c4, if_neg k_10, if_pos ⟨c1, c2, c3, c4⟩]
        · rw [if_neg c4, if_pos rfl, if_neg (fun z => c4 z.2.2.2)]
      · rw [if_neg c3, if_pos rfl, if_neg (fun z => c3 z.2.2.1)]
    · rw [if_neg c2, if_pos rfl, if_neg (fun z => c2 z.2.1)]
  · rw [if_neg c1, if_pos rfl, if_neg (fun z => c1 z.1)]
theorem k_natOf {a : Int32} {lo hi : Nat} (h : (lo : Int) ≤ a.toInt ∧ a.toInt ≤ hi) : ∃ n : Nat, a = Int32.ofNat n ∧ lo ≤ n ∧ n ≤ hi := ⟨a.toInt.toNat, j_of (by omega), (by omega), (by omega)⟩
theorem op_live {D E : am_D} (h : k_Q D E) (a b c d e : Int32) : k_opE D E (k_lf D (f_X11_live a b c d e)) (f_X12_live a b c d e E) ["java/lang/IllegalArgumentException"] := by
  obtain ⟨E0, hE0, t0, f0, q0⟩ := k_start h
  have e0 : (0 : Int32).toInt = 0 := rfl
  have e999 : (999 : Int32).toInt = 999 := rfl
  by_cases cc : ((0 ≤ a.toInt ∧ a.toInt ≤ 99) ∧ (0 ≤ b.toInt ∧ b.toInt ≤ 99) ∧ (1 ≤ c.toInt ∧ c.toInt ≤ 999) ∧ (1 ≤ e.toInt ∧ e.toInt ≤ 999)) ∧ (0 ≤ d.toInt ∧ d.toInt ≤ 999)
  · have cls : f_X11_live a b c d e = am_b2 (f_X11_live_L49 a b c d e am_fu (0 : Int32) (0 : Int32)) (fun e24 => some (.inr e24)) (fun e25 => some (.inr (-1 : Int32))) := by
      unfold f_X11_live
      rw [k_isStr, Option.bind_some, if_pos cc.1.1, if_neg k_10, k_isStr, Option.bind_some, if_pos cc.1.2.1, if_neg k_10, k_isBuf, Option.bind_some, if_pos cc.1.2.2, if_neg k_10, k_cwithin, e0, e999, Option.bind_some, if_pos cc.2, if_neg k_10, Option.bind_some]
      rfl
    have ref : f_X12_live a b c d e E = (f_X12_fails a b c d e).bind fun x15 => some (x15, E0) := by
      unfold f_X12_live
      rw [Option.bind_some, ← hE0, k_isLive, Option.bind_some, if_pos cc.1, if_neg k_10, k_in, e0, e999, Option.bind_some, if_pos cc.2, if_neg k_10, Option.bind_some, k_b0 t0, Option.bind_some, if_pos rfl]
    obtain ⟨a', rfl, _, ha⟩ := k_natOf (lo := 0) (hi := 99) cc.1.1
    obtain ⟨b', rfl, _, hb⟩ := k_natOf (lo := 0) (hi := 99) cc.1.2.1
    obtain ⟨c', rfl, _, hc⟩ := k_natOf (lo := 1) (hi := 999) cc.1.2.2.1
    obtain ⟨e', rfl, _, he⟩ := k_natOf (lo := 1) (hi := 999) cc.1.2.2.2
    obtain ⟨d', rfl, _, hd⟩ := k_natOf (lo := 0) (hi := 999) cc.2
    rw [cls, ref]
    rcases k_liveL ha hb hc he hd with ⟨k, _, k1, k2, _⟩ | ⟨k1, k2, _⟩
    · rw [k1, k2]
      exact k_valE _ q0 t0 f0 (k_fc_refl D) rfl rfl
    · rw [k1, k2]
      exact k_valE _ q0 t0 f0 (k_fc_refl D) rfl rfl
  · have clsF : f_X11_live a b c d e = some (.inl "java/lang/IllegalArgumentException") := by
      unfold f_X11_live
      rw [k_isStr, Option.bind_some]
      by_cases c1 : 0 ≤ a.toInt ∧ a.toInt ≤ 99
      · rw [if_pos c1, if_neg k_10, k_isStr, Option.bind_some]
        by_cases c2 : 0 ≤ b.toInt ∧ b.toInt ≤ 99
        · rw [if_pos c2, if_neg k_10, k_isBuf, Option.bind_some]
          by_cases c3 : (1 ≤ c.toInt ∧ c.toInt ≤ 999) ∧ (1 ≤ e.toInt ∧ e.toInt ≤ 999)
          · rw [if_pos c3, if_neg k_10, k_cwithin, e0, e999, Option.bind_some, if_neg (fun z => cc ⟨⟨c1, c2, c3.1, c3.2⟩, z⟩), if_pos rfl, Option.bind_some]
            rfl
          · rw [if_neg c3, if_pos rfl, Option.bind_some]
            rfl
        · rw [if_neg c2, if_pos rfl, Option.bind_some]
          rfl
      · rw [if_neg c1, if_pos rfl, Option.bind_some]
        rfl
    have refF : f_X12_live a b c d e E = some (0, am_wI E0 117 0 1) := by
      unfold f_X12_live
      rw [Option.bind_some, ← hE0, k_isLive, Option.bind_some]
      by_cases c1 : (0 ≤ a.toInt ∧ a.toInt ≤ 99) ∧ (0 ≤ b.toInt ∧ b.toInt ≤ 99) ∧ (1 ≤ c.toInt ∧ c.toInt ≤ 999) ∧ (1 ≤ e.toInt ∧ e.toInt ≤ 999)
      · rw [if_pos c1, if_neg k_10, k_in, e0, e999, Option.bind_some, if_neg (fun z => cc ⟨c1, z⟩), if_pos rfl, Option.bind_some, k_b1 t0 1 k_10, Option.bind_some, if_neg k_10]
      · rw [if_neg c1, if_pos rfl, Option.bind_some, k_b1 t0 1 k_10, Option.bind_some, if_neg k_10]
    rw [clsF, refF]
    exact k_refE 0 0 _ q0 f0 (k_fc_refl D) rfl rfl rfl
/-- all of so many fail not -/
def k_oks (a b1 b2 h l t : Nat) : Prop := ∀ b, b1 ≤ b → b ≤ b2 → ∀ k, k < t → k_okt a b h l k
theorem k_innerC {a b1 b2 h l t : Nat} (ha : a ≤ 99) (hb : b2 ≤ 99) (hh : h ≤ 999) (ht : t ≤ 999) (ht1 : 1 ≤ t) (hl : l ≤ 999) (hbb : b1 ≤ b2) : ∃ e, f_X11_leastLag_L16 (Int32.ofNat a) (Int32.ofNat b1) (Int32.ofNat b2) (Int32.ofNat h) (Int32.ofNat t) (Int32.ofNat l) am_fu 0 (Int32.ofNat b1) = some e ∧ ((e = 0 ∧ k_oks a b1 b2 h l t) ∨ (e = 1 ∧ ¬ k_oks a b1 b2 h l t)) := by
  have key := k_ind (P := fun fu y => b2 + 1 - y < fu → b1 ≤ y → (∀ b, b1 ≤ b → b < y → ∀ k, k < t → k_okt a b h l k) → ∃ e, f_X11_leastLag_L16 (Int32.ofNat a) (Int32.ofNat b1) (Int32.ofNat b2) (Int32.ofNat h) (Int32.ofNat t) (Int32.ofNat l) fu 0 (Int32.ofNat y) = some e ∧ ((e = 0 ∧ k_oks a b1 b2 h l t) ∨ (e = 1 ∧ ¬ k_oks a b1 b2 h l t))) (b2 + 1)
    (by
      intro fu y hy ih hf h1 h2
      obtain ⟨e, e1, e2⟩ := k_liveFails (b := y) ha (by omega) hh ht ht1 hl
      rw [f_X11_leastLag_L16, if_neg (by rw [j_lt, j_nat (by omega), j_nat (by omega)]; omega), if_pos rfl, e1, Option.bind_some, j_suc]
      rcases e2 with ⟨rfl, e3⟩ | ⟨rfl, e3⟩
      · refine ih (by omega) (by omega) fun b hb1 hb2 => ?_
        by_cases cb : b = y
        · rw [cb]; exact e3
        · exact h2 b hb1 (by omega)
      · have hbad : ¬ k_oks a b1 b2 h l t := fun z => e3 (z y h1 (by omega))
        obtain ⟨fu, rfl⟩ : ∃ z, fu = z + 1 := ⟨fu - 1, by omega⟩
        refine ⟨1, ?_, Or.inr ⟨rfl, hbad⟩⟩
        rw [f_X11_leastLag_L16]
        by_cases cy : b2 < y + 1
        · rw [if_pos (by rw [j_lt, j_nat (by omega), j_nat (by omega)]; omega)]
        · rw [if_neg (by rw [j_lt, j_nat (by omega), j_nat (by omega)]; omega), if_neg k_10]) (by
      intro fu hf h1 h2
      rw [f_X11_leastLag_L16, if_pos (by rw [j_lt, j_nat (by omega), j_nat (by omega)]; omega)]
      exact ⟨0, rfl, Or.inl ⟨rfl, fun b x1 x2 => h2 b x1 (by omega)⟩⟩) am_fu b1 (by omega) (by unfold am_fu; omega) (by unfold am_fu; omega) (Nat.le_refl _) (fun b x1 x2 => absurd x2 (by omega))
  exact key
theorem k_failsR {a b h l t : Nat} (ha : a ≤ 99) (hb : b ≤ 99) (hh : h ≤ 999) (ht : t ≤ 999) (hl : l ≤ 999) : ∃ e, f_X12_fails (Int32.ofNat a) (Int32.ofNat b) (Int32.ofNat h) (Int32.ofNat l) (Int32.ofNat t) = some e ∧ ((e = -1 ∧ ∀ k, k < t → k_okt a b h l k) ∨ (¬ e = -1 ∧ ¬ ∀ k, k < t → k_okt a b h l k)) := by
  rcases k_liveL ha hb hh ht hl with ⟨k, k0, _, k2, k3⟩ | ⟨_, k2, k3⟩
  · exact ⟨_, k2, Or.inr ⟨k_neg1 (by omega), fun z => k3 (z k k0)⟩⟩
  · exact ⟨_, k2, Or.inl ⟨rfl, k3⟩⟩
theorem k_innerR {a b1 b2 h l t : Nat} (ha : a ≤ 99) (hb : b2 ≤ 99) (hh : h ≤ 999) (ht : t ≤ 999) (hl : l ≤ 999) (hbb : b1 ≤ b2) : ∃ e, f_X12_lags_L58 (Int32.ofNat a) (Int32.ofNat b1) (Int32.ofNat b2) (Int32.ofNat h) (Int32.ofNat t) (Int32.ofNat l) am_fu 1 (Int32.ofNat b1) = some e ∧ ((e = 1 ∧ k_oks a b1 b2 h l t) ∨ (e = 0 ∧ ¬ k_oks a b1 b2 h l t)) := by
  have key := k_ind (P := fun fu y => b1 ≤ y → ∀ v, ((v = 1 ∧ ∀ b, b1 ≤ b → b < y → ∀ k, k < t → k_okt a b h l k) ∨ (v = 0 ∧ ¬ k_oks a b1 b2 h l t)) → ∃ e, f_X12_lags_L58 (Int32.ofNat a) (Int32.ofNat b1) (Int32.ofNat b2) (Int32.ofNat h) (Int32.ofNat t) (Int32.ofNat l) fu v (Int32.ofNat y) = some e ∧ ((e = 1 ∧ k_oks a b1 b2 h l t) ∨ (e = 0 ∧ ¬ k_oks a b1 b2 h l t))) (b2 + 1)
    (by
      intro fu y hy ih h1 v hv
      rw [f_X12_lags_L58, if_neg (by rw [j_lt, j_nat (by omega), j_nat (by omega)]; omega)]
      rcases hv with ⟨rfl, h2⟩ | ⟨rfl, h2⟩
      · obtain ⟨e, e1, e2⟩ := k_failsR (b := y) ha (by omega) hh ht hl
        rw [if_neg k_10, e1, Option.bind_some]
        rcases e2 with ⟨rfl, e3⟩ | ⟨e4, e3⟩
        · rw [if_pos rfl, Option.bind_some, j_suc]
          refine ih (by omega) _ (Or.inl ⟨rfl, fun b hb1 hb2 => ?_⟩)
          by_cases cb : b = y
          · rw [cb]; exact e3
          · exact h2 b hb1 (by omega)
        · rw [if_neg e4, Option.bind_some, j_suc]
          exact ih (by omega) _ (Or.inr ⟨rfl, fun z => e3 (z y h1 (by omega))⟩)
      · rw [if_pos rfl, Option.bind_some, j_suc]
        exact ih (by omega) _ (Or.inr ⟨rfl, h2⟩)) (by
      intro fu h1 v hv
      rw [f_X12_lags_L58, if_pos (by rw [j_lt, j_nat (by omega), j_nat (by omega)]; omega)]
      refine ⟨v, rfl, ?_⟩
      rcases hv with ⟨rfl, h2⟩ | ⟨rfl, h2⟩
      · exact Or.inl ⟨rfl, fun b x1 x2 => h2 b x1 (by omega)⟩
      · exact Or.inr ⟨rfl, h2⟩) am_fu b1 (by omega) (by unfold am_fu; omega) (Nat.le_refl _) 1 (Or.inl ⟨rfl, fun b x1 x2 => absurd x2 (by omega)⟩)
  exact key
theorem k_oks1 {a b h l t : Nat} : k_oks a b b h l t ↔ ∀ k, k < t → k_okt a b h l k := ⟨fun z => z b (Nat.le_refl _) (Nat.le_refl _), fun z b' h1 h2 => by
  have e : b' = b := by omega
  rw [e]
  exact z⟩
/-- the least lag, on both sides: R is the reference's way of seeking -/
theorem k_leastLag {a b1 b2 h t : Nat} (ha : a ≤ 99) (hb : b2 ≤ 99) (hh : h ≤ 999) (ht : t ≤ 999) (ht1 : 1 ≤ t) (hbb : b1 ≤ b2) : ∃ v, f_X11_leastLag (Int32.ofNat a) (Int32.ofNat b1) (Int32.ofNat b2) (Int32.ofNat h) (Int32.ofNat t) = some v ∧
    (∀ E0 : am_D, am_b2 (f_X12_lags_L45 (Int32.ofNat a) (Int32.ofNat b1) (Int32.ofNat b2) (Int32.ofNat h) (Int32.ofNat t) am_fu 0) (fun e => some (e, E0)) (fun _ => some (-1, E0)) = some (v, E0)) ∧
    (b1 = b2 → ∀ E0 : am_D, am_b2 (f_X12_lag_L34 (Int32.ofNat a) (Int32.ofNat b1) (Int32.ofNat h) (Int32.ofNat t) am_fu 0) (fun e => some (e, E0)) (fun _ => some (-1, E0)) = some (v, E0)) := by
  have e99 : (99 : Int32).toInt = 99 := rfl
  have e100 : (100 : Int32).toInt = 100 := rfl
  have key := k_ind (P := fun fu y => ∃ o : Int32 ⊕ Unit, f_X11_leastLag_L3 (Int32.ofNat a) (Int32.ofNat b1) (Int32.ofNat b2) (Int32.ofNat h) (Int32.ofNat t) fu (Int32.ofNat y) = some o ∧ f_X12_lags_L45 (Int32.ofNat a) (Int32.ofNat b1) (Int32.ofNat b2) (Int32.ofNat h) (Int32.ofNat t) fu (Int32.ofNat y) = some o ∧ (b1 = b2 → f_X12_lag_L34 (Int32.ofNat a) (Int32.ofNat b1) (Int32.ofNat h) (Int32.ofNat t) fu (Int32.ofNat y) = some o)) 100
    (by
      intro fu y hy ih
      have c1 : ¬ (99 : Int32) < Int32.ofNat y := by rw [j_lt, e99, j_nat (by omega)]; omega
      have c2 : ¬ (100 : Int32) ≤ Int32.ofNat y := by rw [j_le, e100, j_nat (by omega)]; omega
      obtain ⟨e, x1, x2⟩ := k_innerC (l := y) ha hb hh ht ht1 (by omega) hbb
      obtain ⟨e', y1, y2⟩ := k_innerR (l := y) ha hb hh ht (by omega) hbb
      obtain ⟨e'', z1, z2⟩ := k_failsR (b := b1) (l := y) ha (by omega) hh ht (by omega)
      by_cases hok : k_oks a b1 b2 h y t
      · have q1 : e = 0 := by
          rcases x2 with z | z
          · exact z.1
          · exact absurd hok z.2
        have q2 : e' = 1 := by
          rcases y2 with z | z
          · exact z.1
          · exact absurd hok z.2
        refine ⟨.inl (Int32.ofNat y), ?_, ?_, fun hb12 => ?_⟩
        · rw [f_X11_leastLag_L3, if_neg c1, x1, Option.bind_some, if_pos q1]
        · rw [f_X12_lags_L45, if_neg c2, y1, Option.bind_some, q2, if_neg k_10]
        · have q3 : e'' = -1 := by
            rcases z2 with z | z
            · exact z.1
            · rw [← hb12] at hok
              exact absurd (k_oks1.mp hok) z.2
          rw [f_X12_lag_L34, if_neg c2, z1, Option.bind_some, if_pos q3]
      · have q1 : e = 1 := by
          rcases x2 with z | z
          · exact absurd z.2 hok
          · exact z.1
        have q2 : e' = 0 := by
          rcases y2 with z | z
          · exact absurd z.2 hok
          · exact z.1
        obtain ⟨o, o1, o2, o3⟩ := ih
        refine ⟨o, ?_, ?_, fun hb12 => ?_⟩
        · rw [f_X11_leastLag_L3, if_neg c1, x1, Option.bind_some, q1, if_neg k_10, j_suc]
          exact o1
        · rw [f_X12_lags_L45, if_neg c2, y1, Option.bind_some, q2, if_pos rfl, j_suc]
          exact o2
        · have q3 : ¬ e'' = -1 := by
            rcases z2 with z | z
            · rw [← hb12] at hok
              exact absurd (k_oks1.mpr z.2) hok
            · exact z.1
          rw [f_X12_lag_L34, if_neg c2, z1, Option.bind_some, if_neg q3, j_suc]
          exact o3 hb12) (by
      intro fu
      refine ⟨.inr (), ?_, ?_, fun _ => ?_⟩
      · rw [f_X11_leastLag_L3, if_pos (by rw [j_lt, e99, j_nat (by omega)]; omega)]
      · rw [f_X12_lags_L45, if_pos (by rw [j_le, e100, j_nat (by omega)]; omega)]
      · rw [f_X12_lag_L34, if_pos (by rw [j_le, e100, j_nat (by omega)]; omega)]) am_fu 0 (by omega) (by unfold am_fu; omega)
  obtain ⟨o, o1, o2, o3⟩ := key
  have o1 : f_X11_leastLag_L3 (Int32.ofNat a) (Int32.ofNat b1) (Int32.ofNat b2) (Int32.ofNat h) (Int32.ofNat t) am_fu (0 : Int32) = some o := o1
  have o2 : f_X12_lags_L45 (Int32.ofNat a) (Int32.ofNat b1) (Int32.ofNat b2) (Int32.ofNat h) (Int32.ofNat t) am_fu (0 : Int32) = some o := o2
  unfold f_X11_leastLag
  rw [o1, o2]
  rcases o with v | u
  · refine ⟨v, rfl, fun E0 => rfl, fun hb12 E0 => ?_⟩
    have o3 : f_X12_lag_L34 (Int32.ofNat a) (Int32.ofNat b1) (Int32.ofNat h) (Int32.ofNat t) am_fu (0 : Int32) = _ := o3 hb12
    rw [o3]
    rfl
  · refine ⟨-1, rfl, fun E0 => rfl, fun hb12 E0 => ?_⟩
    have o3 : f_X12_lag_L34 (Int32.ofNat a) (Int32.ofNat b1) (Int32.ofNat h) (Int32.ofNat t) am_fu (0 : Int32) = _ := o3 hb12
    rw [o3]
    rfl
theorem op_lag {D E : am_D} (h : k_Q D E) (a b c e : Int32) : k_opE D E (k_lf D (f_X11_lag a b c e)) (f_X12_lag a b c e E) ["java/lang/IllegalArgumentException"] := by
  obtain ⟨E0, hE0, t0, f0, q0⟩ := k_start h
  by_cases cc : (0 ≤ a.toInt ∧ a.toInt ≤ 99) ∧ (0 ≤ b.toInt ∧ b.toInt ≤ 99) ∧ (1 ≤ c.toInt ∧ c.toInt ≤ 999) ∧ (1 ≤ e.toInt ∧ e.toInt ≤ 999)
  · have cls : f_X11_lag a b c e = (f_X11_leastLag a b b c e).bind fun x15 => some (.inr x15) := by
      unfold f_X11_lag
      rw [k_isStr, Option.bind_some, if_pos cc.1, if_neg k_10, k_isStr, Option.bind_some, if_pos cc.2.1, if_neg k_10, k_isBuf, Option.bind_some, if_pos cc.2.2, if_neg k_10, Option.bind_some]
      rfl
    have ref : f_X12_lag a b c e E = am_b2 (f_X12_lag_L34 a b c e am_fu (0 : Int32)) (fun e15 => some (e15, E0)) (fun e16 => some ((-1 : Int32), E0)) := by
      unfold f_X12_lag
      rw [Option.bind_some, ← hE0, k_isLive, Option.bind_some, if_pos cc, k_nT E0 1 t0, if_pos rfl]
    obtain ⟨a', rfl, _, ha⟩ := k_natOf (lo := 0) (hi := 99) cc.1
    obtain ⟨b', rfl, _, hb⟩ := k_natOf (lo := 0) (hi := 99) cc.2.1
    obtain ⟨c', rfl, _, hc⟩ := k_natOf (lo := 1) (hi := 999) cc.2.2.1
    obtain ⟨e', rfl, he1, he⟩ := k_natOf (lo := 1) (hi := 999) cc.2.2.2
    obtain ⟨v, v1, v2, v3⟩ := k_leastLag ha hb hc he he1 (Nat.le_refl b')
    rw [cls, ref, v1, v3 rfl E0, Option.bind_some]
    exact k_valE _ q0 t0 f0 (k_fc_refl D) rfl rfl
  · have clsF : f_X11_lag a b c e = some (.inl "java/lang/IllegalArgumentException") := by
      unfold f_X11_lag
      rw [k_isStr, Option.bind_some]
      by_cases c1 : 0 ≤ a.toInt ∧ a.toInt ≤ 99
      · rw [if_pos c1, if_neg k_10, k_isStr, Option.bind_some]
        by_cases c2 : 0 ≤ b.toInt ∧ b.toInt ≤ 99
        · rw [if_pos c2, if_neg k_10, k_isBuf, Option.bind_some, if_neg (fun z => cc ⟨c1, c2, z⟩), if_pos rfl, Option.bind_some]
          rfl
        · rw [if_neg c2, if_pos rfl, Option.bind_some]
          rfl
      · rw [if_neg c1, if_pos rfl, Option.bind_some]
        rfl
    have refF : f_X12_lag a b c e E = some (0, am_wI E0 117 0 1) := by
      unfold f_X12_lag
      rw [Option.bind_some, ← hE0, k_isLive, Option.bind_some, if_neg cc, k_nF E0 1 k_10 t0, if_neg k_10]
    rw [clsF, refF]
    exact k_refE 0 0 _ q0 f0 (k_fc_refl D) rfl rfl rfl
theorem op_lags {D E : am_D} (h : k_Q D E) (a b d c e : Int32) : k_opE D E (k_lf D (f_X11_lags a b d c e)) (f_X12_lags a b d c e E) ["java/lang/IllegalArgumentException"] := by
  obtain ⟨E0, hE0, t0, f0, q0⟩ := k_start h
  have e99 : (99 : Int32).toInt = 99 := rfl
  by_cases cc : ((0 ≤ a.toInt ∧ a.toInt ≤ 99) ∧ (0 ≤ b.toInt ∧ b.toInt ≤ 99) ∧ (1 ≤ c.toInt ∧ c.toInt ≤ 999) ∧ (1 ≤ e.toInt ∧ e.toInt ≤ 999)) ∧ (b.toInt ≤ d.toInt ∧ d.toInt ≤ 99)
  · have cls : f_X11_lags a b d c e = (f_X11_leastLag a b d c e).bind fun x19 => some (.inr x19) := by
      unfold f_X11_lags
      rw [k_isStr, Option.bind_some, if_pos cc.1.1, if_neg k_10, k_isStr, Option.bind_some, if_pos cc.1.2.1, if_neg k_10, k_isStr, Option.bind_some, if_pos (show 0 ≤ d.toInt ∧ d.toInt ≤ 99 by omega), if_neg k_10, if_neg (by rw [j_lt]; omega), k_isBuf, Option.bind_some, if_pos cc.1.2.2, if_neg k_10, Option.bind_some]
      rfl
    have ref : f_X12_lags a b d c e E = am_b2 (f_X12_lags_L45 a b d c e am_fu (0 : Int32)) (fun e26 => some (e26, E0)) (fun e27 => some ((-1 : Int32), E0)) := by
      unfold f_X12_lags
      rw [Option.bind_some, ← hE0, k_isLive, Option.bind_some, if_pos cc.1, if_neg k_10, k_in, e99, Option.bind_some, if_pos cc.2, if_neg k_10, Option.bind_some, k_b0 t0, Option.bind_some, if_pos rfl]
    obtain ⟨a', rfl, _, ha⟩ := k_natOf (lo := 0) (hi := 99) cc.1.1
    obtain ⟨d', rfl, _, hd⟩ := k_natOf (a := d) (lo := 0) (hi := 99) (by omega)
    obtain ⟨b', rfl, _, hb⟩ := k_natOf (lo := 0) (hi := 99) cc.1.2.1
    obtain ⟨c', rfl, _, hc⟩ := k_natOf (lo := 1) (hi := 999) cc.1.2.2.1
    obtain ⟨e', rfl, he1, he⟩ := k_natOf (lo := 1) (hi := 999) cc.1.2.2.2
    have hbd := cc.2.1
    rw [j_nat (by omega), j_nat (by omega)] at hbd
    obtain ⟨v, v1, v2, v3⟩ := k_leastLag (b1 := b') (b2 := d') ha hd hc he he1 (by omega)
    rw [cls, ref, v1, v2 E0, Option.bind_some]
    exact k_valE _ q0 t0 f0 (k_fc_refl D) rfl rfl
  · have clsF : f_X11_lags a b d c e = some (.inl "java/lang/IllegalArgumentException") := by
      unfold f_X11_lags
      rw [k_isStr, Option.bind_some]
      by_cases c1 : 0 ≤ a.toInt ∧ a.toInt ≤ 99
      · rw [if_pos c1, if_neg k_10, k_isStr, Option.bind_some]
        by_cases c2 : 0 ≤ b.toInt ∧ b.toInt ≤ 99
        · rw [if_pos c2, if_neg k_10, k_isStr, Option.bind_some]
          by_cases c3 : 0 ≤ d.toInt ∧ d.toInt ≤ 99
          · rw [if_pos c3, if_neg k_10]
            by_cases c4 : d < b
            · rw [if_pos c4, Option.bind_some]
              rfl
            · rw [if_neg c4, k_isBuf, Option.bind_some, if_neg (fun z => cc ⟨⟨c1, c2, z⟩, by rw [j_lt] at c4; omega⟩), if_pos rfl, Option.bind_some]
              rfl
          · rw [if_neg c3, if_pos rfl, Option.bind_some]
            rfl
        · rw [if_neg c2, if_pos rfl, Option.bind_some]
          rfl
      · rw [if_neg c1, if_pos rfl, Option.bind_some]
        rfl
    have refF : f_X12_lags a b d c e E = some (0, am_wI E0 117 0 1) := by
      unfold f_X12_lags
      rw [Option.bind_some, ← hE0, k_isLive, Option.bind_some]
      by_cases c1 : (0 ≤ a.toInt ∧ a.toInt ≤ 99) ∧ (0 ≤ b.toInt ∧ b.toInt ≤ 99) ∧ (1 ≤ c.toInt ∧ c.toInt ≤ 999) ∧ (1 ≤ e.toInt ∧ e.toInt ≤ 999)
      · rw [if_pos c1, if_neg k_10, k_in, e99, Option.bind_some, if_neg (fun z => cc ⟨c1, z⟩), if_pos rfl, Option.bind_some, k_b1 t0 1 k_10, Option.bind_some, if_neg k_10]
      · rw [if_neg c1, if_pos rfl, Option.bind_some, k_b1 t0 1 k_10, Option.bind_some, if_neg k_10]
    rw [clsF, refF]
    exact k_refE 0 0 _ q0 f0 (k_fc_refl D) rfl rfl rfl
