/-! place and where, on both sides -/
/-- the marks of the reference -/
def k_fm (E : am_D) (n : Nat) (f t : Int → Int32) : Prop := E.1 117 37 = Int32.ofNat n ∧ ∀ k : Nat, k ≤ n → E.1 223 (2 * k) = f ((k : Int) - 1) ∧ E.1 223 (2 * k + 1) = t ((k : Int) - 1)
theorem k_tl {n : Nat} {f t : Int → Int32} (h : k_mv n f t) : 1 ≤ (t ((n : Int) - 1)).toInt ∧ (t ((n : Int) - 1)).toInt ≤ 1200 := by
  have h0 := h.1
  have a1 := h.2.2.2.2.1 (n - 1) (by omega)
  have a2 := k_mv_bd h (n - 1) (by omega)
  have a3 := k_mv_bd h n (Nat.le_refl _)
  have e : ((n - 1 : Nat) : Int) = (n : Int) - 1 := by omega
  rw [e] at a1 a2
  omega
theorem k_cplace {D : am_D} {r n : Nat} {f t : Int → Int32} (h : j_map D r n f t) (hv : k_mv n f t) (q : Int32) : f_X9_placeOf r q D = some (k_pc n f t q) := by
  have hn := h.1
  have hq := k_R q
  unfold f_X9_placeOf
  by_cases c0 : 0 ≤ q
  · have c1 : 0 ≤ q.toInt := by
      have := (j_le 0 q).mp c0
      exact this
    rw [if_pos c0]
    have key := k_ind (P := fun fu k => (∀ j : Nat, j < k → (t j).toInt ≤ q.toInt) → f_X9_placeOf_L8 r q D fu (Int32.ofNat k) = some (if k_fi t q n < n then .inl (Int32.ofNat (k_fi t q n)) else .inr ())) n
      (by
        intro fu k hk ih hj
        have c2 : ¬ Int32.ofNat n ≤ Int32.ofNat k := by simp only [j_le, k_N]; omega
        rw [f_X9_placeOf_L8, h.2.1, if_neg c2, j_map_to h, j_nat (by omega)]
        show (if t k ≤ q then _ else _) = _
        by_cases c3 : t k ≤ q
        · rw [if_pos c3, j_suc]
          refine ih fun j h1 => ?_
          by_cases e : j = k
          · rw [e]
            exact (j_le _ _).mp c3
          · exact hj j (by omega)
        · rw [if_neg c3]
          have e : k_fi t q n = k := k_fi_un (by omega) hj (fun _ => by
            rw [j_le] at c3
            omega)
          rw [e, if_pos hk]) (by
        intro fu hj
        have e : k_fi t q n = n := k_fi_un (by omega) hj (fun z => absurd z (by omega))
        rw [f_X9_placeOf_L8, h.2.1, if_pos (Int32.le_refl _), e, if_neg (by omega)]) am_fu 0 (by omega) (by unfold am_fu; omega) (by omega)
    have key2 : f_X9_placeOf_L8 r q D am_fu (0 : Int32) = _ := key
    rw [key2]
    unfold k_pc
    by_cases c : k_fi t q n < n
    · rw [if_pos c, if_pos ⟨c1, c⟩]
      have e1 : (Int32.ofNat (k_fi t q n) - 1).toInt = (k_fi t q n : Nat) - 1 := by simp only [k_S, k_N, Int32.reduceToInt]; omega
      have e2 : (Int32.ofNat (k_fi t q n)).toInt = (k_fi t q n : Nat) := by rw [k_N]; omega
      show ((f_X9_from r (Int32.ofNat (k_fi t q n) - 1) D).bind _) = _
      rw [j_map_from h, j_map_to h, j_map_from h, j_map_to h, e1, e2]
      have hs := (hv.2.2.2.2.1 _ c).2
      have hb := k_mv_bd hv (k_fi t q n) (by omega)
      have hb2 := k_mv_bd hv (k_fi t q n + 1) c
      have e : ((k_fi t q n + 1 : Nat) : Int) - 1 = (k_fi t q n : Nat) := by omega
      rw [e] at hb2
      simp only [Option.bind_some]
      rw [j_cut (by rw [k_S]; omega)]
      rfl
    · rw [if_neg c, if_neg (fun z => c z.2)]
      rfl
  · rw [if_neg c0]
    unfold k_pc
    rw [if_neg]
    intro z
    exact c0 ((j_le 0 q).mpr z.1)
theorem k_rlen {E : am_D} {n : Nat} {f t : Int → Int32} (h : k_fm E n f t) (hn : n ≤ 12) : f_X12_lengthNow E = some (t ((n : Int) - 1)) := by
  unfold f_X12_lengthNow
  have e : (2 : Int32) * Int32.ofNat n + 1 = Int32.ofNat (2 * n + 1) := by
    rw [j_eq]
    simp only [k_A, k_M, k_N, Int32.reduceToInt]
    omega
  rw [h.1, e, k_g (by omega) (by omega), (h.2 n (Nat.le_refl _)).2]
  rfl
theorem k_rplace {E : am_D} {n : Nat} {f t : Int → Int32} (h : k_fm E n f t) (hv : k_mv n f t) (q : Int32) : f_X12_placeNow q E = some (k_pc n f t q) := by
  have hn := hv.2.1
  have hL := k_tl hv
  unfold f_X12_placeNow
  rw [k_rlen h hn]
  simp only [Option.bind_some]
  have e1 : (t ((n : Int) - 1) - 1).toInt = (t ((n : Int) - 1)).toInt - 1 := by simp only [k_S, Int32.reduceToInt]; omega
  rw [k_in, e1]
  have hf := k_fi_lt hv q
  have e0 : (0 : Int32).toInt = 0 := rfl
  unfold k_pc
  by_cases c : 0 ≤ q.toInt ∧ k_fi t q n < n
  · rw [if_pos c, if_pos (by omega)]
    obtain ⟨g1, g2, g3⟩ := k_fi_ok t q n
    have key := k_ind (P := fun fu k => f_X12_placeNow_L18 q E fu (Int32.ofNat (2 * k + 2)) = some (Int32.ofNat (2 * k_fi t q n + 2))) (k_fi t q n)
      (by
        intro fu k hk ih
        rw [f_X12_placeNow_L18]
        have e2 : Int32.ofNat (2 * k + 2) + 1 = Int32.ofNat (2 * (k + 1) + 1) := by
          rw [j_eq]
          simp only [k_A, k_N, Int32.reduceToInt]
          omega
        have e3 : Int32.ofNat (2 * k + 2) + 2 = Int32.ofNat (2 * (k + 1) + 2) := by
          rw [j_eq]
          simp only [k_A, k_N, Int32.reduceToInt]
          omega
        rw [e2, e3, k_g (by omega) (by omega), (h.2 (k + 1) (by omega)).2]
        have e4 : ((k + 1 : Nat) : Int) - 1 = k := by omega
        have a := g2 k hk
        rw [e4]
        show (if q < t k then _ else _) = _
        rw [if_neg (by rw [j_lt]; omega)]
        exact ih) (by
        intro fu
        rw [f_X12_placeNow_L18]
        have e2 : Int32.ofNat (2 * k_fi t q n + 2) + 1 = Int32.ofNat (2 * (k_fi t q n + 1) + 1) := by
          rw [j_eq]
          simp only [k_A, k_N, Int32.reduceToInt]
          omega
        rw [e2, k_g (by omega) (by omega), (h.2 (k_fi t q n + 1) (by omega)).2]
        have e4 : ((k_fi t q n + 1 : Nat) : Int) - 1 = (k_fi t q n : Nat) := by omega
        have a := g3 c.2
        rw [e4]
        show (if q < t (k_fi t q n : Nat) then _ else _) = _
        rw [if_pos ((j_lt _ _).mpr a)]) am_fu 0 (by omega) (by unfold am_fu; omega)
    have key2 : f_X12_placeNow_L18 q E am_fu (2 : Int32) = _ := key
    have e10 : ¬ (1 : Int32) = 0 := by decide
    simp only [Option.bind_some]
    rw [if_neg e10, key2]
    simp only [Option.bind_some]
    have z1 : Int32.ofNat (2 * k_fi t q n + 2) - 2 = Int32.ofNat (2 * k_fi t q n) := by
      rw [j_eq]
      simp only [k_S, k_N, Int32.reduceToInt]
      omega
    have z2 : Int32.ofNat (2 * k_fi t q n + 2) - 1 = Int32.ofNat (2 * k_fi t q n + 1) := by
      rw [j_eq]
      simp only [k_S, k_N, Int32.reduceToInt]
      omega
    have z3 : Int32.ofNat (2 * k_fi t q n + 2) + 1 = Int32.ofNat (2 * (k_fi t q n + 1) + 1) := by
      rw [j_eq]
      simp only [k_A, k_N, Int32.reduceToInt]
      omega
    have z4 : Int32.ofNat (2 * k_fi t q n + 2) = Int32.ofNat (2 * (k_fi t q n + 1)) := by
      congr 1
    rw [z1, z2, z3, z4, k_g (by omega) (by omega), k_g (by omega) (by omega), k_g (by omega) (by omega), k_g (by omega) (by omega)]
    have a1 := h.2 (k_fi t q n) g1
    have a2 := h.2 (k_fi t q n + 1) c.2
    have e4 : ((k_fi t q n + 1 : Nat) : Int) - 1 = (k_fi t q n : Nat) := by omega
    rw [e4] at a2
    simp only [Option.bind_some]
    rw [a1.1, a1.2, a2.1, a2.2]
    have hs := (hv.2.2.2.2.1 _ c.2).2
    have hb := k_mv_bd hv (k_fi t q n) (by omega)
    have hb2 := k_mv_bd hv (k_fi t q n + 1) c.2
    rw [e4] at hb2
    unfold am_dv
    rw [if_neg (by rw [j_eq, k_S, e0]; omega)]
    rfl
  · rw [if_neg c, if_neg (by omega)]
    rfl
theorem k_dvN {x y : Nat} (hx : x < 2147483648) (hy : 0 < y) (hy2 : y < 2147483648) : Int32.ofNat x / Int32.ofNat y = Int32.ofNat (x / y) := by
  have h1 := Nat.div_le_self x y
  rw [j_eq, k_D _ _ (by rw [j_nat hy2]; omega), j_nat hx, j_nat hy2, j_nat (by omega)]
  unfold k_q
  rw [if_pos (by omega)]
  rfl
/-- where a place of the sound comes to stand -/
theorem k_where {D E : am_D} {r n : Nat} {f t : Int → Int32} (h : j_map D r n f t) (he : k_fm E n f t) (hv : k_mv n f t) (v : Int32) :
    ∃ w : Int32, f_X9_whereOf r v D = some w ∧ f_X12_whereNow v E = some w ∧ (w.toInt = -1 ∨ (0 ≤ w.toInt ∧ w.toInt < (t ((n : Int) - 1)).toInt)) := by
  have hn := h.1
  have hL := k_tl hv
  have e0 : (0 : Int32).toInt = 0 := rfl
  -- the number of the first time
  obtain ⟨L, hLn⟩ : ∃ L : Nat, (t ((n : Int) - 1)).toInt = L := ⟨(t ((n : Int) - 1)).toInt.toNat, by omega⟩
  have hLe : t ((n : Int) - 1) = Int32.ofNat L := by rw [j_eq, hLn, k_N]; omega
  have hin : ∀ k : Nat, k < 100000 → (Int32.ofNat k).toInt = k := fun k hk => by rw [k_N]; omega
  -- the reference: the first time
  have ref : ∃ i : Nat, i ≤ L ∧ (∀ j : Nat, j < i → (k_pc n f t (Int32.ofNat j)).toInt < v.toInt) ∧ (i < L → v.toInt ≤ (k_pc n f t (Int32.ofNat i)).toInt) ∧ f_X12_whereNow v E = some (if i < L then Int32.ofNat i else -1) := by
    have key := k_ind (P := fun fu k => (∀ j : Nat, j < k → (k_pc n f t (Int32.ofNat j)).toInt < v.toInt) → ∃ i : Nat, i ≤ L ∧ (∀ j : Nat, j < i → (k_pc n f t (Int32.ofNat j)).toInt < v.toInt) ∧ (i < L → v.toInt ≤ (k_pc n f t (Int32.ofNat i)).toInt) ∧ f_X12_whereNow_L2 v E fu (Int32.ofNat k) = some (if i < L then .inl (Int32.ofNat i) else .inr ())) L
      (by
        intro fu k hk ih hj
        rw [f_X12_whereNow_L2, k_rlen he hv.2.1, k_rplace he hv, hLe]
        simp only [Option.bind_some]
        rw [if_neg (by simp only [j_le, k_N]; omega)]
        by_cases c : k_pc n f t (Int32.ofNat k) < v
        · rw [if_pos c, j_suc]
          refine ih fun j hj2 => ?_
          by_cases e : j = k
          · rw [e]
            exact (j_lt _ _).mp c
          · exact hj j (by omega)
        · rw [if_neg c]
          refine ⟨k, by omega, hj, fun _ => ?_, by rw [if_pos hk]⟩
          rw [j_lt] at c
          omega) (by
        intro fu hj
        rw [f_X12_whereNow_L2, k_rlen he hv.2.1, hLe]
        simp only [Option.bind_some]
        rw [if_pos (Int32.le_refl _)]
        exact ⟨L, Nat.le_refl _, hj, fun z => absurd z (by omega), by rw [if_neg (by omega)]⟩) am_fu 0 (by omega) (by unfold am_fu; omega) (by omega)
    obtain ⟨i, g1, g2, g3, g4⟩ := key
    refine ⟨i, g1, g2, g3, ?_⟩
    unfold f_X12_whereNow
    have g4 : f_X12_whereNow_L2 v E am_fu (0 : Int32) = _ := g4
    rw [g4]
    by_cases c : i < L
    · rw [if_pos c, if_pos c]; rfl
    · rw [if_neg c, if_neg c]; rfl
  obtain ⟨i, g1, g2, g3, g4⟩ := ref
  have cls : ∀ b fu turn lo hi : Nat, lo ≤ hi → hi ≤ L → hi - lo < 2 ^ b → turn + b ≤ 20 → b < fu → (∀ j : Nat, j < lo → (k_pc n f t (Int32.ofNat j)).toInt < v.toInt) → (hi < L → v.toInt ≤ (k_pc n f t (Int32.ofNat hi)).toInt) → f_X9_whereOf_L10 r v D fu (Int32.ofNat lo) (Int32.ofNat hi) (Int32.ofNat turn) = some (Int32.ofNat i) := by
    intro b
    induction b with
    | zero =>
      intro fu turn lo hi q1 q2 q3 q4 q5 q6 q7
      obtain ⟨fu, rfl⟩ : ∃ z, fu = z + 1 := ⟨fu - 1, by omega⟩
      have e : lo = hi := by omega
      subst e
      rw [f_X9_whereOf_L10, if_pos (Int32.le_refl _)]
      have e : lo = i := by
        rcases Nat.lt_trichotomy lo i with c | c | c
        · have a1 := g2 lo c
          have a2 := q7 (by omega)
          omega
        · exact c
        · have a1 := q6 i c
          have a2 := g3 (by omega)
          omega
      rw [e]
    | succ b ih =>
      intro fu turn lo hi q1 q2 q3 q4 q5 q6 q7
      obtain ⟨fu, rfl⟩ : ∃ z, fu = z + 1 := ⟨fu - 1, by omega⟩
      rw [f_X9_whereOf_L10]
      by_cases c : hi ≤ lo
      · have e : lo = hi := by omega
        subst e
        rw [if_pos (Int32.le_refl _)]
        have e : lo = i := by
          rcases Nat.lt_trichotomy lo i with c | c | c
          · have a1 := g2 lo c
            have a2 := q7 (by omega)
            omega
          · exact c
          · have a1 := q6 i c
            have a2 := g3 (by omega)
            omega
        rw [e]
      · have p2 : 2 ^ (b + 1) = 2 * 2 ^ b := by rw [Nat.pow_succ]; omega
        have m1 : (Int32.ofNat lo + Int32.ofNat hi) / 2 = Int32.ofNat ((lo + hi) / 2) := by
          rw [← Int32.ofNat_add]
          exact k_dvN (y := 2) (by omega) (by omega) (by omega)
        have c32 : (32 : Int32).toInt = 32 := rfl
        rw [if_neg (by simp only [j_le, k_N]; omega), if_neg (by rw [j_le, k_N, c32]; omega), m1, k_cplace h hv]
        simp only [Option.bind_some]
        by_cases c2 : k_pc n f t (Int32.ofNat ((lo + hi) / 2)) < v
        · rw [if_pos c2]
          simp only [Option.bind_some, j_suc]
          refine ih fu (turn + 1) ((lo + hi) / 2 + 1) hi (by omega) q2 (by omega) (by omega) (by omega) (fun j hj => ?_) q7
          have mo := k_pc_mono hv (Int32.ofNat j) (Int32.ofNat ((lo + hi) / 2)) (by rw [hin _ (by omega)]; omega) (by rw [hin _ (by omega), hin _ (by omega)]; omega) (by rw [hin _ (by omega), hLn]; omega)
          rw [j_lt] at c2
          omega
        · rw [if_neg c2]
          simp only [Option.bind_some, j_suc]
          refine ih fu (turn + 1) lo ((lo + hi) / 2) (by omega) (by omega) (by omega) (by omega) (by omega) q6 (fun _ => ?_)
          rw [j_lt] at c2
          omega
  have cl := cls 11 am_fu 0 0 L (by omega) (Nat.le_refl _) (by omega) (by omega) (by unfold am_fu; omega) (fun j hj => absurd hj (by omega)) (fun z => absurd z (by omega))
  have cl : f_X9_whereOf_L10 r v D am_fu (0 : Int32) (Int32.ofNat L) (0 : Int32) = _ := cl
  refine ⟨if i < L then Int32.ofNat i else -1, ?_, g4, ?_⟩
  · unfold f_X9_whereOf
    rw [j_map_lastTo h, hLe]
    simp only [Option.bind_some]
    rw [cl]
    simp only [Option.bind_some]
    by_cases c : i < L
    · rw [if_pos c, if_neg (by simp only [j_le, k_N]; omega)]
    · rw [if_neg c, if_pos (by simp only [j_le, k_N]; omega)]
  · by_cases c : i < L
    · rw [if_pos c, hin i (by omega)]
      omega
    · rw [if_neg c]
      exact Or.inl rfl
