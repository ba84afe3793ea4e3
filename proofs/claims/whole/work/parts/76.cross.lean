/-! crossings, on both sides -/
def k_cr (D E : am_D) (n c : Nat) (pos : Nat → Nat) : Prop := c ≤ 300 ∧ D.1 112 1 = Int32.ofNat c ∧ ∀ j, j < c → D.1 113 j = Int32.ofNat (pos j) ∧ E.1 2631 j = Int32.ofNat (pos j) ∧ 1 ≤ pos j ∧ pos j < n ∧ ∀ i, i < j → pos i < pos j
/-- what the finding of crossings may change -/
def k_fx (D D2 : am_D) : Prop := (∀ y, y ≠ 112 → y ≠ 113 → D2.1 y = D.1 y) ∧ D2.2 = D.2
def k_fy (E E2 : am_D) : Prop := (∀ y, y ≠ 2631 → E2.1 y = E.1 y) ∧ E2.2 = E.2
theorem k_cfind {D E : am_D} {p i n : Nat} {f : Int → Int32} (h : j_row D p n f) (e139 : E.1 139 i = Int32.ofNat n) (he : k_arr E (134 + i) n f) (hi : i < 5) (hn : n ≤ 600) (hn1 : 1 ≤ n) (hp : p + 1 < 112) :
    ∃ D2 E2 c pos, f_X2_find p D = some D2 ∧ f_X12_findCrossings (Int32.ofNat i) E = some (Int32.ofNat c, E2) ∧ k_cr D2 E2 n c pos ∧ k_fx D D2 ∧ k_fy E E2 := by
  have e0 : (0 : Int32).toInt = 0 := rfl
  have e300 : (300 : Int32).toInt = 300 := rfl
  have key := k_ind (P := fun fu k => 1 ≤ k → ∀ (D1 E1 : am_D) (c : Nat) (pos : Nat → Nat), k_fx D D1 → k_fy E E1 → k_cr D1 E1 n c pos → (∀ j, j < c → pos j < k ∧ 2 * j + 1 ≤ pos j ∧ ¬ f (pos j) < 0) →
      ∃ D2 E2 c2 pos2, f_X2_find_L7 p fu (Int32.ofNat k) D1 = some D2 ∧ f_X12_findCrossings_L4 (Int32.ofNat i) fu (Int32.ofNat c) (Int32.ofNat k) E1 = some (Int32.ofNat c2, E2) ∧ k_cr D2 E2 n c2 pos2 ∧ k_fx D D2 ∧ k_fy E E2) n
    (by
      intro fu k hk ih hk1 D1 E1 c pos f1 f2 hb hq
      have hrow : j_row D1 p n f := j_row_fr h (f1.1 p (by omega) (by omega)) (f1.1 (p + 1) (by omega) (by omega))
      have harr : k_arr E1 (134 + i) n f := k_arr_by he (f2.1 _ (by omega))
      have n139 : E1.1 139 i = Int32.ofNat n := by rw [f2.1 139 (by omega)]; exact e139
      have hc0 := hb.1
      have hnk : ¬ Int32.ofNat n ≤ Int32.ofNat k := by rw [j_le, j_nat (by omega), j_nat (by omega)]; omega
      have ek : (Int32.ofNat k - 1).toInt = (k : Int) - 1 := j_pred k (by omega)
      have ek2 : Int32.ofNat k - 1 = Int32.ofNat (k - 1) := by
        rw [j_eq, ek, j_nat (by omega)]; omega
      have ef : f ((k : Int) - 1) = f (k - 1 : Nat) := by congr 1; omega
      obtain ⟨isc, hisc⟩ : ∃ isc : Prop, isc = (¬ f k < 0 ∧ f ((k : Int) - 1) < 0) := ⟨_, rfl⟩
      have hcl : isc → c < 300 := by
        intro z
        rw [hisc] at z
        by_cases cz : c = 0
        · omega
        · have q := hq (c - 1) (by omega)
          have q2 : pos (c - 1) ≠ k - 1 := by
            intro e
            rw [e] at q
            rw [← ef] at q
            exact q.2.2 z.2
          omega
      have hcY : isc → f_X2_find_L7 p (fu + 1) (Int32.ofNat k) D1 = f_X2_find_L7 p fu (Int32.ofNat (k + 1)) (am_wI (am_wI D1 113 c (Int32.ofNat k)) 112 1 (Int32.ofNat (c + 1))) := by
        intro z
        have hc3 := hcl z
        rw [hisc] at z
        rw [f_X2_find_L7, hrow.2.2.1, if_neg hnk, j_row_at hrow, j_nat (by omega), Option.bind_some, if_neg z.1, j_row_at hrow, ek, Option.bind_some, if_neg (by rw [j_le, e0]; have := (j_lt _ _).mp z.2; rw [e0] at this; omega), hb.2.1, if_neg (by rw [j_le, j_nat (by omega), e300]; omega), k_p _ hc3 (by omega), Option.bind_some, j_wI_ne _ _ _ (by decide), hb.2.1, j_suc, Option.bind_some, Option.bind_some, j_suc]
      have hcN : ¬ isc → f_X2_find_L7 p (fu + 1) (Int32.ofNat k) D1 = f_X2_find_L7 p fu (Int32.ofNat (k + 1)) D1 := by
        intro z
        rw [hisc] at z
        rw [f_X2_find_L7, hrow.2.2.1, if_neg hnk, j_row_at hrow, j_nat (by omega), Option.bind_some]
        by_cases c1 : f k < 0
        · rw [if_pos c1, Option.bind_some, j_suc]
        · rw [if_neg c1, j_row_at hrow, ek, Option.bind_some]
          by_cases c2 : f ((k : Int) - 1) < 0
          · exact absurd ⟨c1, c2⟩ z
          · rw [if_pos (by rw [j_le, e0]; rw [j_lt, e0] at c2; omega), Option.bind_some, j_suc]
      have hrY : isc → f_X12_findCrossings_L4 (Int32.ofNat i) (fu + 1) (Int32.ofNat c) (Int32.ofNat k) E1 = f_X12_findCrossings_L4 (Int32.ofNat i) fu (Int32.ofNat (c + 1)) (Int32.ofNat (k + 1)) (am_wI E1 2631 c (Int32.ofNat k)) := by
        intro z
        have hc3 := hcl z
        rw [hisc] at z
        rw [f_X12_findCrossings_L4, k_g hi (by omega), n139, Option.bind_some, if_neg hnk, k_a hi (by omega), Option.bind_some, k_g (by omega) (by omega), harr k hk, Option.bind_some, if_neg z.1, Option.bind_some, ek2, k_g (by omega) (by omega), harr (k - 1) (by omega), Option.bind_some, ← ef, if_pos z.2, k_p _ (by omega) (by omega), Option.bind_some, Option.bind_some, j_suc, j_suc]
      have hrN : ¬ isc → f_X12_findCrossings_L4 (Int32.ofNat i) (fu + 1) (Int32.ofNat c) (Int32.ofNat k) E1 = f_X12_findCrossings_L4 (Int32.ofNat i) fu (Int32.ofNat c) (Int32.ofNat (k + 1)) E1 := by
        intro z
        rw [hisc] at z
        rw [f_X12_findCrossings_L4, k_g hi (by omega), n139, Option.bind_some, if_neg hnk, k_a hi (by omega), Option.bind_some, k_g (by omega) (by omega), harr k hk, Option.bind_some]
        by_cases c1 : f k < 0
        · rw [if_pos c1, Option.bind_some, j_suc]
        · rw [if_neg c1, Option.bind_some, ek2, k_g (by omega) (by omega), harr (k - 1) (by omega), Option.bind_some, ← ef]
          by_cases c2 : f ((k : Int) - 1) < 0
          · exact absurd ⟨c1, c2⟩ z
          · rw [if_neg c2, Option.bind_some, j_suc]
      by_cases cc : isc
      · have hc3 := hcl cc
        rw [hcY cc, hrY cc]
        rw [hisc] at cc
        refine ih (by omega) _ _ (c + 1) (fun j => if j = c then k else pos j) ⟨fun y h1 h2 => by rw [j_wI_ne _ _ _ h1, j_wI_ne _ _ _ h2]; exact f1.1 y h1 h2, f1.2⟩ ⟨fun y hy => by rw [j_wI_ne _ _ _ hy]; exact f2.1 y hy, f2.2⟩ ⟨(by omega), by rw [k_ws], fun j hj => ?_⟩ (fun j hj => ?_)
        · rw [j_wI_ne _ _ _ (by decide), j_wI_at, j_wI_at]
          dsimp only
          by_cases cj : j = c
          · rw [if_pos cj, if_pos cj, if_pos cj]
            refine ⟨rfl, rfl, hk1, hk, fun i hi => ?_⟩
            rw [if_neg (by omega)]
            exact (hq i (by omega)).1
          · rw [if_neg cj, if_neg cj, if_neg cj]
            obtain ⟨r1, r2, r3, r4, r5⟩ := hb.2.2 j (by omega)
            refine ⟨r1, r2, r3, r4, fun i hi => ?_⟩
            rw [if_neg (by omega)]
            exact r5 i hi
        · by_cases cj : j = c
          · rw [if_pos cj]
            refine ⟨(by omega), ?_, cc.1⟩
            by_cases cz : c = 0
            · omega
            · have q := hq (c - 1) (by omega)
              have q2 : pos (c - 1) ≠ k - 1 := by
                intro e
                rw [e] at q
                rw [← ef] at q
                exact q.2.2 cc.2
              omega
          · rw [if_neg cj]
            have q := hq j (by omega)
            exact ⟨(by omega), q.2.1, q.2.2⟩
      · rw [hcN cc, hrN cc]
        exact ih (by omega) D1 E1 c pos f1 f2 hb (fun j hj => ⟨Nat.lt_succ_of_lt (hq j hj).1, (hq j hj).2⟩)) (by
      intro fu hk1 D1 E1 c pos f1 f2 hb hq
      have hrow : j_row D1 p n f := j_row_fr h (f1.1 p (by omega) (by omega)) (f1.1 (p + 1) (by omega) (by omega))
      have n139 : E1.1 139 i = Int32.ofNat n := by rw [f2.1 139 (by omega)]; exact e139
      rw [f_X2_find_L7, f_X12_findCrossings_L4, hrow.2.2.1, if_pos (Int32.le_refl _), k_g hi (by omega), n139, Option.bind_some, if_pos (Int32.le_refl _)]
      exact ⟨D1, E1, c, pos, rfl, rfl, hb, f1, f2⟩) am_fu 1 (by omega) (by unfold am_fu; omega) (Nat.le_refl _) (am_wI D 112 1 0) E 0 (fun _ => 0) ⟨fun y h1 _ => j_wI_ne _ _ _ h1, rfl⟩ ⟨fun _ _ => rfl, rfl⟩ ⟨(by omega), by rw [k_ws]; rfl, fun j hj => absurd hj (by omega)⟩ (fun j hj => absurd hj (by omega))
  obtain ⟨D2, E2, c, pos, k1, k2, k3⟩ := key
  refine ⟨D2, E2, c, pos, ?_, ?_, k3⟩
  · unfold f_X2_find
    have k1 : f_X2_find_L7 p am_fu (1 : Int32) (am_wI D 112 1 0) = some D2 := k1
    rw [Option.bind_some, k1, Option.bind_some]
  · unfold f_X12_findCrossings
    have k2 : f_X12_findCrossings_L4 (Int32.ofNat i) am_fu (0 : Int32) (1 : Int32) E = _ := k2
    rw [k2, Option.bind_some]
theorem k_crat {D E : am_D} {n c : Nat} {pos : Nat → Nat} (h : k_cr D E n c pos) (k : Int32) : f_X2_at k D = some (if 0 ≤ k.toInt ∧ k.toInt < c then Int32.ofNat (pos k.toInt.toNat) else -1) := by
  have e0 : (0 : Int32).toInt = 0 := rfl
  have e300 : (300 : Int32).toInt = 300 := rfl
  obtain ⟨h1, h2, h3⟩ := h
  unfold f_X2_at
  rw [h2]
  by_cases c1 : k < 0
  · rw [if_pos c1, if_neg (by rw [j_lt, e0] at c1; omega)]
  · rw [if_neg c1]
    rw [j_lt, e0] at c1
    by_cases c2 : k.toInt < c
    · rw [if_neg (by rw [j_le, j_nat (by omega)]; omega), if_neg (by rw [j_le, e300]; omega), j_gI (by omega) (by omega), if_pos (by omega), (h3 _ (by omega)).1]
      rfl
    · rw [if_pos (by rw [j_le, j_nat (by omega)]; omega), if_neg (by omega)]
theorem k_cratN {D E : am_D} {n c : Nat} {pos : Nat → Nat} (h : k_cr D E n c pos) {k : Nat} (hk : k < c) : f_X2_at (Int32.ofNat k) D = some (Int32.ofNat (pos k)) := by
  have hc := h.1
  have q := k_crat h (Int32.ofNat k)
  rw [j_nat (by omega), if_pos (by omega)] at q
  have e : ((k : Nat) : Int).toNat = k := by omega
  rw [e] at q
  exact q
theorem k_intervals {D E : am_D} {n c : Nat} {pos : Nat → Nat} (h : k_cr D E n c pos) : f_X2_intervals D = some (Int32.ofNat (c - 1)) := by
  have hc := h.1
  unfold f_X2_intervals
  rw [h.2.1]
  congr 1
  have e0 : (0 : Int32).toInt = 0 := rfl
  rw [j_eq, j_mx, j_pred c (by omega), j_nat (by omega), e0]
  omega
/-- the period in hundredths -/
def k_per (c : Nat) (pos : Nat → Nat) : Int32 := if 2 ≤ c then (100 * (Int32.ofNat (pos (c - 1)) - Int32.ofNat (pos 0))) / Int32.ofNat (c - 1) else -1
theorem k_across {D E : am_D} {n c : Nat} {pos : Nat → Nat} (h : k_cr D E n c pos) (hc2 : 1 ≤ c) : f_X2_across D = some (Int32.ofNat (pos (c - 1)) - Int32.ofNat (pos 0)) := by
  have hc := h.1
  unfold f_X2_across
  have e1 : Int32.ofNat c - 1 = Int32.ofNat (c - 1) := by rw [j_eq, j_pred c (by omega), j_nat (by omega)]; omega
  have e2 : f_X2_at (0 : Int32) D = some (Int32.ofNat (pos 0)) := k_cratN h (k := 0) (by omega)
  rw [h.2.1, e1, k_cratN h (by omega), Option.bind_some, e2, Option.bind_some]
theorem k_hundredths {D E : am_D} {n c : Nat} {pos : Nat → Nat} (h : k_cr D E n c pos) : f_X2_hundredths D = some (k_per c pos) := by
  have hc := h.1
  have e0 : (0 : Int32).toInt = 0 := rfl
  unfold f_X2_hundredths k_per
  rw [k_intervals h, Option.bind_some]
  by_cases c2 : 2 ≤ c
  · rw [if_pos c2, if_neg (by rw [j_eq, j_nat (by omega), e0]; omega), k_across h (by omega), Option.bind_some, Option.bind_some, j_cut (by rw [j_nat (by omega)]; omega), Option.bind_some]
  · have e : c - 1 = 0 := by omega
    rw [if_neg c2, e, if_pos (show Int32.ofNat 0 = 0 from rfl)]
theorem k_periodOf {D E E2 : am_D} {i n c : Nat} {pos : Nat → Nat} (hf : f_X12_findCrossings (Int32.ofNat i) E = some (Int32.ofNat c, E2)) (h : k_cr D E2 n c pos) : f_X12_periodOf (Int32.ofNat i) E = some (k_per c pos, E2) := by
  have hc := h.1
  have e2 : (2 : Int32).toInt = 2 := rfl
  have e0 : (0 : Int32).toInt = 0 := rfl
  unfold f_X12_periodOf k_per
  rw [hf, Option.bind_some]
  dsimp only
  by_cases c2 : 2 ≤ c
  · have e1 : Int32.ofNat c - 1 = Int32.ofNat (c - 1) := by rw [j_eq, j_pred c (by omega), j_nat (by omega)]; omega
    have g0 : am_gI E2 2631 600 (0 : Int32) = some (E2.1 2631 0) := k_g (k := 0) (by omega) (by omega)
    have dv : am_dv (100 * (Int32.ofNat (pos (c - 1)) - Int32.ofNat (pos 0))) (Int32.ofNat (c - 1)) = some ((100 * (Int32.ofNat (pos (c - 1)) - Int32.ofNat (pos 0))) / Int32.ofNat (c - 1)) := by
      unfold am_dv
      rw [if_neg (by rw [j_eq, j_nat (by omega), e0]; omega)]
    rw [if_pos c2, if_pos (by rw [j_le, j_nat (by omega), e2]; omega), e1, k_g (by omega) (by omega), (h.2.2 (c - 1) (by omega)).2.1, Option.bind_some, g0, (h.2.2 0 (by omega)).2.1, Option.bind_some, dv, Option.bind_some]
  · rw [if_neg c2, if_neg (by rw [j_le, j_nat (by omega), e2]; omega)]
theorem k_Q_x {D E D2 E2 : am_D} (h : k_Q D E) (hD : k_fx D D2) (hE : k_fy E E2) : k_Q D2 E2 := k_Q_sc h (fun y h1 h2 => hD.1 y (by omega) (by omega)) ⟨fun y hy => hE.1 y (by omega), fun j hj => by rw [hE.1 117 (by omega)], fun y _ => ⟨by rw [hE.1 221 (by omega)], by rw [hE.1 222 (by omega)]⟩, fun y _ => by rw [hE.1 223 (by omega)], fun q _ hq k y hk _ => by rw [hE.1 _ (by omega)]⟩
theorem k_valX {α : Type} {D E E0 D2 E2 : am_D} {o1 : Option ((String × am_D) ⊕ (α × am_D))} {o2 : Option (α × am_D)} {ex : List String} (v : α) (q0 : k_Q D E0) (t0 : E0.1 117 0 = 0) (f0 : k_fr E E0) (f1 : k_fx D D2) (f2 : k_fy E0 E2) (h1 : o1 = some (.inr (v, D2))) (h2 : o2 = some (v, E2)) : k_opE D E o1 o2 ex :=
  k_valE v (k_Q_x q0 f1 f2) (by rw [f2.1 117 (by omega)]; exact t0) (k_fr_trans f0 (fun y hy => ⟨f2.1 y (by omega), by rw [f2.2]⟩)) (fun y hy => ⟨f1.1 y (by omega) (by omega), by rw [f1.2]⟩) h1 h2
theorem op_crossing {D E : am_D} (h : k_Q D E) (p k : Int32) : k_opE D E (f_X11_crossing p k D) (f_X12_crossing p k E) ["java/util/NoSuchElementException"] := by
  obtain ⟨E0, hE0, t0, f0, q0⟩ := k_start h
  have q0' := q0
  obtain ⟨ns, nm, nw, np, nh, ni, h1, h2, h3, h4, h5, h6, h7, h8, h9⟩ := q0'

  have hns := h1.1
  by_cases c : 0 ≤ p.toInt ∧ p.toInt < ns
  · obtain ⟨i, rfl, hi⟩ := k_ix c
    obtain ⟨n, g, b1, b2, b3, b4, b5, b6⟩ := h1.2.2.2 i hi
    obtain ⟨D2, E2, cc, pos, d1, d2, d3, d4, d5⟩ := k_cfind b3 b4 b5 (by omega) b2 b1 (by omega)
    have hcc := d3.1
    have cls : f_X11_crossing (Int32.ofNat i) k D = some (.inr (if 0 ≤ k.toInt ∧ k.toInt < cc then Int32.ofNat (pos k.toInt.toNat) else -1, D2)) := by
      unfold f_X11_crossing
      rw [k_soT h1.2.1 h1.1 hi, k_btR, d1, Option.bind_some, k_crat d3, Option.bind_some]
    have ref : f_X12_crossing (Int32.ofNat i) k E = some (if 0 ≤ k.toInt ∧ k.toInt < cc then Int32.ofNat (pos k.toInt.toNat) else -1, E2) := by
      unfold f_X12_crossing
      rw [Option.bind_some, ← hE0, k_isS _ h1.2.2.1 h1.1, Option.bind_some, if_pos c, k_nT E0 1 t0, if_pos rfl]
      dsimp only
      rw [d2, Option.bind_some]
      dsimp only
      rw [k_inN k (by omega), Option.bind_some]
      by_cases c2 : 0 ≤ k.toInt ∧ k.toInt < cc
      · rw [if_pos c2, if_pos c2, if_neg k_10, j_gI (by omega) (by omega), (d3.2.2 _ (by omega)).2.1]
        rfl
      · rw [if_neg c2, if_neg c2, if_pos rfl]
    rw [cls, ref]
    exact k_valX _ q0 t0 f0 d4 d5 rfl rfl
  · unfold f_X12_crossing f_X11_crossing
    rw [k_soF h1.2.1 h1.1 c, k_btL, Option.bind_some, ← hE0, k_isS _ h1.2.2.1 h1.1, Option.bind_some, if_neg c, k_nF E0 1 k_10 t0, if_neg k_10]
    exact k_refE 0 0 _ q0 f0 (k_fc_refl D) rfl rfl rfl
theorem op_period {D E : am_D} (h : k_Q D E) (p : Int32) : k_opE D E (f_X11_period p D) (f_X12_period p E) ["java/util/NoSuchElementException"] := by
  obtain ⟨E0, hE0, t0, f0, q0⟩ := k_start h
  have q0' := q0
  obtain ⟨ns, nm, nw, np, nh, ni, h1, h2, h3, h4, h5, h6, h7, h8, h9⟩ := q0'

  have hns := h1.1
  by_cases c : 0 ≤ p.toInt ∧ p.toInt < ns
  · obtain ⟨i, rfl, hi⟩ := k_ix c
    obtain ⟨n, g, b1, b2, b3, b4, b5, b6⟩ := h1.2.2.2 i hi
    obtain ⟨D2, E2, cc, pos, d1, d2, d3, d4, d5⟩ := k_cfind b3 b4 b5 (by omega) b2 b1 (by omega)
    have cls : f_X11_period (Int32.ofNat i) D = some (.inr (k_per cc pos, D2)) := by
      unfold f_X11_period
      rw [k_soT h1.2.1 h1.1 hi, k_btR, d1, Option.bind_some, k_hundredths d3, Option.bind_some]
    have ref : f_X12_period (Int32.ofNat i) E = some (k_per cc pos, E2) := by
      unfold f_X12_period
      rw [Option.bind_some, ← hE0, k_isS _ h1.2.2.1 h1.1, Option.bind_some, if_pos c, k_nT E0 1 t0, if_pos rfl]
      dsimp only
      rw [k_periodOf d2 d3, Option.bind_some]
    rw [cls, ref]
    exact k_valX _ q0 t0 f0 d4 d5 rfl rfl
  · unfold f_X12_period f_X11_period
    rw [k_soF h1.2.1 h1.1 c, k_btL, Option.bind_some, ← hE0, k_isS _ h1.2.2.1 h1.1, Option.bind_some, if_neg c, k_nF E0 1 k_10 t0, if_neg k_10]
    exact k_refE 0 0 _ q0 f0 (k_fc_refl D) rfl rfl rfl
theorem op_jump {D E : am_D} (h : k_Q D E) : k_opN D E (k_lv D (f_X11_jump D)) (f_X12_jump E) := by
  obtain ⟨E0, hE0, t0, f0, q0⟩ := k_start h
  have q0' := q0
  obtain ⟨ns, nm, nw, np, nh, ni, h1, h2, h3, h4, h5, h6, h7, h8, h9⟩ := q0'

  obtain ⟨L, out, q, st, a1, a2, a3, a4, a5, a6, a7, a8, a9, a10, a11, a12, a13, a14⟩ := h8
  obtain ⟨w, w1, w2⟩ := k_row_step a2 a4 0 a3 rfl
  unfold f_X12_jump f_X11_jump
  rw [Option.bind_some, w1, Option.bind_some, ← hE0, w2, Option.bind_some]
  exact ⟨D, E0, w, rfl, rfl, q0, k_fc_refl D, f0⟩
