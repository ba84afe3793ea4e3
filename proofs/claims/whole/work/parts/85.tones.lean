/-! pitch, turned sums, peaks -/
theorem k_badRow {D E0 : am_D} {ns i n : Nat} {g : Int → Int32} (a b : Int32) (t0 : E0.1 117 0 = 0) (h1 : E0.1 117 12 = Int32.ofNat ns) (hns : ns ≤ 5) (hs : k_snd D E0 i n g) (hi : i < ns) : f_X12_badRow (Int32.ofNat i) a b E0 = some (if 0 ≤ a.toInt ∧ 0 ≤ b.toInt ∧ a.toInt + b.toInt ≤ n then (0, E0) else (1, am_wI E0 117 0 2)) := by
  have hn := hs.2.1
  have e0 : (0 : Int32).toInt = 0 := rfl
  have rb := k_R b
  have ra := k_R a
  have chk : (if a < 0 then some (1 : Int32) else if b < 0 then some 1 else (am_gI E0 139 5 (Int32.ofNat i)).bind fun x12 => if x12 < a then some 1 else (am_gI E0 139 5 (Int32.ofNat i)).bind fun x15 => if b ≤ (x15 - a) then some 0 else some 1) = some (if 0 ≤ a.toInt ∧ 0 ≤ b.toInt ∧ a.toInt + b.toInt ≤ n then 0 else 1) := by
    rw [k_g (by omega) (by omega), hs.2.2.2.1, Option.bind_some, Option.bind_some]
    by_cases c1 : a < 0
    · rw [if_pos c1, if_neg (by rw [j_lt, e0] at c1; omega)]
    · rw [if_neg c1]
      rw [j_lt, e0] at c1
      by_cases c2 : b < 0
      · rw [if_pos c2, if_neg (by rw [j_lt, e0] at c2; omega)]
      · rw [if_neg c2]
        rw [j_lt, e0] at c2
        by_cases c3 : Int32.ofNat n < a
        · rw [if_pos c3, if_neg (by rw [j_lt, j_nat (by omega)] at c3; omega)]
        · rw [if_neg c3]
          rw [j_lt, j_nat (by omega)] at c3
          have e : (Int32.ofNat n - a).toInt = (n : Int) - a.toInt := by rw [k_S, j_nat (by omega)]; omega
          by_cases c4 : b.toInt ≤ (n : Int) - a.toInt
          · rw [if_pos (by rw [j_le, e]; exact c4), if_pos (by omega)]
          · rw [if_neg (by rw [j_le, e]; exact c4), if_neg (by omega)]
  unfold f_X12_badRow
  rw [k_isS _ h1 hns, Option.bind_some, if_pos (show 0 ≤ (Int32.ofNat i).toInt ∧ (Int32.ofNat i).toInt < ns by rw [j_nat (by omega)]; omega), k_nT E0 1 t0, if_pos rfl]
  dsimp only
  rw [chk, Option.bind_some]
  by_cases c : 0 ≤ a.toInt ∧ 0 ≤ b.toInt ∧ a.toInt + b.toInt ≤ n
  · rw [if_pos c, if_pos c, k_b0 t0, Option.bind_some, if_pos rfl]
  · rw [if_neg c, if_neg c, k_b1 t0 2 (by decide), Option.bind_some, if_neg k_10]
theorem k_badRowF {E0 : am_D} {ns : Nat} (p a b : Int32) (t0 : E0.1 117 0 = 0) (h1 : E0.1 117 12 = Int32.ofNat ns) (hns : ns ≤ 5) (c : ¬ (0 ≤ p.toInt ∧ p.toInt < ns)) : f_X12_badRow p a b E0 = some (1, am_wI E0 117 0 1) := by
  unfold f_X12_badRow
  rw [k_isS _ h1 hns, Option.bind_some, if_neg c, k_nF E0 1 k_10 t0, if_neg k_10]
/-- a turned sum -/
def k_tb (f : Int → Int32) (a p l : Nat) : Nat → Int32 := j_sum (fun i => if 2 * ((i + l) % p) < p then f ((a : Int) + i) else -f ((a : Int) + i))
theorem k_turnC {D : am_D} {r N a n p : Nat} {f : Int → Int32} (h : j_row D r N f) (hp : 4 ≤ p) (hp2 : p ≤ 60) (ha : a ≤ 1200) (hn : n ≤ 1200) (hr : r + 1 < 114) : ∃ D2, f_X10_turn r (Int32.ofNat p) (Int32.ofNat a) (Int32.ofNat n) D = some D2 ∧ D2.1 114 1 = k_tb f a p 0 n ∧ D2.1 114 2 = k_tb f a p (p / 4) n ∧ (∀ y, y ≠ 114 → D2.1 y = D.1 y) ∧ D2.2 = D.2 := by
  have key := k_ind (P := fun fu k => ∀ D1 : am_D, D1.1 114 1 = k_tb f a p 0 k → D1.1 114 2 = k_tb f a p (p / 4) k → (∀ y, y ≠ 114 → D1.1 y = D.1 y) → D1.2 = D.2 → ∃ D2, f_X10_turn_L13 r (Int32.ofNat p) (Int32.ofNat a) (Int32.ofNat n) fu (Int32.ofNat k) D1 = some D2 ∧ D2.1 114 1 = k_tb f a p 0 n ∧ D2.1 114 2 = k_tb f a p (p / 4) n ∧ (∀ y, y ≠ 114 → D2.1 y = D.1 y) ∧ D2.2 = D.2) n
    (by
      intro fu k hk ih D1 g1 g2 g3 g4
      have hrow : j_row D1 r N f := j_row_fr h (g3 r (by omega)) (g3 (r + 1) (by omega))
      have e0 : (0 : Int32).toInt = 0 := rfl
      have hp0 : ¬ Int32.ofNat p = 0 := by rw [j_eq, j_nat (by omega), e0]; omega
      have l1 : f_X11_left (Int32.ofNat k) (Int32.ofNat p) = some (Int32.ofNat (k % p)) := by
        unfold f_X11_left
        rw [if_neg hp0, k_rmN (by omega) (by omega) (by omega), Option.bind_some]
      have hm := Nat.mod_lt k (show 0 < p by omega)
      have q4 : Int32.ofNat p / 4 = Int32.ofNat (p / 4) := k_dvN (y := 4) (by omega) (by omega) (by omega)
      have em : (k % p + p / 4) % p = (k + p / 4) % p := Nat.mod_add_mod k p (p / 4)
      have l2 : f_X11_left (Int32.ofNat (k % p) + Int32.ofNat p / 4) (Int32.ofNat p) = some (Int32.ofNat ((k + p / 4) % p)) := by
        unfold f_X11_left
        rw [q4, ← Int32.ofNat_add, if_neg hp0, k_rmN (by omega) (by omega) (by omega), Option.bind_some, em]
      have hm2 := Nat.mod_lt (k + p / 4) (show 0 < p by omega)
      have t1 : (2 : Int32) * Int32.ofNat (k % p) = Int32.ofNat (2 * (k % p)) := (Int32.ofNat_mul 2 _).symm
      have t2 : (2 : Int32) * Int32.ofNat ((k + p / 4) % p) = Int32.ofNat (2 * ((k + p / 4) % p)) := (Int32.ofNat_mul 2 _).symm
      have ea : (Int32.ofNat a + Int32.ofNat k).toInt = (a : Int) + k := by rw [← Int32.ofNat_add, j_nat (by omega)]; omega
      have vv : ∀ z : Nat, z < p → (if Int32.ofNat p ≤ Int32.ofNat (2 * z) then some (-f ((a : Int) + k)) else some (f ((a : Int) + k))) = some (if 2 * z < p then f ((a : Int) + k) else -f ((a : Int) + k)) := by
        intro z hz
        by_cases c : 2 * z < p
        · rw [if_pos c, if_neg (by rw [j_le, j_nat (by omega), j_nat (by omega)]; omega)]
        · rw [if_neg c, if_pos (by rw [j_le, j_nat (by omega), j_nat (by omega)]; omega)]
      rw [f_X10_turn_L13, if_neg (by rw [j_le, j_nat (by omega), j_nat (by omega)]; omega), j_row_at hrow, ea, Option.bind_some, l1, Option.bind_some, l2, Option.bind_some, t1, vv _ hm, Option.bind_some, Option.bind_some, t2, vv _ hm2, Option.bind_some, Option.bind_some, j_suc]
      refine ih _ ?_ ?_ (fun y hy => by rw [j_wI_ne _ _ _ hy, j_wI_ne _ _ _ hy]; exact g3 y hy) g4
      · rw [k_wj _ _ (by decide), k_ws, g1]
        rfl
      · rw [k_ws, k_wj _ _ (by decide), g2]
        rfl) (by
      intro fu D1 g1 g2 g3 g4
      rw [f_X10_turn_L13, if_pos (Int32.le_refl _)]
      exact ⟨D1, rfl, g1, g2, g3, g4⟩) am_fu 0 (by omega) (by unfold am_fu; omega) (am_wI (am_wI D 114 1 0) 114 2 0) (by rw [k_wj _ _ (by decide), k_ws]; rfl) (by rw [k_ws]; rfl) (fun y hy => by rw [j_wI_ne _ _ _ hy, j_wI_ne _ _ _ hy]) rfl
  obtain ⟨D2, k1, k2⟩ := key
  have k1 : f_X10_turn_L13 r (Int32.ofNat p) (Int32.ofNat a) (Int32.ofNat n) am_fu (0 : Int32) (am_wI (am_wI D 114 1 0) 114 2 0) = some D2 := k1
  refine ⟨D2, ?_, k2⟩
  unfold f_X10_turn
  rw [Option.bind_some, Option.bind_some, k1, Option.bind_some]
theorem k_turnR {E : am_D} {i N a n p l : Nat} {f : Int → Int32} (hi : i < 5) (harr : k_arr E (134 + i) N f) (hN : N ≤ 600) (hp : 4 ≤ p) (hp2 : p ≤ 60) (han : a + n ≤ N) (hl : l ≤ 60) : f_X12_turnedBy (Int32.ofNat i) (Int32.ofNat p) (Int32.ofNat a) (Int32.ofNat n) (Int32.ofNat l) E = some (k_tb f a p l n) := by
  have key := k_ind (P := fun fu k => f_X12_turnedBy_L6 (Int32.ofNat i) (Int32.ofNat p) (Int32.ofNat a) (Int32.ofNat n) (Int32.ofNat l) E fu (k_tb f a p l k) (Int32.ofNat k) = some (k_tb f a p l n)) n
    (by
      intro fu k hk ih
      have hm := Nat.mod_lt (k + l) (show 0 < p by omega)
      have hh : f_X12_half (Int32.ofNat k + Int32.ofNat l) (Int32.ofNat p) = some (if 2 * ((k + l) % p) < p then 1 else -1) := by
        have t1 : (2 : Int32) * Int32.ofNat ((k + l) % p) = Int32.ofNat (2 * ((k + l) % p)) := (Int32.ofNat_mul 2 _).symm
        unfold f_X12_half
        rw [← Int32.ofNat_add, k_rmN (by omega) (by omega) (by omega), Option.bind_some, t1]
        by_cases c : 2 * ((k + l) % p) < p
        · rw [if_pos c, if_neg (by rw [j_le, j_nat (by omega), j_nat (by omega)]; omega)]
        · rw [if_neg c, if_pos (by rw [j_le, j_nat (by omega), j_nat (by omega)]; omega)]
      have hg : am_gI E (134 + i) 600 (Int32.ofNat a + Int32.ofNat k) = some (f ((a : Int) + k)) := by
        rw [← Int32.ofNat_add, k_g (by omega) (by omega), harr _ (by omega)]
        congr 2
      rw [f_X12_turnedBy_L6, if_neg (by rw [j_le, j_nat (by omega), j_nat (by omega)]; omega), hh, Option.bind_some, k_a hi (by omega), Option.bind_some, hg, Option.bind_some, j_suc]
      have e : k_tb f a p l k + (if 2 * ((k + l) % p) < p then 1 else -1) * f ((a : Int) + k) = k_tb f a p l (k + 1) := by
        show _ = k_tb f a p l k + (if 2 * ((k + l) % p) < p then f ((a : Int) + k) else -f ((a : Int) + k))
        by_cases c : 2 * ((k + l) % p) < p
        · rw [if_pos c, if_pos c, Int32.one_mul]
        · rw [if_neg c, if_neg c]
          congr 1
          grind
      rw [e]
      exact ih) (by
      intro fu
      rw [f_X12_turnedBy_L6, if_pos (Int32.le_refl _)]) am_fu 0 (by omega) (by unfold am_fu; omega)
  unfold f_X12_turnedBy
  have key : f_X12_turnedBy_L6 (Int32.ofNat i) (Int32.ofNat p) (Int32.ofNat a) (Int32.ofNat n) (Int32.ofNat l) E am_fu (0 : Int32) (0 : Int32) = _ := key
  rw [key, Option.bind_some]
def k_str (x y : Int32) : Int64 := ((Int32.toInt64 x) * (Int32.toInt64 x)) + ((Int32.toInt64 y) * (Int32.toInt64 y))
/-- the strengths of all, on both sides -/
def k_S64 (f : Int → Int32) (a n p : Nat) : Int64 := k_str (k_tb f a p 0 n) (k_tb f a p (p / 4) n)
theorem k_turnAll {D E : am_D} {i N a n : Nat} {f : Int → Int32} (hs : k_snd D E i N f) (hi : i < 5) (han : a + n ≤ N) : ∃ D2 E2, f_X10_turnAll (30 + 2 * i) (Int32.ofNat a) (Int32.ofNat n) D = some D2 ∧ f_X12_findStrengths (Int32.ofNat i) (Int32.ofNat a) (Int32.ofNat n) E = some E2 ∧ (∀ p, 4 ≤ p → p ≤ 60 → D2.2 115 p = k_S64 f a n p ∧ E2.2 2632 p = k_S64 f a n p) ∧
    (∀ y, y ≠ 114 → D2.1 y = D.1 y) ∧ (∀ y, y ≠ 115 → D2.2 y = D.2 y) ∧ E2.1 = E.1 ∧ (∀ y, y ≠ 2632 → E2.2 y = E.2 y) := by
  obtain ⟨s1, s2, s3, s4, s5, s6⟩ := hs
  have e60 : (60 : Int32).toInt = 60 := rfl
  have wl : ∀ (X : am_D) (z j k : Nat) (v : Int64), (am_wL X z j v).2 z k = if k = j then v else X.2 z k := fun X z j k v => congrFun (am_up2_at X.2 z j v) k
  have wn : ∀ (X : am_D) (z x j : Nat) (v : Int64), x ≠ z → (am_wL X z j v).2 x = X.2 x := fun X z x j v hx => am_up2_ne X.2 j v hx
  have key := k_ind (P := fun fu k => 4 ≤ k → ∀ D1 E1 : am_D, (∀ p, 4 ≤ p → p < k → D1.2 115 p = k_S64 f a n p ∧ E1.2 2632 p = k_S64 f a n p) → (∀ y, y ≠ 114 → D1.1 y = D.1 y) → (∀ y, y ≠ 115 → D1.2 y = D.2 y) → E1.1 = E.1 → (∀ y, y ≠ 2632 → E1.2 y = E.2 y) →
      ∃ D2 E2, f_X10_turnAll_L3 (30 + 2 * i) (Int32.ofNat a) (Int32.ofNat n) fu (Int32.ofNat k) D1 = some D2 ∧ f_X12_findStrengths_L3 (Int32.ofNat i) (Int32.ofNat a) (Int32.ofNat n) fu (Int32.ofNat k) E1 = some E2 ∧ (∀ p, 4 ≤ p → p ≤ 60 → D2.2 115 p = k_S64 f a n p ∧ E2.2 2632 p = k_S64 f a n p) ∧ (∀ y, y ≠ 114 → D2.1 y = D.1 y) ∧ (∀ y, y ≠ 115 → D2.2 y = D.2 y) ∧ E2.1 = E.1 ∧ (∀ y, y ≠ 2632 → E2.2 y = E.2 y)) 61
    (by
      intro fu k hk ih h4 D1 E1 g1 g2 g3 g4 g5
      have c1 : ¬ (60 : Int32) < Int32.ofNat k := by rw [j_lt, e60, j_nat (by omega)]; omega
      obtain ⟨D2, d1, d2, d3, d4, d5⟩ := k_turnC (D := D1) (p := k) (a := a) (n := n) (j_row_fr s3 (g2 _ (by omega)) (g2 _ (by omega))) h4 (by omega) (by omega) (by omega) (by omega)
      have harr : k_arr E1 (134 + i) N f := k_arr_by s5 (by rw [g4])
      have q4 : Int32.ofNat k / 4 = Int32.ofNat (k / 4) := k_dvN (y := 4) (by omega) (by omega) (by omega)
      have hst : f_X12_strengthOf (Int32.ofNat i) (Int32.ofNat k) (Int32.ofNat a) (Int32.ofNat n) E1 = some (k_S64 f a n k) := by
        have r0 : f_X12_turnedBy (Int32.ofNat i) (Int32.ofNat k) (Int32.ofNat a) (Int32.ofNat n) (0 : Int32) E1 = some (k_tb f a k 0 n) := k_turnR (l := 0) hi harr s2 h4 (by omega) han (by omega)
        unfold f_X12_strengthOf
        rw [r0, Option.bind_some, q4, k_turnR (l := k / 4) hi harr s2 h4 (by omega) han (by omega), Option.bind_some]
        rfl
      have hcs : f_X10_strength D2 = some (k_S64 f a n k) := by
        unfold f_X10_strength
        rw [d2, d3]
        rfl
      have hc : f_X10_turnAll_L3 (30 + 2 * i) (Int32.ofNat a) (Int32.ofNat n) (fu + 1) (Int32.ofNat k) D1 = f_X10_turnAll_L3 (30 + 2 * i) (Int32.ofNat a) (Int32.ofNat n) fu (Int32.ofNat (k + 1)) (am_wL D2 115 k (k_S64 f a n k)) := by
        rw [f_X10_turnAll_L3, if_neg c1, d1, Option.bind_some, hcs, Option.bind_some, k_pl _ (by omega) (by omega), Option.bind_some, j_suc]
      have hr : f_X12_findStrengths_L3 (Int32.ofNat i) (Int32.ofNat a) (Int32.ofNat n) (fu + 1) (Int32.ofNat k) E1 = f_X12_findStrengths_L3 (Int32.ofNat i) (Int32.ofNat a) (Int32.ofNat n) fu (Int32.ofNat (k + 1)) (am_wL E1 2632 k (k_S64 f a n k)) := by
        rw [f_X12_findStrengths_L3, if_neg c1, hst, Option.bind_some, k_pl _ (by omega) (by omega), Option.bind_some, j_suc]
      rw [hc, hr]
      refine ih (by omega) _ _ (fun p hp hp2 => ?_) (fun y hy => (d4 y hy).trans (g2 y hy)) (fun y hy => by rw [wn _ _ _ _ _ hy, d5]; exact g3 y hy) g4 (fun y hy => by rw [wn _ _ _ _ _ hy]; exact g5 y hy)
      rw [wl, wl]
      by_cases c : p = k
      · rw [if_pos c, if_pos c, c]; exact ⟨rfl, rfl⟩
      · rw [if_neg c, if_neg c, d5]
        exact g1 p hp (by omega)) (by
      intro fu h4 D1 E1 g1 g2 g3 g4 g5
      have c1 : (60 : Int32) < Int32.ofNat 61 := by decide
      rw [f_X10_turnAll_L3, f_X12_findStrengths_L3, if_pos c1, if_pos c1]
      exact ⟨D1, E1, rfl, rfl, fun p hp hp2 => g1 p hp (by omega), g2, g3, g4, g5⟩) am_fu 4 (by omega) (by unfold am_fu; omega) (Nat.le_refl _) D E (fun p h1 h2 => absurd h2 (by omega)) (fun _ _ => rfl) (fun _ _ => rfl) rfl (fun _ _ => rfl)
  obtain ⟨D2, E2, k1, k2, k3⟩ := key
  have k1 : f_X10_turnAll_L3 (30 + 2 * i) (Int32.ofNat a) (Int32.ofNat n) am_fu (4 : Int32) D = some D2 := k1
  have k2 : f_X12_findStrengths_L3 (Int32.ofNat i) (Int32.ofNat a) (Int32.ofNat n) am_fu (4 : Int32) E = some E2 := k2
  refine ⟨D2, E2, ?_, ?_, k3⟩
  · unfold f_X10_turnAll
    rw [k1, Option.bind_some]
  · unfold f_X12_findStrengths
    rw [k2, Option.bind_some]
/-- the strengths lie on both sides -/
def k_ss (D E : am_D) (S : Nat → Int64) : Prop := ∀ p, 4 ≤ p → p ≤ 60 → D.2 115 p = S p ∧ E.2 2632 p = S p
theorem k_strAt {D E : am_D} {S : Nat → Int64} (h : k_ss D E S) {p : Nat} (h4 : 4 ≤ p) (h60 : p ≤ 60) : f_X10_strengthAt (Int32.ofNat p) D = some (S p) ∧ am_gL E 2632 62 (Int32.ofNat p) = some (S p) := by
  have e0 : (0 : Int32).toInt = 0 := rfl
  have e61 : (61 : Int32).toInt = 61 := rfl
  constructor
  · unfold f_X10_strengthAt
    rw [if_neg (by rw [j_lt, j_nat (by omega), e0]; omega), if_neg (by rw [j_le, j_nat (by omega), e61]; omega), k_gl (by omega) (by omega), (h p h4 h60).1, Option.bind_some]
  · rw [k_gl (by omega) (by omega), (h p h4 h60).2]
theorem k_isPeak {D E : am_D} {S : Nat → Int64} (h : k_ss D E S) {p : Nat} (h4 : 4 ≤ p) (h60 : p ≤ 60) : ∃ v, f_X10_isPeak (Int32.ofNat p) D = some v ∧ f_X12_isPeak (Int32.ofNat p) E = some v ∧ (v = 0 ∨ v = 1) := by
  have e4 : (4 : Int32).toInt = 4 := rfl
  have e60 : (60 : Int32).toInt = 60 := rfl
  obtain ⟨a1, a2⟩ := k_strAt h h4 h60
  have second : ∃ v, (if (60 : Int32) ≤ Int32.ofNat p then some (1 : Int32) else (f_X10_strengthAt (Int32.ofNat p) D).bind fun x12 => (f_X10_strengthAt (Int32.ofNat p + (1 : Int32)) D).bind fun x14 => if (lg_cmp x12 x14) < 0 then some 0 else some 1) = some v ∧ (if Int32.ofNat p = (60 : Int32) then some (1 : Int32) else (am_gL E 2632 62 (Int32.ofNat p)).bind fun x14 => (am_gL E 2632 62 (Int32.ofNat p + (1 : Int32))).bind fun x16 => if (lg_cmp x14 x16) < 0 then some 0 else some 1) = some v ∧ (v = 0 ∨ v = 1) := by
    by_cases c : p = 60
    · rw [if_pos (by rw [j_le, j_nat (by omega), e60]; omega), if_pos (by rw [c]; rfl)]
      exact ⟨1, rfl, rfl, Or.inr rfl⟩
    · obtain ⟨b1, b2⟩ := k_strAt h (p := p + 1) (by omega) (by omega)
      rw [if_neg (by rw [j_le, j_nat (by omega), e60]; omega), if_neg (by rw [j_eq, j_nat (by omega), e60]; omega), a1, a2, j_suc, b1, b2]
      rw [Option.bind_some, Option.bind_some]
      by_cases c2 : lg_cmp (S p) (S (p + 1)) < 0
      · rw [if_pos c2]
        exact ⟨0, rfl, rfl, Or.inl rfl⟩
      · rw [if_neg c2]
        exact ⟨1, rfl, rfl, Or.inr rfl⟩
  obtain ⟨v, v1, v2, v3⟩ := second
  by_cases c : p = 4
  · have c1 : Int32.ofNat p ≤ 4 := by rw [j_le, j_nat (by omega), e4]; omega
    have c2 : Int32.ofNat p = 4 := by rw [c]; rfl
    refine ⟨v, ?_, ?_, v3⟩
    · unfold f_X10_isPeak
      rw [if_pos c1, Option.bind_some, if_neg k_10]
      exact v1
    · unfold f_X12_isPeak
      rw [if_pos c2]
      exact v2
  · have c1 : ¬ Int32.ofNat p ≤ 4 := by rw [j_le, j_nat (by omega), e4]; omega
    have c2 : ¬ Int32.ofNat p = 4 := by rw [j_eq, j_nat (by omega), e4]; omega
    have ep : Int32.ofNat p - 1 = Int32.ofNat (p - 1) := by rw [j_eq, j_pred p (by omega), j_nat (by omega)]; omega
    obtain ⟨b1, b2⟩ := k_strAt h (p := p - 1) (by omega) (by omega)
    by_cases c3 : lg_cmp (S p) (S (p - 1)) ≤ 0
    · refine ⟨0, ?_, ?_, Or.inl rfl⟩
      · unfold f_X10_isPeak
        rw [if_neg c1, a1, Option.bind_some, ep, b1, Option.bind_some, if_pos c3, Option.bind_some, if_pos rfl]
      · unfold f_X12_isPeak
        rw [if_neg c2, a2, Option.bind_some, ep, b2, Option.bind_some, if_pos c3]
    · refine ⟨v, ?_, ?_, v3⟩
      · unfold f_X10_isPeak
        rw [if_neg c1, a1, Option.bind_some, ep, b1, Option.bind_some, if_neg c3, Option.bind_some, if_neg k_10, ← a1]
        exact v1
      · unfold f_X12_isPeak
        rw [if_neg c2, a2, Option.bind_some, ep, b2, Option.bind_some, if_neg c3, ← a2]
        exact v2
theorem k_rank {D E : am_D} {S : Nat → Int64} (q4 : Int32) (h : k_ss D E S) {p : Nat} (h4 : 4 ≤ p) (h60 : p ≤ 60) : ∃ v, f_X10_rankOf (Int32.ofNat p) D = some v ∧ f_X12_peak_L52 q4 (Int32.ofNat p) E am_fu 0 4 = some v := by
  have e60 : (60 : Int32).toInt = 60 := rfl
  have key := k_ind (P := fun fu k => 4 ≤ k → ∀ v, ∃ w, f_X10_rankOf_L4 (Int32.ofNat p) D fu v (Int32.ofNat k) = some w ∧ f_X12_peak_L52 q4 (Int32.ofNat p) E fu v (Int32.ofNat k) = some w) 61
    (by
      intro fu k hk ih hk4 v
      have c1 : ¬ (60 : Int32) < Int32.ofNat k := by rw [j_lt, e60, j_nat (by omega)]; omega
      obtain ⟨a1, a2⟩ := k_strAt h h4 h60
      obtain ⟨b1, b2⟩ := k_strAt h (p := k) hk4 (by omega)
      obtain ⟨z, z1, z2, z3⟩ := k_isPeak h (p := k) hk4 (by omega)
      obtain ⟨bf, hbf⟩ : ∃ bf : Int32, bf = if 0 < lg_cmp (S k) (S p) then 1 else if lg_cmp (S k) (S p) = 0 then (if Int32.ofNat p ≤ Int32.ofNat k then 0 else 1) else 0 := ⟨_, rfl⟩
      have hb01 : bf = 0 ∨ bf = 1 := by
        rw [hbf]
        split
        · exact Or.inr rfl
        · split
          · split
            · exact Or.inl rfl
            · exact Or.inr rfl
          · exact Or.inl rfl
      have hcb : (if 0 < lg_cmp (S k) (S p) then some (1 : Int32) else (f_X10_strengthAt (Int32.ofNat k) D).bind fun x9 => (f_X10_strengthAt (Int32.ofNat p) D).bind fun x11 => if (lg_cmp x9 x11) = 0 then if Int32.ofNat p ≤ Int32.ofNat k then some 0 else some 1 else some 0) = some bf := by
        rw [b1, Option.bind_some, a1, Option.bind_some, hbf]
        split
        · rfl
        · split
          · split <;> rfl
          · rfl
      have hrb : (if 0 < lg_cmp (S k) (S p) then some (1 : Int32) else (am_gL E 2632 62 (Int32.ofNat k)).bind fun x22 => (am_gL E 2632 62 (Int32.ofNat p)).bind fun x24 => if (lg_cmp x22 x24) = 0 then if Int32.ofNat p ≤ Int32.ofNat k then some 0 else some 1 else some 0) = some bf := by
        rw [b2, Option.bind_some, a2, Option.bind_some, hbf]
        split
        · rfl
        · split
          · split <;> rfl
          · rfl
      have hc : f_X10_rankOf_L4 (Int32.ofNat p) D (fu + 1) v (Int32.ofNat k) = f_X10_rankOf_L4 (Int32.ofNat p) D fu (if bf = 0 then v else if z = 0 then v else v + 1) (Int32.ofNat (k + 1)) := by
        rw [f_X10_rankOf_L4, if_neg c1]
        have step : ((f_X10_strengthAt (Int32.ofNat k) D).bind fun x3 => (f_X10_strengthAt (Int32.ofNat p) D).bind fun x5 => (if 0 < (lg_cmp x3 x5) then some ((1 : Int32)) else (f_X10_strengthAt (Int32.ofNat k) D).bind fun x9 => (f_X10_strengthAt (Int32.ofNat p) D).bind fun x11 => if (lg_cmp x9 x11) = 0 then if Int32.ofNat p ≤ Int32.ofNat k then some ((0 : Int32)) else some ((1 : Int32)) else some ((0 : Int32)))) = some bf := by
          have hcb2 := hcb
          rw [b1, a1] at hcb2 ⊢
          exact hcb2
        have asc := congrArg (fun o => o.bind fun w14 => (if w14 = 0 then some (v) else (f_X10_isPeak (Int32.ofNat k) D).bind fun x18 => if x18 = 0 then some (v) else some ((v + (1 : Int32)))).bind fun w20 => f_X10_rankOf_L4 (Int32.ofNat p) D fu w20 (Int32.ofNat k + (1 : Int32))) step
        simp only [Option.bind_assoc] at asc ⊢
        rw [asc, Option.bind_some, z1, j_suc]
        by_cases cb : bf = 0
        · rw [if_pos cb, if_pos cb, Option.bind_some]
        · rw [if_neg cb, if_neg cb, Option.bind_some]
          by_cases cz : z = 0
          · rw [if_pos cz, if_pos cz, Option.bind_some]
          · rw [if_neg cz, if_neg cz, Option.bind_some]
      have hr : f_X12_peak_L52 q4 (Int32.ofNat p) E (fu + 1) v (Int32.ofNat k) = f_X12_peak_L52 q4 (Int32.ofNat p) E fu (if bf = 0 then v else if z = 0 then v else v + 1) (Int32.ofNat (k + 1)) := by
        have ev : v + 0 = v := by grind
        rw [f_X12_peak_L52, if_neg c1, z2, Option.bind_some]
        by_cases cz : z = 0
        · rw [if_pos cz, Option.bind_some, ev, j_suc]
          by_cases cb : bf = 0
          · rw [if_pos cb]
          · rw [if_neg cb, if_pos cz]
        · rw [if_neg cz]
          have hrb2 := hrb
          rw [b2, a2] at hrb2 ⊢
          rw [Option.bind_some, Option.bind_some]
          rw [Option.bind_some, Option.bind_some] at hrb2
          rw [Option.bind_some, Option.bind_some, hrb2, Option.bind_some, j_suc]
          rcases hb01 with cb | cb
          · rw [if_pos cb, cb, ev]
          · rw [if_neg (by rw [cb]; decide), if_neg cz, cb]
      rw [hc, hr]
      exact ih (by omega) _) (by
      intro fu hk4 v
      have c1 : (60 : Int32) < Int32.ofNat 61 := by decide
      rw [f_X10_rankOf_L4, f_X12_peak_L52, if_pos c1, if_pos c1]
      exact ⟨v, rfl, rfl⟩) am_fu 4 (by omega) (by unfold am_fu; omega) (Nat.le_refl _) 0
  obtain ⟨v, k1, k2⟩ := key
  have k1 : f_X10_rankOf_L4 (Int32.ofNat p) D am_fu 0 (4 : Int32) = some v := k1
  refine ⟨v, ?_, k2⟩
  unfold f_X10_rankOf
  rw [k1, Option.bind_some]
theorem k_ranked {D E : am_D} {S : Nat → Int64} (q4 : Int32) (h : k_ss D E S) : ∃ v, f_X10_rankedPeak q4 D = some v ∧ ∀ X : am_D, am_b2 (f_X12_peak_L27 q4 E am_fu 4) (fun e33 => some (e33, X)) (fun e34 => some ((-1 : Int32), X)) = some (v, X) := by
  have e60 : (60 : Int32).toInt = 60 := rfl
  have key := k_ind (P := fun fu k => 4 ≤ k → ∃ o : Int32 ⊕ Unit, f_X10_rankedPeak_L2 q4 D fu (Int32.ofNat k) = some o ∧ f_X12_peak_L27 q4 E fu (Int32.ofNat k) = some o) 61
    (by
      intro fu k hk ih hk4
      have c1 : ¬ (60 : Int32) < Int32.ofNat k := by rw [j_lt, e60, j_nat (by omega)]; omega
      obtain ⟨z, z1, z2, z3⟩ := k_isPeak h (p := k) hk4 (by omega)
      obtain ⟨v, v1, v2⟩ := k_rank q4 h (p := k) hk4 (by omega)
      rw [f_X10_rankedPeak_L2, f_X12_peak_L27, if_neg c1, if_neg c1, z1, z2, Option.bind_some, Option.bind_some]
      by_cases cz : z = 0
      · rw [if_pos cz, if_pos cz, j_suc]
        exact ih (by omega)
      · rw [if_neg cz, if_neg cz, v1, v2, Option.bind_some, Option.bind_some]
        by_cases cv : v = q4
        · rw [if_pos cv, if_pos cv]
          exact ⟨_, rfl, rfl⟩
        · rw [if_neg cv, if_neg cv, j_suc]
          exact ih (by omega)) (by
      intro fu hk4
      have c1 : (60 : Int32) < Int32.ofNat 61 := by decide
      rw [f_X10_rankedPeak_L2, f_X12_peak_L27, if_pos c1, if_pos c1]
      exact ⟨_, rfl, rfl⟩) am_fu 4 (by omega) (by unfold am_fu; omega) (Nat.le_refl _)
  obtain ⟨o, k1, k2⟩ := key
  have k1 : f_X10_rankedPeak_L2 q4 D am_fu (4 : Int32) = some o := k1
  have k2 : f_X12_peak_L27 q4 E am_fu (4 : Int32) = some o := k2
  unfold f_X10_rankedPeak
  rw [k1, k2]
  rcases o with v | u
  · exact ⟨v, rfl, fun _ => rfl⟩
  · exact ⟨-1, rfl, fun _ => rfl⟩
theorem k_nearest {D E : am_D} {S : Nat → Int64} (q : Int32) (h : k_ss D E S) : ∃ v, f_X10_nearestPeak q D = some v ∧ f_X12_lock_L55 q E am_fu (-1) 4 = some v := by
  have e60 : (60 : Int32).toInt = 60 := rfl
  have key := k_ind (P := fun fu k => 4 ≤ k → ∀ v, ∃ w, f_X10_nearestPeak_L4 q D fu v (Int32.ofNat k) = some w ∧ f_X12_lock_L55 q E fu v (Int32.ofNat k) = some w) 61
    (by
      intro fu k hk ih hk4 v
      have c1 : ¬ (60 : Int32) < Int32.ofNat k := by rw [j_lt, e60, j_nat (by omega)]; omega
      obtain ⟨z, z1, z2, z3⟩ := k_isPeak h (p := k) hk4 (by omega)
      rw [f_X10_nearestPeak_L4, f_X12_lock_L55, if_neg c1, if_neg c1, z1, z2, Option.bind_some, Option.bind_some, j_suc]
      by_cases cz : z = 0
      · rw [if_pos cz, if_pos cz, Option.bind_some, Option.bind_some]
        exact ih (by omega) _
      · rw [if_neg cz, if_neg cz]
        by_cases cv : v = -1
        · rw [if_pos cv, if_pos cv, Option.bind_some, Option.bind_some]
          exact ih (by omega) _
        · rw [if_neg cv, if_neg cv, k_cfar, k_cfar, k_amount, k_amount, Option.bind_some, Option.bind_some]
          by_cases cc : am_ab (v - q) ≤ am_ab (Int32.ofNat k - q)
          · rw [if_pos cc, Option.bind_some, Option.bind_some]
            exact ih (by omega) _
          · rw [if_neg cc, Option.bind_some, Option.bind_some]
            exact ih (by omega) _) (by
      intro fu hk4 v
      have c1 : (60 : Int32) < Int32.ofNat 61 := by decide
      rw [f_X10_nearestPeak_L4, f_X12_lock_L55, if_pos c1, if_pos c1]
      exact ⟨v, rfl, rfl⟩) am_fu 4 (by omega) (by unfold am_fu; omega) (Nat.le_refl _) (-1)
  obtain ⟨v, k1, k2⟩ := key
  have k1 : f_X10_nearestPeak_L4 q D am_fu (-1) (4 : Int32) = some v := k1
  refine ⟨v, ?_, k2⟩
  unfold f_X10_nearestPeak
  rw [k1, Option.bind_some]
