/-! blows found, on both sides -/
/-- blows as they are told, what harms count -/
def k_Rk (D E : am_D) : Prop := (∃ a b c : Nat, 1 ≤ a ∧ a ≤ 2047 ∧ 1 ≤ b ∧ b ≤ 20 ∧ 1 ≤ c ∧ c ≤ 40 ∧ D.1 17 11 = Int32.ofNat a ∧ D.1 17 12 = Int32.ofNat b ∧ D.1 17 13 = Int32.ofNat c ∧ E.1 117 17 = Int32.ofNat a ∧ E.1 117 18 = Int32.ofNat b ∧ E.1 117 19 = Int32.ofNat c) ∧ ∀ j, j < 4 → D.1 22 j = E.1 202 j
theorem k_Rk_of {D E : am_D} (h : k_Rn D E) : k_Rk D E := ⟨h.2.1, h.2.2⟩
theorem k_Rk_mv {D E D2 E2 : am_D} (h : k_Rk D E) (hD : ∀ y, y = 17 ∨ y = 22 → D2.1 y = D.1 y) (hE : ∀ j, 17 ≤ j ∧ j ≤ 19 → E2.1 117 j = E.1 117 j) (hE2 : E2.1 202 = E.1 202) : k_Rk D2 E2 := by
  obtain ⟨⟨x, y, z, c1, c2, c3, c4, c5, c6, c7, c8, c9, c10, c11, c12⟩, d⟩ := h
  exact ⟨⟨x, y, z, c1, c2, c3, c4, c5, c6, by rw [hD 17 (by omega)]; exact c7, by rw [hD 17 (by omega)]; exact c8, by rw [hD 17 (by omega)]; exact c9, by rw [hE 17 (by omega)]; exact c10, by rw [hE 18 (by omega)]; exact c11, by rw [hE 19 (by omega)]; exact c12⟩, fun j hj => by rw [hD 22 (by omega), hE2]; exact d j hj⟩
theorem j_max_shift {g : Nat → Int32} {z : Nat} (h : ∀ j, j < z → g j = 0) : ∀ c : Nat, j_max g (z + c) = j_max (fun j => g (z + j)) c
  | 0 => by
    have key : ∀ y : Nat, y ≤ z → j_max g y = 0 := by
      intro y
      induction y with
      | zero => intro _; rfl
      | succ y ih =>
        intro hy
        show am_mx (j_max g y) (g y) = 0
        rw [ih (by omega), h y (by omega)]
        rfl
    exact key z (Nat.le_refl _)
  | c + 1 => by
    show am_mx (j_max g (z + c)) (g (z + c)) = am_mx (j_max (fun j => g (z + j)) c) (g (z + c))
    rw [j_max_shift h c]
/-- the loudest of so many samples ahead of one -/
def k_ahead (f : Int → Int32) (k wd : Nat) : Int32 := j_max (fun j => am_ab (f ((k : Int) - wd + j))) wd
theorem k_ahead_r {E : am_D} {a n k wd : Nat} {f : Int → Int32} (q2 v3 : Int32) (hf : k_arr E a n f) (hz : ∀ x : Int, x < 0 → f x = 0) (hk : k ≤ n) (hn : n ≤ am_ln a) (hl : am_ln a ≤ 1200) (hw : wd ≤ 40) : f_X12_findBlows_L27 a q2 v3 (Int32.ofNat k) E am_fu 0 (am_mx 0 (Int32.ofNat k - Int32.ofNat wd)) = some (k_ahead f k wd) := by
  have e0 : (0 : Int32).toInt = 0 := rfl
  have eb : am_mx 0 (Int32.ofNat k - Int32.ofNat wd) = Int32.ofNat (k - wd) := by
    rw [j_eq, j_mx, k_S, j_nat (by omega), j_nat (by omega), j_nat (by omega), e0]
    omega
  have es : k_ahead f k wd = j_max (fun j => am_ab (f ((k - wd : Nat) + (j : Int)))) (k - (k - wd)) := by
    unfold k_ahead
    have h1 : wd = (wd - (k - (k - wd))) + (k - (k - wd)) := by omega
    have h2 := j_max_shift (g := fun j : Nat => am_ab (f ((k : Int) - wd + j))) (z := wd - (k - (k - wd))) (fun j hj => by
      show am_ab (f ((k : Int) - wd + j)) = 0
      rw [hz _ (by omega)]
      rfl) (k - (k - wd))
    rw [← h1] at h2
    rw [h2]
    refine j_max_cong fun j hj => ?_
    congr 2
    omega
  rw [eb, es]
  have key := k_ind (P := fun fu y => k - wd ≤ y → f_X12_findBlows_L27 a q2 v3 (Int32.ofNat k) E fu (j_max (fun j => am_ab (f ((k - wd : Nat) + (j : Int)))) (y - (k - wd))) (Int32.ofNat y) = some (j_max (fun j => am_ab (f ((k - wd : Nat) + (j : Int)))) (k - (k - wd)))) k
    (by
      intro fu y hy ih h1
      rw [f_X12_findBlows_L27, if_neg (by rw [j_le, j_nat (by omega), j_nat (by omega)]; omega), k_g (by omega) (by omega), hf y (by omega), Option.bind_some, k_amount, Option.bind_some, k_more, Option.bind_some, j_suc]
      have e1 : y + 1 - (k - wd) = (y - (k - wd)) + 1 := by omega
      have e2 : ((k - wd : Nat) : Int) + ((y - (k - wd) : Nat) : Int) = y := by omega
      have := ih (by omega)
      rw [e1] at this
      have e3 : j_max (fun j => am_ab (f ((k - wd : Nat) + (j : Int)))) (y - (k - wd) + 1) = am_mx (j_max (fun j => am_ab (f ((k - wd : Nat) + (j : Int)))) (y - (k - wd))) (am_ab (f y)) := by
        show am_mx _ (am_ab (f (((k - wd : Nat) : Int) + ((y - (k - wd) : Nat) : Int)))) = _
        rw [e2]
      rw [e3] at this
      exact this) (by
      intro fu h1
      rw [f_X12_findBlows_L27, if_pos (Int32.le_refl _)]) am_fu (k - wd) (by omega) (by unfold am_fu; omega) (by omega)
  have e4 : (k - wd) - (k - wd) = 0 := by omega
  rw [e4] at key
  exact key
/-- the blows that were found -/
def k_bl (D E : am_D) (r0 n c : Nat) (pos : Nat → Nat) : Prop := c ≤ 600 ∧ D.1 r0 2 = Int32.ofNat c ∧ ∀ j, j < c → D.1 (r0 + 1) j = Int32.ofNat (pos j) ∧ E.1 2629 j = Int32.ofNat (pos j) ∧ pos j < n ∧ ∀ i, i < j → pos i < pos j
theorem k_find {D E : am_D} {r0 p a n : Nat} {f : Int → Int32} (h : j_row D p n f) (he : k_arr E a n f) (hn : n ≤ am_ln a) (hl : am_ln a ≤ 1200) (h3 : k_Rk D E) (hr : 106 ≤ r0) (hp : p + 1 < r0) (ha : a ≠ 2629) :
    ∃ D2 E2 c pos, f_X0_find r0 p D = some D2 ∧ f_X12_findBlows a (Int32.ofNat n) E = some (Int32.ofNat c, E2) ∧ k_bl D2 E2 r0 n c pos ∧ (∀ y, y ≠ r0 → y ≠ r0 + 1 → D2.1 y = D.1 y) ∧ D2.2 = D.2 ∧ (∀ y, y ≠ 2629 → E2.1 y = E.1 y) ∧ E2.2 = E.2 := by
  obtain ⟨⟨fl, ti, wd, b1, b2, b3, b4, b5, b6, b7, b8, b9, b10, b11, b12⟩, _⟩ := h3
  have e0 : (0 : Int32).toInt = 0 := rfl
  have e600 : (600 : Int32).toInt = 600 := rfl
  have hz : ∀ x : Int, x < 0 → f x = 0 := fun x hx => h.2.2.2.2 x (Or.inl hx)
  have hn2 := h.1
  have hn3 := h.2.1
  have key := k_ind (P := fun fu k => ∀ (D1 E1 : am_D) (c fr : Nat) (pos : Nat → Nat), (∀ y, y ≠ r0 → y ≠ r0 + 1 → D1.1 y = D.1 y) → D1.2 = D.2 → (∀ y, y ≠ 2629 → E1.1 y = E.1 y) → E1.2 = E.2 → k_bl D1 E1 r0 n c pos → ((c = 0 ∧ fr = 0) ∨ (0 < c ∧ fr = pos (c - 1) + wd + 1)) → (∀ j, j < c → pos j < k ∧ 2 * j ≤ pos j) →
      ∃ D2 E2 c2 pos2, f_X0_find_L10 r0 p fu (Int32.ofNat fr) (Int32.ofNat k) D1 = some D2 ∧ f_X12_findBlows_L5 a (Int32.ofNat n) fu (Int32.ofNat c) (Int32.ofNat k) E1 = some (Int32.ofNat c2, E2) ∧ k_bl D2 E2 r0 n c2 pos2 ∧ (∀ y, y ≠ r0 → y ≠ r0 + 1 → D2.1 y = D.1 y) ∧ D2.2 = D.2 ∧ (∀ y, y ≠ 2629 → E2.1 y = E.1 y) ∧ E2.2 = E.2) n
    (by
      intro fu k hk ih D1 E1 c fr pos f1 f2 f3 f4 hb hc hq
      have hrow : j_row D1 p n f := j_row_fr h (f1 p (by omega) (by omega)) (f1 (p + 1) (by omega) (by omega))
      have harr : k_arr E1 a n f := k_arr_by he (f3 a ha)
      have hfr : fr ≤ 1300 := by
        rcases hc with ⟨_, z⟩ | ⟨z0, z⟩
        · omega
        · have := (hq (c - 1) (by omega)).1
          omega
      have hc600 : 2 * c ≤ n + 1 := by
        rcases hc with ⟨z, _⟩ | ⟨z0, z⟩
        · omega
        · have := hq (c - 1) (by omega)
          omega
      have hn1 : ¬ Int32.ofNat n ≤ Int32.ofNat k := by rw [j_le, j_nat (by omega), j_nat (by omega)]; omega
      -- the reference's loudest ahead
      have hld := k_ahead_r (E := E1) (a := a) (k := k) (wd := wd) (Int32.ofNat n) (Int32.ofNat c) harr hz (by omega) hn hl b6
      -- is it free
      have hfree : (if Int32.ofNat c = 0 then some (1 : Int32) else (am_gI E1 2629 1200 (Int32.ofNat c - 1)).bind fun x14 => if (Int32.ofNat k - E1.1 117 19) ≤ x14 then some 0 else some 1) = some (if fr ≤ k then 1 else 0) := by
        rcases hc with ⟨z, z2⟩ | ⟨z0, z2⟩
        · rw [z, z2, if_pos (show Int32.ofNat 0 = 0 from rfl), if_pos (by omega)]
        · have e1 : Int32.ofNat c - 1 = Int32.ofNat (c - 1) := by
            have e : c = (c - 1) + 1 := by omega
            rw [e, k_sub1]
            rfl
          have hpj := (hb.2.2 (c - 1) (by omega))
          rw [if_neg (by rw [j_eq, j_nat (by omega), e0]; omega), e1, k_g (by omega) (by omega), Option.bind_some, hpj.2.1, f3 117 (by decide), b12]
          have e2 : (Int32.ofNat k - Int32.ofNat wd).toInt = (k : Int) - wd := by rw [k_S, j_nat (by omega), j_nat (by omega)]; omega
          by_cases cc : fr ≤ k
          · rw [if_pos cc, if_neg (by rw [j_le, e2, j_nat (by omega)]; omega)]
          · rw [if_neg cc, if_pos (by rw [j_le, e2, j_nat (by omega)]; omega)]
      have hcl : fr ≤ k → c < 600 := by
        intro q1
        rcases hc with ⟨z, _⟩ | ⟨z0, z⟩
        · omega
        · have := hq (c - 1) (by omega)
          omega
      -- is it a blow
      obtain ⟨isb, hisb⟩ : ∃ isb : Prop, isb = (¬ am_ab (f k) < Int32.ofNat fl ∧ ¬ am_ab (f k) < Int32.ofNat ti * k_ahead f k wd) := ⟨_, rfl⟩
      have hcb : f_X0_isBlow p (Int32.ofNat k) D1 = if am_ab (f k) < Int32.ofNat fl then some 0 else if am_ab (f k) < Int32.ofNat ti * k_ahead f k wd then some 0 else some 1 := by
        unfold f_X0_isBlow
        have e2 : (Int32.ofNat k - Int32.ofNat wd).toInt = (k : Int) - wd := by rw [k_S, j_nat (by omega), j_nat (by omega)]; omega
        have hlo := j_row_loudest hrow (Int32.ofNat k - Int32.ofNat wd) wd (by omega) (by omega) (by omega)
        rw [e2] at hlo
        rw [j_row_loud hrow, j_nat (by omega), Option.bind_some, f1 17 (by omega) (by omega), b7, b9, b8, hlo, Option.bind_some]
        rfl
      have hcY : fr ≤ k → isb → f_X0_find_L10 r0 p (fu + 1) (Int32.ofNat fr) (Int32.ofNat k) D1 = f_X0_find_L10 r0 p fu (Int32.ofNat (k + wd + 1)) (Int32.ofNat (k + 1)) (am_wI (am_wI D1 (r0 + 1) c (Int32.ofNat k)) r0 2 (Int32.ofNat (c + 1))) := by
        intro q1 q2
        rw [hisb] at q2
        have hcl := hcl q1
        have hfull : ¬ (600 : Int32) ≤ D1.1 r0 2 := by rw [hb.2.1, j_le, j_nat (by omega), e600]; omega
        rw [f_X0_find_L10, hrow.2.2.1, if_neg hn1, if_neg (by rw [j_lt, j_nat (by omega), j_nat (by omega)]; omega), hcb, if_neg q2.1, if_neg q2.2, Option.bind_some, if_neg k_10, if_neg hfull, hb.2.1, k_p _ (by omega) (by omega), Option.bind_some, j_wI_ne _ _ _ (by omega), hb.2.1, j_suc, Option.bind_some, j_wI_ne _ _ _ (by omega), j_wI_ne _ _ _ (by omega), f1 17 (by omega) (by omega), b9, ← Int32.ofNat_add, j_suc, Option.bind_some, j_suc]
      have hcN : ¬ (fr ≤ k ∧ isb) → f_X0_find_L10 r0 p (fu + 1) (Int32.ofNat fr) (Int32.ofNat k) D1 = f_X0_find_L10 r0 p fu (Int32.ofNat fr) (Int32.ofNat (k + 1)) D1 := by
        intro q
        rw [hisb] at q
        rw [f_X0_find_L10, hrow.2.2.1, if_neg hn1]
        by_cases cf : fr ≤ k
        · rw [if_neg (by rw [j_lt, j_nat (by omega), j_nat (by omega)]; omega), hcb]
          by_cases c1 : am_ab (f k) < Int32.ofNat fl
          · rw [if_pos c1, Option.bind_some, if_pos rfl, Option.bind_some, j_suc]
          · rw [if_neg c1]
            by_cases c2 : am_ab (f k) < Int32.ofNat ti * k_ahead f k wd
            · rw [if_pos c2, Option.bind_some, if_pos rfl, Option.bind_some, j_suc]
            · exact absurd ⟨cf, c1, c2⟩ q
        · rw [if_pos (by rw [j_lt, j_nat (by omega), j_nat (by omega)]; omega), Option.bind_some, j_suc]
      have hrY : fr ≤ k → isb → f_X12_findBlows_L5 a (Int32.ofNat n) (fu + 1) (Int32.ofNat c) (Int32.ofNat k) E1 = f_X12_findBlows_L5 a (Int32.ofNat n) fu (Int32.ofNat (c + 1)) (Int32.ofNat (k + 1)) (am_wI E1 2629 c (Int32.ofNat k)) := by
        intro q1 q2
        rw [hisb] at q2
        have hg2 : ¬ am_ab (f k) < Int32.ofNat ti * k_ahead f k wd := q2.2
        rw [f_X12_findBlows_L5, if_neg hn1, k_more, Option.bind_some, f3 117 (by decide), b12, hld, Option.bind_some]
        rw [f3 117 (by decide), b12] at hfree
        rw [hfree, if_pos q1, Option.bind_some, if_neg k_10, k_g (by omega) (by omega), harr k hk, Option.bind_some, k_amount, Option.bind_some, b10, if_neg q2.1, Option.bind_some, k_amount, Option.bind_some, b11, if_pos (by rw [j_le]; rw [j_lt] at hg2; omega), k_p _ (by omega) (by omega), Option.bind_some, Option.bind_some, j_suc, j_suc]
      have hrN : ¬ (fr ≤ k ∧ isb) → f_X12_findBlows_L5 a (Int32.ofNat n) (fu + 1) (Int32.ofNat c) (Int32.ofNat k) E1 = f_X12_findBlows_L5 a (Int32.ofNat n) fu (Int32.ofNat c) (Int32.ofNat (k + 1)) E1 := by
        intro q
        rw [hisb] at q
        rw [f_X12_findBlows_L5, if_neg hn1, k_more, Option.bind_some, f3 117 (by decide), b12, hld, Option.bind_some]
        rw [f3 117 (by decide), b12] at hfree
        rw [hfree]
        by_cases cf : fr ≤ k
        · rw [if_pos cf, Option.bind_some, if_neg k_10, k_g (by omega) (by omega), harr k hk, Option.bind_some, k_amount, Option.bind_some, b10]
          by_cases c1 : am_ab (f k) < Int32.ofNat fl
          · rw [if_pos c1, Option.bind_some, j_suc]
          · rw [if_neg c1, Option.bind_some, k_amount, Option.bind_some, b11]
            by_cases c2 : am_ab (f k) < Int32.ofNat ti * k_ahead f k wd
            · rw [if_neg (by rw [j_le]; rw [j_lt] at c2; omega), Option.bind_some, j_suc]
            · exact absurd ⟨cf, c1, c2⟩ q
        · rw [if_neg cf, Option.bind_some, if_pos rfl, Option.bind_some, j_suc]
      by_cases cc : fr ≤ k ∧ isb
      · rw [hcY cc.1 cc.2, hrY cc.1 cc.2]
        have hcl := hcl cc.1
        refine ih _ _ (c + 1) (k + wd + 1) (fun j => if j = c then k else pos j) (fun y h1 h2 => ?_) f2 (fun y hy => ?_) f4 ⟨(by omega), by rw [k_ws], fun j hj => ?_⟩ (Or.inr ⟨(by omega), ?_⟩) (fun j hj => ?_)
        · rw [j_wI_ne _ _ _ h1, j_wI_ne _ _ _ h2]; exact f1 y h1 h2
        · rw [j_wI_ne _ _ _ hy]; exact f3 y hy
        · rw [j_wI_ne _ _ _ (by omega), j_wI_at, j_wI_at]
          dsimp only
          by_cases cj : j = c
          · rw [if_pos cj, if_pos cj, if_pos cj]
            refine ⟨rfl, rfl, hk, fun i hi => ?_⟩
            rw [if_neg (by omega)]
            exact (hq i (by omega)).1
          · rw [if_neg cj, if_neg cj, if_neg cj]
            obtain ⟨r1, r2, r3, r4⟩ := hb.2.2 j (by omega)
            refine ⟨r1, r2, r3, fun i hi => ?_⟩
            rw [if_neg (by omega)]
            exact r4 i hi
        · rw [if_pos (by omega)]
        · by_cases cj : j = c
          · rw [if_pos cj]
            rcases hc with ⟨z, _⟩ | ⟨z0, z⟩
            · omega
            · have := hq (c - 1) (by omega)
              omega
          · rw [if_neg cj]
            have := hq j (by omega)
            omega
      · rw [hcN cc, hrN cc]
        exact ih D1 E1 c fr pos f1 f2 f3 f4 hb hc (fun j hj => ⟨Nat.lt_succ_of_lt (hq j hj).1, (hq j hj).2⟩)) (by
      intro fu D1 E1 c fr pos f1 f2 f3 f4 hb hc hq
      have hrow : j_row D1 p n f := j_row_fr h (f1 p (by omega) (by omega)) (f1 (p + 1) (by omega) (by omega))
      rw [f_X0_find_L10, f_X12_findBlows_L5, hrow.2.2.1, if_pos (Int32.le_refl _), if_pos (Int32.le_refl _)]
      exact ⟨D1, E1, c, pos, rfl, rfl, hb, f1, f2, f3, f4⟩) am_fu 0 (by omega) (by unfold am_fu; omega) (am_wI D r0 2 0) E 0 0 (fun _ => 0) (fun y h1 _ => j_wI_ne _ _ _ h1) rfl (fun _ _ => rfl) rfl ⟨(by omega), by rw [k_ws]; rfl, fun j hj => absurd hj (by omega)⟩ (Or.inl ⟨rfl, rfl⟩) (fun j hj => absurd hj (by omega))
  obtain ⟨D2, E2, c, pos, k1, k2, k3⟩ := key
  refine ⟨D2, E2, c, pos, ?_, ?_, k3⟩
  · unfold f_X0_find
    have k1 : f_X0_find_L10 r0 p am_fu (0 : Int32) (0 : Int32) (am_wI D r0 2 0) = some D2 := k1
    rw [Option.bind_some, k1, Option.bind_some]
  · unfold f_X12_findBlows
    have k2 : f_X12_findBlows_L5 a (Int32.ofNat n) am_fu (0 : Int32) (0 : Int32) E = _ := k2
    rw [k2, Option.bind_some]
