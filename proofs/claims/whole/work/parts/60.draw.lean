/-! a piece laid, a drawing, on both sides -/
theorem k_wj (D : am_D) {a j k : Nat} (v : Int32) (h : k ≠ j) : (am_wI D a j v).1 a k = D.1 a k := by rw [j_wI_at, if_neg h]
theorem k_ws (D : am_D) (a j : Nat) (v : Int32) : (am_wI D a j v).1 a j = v := by rw [j_wI_at, if_pos rfl]
theorem k_arr_by {E E2 : am_D} {a n : Nat} {f : Int → Int32} (h : k_arr E a n f) (e : E2.1 a = E.1 a) : k_arr E2 a n f := fun k hk => by rw [e]; exact h k hk
theorem k_fm_by {E E2 : am_D} {n : Nat} {f t : Int → Int32} (h : k_fm E n f t) (e : E2.1 117 37 = E.1 117 37) (e2 : E2.1 223 = E.1 223) : k_fm E2 n f t := ⟨by rw [e]; exact h.1, fun k hk => by rw [e2]; exact h.2 k hk⟩
/-- a sum of two samples with their shares -/
def k_mix (a b : Int32) (o k : Nat) : Int32 := (a * (Int32.ofNat o - Int32.ofNat k) + b * Int32.ofNat k) / Int32.ofNat o
theorem k_mix_bd {a b : Int32} {o k : Nat} (ha : -2047 ≤ a.toInt ∧ a.toInt ≤ 2047) (hb : -2047 ≤ b.toInt ∧ b.toInt ≤ 2047) (ho : 1 ≤ o) (ho2 : o ≤ 100) (hk : k ≤ o) : -2047 ≤ (k_mix a b o k).toInt ∧ (k_mix a b o k).toInt ≤ 2047 := by
  unfold k_mix
  have e1 : (Int32.ofNat o - Int32.ofNat k).toInt = (o : Int) - k := by rw [k_S, j_nat (by omega), j_nat (by omega)]; omega
  have m1 := k_mul_bd2 (a := a.toInt) (b := (o : Int) - k) (c := 2047) (d := (o : Int) - k) (by omega) (by omega) (by omega) (by omega) (by omega) (by omega)
  have m2 := k_mul_bd2 (a := b.toInt) (b := (k : Int)) (c := 2047) (d := k) (by omega) (by omega) (by omega) (by omega) (by omega) (by omega)
  have e2 : (a * (Int32.ofNat o - Int32.ofNat k)).toInt = a.toInt * ((o : Int) - k) := by rw [k_M, e1]; omega
  have e3 : (b * Int32.ofNat k).toInt = b.toInt * k := by rw [k_M, j_nat (by omega)]; omega
  rw [k_D _ _ (by rw [j_nat (by omega)]; omega), k_A, e2, e3, j_nat (by omega)]
  have e4 : (a.toInt * ((o : Int) - k) + b.toInt * k + 2147483648) % 4294967296 - 2147483648 = a.toInt * ((o : Int) - k) + b.toInt * k := by omega
  rw [e4]
  have hz : -(2047 * (o : Int)) ≤ a.toInt * ((o : Int) - k) + b.toInt * k ∧ a.toInt * ((o : Int) - k) + b.toInt * k ≤ 2047 * o := by omega
  generalize a.toInt * ((o : Int) - k) + b.toInt * k = z at hz
  unfold k_q
  by_cases c : 0 ≤ z
  · rw [if_pos c]
    have h1 := Int.ediv_nonneg c (by omega : (0 : Int) ≤ o)
    have h2 : z / (o : Int) ≤ 2047 := Int.ediv_le_of_le_mul (by omega) (by omega)
    omega
  · rw [if_neg c]
    have h1 := Int.ediv_nonneg (a := -z) (b := (o : Int)) (by omega) (by omega)
    have h2 : -z / (o : Int) ≤ 2047 := Int.ediv_le_of_le_mul (by omega) (by omega)
    omega
/-- a piece in a row, so many places of it -/
def k_pw (out g : Int → Int32) (r : Nat) (a : Int) (w o : Nat) : Int → Int32 := fun k => if (r : Int) ≤ k ∧ k < r + w then (if k < r + o then k_mix (out k) (g (a + (k - r))) o (k - r).toNat else g (a + (k - r))) else out k
theorem k_pw_eq {out g : Int → Int32} {r : Nat} {a : Int} {w w2 o : Nat} {y : Int} (h : ((r : Int) ≤ y ∧ y < r + w) ↔ ((r : Int) ≤ y ∧ y < r + w2)) : k_pw out g r a w o y = k_pw out g r a w2 o y := by
  unfold k_pw
  simp only [h]
theorem k_rpiece {E : am_D} {n L c o w r : Nat} {g out : Int → Int32} (hg : k_arr E 221 n g) (ho : k_arr E 222 c out) (hn : n ≤ 1200) (hL : L ≤ 1200) (hc : c ≤ L) (hrc : r + min o (L - r) ≤ c) (e14 : E.1 117 14 = Int32.ofNat w) (e15 : E.1 117 15 = Int32.ofNat o) (e38 : E.1 117 38 = Int32.ofNat L)
    (ho1 : 1 ≤ o) (ho2 : o ≤ 100) (hw : w ≤ 100) (how : o ≤ w) (hr : r < L) (x b : Int32) (hp : 0 ≤ (x + b).toInt) (hp2 : (x + b).toInt + w ≤ n) :
    ∃ E2, f_X12_lies_L209 (Int32.ofNat r) x b am_fu 0 E = some E2 ∧ k_arr E2 222 (min L (r + w)) (k_pw out g r (x + b).toInt w o) ∧ (∀ y, y ≠ 222 → E2.1 y = E.1 y) ∧ E2.2 = E.2 := by
  have key := k_ind (P := fun fu k => ∀ E1 : am_D, (∀ y : Nat, y < L → (y < c ∨ y < r + k) → E1.1 222 y = k_pw out g r (x + b).toInt k o y) → (∀ y, y ≠ 222 → E1.1 y = E.1 y) → E1.2 = E.2 →
      ∃ E2, f_X12_lies_L209 (Int32.ofNat r) x b fu (Int32.ofNat k) E1 = some E2 ∧ k_arr E2 222 (min L (r + w)) (k_pw out g r (x + b).toInt w o) ∧ (∀ y, y ≠ 222 → E2.1 y = E.1 y) ∧ E2.2 = E.2) w
    (by
      intro fu k hk ih E1 h1 h2 h3
      rw [f_X12_lies_L209, h2 117 (by decide), e14, e38, e15, if_neg (by simp only [j_le, k_N]; omega), ← Int32.ofNat_add]
      by_cases cc : L ≤ r + k
      · rw [if_pos (by simp only [j_le, k_N]; omega)]
        refine ⟨E1, rfl, fun y hy => ?_, h2, h3⟩
        rw [h1 y (by omega) (by omega)]
        exact k_pw_eq (by omega)
      · rw [if_neg (by simp only [j_le, k_N]; omega)]
        have e2 : (x + b + Int32.ofNat k).toInt = (x + b).toInt + k := by rw [k_A, j_nat (by omega)]; omega
        rw [k_arr_g (k_arr_by hg (h2 221 (by decide))) (by omega) (by omega) hn, e2]
        simp only [Option.bind_some]
        have hval : (if Int32.ofNat o ≤ Int32.ofNat k then some (g ((x + b).toInt + k)) else (am_gI E1 222 1200 (Int32.ofNat (r + k))).bind fun x50 => (am_dv (x50 * (Int32.ofNat o - Int32.ofNat k) + g ((x + b).toInt + k) * Int32.ofNat k) (Int32.ofNat o)).bind fun x52 => some x52)
            = some (if (k : Int) < o then k_mix (out (r + k : Nat)) (g ((x + b).toInt + k)) o k else g ((x + b).toInt + k)) := by
          by_cases c2 : o ≤ k
          · rw [if_pos (by simp only [j_le, k_N]; omega), if_neg (by omega)]
          · rw [if_neg (by simp only [j_le, k_N]; omega), if_pos (by omega), k_g (by omega) (by omega), h1 (r + k) (by omega) (by omega)]
            have e3 : k_pw out g r (x + b).toInt k o (r + k : Nat) = out (r + k : Nat) := by
              unfold k_pw
              rw [if_neg (by omega)]
            simp only [Option.bind_some]
            unfold am_dv
            rw [e3, if_neg (by rw [j_eq, j_nat (by omega)]; show ¬ (o : Int) = 0; omega)]
            rfl
        rw [hval]
        simp only [Option.bind_some]
        rw [k_p _ (by omega) (by omega), j_suc]
        simp only [Option.bind_some]
        refine ih _ (fun y hy hy2 => ?_) (fun y hy => by rw [j_wI_ne _ _ _ hy]; exact h2 y hy) h3
        rw [j_wI_at]
        by_cases c1 : y = r + k
        · subst c1
          rw [if_pos rfl]
          unfold k_pw
          have e4 : ((r + k : Nat) : Int) - r = k := by omega
          rw [if_pos (show (r : Int) ≤ (r + k : Nat) ∧ ((r + k : Nat) : Int) < r + (k + 1 : Nat) by omega), e4]
          by_cases c2 : (k : Int) < o
          · rw [if_pos c2, if_pos (show ((r + k : Nat) : Int) < r + o by omega)]
            rfl
          · rw [if_neg c2, if_neg (show ¬ ((r + k : Nat) : Int) < r + o by omega)]
        · rw [if_neg c1, h1 y hy (by omega)]
          exact k_pw_eq (by omega)) (by
      intro fu E1 h1 h2 h3
      rw [f_X12_lies_L209, h2 117 (by decide), e14, if_pos (Int32.le_refl _)]
      exact ⟨E1, rfl, fun y hy => h1 y (by omega) (by omega), h2, h3⟩) am_fu 0 (by omega) (by unfold am_fu; omega) E (fun y hy hy2 => by
        rw [ho y (by omega)]
        unfold k_pw
        rw [if_neg (by omega)]) (fun _ _ => rfl) rfl
  exact key
/-- what the reference's drawing may change -/
def k_fe (E E2 : am_D) : Prop := (∀ x, x ≠ 117 → (x < 221 ∨ 1425 ≤ x) → E2.1 x = E.1 x) ∧ (∀ j, (j < 36 ∨ 40 < j) → E2.1 117 j = E.1 117 j) ∧ E2.2 = E.2
theorem k_fe_refl (E : am_D) : k_fe E E := ⟨fun _ _ _ => rfl, fun _ _ => rfl, rfl⟩
theorem k_fe_trans {E E2 E3 : am_D} (h : k_fe E E2) (h2 : k_fe E2 E3) : k_fe E E3 := ⟨fun x a b => (h2.1 x a b).trans (h.1 x a b), fun j a => (h2.2.1 j a).trans (h.2.1 j a), h2.2.2.trans h.2.2⟩
theorem k_lay {D E : am_D} {r0 p n m L q w o s : Nat} {g f t out : Int → Int32} (hs : k_sr D E r0 n g m f t) (ho : k_or D E r0 L (min L (q * (w - o) + w)) out q (w - o)) (hp : k_ps D E p w o s) (hpr : p < r0) (hT : t ((m : Int) - 1) = Int32.ofNat L) (hr : (q + 1) * (w - o) < L) (hw : w ≤ n) :
    ∃ D2 E2 out2, f_X3_layPiece r0 (Int32.ofNat ((q + 1) * (w - o))) p D = some D2 ∧ f_X12_lies (Int32.ofNat ((q + 1) * (w - o))) E = some E2 ∧ k_sr D2 E2 r0 n g m f t ∧ k_or D2 E2 r0 L (min L ((q + 1) * (w - o) + w)) out2 (q + 1) (w - o) ∧
      j_fr (fun x => r0 ≤ x ∧ x < r0 + 10) D D2 ∧ k_fe E E2 ∧ D2.1 r0 7 = D.1 r0 7 ∧ E2.1 117 40 = E.1 117 40 := by
  have hpv := hp.1
  have hs' := hs
  have ho' := ho
  obtain ⟨s1, s2, s3, s4, s5, s6, s7, s8, s9⟩ := hs
  obtain ⟨⟨o1, o1c⟩, o2, o3, o4, o5, o6, o7, o8, o9, o10, o11, o12, o13⟩ := ho
  obtain ⟨⟨v1, v2, v3, v4, v5⟩, p1, p2, p3, p4, p5, p6⟩ := hp
  have e0 : (0 : Int32).toInt = 0 := rfl
  have hq : q < 600 := by
    have := Nat.mul_le_mul_left (q + 1) (show 2 ≤ w - o by omega)
    omega
  obtain ⟨r, hre⟩ : ∃ r, r = (q + 1) * (w - o) := ⟨_, rfl⟩
  have hre2 : r = q * (w - o) + (w - o) := by rw [hre, Nat.add_mul, Nat.one_mul]
  have hrc : r + min o (L - r) ≤ min L (q * (w - o) + w) := by omega
  rw [← hre] at hr ⊢
  have hTi : (t ((m : Int) - 1)).toInt = L := by rw [hT, j_nat (by omega)]
  have hri : (Int32.ofNat r).toInt = r := j_nat (by omega)
  have hx := k_pc_int s8 (Int32.ofNat r) (by omega) (by omega)
  have hfk := k_fi_ok t (Int32.ofNat r) m
  have hkl := (k_fi_lt s8 (Int32.ofNat r)).mpr (by omega)
  have hb1 := k_mv_bd s8 (k_fi t (Int32.ofNat r) m) hfk.1
  have hb2 := k_mv_bd s8 (k_fi t (Int32.ofNat r) m + 1) hkl
  have e9 : ((k_fi t (Int32.ofNat r) m + 1 : Nat) : Int) - 1 = (k_fi t (Int32.ofNat r) m : Nat) := by omega
  rw [e9] at hb2
  obtain ⟨x, hxe⟩ : ∃ x, x = k_pc m f t (Int32.ofNat r) := ⟨_, rfl⟩
  rw [← hxe] at hx
  have hx0 : 0 ≤ x.toInt := by omega
  have hx2 : x.toInt ≤ 2000 := by omega
  obtain ⟨b, l, a, b1, b2, b3, b4, b5⟩ := k_best hs' ho' hrc ⟨⟨v1, v2, v3, v4, v5⟩, p1, p2, p3, p4, p5, p6⟩ hr hw x hx0 hx2
  have efd : am_mn (D.1 p 1) (D.1 (r0 + 3) 1 - Int32.ofNat r) = Int32.ofNat (min o (L - r)) := by
    rw [p2, o2.2.2.1, j_eq, j_mn, k_S, j_nat (by omega), j_nat (by omega), j_nat (by omega), j_nat (by omega)]
    omega
  have elast : E.1 117 36 - E.1 117 14 = Int32.ofNat (n - w) := by
    rw [s3, p4, j_eq, k_S, j_nat (by omega), j_nat (by omega), j_nat (by omega)]
    omega
  obtain ⟨u, hu⟩ : ∃ u, u = j_unl g out (x + b).toInt r (min o (L - r)) := ⟨_, rfl⟩
  -- the class
  obtain ⟨D1, hD1⟩ : ∃ D1, D1 = am_wI (am_wI (am_wI D (r0 + 8) q b) (r0 + 9) q u) r0 6 (Int32.ofNat (q + 1)) := ⟨_, rfl⟩
  have d1 : ∀ y, y ≠ r0 → y ≠ r0 + 8 → y ≠ r0 + 9 → D1.1 y = D.1 y := fun y a1 a2 a3 => by rw [hD1, j_wI_ne _ _ _ a1, j_wI_ne _ _ _ a3, j_wI_ne _ _ _ a2]
  have d2 : ∀ j, j ≠ 6 → D1.1 r0 j = D.1 r0 j := fun j a1 => by rw [hD1, k_wj _ _ a1, j_wI_ne _ _ _ (by omega), j_wI_ne _ _ _ (by omega)]
  have d3 : D1.1 r0 6 = Int32.ofNat (q + 1) := by rw [hD1, k_ws]
  have d4 : ∀ k, D1.1 (r0 + 8) k = if k = q then b else D.1 (r0 + 8) k := fun k => by rw [hD1, j_wI_ne _ _ _ (by omega), j_wI_ne _ _ _ (by omega), j_wI_at]
  have d5 : ∀ k, D1.1 (r0 + 9) k = if k = q then u else D.1 (r0 + 9) k := fun k => by rw [hD1, j_wI_ne _ _ _ (by omega), j_wI_at, j_wI_ne _ _ _ (by omega)]
  have rs1 : j_row D1 (r0 + 1) n g := j_row_fr s2 (d1 _ (by omega) (by omega) (by omega)) (d1 _ (by omega) (by omega) (by omega))
  have ro1 : j_row D1 (r0 + 3) L out := j_row_fr o2 (d1 _ (by omega) (by omega) (by omega)) (d1 _ (by omega) (by omega) (by omega))
  obtain ⟨D2, e2, r2, f2⟩ := j_row_fade ro1 rs1 ⟨by omega, by omega⟩ (Int32.ofNat r) (x + b) o (by omega) (by omega) (by omega) (by omega) (by omega) (by omega)
  have rs2 : j_row D2 (r0 + 1) n g := j_row_by rs1 f2 (by omega) (by omega)
  have ero : (Int32.ofNat r + Int32.ofNat o).toInt = (r : Int) + o := by rw [k_A, j_nat (by omega), j_nat (by omega)]; omega
  have exo : (x + b + Int32.ofNat o).toInt = (x + b).toInt + o := by rw [k_A, j_nat (by omega)]; omega
  obtain ⟨D3, e3, r3, f3⟩ := j_row_lay r2 rs2 ⟨by omega, by omega⟩ (Int32.ofNat r + Int32.ofNat o) (x + b + Int32.ofNat o) (w - o) (by omega) (by omega) (by omega) (by omega) (by omega)
  rw [hri] at r2 r3
  rw [ero, exo] at r3
  have f13 : ∀ y, y ≠ r0 → y ≠ r0 + 8 → y ≠ r0 + 9 → y ≠ r0 + 4 → D3.1 y = D.1 y := fun y a1 a2 a3 a4 => by rw [(f3 y (by omega)).1, (f2 y (by omega)).1, d1 y a1 a2 a3]
  have f13b : ∀ y, y ≠ r0 + 4 → D3.1 y = D1.1 y := fun y a4 => by rw [(f3 y (by omega)).1, (f2 y (by omega)).1]
  have hcls : f_X3_layPiece r0 (Int32.ofNat r) p D = some D3 := by
    unfold f_X3_layPiece
    have g1 : ¬ D.1 r0 6 < 0 := by rw [o6, j_lt, j_nat (by omega), e0]; omega
    have g2 : ¬ (600 : Int32) ≤ D.1 r0 6 := by
      have e : (600 : Int32).toInt = 600 := rfl
      rw [o6, j_le, j_nat (by omega), e]; omega
    rw [k_cplace s6 s8, ← hxe]
    simp only [Option.bind_some]
    rw [efd, b1]
    simp only [Option.bind_some]
    rw [if_neg g1, if_neg g2, o6, k_p _ hq (by omega)]
    simp only [Option.bind_some]
    have w1 : (am_wI D (r0 + 8) q b).1 (r0 + 3) = D.1 (r0 + 3) := j_wI_ne _ _ _ (by omega)
    have w2 : (am_wI D (r0 + 8) q b).1 r0 6 = Int32.ofNat q := by rw [j_wI_ne _ _ _ (by omega)]; exact o6
    have un := j_row_unlike (j_row_fr s2 (D2 := am_wI D (r0 + 8) q b) (j_wI_ne _ _ _ (by omega)) (j_wI_ne _ _ _ (by omega))) (j_row_fr o2 (D2 := am_wI D (r0 + 8) q b) (j_wI_ne _ _ _ (by omega)) (j_wI_ne _ _ _ (by omega))) (x + b) (Int32.ofNat r) (min o (L - r)) (by omega) (by omega) (by omega) (by omega) (by omega)
    rw [hri, ← hu] at un
    rw [un]
    simp only [Option.bind_some]
    rw [w2, k_p _ hq (by omega)]
    simp only [Option.bind_some]
    have w3 : (am_wI (am_wI D (r0 + 8) q b) (r0 + 9) q u).1 r0 6 = Int32.ofNat q := by rw [j_wI_ne _ _ _ (by omega)]; exact w2
    rw [w3, j_suc, ← hD1, d1 p (by omega) (by omega) (by omega), p2, e2]
    simp only [Option.bind_some]
    rw [(f2 p (by omega)).1, d1 p (by omega) (by omega) (by omega), p2, (f2 r0 (by omega)).1, d2 5 (by decide), o8, e3]
    rfl
  -- the reference
  obtain ⟨E1, hE1⟩ : ∃ E1, E1 = am_wI (am_wI (am_wI (am_wI E (225 + q) 0 (Int32.ofNat r)) (225 + q) 1 b) (225 + q) 2 u) 117 39 (Int32.ofNat (q + 1)) := ⟨_, rfl⟩
  have h1 : ∀ y, y ≠ 117 → y ≠ 225 + q → E1.1 y = E.1 y := fun y a1 a2 => by rw [hE1, j_wI_ne _ _ _ a1, j_wI_ne _ _ _ a2, j_wI_ne _ _ _ a2, j_wI_ne _ _ _ a2]
  have h2 : ∀ j, j ≠ 39 → E1.1 117 j = E.1 117 j := fun j a1 => by rw [hE1, k_wj _ _ a1, j_wI_ne _ _ _ (by omega), j_wI_ne _ _ _ (by omega), j_wI_ne _ _ _ (by omega)]
  have h3 : E1.1 117 39 = Int32.ofNat (q + 1) := by rw [hE1, k_ws]
  have h4 : E1.1 (225 + q) 0 = Int32.ofNat r ∧ E1.1 (225 + q) 1 = b ∧ E1.1 (225 + q) 2 = u := by
    rw [hE1]
    refine ⟨?_, ?_, ?_⟩
    · rw [j_wI_ne _ _ _ (by omega), k_wj _ _ (by decide), k_wj _ _ (by decide), k_ws]
    · rw [j_wI_ne _ _ _ (by omega), k_wj _ _ (by decide), k_ws]
    · rw [j_wI_ne _ _ _ (by omega), k_ws]
  obtain ⟨E2, m2, a2, c2, c3⟩ := k_rpiece (E := E1) (k_arr_by s4 (h1 221 (by decide) (by omega))) (k_arr_by o4 (h1 222 (by decide) (by omega))) s1 o1 o1c hrc (by rw [h2 14 (by decide)]; exact p4) (by rw [h2 15 (by decide)]; exact p5) (by rw [h2 38 (by decide)]; exact o3) v3 (by omega) (by omega) (by omega) hr x b b3 (by omega)
  have href : f_X12_lies (Int32.ofNat r) E = some E2 := by
    unfold f_X12_lies
    have cz : (0 : Int32) ≤ x := by rw [j_le, e0]; exact hx0
    have i1 : (if (0 : Int32) ≤ x then if x ≤ E.1 117 36 - E.1 117 14 then some (0 : Int32) else some (E.1 117 36 - E.1 117 14 - x) else some (-x)) = some (if x.toInt ≤ (n - w : Nat) then 0 else Int32.ofNat (n - w) - x) := by
      rw [if_pos cz, elast]
      by_cases c : x.toInt ≤ (n - w : Nat)
      · rw [if_pos c, if_pos (by rw [j_le, j_nat (by omega)]; exact c)]
      · rw [if_neg c, if_neg (by rw [j_le, j_nat (by omega)]; exact c)]
    rw [k_rplace s7 s8, ← hxe]
    simp only [Option.bind_some]
    rw [i1]
    simp only [Option.bind_some]
    rw [elast, b2]
    simp only [Option.bind_some]
    rw [o7, k_a (by omega) (by omega)]
    simp only [Option.bind_some]
    have z0 : (0 : Int32) = Int32.ofNat 0 := rfl
    have z1 : (1 : Int32) = Int32.ofNat 1 := rfl
    have z2 : (2 : Int32) = Int32.ofNat 2 := rfl
    have pp0 : ∀ (X : am_D) (y : Nat) (v : Int32), am_pI X y 3 (0 : Int32) v = some (am_wI X y 0 v) := fun X y v => k_p (k := 0) v (by omega) (by omega)
    have pp1 : ∀ (X : am_D) (y : Nat) (v : Int32), am_pI X y 3 (1 : Int32) v = some (am_wI X y 1 v) := fun X y v => k_p (k := 1) v (by omega) (by omega)
    have pp2 : ∀ (X : am_D) (y : Nat) (v : Int32), am_pI X y 3 (2 : Int32) v = some (am_wI X y 2 v) := fun X y v => k_p (k := 2) v (by omega) (by omega)
    rw [pp0]
    simp only [Option.bind_some]
    have y1 : (am_wI E (225 + q) 0 (Int32.ofNat r)).1 117 39 = Int32.ofNat q := by rw [j_wI_ne _ _ _ (by omega)]; exact o7
    rw [y1, k_a (by omega) (by omega)]
    simp only [Option.bind_some]
    rw [pp1]
    simp only [Option.bind_some]
    have y2 : (am_wI (am_wI E (225 + q) 0 (Int32.ofNat r)) (225 + q) 1 b).1 117 39 = Int32.ofNat q := by rw [j_wI_ne _ _ _ (by omega)]; exact y1
    rw [y2, k_a (by omega) (by omega)]
    simp only [Option.bind_some]
    have y3 : (if a = 0 then (f_X12_unlike (Int32.ofNat r) (x + b) (am_wI (am_wI E (225 + q) 0 (Int32.ofNat r)) (225 + q) 1 b)).bind fun x38 => some x38 else some l) = some u := by
      rcases b5 with ha | ⟨ha, hl⟩
      · rw [if_pos ha]
        have ee : ∀ y, y ≠ 225 + q → (am_wI (am_wI E (225 + q) 0 (Int32.ofNat r)) (225 + q) 1 b).1 y = E.1 y := fun y hy => by rw [j_wI_ne _ _ _ hy, j_wI_ne _ _ _ hy]
        rw [k_runl (k_arr_by s4 (ee 221 (by omega))) (k_arr_by o4 (ee 222 (by omega))) s1 o1 (by omega) hrc (by rw [ee 117 (by omega)]; exact p5) (by rw [ee 117 (by omega)]; exact o3) (by omega) hr (x + b) b3 (by omega), ← hu]
        rfl
      · rw [if_neg (by rw [ha]; decide), hl, ← hu]
    rw [y3]
    simp only [Option.bind_some]
    rw [pp2]
    simp only [Option.bind_some]
    have y4 : (am_wI (am_wI (am_wI E (225 + q) 0 (Int32.ofNat r)) (225 + q) 1 b) (225 + q) 2 u).1 117 39 = Int32.ofNat q := by rw [j_wI_ne _ _ _ (by omega)]; exact y2
    rw [y4, j_suc, ← hE1, m2]
    rfl
  refine ⟨D3, E2, _, hcls, href, ⟨s1, ?_, ?_, ?_, s5, ?_, ?_, s8, s9⟩, ⟨⟨o1, by omega⟩, r3, ?_, ?_, ?_, ?_, ?_, ?_, o9, o10, ?_, hq, ?_⟩, ?_, ?_, ?_, ?_⟩
  · exact j_row_fr s2 (f13 _ (by omega) (by omega) (by omega) (by omega)) (f13 _ (by omega) (by omega) (by omega) (by omega))
  · rw [c2 117 (by decide), h2 36 (by decide)]; exact s3
  · exact k_arr_by s4 (by rw [c2 221 (by decide), h1 221 (by decide) (by omega)])
  · exact j_map_fr s6 (f13 _ (by omega) (by omega) (by omega) (by omega)) (f13 _ (by omega) (by omega) (by omega) (by omega)) (f13 _ (by omega) (by omega) (by omega) (by omega))
  · exact k_fm_by s7 (by rw [c2 117 (by decide), h2 37 (by decide)]) (by rw [c2 223 (by decide), h1 223 (by decide) (by omega)])
  · rw [c2 117 (by decide), h2 38 (by decide)]; exact o3
  · intro y hy
    rw [a2 y hy]
    unfold k_pw j_lays j_fades k_mix
    by_cases c1 : (r : Int) ≤ y ∧ (y : Int) < r + w
    · rw [if_pos c1]
      by_cases c4 : (y : Int) < r + o
      · rw [if_pos c4, if_neg (by omega), if_pos (by omega)]
      · rw [if_neg c4, if_pos (by omega)]
        congr 1
        omega
    · rw [if_neg c1, if_neg (by omega), if_neg (by omega)]
  · intro y
    unfold j_lays j_fades
    by_cases c1 : (r : Int) + o ≤ y ∧ y < (r : Int) + o + (w - o : Nat) ∧ 0 ≤ y ∧ y < L
    · rw [if_pos c1]; exact s5 _
    · rw [if_neg c1]
      by_cases c4 : (r : Int) ≤ y ∧ y < r + o ∧ 0 ≤ y ∧ y < L
      · rw [if_pos c4]
        exact k_mix_bd (o5 _) (s5 _) v3 (by omega) (by omega)
      · rw [if_neg c4]; exact o5 _
  · rw [f13b r0 (by omega)]; exact d3
  · rw [c2 117 (by decide)]; exact h3
  · rw [f13b r0 (by omega), d2 5 (by decide)]; exact o8
  · exact Or.inr (by rw [← hre]; exact hr)
  · intro k hk
    by_cases c1 : k = q
    · subst c1
      rw [c2 (225 + k) (by omega), h4.1, h4.2.1, h4.2.2, f13b (r0 + 8) (by omega), f13b (r0 + 9) (by omega), d4, d5, if_pos rfl, if_pos rfl, hre]
      exact ⟨rfl, rfl, rfl⟩
    · have := o13 k (by omega)
      rw [c2 (225 + k) (by omega), h1 (225 + k) (by omega) (by omega), f13b (r0 + 8) (by omega), f13b (r0 + 9) (by omega), d4, d5, if_neg c1, if_neg c1]
      exact this
  · intro y hy
    refine ⟨f13 y (by omega) (by omega) (by omega) (by omega), ?_⟩
    rw [(f3 y (by omega)).2, (f2 y (by omega)).2, hD1]
    rfl
  · refine ⟨fun y a1 a2 => by rw [c2 y (by omega), h1 y a1 (by omega)], fun j a1 => by rw [c2 117 (by decide), h2 j (by omega)], by rw [c3, hE1]; rfl⟩
  · rw [f13b r0 (by omega), d2 7 (by decide)]
  · rw [c2 117 (by decide), h2 40 (by decide)]
