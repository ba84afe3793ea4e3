/-! a piece of a drawing, on both sides -/
def k_bnd (f : Int → Int32) : Prop := ∀ k : Int, -2047 ≤ (f k).toInt ∧ (f k).toInt ≤ 2047
theorem k_ab (x : Int32) (h : -100000000 ≤ x.toInt) : (am_ab x).toInt = if 0 ≤ x.toInt then x.toInt else -x.toInt := by
  unfold am_ab
  have e0 : (0 : Int32).toInt = 0 := rfl
  have hr := k_R x
  by_cases c : 0 ≤ x
  · have := (j_le 0 x).mp c
    rw [if_pos c, if_pos (by omega)]
  · have := (not_congr (j_le 0 x)).mp c
    rw [if_neg c, if_neg (by omega), k_S, e0]
    omega
theorem k_unl_bd {f g : Int → Int32} (hf : k_bnd f) (hg : k_bnd g) (a b : Int) : ∀ c : Nat, c ≤ 2000 → 0 ≤ (j_unl f g a b c).toInt ∧ (j_unl f g a b c).toInt ≤ 4094 * c
  | 0, _ => ⟨Int.le_refl _, Int.le_refl _⟩
  | c + 1, h => by
    have h1 := k_unl_bd hf hg a b c (by omega)
    have e : j_unl f g a b (c + 1) = j_unl f g a b c + am_ab (f (a + c) - g (b + c)) := rfl
    have b1 := hf (a + c)
    have b2 := hg (b + c)
    have e2 : (f (a + c) - g (b + c)).toInt = (f (a + c)).toInt - (g (b + c)).toInt := by rw [k_S]; omega
    have e3 := k_ab (f (a + c) - g (b + c)) (by omega)
    rw [e2] at e3
    rw [e, k_A, e3]
    split <;> omega
theorem k_runl {E : am_D} {n L c o r : Nat} {g out : Int → Int32} (hg : k_arr E 221 n g) (ho : k_arr E 222 c out) (hn : n ≤ 1200) (hL : L ≤ 1200) (hc : c ≤ 1200) (hrc : r + min o (L - r) ≤ c) (e15 : E.1 117 15 = Int32.ofNat o) (e38 : E.1 117 38 = Int32.ofNat L) (ho2 : o ≤ 100) (hr : r < L) (p : Int32) (hp : 0 ≤ p.toInt) (hp2 : p.toInt + (min o (L - r) : Nat) ≤ n) :
    f_X12_unlike (Int32.ofNat r) p E = some (j_unl g out p.toInt r (min o (L - r))) := by
  unfold f_X12_unlike
  have key := k_ind (P := fun fu k => f_X12_unlike_L5 (Int32.ofNat r) p E fu (j_unl g out p.toInt r k) (Int32.ofNat k) = some (j_unl g out p.toInt r (min o (L - r)))) (min o (L - r))
    (by
      intro fu k hk ih
      have e1 : Int32.ofNat r + Int32.ofNat k = Int32.ofNat (r + k) := (Int32.ofNat_add r k).symm
      have e2 : (p + Int32.ofNat k).toInt = p.toInt + k := by rw [k_A, j_nat (by omega)]; omega
      have e3 : (Int32.ofNat (r + k)).toInt = (r : Int) + k := by rw [j_nat (by omega)]; omega
      rw [f_X12_unlike_L5, e15, e38, e1, if_neg (by simp only [j_le, k_N]; omega), if_neg (by simp only [j_le, k_N]; omega), k_arr_g hg (by omega) (by omega) hn, k_arr_g ho (by omega) (by omega) hc, e2, e3, j_suc]
      simp only [Option.bind_some, k_amount]
      exact ih) (by
      intro fu
      rw [f_X12_unlike_L5, e15, e38]
      by_cases c : o ≤ min o (L - r)
      · rw [if_pos (by simp only [j_le, k_N]; omega)]
      · rw [if_neg (by simp only [j_le, k_N]; omega), ← Int32.ofNat_add, if_pos (by simp only [j_le, k_N]; omega)]) am_fu 0 (by omega) (by unfold am_fu; omega)
  have key2 : f_X12_unlike_L5 (Int32.ofNat r) p E am_fu (0 : Int32) (0 : Int32) = _ := key
  rw [key2]
  rfl
theorem k_and1 (k : Nat) (h : k < 2147483648) : Int32.ofNat k &&& 1 = Int32.ofNat (k % 2) := by
  apply Int32.toBitVec.inj
  apply BitVec.eq_of_toNat_eq
  show (BitVec.ofNat 32 k &&& 1#32).toNat = (BitVec.ofNat 32 (k % 2)).toNat
  simp only [BitVec.toNat_and, BitVec.toNat_ofNat]
  have e : 1 % 2 ^ 32 = 1 := by decide
  rw [e, Nat.and_one_is_mod]
  omega
theorem k_rmN {x y : Nat} (hx : x < 2147483648) (hy : 0 < y) (hy2 : y < 2147483648) : am_rm (Int32.ofNat x) (Int32.ofNat y) = some (Int32.ofNat (x % y)) := by
  unfold am_rm
  have h1 := Nat.div_add_mod x y
  have h2 := Nat.mod_lt x hy
  have h3 := Nat.mul_comm y (x / y)
  rw [if_neg (by rw [j_eq, j_nat hy2]; show ¬ (y : Int) = 0; omega), k_dvN hx hy hy2]
  congr 1
  rw [← Int32.ofNat_mul, j_eq, k_S, j_nat (by omega), j_nat (by omega), j_nat (by omega)]
  omega
theorem k_dvn {x y : Nat} (hx : x < 2147483648) (hy : 0 < y) (hy2 : y < 2147483648) : am_dv (Int32.ofNat x) (Int32.ofNat y) = some (Int32.ofNat (x / y)) := by
  unfold am_dv
  rw [if_neg (by rw [j_eq, j_nat hy2]; show ¬ (y : Int) = 0; omega), k_dvN hx hy hy2]
theorem k_dvG {x y : Nat} (hx : x < 2147483648) (hy : 0 < y) (hy2 : y < 2147483648) : -(Int32.ofNat x) / Int32.ofNat y = -(Int32.ofNat (x / y)) := by
  have h1 := Nat.div_le_self x y
  have n1 : (-(Int32.ofNat x)).toInt = -(x : Int) := by rw [k_G, j_nat hx]; omega
  have n2 : (-(Int32.ofNat (x / y))).toInt = -((x / y : Nat) : Int) := by
    generalize x / y = z at h1
    rw [k_G, j_nat (by omega)]
    omega
  rw [j_eq, k_D _ _ (by rw [j_nat hy2]; omega), n1, n2, j_nat hy2]
  unfold k_q
  by_cases c : 0 ≤ -(x : Int)
  · have e : x = 0 := by omega
    subst e
    simp
  · rw [if_neg c]
    have e : -(-(x : Int)) = x := by omega
    rw [e]
    rfl
/-- the offsets in the order in which they are tried -/
def k_of (k : Nat) : Int32 := if k % 2 = 1 then -(Int32.ofNat (k / 2 + 1)) else Int32.ofNat (k / 2)
theorem k_of_bd (k : Nat) (h : k ≤ 40) : -40 ≤ (k_of k).toInt ∧ (k_of k).toInt ≤ 40 := by
  unfold k_of
  by_cases c : k % 2 = 1
  · rw [if_pos c, k_G, j_nat (by omega)]; omega
  · rw [if_neg c, j_nat (by omega)]; omega
/-- the pieces that may be -/
def k_pv (w o s : Nat) : Prop := 4 ≤ w ∧ w ≤ 64 ∧ 1 ≤ o ∧ o ≤ w / 2 ∧ s ≤ 20
/-- source and map of a drawing -/
def k_sr (D E : am_D) (r0 n : Nat) (g : Int → Int32) (m : Nat) (f t : Int → Int32) : Prop :=
  n ≤ 1200 ∧ j_row D (r0 + 1) n g ∧ E.1 117 36 = Int32.ofNat n ∧ k_arr E 221 n g ∧ k_bnd g ∧ j_map D (r0 + 5) m f t ∧ k_fm E m f t ∧ k_mv m f t ∧ (f ((m : Int) - 1)).toInt ≤ n
/-- what is drawn, and its seams -/
def k_or (D E : am_D) (r0 L c : Nat) (out : Int → Int32) (q st : Nat) : Prop :=
  (L ≤ 1200 ∧ c ≤ L) ∧ j_row D (r0 + 3) L out ∧ E.1 117 38 = Int32.ofNat L ∧ k_arr E 222 c out ∧ k_bnd out ∧ D.1 r0 6 = Int32.ofNat q ∧ E.1 117 39 = Int32.ofNat q ∧ D.1 r0 5 = Int32.ofNat st ∧ 1 ≤ st ∧ st ≤ 64 ∧ (q = 0 ∨ q * st < L) ∧ q ≤ 600 ∧
    ∀ k : Nat, k < q → E.1 (225 + k) 0 = Int32.ofNat ((k + 1) * st) ∧ E.1 (225 + k) 1 = D.1 (r0 + 8) k ∧ E.1 (225 + k) 2 = D.1 (r0 + 9) k
/-- the pieces by which it is drawn -/
def k_ps (D E : am_D) (p w o s : Nat) : Prop := k_pv w o s ∧ D.1 p 0 = Int32.ofNat w ∧ D.1 p 1 = Int32.ofNat o ∧ D.1 p 2 = Int32.ofNat s ∧ E.1 117 14 = Int32.ofNat w ∧ E.1 117 15 = Int32.ofNat o ∧ E.1 117 16 = Int32.ofNat s
/-- the best offset -/
theorem k_best {D E : am_D} {r0 p n m L c q st w o s r : Nat} {g f t out : Int → Int32} (hs : k_sr D E r0 n g m f t) (ho : k_or D E r0 L c out q st) (hrc : r + min o (L - r) ≤ c) (hp : k_ps D E p w o s) (hr : r < L) (hw : w ≤ n) (x : Int32) (hx : 0 ≤ x.toInt) (hx2 : x.toInt ≤ 2000) :
    ∃ b l a : Int32, f_X3_bestOffset r0 (Int32.ofNat r) x (Int32.ofNat (min o (L - r))) p D = some b ∧
      f_X12_lies_L48 (Int32.ofNat r) x (Int32.ofNat (n - w)) E am_fu (if x.toInt ≤ (n - w : Nat) then 0 else Int32.ofNat (n - w) - x) (-1) 0 0 = some (b, l, a) ∧
      0 ≤ (x + b).toInt ∧ (x + b).toInt ≤ (n - w : Nat) ∧ ((a = 0) ∨ (a = 1 ∧ l = j_unl g out (x + b).toInt r (min o (L - r)))) := by
  obtain ⟨s1, s2, s3, s4, s5, s6, s7, s8, s9⟩ := hs
  obtain ⟨⟨o1, o1c⟩, o2, o3, o4, o5, o6, o7, o8, o9, o10, o11, o12, o13⟩ := ho
  obtain ⟨⟨v1, v2, v3, v4, v5⟩, p1, p2, p3, p4, p5, p6⟩ := hp
  have e0 : (0 : Int32).toInt = 0 := rfl
  have em : D.1 (r0 + 1) 1 - D.1 p 0 = Int32.ofNat (n - w) := by
    rw [s2.2.2.1, p1, j_eq, k_S, j_nat (by omega), j_nat (by omega), j_nat (by omega)]
    omega
  -- the first choice
  obtain ⟨i0, hi0⟩ : ∃ i0 : Int32, i0 = if x.toInt ≤ (n - w : Nat) then 0 else Int32.ofNat (n - w) - x := ⟨_, rfl⟩
  have hi : (x + i0).toInt = min x.toInt (n - w : Nat) := by
    rw [hi0]
    by_cases c : x.toInt ≤ (n - w : Nat)
    · rw [if_pos c, k_A, e0]; omega
    · rw [if_neg c, k_A, k_S, j_nat (by omega)]; omega
  have hi2 : am_mx 0 (am_mn x (Int32.ofNat (n - w))) - x = i0 := by
    have h1 : (am_mx 0 (am_mn x (Int32.ofNat (n - w)))).toInt = min x.toInt (n - w : Nat) := by rw [j_mx, j_mn, j_nat (by omega), e0]; omega
    rw [hi0]
    by_cases c : x.toInt ≤ (n - w : Nat)
    · rw [if_pos c, j_eq, k_S, h1, e0]; omega
    · rw [if_neg c, j_eq, k_S, h1, k_S, j_nat (by omega)]; omega
  have key := k_ind (P := fun fu k => ∀ (b cl l a : Int32), 0 ≤ (x + b).toInt → (x + b).toInt ≤ (n - w : Nat) → ((a = 0 ∧ cl = -1) ∨ (a = 1 ∧ cl = l ∧ l = j_unl g out (x + b).toInt r (min o (L - r)))) →
      ∃ b' l' a' : Int32, f_X3_bestOffset_L32 r0 (Int32.ofNat r) x (Int32.ofNat (min o (L - r))) p (Int32.ofNat (n - w)) D fu b cl (Int32.ofNat k) = some b' ∧
        f_X12_lies_L48 (Int32.ofNat r) x (Int32.ofNat (n - w)) E fu b l a (Int32.ofNat k) = some (b', l', a') ∧ 0 ≤ (x + b').toInt ∧ (x + b').toInt ≤ (n - w : Nat) ∧ ((a' = 0) ∨ (a' = 1 ∧ l' = j_unl g out (x + b').toInt r (min o (L - r))))) (2 * s + 1)
    (by
      intro fu k hk ih b cl l a h1 h2 h3
      have c1 : ¬ (2 : Int32) * Int32.ofNat s < Int32.ofNat k := by
        have e : (2 : Int32) * Int32.ofNat s = Int32.ofNat (2 * s) := (Int32.ofNat_mul 2 s).symm
        rw [e]
        simp only [j_lt, k_N]; omega
      have ob := k_of_bd k (by omega)
      have ex : (x + k_of k).toInt = x.toInt + (k_of k).toInt := by rw [k_A]; omega
      have cu : ∀ h : 0 ≤ (x + k_of k).toInt ∧ (x + k_of k).toInt ≤ (n - w : Nat), f_X7_unlike (r0 + 1) (x + k_of k) (r0 + 3) (Int32.ofNat r) (Int32.ofNat (min o (L - r))) D = some (j_unl g out (x + k_of k).toInt r (min o (L - r))) := fun h => by
        have := j_row_unlike s2 o2 (x + k_of k) (Int32.ofNat r) (min o (L - r)) (by omega) (by omega) (by omega) (by rw [j_nat (by omega)]; omega) (by rw [j_nat (by omega)]; omega)
        rw [j_nat (by omega)] at this
        exact this
      have ru : ∀ h : 0 ≤ (x + k_of k).toInt ∧ (x + k_of k).toInt ≤ (n - w : Nat), f_X12_unlike (Int32.ofNat r) (x + k_of k) E = some (j_unl g out (x + k_of k).toInt r (min o (L - r))) := fun h => k_runl s4 o4 s1 o1 (by omega) hrc p5 o3 (by omega) hr (x + k_of k) h.1 (by omega)
      have rm := k_rmN (x := k) (y := 2) (by omega) (by omega) (by omega)
      have hnz : ¬ (1 : Int32) = 0 := by decide
      have ub := k_unl_bd s5 o5 (x + k_of k).toInt r (min o (L - r)) (by omega)
      -- the offset on both sides
      have oc : (if Int32.ofNat k &&& 1 = 1 then some (-(Int32.ofNat k + 1) / 2) else some (Int32.ofNat k / 2)) = some (k_of k) := by
        rw [k_and1 k (by omega)]
        unfold k_of
        by_cases c : k % 2 = 1
        · rw [c, if_pos (by decide), if_pos rfl]
          congr 1
          have e9 : k / 2 + 1 = (k + 1) / 2 := by omega
          rw [j_suc, e9]
          exact k_dvG (y := 2) (by omega) (by omega) (by omega)
        · have c : k % 2 = 0 := by omega
          rw [c, if_neg (by decide), if_neg (by omega)]
          exact congrArg some (k_dvN (y := 2) (by omega) (by omega) (by omega))
      have orr : (if Int32.ofNat (k % 2) = 1 then some (-(Int32.ofNat k / 2 + 1)) else some (Int32.ofNat k / 2)) = some (k_of k) := by
        have e2 : Int32.ofNat k / 2 = Int32.ofNat (k / 2) := k_dvN (y := 2) (by omega) (by omega) (by omega)
        unfold k_of
        rw [e2, j_suc]
        by_cases c : k % 2 = 1
        · rw [c, if_pos (by decide), if_pos rfl]
        · have c : k % 2 = 0 := by omega
          rw [c, if_neg (by decide), if_neg (by omega)]
      rw [f_X3_bestOffset_L32, f_X12_lies_L48, p3, p6, if_neg c1, if_neg c1, oc]
      have rm : am_rm (Int32.ofNat k) 2 = some (Int32.ofNat (k % 2)) := rm
      rw [rm]
      simp only [Option.bind_some]
      rw [orr]
      simp only [Option.bind_some, k_cwithin, k_in, j_suc]
      rw [e0, j_nat (by omega)]
      by_cases ci : 0 ≤ (x + k_of k).toInt ∧ (x + k_of k).toInt ≤ (n - w : Nat)
      · rw [if_pos ci, if_neg hnz, if_neg hnz, cu ci, ru ci]
        simp only [Option.bind_some]
        rcases h3 with ⟨ha, hc⟩ | ⟨ha, hc, hl⟩
        · rw [ha, hc, if_pos (by decide), if_pos rfl]
          simp only [Option.bind_some]
          exact ih _ _ _ _ ci.1 ci.2 (Or.inr ⟨rfl, rfl, rfl⟩)
        · have ub2 := k_unl_bd s5 o5 (x + b).toInt r (min o (L - r)) (by omega)
          rw [ha, if_neg hnz, hc, hl, if_neg (by rw [j_lt, e0]; omega)]
          by_cases cl2 : j_unl g out (x + k_of k).toInt r (min o (L - r)) < j_unl g out (x + b).toInt r (min o (L - r))
          · rw [if_neg (by rw [j_le]; rw [j_lt] at cl2; omega), if_pos cl2]
            simp only [Option.bind_some]
            exact ih _ _ _ _ ci.1 ci.2 (Or.inr ⟨rfl, rfl, rfl⟩)
          · rw [if_pos (by rw [j_le]; rw [j_lt] at cl2; omega), if_neg cl2]
            simp only [Option.bind_some]
            exact ih _ _ _ _ h1 h2 (Or.inr ⟨rfl, rfl, rfl⟩)
      · rw [if_neg ci, if_pos rfl, if_pos rfl]
        simp only [Option.bind_some]
        exact ih _ _ _ _ h1 h2 h3) (by
      intro fu b cl l a h1 h2 h3
      have c1 : (2 : Int32) * Int32.ofNat s < Int32.ofNat (2 * s + 1) := by
        have e : (2 : Int32) * Int32.ofNat s = Int32.ofNat (2 * s) := (Int32.ofNat_mul 2 s).symm
        rw [e]
        simp only [j_lt, k_N]; omega
      rw [f_X3_bestOffset_L32, f_X12_lies_L48, p3, p6, if_pos c1, if_pos c1]
      refine ⟨b, l, a, rfl, rfl, h1, h2, ?_⟩
      rcases h3 with ⟨ha, _⟩ | ⟨ha, _, hl⟩
      · exact Or.inl ha
      · exact Or.inr ⟨ha, hl⟩) am_fu 0 (by omega) (by unfold am_fu; omega) i0 (-1) (-1) 0 (by omega) (by omega) (Or.inl ⟨rfl, rfl⟩)
  obtain ⟨b, l, a, k1, k2, k3, k4, k5⟩ := key
  have k1 : f_X3_bestOffset_L32 r0 (Int32.ofNat r) x (Int32.ofNat (min o (L - r))) p (Int32.ofNat (n - w)) D am_fu i0 (-1) (0 : Int32) = some b := k1
  have k2 : f_X12_lies_L48 (Int32.ofNat r) x (Int32.ofNat (n - w)) E am_fu i0 (-1) 0 (0 : Int32) = some (b, l, a) := k2
  refine ⟨b, l, a, ?_, by rw [← hi0]; exact k2, k3, k4, k5⟩
  unfold f_X3_bestOffset f_X11_bounded
  rw [em]
  simp only [Option.bind_some]
  rw [hi2, k1]
  rfl
