/-! steady -/
theorem k_riseR {D E : am_D} {r n : Nat} {f t : Int → Int32} (h : k_mk D E r n f t) (x y : Int32) : f_X12_rises (Int32.ofNat n) x y E = some (if x.toInt ≤ (f ((n : Int) - 1)).toInt ∨ y.toInt ≤ (t ((n : Int) - 1)).toInt then 0 else 1) := by
  have e0 : (0 : Int32).toInt = 0 := rfl
  have hn := h.1.1
  unfold f_X12_rises
  by_cases c : n = 0
  · subst c
    have q := h.1.2.2.2 (((0 : Nat) : Int) - 1) (Or.inl (by omega))
    rw [if_pos (show Int32.ofNat 0 = 0 from rfl), q.1, q.2, e0]
    by_cases c1 : x ≤ 0
    · have := (j_le x 0).mp c1
      rw [if_pos c1, if_pos (by omega)]
    · have := (not_congr (j_le x 0)).mp c1
      rw [if_neg c1]
      by_cases c2 : y ≤ 0
      · have := (j_le y 0).mp c2
        rw [if_pos c2, if_pos (by omega)]
      · have := (not_congr (j_le y 0)).mp c2
        rw [if_neg c2, if_neg (by omega)]
  · have en : Int32.ofNat n - 1 = Int32.ofNat (n - 1) := by rw [j_eq, j_pred n (by omega), j_nat (by omega)]; omega
    have p0 : ∀ (X : am_D) (y : Nat), am_gI X y 2 (0 : Int32) = some (X.1 y 0) := fun X y => k_g (k := 0) (by omega) (by omega)
    have p1 : ∀ (X : am_D) (y : Nat), am_gI X y 2 (1 : Int32) = some (X.1 y 1) := fun X y => k_g (k := 1) (by omega) (by omega)
    have e1 : (n : Int) - 1 = ((n - 1 : Nat) : Int) := by omega
    rw [if_neg (by rw [j_eq, j_nat (by omega), e0]; omega), en, k_a (by omega) (by omega), Option.bind_some, p0, (h.2 (n - 1) (by omega)).1, Option.bind_some, e1]
    by_cases c1 : x ≤ f ((n - 1 : Nat) : Int)
    · have := (j_le _ _).mp c1
      rw [if_pos c1, if_pos (Or.inl this)]
    · have c1' := (not_congr (j_le _ _)).mp c1
      rw [if_neg c1, Option.bind_some, p1, (h.2 (n - 1) (by omega)).2, Option.bind_some]
      by_cases c2 : y ≤ t ((n - 1 : Nat) : Int)
      · have := (j_le _ _).mp c2
        rw [if_pos c2, if_pos (Or.inr this)]
      · have c2' := (not_congr (j_le _ _)).mp c2
        rw [if_neg c2, if_neg (by omega)]
/-- the marks' frame -/
def k_fm2 (r : Nat) (D D2 E E2 : am_D) : Prop := j_fr (fun q => q = r ∨ q = r + 1 ∨ q = r + 2) D D2 ∧ (∀ y, ¬ (121 ≤ y ∧ y < 133) → E2.1 y = E.1 y) ∧ E2.2 = E.2
theorem k_fm2_refl (r : Nat) (D E : am_D) : k_fm2 r D D E E := ⟨j_fr_refl _ _, fun _ _ => rfl, rfl⟩
theorem k_fm2_trans {r : Nat} {D D2 D3 E E2 E3 : am_D} (h : k_fm2 r D D2 E E2) (g : k_fm2 r D2 D3 E2 E3) : k_fm2 r D D3 E E3 := ⟨j_fr_trans h.1 g.1 (fun _ h => h) (fun _ h => h), fun y hy => (g.2.1 y hy).trans (h.2.1 y hy), g.2.2.trans h.2.2⟩
/-- marks on both sides that rise and keep below the bounds -/
def k_good (D E : am_D) (r n L B : Nat) : Prop := ∃ f t, k_mk D E r n f t ∧ k_up n f t ∧ (f ((n : Int) - 1)).toInt < L ∧ (t ((n : Int) - 1)).toInt ≤ B
/-- one mark more or none, where it rises -/
theorem k_step1 {D E : am_D} {r n L B x y : Nat} (hg : k_good D E r n L B) (hn : n < 12) (hx : x < L) (hL : L ≤ 600) (hy : y ≤ B) (hB : B ≤ 1000000) :
    ∃ D2 E2 n2, ((f_X9_lastFrom r D).bind fun x12 => if Int32.ofNat x ≤ x12 then some D else (f_X9_lastTo r D).bind fun x15 => if Int32.ofNat y ≤ x15 then some D else f_X9_add r (Int32.ofNat x) (Int32.ofNat y) D) = some D2 ∧
      ((f_X12_rises (Int32.ofNat n) (Int32.ofNat x) (Int32.ofNat y) E).bind fun x46 => if x46 = 0 then some (Int32.ofNat n, E) else (am_gA 12 (Int32.ofNat n)).bind fun j49 => (am_pI E (121 + j49) 2 (0 : Int32) (Int32.ofNat x)).bind fun D51 => (am_gA 12 (Int32.ofNat n)).bind fun j53 => (am_pI D51 (121 + j53) 2 (1 : Int32) (Int32.ofNat y)).bind fun D55 => some (Int32.ofNat n + (1 : Int32), D55)) = some (Int32.ofNat n2, E2) ∧ k_good D2 E2 r n2 L B ∧ n2 ≤ n + 1 ∧ k_fm2 r D D2 E E2 := by
  obtain ⟨f, t, h1, h2, h3, h4⟩ := hg
  have p12 : ∀ (X : am_D) (y : Nat) (z : Int32), am_pI X y 2 (0 : Int32) z = some (am_wI X y 0 z) := fun X y z => k_p (k := 0) z (by omega) (by omega)
  have p13 : ∀ (X : am_D) (y : Nat) (z : Int32), am_pI X y 2 (1 : Int32) z = some (am_wI X y 1 z) := fun X y z => k_p (k := 1) z (by omega) (by omega)
  rw [j_map_lastFrom h1.1, Option.bind_some, j_map_lastTo h1.1, k_riseR h1, Option.bind_some, Option.bind_some, j_nat (by omega), j_nat (by omega)]
  by_cases c1 : (x : Int) ≤ (f ((n : Int) - 1)).toInt
  · rw [if_pos (by rw [j_le, j_nat (by omega)]; exact c1), if_pos (Or.inl c1), if_pos rfl]
    exact ⟨D, E, n, rfl, rfl, ⟨f, t, h1, h2, h3, h4⟩, (by omega), k_fm2_refl r D E⟩
  · rw [if_neg (by rw [j_le, j_nat (by omega)]; exact c1)]
    by_cases c2 : (y : Int) ≤ (t ((n : Int) - 1)).toInt
    · rw [if_pos (by rw [j_le, j_nat (by omega)]; exact c2), if_pos (Or.inr c2), if_pos rfl]
      exact ⟨D, E, n, rfl, rfl, ⟨f, t, h1, h2, h3, h4⟩, (by omega), k_fm2_refl r D E⟩
    · obtain ⟨D2, a1, a2, a3⟩ := k_mk_add h1 hn (Int32.ofNat x) (Int32.ofNat y)
      rw [if_neg (by rw [j_le, j_nat (by omega)]; exact c2), if_neg (show ¬ ((x : Int) ≤ (f ((n : Int) - 1)).toInt ∨ (y : Int) ≤ (t ((n : Int) - 1)).toInt) by omega), if_neg k_10, a1, k_a (by omega) (by omega), Option.bind_some, p12, Option.bind_some, Option.bind_some, p13, Option.bind_some, j_suc]
      exact ⟨D2, _, n + 1, rfl, rfl, ⟨_, _, a2, k_up_add h2 (by rw [j_nat (by omega)]; omega) (by rw [j_nat (by omega)]; omega), by rw [k_put_at, j_nat (by omega)]; omega, by rw [k_put_at, j_nat (by omega)]; omega⟩, (by omega), a3, fun z hz => by rw [j_wI_ne _ _ _ (by omega), j_wI_ne _ _ _ (by omega)], rfl⟩
theorem k_cr_mv {D E D2 E2 : am_D} {n c : Nat} {pos : Nat → Nat} (h : k_cr D E n c pos) (h1 : D2.1 112 = D.1 112) (h2 : D2.1 113 = D.1 113) (h3 : E2.1 2631 = E.1 2631) : k_cr D2 E2 n c pos :=
  ⟨h.1, by rw [h1]; exact h.2.1, fun j hj => by rw [h2, h3]; exact h.2.2 j hj⟩
/-- one crossing -/
theorem k_std1 {D E : am_D} {r n L c k : Nat} {pos : Nat → Nat} (hg : k_good D E r n L 599) (hn : n < 12) (hc : k_cr D E L c pos) (hc2 : 2 ≤ c) (hk : k < c) (hL : L ≤ 600) (v : Int32) (hv : am_gI E 2630 61 v = some (Int32.ofNat k)) :
    ∃ D2 E2 n2, f_X2_addSteadied r (Int32.ofNat k) D = some D2 ∧
      ((am_gI E 2630 61 v).bind fun x31 => (am_gI E 2631 600 x31).bind fun x33 => (am_gI E 2631 600 (0 : Int32)).bind fun x35 => (am_gI E 2631 600 (Int32.ofNat c - (1 : Int32))).bind fun x37 => (am_gI E 2631 600 (0 : Int32)).bind fun x39 => (am_gI E 2630 61 v).bind fun x41 => (am_dv ((x37 - x39) * x41) (Int32.ofNat c - (1 : Int32))).bind fun x43 => (f_X12_rises (Int32.ofNat n) x33 (x35 + x43) E).bind fun x46 => if x46 = 0 then some (Int32.ofNat n, E) else (am_gA 12 (Int32.ofNat n)).bind fun j49 => (am_pI E (121 + j49) 2 (0 : Int32) x33).bind fun D51 => (am_gA 12 (Int32.ofNat n)).bind fun j53 => (am_pI D51 (121 + j53) 2 (1 : Int32) (x35 + x43)).bind fun D55 => some (Int32.ofNat n + (1 : Int32), D55)) = some (Int32.ofNat n2, E2) ∧ k_good D2 E2 r n2 L 599 ∧ n2 ≤ n + 1 ∧ k_fm2 r D D2 E E2 := by
  have hc3 := hc.1
  have hz := hc.2.2 0 (by omega)
  have hl := hc.2.2 (c - 1) (by omega)
  have hkk := hc.2.2 k hk
  have hmono : pos 0 ≤ pos (c - 1) := Nat.le_of_lt (hl.2.2.2.2 0 (by omega))
  obtain ⟨A, hA⟩ : ∃ A, A = pos (c - 1) - pos 0 := ⟨_, rfl⟩
  have eA : Int32.ofNat (pos (c - 1)) - Int32.ofNat (pos 0) = Int32.ofNat A := by rw [j_eq, k_S, j_nat (by omega), j_nat (by omega), j_nat (by omega)]; omega
  have ec : Int32.ofNat c - 1 = Int32.ofNat (c - 1) := by rw [j_eq, j_pred c (by omega), j_nat (by omega)]; omega
  have eAk : Int32.ofNat A * Int32.ofNat k = Int32.ofNat (A * k) := (Int32.ofNat_mul A k).symm
  have bAk : A * k ≤ 599 * 299 := Nat.mul_le_mul (by omega) (by omega)
  have bd : A * k / (c - 1) ≤ A := by
    apply Nat.div_le_of_le_mul
    rw [Nat.mul_comm]
    exact Nat.mul_le_mul_right A (by omega)
  obtain ⟨w, hw⟩ : ∃ w, w = A * k / (c - 1) := ⟨_, rfl⟩
  rw [← hw] at bd
  have ecut : f_X11_cut (Int32.ofNat (A * k)) (Int32.ofNat (c - 1)) = some (Int32.ofNat w) := by rw [j_cut (by rw [j_nat (by omega)]; omega), k_dvN (by omega) (by omega) (by omega), hw]
  have edv : am_dv (Int32.ofNat (A * k)) (Int32.ofNat (c - 1)) = some (Int32.ofNat w) := by rw [k_dvn (by omega) (by omega) (by omega), hw]
  have ew : Int32.ofNat (pos 0) + Int32.ofNat w = Int32.ofNat (pos 0 + w) := (Int32.ofNat_add _ _).symm
  have g0 : am_gI E 2631 600 (0 : Int32) = some (Int32.ofNat (pos 0)) := by
    have q : am_gI E 2631 600 (Int32.ofNat 0) = some (E.1 2631 0) := k_g (k := 0) (by omega) (by omega)
    rw [hz.2.1] at q
    exact q
  have a0 : f_X2_at (0 : Int32) D = some (Int32.ofNat (pos 0)) := k_cratN hc (k := 0) (by omega)
  obtain ⟨D2, E2, n2, s1, s2, s3, s4, s5⟩ := k_step1 (x := pos k) (y := pos 0 + w) hg hn (by omega) hL (by omega) (by omega)
  refine ⟨D2, E2, n2, ?_, ?_, s3, s4, s5⟩
  · unfold f_X2_addSteadied
    rw [a0, Option.bind_some, k_across hc (by omega), eA, Option.bind_some, k_intervals hc, Option.bind_some, eAk, ecut, Option.bind_some, k_cratN hc hk, Option.bind_some, ew]
    have e : ∀ X : Option am_D, (X.bind fun x20 => some x20) = X := fun X => by cases X <;> rfl
    rw [← s1]
    simp only [e, Option.bind_some]
  · rw [hv, Option.bind_some, k_g (by omega) (by omega), hkk.2.1, Option.bind_some, g0, Option.bind_some, ec, k_g (by omega) (by omega), hl.2.1, Option.bind_some, Option.bind_some, Option.bind_some, eA, eAk, edv, Option.bind_some, ew]
    exact s2
/-- the marks of a list, in lockstep -/
theorem k_stdL {D E : am_D} {r L c M T st w11 : Nat} {pos : Nat → Nat} (q1 : Int32) (hr : 40 ≤ r ∧ r ≤ 52) (hg : k_good D E r 0 L 599) (hc : k_cr D E L c pos) (hc2 : 2 ≤ c) (hL : L ≤ 600) (hM : M ≤ 11) (hst : 1 ≤ st ∧ st ≤ 300) (hlist : ∀ v, v < M → v * st < c ∧ E.1 2630 v = Int32.ofNat (v * st)) (hT : (w11 = 0 ∧ T = M) ∨ (w11 = 1 ∧ T = M + 1 ∧ M ≤ 10 ∧ E.1 2630 M = Int32.ofNat (c - 1))) :
    ∃ D2 E2 n2, ((f_X2_intoMap_L58 r (Int32.ofNat (c - 1)) (Int32.ofNat st) (Int32.ofNat M) (Int32.ofNat w11) am_fu 0 D).bind fun e19 => if Int32.ofNat w11 = 0 then some e19 else (f_X2_addSteadied r (Int32.ofNat (c - 1)) e19).bind fun x22 => some x22) = some D2 ∧ f_X12_steady_L144 q1 (Int32.ofNat c) (Int32.ofNat T) am_fu 0 0 E = some (Int32.ofNat n2, E2) ∧ k_good D2 E2 r n2 L 599 ∧ n2 ≤ 11 ∧ k_fm2 r D D2 E E2 := by
  have hc3 := hc.1
  have hTb : T ≤ 11 := by omega
  -- one round of the reference
  have round : ∀ (fu v n n2 : Nat) (E1 E2 : am_D), v < T → ((am_gI E1 2630 61 (Int32.ofNat v)).bind fun x31 => (am_gI E1 2631 600 x31).bind fun x33 => (am_gI E1 2631 600 (0 : Int32)).bind fun x35 => (am_gI E1 2631 600 (Int32.ofNat c - (1 : Int32))).bind fun x37 => (am_gI E1 2631 600 (0 : Int32)).bind fun x39 => (am_gI E1 2630 61 (Int32.ofNat v)).bind fun x41 => (am_dv ((x37 - x39) * x41) (Int32.ofNat c - (1 : Int32))).bind fun x43 => (f_X12_rises (Int32.ofNat n) x33 (x35 + x43) E1).bind fun x46 => if x46 = 0 then some (Int32.ofNat n, E1) else (am_gA 12 (Int32.ofNat n)).bind fun j49 => (am_pI E1 (121 + j49) 2 (0 : Int32) x33).bind fun D51 => (am_gA 12 (Int32.ofNat n)).bind fun j53 => (am_pI D51 (121 + j53) 2 (1 : Int32) (x35 + x43)).bind fun D55 => some (Int32.ofNat n + (1 : Int32), D55)) = some (Int32.ofNat n2, E2) →
      f_X12_steady_L144 q1 (Int32.ofNat c) (Int32.ofNat T) (fu + 1) (Int32.ofNat n) (Int32.ofNat v) E1 = f_X12_steady_L144 q1 (Int32.ofNat c) (Int32.ofNat T) fu (Int32.ofNat n2) (Int32.ofNat (v + 1)) E2 := by
    intro fu v n n2 E1 E2 hv hb
    rw [f_X12_steady_L144, if_neg (by rw [j_le, j_nat (by omega), j_nat (by omega)]; omega)]
    have hb2 := congrArg (fun X => Option.bind X (fun w57 : Int32 × am_D => f_X12_steady_L144 q1 (Int32.ofNat c) (Int32.ofNat T) fu w57.1 (Int32.ofNat v + (1 : Int32)) w57.2)) hb
    simp only [Option.bind_assoc] at hb2 ⊢
    rw [hb2, Option.bind_some, j_suc]
  have key := k_ind (P := fun fu k => M - k + 1 < fu → ∀ (D1 E1 : am_D) (n : Nat), k_good D1 E1 r n L 599 → n ≤ k → k_fm2 r D D1 E E1 →
      ∃ D2 E2 n2, ((f_X2_intoMap_L58 r (Int32.ofNat (c - 1)) (Int32.ofNat st) (Int32.ofNat M) (Int32.ofNat w11) fu (Int32.ofNat k) D1).bind fun e19 => if Int32.ofNat w11 = 0 then some e19 else (f_X2_addSteadied r (Int32.ofNat (c - 1)) e19).bind fun x22 => some x22) = some D2 ∧ f_X12_steady_L144 q1 (Int32.ofNat c) (Int32.ofNat T) fu (Int32.ofNat n) (Int32.ofNat k) E1 = some (Int32.ofNat n2, E2) ∧ k_good D2 E2 r n2 L 599 ∧ n2 ≤ 11 ∧ k_fm2 r D D2 E E2) M
    (by
      intro fu k hk ih hfu D1 E1 n g1 g2 f1
      obtain ⟨l1, l2⟩ := hlist k hk
      have hc1 : k_cr D1 E1 L c pos := k_cr_mv hc (f1.1 112 (by omega)).1 (f1.1 113 (by omega)).1 (f1.2.1 2631 (by omega))
      obtain ⟨D2, E2, n2, s1, s2, s3, s4, s5⟩ := k_std1 g1 (show n < 12 by omega) hc1 hc2 l1 hL (Int32.ofNat k) (by rw [k_g (by omega) (by omega), f1.2.1 2630 (by omega), l2])
      have hcl : f_X2_intoMap_L58 r (Int32.ofNat (c - 1)) (Int32.ofNat st) (Int32.ofNat M) (Int32.ofNat w11) (fu + 1) (Int32.ofNat k) D1 = f_X2_intoMap_L58 r (Int32.ofNat (c - 1)) (Int32.ofNat st) (Int32.ofNat M) (Int32.ofNat w11) fu (Int32.ofNat (k + 1)) D2 := by
        rw [f_X2_intoMap_L58, if_neg (by rw [j_le, j_nat (by omega), j_nat (by omega)]; omega), ← Int32.ofNat_mul, s1, Option.bind_some, j_suc]
      rw [hcl, round fu k n n2 E1 E2 (by omega) s2]
      exact ih (by omega) D2 E2 n2 s3 (by omega) (k_fm2_trans f1 s5)) (by
      intro fu hfu D1 E1 n g1 g2 f1
      rw [f_X2_intoMap_L58, if_pos (Int32.le_refl _), Option.bind_some]
      rcases hT with ⟨rfl, rfl⟩ | ⟨rfl, rfl, hM2, h2⟩
      · rw [if_pos (show Int32.ofNat 0 = 0 from rfl), f_X12_steady_L144, if_pos (Int32.le_refl _)]
        exact ⟨D1, E1, n, rfl, rfl, g1, (by omega), f1⟩
      · obtain ⟨fu', rfl⟩ : ∃ f', fu = f' + 1 := ⟨fu - 1, (by omega)⟩
        have hc1 : k_cr D1 E1 L c pos := k_cr_mv hc (f1.1 112 (by omega)).1 (f1.1 113 (by omega)).1 (f1.2.1 2631 (by omega))
        obtain ⟨D2, E2, n2, s1, s2, s3, s4, s5⟩ := k_std1 g1 (show n < 12 by omega) hc1 hc2 (show c - 1 < c by omega) hL (Int32.ofNat M) (by rw [k_g (by omega) (by omega), f1.2.1 2630 (by omega), h2])
        rw [if_neg (show ¬ Int32.ofNat 1 = 0 from k_10), s1, Option.bind_some, round (fu' + 1) M n n2 E1 E2 (by omega) s2, f_X12_steady_L144, if_pos (Int32.le_refl _)]
        exact ⟨D2, E2, n2, rfl, rfl, s3, (by omega), k_fm2_trans f1 s5⟩) am_fu 0 (by omega) (by unfold am_fu; omega) (by unfold am_fu; omega) D E 0 hg (by omega) (k_fm2_refl r D E)
  exact key
/-- the map's end, both sides -/
theorem k_endC {D E : am_D} {r n L : Nat} (i : Nat) {f t : Int → Int32} (h : k_mk D E r n f t) (hi : i < 5) (h139 : E.1 139 i = Int32.ofNat L) (hn : n ≤ 11) :
    ∃ D2 E2, f_X9_addRest r (Int32.ofNat L) D = some D2 ∧ k_mk D2 E2 r (n + 1) (k_put n f (Int32.ofNat L)) (k_put n t (t ((n : Int) - 1) + Int32.ofNat L - f ((n : Int) - 1))) ∧ k_fm2 r D D2 E E2 ∧
      f_X12_endsMap (Int32.ofNat i) (Int32.ofNat n) E = if (t ((n : Int) - 1) + Int32.ofNat L - f ((n : Int) - 1)) ≤ 1200 then (f_X12_keepsMap (Int32.ofNat (n + 1)) E2).bind (fun x33 => some (x33.1, x33.2)) else some (-2, E2) := by
  have e0 : (0 : Int32).toInt = 0 := rfl
  have p0 : ∀ (X : am_D) (y : Nat), am_gI X y 2 (0 : Int32) = some (X.1 y 0) := fun X y => k_g (k := 0) (by omega) (by omega)
  have p1 : ∀ (X : am_D) (y : Nat), am_gI X y 2 (1 : Int32) = some (X.1 y 1) := fun X y => k_g (k := 1) (by omega) (by omega)
  have p12 : ∀ (X : am_D) (y : Nat) (z : Int32), am_pI X y 2 (0 : Int32) z = some (am_wI X y 0 z) := fun X y z => k_p (k := 0) z (by omega) (by omega)
  have p13 : ∀ (X : am_D) (y : Nat) (z : Int32), am_pI X y 2 (1 : Int32) z = some (am_wI X y 1 z) := fun X y z => k_p (k := 1) z (by omega) (by omega)
  obtain ⟨D2, a1, a2, a3⟩ := k_mk_add h (show n < 12 by omega) (Int32.ofNat L) (t ((n : Int) - 1) + Int32.ofNat L - f ((n : Int) - 1))
  refine ⟨D2, _, ?_, a2, ⟨a3, fun z hz => by rw [j_wI_ne _ _ _ (by omega), j_wI_ne _ _ _ (by omega)], rfl⟩, ?_⟩
  · unfold f_X9_addRest
    rw [j_map_lastTo h.1, Option.bind_some, j_map_lastFrom h.1, Option.bind_some, a1, Option.bind_some]
  · have w7 : (if Int32.ofNat n = 0 then some (0 : Int32) else (am_gA 12 (Int32.ofNat n - (1 : Int32))).bind fun j3 => (am_gI E (121 + j3) 2 (0 : Int32)).bind fun x5 => some x5) = some (f ((n : Int) - 1)) := by
      by_cases c : n = 0
      · subst c
        rw [if_pos (show Int32.ofNat 0 = 0 from rfl), (h.1.2.2.2 (((0 : Nat) : Int) - 1) (Or.inl (by omega))).1]
      · have en : Int32.ofNat n - 1 = Int32.ofNat (n - 1) := by rw [j_eq, j_pred n (by omega), j_nat (by omega)]; omega
        have e1 : (n : Int) - 1 = ((n - 1 : Nat) : Int) := by omega
        rw [if_neg (by rw [j_eq, j_nat (by omega), e0]; omega), en, k_a (by omega) (by omega), Option.bind_some, p0, (h.2 (n - 1) (by omega)).1, Option.bind_some, e1]
    have w14 : (if Int32.ofNat n = 0 then some (0 : Int32) else (am_gA 12 (Int32.ofNat n - (1 : Int32))).bind fun j3 => (am_gI E (121 + j3) 2 (1 : Int32)).bind fun x5 => some x5) = some (t ((n : Int) - 1)) := by
      by_cases c : n = 0
      · subst c
        rw [if_pos (show Int32.ofNat 0 = 0 from rfl), (h.1.2.2.2 (((0 : Nat) : Int) - 1) (Or.inl (by omega))).2]
      · have en : Int32.ofNat n - 1 = Int32.ofNat (n - 1) := by rw [j_eq, j_pred n (by omega), j_nat (by omega)]; omega
        have e1 : (n : Int) - 1 = ((n - 1 : Nat) : Int) := by omega
        rw [if_neg (by rw [j_eq, j_nat (by omega), e0]; omega), en, k_a (by omega) (by omega), Option.bind_some, p1, (h.2 (n - 1) (by omega)).2, Option.bind_some, e1]
    unfold f_X12_endsMap
    rw [w7, Option.bind_some, w14, Option.bind_some, k_a (by omega) (by omega), Option.bind_some, k_g hi (by omega), h139, Option.bind_some, p12, Option.bind_some, Option.bind_some, k_g hi (by omega), j_wI_ne _ _ _ (by omega), h139, Option.bind_some, p13, Option.bind_some, Option.bind_some, p1, k_ws, Option.bind_some, j_suc]
theorem k_up_pos {n : Nat} {f t : Int → Int32} (h : k_up n f t) (hf : (f (-1)).toInt = 0) (ht : (t (-1)).toInt = 0) : ∀ k : Nat, k ≤ n → 0 ≤ (f ((k : Int) - 1)).toInt ∧ 0 ≤ (t ((k : Int) - 1)).toInt
  | 0, _ => by
    have e : ((0 : Nat) : Int) - 1 = -1 := rfl
    rw [e]
    exact ⟨(by omega), (by omega)⟩
  | k + 1, hk => by
    have q := k_up_pos h hf ht k (by omega)
    have u := h k (by omega)
    have e : ((k + 1 : Nat) : Int) - 1 = k := by omega
    rw [e]
    exact ⟨(by omega), (by omega)⟩
/-- the end's place -/
theorem k_endV {D E : am_D} {r n L B : Nat} {f t : Int → Int32} (h : k_mk D E r n f t) (hu : k_up n f t) (hf : (f ((n : Int) - 1)).toInt < L) (ht : (t ((n : Int) - 1)).toInt ≤ B) (hL : L ≤ 600) (hB : B ≤ 1000000) :
    (t ((n : Int) - 1) + Int32.ofNat L - f ((n : Int) - 1)).toInt = (t ((n : Int) - 1)).toInt + L - (f ((n : Int) - 1)).toInt ∧ 0 ≤ (f ((n : Int) - 1)).toInt ∧ 0 ≤ (t ((n : Int) - 1)).toInt ∧ ((t ((n : Int) - 1) + Int32.ofNat L - f ((n : Int) - 1)).toInt ≤ 1200 → n ≤ 11 → k_mv (n + 1) (k_put n f (Int32.ofNat L)) (k_put n t (t ((n : Int) - 1) + Int32.ofNat L - f ((n : Int) - 1)))) := by
  have z := h.1.2.2.2 (-1) (Or.inl (by omega))
  have e0 : (0 : Int32).toInt = 0 := rfl
  have p := k_up_pos hu (by rw [z.1]; rfl) (by rw [z.2]; rfl) n (Nat.le_refl n)
  have e : (t ((n : Int) - 1) + Int32.ofNat L - f ((n : Int) - 1)).toInt = (t ((n : Int) - 1)).toInt + L - (f ((n : Int) - 1)).toInt := by
    have a1 : (t ((n : Int) - 1) + Int32.ofNat L).toInt = (t ((n : Int) - 1)).toInt + L := by rw [k_A, j_nat (by omega)]; omega
    rw [k_S, a1]
    omega
  refine ⟨e, p.1, p.2, fun h12 hn => ⟨(by omega), (by omega), ?_, ?_, k_up_add hu (by rw [j_nat (by omega)]; omega) (by omega), by rw [k_put_at, j_nat (by omega)]; omega, by rw [k_put_at]; exact h12⟩⟩
  · unfold k_put
    rw [if_neg (by omega), z.1]
    rfl
  · unfold k_put
    rw [if_neg (by omega), z.2]
    rfl
theorem k_stdP {E : am_D} {c st q : Nat} (q1 q4 : Int32) (hc : 2 ≤ c) (hc2 : c ≤ 300) (hst : st = 1 + (c - 1) / 11) (hq : q = (c - 1) / st) :
    q ≤ 10 ∧ st * q + (c - 1) % st = c - 1 ∧ (c - 1) % st < st ∧ ∃ E2, f_X12_steady_L70 q1 (Int32.ofNat c) (Int32.ofNat st) q4 am_fu 0 0 E = some (Int32.ofNat (q + 1), E2) ∧ (∀ v, v ≤ q → E2.1 2630 v = Int32.ofNat (v * st)) ∧ (∀ y, y ≠ 2630 → E2.1 y = E.1 y) ∧ E2.2 = E.2 := by
  have hq10 : q < 11 := by
    rw [hq]
    exact Nat.div_lt_of_lt_mul (by omega)
  have hdm : st * q + (c - 1) % st = c - 1 := by rw [hq]; exact Nat.div_add_mod (c - 1) st
  have hml : (c - 1) % st < st := Nat.mod_lt _ (by omega)
  refine ⟨(by omega), hdm, hml, ?_⟩
  have hcm : st * q = q * st := Nat.mul_comm st q
  have hs1 : (q + 1) * st = q * st + st := by rw [Nat.add_mul, Nat.one_mul]
  have hvb : ∀ v, v ≤ q → v * st ≤ q * st := fun v hv => Nat.mul_le_mul_right st hv
  have key := k_ind (P := fun fu k => ∀ E1 : am_D, (∀ v, v < k → E1.1 2630 v = Int32.ofNat (v * st)) → (∀ y, y ≠ 2630 → E1.1 y = E.1 y) → E1.2 = E.2 → ∃ E2, f_X12_steady_L70 q1 (Int32.ofNat c) (Int32.ofNat st) q4 fu (Int32.ofNat k) (Int32.ofNat (k * st)) E1 = some (Int32.ofNat (q + 1), E2) ∧ (∀ v, v ≤ q → E2.1 2630 v = Int32.ofNat (v * st)) ∧ (∀ y, y ≠ 2630 → E2.1 y = E.1 y) ∧ E2.2 = E.2) (q + 1)
    (by
      intro fu k hk ih E1 g1 g2 g3
      have b := hvb k (by omega)
      have e : Int32.ofNat (k * st) + Int32.ofNat st = Int32.ofNat ((k + 1) * st) := by rw [← Int32.ofNat_add, Nat.add_mul, Nat.one_mul]
      rw [f_X12_steady_L70, if_neg (by rw [j_le, j_nat (by omega), j_nat (by omega)]; omega), k_p _ (by omega) (by omega), Option.bind_some, j_suc, e]
      refine ih _ (fun v hv => ?_) (fun y hy => by rw [j_wI_ne _ _ _ hy]; exact g2 y hy) g3
      rw [j_wI_at]
      by_cases cv : v = k
      · rw [if_pos cv, cv]
      · rw [if_neg cv]
        exact g1 v (by omega)) (by
      intro fu E1 g1 g2 g3
      rw [f_X12_steady_L70, if_pos (by rw [j_le, j_nat (by omega), j_nat (by omega)]; omega)]
      exact ⟨E1, rfl, fun v hv => g1 v (by omega), g2, g3⟩) am_fu 0 (by omega) (by unfold am_fu; omega) E (fun v hv => absurd hv (by omega)) (fun _ _ => rfl) rfl
  rw [Nat.zero_mul] at key
  exact key
/-- the class's way into the map -/
theorem k_stdC {D D1 E : am_D} {r L c st q M w11 : Nat} {pos : Nat → Nat} (hcl : f_X9_clear r D = some D1) (hc : k_cr D1 E L c pos) (hc1 : 2 ≤ c) (hst : st = 1 + (c - 1) / 11) (hq : q = (c - 1) / st) (hq2 : q ≤ 10) (hw : w11 = if (c - 1) % st = 0 then 0 else 1) (hM : M = if (c - 1) % st = 0 then q + 1 else if q = 10 then 10 else q + 1) :
    f_X2_intoMap r D = ((f_X2_intoMap_L58 r (Int32.ofNat (c - 1)) (Int32.ofNat st) (Int32.ofNat M) (Int32.ofNat w11) am_fu 0 D1).bind fun e19 => if Int32.ofNat w11 = 0 then some e19 else (f_X2_addSteadied r (Int32.ofNat (c - 1)) e19).bind fun x22 => some x22) := by
  have hc2 := hc.1
  have e0 : (0 : Int32).toInt = 0 := rfl
  have e11 : (11 : Int32).toInt = 11 := rfl
  have hml : (c - 1) % st < st := Nat.mod_lt _ (by omega)
  have est : (1 : Int32) + Int32.ofNat (c - 1) / 11 = Int32.ofNat st := by
    have d : Int32.ofNat (c - 1) / Int32.ofNat 11 = Int32.ofNat ((c - 1) / 11) := k_dvN (by omega) (by omega) (by omega)
    have d : Int32.ofNat (c - 1) / 11 = Int32.ofNat ((c - 1) / 11) := d
    rw [d, hst]
    exact (Int32.ofNat_add 1 ((c - 1) / 11)).symm
  have ecut : f_X11_cut (Int32.ofNat (c - 1)) (Int32.ofNat st) = some (Int32.ofNat q) := by rw [j_cut (by rw [j_nat (by omega)]; omega), k_dvN (by omega) (by omega) (by omega), hq]
  have eleft : f_X11_left (Int32.ofNat (c - 1)) (Int32.ofNat st) = some (Int32.ofNat ((c - 1) % st)) := by
    unfold f_X11_left
    rw [if_neg (by rw [j_eq, j_nat (by omega), e0]; omega), k_rmN (by omega) (by omega) (by omega), Option.bind_some]
  have eq1 : (1 : Int32) + Int32.ofNat q = Int32.ofNat (q + 1) := by rw [Nat.add_comm]; exact (Int32.ofNat_add 1 q).symm
  unfold f_X2_intoMap
  rw [hcl, Option.bind_some, k_intervals hc, Option.bind_some, est, ecut, Option.bind_some, eleft, Option.bind_some, eq1]
  by_cases cr : (c - 1) % st = 0
  · rw [if_pos cr] at hw hM
    subst hw
    subst hM
    rw [cr, if_pos (show Int32.ofNat 0 = 0 from rfl), Option.bind_some, if_pos rfl, Option.bind_some]
    rfl
  · rw [if_neg cr] at hw hM
    subst hw
    rw [if_neg (by rw [j_eq, j_nat (by omega), e0]; omega), Option.bind_some, if_neg k_10]
    by_cases cq : q = 10
    · rw [if_pos cq] at hM
      subst hM
      subst cq
      rw [if_pos (show Int32.ofNat (10 + 1) = 11 from rfl), Option.bind_some]
      rfl
    · rw [if_neg cq] at hM
      subst hM
      rw [if_neg (by rw [j_eq, j_nat (by omega), e11]; omega), Option.bind_some]
      rfl
