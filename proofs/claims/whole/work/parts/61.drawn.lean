/-! a whole drawing, on both sides -/
theorem k_cp {D : am_D} {a la b lb n : Nat} (h1 : n ≤ la) (h2 : n ≤ lb) (h3 : la < 100000) (h4 : lb < 100000) : ∃ D2, am_cp D a la 0 b lb 0 (Int32.ofNat n) = some D2 ∧ (∀ k, k < n → D2.1 b k = D.1 a k) ∧ (∀ x, x ≠ b → D2.1 x = D.1 x) ∧ D2.2 = D.2 := by
  have ecn : (Int32.ofNat n).toNatClampNeg = n := j_cn (by omega)
  have ec0 : (0 : Int32).toNatClampNeg = 0 := rfl
  have e0 : (0 : Int32).toInt = 0 := rfl
  have z0 : ¬ (0 : Int32) < 0 := by rw [j_lt]; omega
  have zn : ¬ Int32.ofNat n < 0 := by rw [j_lt, j_nat (by omega)]; omega
  refine ⟨(am_row D.1 b (va_cpy (D.1 a) (D.1 b) 0 0 n), D.2), ?_, fun k hk => ?_, fun x hx => ?_, rfl⟩
  · unfold am_cp
    rw [if_pos ⟨z0, z0, zn, by rw [ecn, ec0]; omega, by rw [ecn, ec0]; omega⟩, ecn, ec0]
  · show am_row _ b _ b k = _
    unfold am_row va_cpy
    rw [if_pos rfl, if_pos (by omega), Nat.zero_add, Nat.sub_zero]
  · show am_row _ b _ x = _
    unfold am_row
    rw [if_neg hx]
theorem k_map_copy {D : am_D} {r q n : Nat} {f t : Int → Int32} (h : j_map D q n f t) (hne : q + 2 < r ∨ r + 2 < q) : ∃ D2, f_X9_copyFrom r q D = some D2 ∧ j_map D2 r n f t ∧ j_fr (fun x => r ≤ x ∧ x < r + 3) D D2 := by
  obtain ⟨h1, h2, h3, h4⟩ := h
  obtain ⟨D1, hD1⟩ : ∃ D1, D1 = am_wI D r 2 (Int32.ofNat n) := ⟨_, rfl⟩
  have a1 : ∀ x, x ≠ r → D1.1 x = D.1 x := fun x hx => by rw [hD1, j_wI_ne _ _ _ hx]
  have a2 : D1.1 r 2 = Int32.ofNat n := by rw [hD1, k_ws]
  obtain ⟨D2, e2, b1, b2, b3⟩ := k_cp (D := D1) (a := q + 1) (la := 12) (b := r + 1) (lb := 12) (n := n) h1 h1 (by omega) (by omega)
  obtain ⟨D3, e3, c1, c2, c3⟩ := k_cp (D := D2) (a := q + 2) (la := 12) (b := r + 2) (lb := 12) (n := n) h1 h1 (by omega) (by omega)
  refine ⟨D3, ?_, ⟨h1, ?_, fun k hk => ⟨?_, ?_⟩, h4⟩, fun x hx => ⟨?_, ?_⟩⟩
  · unfold f_X9_copyFrom
    have eb : f_X11_bounded (Int32.ofNat n) 0 12 = some (Int32.ofNat n) := by
      have := j_boundedN n 12 (by omega) (by omega)
      rw [Nat.min_eq_left h1] at this
      exact this
    rw [h2, eb]
    simp only [Option.bind_some]
    rw [← hD1, a2, e2]
    simp only [Option.bind_some]
    rw [b2 r (by omega), a2, e3]
    rfl
  · rw [c2 r (by omega), b2 r (by omega)]; exact a2
  · rw [c2 (r + 1) (by omega), b1 k hk, a1 (q + 1) (by omega)]; exact (h3 k hk).1
  · rw [c1 k hk, b2 (q + 2) (by omega), a1 (q + 2) (by omega)]; exact (h3 k hk).2
  · rw [c2 x (by omega), b2 x (by omega), a1 x (by omega)]
  · rw [c3, b3, hD1]; rfl
/-- the first piece in the reference -/
theorem k_first {E : am_D} {n L w : Nat} {g : Int → Int32} (hg : k_arr E 221 n g) (hn : n ≤ 1200) (hL : L ≤ 1200) (hw : w ≤ n) (e14 : E.1 117 14 = Int32.ofNat w) (e38 : E.1 117 38 = Int32.ofNat L) :
    ∃ E2, f_X12_draws_L20 am_fu 0 E = some E2 ∧ k_arr E2 222 (min L w) g ∧ (∀ y, y ≠ 222 → E2.1 y = E.1 y) ∧ E2.2 = E.2 := by
  have key := k_ind (P := fun fu k => ∀ E1 : am_D, k_arr E1 222 k g → (∀ y, y ≠ 222 → E1.1 y = E.1 y) → E1.2 = E.2 → ∃ E2, f_X12_draws_L20 fu (Int32.ofNat k) E1 = some E2 ∧ k_arr E2 222 (min L w) g ∧ (∀ y, y ≠ 222 → E2.1 y = E.1 y) ∧ E2.2 = E.2) (min L w)
    (by
      intro fu k hk ih E1 h1 h2 h3
      rw [f_X12_draws_L20, h2 117 (by decide), e14, e38, if_neg (by simp only [j_le, k_N]; omega), if_neg (by simp only [j_le, k_N]; omega), k_g (by omega) (by omega), h2 221 (by decide), hg k (by omega)]
      simp only [Option.bind_some]
      rw [k_p _ (by omega) (by omega), j_suc]
      simp only [Option.bind_some]
      refine ih _ (fun y hy => ?_) (fun y hy => by rw [j_wI_ne _ _ _ hy]; exact h2 y hy) h3
      rw [j_wI_at]
      by_cases c : y = k
      · rw [if_pos c, c]
      · rw [if_neg c]; exact h1 y (by omega)) (by
      intro fu E1 h1 h2 h3
      rw [f_X12_draws_L20, h2 117 (by decide), e14, e38]
      by_cases c : w ≤ min L w
      · rw [if_pos (by simp only [j_le, k_N]; omega)]
        exact ⟨E1, rfl, h1, h2, h3⟩
      · rw [if_neg (by simp only [j_le, k_N]; omega), if_pos (by simp only [j_le, k_N]; omega)]
        exact ⟨E1, rfl, h1, h2, h3⟩) am_fu 0 (by omega) (by unfold am_fu; omega) E (fun y hy => absurd hy (by omega)) (fun _ _ => rfl) rfl
  exact key
theorem k_ps_by {D E D2 E2 : am_D} {p w o s : Nat} (h : k_ps D E p w o s) (e : D2.1 p = D.1 p) (h14 : E2.1 117 14 = E.1 117 14) (h15 : E2.1 117 15 = E.1 117 15) (h16 : E2.1 117 16 = E.1 117 16) : k_ps D2 E2 p w o s := by
  obtain ⟨a, b1, b2, b3, c1, c2, c3⟩ := h
  exact ⟨a, by rw [e]; exact b1, by rw [e]; exact b2, by rw [e]; exact b3, by rw [h14]; exact c1, by rw [h15]; exact c2, by rw [h16]; exact c3⟩
theorem k_drawL {r0 p n m L w o s : Nat} {g f t : Int → Int32} (hpr : p < r0) (hT : t ((m : Int) - 1) = Int32.ofNat L) (hw : w ≤ n) : ∀ (fu q : Nat) (D E : am_D) (out : Int → Int32), k_ps D E p w o s → k_sr D E r0 n g m f t → k_or D E r0 L (min L (q * (w - o) + w)) out q (w - o) → 1 ≤ fu → L + 1 ≤ fu + (q + 1) * (w - o) →
    ∃ D2 E2 out2 q2, f_X3_drawOut_L80 r0 p fu (Int32.ofNat ((q + 1) * (w - o))) D = some D2 ∧ f_X12_draws_L64 fu (Int32.ofNat ((q + 1) * (w - o))) E = some E2 ∧ k_sr D2 E2 r0 n g m f t ∧ k_or D2 E2 r0 L L out2 q2 (w - o) ∧
      j_fr (fun x => r0 ≤ x ∧ x < r0 + 10) D D2 ∧ k_fe E E2 ∧ D2.1 r0 7 = D.1 r0 7 ∧ E2.1 117 40 = E.1 117 40
  | 0, _, _, _, _, _, _, _, h, _ => absurd h (by omega)
  | fu + 1, q, D, E, out, hp, hs, ho, h1, h2 => by
    have hpv := hp.1
    obtain ⟨v1, v2, v3, v4, v5⟩ := hpv
    have hL := ho.1.1
    have eL : D.1 (r0 + 3) 1 = Int32.ofNat L := ho.2.1.2.2.1
    have eL2 : E.1 117 38 = Int32.ofNat L := ho.2.2.1
    have eq6 : D.1 r0 6 = Int32.ofNat q := ho.2.2.2.2.2.1
    have hm : (q + 1) * (w - o) = q * (w - o) + (w - o) := by rw [Nat.add_mul, Nat.one_mul]
    have hq600 := ho.2.2.2.2.2.2.2.2.2.2.2.1
    have hqL := ho.2.2.2.2.2.2.2.2.2.2.1
    have hq2 : q = 0 ∨ q * (w - o) < L := hqL
    have hb : (q + 1) * (w - o) < 100000 := by
      rcases hq2 with z | z
      · rw [hm, z]; omega
      · omega
    rw [f_X3_drawOut_L80, f_X12_draws_L64, eL, eL2]
    by_cases c : L ≤ (q + 1) * (w - o)
    · have c9 : Int32.ofNat L ≤ Int32.ofNat ((q + 1) * (w - o)) := by rw [j_le, j_nat (by omega), j_nat (by omega)]; omega
      rw [if_pos c9, if_pos c9]
      have e : min L (q * (w - o) + w) = L := by omega
      rw [e] at ho
      exact ⟨D, E, out, q, rfl, rfl, hs, ho, j_fr_refl _ _, k_fe_refl _, rfl, rfl⟩
    · have c9 : ¬ Int32.ofNat L ≤ Int32.ofNat ((q + 1) * (w - o)) := by rw [j_le, j_nat (by omega), j_nat (by omega)]; omega
      have hq : q < 600 := by
        have := Nat.mul_le_mul_left (q + 1) (show 2 ≤ w - o by omega)
        omega
      have c8 : ¬ (600 : Int32) ≤ D.1 r0 6 := by
        have e : (600 : Int32).toInt = 600 := rfl
        rw [eq6, j_le, j_nat (by omega), e]; omega
      rw [if_neg c9, if_neg c9, if_neg c8]
      obtain ⟨D2, E2, out2, e1, e2, hs2, ho2, fD, fE, d7, d40⟩ := k_lay hs ho hp hpr hT (by omega) hw
      rw [e1, e2]
      simp only [Option.bind_some]
      have hp2 : k_ps D2 E2 p w o s := k_ps_by hp (fD p (by omega)).1 (fE.2.1 14 (by omega)) (fE.2.1 15 (by omega)) (fE.2.1 16 (by omega))
      have g1 : Int32.ofNat ((q + 1) * (w - o)) + D2.1 r0 5 = Int32.ofNat ((q + 1 + 1) * (w - o)) := by
        rw [ho2.2.2.2.2.2.2.2.1, ← Int32.ofNat_add, Nat.add_mul (q + 1) 1, Nat.one_mul]
      have g2 : Int32.ofNat ((q + 1) * (w - o)) + (E2.1 117 14 - E2.1 117 15) = Int32.ofNat ((q + 1 + 1) * (w - o)) := by
        have e9 : E2.1 117 14 - E2.1 117 15 = Int32.ofNat (w - o) := by
          rw [hp2.2.2.2.2.1, hp2.2.2.2.2.2.1, j_eq, k_S, j_nat (by omega), j_nat (by omega), j_nat (by omega)]; omega
        rw [e9, ← Int32.ofNat_add, Nat.add_mul (q + 1) 1, Nat.one_mul]
      rw [g1, g2]
      have hm2 : (q + 1 + 1) * (w - o) = (q + 1) * (w - o) + (w - o) := by rw [Nat.add_mul (q + 1) 1, Nat.one_mul]
      obtain ⟨D3, E3, out3, q3, k1, k2, k3, k4, k5, k6, k7, k8⟩ := k_drawL hpr hT hw fu (q + 1) D2 E2 out2 hp2 hs2 ho2 (by omega) (by omega)
      exact ⟨D3, E3, out3, q3, k1, k2, k3, k4, j_fr_trans fD k5 (fun _ h => h) (fun _ h => h), k_fe_trans fE k6, k7.trans d7, k8.trans d40⟩
theorem k_drawOut {D E : am_D} {r0 p1 p2 p3 n m w o s : Nat} {g f t : Int → Int32} (hn : n ≤ 1200) (h1 : j_row D p1 n g) (h2 : j_map D p2 m f t) (hp : k_ps D E p3 w o s) (e36 : E.1 117 36 = Int32.ofNat n) (e221 : k_arr E 221 n g) (hg : k_bnd g) (hf : k_fm E m f t) (hv : k_mv m f t) (hfn : (f ((m : Int) - 1)).toInt ≤ n) (hw : w ≤ n)
    (hr1 : j_rw (r0 + 1) 1200) (hr3 : j_rw (r0 + 3) 1200) (x1 : p1 + 1 < r0 ∨ r0 + 10 ≤ p1) (x2 : p2 + 2 < r0 ∨ r0 + 10 ≤ p2) (x3 : p3 < r0) :
    ∃ D2 E2 L out q, f_X3_drawOut r0 p1 p2 p3 D = some D2 ∧ f_X12_draws E = some E2 ∧ t ((m : Int) - 1) = Int32.ofNat L ∧ k_sr D2 E2 r0 n g m f t ∧ k_or D2 E2 r0 L L out q (w - o) ∧ D2.1 r0 7 = 1 ∧ E2.1 117 40 = 1 ∧ j_fr (fun x => r0 ≤ x ∧ x < r0 + 10) D D2 ∧ k_fe E E2 ∧ 1 ≤ L := by
  have hT := k_tl hv
  obtain ⟨L, hLn⟩ : ∃ L : Nat, (t ((m : Int) - 1)).toInt = L := ⟨(t ((m : Int) - 1)).toInt.toNat, by omega⟩
  have hLe : t ((m : Int) - 1) = Int32.ofNat L := by rw [j_eq, hLn, k_N]; omega
  obtain ⟨v1, v2, v3, v4, v5⟩ := hp.1
  have e0 : (0 : Int32).toInt = 0 := rfl
  -- the class
  obtain ⟨D1, a1, rr1, fr1⟩ := j_row_copy h1 hr1 hn (by omega)
  obtain ⟨D2, a2, mm2, fr2⟩ := k_map_copy (r := r0 + 5) (j_map_by h2 fr1 (by omega) (by omega) (by omega)) (by omega)
  have rr2 : j_row D2 (r0 + 1) n g := j_row_by rr1 fr2 (by omega) (by omega)
  obtain ⟨D3, a3, ro3, fr3⟩ := j_row_start (D := D2) hr3 L (by omega)
  have rr3 : j_row D3 (r0 + 1) n g := j_row_by rr2 fr3 (by omega) (by omega)
  obtain ⟨D4, a4, ro4, fr4⟩ := j_row_lay ro3 rr3 ⟨by omega, by omega⟩ 0 0 w (by omega) (by omega) (by omega) (by omega) (by omega)
  rw [e0] at ro4
  have f04 : ∀ y, (y < r0 ∨ r0 + 10 ≤ y ∨ y = r0) → D4.1 y = D.1 y ∧ D4.2 y = D.2 y := fun y hy => by
    have q1 := fr1 y (by omega)
    have q2 := fr2 y (by omega)
    have q3 := fr3 y (by omega)
    have q4 := fr4 y (by omega)
    exact ⟨by rw [q4.1, q3.1, q2.1, q1.1], by rw [q4.2, q3.2, q2.2, q1.2]⟩
  obtain ⟨D5, hD5⟩ : ∃ D5, D5 = am_wI (am_wI (am_wI D4 r0 7 1) r0 6 0) r0 5 (Int32.ofNat (w - o)) := ⟨_, rfl⟩
  have f5 : ∀ y, y ≠ r0 → D5.1 y = D4.1 y := fun y hy => by rw [hD5, j_wI_ne _ _ _ hy, j_wI_ne _ _ _ hy, j_wI_ne _ _ _ hy]
  have d5 : D5.1 r0 5 = Int32.ofNat (w - o) ∧ D5.1 r0 6 = 0 ∧ D5.1 r0 7 = 1 := by
    rw [hD5]
    refine ⟨by rw [k_ws], by rw [k_wj _ _ (by decide), k_ws], by rw [k_wj _ _ (by decide), k_wj _ _ (by decide), k_ws]⟩
  have hcls : f_X3_drawOut r0 p1 p2 p3 D = (f_X3_drawOut_L80 r0 p3 am_fu (Int32.ofNat (w - o)) D5).bind fun e21 => some e21 := by
    unfold f_X3_drawOut
    rw [a1]
    simp only [Option.bind_some]
    rw [a2]
    simp only [Option.bind_some]
    rw [j_map_lastTo mm2, hLe]
    simp only [Option.bind_some]
    rw [a3]
    simp only [Option.bind_some]
    rw [(fr3 p3 (by omega)).1, (fr2 p3 (by omega)).1, (fr1 p3 (by omega)).1, hp.2.1, a4]
    simp only [Option.bind_some]
    have e9 : am_mx 1 ((am_wI (am_wI D4 r0 7 1) r0 6 0).1 p3 0 - (am_wI (am_wI D4 r0 7 1) r0 6 0).1 p3 1) = Int32.ofNat (w - o) := by
      have q9 : (am_wI (am_wI D4 r0 7 1) r0 6 0).1 p3 = D.1 p3 := by rw [j_wI_ne _ _ _ (by omega), j_wI_ne _ _ _ (by omega)]; exact (f04 p3 (by omega)).1
      have e1 : (1 : Int32).toInt = 1 := rfl
      rw [q9, hp.2.1, hp.2.2.1, j_eq, j_mx, k_S, j_nat (by omega), j_nat (by omega), j_nat (by omega), e1]
      omega
    rw [e9, ← hD5, d5.1]
  -- the reference
  obtain ⟨E1, hE1⟩ : ∃ E1, E1 = am_wI (am_wI (am_wI E 117 38 (Int32.ofNat L)) 117 39 0) 117 40 1 := ⟨_, rfl⟩
  have g1 : ∀ y, y ≠ 117 → E1.1 y = E.1 y := fun y hy => by rw [hE1, j_wI_ne _ _ _ hy, j_wI_ne _ _ _ hy, j_wI_ne _ _ _ hy]
  have g2 : ∀ j, j ≠ 38 → j ≠ 39 → j ≠ 40 → E1.1 117 j = E.1 117 j := fun j q1 q2 q3 => by rw [hE1, k_wj _ _ q3, k_wj _ _ q2, k_wj _ _ q1]
  have g3 : E1.1 117 38 = Int32.ofNat L ∧ E1.1 117 39 = 0 ∧ E1.1 117 40 = 1 := by
    rw [hE1]
    refine ⟨by rw [k_wj _ _ (by decide), k_wj _ _ (by decide), k_ws], by rw [k_wj _ _ (by decide), k_ws], by rw [k_ws]⟩
  obtain ⟨E2, b2, c2, c3, c4⟩ := k_first (E := E1) (L := L) (w := w) (k_arr_by e221 (g1 221 (by decide))) hn (by omega) hw (by rw [g2 14 (by decide) (by decide) (by decide)]; exact hp.2.2.2.2.1) g3.1
  have hp5 : k_ps D5 E2 p3 w o s := k_ps_by hp (by rw [f5 p3 (by omega)]; exact (f04 p3 (by omega)).1) (by rw [c3 117 (by decide), g2 14 (by decide) (by decide) (by decide)]) (by rw [c3 117 (by decide), g2 15 (by decide) (by decide) (by decide)]) (by rw [c3 117 (by decide), g2 16 (by decide) (by decide) (by decide)])
  have href : f_X12_draws E = (f_X12_draws_L64 am_fu (Int32.ofNat (w - o)) E2).bind fun e19 => some e19 := by
    unfold f_X12_draws
    rw [k_rlen hf hv.2.1, hLe]
    simp only [Option.bind_some]
    have e9 : E2.1 117 14 - E2.1 117 15 = Int32.ofNat (w - o) := by
      rw [hp5.2.2.2.2.1, hp5.2.2.2.2.2.1, j_eq, k_S, j_nat (by omega), j_nat (by omega), j_nat (by omega)]; omega
    rw [← hE1, b2]
    simp only [Option.bind_some]
    rw [e9]
  have hs5 : k_sr D5 E2 r0 n g m f t := ⟨hn, j_row_fr (j_row_by rr3 fr4 (by omega) (by omega)) (f5 _ (by omega)) (f5 _ (by omega)), by rw [c3 117 (by decide), g2 36 (by decide) (by decide) (by decide)]; exact e36, k_arr_by e221 (by rw [c3 221 (by decide), g1 221 (by decide)]), hg,
    j_map_fr (j_map_by (j_map_by mm2 fr3 (by omega) (by omega) (by omega)) fr4 (by omega) (by omega) (by omega)) (f5 _ (by omega)) (f5 _ (by omega)) (f5 _ (by omega)), k_fm_by hf (by rw [c3 117 (by decide), g2 37 (by decide) (by decide) (by decide)]) (by rw [c3 223 (by decide), g1 223 (by decide)]), hv, hfn⟩
  have ho5 : k_or D5 E2 r0 L (min L (0 * (w - o) + w)) (j_lays L (fun _ => 0) g 0 0 w) 0 (w - o) := by
    refine ⟨⟨by omega, by omega⟩, j_row_fr ro4 (f5 _ (by omega)) (f5 _ (by omega)), by rw [c3 117 (by decide)]; exact g3.1, fun y hy => ?_, fun y => ?_, d5.2.1, by rw [c3 117 (by decide)]; exact g3.2.1, d5.1, by omega, by omega, Or.inl rfl, by omega, fun k hk => absurd hk (by omega)⟩
    · rw [c2 y (by omega)]
      unfold j_lays
      rw [if_pos (by omega)]
      congr 1
      omega
    · unfold j_lays
      by_cases c : 0 ≤ y ∧ y < 0 + (w : Int) ∧ 0 ≤ y ∧ y < L
      · rw [if_pos c]; exact hg _
      · rw [if_neg c, e0]; omega
  obtain ⟨D6, E6, out6, q6, k1, k2, k3, k4, k5, k6, k7, k8⟩ := k_drawL x3 hLe hw am_fu 0 D5 E2 _ hp5 hs5 ho5 (by unfold am_fu; omega) (by unfold am_fu; omega)
  rw [Nat.zero_add, Nat.one_mul] at k1 k2
  refine ⟨D6, E6, L, out6, q6, by rw [hcls, k1]; rfl, by rw [href, k2]; rfl, hLe, k3, k4, by rw [k7]; exact d5.2.2, by rw [k8, c3 117 (by decide)]; exact g3.2.2, fun y hy => ?_, ?_, by omega⟩
  · rw [(k5 y hy).1, (k5 y hy).2, f5 y (by omega), (f04 y (by omega)).1]
    refine ⟨rfl, ?_⟩
    rw [hD5]
    exact (f04 y (by omega)).2
  · refine k_fe_trans ⟨fun y q1 q2 => by rw [c3 y (by omega), g1 y q1], fun j hj => by rw [c3 117 (by decide), g2 j (by omega) (by omega) (by omega)], by rw [c4, hE1]; rfl⟩ k6
