/-! draw; part -/
theorem k_rw73 : j_rw 72 1200 ∧ j_rw 74 1200 ∧ j_rw 82 1200 ∧ j_rw 84 1200 ∧ j_rw 92 1200 ∧ j_rw 94 1200 ∧ j_rw 101 600 := by
  unfold j_rw
  decide +kernel
theorem k_rwS (s : Nat) (h : s < 5) : j_rw (30 + 2 * s) 600 := by
  have a : j_rw 30 600 ∧ j_rw 32 600 ∧ j_rw 34 600 ∧ j_rw 36 600 ∧ j_rw 38 600 := by
    unfold j_rw
    decide +kernel
  obtain ⟨a0, a1, a2, a3, a4⟩ := a
  have c : s = 0 ∨ s = 1 ∨ s = 2 ∨ s = 3 ∨ s = 4 := by omega
  rcases c with rfl | rfl | rfl | rfl | rfl
  · exact a0
  · exact a1
  · exact a2
  · exact a3
  · exact a4
/-- a sound drawn by a map -/
theorem k_drawB {D E : am_D} {r0 p3 i n j m w o s : Nat} {g f t : Int → Int32} (hs : k_snd D E i n g) (hi : i < 5) (hv : k_mv m f t) (hm : j_map D (40 + 3 * j) m f t) (hr : k_rm E j m f t) (hj : j < 5) (hp : k_ps D E p3 w o s) (hw : w ≤ n) (hf : (f ((m : Int) - 1)).toInt ≤ n) (z0 : E.1 223 0 = 0) (z1 : E.1 223 1 = 0)
    (hr1 : j_rw (r0 + 1) 1200) (hr3 : j_rw (r0 + 3) 1200) (x0 : 59 ≤ r0) (x3 : p3 < r0) :
    ∃ D2 E2 L out q, f_X3_drawOut r0 (30 + 2 * i) (40 + 3 * j) p3 D = some D2 ∧ f_X12_drawsBoth (Int32.ofNat i) (Int32.ofNat j) E = some E2 ∧ t ((m : Int) - 1) = Int32.ofNat L ∧ k_sr D2 E2 r0 n g m f t ∧ k_or D2 E2 r0 L L out q (w - o) ∧ D2.1 r0 7 = 1 ∧ E2.1 117 40 = 1 ∧ j_fr (fun x => r0 ≤ x ∧ x < r0 + 10) D D2 ∧ k_fe E E2 ∧ 1 ≤ L ∧ E2.1 223 0 = 0 ∧ E2.1 223 1 = 0 := by
  obtain ⟨s1, s2, s3, s4, s5, s6⟩ := hs
  obtain ⟨E1, e1, a1, a2, a3, a4, a5⟩ := k_takesSound s4 s5 s2 hi
  have hr1' : k_rm E1 j m f t := k_rm_mv hr hv.2.1 (by rw [a3 201 (by omega) (by omega)]) (fun k hk => a3 _ (by omega) (by omega))
  obtain ⟨E2, e2, b1, b2, b3, b4, b5, b6⟩ := k_takes hr1' hv hj (by rw [a3 223 (by omega) (by omega)]; exact z0) (by rw [a3 223 (by omega) (by omega)]; exact z1)
  have hp2 : k_ps D E2 p3 w o s := k_ps_by hp rfl (by rw [b5 14 (by omega), a4 14 (by omega)]) (by rw [b5 15 (by omega), a4 15 (by omega)]) (by rw [b5 16 (by omega), a4 16 (by omega)])
  obtain ⟨D3, E3, L, out, q, c1, c2, c3, c4, c5, c6, c7, c8, c9, c10⟩ := k_drawOut (n := n) (r0 := r0) (by omega) s3 hm hp2 (by rw [b5 36 (by omega)]; exact a1) (k_arr_by a2 (b4 221 (by omega) (by omega))) s6 b1 hv hf hw hr1 hr3 (by omega) (by omega) x3
  have hz := c4.2.2.2.2.2.2.1.2 0 (by omega)
  refine ⟨D3, E3, L, out, q, c1, ?_, c3, c4, c5, c6, c7, c8, ?_, c10, ?_, ?_⟩
  · unfold f_X12_drawsBoth
    rw [e1, Option.bind_some, e2, Option.bind_some, c2, Option.bind_some]
  · refine k_fe_trans ⟨fun y h1 h2 => ?_, fun y h1 => ?_, ?_⟩ c9
    · rw [b4 y h1 (by omega), a3 y h1 (by omega)]
    · rw [b5 y (by omega), a4 y (by omega)]
    · rw [b6, a5]
  · have e : f (((0 : Nat) : Int) - 1) = 0 := by rw [j_eq]; exact hv.2.2.1
    rw [e] at hz
    exact hz.1
  · have e : t (((0 : Nat) : Int) - 1) = 0 := by rw [j_eq]; exact hv.2.2.2.1
    rw [e] at hz
    exact hz.2
theorem k_RdNew {D E : am_D} {n m L q st : Nat} {g f t out : Int → Int32} (hs : k_sr D E 71 n g m f t) (ho : k_or D E 71 L L out q st) (hT : t ((m : Int) - 1) = Int32.ofNat L) (h7 : D.1 71 7 = 1) (h40 : E.1 117 40 = 1) (z0 : E.1 223 0 = 0) (z1 : E.1 223 1 = 0) : k_Rd D E := by
  obtain ⟨⟨o1, o1c⟩, o2, o3, o4, o5, o6, o7, o8, o9, o10, o11, o12, o13⟩ := ho
  refine ⟨L, out, q, st, o1, o2, o3, o4, o5, o6, o7, o12, fun k hk => ⟨⟨o8, o9, o10, ?_⟩, o13 k hk⟩, by rw [h7, h40], Or.inr h40, fun _ => ⟨⟨o8, o9, o10, o11⟩, n, g, m, f, t, hs, hT⟩, z0, z1⟩
  rcases o11 with z | z
  · omega
  · exact z
theorem k_badBoth {E0 : am_D} {ns nm : Nat} (p k : Int32) (t0 : E0.1 117 0 = 0) (h1 : E0.1 117 12 = Int32.ofNat ns) (h1b : ns ≤ 5) (h2 : E0.1 117 13 = Int32.ofNat nm) (h2b : nm ≤ 5) :
    f_X12_badBoth p k E0 = some (if 0 ≤ p.toInt ∧ p.toInt < ns then if 0 ≤ k.toInt ∧ k.toInt < nm then (0, E0) else (1, am_wI E0 117 0 2) else (1, am_wI E0 117 0 1)) := by
  unfold f_X12_badBoth
  rw [k_isS p h1 h1b, Option.bind_some]
  by_cases c : 0 ≤ p.toInt ∧ p.toInt < ns
  · rw [if_pos c, if_pos c, k_nT E0 1 t0, if_pos rfl]
    dsimp only
    rw [k_isM k h2 h2b, Option.bind_some]
    by_cases c2 : 0 ≤ k.toInt ∧ k.toInt < nm
    · rw [if_pos c2, if_pos c2, k_nT E0 2 t0, if_pos rfl]
    · rw [if_neg c2, if_neg c2, k_nF E0 2 (by decide) t0, if_neg k_10]
  · rw [if_neg c, if_neg c, k_nF E0 1 k_10 t0, if_neg k_10]
theorem k_short {D E : am_D} {i n j m w : Nat} {g f t : Int → Int32} (hs : k_snd D E i n g) (hi : i < 5) (hv : k_mv m f t) (hr : k_rm E j m f t) (hj : j < 5) (h14 : E.1 117 14 = Int32.ofNat w) (hw : w ≤ 100) : f_X12_isShort (Int32.ofNat i) (Int32.ofNat j) E = some (if w ≤ n ∧ (f ((m : Int) - 1)).toInt ≤ n then 0 else 1) := by
  have hn := hs.2.1
  unfold f_X12_isShort
  rw [k_g hi (by omega), hs.2.2.2.1, Option.bind_some, h14]
  by_cases c : w ≤ n
  · rw [if_neg (by rw [j_lt, j_nat (by omega), j_nat (by omega)]; omega), Option.bind_some, (k_rlast hr hv hj).1, Option.bind_some]
    by_cases c2 : (f ((m : Int) - 1)).toInt ≤ n
    · rw [if_pos (by rw [j_le, j_nat (by omega)]; exact c2), if_pos ⟨c, c2⟩]
    · rw [if_neg (by rw [j_le, j_nat (by omega)]; exact c2), if_neg (fun z => c2 z.2)]
  · rw [if_pos (by rw [j_lt, j_nat (by omega), j_nat (by omega)]; omega), if_neg (fun z => c z.1)]
theorem k_needLong {D : am_D} {r q p n m w : Nat} {g f t : Int → Int32} (hs : j_row D r n g) (hm : j_map D q m f t) (hp : D.1 p 0 = Int32.ofNat w) (hw : w ≤ 100) : f_X11_needLong r q p D = some (if w ≤ n ∧ (f ((m : Int) - 1)).toInt ≤ n then .inr () else .inl "java/lang/IllegalStateException") := by
  have h1 := hs.1
  have h2 := hs.2.1
  unfold f_X11_needLong
  rw [hs.2.2.1, hp]
  by_cases c : w ≤ n
  · rw [if_neg (by rw [j_lt, j_nat (by omega), j_nat (by omega)]; omega), j_map_lastFrom hm, Option.bind_some]
    by_cases c2 : (f ((m : Int) - 1)).toInt ≤ n
    · rw [if_pos (by rw [j_le, j_nat (by omega)]; exact c2), if_pos ⟨c, c2⟩]
    · rw [if_neg (by rw [j_le, j_nat (by omega)]; exact c2), if_neg (fun z => c2 z.2)]
  · rw [if_pos (by rw [j_lt, j_nat (by omega), j_nat (by omega)]; omega), if_neg (fun z => c z.1)]
theorem op_draw {D E : am_D} (h : k_Q D E) (p k : Int32) : k_opE D E (f_X11_draw p k D) (f_X12_draw p k E) ["java/util/NoSuchElementException", "java/lang/IndexOutOfBoundsException", "java/lang/IllegalStateException"] := by
  obtain ⟨E0, hE0, t0, f0, q0⟩ := k_start h
  have q0' := q0
  obtain ⟨ns, nm, nw, np, nh, ni, h1, h2, h3, h4, h5, h6, h7, h8, h9⟩ := q0'

  unfold f_X12_draw f_X11_draw
  rw [Option.bind_some, ← hE0, k_badBoth p k t0 h1.2.2.1 h1.1 h2.2.2.1 h2.1, Option.bind_some]
  by_cases c : 0 ≤ p.toInt ∧ p.toInt < ns
  · obtain ⟨i, rfl, hi⟩ := k_ix c
    obtain ⟨n, g, b⟩ := h1.2.2.2 i hi
    have hns := h1.1
    rw [k_soT h1.2.1 h1.1 hi, k_btR, if_pos c]
    by_cases c2 : 0 ≤ k.toInt ∧ k.toInt < nm
    · obtain ⟨j, rfl, hj⟩ := k_ix c2
      obtain ⟨m, f, t, b1, b2, b3⟩ := h2.2.2.2 j hj
      have hnm := h2.1
      obtain ⟨w, o, s, hps⟩ := h3.1
      have hw := hps.1.2.1
      rw [k_maT h2.2.1 h2.1 hj, k_btR, if_pos c2, if_pos rfl]
      dsimp only
      rw [k_needLong b.2.2.1 b2 hps.2.1 (by omega), k_short b (by omega) b1 b3 (by omega) hps.2.2.2.2.1 (by omega), Option.bind_some]
      by_cases c3 : w ≤ n ∧ (f ((m : Int) - 1)).toInt ≤ n
      · rw [if_pos c3, if_pos c3, k_b0 t0, Option.bind_some, if_pos rfl, k_btR]
        dsimp only
        have hz : E0.1 223 0 = 0 ∧ E0.1 223 1 = 0 := by
          obtain ⟨_, _, _, _, _, _, _, _, _, _, _, _, _, _, _, _, a13, a14⟩ := h8
          exact ⟨a13, a14⟩
        obtain ⟨D2, E2, L, out, q, d1, d2, d3, d4, d5, d6, d7, d8, d9, d10, d11, d12⟩ := k_drawB (r0 := 71) b (by omega) b1 b2 b3 (by omega) hps c3.1 c3.2 hz.1 hz.2 k_rw73.1 k_rw73.2.1 (by omega) (by omega)
        have dD : ∀ y, (y < 71 ∨ 81 ≤ y) → D2.1 y = D.1 y := fun y hy => (d8 y (by omega)).1
        have eE : ∀ y, y ≠ 117 ∧ (y < 221 ∨ 1425 ≤ y) → E2.1 y = E0.1 y := fun y hy => d9.1 y hy.1 hy.2
        have d17 : ∀ j, 0 ≤ j → D2.1 17 j = D.1 17 j := fun j _ => by rw [dD 17 (by omega)]
        have e117 : ∀ j, (j < 36 ∨ 40 < j) → E2.1 117 j = E0.1 117 j := fun j hj => d9.2.1 j hj
        rw [d1, d2, Option.bind_some, Option.bind_some]
        refine k_valE (Int32.ofNat q) (D1 := D2) (E1 := E2) ⟨ns, nm, nw, np, nh, ni, k_Rs_mv h1 (d17 7 (by omega)) (e117 12 (by omega)) (fun y a b => dD y (by omega)) (eE _ (by omega)) (fun y a b => eE y (by omega)), k_Rm_mv h2 (d17 8 (by omega)) (e117 13 (by omega)) (fun y a b => dD y (by omega)) (eE _ (by omega)) (fun y a b => eE y (by omega)), k_Rn_mv h3 (dD _ (by omega)) (fun j _ => d17 j (by omega)) (dD _ (by omega)) (fun j a b => e117 j (by omega)) (eE _ (by omega)), k_Rw_mv h4 (d17 9 (by omega)) (e117 20 (by omega)) (fun y a b => dD y (by omega)) (fun y a b => eE y (by omega)), k_Rp_mv h5 (by rw [dD 24 (by omega)]) (e117 21 (by omega)) (fun y a b => dD y (by omega)) (fun y a b => eE y (by omega)), k_Rh_mv h6 (d17 10 (by omega)) (e117 22 (by omega)) (dD _ (by omega)) (eE _ (by omega)), k_Ri_mv h7 (fun _ => Nat.le_refl _) (by rw [dD 16 (by omega)]) (e117 23 (by omega)) (fun y a b => dD y (by omega)) (fun y a b => eE y (by omega)) (fun s hs => by have hs : s < ns := hs; have := h1.1; exact ⟨by rw [eE 139 (by omega)], fun k _ => by rw [eE (134 + s) (by omega)]⟩) (fun m hm => by have hm : m < nm := hm; have := h2.1; exact ⟨by rw [eE 201 (by omega)], fun k j _ _ => by rw [eE _ (by omega)]⟩) (fun w j hw _ => by have hw : w < nw := hw; have := h4.1; rw [eE _ (by omega)]) (fun p j hp _ => by have hp : p < np := hp; have := h5.1; rw [eE _ (by omega)]) (fun z _ => by rw [eE 203 (by omega)]), k_RdNew d4 d5 d3 d6 d7 d11 d12, k_Rt_mv h9 (dD _ (by omega)) (dD _ (by omega)) (e117 1 (by omega)) (e117 3 (by omega)) (eE _ (by omega))⟩ ?_ ?_ ?_ ?_ ?_
        · rw [e117 0 (by omega)]; exact t0
        · exact k_fr_trans f0 (fun y hy => ⟨eE y (by omega), by rw [d9.2.2]⟩)
        · exact fun y hy => d8 y (by omega)
        · show some (Sum.inr (D2.1 71 6, D2)) = _
          rw [d5.2.2.2.2.2.1]
        · show some (E2.1 117 39, E2) = _
          rw [d5.2.2.2.2.2.2.1]
      · rw [if_neg c3, if_neg c3, k_b1 t0 3 (by decide), Option.bind_some, if_neg k_10, k_btL]
        exact k_refE 0 2 _ q0 f0 (k_fc_refl D) rfl rfl rfl
    · rw [k_maF h2.2.1 h2.1 c2, k_btL, if_neg c2, if_neg k_10]
      exact k_refE 0 1 _ q0 f0 (k_fc_refl D) rfl rfl rfl
  · rw [k_soF h1.2.1 h1.1 c, k_btL, if_neg c, if_neg k_10]
    exact k_refE 0 0 _ q0 f0 (k_fc_refl D) rfl rfl rfl
