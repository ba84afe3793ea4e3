/-! the law: its loop -/
theorem k_and63 (z : Int32) : 0 ≤ (z &&& 63).toInt ∧ (z &&& 63).toInt ≤ 63 := by
  have h : (z &&& 63).toBitVec.toNat ≤ 63 := by
    show (z.toBitVec &&& (63 : Int32).toBitVec).toNat ≤ 63
    rw [BitVec.toNat_and]
    exact Nat.and_le_right
  have e : (z &&& 63).toInt = ((z &&& 63).toBitVec.toNat : Int) := BitVec.toInt_eq_toNat_of_lt (by omega)
  omega
set_option maxRecDepth 100000 in
set_option maxHeartbeats 4000000 in
theorem lw_case {E : am_E} (hE : am_EH E) {D : am_D} (q : k_Q D D) {mc ms cu su i : Nat} {x : Int32} (hL : am_L E ≤ 3072) (hi : i + 6 ≤ am_L E) (hc : cu + 1 ≤ mc) (hs : su + 6 ≤ ms) (hx0 : 0 ≤ x.toInt) (hx : x.toInt ≤ 63) : ∃ D1, k_Q D1 D1 ∧ ∀ (o : am_O) (G' : am_G) (D' : am_D), am_S E mL_law 12 mc ms o G' D' (cu + 1) (su + 6) 3717 [(0, .ref 0), (1, .ref 16), (2, .ref 117), (3, .ref 2637), (4, .int (Int32.ofNat i))] [] am_G0 D1 → am_S E mL_law 12 mc ms o G' D' cu su 40 [(0, .ref 0), (1, .ref 16), (2, .ref 117), (3, .ref 2637), (4, .int (Int32.ofNat i))] [.int x] am_G0 D := by
  have hd : decode mL_law.2.1 40 = .ok (.tableswitch 3677 0 53 #[232, 305, 361, 417, 430, 486, 554, 622, 690, 758, 838, 906, 974, 987, 1012, 1080, 1093, 1173, 1241, 1254, 1310, 1378, 1458, 1526, 1606, 1698, 1766, 1822, 1902, 2005, 2097, 2110, 2178, 2234, 2290, 2358, 2426, 2494, 2562, 2630, 2710, 2778, 2858, 2926, 3018, 3110, 3166, 3246, 3350, 3442, 3546, 3626, 3639, 3652], 232) := am_dec tmL_law_0 24 rfl
  by_cases c0 : x.toInt = 0
  · obtain ⟨D1, q1, h⟩ := lw_feed hE q hL hi hc hs
    exact ⟨D1, q1, fun o G' D' k => am_tableIn (off := 232) (tgt := 272) hd (by omega) (by omega) (by rw [c0]; rfl) (by decide) (h o G' D' k)⟩
  by_cases c1 : x.toInt = 1
  · obtain ⟨D1, q1, h⟩ := lw_sound hE q hL hi hc hs
    exact ⟨D1, q1, fun o G' D' k => am_tableIn (off := 305) (tgt := 345) hd (by omega) (by omega) (by rw [c1]; rfl) (by decide) (h o G' D' k)⟩
  by_cases c2 : x.toInt = 2
  · obtain ⟨D1, q1, h⟩ := lw_map hE q hL hi hc hs
    exact ⟨D1, q1, fun o G' D' k => am_tableIn (off := 361) (tgt := 401) hd (by omega) (by omega) (by rw [c2]; rfl) (by decide) (h o G' D' k)⟩
  by_cases c3 : x.toInt = 3
  · obtain ⟨D1, q1, h⟩ := lw_fault hE q hL hi hc hs
    exact ⟨D1, q1, fun o G' D' k => am_tableIn (off := 417) (tgt := 457) hd (by omega) (by omega) (by rw [c3]; rfl) (by decide) (h o G' D' k)⟩
  by_cases c4 : x.toInt = 4
  · obtain ⟨D1, q1, h⟩ := lw_size hE q hL hi hc hs
    exact ⟨D1, q1, fun o G' D' k => am_tableIn (off := 430) (tgt := 470) hd (by omega) (by omega) (by rw [c4]; rfl) (by decide) (h o G' D' k)⟩
  by_cases c5 : x.toInt = 5
  · obtain ⟨D1, q1, h⟩ := lw_sample hE q hL hi hc hs
    exact ⟨D1, q1, fun o G' D' k => am_tableIn (off := 486) (tgt := 526) hd (by omega) (by omega) (by rw [c5]; rfl) (by decide) (h o G' D' k)⟩
  by_cases c6 : x.toInt = 6
  · obtain ⟨D1, q1, h⟩ := lw_told hE q hL hi hc hs
    exact ⟨D1, q1, fun o G' D' k => am_tableIn (off := 554) (tgt := 594) hd (by omega) (by omega) (by rw [c6]; rfl) (by decide) (h o G' D' k)⟩
  by_cases c7 : x.toInt = 7
  · obtain ⟨D1, q1, h⟩ := lw_place hE q hL hi hc hs
    exact ⟨D1, q1, fun o G' D' k => am_tableIn (off := 622) (tgt := 662) hd (by omega) (by omega) (by rw [c7]; rfl) (by decide) (h o G' D' k)⟩
  by_cases c8 : x.toInt = 8
  · obtain ⟨D1, q1, h⟩ := lw_where hE q hL hi hc hs
    exact ⟨D1, q1, fun o G' D' k => am_tableIn (off := 690) (tgt := 730) hd (by omega) (by omega) (by rw [c8]; rfl) (by decide) (h o G' D' k)⟩
  by_cases c9 : x.toInt = 9
  · obtain ⟨D1, q1, h⟩ := lw_pieces hE q hL hi hc hs
    exact ⟨D1, q1, fun o G' D' k => am_tableIn (off := 758) (tgt := 798) hd (by omega) (by omega) (by rw [c9]; rfl) (by decide) (h o G' D' k)⟩
  by_cases c10 : x.toInt = 10
  · obtain ⟨D1, q1, h⟩ := lw_draw hE q hL hi hc hs
    exact ⟨D1, q1, fun o G' D' k => am_tableIn (off := 838) (tgt := 878) hd (by omega) (by omega) (by rw [c10]; rfl) (by decide) (h o G' D' k)⟩
  by_cases c11 : x.toInt = 11
  · obtain ⟨D1, q1, h⟩ := lw_sharp hE q hL hi hc hs
    exact ⟨D1, q1, fun o G' D' k => am_tableIn (off := 906) (tgt := 946) hd (by omega) (by omega) (by rw [c11]; rfl) (by decide) (h o G' D' k)⟩
  by_cases c12 : x.toInt = 12
  · obtain ⟨D1, q1, h⟩ := lw_length hE q hL hi hc hs
    exact ⟨D1, q1, fun o G' D' k => am_tableIn (off := 974) (tgt := 1014) hd (by omega) (by omega) (by rw [c12]; rfl) (by decide) (h o G' D' k)⟩
  by_cases c13 : x.toInt = 13
  · obtain ⟨D1, q1, h⟩ := lw_result hE q hL hi hc hs
    exact ⟨D1, q1, fun o G' D' k => am_tableIn (off := 987) (tgt := 1027) hd (by omega) (by omega) (by rw [c13]; rfl) (by decide) (h o G' D' k)⟩
  by_cases c14 : x.toInt = 14
  · obtain ⟨D1, q1, h⟩ := lw_seam hE q hL hi hc hs
    exact ⟨D1, q1, fun o G' D' k => am_tableIn (off := 1012) (tgt := 1052) hd (by omega) (by omega) (by rw [c14]; rfl) (by decide) (h o G' D' k)⟩
  by_cases c15 : x.toInt = 15
  · obtain ⟨D1, q1, h⟩ := lw_keep hE q hL hi hc hs
    exact ⟨D1, q1, fun o G' D' k => am_tableIn (off := 1080) (tgt := 1120) hd (by omega) (by omega) (by rw [c15]; rfl) (by decide) (h o G' D' k)⟩
  by_cases c16 : x.toInt = 16
  · obtain ⟨D1, q1, h⟩ := lw_blowing hE q hL hi hc hs
    exact ⟨D1, q1, fun o G' D' k => am_tableIn (off := 1093) (tgt := 1133) hd (by omega) (by omega) (by rw [c16]; rfl) (by decide) (h o G' D' k)⟩
  by_cases c17 : x.toInt = 17
  · obtain ⟨D1, q1, h⟩ := lw_blow hE q hL hi hc hs
    exact ⟨D1, q1, fun o G' D' k => am_tableIn (off := 1173) (tgt := 1213) hd (by omega) (by omega) (by rw [c17]; rfl) (by decide) (h o G' D' k)⟩
  by_cases c18 : x.toInt = 18
  · obtain ⟨D1, q1, h⟩ := lw_blows hE q hL hi hc hs
    exact ⟨D1, q1, fun o G' D' k => am_tableIn (off := 1241) (tgt := 1281) hd (by omega) (by omega) (by rw [c18]; rfl) (by decide) (h o G' D' k)⟩
  by_cases c19 : x.toInt = 19
  · obtain ⟨D1, q1, h⟩ := lw_harm hE q hL hi hc hs
    exact ⟨D1, q1, fun o G' D' k => am_tableIn (off := 1254) (tgt := 1294) hd (by omega) (by omega) (by rw [c19]; rfl) (by decide) (h o G' D' k)⟩
  by_cases c20 : x.toInt = 20
  · obtain ⟨D1, q1, h⟩ := lw_weigh hE q hL hi hc hs
    exact ⟨D1, q1, fun o G' D' k => am_tableIn (off := 1310) (tgt := 1350) hd (by omega) (by omega) (by rw [c20]; rfl) (by decide) (h o G' D' k)⟩
  by_cases c21 : x.toInt = 21
  · obtain ⟨D1, q1, h⟩ := lw_way hE q hL hi hc hs
    exact ⟨D1, q1, fun o G' D' k => am_tableIn (off := 1378) (tgt := 1418) hd (by omega) (by omega) (by rw [c21]; rfl) (by decide) (h o G' D' k)⟩
  by_cases c22 : x.toInt = 22
  · obtain ⟨D1, q1, h⟩ := lw_best hE q hL hi hc hs
    exact ⟨D1, q1, fun o G' D' k => am_tableIn (off := 1458) (tgt := 1498) hd (by omega) (by omega) (by rw [c22]; rfl) (by decide) (h o G' D' k)⟩
  by_cases c23 : x.toInt = 23
  · obtain ⟨D1, q1, h⟩ := lw_bestOf hE q hL hi hc hs
    exact ⟨D1, q1, fun o G' D' k => am_tableIn (off := 1526) (tgt := 1566) hd (by omega) (by omega) (by rw [c23]; rfl) (by decide) (h o G' D' k)⟩
  by_cases c24 : x.toInt = 24
  · obtain ⟨D1, q1, h⟩ := lw_part hE q hL hi hc hs
    exact ⟨D1, q1, fun o G' D' k => am_tableIn (off := 1606) (tgt := 1646) hd (by omega) (by omega) (by rw [c24]; rfl) (by decide) (h o G' D' k)⟩
  by_cases c25 : x.toInt = 25
  · obtain ⟨D1, q1, h⟩ := lw_planned hE q hL hi hc hs
    exact ⟨D1, q1, fun o G' D' k => am_tableIn (off := 1698) (tgt := 1738) hd (by omega) (by omega) (by rw [c25]; rfl) (by decide) (h o G' D' k)⟩
  by_cases c26 : x.toInt = 26
  · obtain ⟨D1, q1, h⟩ := lw_planMap hE q hL hi hc hs
    exact ⟨D1, q1, fun o G' D' k => am_tableIn (off := 1766) (tgt := 1806) hd (by omega) (by omega) (by rw [c26]; rfl) (by decide) (h o G' D' k)⟩
  by_cases c27 : x.toInt = 27
  · obtain ⟨D1, q1, h⟩ := lw_pitch hE q hL hi hc hs
    exact ⟨D1, q1, fun o G' D' k => am_tableIn (off := 1822) (tgt := 1862) hd (by omega) (by omega) (by rw [c27]; rfl) (by decide) (h o G' D' k)⟩
  by_cases c28 : x.toInt = 28
  · obtain ⟨D1, q1, h⟩ := lw_turned hE q hL hi hc hs
    exact ⟨D1, q1, fun o G' D' k => am_tableIn (off := 1902) (tgt := 1942) hd (by omega) (by omega) (by rw [c28]; rfl) (by decide) (h o G' D' k)⟩
  by_cases c29 : x.toInt = 29
  · obtain ⟨D1, q1, h⟩ := lw_sing hE q hL hi hc hs
    exact ⟨D1, q1, fun o G' D' k => am_tableIn (off := 2005) (tgt := 2045) hd (by omega) (by omega) (by rw [c29]; rfl) (by decide) (h o G' D' k)⟩
  by_cases c30 : x.toInt = 30
  · obtain ⟨D1, q1, h⟩ := lw_jump hE q hL hi hc hs
    exact ⟨D1, q1, fun o G' D' k => am_tableIn (off := 2097) (tgt := 2137) hd (by omega) (by omega) (by rw [c30]; rfl) (by decide) (h o G' D' k)⟩
  by_cases c31 : x.toInt = 31
  · obtain ⟨D1, q1, h⟩ := lw_crossing hE q hL hi hc hs
    exact ⟨D1, q1, fun o G' D' k => am_tableIn (off := 2110) (tgt := 2150) hd (by omega) (by omega) (by rw [c31]; rfl) (by decide) (h o G' D' k)⟩
  by_cases c32 : x.toInt = 32
  · obtain ⟨D1, q1, h⟩ := lw_period hE q hL hi hc hs
    exact ⟨D1, q1, fun o G' D' k => am_tableIn (off := 2178) (tgt := 2218) hd (by omega) (by omega) (by rw [c32]; rfl) (by decide) (h o G' D' k)⟩
  by_cases c33 : x.toInt = 33
  · obtain ⟨D1, q1, h⟩ := lw_hum hE q hL hi hc hs
    exact ⟨D1, q1, fun o G' D' k => am_tableIn (off := 2234) (tgt := 2274) hd (by omega) (by omega) (by rw [c33]; rfl) (by decide) (h o G' D' k)⟩
  by_cases c34 : x.toInt = 34
  · obtain ⟨D1, q1, h⟩ := lw_meant hE q hL hi hc hs
    exact ⟨D1, q1, fun o G' D' k => am_tableIn (off := 2290) (tgt := 2330) hd (by omega) (by omega) (by rw [c34]; rfl) (by decide) (h o G' D' k)⟩
  by_cases c35 : x.toInt = 35
  · obtain ⟨D1, q1, h⟩ := lw_undo hE q hL hi hc hs
    exact ⟨D1, q1, fun o G' D' k => am_tableIn (off := 2358) (tgt := 2398) hd (by omega) (by omega) (by rw [c35]; rfl) (by decide) (h o G' D' k)⟩
  by_cases c36 : x.toInt = 36
  · obtain ⟨D1, q1, h⟩ := lw_wobble hE q hL hi hc hs
    exact ⟨D1, q1, fun o G' D' k => am_tableIn (off := 2426) (tgt := 2466) hd (by omega) (by omega) (by rw [c36]; rfl) (by decide) (h o G' D' k)⟩
  by_cases c37 : x.toInt = 37
  · obtain ⟨D1, q1, h⟩ := lw_beat hE q hL hi hc hs
    exact ⟨D1, q1, fun o G' D' k => am_tableIn (off := 2494) (tgt := 2534) hd (by omega) (by omega) (by rw [c37]; rfl) (by decide) (h o G' D' k)⟩
  by_cases c38 : x.toInt = 38
  · obtain ⟨D1, q1, h⟩ := lw_onto hE q hL hi hc hs
    exact ⟨D1, q1, fun o G' D' k => am_tableIn (off := 2562) (tgt := 2602) hd (by omega) (by omega) (by rw [c38]; rfl) (by decide) (h o G' D' k)⟩
  by_cases c39 : x.toInt = 39
  · obtain ⟨D1, q1, h⟩ := lw_loop hE q hL hi hc hs
    exact ⟨D1, q1, fun o G' D' k => am_tableIn (off := 2630) (tgt := 2670) hd (by omega) (by omega) (by rw [c39]; rfl) (by decide) (h o G' D' k)⟩
  by_cases c40 : x.toInt = 40
  · obtain ⟨D1, q1, h⟩ := lw_join hE q hL hi hc hs
    exact ⟨D1, q1, fun o G' D' k => am_tableIn (off := 2710) (tgt := 2750) hd (by omega) (by omega) (by rw [c40]; rfl) (by decide) (h o G' D' k)⟩
  by_cases c41 : x.toInt = 41
  · obtain ⟨D1, q1, h⟩ := lw_shift hE q hL hi hc hs
    exact ⟨D1, q1, fun o G' D' k => am_tableIn (off := 2778) (tgt := 2818) hd (by omega) (by omega) (by rw [c41]; rfl) (by decide) (h o G' D' k)⟩
  by_cases c42 : x.toInt = 42
  · obtain ⟨D1, q1, h⟩ := lw_colour hE q hL hi hc hs
    exact ⟨D1, q1, fun o G' D' k => am_tableIn (off := 2858) (tgt := 2898) hd (by omega) (by omega) (by rw [c42]; rfl) (by decide) (h o G' D' k)⟩
  by_cases c43 : x.toInt = 43
  · obtain ⟨D1, q1, h⟩ := lw_peak hE q hL hi hc hs
    exact ⟨D1, q1, fun o G' D' k => am_tableIn (off := 2926) (tgt := 2966) hd (by omega) (by omega) (by rw [c43]; rfl) (by decide) (h o G' D' k)⟩
  by_cases c44 : x.toInt = 44
  · obtain ⟨D1, q1, h⟩ := lw_lock hE q hL hi hc hs
    exact ⟨D1, q1, fun o G' D' k => am_tableIn (off := 3018) (tgt := 3058) hd (by omega) (by omega) (by rw [c44]; rfl) (by decide) (h o G' D' k)⟩
  by_cases c45 : x.toInt = 45
  · obtain ⟨D1, q1, h⟩ := lw_steady hE q hL hi hc hs
    exact ⟨D1, q1, fun o G' D' k => am_tableIn (off := 3110) (tgt := 3150) hd (by omega) (by omega) (by rw [c45]; rfl) (by decide) (h o G' D' k)⟩
  by_cases c46 : x.toInt = 46
  · obtain ⟨D1, q1, h⟩ := lw_film hE q hL hi hc hs
    exact ⟨D1, q1, fun o G' D' k => am_tableIn (off := 3166) (tgt := 3206) hd (by omega) (by omega) (by rw [c46]; rfl) (by decide) (h o G' D' k)⟩
  by_cases c47 : x.toInt = 47
  · obtain ⟨D1, q1, h⟩ := lw_live hE q hL hi hc hs
    exact ⟨D1, q1, fun o G' D' k => am_tableIn (off := 3246) (tgt := 3286) hd (by omega) (by omega) (by rw [c47]; rfl) (by decide) (h o G' D' k)⟩
  by_cases c48 : x.toInt = 48
  · obtain ⟨D1, q1, h⟩ := lw_lag hE q hL hi hc hs
    exact ⟨D1, q1, fun o G' D' k => am_tableIn (off := 3350) (tgt := 3390) hd (by omega) (by omega) (by rw [c48]; rfl) (by decide) (h o G' D' k)⟩
  by_cases c49 : x.toInt = 49
  · obtain ⟨D1, q1, h⟩ := lw_lags hE q hL hi hc hs
    exact ⟨D1, q1, fun o G' D' k => am_tableIn (off := 3442) (tgt := 3482) hd (by omega) (by omega) (by rw [c49]; rfl) (by decide) (h o G' D' k)⟩
  by_cases c50 : x.toInt = 50
  · obtain ⟨D1, q1, h⟩ := lw_lost hE q hL hi hc hs
    exact ⟨D1, q1, fun o G' D' k => am_tableIn (off := 3546) (tgt := 3586) hd (by omega) (by omega) (by rw [c50]; rfl) (by decide) (h o G' D' k)⟩
  by_cases c51 : x.toInt = 51
  · obtain ⟨D1, q1, h⟩ := lw_image hE q hL hi hc hs
    exact ⟨D1, q1, fun o G' D' k => am_tableIn (off := 3626) (tgt := 3666) hd (by omega) (by omega) (by rw [c51]; rfl) (by decide) (h o G' D' k)⟩
  by_cases c52 : x.toInt = 52
  · obtain ⟨D1, q1, h⟩ := lw_restore hE q hL hi hc hs
    exact ⟨D1, q1, fun o G' D' k => am_tableIn (off := 3639) (tgt := 3679) hd (by omega) (by omega) (by rw [c52]; rfl) (by decide) (h o G' D' k)⟩
  by_cases c53 : x.toInt = 53
  · obtain ⟨D1, q1, h⟩ := lw_count hE q hL hi hc hs
    exact ⟨D1, q1, fun o G' D' k => am_tableIn (off := 3652) (tgt := 3692) hd (by omega) (by omega) (by rw [c53]; rfl) (by decide) (h o G' D' k)⟩
  refine ⟨D, q, fun o G' D' k => am_tableOut (tgt := 3717) hd (Or.inr (by omega)) (by decide) (am_wide (Nat.le_add_right _ _) (Nat.le_add_right _ _) k)⟩
theorem k_ix6 (i : Nat) : Int32.ofNat i + (6 : Int32) = Int32.ofNat (i + 6) := (Int32.ofNat_add i 6).symm
set_option maxRecDepth 100000 in
set_option maxHeartbeats 4000000 in
theorem lw_rounds {E : am_E} (hE : am_EH E) {mc ms : Nat} (hL : am_L E ≤ 3072) : ∀ n i (D : am_D) cu su, am_L E ≤ i + 6 * n → i ≤ 4000 → cu + n ≤ mc → su + 6 * n ≤ ms → k_Q D D → ∃ D', am_S E mL_law 12 mc ms (.inl (some (.int 1))) am_G0 D' cu su 23 [(0, .ref 0), (1, .ref 16), (2, .ref 117), (3, .ref 2637), (4, .int (Int32.ofNat i))] [] am_G0 D := by
  intro n
  induction n with
  | zero =>
    intro i D cu su h1 h2 h3 h4 q
    refine ⟨D, ?_⟩
    refine am_iload (am_dec tmL_law_0 13 rfl) rfl ?_
    refine am_aload_n (am_dec tmL_law_0 14 rfl) rfl rfl ?_
    refine am_slenX hE (am_dec tmL_law_0 15 rfl) ?_
    refine am_bipush (v := (6 : Int32)) (am_dec tmL_law_0 16 rfl) (by decide) ?_
    refine am_isub (am_dec tmL_law_0 17 rfl) ?_
    have e6 : (6 : Int32).toInt = 6 := rfl
    have es : (Int32.ofNat (am_L E) - (6 : Int32)).toInt = (am_L E : Int) - 6 := by rw [j_sub (by rw [j_nat (by omega), e6]; omega) (by rw [j_nat (by omega), e6]; omega), j_nat (by omega), e6]
    refine am_icmp_gt (tgt := 3723) (am_dec tmL_law_0 18 rfl) (by decide) (fun _ => ?_) (fun h => absurd (by rw [j_lt, es, j_nat (by omega)]; omega) h)
    refine am_iconst (v := (1 : Int32)) (am_dec tmL_law_39 6 rfl) (by decide) ?_
    exact am_zret (am_dec tmL_law_39 7 rfl) rfl rfl (by omega) (by omega)
  | succ n ih =>
    intro i D cu su h1 h2 h3 h4 q
    have e6 : (6 : Int32).toInt = 6 := rfl
    have es : (Int32.ofNat (am_L E) - (6 : Int32)).toInt = (am_L E : Int) - 6 := by rw [j_sub (by rw [j_nat (by omega), e6]; omega) (by rw [j_nat (by omega), e6]; omega), j_nat (by omega), e6]
    by_cases c : i + 6 ≤ am_L E
    · obtain ⟨a0, a63⟩ := k_and63 (am_x E i)
      obtain ⟨D1, q1, h⟩ := lw_case (x := am_x E i &&& 63) (mc := mc) (ms := ms) (cu := cu) (su := su) hE q hL c (by omega) (by omega) a0 a63
      obtain ⟨D', h'⟩ := ih (i + 6) D1 (cu + 1) (su + 6) (by omega) (by omega) (by omega) (by omega) q1
      refine ⟨D', ?_⟩
      refine am_iload (am_dec tmL_law_0 13 rfl) rfl ?_
      refine am_aload_n (am_dec tmL_law_0 14 rfl) rfl rfl ?_
      refine am_slenX hE (am_dec tmL_law_0 15 rfl) ?_
      refine am_bipush (v := (6 : Int32)) (am_dec tmL_law_0 16 rfl) (by decide) ?_
      refine am_isub (am_dec tmL_law_0 17 rfl) ?_
      refine am_icmp_gt (tgt := 3723) (am_dec tmL_law_0 18 rfl) (by decide) (fun h => absurd h (by rw [j_lt, es, j_nat (by omega)]; omega)) (fun _ => ?_)
      refine am_aload_n (am_dec tmL_law_0 19 rfl) rfl rfl ?_
      refine am_iload (am_dec tmL_law_0 20 rfl) rfl ?_
      refine am_sld (j := i) hE (am_dec tmL_law_0 21 rfl) rfl (by omega) hL ?_
      refine am_bipush (v := (63 : Int32)) (am_dec tmL_law_0 22 rfl) (by decide) ?_
      refine am_iand (am_dec tmL_law_0 23 rfl) ?_
      refine h _ _ _ ?_
      refine am_iinc (v := (6 : Int32)) (lv' := [(0, .ref 0), (1, .ref 16), (2, .ref 117), (3, .ref 2637), (4, .int (Int32.ofNat (i + 6)))]) (am_dec tmL_law_39 4 rfl) rfl (by decide) (by decide) (by rw [k_ix6]; rfl) ?_
      refine am_goto (tgt := 23) (am_dec tmL_law_39 5 rfl) (by decide) ?_
      exact h'
    · refine ⟨D, ?_⟩
      refine am_iload (am_dec tmL_law_0 13 rfl) rfl ?_
      refine am_aload_n (am_dec tmL_law_0 14 rfl) rfl rfl ?_
      refine am_slenX hE (am_dec tmL_law_0 15 rfl) ?_
      refine am_bipush (v := (6 : Int32)) (am_dec tmL_law_0 16 rfl) (by decide) ?_
      refine am_isub (am_dec tmL_law_0 17 rfl) ?_
      refine am_icmp_gt (tgt := 3723) (am_dec tmL_law_0 18 rfl) (by decide) (fun _ => ?_) (fun h => absurd (by rw [j_lt, es, j_nat (by omega)]; omega) h)
      refine am_iconst (v := (1 : Int32)) (am_dec tmL_law_39 6 rfl) (by decide) ?_
      exact am_zret (am_dec tmL_law_39 7 rfl) rfl rfl (by omega) (by omega)
