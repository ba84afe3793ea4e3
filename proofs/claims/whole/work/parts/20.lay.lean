/-! the cells as the law makes them: shapes and references, by program -/
def am_SA : List (Nat × Nat) := [(11, 14), (1, 14), (22, 5), (23, 5), (24, 4), (20, 6), (20, 4), (5, 3), (6, 6), (20, 10), (20, 10), (20, 10), (20, 10), (20, 10), (7, 2), (20, 600), (7, 2), (20, 600), (7, 2), (20, 600), (7, 2), (20, 600), (7, 2), (20, 600), (9, 3), (20, 12), (20, 12), (9, 3), (20, 12), (20, 12), (9, 3), (20, 12), (20, 12), (9, 3), (20, 12), (20, 12), (9, 3), (20, 12), (20, 12), (5, 3), (5, 3), (5, 3), (5, 3), (25, 3), (4, 10), (5, 3), (20, 4), (4, 10), (5, 3), (20, 4), (4, 10), (5, 3), (20, 4), (8, 8), (20, 300), (3, 8), (7, 2), (20, 1200), (7, 2), (20, 1200), (9, 3), (20, 12), (20, 12), (20, 600), (20, 600), (3, 8), (7, 2), (20, 1200), (7, 2), (20, 1200), (9, 3), (20, 12), (20, 12), (20, 600), (20, 600), (3, 8), (7, 2), (20, 1200), (7, 2), (20, 1200), (9, 3), (20, 12), (20, 12), (20, 600), (20, 600), (7, 2), (20, 600), (9, 3), (20, 12), (20, 12), (0, 6), (20, 600), (20, 200), (0, 6), (20, 600), (20, 200), (2, 2), (20, 300), (10, 3), (21, 61), (20, 3), (12, 57), (20, 300), (20, 600), (26, 12)] ++ (List.replicate 12 (20, 2) ++ ([(26, 5), (20, 600), (20, 600), (20, 600), (20, 600), (20, 600), (20, 5), (26, 60)] ++ (List.replicate 60 (20, 2) ++ ([(20, 5), (20, 4), (20, 6), (20, 10), (26, 4), (20, 3), (20, 3), (20, 3), (20, 3), (26, 10)] ++ (List.replicate 10 (20, 4) ++ ([(20, 1200), (20, 1200), (20, 26), (26, 1200)]))))))
def am_SB : List (Nat × Nat) := [(20, 1200), (20, 1200), (20, 26), (26, 1200)]
def am_SC : List (Nat × Nat) := [(20, 1200), (20, 61), (20, 600), (21, 62), (26, 3), (20, 3400), (20, 3400), (20, 3400), (21, 1)]
def am_SD : List (Nat × Nat) := List.replicate 1200 (20, 3) ++ (am_SB ++ (List.replicate 1200 (20, 3) ++ am_SC))
def am_S0 : List (Nat × Nat) := am_SA ++ am_SD
def am_Vo : List (Nat × List Nat) := [(16, [17, 59, 0, 69, 71, 81, 91, 101, 103, 106, 109, 112, 114, 116]), (17, [18, 19, 20, 21, 22, 23, 24]), (24, [25, 26, 27, 28, 29]), (30, [31]), (32, [33]), (34, [35]), (36, [37]), (38, [39]), (40, [41, 42]), (43, [44, 45]), (46, [47, 48]), (49, [50, 51]), (52, [53, 54]), (60, [61, 62]), (63, [64, 65]), (66, [67, 68]), (69, [70]), (71, [72, 74, 76, 79, 80]), (72, [73]), (74, [75]), (76, [77, 78]), (81, [82, 84, 86, 89, 90]), (82, [83]), (84, [85]), (86, [87, 88]), (91, [92, 94, 96, 99, 100]), (92, [93]), (94, [95]), (96, [97, 98]), (101, [102]), (103, [104, 105]), (106, [107, 108]), (109, [110, 111]), (112, [113]), (114, [115]), (117, [0, 0, 0, 0, 0, 0, 0, 0, 0, 118, 119, 120, 0, 0, 0, 0, 0, 0, 0, 0, 0, 0, 0, 0, 133, 139, 140, 201, 202, 203, 204, 205, 210, 221, 222, 223, 0, 0, 0, 0, 0, 224, 1425, 1426, 1427, 1428, 0, 0, 0, 0, 0, 2629, 2630, 2631, 2632, 2633])]
def am_Va : List (Nat × Nat × Nat × Nat) := [(18, 30, 2, 5), (19, 40, 3, 5), (20, 55, 1, 4), (59, 60, 3, 3), (120, 121, 1, 12), (133, 134, 1, 5), (140, 141, 1, 60), (205, 206, 1, 4), (210, 211, 1, 10), (224, 225, 1, 1200), (1428, 1429, 1, 1200), (2633, 2634, 1, 3)]
def am_V0 (a j : Nat) : Option Nat := match am_Va.find? (fun q => q.1 == a) with
  | some q => if j < q.2.2.2 then some (q.2.1 + q.2.2.1 * j) else none
  | none => match am_Vo.find? (fun q => q.1 == a) with
    | some q => if q.2.getD j 0 = 0 then none else some (q.2.getD j 0)
    | none => none
def am_G0 : am_G := (am_V0, am_S0, false)
def am_ln (a : Nat) : Nat := ((am_sh am_G0 a).getD (0, 0)).2
theorem am_shl {a k n : Nat} (h : am_sh am_G0 a = some (k, n)) : am_sh am_G0 a = some (k, am_ln a) := by
  unfold am_ln
  rw [h]
  rfl
theorem am_SA_len : am_SA.length = 209 := by decide +kernel
theorem am_SB_len : am_SB.length = 4 := by decide +kernel
theorem am_SC_len : am_SC.length = 9 := by decide +kernel
theorem am_S0_len : am_S0.length = 2622 := by
  unfold am_S0 am_SD
  simp only [List.length_append, List.length_replicate, am_SA_len, am_SB_len, am_SC_len]
theorem am_SD_mem {q : Nat × Nat} (h : q ∈ am_SD) : q = (20, 3) ∨ q ∈ am_SB ∨ q ∈ am_SC := by
  unfold am_SD at h
  rcases List.mem_append.mp h with h | h
  · exact Or.inl (List.eq_of_mem_replicate h)
  · rcases List.mem_append.mp h with h | h
    · exact Or.inr (Or.inl h)
    · rcases List.mem_append.mp h with h | h
      · exact Or.inl (List.eq_of_mem_replicate h)
      · exact Or.inr (Or.inr h)
theorem am_sh_A {a : Nat} {q : Nat × Nat} (h : am_sh am_G0 a = some q) (hD : ¬ (q = (20, 3) ∨ q ∈ am_SB ∨ q ∈ am_SC)) : a < 16 + 209 ∧ am_SA[a - 16]? = some q := by
  have h1 : am_S0[a - 16]? = some q := am_sh_get h
  have h0 := am_sh_ge h
  unfold am_S0 at h1
  by_cases hl : a - 16 < am_SA.length
  · rw [List.getElem?_append_left hl] at h1
    rw [am_SA_len] at hl
    exact ⟨by omega, h1⟩
  · rw [List.getElem?_append_right (by omega)] at h1
    exact absurd (am_SD_mem (List.mem_of_getElem? h1)) hD
theorem am_seam1 {j : Nat} (h : j < 1200) : am_sh am_G0 (16 + 209 + j) = some (20, 3) := by
  unfold am_sh
  rw [if_neg (by omega)]
  show am_S0[16 + 209 + j - 16]? = _
  unfold am_S0 am_SD
  rw [List.getElem?_append_right (by rw [am_SA_len]; omega), List.getElem?_append_left (by rw [am_SA_len, List.length_replicate]; omega), List.getElem?_replicate, if_pos (by rw [am_SA_len]; omega)]
theorem am_seam2 {j : Nat} (h : j < 1200) : am_sh am_G0 (16 + 209 + 1200 + 4 + j) = some (20, 3) := by
  unfold am_sh
  rw [if_neg (by omega)]
  show am_S0[16 + 209 + 1200 + 4 + j - 16]? = _
  unfold am_S0 am_SD
  rw [List.getElem?_append_right (by rw [am_SA_len]; omega), List.getElem?_append_right (by rw [am_SA_len, List.length_replicate]; omega), List.getElem?_append_right (by rw [am_SA_len, List.length_replicate, am_SB_len]; omega), List.getElem?_append_left (by simp only [am_SA_len, List.length_replicate, am_SB_len]; omega), List.getElem?_replicate, if_pos (by rw [am_SA_len, List.length_replicate, am_SB_len]; omega)]
theorem am_sh_lt {a : Nat} {sh : Nat × Nat} (h : am_sh am_G0 a = some sh) : a < 2638 := by
  have h1 := am_sh_get h
  have h2 : a - 16 < am_S0.length := (List.getElem?_eq_some_iff.mp h1).1
  rw [am_S0_len] at h2
  omega
theorem inst_X0 {r : Nat} (h : am_sh am_G0 r = some (0, 6)) : r ∈ [106, 109] := by
  obtain ⟨h1, h2⟩ := am_sh_A h (by decide +kernel)
  have h0 := am_sh_ge h
  have h3 := (by decide +kernel : ∀ i, i < 209 → am_SA[i]? = some (0, 6) → 16 + i ∈ [106, 109]) (r - 16) (by omega) h2
  rwa [show 16 + (r - 16) = r by omega] at h3
theorem inst_X3 {r : Nat} (h : am_sh am_G0 r = some (3, 8)) : r ∈ [71, 81, 91] := by
  obtain ⟨h1, h2⟩ := am_sh_A h (by decide +kernel)
  have h0 := am_sh_ge h
  have h3 := (by decide +kernel : ∀ i, i < 209 → am_SA[i]? = some (3, 8) → 16 + i ∈ [71, 81, 91]) (r - 16) (by omega) h2
  rwa [show 16 + (r - 16) = r by omega] at h3
theorem inst_X4 {r : Nat} (h : am_sh am_G0 r = some (4, 10)) : r ∈ [60, 63, 66] := by
  obtain ⟨h1, h2⟩ := am_sh_A h (by decide +kernel)
  have h0 := am_sh_ge h
  have h3 := (by decide +kernel : ∀ i, i < 209 → am_SA[i]? = some (4, 10) → 16 + i ∈ [60, 63, 66]) (r - 16) (by omega) h2
  rwa [show 16 + (r - 16) = r by omega] at h3
theorem inst_X7 {r : Nat} (h : am_sh am_G0 r = some (7, 2)) : r ∈ [30, 32, 34, 36, 38, 72, 74, 82, 84, 92, 94, 101] := by
  obtain ⟨h1, h2⟩ := am_sh_A h (by decide +kernel)
  have h0 := am_sh_ge h
  have h3 := (by decide +kernel : ∀ i, i < 209 → am_SA[i]? = some (7, 2) → 16 + i ∈ [30, 32, 34, 36, 38, 72, 74, 82, 84, 92, 94, 101]) (r - 16) (by omega) h2
  rwa [show 16 + (r - 16) = r by omega] at h3
theorem inst_X9 {r : Nat} (h : am_sh am_G0 r = some (9, 3)) : r ∈ [40, 43, 46, 49, 52, 76, 86, 96, 103] := by
  obtain ⟨h1, h2⟩ := am_sh_A h (by decide +kernel)
  have h0 := am_sh_ge h
  have h3 := (by decide +kernel : ∀ i, i < 209 → am_SA[i]? = some (9, 3) → 16 + i ∈ [40, 43, 46, 49, 52, 76, 86, 96, 103]) (r - 16) (by omega) h2
  rwa [show 16 + (r - 16) = r by omega] at h3
theorem rf_112_0 : am_G0.1 112 0 = some 113 := by decide +kernel
theorem rf_114_0 : am_G0.1 114 0 = some 115 := by decide +kernel
theorem rf_117_10 : am_G0.1 117 10 = some 119 := by decide +kernel
theorem rf_117_11 : am_G0.1 117 11 = some 120 := by decide +kernel
theorem rf_117_24 : am_G0.1 117 24 = some 133 := by decide +kernel
theorem rf_117_25 : am_G0.1 117 25 = some 139 := by decide +kernel
theorem rf_117_26 : am_G0.1 117 26 = some 140 := by decide +kernel
theorem rf_117_27 : am_G0.1 117 27 = some 201 := by decide +kernel
theorem rf_117_28 : am_G0.1 117 28 = some 202 := by decide +kernel
theorem rf_117_29 : am_G0.1 117 29 = some 203 := by decide +kernel
theorem rf_117_30 : am_G0.1 117 30 = some 204 := by decide +kernel
theorem rf_117_31 : am_G0.1 117 31 = some 205 := by decide +kernel
theorem rf_117_32 : am_G0.1 117 32 = some 210 := by decide +kernel
theorem rf_117_33 : am_G0.1 117 33 = some 221 := by decide +kernel
theorem rf_117_34 : am_G0.1 117 34 = some 222 := by decide +kernel
theorem rf_117_35 : am_G0.1 117 35 = some 223 := by decide +kernel
theorem rf_117_41 : am_G0.1 117 41 = some 224 := by decide +kernel
theorem rf_117_42 : am_G0.1 117 42 = some 1425 := by decide +kernel
theorem rf_117_43 : am_G0.1 117 43 = some 1426 := by decide +kernel
theorem rf_117_44 : am_G0.1 117 44 = some 1427 := by decide +kernel
theorem rf_117_45 : am_G0.1 117 45 = some 1428 := by decide +kernel
theorem rf_117_51 : am_G0.1 117 51 = some 2629 := by decide +kernel
theorem rf_117_52 : am_G0.1 117 52 = some 2630 := by decide +kernel
theorem rf_117_53 : am_G0.1 117 53 = some 2631 := by decide +kernel
theorem rf_117_54 : am_G0.1 117 54 = some 2632 := by decide +kernel
theorem rf_117_55 : am_G0.1 117 55 = some 2633 := by decide +kernel
theorem rf_117_9 : am_G0.1 117 9 = some 118 := by decide +kernel
theorem rf_16_0 : am_G0.1 16 0 = some 17 := by decide +kernel
theorem rf_16_1 : am_G0.1 16 1 = some 59 := by decide +kernel
theorem rf_16_10 : am_G0.1 16 10 = some 109 := by decide +kernel
theorem rf_16_11 : am_G0.1 16 11 = some 112 := by decide +kernel
theorem rf_16_12 : am_G0.1 16 12 = some 114 := by decide +kernel
theorem rf_16_13 : am_G0.1 16 13 = some 116 := by decide +kernel
theorem rf_16_3 : am_G0.1 16 3 = some 69 := by decide +kernel
theorem rf_16_4 : am_G0.1 16 4 = some 71 := by decide +kernel
theorem rf_16_5 : am_G0.1 16 5 = some 81 := by decide +kernel
theorem rf_16_6 : am_G0.1 16 6 = some 91 := by decide +kernel
theorem rf_16_7 : am_G0.1 16 7 = some 101 := by decide +kernel
theorem rf_16_8 : am_G0.1 16 8 = some 103 := by decide +kernel
theorem rf_16_9 : am_G0.1 16 9 = some 106 := by decide +kernel
theorem rf_17_0 : am_G0.1 17 0 = some 18 := by decide +kernel
theorem rf_17_1 : am_G0.1 17 1 = some 19 := by decide +kernel
theorem rf_17_2 : am_G0.1 17 2 = some 20 := by decide +kernel
theorem rf_17_3 : am_G0.1 17 3 = some 21 := by decide +kernel
theorem rf_17_4 : am_G0.1 17 4 = some 22 := by decide +kernel
theorem rf_17_5 : am_G0.1 17 5 = some 23 := by decide +kernel
theorem rf_17_6 : am_G0.1 17 6 = some 24 := by decide +kernel
theorem rf_24_0 : am_G0.1 24 0 = some 25 := by decide +kernel
theorem rf_24_1 : am_G0.1 24 1 = some 26 := by decide +kernel
theorem rf_24_2 : am_G0.1 24 2 = some 27 := by decide +kernel
theorem rf_24_3 : am_G0.1 24 3 = some 28 := by decide +kernel
theorem rf_24_4 : am_G0.1 24 4 = some 29 := by decide +kernel
theorem rf_69_0 : am_G0.1 69 0 = some 70 := by decide +kernel
theorem rf_71_1 : am_G0.1 71 1 = some 74 := by decide +kernel
theorem rf_81_1 : am_G0.1 81 1 = some 84 := by decide +kernel
theorem rf_91_1 : am_G0.1 91 1 = some 94 := by decide +kernel
theorem ro_X0_0_0 {r : Nat} (h : am_sh am_G0 r = some (0, 6)) : am_G0.1 r 0 = some (r + 1) :=
  (by decide +kernel : ∀ r ∈ [106, 109], am_G0.1 r 0 = some (r + 1)) r (inst_X0 h)
theorem ro_X0_0_1 {r : Nat} (h : am_sh am_G0 r = some (0, 6)) : am_G0.1 r 1 = some (r + 2) :=
  (by decide +kernel : ∀ r ∈ [106, 109], am_G0.1 r 1 = some (r + 2)) r (inst_X0 h)
theorem ro_X3_0_0 {r : Nat} (h : am_sh am_G0 r = some (3, 8)) : am_G0.1 r 0 = some (r + 1) :=
  (by decide +kernel : ∀ r ∈ [71, 81, 91], am_G0.1 r 0 = some (r + 1)) r (inst_X3 h)
theorem ro_X3_0_1 {r : Nat} (h : am_sh am_G0 r = some (3, 8)) : am_G0.1 r 1 = some (r + 3) :=
  (by decide +kernel : ∀ r ∈ [71, 81, 91], am_G0.1 r 1 = some (r + 3)) r (inst_X3 h)
theorem ro_X3_0_2 {r : Nat} (h : am_sh am_G0 r = some (3, 8)) : am_G0.1 r 2 = some (r + 5) :=
  (by decide +kernel : ∀ r ∈ [71, 81, 91], am_G0.1 r 2 = some (r + 5)) r (inst_X3 h)
theorem ro_X3_0_3 {r : Nat} (h : am_sh am_G0 r = some (3, 8)) : am_G0.1 r 3 = some (r + 8) :=
  (by decide +kernel : ∀ r ∈ [71, 81, 91], am_G0.1 r 3 = some (r + 8)) r (inst_X3 h)
theorem ro_X3_0_4 {r : Nat} (h : am_sh am_G0 r = some (3, 8)) : am_G0.1 r 4 = some (r + 9) :=
  (by decide +kernel : ∀ r ∈ [71, 81, 91], am_G0.1 r 4 = some (r + 9)) r (inst_X3 h)
theorem ro_X4_0_0 {r : Nat} (h : am_sh am_G0 r = some (4, 10)) : am_G0.1 r 0 = some (r + 1) :=
  (by decide +kernel : ∀ r ∈ [60, 63, 66], am_G0.1 r 0 = some (r + 1)) r (inst_X4 h)
theorem ro_X4_0_1 {r : Nat} (h : am_sh am_G0 r = some (4, 10)) : am_G0.1 r 1 = some (r + 2) :=
  (by decide +kernel : ∀ r ∈ [60, 63, 66], am_G0.1 r 1 = some (r + 2)) r (inst_X4 h)
theorem ro_X7_0_0 {r : Nat} (h : am_sh am_G0 r = some (7, 2)) : am_G0.1 r 0 = some (r + 1) :=
  (by decide +kernel : ∀ r ∈ [30, 32, 34, 36, 38, 72, 74, 82, 84, 92, 94, 101], am_G0.1 r 0 = some (r + 1)) r (inst_X7 h)
theorem ro_X9_0_0 {r : Nat} (h : am_sh am_G0 r = some (9, 3)) : am_G0.1 r 0 = some (r + 1) :=
  (by decide +kernel : ∀ r ∈ [40, 43, 46, 49, 52, 76, 86, 96, 103], am_G0.1 r 0 = some (r + 1)) r (inst_X9 h)
theorem ro_X9_0_1 {r : Nat} (h : am_sh am_G0 r = some (9, 3)) : am_G0.1 r 1 = some (r + 2) :=
  (by decide +kernel : ∀ r ∈ [40, 43, 46, 49, 52, 76, 86, 96, 103], am_G0.1 r 1 = some (r + 2)) r (inst_X9 h)
theorem rr_120 {j : Nat} (h : j < 12) : am_G0.1 120 j = some (121 + j) :=
  (by decide +kernel : ∀ j, j < 12 → am_G0.1 120 j = some (121 + j)) j h
theorem rr_133 {j : Nat} (h : j < 5) : am_G0.1 133 j = some (134 + j) :=
  (by decide +kernel : ∀ j, j < 5 → am_G0.1 133 j = some (134 + j)) j h
theorem rr_140 {j : Nat} (h : j < 60) : am_G0.1 140 j = some (141 + j) :=
  (by decide +kernel : ∀ j, j < 60 → am_G0.1 140 j = some (141 + j)) j h
theorem rr_1428 {j : Nat} (h : j < 1200) : am_G0.1 1428 j = some (1429 + j) :=
  (by decide +kernel : ∀ j, j < 1200 → am_G0.1 1428 j = some (1429 + j)) j h
theorem rr_18 {j : Nat} (h : j < 5) : am_G0.1 18 j = some (30 + 2 * j) :=
  (by decide +kernel : ∀ j, j < 5 → am_G0.1 18 j = some (30 + 2 * j)) j h
theorem rr_19 {j : Nat} (h : j < 5) : am_G0.1 19 j = some (40 + 3 * j) :=
  (by decide +kernel : ∀ j, j < 5 → am_G0.1 19 j = some (40 + 3 * j)) j h
theorem rr_20 {j : Nat} (h : j < 4) : am_G0.1 20 j = some (55 + j) :=
  (by decide +kernel : ∀ j, j < 4 → am_G0.1 20 j = some (55 + j)) j h
theorem rr_205 {j : Nat} (h : j < 4) : am_G0.1 205 j = some (206 + j) :=
  (by decide +kernel : ∀ j, j < 4 → am_G0.1 205 j = some (206 + j)) j h
theorem rr_210 {j : Nat} (h : j < 10) : am_G0.1 210 j = some (211 + j) :=
  (by decide +kernel : ∀ j, j < 10 → am_G0.1 210 j = some (211 + j)) j h
theorem rr_224 {j : Nat} (h : j < 1200) : am_G0.1 224 j = some (225 + j) :=
  (by decide +kernel : ∀ j, j < 1200 → am_G0.1 224 j = some (225 + j)) j h
theorem rr_2633 {j : Nat} (h : j < 3) : am_G0.1 2633 j = some (2634 + j) :=
  (by decide +kernel : ∀ j, j < 3 → am_G0.1 2633 j = some (2634 + j)) j h
theorem rr_59 {j : Nat} (h : j < 3) : am_G0.1 59 j = some (60 + 3 * j) :=
  (by decide +kernel : ∀ j, j < 3 → am_G0.1 59 j = some (60 + 3 * j)) j h
theorem sa_120_0 {j : Nat} (h : j < 12) : am_sh am_G0 (121 + j) = some (20, 2) :=
  (by decide +kernel : ∀ j, j < 12 → am_sh am_G0 (121 + j) = some (20, 2)) j h
theorem sa_133_0 {j : Nat} (h : j < 5) : am_sh am_G0 (134 + j) = some (20, 600) :=
  (by decide +kernel : ∀ j, j < 5 → am_sh am_G0 (134 + j) = some (20, 600)) j h
theorem sa_140_0 {j : Nat} (h : j < 60) : am_sh am_G0 (141 + j) = some (20, 2) :=
  (by decide +kernel : ∀ j, j < 60 → am_sh am_G0 (141 + j) = some (20, 2)) j h
theorem sa_1428_0 {j : Nat} (h : j < 1200) : am_sh am_G0 (1429 + j) = some (20, 3) := am_seam2 h
theorem sa_18_0 {j : Nat} (h : j < 5) : am_sh am_G0 (30 + 2 * j) = some (7, 2) :=
  (by decide +kernel : ∀ j, j < 5 → am_sh am_G0 (30 + 2 * j) = some (7, 2)) j h
theorem sa_19_0 {j : Nat} (h : j < 5) : am_sh am_G0 (40 + 3 * j) = some (9, 3) :=
  (by decide +kernel : ∀ j, j < 5 → am_sh am_G0 (40 + 3 * j) = some (9, 3)) j h
theorem sa_20_0 {j : Nat} (h : j < 4) : am_sh am_G0 (55 + j) = some (5, 3) :=
  (by decide +kernel : ∀ j, j < 4 → am_sh am_G0 (55 + j) = some (5, 3)) j h
theorem sa_205_0 {j : Nat} (h : j < 4) : am_sh am_G0 (206 + j) = some (20, 3) :=
  (by decide +kernel : ∀ j, j < 4 → am_sh am_G0 (206 + j) = some (20, 3)) j h
theorem sa_210_0 {j : Nat} (h : j < 10) : am_sh am_G0 (211 + j) = some (20, 4) :=
  (by decide +kernel : ∀ j, j < 10 → am_sh am_G0 (211 + j) = some (20, 4)) j h
theorem sa_224_0 {j : Nat} (h : j < 1200) : am_sh am_G0 (225 + j) = some (20, 3) := am_seam1 h
theorem sa_2633_0 {j : Nat} (h : j < 3) : am_sh am_G0 (2634 + j) = some (20, 3400) :=
  (by decide +kernel : ∀ j, j < 3 → am_sh am_G0 (2634 + j) = some (20, 3400)) j h
theorem sa_59_0 {j : Nat} (h : j < 3) : am_sh am_G0 (60 + 3 * j) = some (4, 10) :=
  (by decide +kernel : ∀ j, j < 3 → am_sh am_G0 (60 + 3 * j) = some (4, 10)) j h
theorem sh_101 : am_sh am_G0 101 = some (7, 2) := by decide +kernel
theorem sh_103 : am_sh am_G0 103 = some (9, 3) := by decide +kernel
theorem sh_106 : am_sh am_G0 106 = some (0, 6) := by decide +kernel
theorem sh_109 : am_sh am_G0 109 = some (0, 6) := by decide +kernel
theorem sh_112 : am_sh am_G0 112 = some (2, 2) := by decide +kernel
theorem sh_113 : am_sh am_G0 113 = some (20, 300) := by decide +kernel
theorem sh_114 : am_sh am_G0 114 = some (10, 3) := by decide +kernel
theorem sh_115 : am_sh am_G0 115 = some (21, 61) := by decide +kernel
theorem sh_116 : am_sh am_G0 116 = some (20, 3) := by decide +kernel
theorem sh_117 : am_sh am_G0 117 = some (12, 57) := by decide +kernel
theorem sh_118 : am_sh am_G0 118 = some (20, 300) := by decide +kernel
theorem sh_119 : am_sh am_G0 119 = some (20, 600) := by decide +kernel
theorem sh_120 : am_sh am_G0 120 = some (26, 12) := by decide +kernel
theorem sh_133 : am_sh am_G0 133 = some (26, 5) := by decide +kernel
theorem sh_139 : am_sh am_G0 139 = some (20, 5) := by decide +kernel
theorem sh_140 : am_sh am_G0 140 = some (26, 60) := by decide +kernel
theorem sh_1425 : am_sh am_G0 1425 = some (20, 1200) := by decide +kernel
theorem sh_1426 : am_sh am_G0 1426 = some (20, 1200) := by decide +kernel
theorem sh_1427 : am_sh am_G0 1427 = some (20, 26) := by decide +kernel
theorem sh_1428 : am_sh am_G0 1428 = some (26, 1200) := by decide +kernel
theorem sh_16 : am_sh am_G0 16 = some (11, 14) := by decide +kernel
theorem sh_17 : am_sh am_G0 17 = some (1, 14) := by decide +kernel
theorem sh_18 : am_sh am_G0 18 = some (22, 5) := by decide +kernel
theorem sh_19 : am_sh am_G0 19 = some (23, 5) := by decide +kernel
theorem sh_20 : am_sh am_G0 20 = some (24, 4) := by decide +kernel
theorem sh_201 : am_sh am_G0 201 = some (20, 5) := by decide +kernel
theorem sh_202 : am_sh am_G0 202 = some (20, 4) := by decide +kernel
theorem sh_203 : am_sh am_G0 203 = some (20, 6) := by decide +kernel
theorem sh_204 : am_sh am_G0 204 = some (20, 10) := by decide +kernel
theorem sh_205 : am_sh am_G0 205 = some (26, 4) := by decide +kernel
theorem sh_21 : am_sh am_G0 21 = some (20, 6) := by decide +kernel
theorem sh_210 : am_sh am_G0 210 = some (26, 10) := by decide +kernel
theorem sh_22 : am_sh am_G0 22 = some (20, 4) := by decide +kernel
theorem sh_221 : am_sh am_G0 221 = some (20, 1200) := by decide +kernel
theorem sh_222 : am_sh am_G0 222 = some (20, 1200) := by decide +kernel
theorem sh_223 : am_sh am_G0 223 = some (20, 26) := by decide +kernel
theorem sh_224 : am_sh am_G0 224 = some (26, 1200) := by decide +kernel
theorem sh_23 : am_sh am_G0 23 = some (5, 3) := by decide +kernel
theorem sh_24 : am_sh am_G0 24 = some (6, 6) := by decide +kernel
theorem sh_25 : am_sh am_G0 25 = some (20, 10) := by decide +kernel
theorem sh_26 : am_sh am_G0 26 = some (20, 10) := by decide +kernel
theorem sh_2629 : am_sh am_G0 2629 = some (20, 1200) := by decide +kernel
theorem sh_2630 : am_sh am_G0 2630 = some (20, 61) := by decide +kernel
theorem sh_2631 : am_sh am_G0 2631 = some (20, 600) := by decide +kernel
theorem sh_2632 : am_sh am_G0 2632 = some (21, 62) := by decide +kernel
theorem sh_2633 : am_sh am_G0 2633 = some (26, 3) := by decide +kernel
theorem sh_27 : am_sh am_G0 27 = some (20, 10) := by decide +kernel
theorem sh_28 : am_sh am_G0 28 = some (20, 10) := by decide +kernel
theorem sh_29 : am_sh am_G0 29 = some (20, 10) := by decide +kernel
theorem sh_59 : am_sh am_G0 59 = some (25, 3) := by decide +kernel
theorem sh_69 : am_sh am_G0 69 = some (8, 8) := by decide +kernel
theorem sh_70 : am_sh am_G0 70 = some (20, 300) := by decide +kernel
theorem sh_71 : am_sh am_G0 71 = some (3, 8) := by decide +kernel
theorem sh_74 : am_sh am_G0 74 = some (7, 2) := by decide +kernel
theorem sh_81 : am_sh am_G0 81 = some (3, 8) := by decide +kernel
theorem sh_84 : am_sh am_G0 84 = some (7, 2) := by decide +kernel
theorem sh_91 : am_sh am_G0 91 = some (3, 8) := by decide +kernel
theorem sh_94 : am_sh am_G0 94 = some (7, 2) := by decide +kernel
theorem so_X0_1 {r : Nat} (h : am_sh am_G0 r = some (0, 6)) : am_sh am_G0 (r + 1) = some (20, 600) :=
  (by decide +kernel : ∀ r ∈ [106, 109], am_sh am_G0 (r + 1) = some (20, 600)) r (inst_X0 h)
theorem so_X0_2 {r : Nat} (h : am_sh am_G0 r = some (0, 6)) : am_sh am_G0 (r + 2) = some (20, 200) :=
  (by decide +kernel : ∀ r ∈ [106, 109], am_sh am_G0 (r + 2) = some (20, 200)) r (inst_X0 h)
theorem so_X3_1 {r : Nat} (h : am_sh am_G0 r = some (3, 8)) : am_sh am_G0 (r + 1) = some (7, 2) :=
  (by decide +kernel : ∀ r ∈ [71, 81, 91], am_sh am_G0 (r + 1) = some (7, 2)) r (inst_X3 h)
theorem so_X3_3 {r : Nat} (h : am_sh am_G0 r = some (3, 8)) : am_sh am_G0 (r + 3) = some (7, 2) :=
  (by decide +kernel : ∀ r ∈ [71, 81, 91], am_sh am_G0 (r + 3) = some (7, 2)) r (inst_X3 h)
theorem so_X3_5 {r : Nat} (h : am_sh am_G0 r = some (3, 8)) : am_sh am_G0 (r + 5) = some (9, 3) :=
  (by decide +kernel : ∀ r ∈ [71, 81, 91], am_sh am_G0 (r + 5) = some (9, 3)) r (inst_X3 h)
theorem so_X3_8 {r : Nat} (h : am_sh am_G0 r = some (3, 8)) : am_sh am_G0 (r + 8) = some (20, 600) :=
  (by decide +kernel : ∀ r ∈ [71, 81, 91], am_sh am_G0 (r + 8) = some (20, 600)) r (inst_X3 h)
theorem so_X3_9 {r : Nat} (h : am_sh am_G0 r = some (3, 8)) : am_sh am_G0 (r + 9) = some (20, 600) :=
  (by decide +kernel : ∀ r ∈ [71, 81, 91], am_sh am_G0 (r + 9) = some (20, 600)) r (inst_X3 h)
theorem so_X4_1 {r : Nat} (h : am_sh am_G0 r = some (4, 10)) : am_sh am_G0 (r + 1) = some (5, 3) :=
  (by decide +kernel : ∀ r ∈ [60, 63, 66], am_sh am_G0 (r + 1) = some (5, 3)) r (inst_X4 h)
theorem so_X4_2 {r : Nat} (h : am_sh am_G0 r = some (4, 10)) : am_sh am_G0 (r + 2) = some (20, 4) :=
  (by decide +kernel : ∀ r ∈ [60, 63, 66], am_sh am_G0 (r + 2) = some (20, 4)) r (inst_X4 h)
theorem so_X7_1 {r : Nat} (h : am_sh am_G0 r = some (7, 2)) : am_sh am_G0 (r + 1) = some (20, am_ln (r + 1)) :=
  (by decide +kernel : ∀ r ∈ [30, 32, 34, 36, 38, 72, 74, 82, 84, 92, 94, 101], am_sh am_G0 (r + 1) = some (20, am_ln (r + 1))) r (inst_X7 h)
theorem so_X9_1 {r : Nat} (h : am_sh am_G0 r = some (9, 3)) : am_sh am_G0 (r + 1) = some (20, 12) :=
  (by decide +kernel : ∀ r ∈ [40, 43, 46, 49, 52, 76, 86, 96, 103], am_sh am_G0 (r + 1) = some (20, 12)) r (inst_X9 h)
theorem so_X9_2 {r : Nat} (h : am_sh am_G0 r = some (9, 3)) : am_sh am_G0 (r + 2) = some (20, 12) :=
  (by decide +kernel : ∀ r ∈ [40, 43, 46, 49, 52, 76, 86, 96, 103], am_sh am_G0 (r + 2) = some (20, 12)) r (inst_X9 h)
