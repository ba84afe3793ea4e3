/-! image: the reference's row of all that is kept -/
def k_pos (s : Nat) : Nat × Nat :=
  if s < 11 then (117, 12 + s) else if s < 16 then (139, s - 11) else if s < 21 then (201, s - 16) else if s < 25 then (202, s - 21) else if s < 31 then (203, s - 25) else if s < 3031 then (134 + (s - 31) / 600, (s - 31) % 600) else if s < 3151 then (141 + (s - 3031) / 2, (s - 3031) % 2) else if s < 3163 then (206 + (s - 3151) / 3, (s - 3151) % 3) else (211 + (s - 3163) / 4, (s - 3163) % 4)
theorem k_pos1 {s : Nat} (h : s < 11) : k_pos s = (117, 12 + s) := by unfold k_pos; rw [if_pos h]
theorem k_pos2 {s : Nat} (h : 11 ≤ s) (h2 : s < 16) : k_pos s = (139, s - 11) := by unfold k_pos; rw [if_neg (by omega), if_pos h2]
theorem k_pos3 {s : Nat} (h : 16 ≤ s) (h2 : s < 21) : k_pos s = (201, s - 16) := by unfold k_pos; rw [if_neg (by omega), if_neg (by omega), if_pos h2]
theorem k_pos4 {s : Nat} (h : 21 ≤ s) (h2 : s < 25) : k_pos s = (202, s - 21) := by unfold k_pos; rw [if_neg (by omega), if_neg (by omega), if_neg (by omega), if_pos h2]
theorem k_pos5 {s : Nat} (h : 25 ≤ s) (h2 : s < 31) : k_pos s = (203, s - 25) := by unfold k_pos; rw [if_neg (by omega), if_neg (by omega), if_neg (by omega), if_neg (by omega), if_pos h2]
theorem k_pos6 {s : Nat} (h : 31 ≤ s) (h2 : s < 3031) : k_pos s = (134 + (s - 31) / 600, (s - 31) % 600) := by unfold k_pos; rw [if_neg (by omega), if_neg (by omega), if_neg (by omega), if_neg (by omega), if_neg (by omega), if_pos h2]
theorem k_pos7 {s : Nat} (h : 3031 ≤ s) (h2 : s < 3151) : k_pos s = (141 + (s - 3031) / 2, (s - 3031) % 2) := by unfold k_pos; rw [if_neg (by omega), if_neg (by omega), if_neg (by omega), if_neg (by omega), if_neg (by omega), if_neg (by omega), if_pos h2]
theorem k_pos8 {s : Nat} (h : 3151 ≤ s) (h2 : s < 3163) : k_pos s = (206 + (s - 3151) / 3, (s - 3151) % 3) := by unfold k_pos; rw [if_neg (by omega), if_neg (by omega), if_neg (by omega), if_neg (by omega), if_neg (by omega), if_neg (by omega), if_neg (by omega), if_pos h2]
theorem k_pos9 {s : Nat} (h : 3163 ≤ s) : k_pos s = (211 + (s - 3163) / 4, (s - 3163) % 4) := by unfold k_pos; rw [if_neg (by omega), if_neg (by omega), if_neg (by omega), if_neg (by omega), if_neg (by omega), if_neg (by omega), if_neg (by omega), if_neg (by omega)]
def k_ung (y j : Nat) : Nat := if y = 117 then j - 12 else if y = 139 then 11 + j else if y = 201 then 16 + j else if y = 202 then 21 + j else if y = 203 then 25 + j else if y < 139 then 31 + 600 * (y - 134) + j else if y < 201 then 3031 + 2 * (y - 141) + j else if y < 210 then 3151 + 3 * (y - 206) + j else 3163 + 4 * (y - 211) + j
theorem k_pos_all {s : Nat} (h : s < 3203) : k_ung (k_pos s).1 (k_pos s).2 = s ∧ (((k_pos s).1 = 117 ∧ 12 ≤ (k_pos s).2 ∧ (k_pos s).2 ≤ 22) ∨ (134 ≤ (k_pos s).1 ∧ (k_pos s).1 ≤ 139) ∨ (141 ≤ (k_pos s).1 ∧ (k_pos s).1 ≤ 203) ∨ (206 ≤ (k_pos s).1 ∧ (k_pos s).1 ≤ 209) ∨ (211 ≤ (k_pos s).1 ∧ (k_pos s).1 ≤ 220)) := by
  unfold k_ung
  by_cases c1 : s < 11
  · rw [k_pos1 c1]
    refine ⟨?_, Or.inl ⟨rfl, by show 12 ≤ 12 + s; omega, by show 12 + s ≤ 22; omega⟩⟩
    rw [if_pos rfl]
    show 12 + s - 12 = s
    omega
  by_cases c2 : s < 16
  · rw [k_pos2 (by omega) c2]
    refine ⟨?_, Or.inr (Or.inl ⟨show (134 : Nat) ≤ 139 by decide, show (139 : Nat) ≤ 139 by decide⟩)⟩
    show 11 + (s - 11) = s
    omega
  by_cases c3 : s < 21
  · rw [k_pos3 (by omega) c3]
    refine ⟨?_, Or.inr (Or.inr (Or.inl ⟨show (141 : Nat) ≤ 201 by decide, show (201 : Nat) ≤ 203 by decide⟩))⟩
    show 16 + (s - 16) = s
    omega
  by_cases c4 : s < 25
  · rw [k_pos4 (by omega) c4]
    refine ⟨?_, Or.inr (Or.inr (Or.inl ⟨show (141 : Nat) ≤ 202 by decide, show (202 : Nat) ≤ 203 by decide⟩))⟩
    show 21 + (s - 21) = s
    omega
  by_cases c5 : s < 31
  · rw [k_pos5 (by omega) c5]
    refine ⟨?_, Or.inr (Or.inr (Or.inl ⟨show (141 : Nat) ≤ 203 by decide, show (203 : Nat) ≤ 203 by decide⟩))⟩
    show 25 + (s - 25) = s
    omega
  by_cases c6 : s < 3031
  · rw [k_pos6 (by omega) c6]
    have e : ∃ z, z = (s - 31) / 600 ∧ z < 5 ∧ 600 * z + (s - 31) % 600 = s - 31 := ⟨_, rfl, (by omega), (by omega)⟩
    obtain ⟨z, hz, z1, z2⟩ := e
    rw [← hz]
    refine ⟨?_, Or.inr (Or.inl ⟨by show 134 ≤ 134 + z; omega, by show 134 + z ≤ 139; omega⟩)⟩
    show (if 134 + z = 117 then _ else _) = s
    rw [if_neg (by omega), if_neg (by show ¬ 134 + z = 139; omega), if_neg (by show ¬ 134 + z = 201; omega), if_neg (by show ¬ 134 + z = 202; omega), if_neg (by show ¬ 134 + z = 203; omega), if_pos (by show 134 + z < 139; omega)]
    show 31 + 600 * (134 + z - 134) + (s - 31) % 600 = s
    omega
  by_cases c7 : s < 3151
  · rw [k_pos7 (by omega) c7]
    have e : ∃ z, z = (s - 3031) / 2 ∧ z < 60 ∧ 2 * z + (s - 3031) % 2 = s - 3031 := ⟨_, rfl, (by omega), (by omega)⟩
    obtain ⟨z, hz, z1, z2⟩ := e
    rw [← hz]
    refine ⟨?_, Or.inr (Or.inr (Or.inl ⟨by show 141 ≤ 141 + z; omega, by show 141 + z ≤ 203; omega⟩))⟩
    show (if 141 + z = 117 then _ else _) = s
    rw [if_neg (by omega), if_neg (by show ¬ 141 + z = 139; omega), if_neg (by show ¬ 141 + z = 201; omega), if_neg (by show ¬ 141 + z = 202; omega), if_neg (by show ¬ 141 + z = 203; omega), if_neg (by show ¬ 141 + z < 139; omega), if_pos (by show 141 + z < 201; omega)]
    show 3031 + 2 * (141 + z - 141) + (s - 3031) % 2 = s
    omega
  by_cases c8 : s < 3163
  · rw [k_pos8 (by omega) c8]
    have e : ∃ z, z = (s - 3151) / 3 ∧ z < 4 ∧ 3 * z + (s - 3151) % 3 = s - 3151 := ⟨_, rfl, (by omega), (by omega)⟩
    obtain ⟨z, hz, z1, z2⟩ := e
    rw [← hz]
    refine ⟨?_, Or.inr (Or.inr (Or.inr (Or.inl ⟨by show 206 ≤ 206 + z; omega, by show 206 + z ≤ 209; omega⟩)))⟩
    show (if 206 + z = 117 then _ else _) = s
    rw [if_neg (by omega), if_neg (by show ¬ 206 + z = 139; omega), if_neg (by show ¬ 206 + z = 201; omega), if_neg (by show ¬ 206 + z = 202; omega), if_neg (by show ¬ 206 + z = 203; omega), if_neg (by show ¬ 206 + z < 139; omega), if_neg (by show ¬ 206 + z < 201; omega), if_pos (by show 206 + z < 210; omega)]
    show 3151 + 3 * (206 + z - 206) + (s - 3151) % 3 = s
    omega
  · rw [k_pos9 (by omega)]
    have e : ∃ z, z = (s - 3163) / 4 ∧ z < 10 ∧ 4 * z + (s - 3163) % 4 = s - 3163 := ⟨_, rfl, (by omega), (by omega)⟩
    obtain ⟨z, hz, z1, z2⟩ := e
    rw [← hz]
    refine ⟨?_, Or.inr (Or.inr (Or.inr (Or.inr ⟨by show 211 ≤ 211 + z; omega, by show 211 + z ≤ 220; omega⟩)))⟩
    show (if 211 + z = 117 then _ else _) = s
    rw [if_neg (by omega), if_neg (by show ¬ 211 + z = 139; omega), if_neg (by show ¬ 211 + z = 201; omega), if_neg (by show ¬ 211 + z = 202; omega), if_neg (by show ¬ 211 + z = 203; omega), if_neg (by show ¬ 211 + z < 139; omega), if_neg (by show ¬ 211 + z < 201; omega), if_neg (by show ¬ 211 + z < 210; omega)]
    show 3163 + 4 * (211 + z - 211) + (s - 3163) % 4 = s
    omega
theorem k_pos_inj {j s : Nat} (hj : j < 3203) (hs : s < 3203) (h1 : (k_pos j).1 = (k_pos s).1) (h2 : (k_pos j).2 = (k_pos s).2) : j = s := by
  have a := (k_pos_all hj).1
  have b := (k_pos_all hs).1
  rw [h1, h2, b] at a
  exact a.symm
def k_src (E : am_D) (s : Nat) : Int32 := E.1 (k_pos s).1 (k_pos s).2
def k_tgt (E0 : am_D) (i : Nat) (p : Int32) (s : Nat) : Int32 := if p = 0 then k_src E0 s else E0.1 (2634 + i) s
/-- the first s of all that is kept have been moved -/
def k_mvJ (E0 E : am_D) (i : Nat) (p : Int32) (s : Nat) : Prop :=
  (∀ j, j < s → E.1 (2634 + i) j = k_tgt E0 i p j ∧ k_src E j = k_tgt E0 i p j) ∧ (∀ j, s ≤ j → E.1 (2634 + i) j = E0.1 (2634 + i) j) ∧ (∀ j, s ≤ j → j < 3203 → k_src E j = k_src E0 j) ∧ E.1 117 56 = Int32.ofNat s ∧
  (∀ y x, y ≠ 2634 + i → ¬ (y = 117 ∧ x = 56) → (∀ j, j < 3203 → ¬ ((k_pos j).1 = y ∧ (k_pos j).2 = x)) → E.1 y x = E0.1 y x) ∧ E.2 = E0.2
theorem k_mvx {E0 E : am_D} {i s : Nat} {p : Int32} (hi : i < 3) (hs : s < 3203) (hJ : k_mvJ E0 E i p s) :
    ∃ x : Int32 × am_D, f_X12_moves (Int32.ofNat i) (k_src E s) p E = some x ∧ x.1 = k_tgt E0 i p s ∧ x.2.2 = E.2 ∧ ∀ y k, x.2.1 y k = if y = 117 ∧ k = 56 then Int32.ofNat (s + 1) else if y = 2634 + i ∧ k = s then k_tgt E0 i p s else E.1 y k := by
  obtain ⟨a1, a2, a3, a4, a5, a6⟩ := hJ
  have ai : ∀ {β : Type} (F : Nat → Option β), (am_gA 3 (Int32.ofNat i)).bind F = F i := fun F => by rw [k_a hi (by omega)]; rfl
  by_cases c : p = 0
  · have ct : k_tgt E0 i p s = k_src E s := by unfold k_tgt; rw [if_pos c, a3 s (by omega) hs]
    refine ⟨(k_src E s, am_wI (am_wI E (2634 + i) s (k_src E s)) 117 56 (Int32.ofNat (s + 1))), ?_, ct.symm, rfl, fun y k => ?_⟩
    · unfold f_X12_moves
      rw [if_pos c, ai, a4, k_p _ (by omega) (by omega), Option.bind_some, Option.bind_some]
      show (some (am_wI (am_wI E (2634 + i) s (k_src E s)) 117 56 ((am_wI E (2634 + i) s (k_src E s)).1 117 56 + 1))).bind _ = _
      rw [j_wI_ne _ _ _ (by omega), a4, j_suc, Option.bind_some, ai, k_ws, k_sub1, k_g (by omega) (by omega), j_wI_ne _ _ _ (by omega), k_ws, Option.bind_some]
    · rw [ct, k_w, k_w]
      by_cases y1 : y = 117
      · by_cases y2 : k = 56
        · rw [if_pos y1, if_pos y2, if_pos ⟨y1, y2⟩]
        · rw [if_pos y1, if_neg y2, if_neg (show ¬ y = 2634 + i by omega), if_neg (show ¬ (y = 117 ∧ k = 56) from fun q => y2 q.2), if_neg (show ¬ (y = 2634 + i ∧ k = s) from fun q => by have := q.1; omega), y1]
      · rw [if_neg y1, if_neg (show ¬ (y = 117 ∧ k = 56) from fun q => y1 q.1)]
        by_cases y3 : y = 2634 + i
        · by_cases y4 : k = s
          · rw [if_pos y3, if_pos y4, if_pos ⟨y3, y4⟩]
          · rw [if_pos y3, if_neg y4, if_neg (show ¬ (y = 2634 + i ∧ k = s) from fun q => y4 q.2), y3]
        · rw [if_neg y3, if_neg (show ¬ (y = 2634 + i ∧ k = s) from fun q => y3 q.1)]
  · have ct : k_tgt E0 i p s = E.1 (2634 + i) s := by unfold k_tgt; rw [if_neg c, a2 s (by omega)]
    refine ⟨(E.1 (2634 + i) s, am_wI E 117 56 (Int32.ofNat (s + 1))), ?_, ct.symm, rfl, fun y k => ?_⟩
    · unfold f_X12_moves
      rw [if_neg c, Option.bind_some, a4, j_suc, Option.bind_some, ai, k_ws, k_sub1, k_g (by omega) (by omega), j_wI_ne _ _ _ (by omega), Option.bind_some]
    · rw [ct, k_w]
      by_cases y1 : y = 117
      · by_cases y2 : k = 56
        · rw [if_pos y1, if_pos y2, if_pos ⟨y1, y2⟩]
        · rw [if_pos y1, if_neg y2, if_neg (show ¬ (y = 117 ∧ k = 56) from fun q => y2 q.2), if_neg (show ¬ (y = 2634 + i ∧ k = s) from fun q => by have := q.1; omega), y1]
      · rw [if_neg y1, if_neg (show ¬ (y = 117 ∧ k = 56) from fun q => y1 q.1)]
        by_cases y3 : y = 2634 + i ∧ k = s
        · rw [if_pos y3, y3.1, y3.2]
        · rw [if_neg y3]
theorem k_mvs {E0 E : am_D} {i s : Nat} {p : Int32} (hi : i < 3) (hs : s < 3203) (hJ : k_mvJ E0 E i p s) :
    ∃ x : Int32 × am_D, f_X12_moves (Int32.ofNat i) (k_src E s) p E = some x ∧ k_mvJ E0 (am_wI x.2 (k_pos s).1 (k_pos s).2 x.1) i p (s + 1) := by
  obtain ⟨x, e1, e2, e3, e4⟩ := k_mvx hi hs hJ
  obtain ⟨a1, a2, a3, a4, a5, a6⟩ := hJ
  have ps := (k_pos_all hs).2
  have hv : ∀ y k, (am_wI x.2 (k_pos s).1 (k_pos s).2 x.1).1 y k = if y = (k_pos s).1 ∧ k = (k_pos s).2 then k_tgt E0 i p s else if y = 117 ∧ k = 56 then Int32.ofNat (s + 1) else if y = 2634 + i ∧ k = s then k_tgt E0 i p s else E.1 y k := by
    intro y k
    rw [k_w, e2]
    by_cases c1 : y = (k_pos s).1
    · by_cases c2 : k = (k_pos s).2
      · rw [if_pos c1, if_pos c2, if_pos ⟨c1, c2⟩]
      · rw [if_pos c1, if_neg c2, if_neg (show ¬ (y = (k_pos s).1 ∧ k = (k_pos s).2) from fun q => c2 q.2), e4]
    · rw [if_neg c1, if_neg (show ¬ (y = (k_pos s).1 ∧ k = (k_pos s).2) from fun q => c1 q.1), e4]
  refine ⟨x, e1, fun j hj => ⟨?_, ?_⟩, fun j hj => ?_, fun j hj hj2 => ?_, ?_, fun y k h1 h2 h3 => ?_, by show x.2.2 = E0.2; rw [e3, a6]⟩
  · rw [hv, if_neg (by omega), if_neg (by omega)]
    by_cases c : j = s
    · rw [if_pos ⟨rfl, c⟩, c]
    · rw [if_neg (fun q => c q.2)]
      exact (a1 j (by omega)).1
  · have pj := (k_pos_all (s := j) (by omega)).2
    unfold k_src
    rw [hv]
    by_cases c : j = s
    · rw [c, if_pos ⟨rfl, rfl⟩]
    · rw [if_neg (fun q => c (k_pos_inj (by omega) hs q.1 q.2)), if_neg (by omega), if_neg (by omega)]
      exact (a1 j (by omega)).2
  · rw [hv, if_neg (by omega), if_neg (by omega), if_neg (by omega)]
    exact a2 j (by omega)
  · have pj := (k_pos_all hj2).2
    unfold k_src
    rw [hv, if_neg (fun q => absurd (k_pos_inj hj2 hs q.1 q.2) (by omega)), if_neg (by omega), if_neg (by omega)]
    exact a3 j (by omega) hj2
  · rw [hv, if_neg (by omega), if_pos ⟨rfl, rfl⟩]
  · rw [hv, if_neg (fun q => h3 s hs ⟨q.1.symm, q.2.symm⟩), if_neg h2, if_neg (fun q => h1 q.1)]
    exact a5 y k h1 h2 h3
theorem k_mvRow {E0 E : am_D} {i b q n : Nat} {p : Int32} (hi : i < 3) (hq : ∀ t, t < n → k_pos (b + t) = (q, t)) (hn : am_ln q = n) (hn2 : n ≤ 600) (hb : b + n ≤ 3203) (hJ : k_mvJ E0 E i p b) :
    ∃ E2, f_X12_movesRow (Int32.ofNat i) q p E = some E2 ∧ k_mvJ E0 E2 i p (b + n) := by
  have key := k_ind (P := fun fu k => ∀ E1 : am_D, k_mvJ E0 E1 i p (b + k) → ∃ E2, f_X12_movesRow_L3 (Int32.ofNat i) q p fu (Int32.ofNat k) E1 = some E2 ∧ k_mvJ E0 E2 i p (b + n)) n
    (by
      intro fu k hk ih E1 g
      have e : E1.1 q k = k_src E1 (b + k) := by unfold k_src; rw [hq k hk]
      obtain ⟨x, x1, x2⟩ := k_mvs hi (by omega) g
      rw [hq k hk] at x2
      rw [f_X12_movesRow_L3, hn, if_neg (by rw [j_le, j_nat (by omega), j_nat (by omega)]; omega), k_g hk (by omega), Option.bind_some, e, x1, Option.bind_some, k_p _ hk (by omega), Option.bind_some, j_suc]
      exact ih _ x2) (by
      intro fu E1 g
      rw [f_X12_movesRow_L3, hn, if_pos (Int32.le_refl _)]
      exact ⟨E1, rfl, g⟩) am_fu 0 (by omega) (by unfold am_fu; omega) E hJ
  obtain ⟨E2, e1, e2⟩ := key
  have e1 : f_X12_movesRow_L3 (Int32.ofNat i) q p am_fu (0 : Int32) E = some E2 := e1
  refine ⟨E2, ?_, e2⟩
  unfold f_X12_movesRow
  rw [e1]
  rfl
theorem k_mvL201 {E0 E : am_D} {i : Nat} {p : Int32} (hi : i < 3) (hl : ∀ s, s < 5 → am_ln (134 + s) = 600) (hJ : k_mvJ E0 E i p 31) : ∃ E2, f_X12_movesAll_L201 (Int32.ofNat i) p am_fu (0 : Int32) E = some E2 ∧ k_mvJ E0 E2 i p 3031 := by
  have key := k_ind (P := fun fu k => ∀ E1 : am_D, k_mvJ E0 E1 i p (31 + 600 * k) → ∃ E2, f_X12_movesAll_L201 (Int32.ofNat i) p fu (Int32.ofNat k) E1 = some E2 ∧ k_mvJ E0 E2 i p 3031) 5
    (by
      intro fu k hk ih E1 g
      obtain ⟨E2, x1, x2⟩ := k_mvRow (q := 134 + k) (n := 600) hi (fun t ht => by
        rw [k_pos6 (by omega) (by omega)]
        have z1 : (31 + 600 * k + t - 31) / 600 = k := (by omega)
        have z2 : (31 + 600 * k + t - 31) % 600 = t := (by omega)
        rw [z1, z2]) (hl k hk) (by omega) (by omega) g
      have e5 : (5 : Int32).toInt = 5 := rfl
      rw [f_X12_movesAll_L201, if_neg (by rw [j_le, j_nat (by omega), e5]; omega), k_a hk (by omega), Option.bind_some, x1, Option.bind_some, j_suc]
      refine ih _ ?_
      have z : 31 + 600 * (k + 1) = 31 + 600 * k + 600 := (by omega)
      rw [z]
      exact x2) (by
      intro fu E1 g
      have e5 : (5 : Int32).toInt = 5 := rfl
      rw [f_X12_movesAll_L201, if_pos (by rw [j_le, j_nat (by omega), e5]; omega)]
      exact ⟨E1, rfl, g⟩) am_fu 0 (by omega) (by unfold am_fu; omega) E hJ
  exact key
theorem k_mvL226 {E0 E : am_D} {i : Nat} {p : Int32} (hi : i < 3) (hl : ∀ s, s < 60 → am_ln (141 + s) = 2) (hJ : k_mvJ E0 E i p 3031) : ∃ E2, f_X12_movesAll_L226 (Int32.ofNat i) p am_fu (0 : Int32) E = some E2 ∧ k_mvJ E0 E2 i p 3151 := by
  have key := k_ind (P := fun fu k => ∀ E1 : am_D, k_mvJ E0 E1 i p (3031 + 2 * k) → ∃ E2, f_X12_movesAll_L226 (Int32.ofNat i) p fu (Int32.ofNat k) E1 = some E2 ∧ k_mvJ E0 E2 i p 3151) 60
    (by
      intro fu k hk ih E1 g
      obtain ⟨E2, x1, x2⟩ := k_mvRow (q := 141 + k) (n := 2) hi (fun t ht => by
        rw [k_pos7 (by omega) (by omega)]
        have z1 : (3031 + 2 * k + t - 3031) / 2 = k := (by omega)
        have z2 : (3031 + 2 * k + t - 3031) % 2 = t := (by omega)
        rw [z1, z2]) (hl k hk) (by omega) (by omega) g
      have e60 : (60 : Int32).toInt = 60 := rfl
      rw [f_X12_movesAll_L226, if_neg (by rw [j_le, j_nat (by omega), e60]; omega), k_a hk (by omega), Option.bind_some, x1, Option.bind_some, j_suc]
      refine ih _ ?_
      have z : 3031 + 2 * (k + 1) = 3031 + 2 * k + 2 := (by omega)
      rw [z]
      exact x2) (by
      intro fu E1 g
      have e60 : (60 : Int32).toInt = 60 := rfl
      rw [f_X12_movesAll_L226, if_pos (by rw [j_le, j_nat (by omega), e60]; omega)]
      exact ⟨E1, rfl, g⟩) am_fu 0 (by omega) (by unfold am_fu; omega) E hJ
  exact key
theorem k_mvL252 {E0 E : am_D} {i : Nat} {p : Int32} (hi : i < 3) (hl : ∀ s, s < 4 → am_ln (206 + s) = 3) (hJ : k_mvJ E0 E i p 3151) : ∃ E2, f_X12_movesAll_L252 (Int32.ofNat i) p am_fu (0 : Int32) E = some E2 ∧ k_mvJ E0 E2 i p 3163 := by
  have key := k_ind (P := fun fu k => ∀ E1 : am_D, k_mvJ E0 E1 i p (3151 + 3 * k) → ∃ E2, f_X12_movesAll_L252 (Int32.ofNat i) p fu (Int32.ofNat k) E1 = some E2 ∧ k_mvJ E0 E2 i p 3163) 4
    (by
      intro fu k hk ih E1 g
      obtain ⟨E2, x1, x2⟩ := k_mvRow (q := 206 + k) (n := 3) hi (fun t ht => by
        rw [k_pos8 (by omega) (by omega)]
        have z1 : (3151 + 3 * k + t - 3151) / 3 = k := (by omega)
        have z2 : (3151 + 3 * k + t - 3151) % 3 = t := (by omega)
        rw [z1, z2]) (hl k hk) (by omega) (by omega) g
      have e4 : (4 : Int32).toInt = 4 := rfl
      rw [f_X12_movesAll_L252, if_neg (by rw [j_le, j_nat (by omega), e4]; omega), k_a hk (by omega), Option.bind_some, x1, Option.bind_some, j_suc]
      refine ih _ ?_
      have z : 3151 + 3 * (k + 1) = 3151 + 3 * k + 3 := (by omega)
      rw [z]
      exact x2) (by
      intro fu E1 g
      have e4 : (4 : Int32).toInt = 4 := rfl
      rw [f_X12_movesAll_L252, if_pos (by rw [j_le, j_nat (by omega), e4]; omega)]
      exact ⟨E1, rfl, g⟩) am_fu 0 (by omega) (by unfold am_fu; omega) E hJ
  exact key
theorem k_mvL277 {E0 E : am_D} {i : Nat} {p : Int32} (hi : i < 3) (hl : ∀ s, s < 10 → am_ln (211 + s) = 4) (hJ : k_mvJ E0 E i p 3163) : ∃ E2, f_X12_movesAll_L277 (Int32.ofNat i) p am_fu (0 : Int32) E = some E2 ∧ k_mvJ E0 E2 i p 3203 := by
  have key := k_ind (P := fun fu k => ∀ E1 : am_D, k_mvJ E0 E1 i p (3163 + 4 * k) → ∃ E2, f_X12_movesAll_L277 (Int32.ofNat i) p fu (Int32.ofNat k) E1 = some E2 ∧ k_mvJ E0 E2 i p 3203) 10
    (by
      intro fu k hk ih E1 g
      obtain ⟨E2, x1, x2⟩ := k_mvRow (q := 211 + k) (n := 4) hi (fun t ht => by
        rw [k_pos9 (by omega)]
        have z1 : (3163 + 4 * k + t - 3163) / 4 = k := (by omega)
        have z2 : (3163 + 4 * k + t - 3163) % 4 = t := (by omega)
        rw [z1, z2]) (hl k hk) (by omega) (by omega) g
      have e10 : (10 : Int32).toInt = 10 := rfl
      rw [f_X12_movesAll_L277, if_neg (by rw [j_le, j_nat (by omega), e10]; omega), k_a hk (by omega), Option.bind_some, x1, Option.bind_some, j_suc]
      refine ih _ ?_
      have z : 3163 + 4 * (k + 1) = 3163 + 4 * k + 4 := (by omega)
      rw [z]
      exact x2) (by
      intro fu E1 g
      have e10 : (10 : Int32).toInt = 10 := rfl
      rw [f_X12_movesAll_L277, if_pos (by rw [j_le, j_nat (by omega), e10]; omega)]
      exact ⟨E1, rfl, g⟩) am_fu 0 (by omega) (by unfold am_fu; omega) E hJ
  exact key
theorem k_lnK : (∀ s : Nat, s < 60 → am_ln (141 + s) = 2) ∧ (∀ s : Nat, s < 4 → am_ln (206 + s) = 3) ∧ (∀ s : Nat, s < 10 → am_ln (211 + s) = 4) ∧ am_ln 139 = 5 ∧ am_ln 201 = 5 ∧ am_ln 202 = 4 ∧ am_ln 203 = 6 ∧ am_ln 22 = 4 ∧ (∀ i : Nat, i < 3 → am_ln (62 + 3 * i) = 4) := by
  decide +kernel
theorem k_mvAll {E : am_D} {i : Nat} (p : Int32) (hi : i < 3) : ∃ E2, f_X12_movesAll (Int32.ofNat i) p E = some E2 ∧ k_mvJ E E2 i p 3203 := by
  obtain ⟨l1, l2, l3, l4, l5, l6, l7, _⟩ := k_lnK
  have J0 : k_mvJ E (am_wI E 117 56 (0 : Int32)) i p 0 := by
    refine ⟨fun j hj => absurd hj (by omega), fun j _ => by rw [j_wI_ne _ _ _ (by omega)], fun j _ hj => ?_, by rw [k_ws]; rfl, fun y x h1 h2 h3 => ?_, rfl⟩
    · have pj := (k_pos_all hj).2
      unfold k_src
      rw [k_w]
      by_cases c1 : (k_pos j).1 = 117
      · rw [if_pos c1, if_neg (by omega), c1]
      · rw [if_neg c1]
    · rw [k_w]
      by_cases c1 : y = 117
      · rw [if_pos c1, if_neg (fun q => h2 ⟨c1, q⟩), c1]
      · rw [if_neg c1]
  obtain ⟨x0, a0, J1⟩ := k_mvs hi (show 0 < 3203 by omega) J0
  obtain ⟨x1, a1, J2⟩ := k_mvs hi (show 1 < 3203 by omega) J1
  obtain ⟨x2, a2, J3⟩ := k_mvs hi (show 2 < 3203 by omega) J2
  obtain ⟨x3, a3, J4⟩ := k_mvs hi (show 3 < 3203 by omega) J3
  obtain ⟨x4, a4, J5⟩ := k_mvs hi (show 4 < 3203 by omega) J4
  obtain ⟨x5, a5, J6⟩ := k_mvs hi (show 5 < 3203 by omega) J5
  obtain ⟨x6, a6, J7⟩ := k_mvs hi (show 6 < 3203 by omega) J6
  obtain ⟨x7, a7, J8⟩ := k_mvs hi (show 7 < 3203 by omega) J7
  obtain ⟨x8, a8, J9⟩ := k_mvs hi (show 8 < 3203 by omega) J8
  obtain ⟨x9, a9, J10⟩ := k_mvs hi (show 9 < 3203 by omega) J9
  obtain ⟨x10, a10, J11⟩ := k_mvs hi (show 10 < 3203 by omega) J10
  unfold f_X12_movesAll
  rw [Option.bind_some]
  have a0 : f_X12_moves (Int32.ofNat i) ((am_wI E 117 56 (0 : Int32)).1 117 12) p (am_wI E 117 56 (0 : Int32)) = some x0 := a0
  have J1 : k_mvJ E (am_wI x0.2 117 12 x0.1) i p 1 := J1
  rw [a0, Option.bind_some, Option.bind_some]
  have a1 : f_X12_moves (Int32.ofNat i) ((am_wI x0.2 117 12 x0.1).1 117 13) p (am_wI x0.2 117 12 x0.1) = some x1 := a1
  have J2 : k_mvJ E (am_wI x1.2 117 13 x1.1) i p 2 := J2
  rw [a1, Option.bind_some, Option.bind_some]
  have a2 : f_X12_moves (Int32.ofNat i) ((am_wI x1.2 117 13 x1.1).1 117 14) p (am_wI x1.2 117 13 x1.1) = some x2 := a2
  have J3 : k_mvJ E (am_wI x2.2 117 14 x2.1) i p 3 := J3
  rw [a2, Option.bind_some, Option.bind_some]
  have a3 : f_X12_moves (Int32.ofNat i) ((am_wI x2.2 117 14 x2.1).1 117 15) p (am_wI x2.2 117 14 x2.1) = some x3 := a3
  have J4 : k_mvJ E (am_wI x3.2 117 15 x3.1) i p 4 := J4
  rw [a3, Option.bind_some, Option.bind_some]
  have a4 : f_X12_moves (Int32.ofNat i) ((am_wI x3.2 117 15 x3.1).1 117 16) p (am_wI x3.2 117 15 x3.1) = some x4 := a4
  have J5 : k_mvJ E (am_wI x4.2 117 16 x4.1) i p 5 := J5
  rw [a4, Option.bind_some, Option.bind_some]
  have a5 : f_X12_moves (Int32.ofNat i) ((am_wI x4.2 117 16 x4.1).1 117 17) p (am_wI x4.2 117 16 x4.1) = some x5 := a5
  have J6 : k_mvJ E (am_wI x5.2 117 17 x5.1) i p 6 := J6
  rw [a5, Option.bind_some, Option.bind_some]
  have a6 : f_X12_moves (Int32.ofNat i) ((am_wI x5.2 117 17 x5.1).1 117 18) p (am_wI x5.2 117 17 x5.1) = some x6 := a6
  have J7 : k_mvJ E (am_wI x6.2 117 18 x6.1) i p 7 := J7
  rw [a6, Option.bind_some, Option.bind_some]
  have a7 : f_X12_moves (Int32.ofNat i) ((am_wI x6.2 117 18 x6.1).1 117 19) p (am_wI x6.2 117 18 x6.1) = some x7 := a7
  have J8 : k_mvJ E (am_wI x7.2 117 19 x7.1) i p 8 := J8
  rw [a7, Option.bind_some, Option.bind_some]
  have a8 : f_X12_moves (Int32.ofNat i) ((am_wI x7.2 117 19 x7.1).1 117 20) p (am_wI x7.2 117 19 x7.1) = some x8 := a8
  have J9 : k_mvJ E (am_wI x8.2 117 20 x8.1) i p 9 := J9
  rw [a8, Option.bind_some, Option.bind_some]
  have a9 : f_X12_moves (Int32.ofNat i) ((am_wI x8.2 117 20 x8.1).1 117 21) p (am_wI x8.2 117 20 x8.1) = some x9 := a9
  have J10 : k_mvJ E (am_wI x9.2 117 21 x9.1) i p 10 := J10
  rw [a9, Option.bind_some, Option.bind_some]
  have a10 : f_X12_moves (Int32.ofNat i) ((am_wI x9.2 117 21 x9.1).1 117 22) p (am_wI x9.2 117 21 x9.1) = some x10 := a10
  have J11 : k_mvJ E (am_wI x10.2 117 22 x10.1) i p 11 := J11
  rw [a10, Option.bind_some, Option.bind_some]
  obtain ⟨E139, r139, J139⟩ := k_mvRow (q := 139) (n := 5) hi (fun t ht => by rw [k_pos2 (by omega) (by omega)]; have z : 11 + t - 11 = t := (by omega); rw [z]) l4 (by omega) (by omega) J11
  rw [r139, Option.bind_some]
  obtain ⟨E201, r201, J201⟩ := k_mvRow (q := 201) (n := 5) hi (fun t ht => by rw [k_pos3 (by omega) (by omega)]; have z : 16 + t - 16 = t := (by omega); rw [z]) l5 (by omega) (by omega) J139
  rw [r201, Option.bind_some]
  obtain ⟨E202, r202, J202⟩ := k_mvRow (q := 202) (n := 4) hi (fun t ht => by rw [k_pos4 (by omega) (by omega)]; have z : 21 + t - 21 = t := (by omega); rw [z]) l6 (by omega) (by omega) J201
  rw [r202, Option.bind_some]
  obtain ⟨E203, r203, J203⟩ := k_mvRow (q := 203) (n := 6) hi (fun t ht => by rw [k_pos5 (by omega) (by omega)]; have z : 25 + t - 25 = t := (by omega); rw [z]) l7 (by omega) (by omega) J202
  rw [r203, Option.bind_some]
  obtain ⟨F201, s201, K201⟩ := k_mvL201 hi k_lnS J203
  rw [s201, Option.bind_some]
  obtain ⟨F226, s226, K226⟩ := k_mvL226 hi l1 K201
  rw [s226, Option.bind_some]
  obtain ⟨F252, s252, K252⟩ := k_mvL252 hi l2 K226
  rw [s252, Option.bind_some]
  obtain ⟨F277, s277, K277⟩ := k_mvL277 hi l3 K252
  rw [s277, Option.bind_some]
  exact ⟨F277, rfl, K277⟩
