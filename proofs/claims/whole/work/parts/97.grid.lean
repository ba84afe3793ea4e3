/-! beat: the grid, on both sides -/
def k_bs (c : Nat) (pos : Nat → Nat) (D : am_D) (v2 v3 v4 : Int32) : Prop := (D.1 106 3 = 0 ∧ v2 = -1) ∨ ∃ st a : Nat, 4 ≤ st ∧ st ≤ 200 ∧ a < st ∧ D.1 106 3 = Int32.ofNat st ∧ D.1 106 4 = Int32.ofNat a ∧ D.1 106 5 = Int32.ofNat (k_off st c pos a) ∧ v2 = Int32.ofNat (200 * st + a) ∧ v3 = Int32.ofNat (k_off st c pos a) ∧ v4 = Int32.ofNat st
def k_f3 (D D2 : am_D) : Prop := (∀ y, y ≠ 106 → D2.1 y = D.1 y) ∧ (∀ j, j < 3 → D2.1 106 j = D.1 106 j) ∧ D2.2 = D.2
theorem k_f3_trans {D D2 D3 : am_D} (h : k_f3 D D2) (g : k_f3 D2 D3) : k_f3 D D3 := ⟨fun y hy => (g.1 y hy).trans (h.1 y hy), fun j hj => (g.2.1 j hj).trans (h.2.1 j hj), g.2.2.trans h.2.2⟩
theorem k_takeG {D : am_D} {c p a : Nat} {pos : Nat → Nat} {v2 v3 v4 : Int32} (h : k_bs c pos D v2 v3 v4) (hp : 4 ≤ p) (hp2 : p ≤ 200) (ha : a < p) :
    ∃ D2 u2 u3 u4, f_X0_take 106 (Int32.ofNat p) (Int32.ofNat a) (Int32.ofNat (k_off p c pos a)) D = some D2 ∧ (if v2 = (-1 : Int32) then some ((((200 : Int32) * Int32.ofNat p) + Int32.ofNat a), Int32.ofNat (k_off p c pos a), Int32.ofNat p) else if (Int32.ofNat (k_off p c pos a) * v4) < (v3 * Int32.ofNat p) then some ((((200 : Int32) * Int32.ofNat p) + Int32.ofNat a), Int32.ofNat (k_off p c pos a), Int32.ofNat p) else some (v2, v3, v4)) = some (u2, u3, u4) ∧ k_bs c pos D2 u2 u3 u4 ∧ k_f3 D D2 ∧ ¬ u2 = -1 := by
  have e0 : (0 : Int32).toInt = 0 := rfl
  have em1 : (-1 : Int32).toInt = -1 := rfl
  obtain ⟨f, hf⟩ : ∃ f, f = k_off p c pos a := ⟨_, rfl⟩
  have ev : (200 : Int32) * Int32.ofNat p + Int32.ofNat a = Int32.ofNat (200 * p + a) := by rw [Int32.ofNat_add, Int32.ofNat_mul]; rfl
  have neu : k_bs c pos (am_wI (am_wI (am_wI D 106 3 (Int32.ofNat p)) 106 4 (Int32.ofNat a)) 106 5 (Int32.ofNat f)) (Int32.ofNat (200 * p + a)) (Int32.ofNat f) (Int32.ofNat p) := by
    rw [hf]
    exact Or.inr ⟨p, a, hp, hp2, ha, by rw [k_wj _ _ (by decide), k_wj _ _ (by decide), k_ws], by rw [k_wj _ _ (by decide), k_ws], by rw [k_ws], rfl, rfl, rfl⟩
  have nf : k_f3 D (am_wI (am_wI (am_wI D 106 3 (Int32.ofNat p)) 106 4 (Int32.ofNat a)) 106 5 (Int32.ofNat f)) := ⟨fun y hy => by rw [j_wI_ne _ _ _ hy, j_wI_ne _ _ _ hy, j_wI_ne _ _ _ hy], fun j hj => by rw [k_wj _ _ (by omega), k_wj _ _ (by omega), k_wj _ _ (by omega)], rfl⟩
  have nn : ∀ y z : Nat, y ≤ 200 → z ≤ 200 → ¬ Int32.ofNat (200 * y + z) = -1 := fun y z hy hz => by rw [j_eq, j_nat (by omega), em1]; omega
  rw [← hf, ev]
  unfold f_X0_take
  rcases h with ⟨h0, h1⟩ | ⟨st, b, s1, s2, s3, s4, s5, s6, rfl, rfl, rfl⟩
  · rw [if_pos h0, if_pos h1, Option.bind_some, Option.bind_some, Option.bind_some]
    exact ⟨_, _, _, _, rfl, rfl, neu, nf, nn p a (by omega) (by omega)⟩
  · rw [s4, s6, if_neg (show ¬ Int32.ofNat st = 0 by rw [j_eq, j_nat (by omega), e0]; omega), if_neg (show ¬ Int32.ofNat (200 * st + b) = -1 by rw [j_eq, j_nat (by omega), em1]; omega)]
    by_cases ct : Int32.ofNat (k_off st c pos b) * Int32.ofNat p ≤ Int32.ofNat f * Int32.ofNat st
    · have ct2 : ¬ Int32.ofNat f * Int32.ofNat st < Int32.ofNat (k_off st c pos b) * Int32.ofNat p := by rw [j_lt]; rw [j_le] at ct; omega
      rw [if_pos ct, if_neg ct2]
      exact ⟨D, _, _, _, rfl, rfl, Or.inr ⟨st, b, s1, s2, s3, s4, s5, s6, rfl, rfl, rfl⟩, ⟨fun _ _ => rfl, fun _ _ => rfl, rfl⟩, nn st b (by omega) (by omega)⟩
    · have ct2 : Int32.ofNat f * Int32.ofNat st < Int32.ofNat (k_off st c pos b) * Int32.ofNat p := by rw [j_lt]; rw [j_le] at ct; omega
      rw [if_neg ct, if_pos ct2, Option.bind_some, Option.bind_some, Option.bind_some]
      exact ⟨_, _, _, _, rfl, rfl, neu, nf, nn p a (by omega) (by omega)⟩
theorem k_lv1_le (p c : Nat) (pos : Nat → Nat) (t : Nat) : k_lv1 p c pos t ≤ c := by
  have h := k_ns_le (g := fun b => if pos b % p = t then 1 else 0) (v := 1) (fun b => by split <;> omega) c
  rw [Nat.mul_one] at h
  exact h
theorem k_near_le (p c : Nat) (pos : Nat → Nat) (h a : Nat) : k_near p c pos h a ≤ c := by
  have g := k_ns_le (g := fun b => if 1 ≤ k_m p (pos b) a ∧ k_m p (pos b) a ≤ h then 1 else 0) (v := 1) (fun b => by split <;> omega) c
  rw [Nat.mul_one] at g
  exact g
theorem k_off_le {p c : Nat} (pos : Nat → Nat) (a : Nat) (hp : p ≤ 200) : k_off p c pos a ≤ c * 200 := k_ns_le (fun b => by omega) c
theorem k_gridP {D E : am_D} {n c p : Nat} {pos : Nat → Nat} (h : k_bl D E 106 n c pos) (hn : n ≤ 1200) (hp : 4 ≤ p) (hp2 : p ≤ 200) (hl : k_lvs D p c pos) (v2 v3 v4 : Int32) (hb : k_bs c pos D v2 v3 v4) :
    ∃ D2 u2 u3 u4, f_X0_tryStep_L91 106 (Int32.ofNat p) (Int32.ofNat (p / 2)) am_fu (Int32.ofNat (k_off p c pos 0)) (Int32.ofNat (k_near p c pos (p / 2) 0)) 0 D = some D2 ∧ f_X12_beatOf_L21 (Int32.ofNat c) (Int32.ofNat p) E am_fu v2 v3 v4 0 = some (u2, u3, u4) ∧ k_bs c pos D2 u2 u3 u4 ∧ k_f3 D D2 ∧ (0 < p ∨ ¬ v2 = -1 → ¬ u2 = -1) := by
  have hc := h.1
  have e0 : (0 : Int32).toInt = 0 := rfl
  have e2 : (2 : Int32).toInt = 2 := rfl
  have key := k_ind (P := fun fu a => ∀ (D1 : am_D) (v2 v3 v4 : Int32), k_bs c pos D1 v2 v3 v4 → k_f3 D D1 → ∃ D2 u2 u3 u4, f_X0_tryStep_L91 106 (Int32.ofNat p) (Int32.ofNat (p / 2)) fu (Int32.ofNat (k_off p c pos a)) (Int32.ofNat (k_near p c pos (p / 2) a)) (Int32.ofNat a) D1 = some D2 ∧ f_X12_beatOf_L21 (Int32.ofNat c) (Int32.ofNat p) E fu v2 v3 v4 (Int32.ofNat a) = some (u2, u3, u4) ∧ k_bs c pos D2 u2 u3 u4 ∧ k_f3 D D2 ∧ (a < p ∨ ¬ v2 = -1 → ¬ u2 = -1)) p
    (by
      intro fu a ha ih D1 v2 v3 v4 g1 f1
      obtain ⟨D2, u2, u3, u4, t1, t2, t3, t4, t5⟩ := k_takeG g1 hp hp2 ha
      have f2 := k_f3_trans f1 t4
      have hl2 : k_lvs D2 p c pos := fun t ht => by rw [f2.1 108 (by omega)]; exact hl t ht
      have hc2 : D2.1 106 2 = Int32.ofNat c := by rw [f2.2.1 2 (by omega)]; exact h.2.1
      have hleft : ∀ z, z < 1000 → f_X11_left (Int32.ofNat z) (Int32.ofNat p) = some (Int32.ofNat (z % p)) := by
        intro z hz
        unfold f_X11_left
        rw [if_neg (by rw [j_eq, j_nat (by omega), e0]; omega), k_rmN (by omega) (by omega) (by omega), Option.bind_some]
      have hmod : ∀ z : Nat, z % p < 200 := fun z => by have := Nat.mod_lt z (show 0 < p by omega); omega
      have x1 : Int32.ofNat a + Int32.ofNat (p / 2) + 1 = Int32.ofNat (a + (p / 2 + 1)) := by rw [← Int32.ofNat_add, j_suc]; rfl
      have x2 : Int32.ofNat a + 1 + Int32.ofNat (p / 2) = Int32.ofNat (a + (p / 2 + 1)) := by
        rw [j_suc, ← Int32.ofNat_add]
        congr 1
        omega
      obtain ⟨L1, hL1⟩ : ∃ L1, L1 = k_lv1 p c pos ((a + (p / 2 + 1)) % p) := ⟨_, rfl⟩
      obtain ⟨L2, hL2⟩ : ∃ L2, L2 = k_lv1 p c pos ((a + 1) % p) := ⟨_, rfl⟩
      have so := k_off_s (c := c) (pos := pos) hp ha
      have sn := k_near_s (c := c) (pos := pos) hp ha
      have b1 := k_lv1_le p c pos ((a + (p / 2 + 1)) % p)
      have b2 := k_lv1_le p c pos ((a + 1) % p)
      have b3 := k_near_le p c pos (p / 2) a
      have b4 := k_near_le p c pos (p / 2) (a + 1)
      have b5 := k_off_le (c := c) pos a hp2
      have b6 := k_off_le (c := c) pos (a + 1) hp2
      rw [← hL1] at so sn b1
      rw [← hL2] at sn b2
      have y1 := k_lat hl2 (hmod (a + (p / 2 + 1)))
      have y2 := k_lat hl2 (hmod (a + 1))
      rw [← hL1] at y1
      rw [← hL2] at y2
      obtain ⟨O, hO⟩ : ∃ O, O = if p % 2 = 1 then L1 else 0 := ⟨_, rfl⟩
      rw [← hO] at so
      have hOb : O ≤ c := by rw [hO]; split <;> omega
      have hodd : (if (Int32.ofNat p &&& (1 : Int32)) = (1 : Int32) then (f_X11_left ((Int32.ofNat a + Int32.ofNat (p / 2)) + (1 : Int32)) (Int32.ofNat p)).bind fun x21 => (f_X0_leavingAt 106 x21 D2).bind fun x23 => some x23 else some (0 : Int32)) = some (Int32.ofNat O) := by
        rw [x1, hleft _ (by omega), Option.bind_some, y1, Option.bind_some, k_and1 p (by omega)]
        by_cases q : p % 2 = 1
        · rw [if_pos q] at hO
          rw [hO, q, if_pos (show Int32.ofNat 1 = 1 from rfl)]
        · rw [if_neg q] at hO
          have q2 : p % 2 = 0 := by omega
          rw [hO, q2, if_neg (show ¬ Int32.ofNat 0 = 1 from (by decide))]
          rfl
      have n1 : Int32.ofNat (k_off p c pos a) + ((Int32.ofNat c - Int32.ofNat O) - ((2 : Int32) * Int32.ofNat (k_near p c pos (p / 2) a))) = Int32.ofNat (k_off p c pos (a + 1)) := by
        have m1 : ((2 : Int32) * Int32.ofNat (k_near p c pos (p / 2) a)) = Int32.ofNat (2 * k_near p c pos (p / 2) a) := (Int32.ofNat_mul 2 _).symm
        have m2 : (Int32.ofNat c - Int32.ofNat O).toInt = (c : Int) - O := by rw [k_S, j_nat (by omega), j_nat (by omega)]; omega
        have m3 : ((Int32.ofNat c - Int32.ofNat O) - Int32.ofNat (2 * k_near p c pos (p / 2) a)).toInt = (c : Int) - O - 2 * (k_near p c pos (p / 2) a : Nat) := by rw [k_S, m2, j_nat (by omega)]; omega
        rw [m1, j_eq, k_A, m3, j_nat (by omega), j_nat (by omega)]
        omega
      have n2 : Int32.ofNat (k_near p c pos (p / 2) a) + (Int32.ofNat L1 - Int32.ofNat L2) = Int32.ofNat (k_near p c pos (p / 2) (a + 1)) := by
        have m2 : (Int32.ofNat L1 - Int32.ofNat L2).toInt = (L1 : Int) - L2 := by rw [k_S, j_nat (by omega), j_nat (by omega)]; omega
        rw [j_eq, k_A, m2, j_nat (by omega), j_nat (by omega)]
        omega
      have cls : f_X0_tryStep_L91 106 (Int32.ofNat p) (Int32.ofNat (p / 2)) (fu + 1) (Int32.ofNat (k_off p c pos a)) (Int32.ofNat (k_near p c pos (p / 2) a)) (Int32.ofNat a) D1 = f_X0_tryStep_L91 106 (Int32.ofNat p) (Int32.ofNat (p / 2)) fu (Int32.ofNat (k_off p c pos (a + 1))) (Int32.ofNat (k_near p c pos (p / 2) (a + 1))) (Int32.ofNat (a + 1)) D2 := by
        rw [f_X0_tryStep_L91, if_neg (by rw [j_le, j_nat (by omega), j_nat (by omega)]; omega), t1, Option.bind_some, hodd, Option.bind_some, x2, hleft _ (by omega), Option.bind_some, y1, Option.bind_some, j_suc, hleft _ (by omega), Option.bind_some, y2, Option.bind_some, hc2, n1, n2]
      have ref : f_X12_beatOf_L21 (Int32.ofNat c) (Int32.ofNat p) E (fu + 1) v2 v3 v4 (Int32.ofNat a) = f_X12_beatOf_L21 (Int32.ofNat c) (Int32.ofNat p) E fu u2 u3 u4 (Int32.ofNat (a + 1)) := by
        rw [f_X12_beatOf_L21, if_neg (by rw [j_le, j_nat (by omega), j_nat (by omega)]; omega), k_offR h hn hp hp2 ha, Option.bind_some, t2, Option.bind_some, j_suc]
      rw [cls, ref]
      obtain ⟨D3, w2, w3, w4, i1, i2, i3, i4, i5⟩ := ih D2 u2 u3 u4 t3 f2
      exact ⟨D3, w2, w3, w4, i1, i2, i3, i4, fun _ => i5 (Or.inr t5)⟩) (by
      intro fu D1 v2 v3 v4 g1 f1
      rw [f_X0_tryStep_L91, if_pos (Int32.le_refl _), f_X12_beatOf_L21, if_pos (Int32.le_refl _)]
      exact ⟨D1, v2, v3, v4, rfl, rfl, g1, f1, fun z => z.elim (fun y => absurd y (by omega)) id⟩) am_fu 0 (by omega) (by unfold am_fu; omega) D v2 v3 v4 hb ⟨fun _ _ => rfl, fun _ _ => rfl, rfl⟩
  exact key
def k_f38 (D D2 : am_D) : Prop := (∀ y, y ≠ 106 → y ≠ 108 → D2.1 y = D.1 y) ∧ (∀ j, j < 3 → D2.1 106 j = D.1 106 j) ∧ D2.2 = D.2
theorem k_bl_38 {D E D2 : am_D} {n c : Nat} {pos : Nat → Nat} (h : k_bl D E 106 n c pos) (f : k_f38 D D2) : k_bl D2 E 106 n c pos := ⟨h.1, by rw [f.2.1 2 (by omega)]; exact h.2.1, fun j hj => by rw [f.1 107 (by omega) (by omega)]; exact h.2.2 j hj⟩
theorem k_try {D E : am_D} {n c p : Nat} {pos : Nat → Nat} (h : k_bl D E 106 n c pos) (hn : n ≤ 1200) (hp : 4 ≤ p) (hp2 : p ≤ 200) (v2 v3 v4 : Int32) (hb : k_bs c pos D v2 v3 v4) :
    ∃ D2 u2 u3 u4, f_X0_tryStep 106 (Int32.ofNat p) D = some D2 ∧ f_X12_beatOf_L21 (Int32.ofNat c) (Int32.ofNat p) E am_fu v2 v3 v4 0 = some (u2, u3, u4) ∧ k_bs c pos D2 u2 u3 u4 ∧ k_f38 D D2 ∧ ¬ u2 = -1 := by
  obtain ⟨D1, a1, a2, a3⟩ := k_fill108 D
  obtain ⟨D2, b1, b2, b3⟩ := k_try1 (k_bl_108 h a3) hn hp hp2 a2
  have f2 : k_f108 D D2 := ⟨fun y hy => (b3.1 y hy).trans (a3.1 y hy), b3.2.trans a3.2⟩
  have hb2 : k_bs c pos D2 v2 v3 v4 := by
    unfold k_bs
    rw [f2.1 106 (by omega)]
    exact hb
  obtain ⟨D3, u2, u3, u4, c1, c2, c3, c4, c5⟩ := k_gridP (k_bl_108 h f2) hn hp hp2 b2 v2 v3 v4 hb2
  have e2 : Int32.ofNat p / 2 = Int32.ofNat (p / 2) := k_dvN (x := p) (y := 2) (by omega) (by omega) (by omega)
  have c1 : f_X0_tryStep_L91 106 (Int32.ofNat p) (Int32.ofNat (p / 2)) am_fu (Int32.ofNat (k_off p c pos 0)) (Int32.ofNat (k_near p c pos (p / 2) 0)) (0 : Int32) D2 = some D3 := c1
  have b1 : f_X0_tryStep_L12 106 (Int32.ofNat p) am_fu (0 : Int32) (0 : Int32) D1 = some (Int32.ofNat (k_off p c pos 0), D2) := b1
  refine ⟨D3, u2, u3, u4, ?_, c2, c3, ⟨fun y h1 h2 => (c4.1 y h1).trans (f2.1 y h2), fun j hj => by rw [c4.2.1 j hj, f2.1 106 (by omega)], c4.2.2.trans f2.2⟩, c5 (Or.inl (by omega))⟩
  unfold f_X0_tryStep
  have t2 := k_try2 (Int32.ofNat (k_off p c pos 0)) b2 hp hp2
  have t2 : f_X0_tryStep_L65 106 (Int32.ofNat p) (Int32.ofNat (k_off p c pos 0)) (Int32.ofNat (p / 2)) D2 am_fu (0 : Int32) (1 : Int32) = _ := t2
  have a1 : f_J7_fill_53178 (106 + 2) (0 : Int32) D = some D1 := a1
  rw [a1, Option.bind_some, b1, Option.bind_some, e2]
  dsimp only
  rw [t2, Option.bind_some, c1, Option.bind_some]
theorem k_grid {D E : am_D} {n c : Nat} {pos : Nat → Nat} (h : k_bl D E 106 n c pos) (hn : n ≤ 1200) :
    ∃ D2 u, f_X0_findGrid 106 D = some D2 ∧ f_X12_beatOf (Int32.ofNat c) E = some u ∧ k_f38 D D2 ∧ ∃ st a : Nat, 4 ≤ st ∧ st ≤ 200 ∧ a < st ∧ D2.1 106 3 = Int32.ofNat st ∧ D2.1 106 4 = Int32.ofNat a ∧ D2.1 106 5 = Int32.ofNat (k_off st c pos a) ∧ u = Int32.ofNat (200 * st + a) := by
  have e4 : (4 : Int32).toInt = 4 := rfl
  have em1 : (-1 : Int32).toInt = -1 := rfl
  obtain ⟨D0, hD0⟩ : ∃ D0, D0 = am_wI D 106 3 0 := ⟨_, rfl⟩
  have f0 : k_f38 D D0 := by
    rw [hD0]
    exact ⟨fun y h1 _ => j_wI_ne _ _ _ h1, fun j hj => k_wj _ _ (by omega), rfl⟩
  have key := k_ind (P := fun fu k => ∀ (D1 : am_D) (v2 v3 v4 : Int32), k_bs c pos D1 v2 v3 v4 → k_f38 D D1 → (k < 197 ∨ ¬ v2 = -1) → ∃ D2 u2, f_X0_findGrid_L9 106 fu (Int32.ofNat (200 - k)) D1 = some D2 ∧ f_X12_beatOf_L12 (Int32.ofNat c) E fu v2 v3 v4 (Int32.ofNat (200 - k)) = some u2 ∧ k_f38 D D2 ∧ ∃ u3 u4, k_bs c pos D2 u2 u3 u4 ∧ ¬ u2 = -1) 197
    (by
      intro fu k hk ih D1 v2 v3 v4 g1 f1 _
      obtain ⟨D2, u2, u3, u4, a1, a2, a3, a4, a5⟩ := k_try (k_bl_38 h f1) hn (show 4 ≤ 200 - k by omega) (show 200 - k ≤ 200 by omega) v2 v3 v4 g1
      have a2 : f_X12_beatOf_L21 (Int32.ofNat c) (Int32.ofNat (200 - k)) E am_fu v2 v3 v4 (0 : Int32) = some (u2, u3, u4) := a2
      have e1 : Int32.ofNat (200 - k) + (-1 : Int32) = Int32.ofNat (200 - (k + 1)) := by rw [j_eq, k_A, em1, j_nat (by omega), j_nat (by omega)]; omega
      rw [f_X0_findGrid_L9, if_neg (by rw [j_lt, j_nat (by omega), e4]; omega), a1, Option.bind_some, e1, f_X12_beatOf_L12, if_neg (by rw [j_lt, j_nat (by omega), e4]; omega), a2, Option.bind_some, e1]
      exact ih D2 u2 u3 u4 a3 ⟨fun y h1 h2 => (a4.1 y h1 h2).trans (f1.1 y h1 h2), fun j hj => (a4.2.1 j hj).trans (f1.2.1 j hj), a4.2.2.trans f1.2.2⟩ (Or.inr a5)) (by
      intro fu D1 v2 v3 v4 g1 f1 hz
      rw [f_X0_findGrid_L9, if_pos (by rw [j_lt, j_nat (by omega), e4]; omega), f_X12_beatOf_L12, if_pos (by rw [j_lt, j_nat (by omega), e4]; omega)]
      exact ⟨D1, v2, rfl, rfl, f1, v3, v4, g1, hz.elim (fun y => absurd y (by omega)) id⟩) am_fu 0 (by omega) (by unfold am_fu; omega) D0 (-1) 0 1 (Or.inl ⟨by rw [hD0, k_ws], rfl⟩) f0 (Or.inl (by omega))
  obtain ⟨D2, u2, a1, a2, a3, u3, u4, a4, a5⟩ := key
  have a1 : f_X0_findGrid_L9 106 am_fu (200 : Int32) D0 = some D2 := a1
  have a2 : f_X12_beatOf_L12 (Int32.ofNat c) E am_fu (-1 : Int32) (0 : Int32) (1 : Int32) (200 : Int32) = some u2 := a2
  refine ⟨D2, u2, ?_, ?_, a3, ?_⟩
  · unfold f_X0_findGrid
    rw [Option.bind_some, ← hD0, a1, Option.bind_some]
  · unfold f_X12_beatOf
    rw [a2, Option.bind_some]
  · rcases a4 with ⟨_, z⟩ | ⟨st, a, s1, s2, s3, s4, s5, s6, s7, _, _⟩
    · exact absurd z a5
    · exact ⟨st, a, s1, s2, s3, s4, s5, s6, s7⟩
