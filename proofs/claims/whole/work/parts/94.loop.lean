/-! loop -/
theorem k_slide (g : Int → Int32) (a : Int) : ∀ o : Nat, j_sum (fun k => g (a + 1 + k)) o = j_sum (fun k => g (a + k)) o + (g (a + o) - g a)
  | 0 => by
    show (0 : Int32) = 0 + (g (a + ((0 : Nat) : Int)) - g a)
    have e : a + ((0 : Nat) : Int) = a := by omega
    rw [e]
    grind
  | o + 1 => by
    show j_sum (fun k => g (a + 1 + k)) o + g (a + 1 + o) = j_sum (fun k => g (a + k)) o + g (a + o) + (g (a + ((o + 1 : Nat) : Int)) - g a)
    have e : a + ((o + 1 : Nat) : Int) = a + 1 + o := by omega
    rw [k_slide g a o, e]
    grind
def k_lp (S : Nat → Nat → Int32) (P : Nat → Nat → Prop) (fr w : Nat) : Prop := P fr w ∧ ∀ a b, P a b → (S fr w).toInt < (S a b).toInt ∨ ((S fr w).toInt = (S a b).toInt ∧ (b < w ∨ (b = w ∧ fr ≤ a)))
theorem k_lp_uniq {S : Nat → Nat → Int32} {P : Nat → Nat → Prop} {fr w fr2 w2 : Nat} (h : k_lp S P fr w) (g : k_lp S P fr2 w2) : fr = fr2 ∧ w = w2 := by
  have a := h.2 fr2 w2 g.1
  have b := g.2 fr w h.1
  omega
theorem k_lp_first {S : Nat → Nat → Int32} {P Q : Nat → Nat → Prop} {a b : Nat} (hQ : ∀ x y, Q x y ↔ P x y ∨ (x = a ∧ y = b)) (h : ∀ x y, ¬ P x y) : k_lp S Q a b := by
  refine ⟨(hQ a b).mpr (Or.inr ⟨rfl, rfl⟩), fun x y hxy => ?_⟩
  rcases (hQ x y).mp hxy with q | ⟨rfl, rfl⟩
  · exact absurd q (h x y)
  · exact Or.inr ⟨rfl, Or.inr ⟨rfl, Nat.le_refl _⟩⟩
theorem k_lp_take {S : Nat → Nat → Int32} {P Q : Nat → Nat → Prop} {a b fr w : Nat} (hQ : ∀ x y, Q x y ↔ P x y ∨ (x = a ∧ y = b)) (h : k_lp S P fr w) (hl : (S a b).toInt < (S fr w).toInt ∨ ((S a b).toInt = (S fr w).toInt ∧ w < b)) : k_lp S Q a b := by
  refine ⟨(hQ a b).mpr (Or.inr ⟨rfl, rfl⟩), fun x y hxy => ?_⟩
  rcases (hQ x y).mp hxy with q | ⟨rfl, rfl⟩
  · have := h.2 x y q
    omega
  · exact Or.inr ⟨rfl, Or.inr ⟨rfl, Nat.le_refl _⟩⟩
theorem k_lp_keep {S : Nat → Nat → Int32} {P Q : Nat → Nat → Prop} {a b fr w : Nat} (hQ : ∀ x y, Q x y ↔ P x y ∨ (x = a ∧ y = b)) (h : k_lp S P fr w) (hl : (S fr w).toInt < (S a b).toInt ∨ ((S fr w).toInt = (S a b).toInt ∧ (b < w ∨ (b = w ∧ fr ≤ a)))) : k_lp S Q fr w := by
  refine ⟨(hQ fr w).mpr (Or.inl h.1), fun x y hxy => ?_⟩
  rcases (hQ x y).mp hxy with q | ⟨rfl, rfl⟩
  · exact h.2 x y q
  · exact hl
theorem k_lp_cong {S : Nat → Nat → Int32} {P Q : Nat → Nat → Prop} {fr w : Nat} (h : k_lp S P fr w) (hQ : ∀ x y, Q x y ↔ P x y) : k_lp S Q fr w := ⟨(hQ _ _).mpr h.1, fun a b q => h.2 a b ((hQ a b).mp q)⟩
/-- what the reference has found -/
def k_lst (S : Nat → Nat → Int32) (P : Nat → Nat → Prop) (v4 v5 v6 : Int32) : Prop := (v4 = -1 ∧ ∀ a b, ¬ P a b) ∨ ∃ fr w, k_lp S P fr w ∧ v4 = Int32.ofNat fr ∧ v5 = Int32.ofNat (fr + w) ∧ v6 = S fr w
theorem k_lst_cong {S : Nat → Nat → Int32} {P Q : Nat → Nat → Prop} {v4 v5 v6 : Int32} (h : k_lst S P v4 v5 v6) (hQ : ∀ x y, Q x y ↔ P x y) : k_lst S Q v4 v5 v6 := by
  rcases h with ⟨h1, h2⟩ | ⟨fr, w, h1, h2⟩
  · exact Or.inl ⟨h1, fun a b q => h2 a b ((hQ a b).mp q)⟩
  · exact Or.inr ⟨fr, w, k_lp_cong h1 hQ, h2⟩
/-- what the class has found -/
def k_cst (S : Nat → Nat → Int32) (P : Nat → Nat → Prop) (v : Int32) (D : am_D) : Prop := (v = 0 ∧ ∀ a b, ¬ P a b) ∨ (v = 1 ∧ ∃ fr w, k_lp S P fr w ∧ D.1 116 0 = Int32.ofNat fr ∧ D.1 116 1 = Int32.ofNat (fr + w) ∧ D.1 116 2 = S fr w)
theorem k_cst_cong {S : Nat → Nat → Int32} {P Q : Nat → Nat → Prop} {v : Int32} {D : am_D} (h : k_cst S P v D) (hQ : ∀ x y, Q x y ↔ P x y) : k_cst S Q v D := by
  rcases h with ⟨h1, h2⟩ | ⟨h0, fr, w, h1, h2⟩
  · exact Or.inl ⟨h1, fun a b q => h2 a b ((hQ a b).mp q)⟩
  · exact Or.inr ⟨h0, fr, w, k_lp_cong h1 hQ, h2⟩
/-- the unlikeness of a way from a place -/
def k_SS (f : Int → Int32) (o : Nat) : Nat → Nat → Int32 := fun fr w => j_unl f f fr ((fr : Int) + w) o
def k_sn (n o m a b : Nat) : Nat → Nat → Prop := fun x y => (x < a ∨ (x = a ∧ y < b)) ∧ m ≤ y ∧ x + y + o ≤ n
def k_sw (n o m c a : Nat) : Nat → Nat → Prop := fun x y => (c < y ∨ (y = c ∧ x < a)) ∧ m ≤ y ∧ x + y + o ≤ n
theorem k_loopU {E : am_D} {D : am_D} {i n o a b : Nat} {f : Int → Int32} (q2 q3 q4 q5 q6 : Int32) (hs : k_snd D E i n f) (hi : i < 5) (h15 : E.1 117 15 = Int32.ofNat o) (hk : a + b + o ≤ n) :
    f_X12_loop_L112 (Int32.ofNat i) q2 q3 q4 q5 q6 (Int32.ofNat a) (Int32.ofNat (a + b)) E am_fu 0 0 = some (k_SS f o a b) := by
  obtain ⟨s1, s2, s3, s4, s5, s6⟩ := hs
  have l1 := k_lnS i hi
  have key := k_ind (P := fun fu v => f_X12_loop_L112 (Int32.ofNat i) q2 q3 q4 q5 q6 (Int32.ofNat a) (Int32.ofNat (a + b)) E fu (k_SS f v a b) (Int32.ofNat v) = some (k_SS f o a b)) o
    (by
      intro fu v hv ih
      have es : k_SS f (v + 1) a b = k_SS f v a b + am_ab (f ((a + v : Nat) : Int) - f ((a + b + v : Nat) : Int)) := by
        show j_unl f f a ((a : Int) + b) v + am_ab (f ((a : Int) + v) - f ((a : Int) + b + v)) = _
        have e1 : (a : Int) + v = ((a + v : Nat) : Int) := by omega
        have e2 : (a : Int) + b + v = ((a + b + v : Nat) : Int) := by omega
        rw [e1, e2]
        rfl
      rw [f_X12_loop_L112, h15, if_neg (by rw [j_le, j_nat (by omega), j_nat (by omega)]; omega), k_a hi (by omega), Option.bind_some, ← Int32.ofNat_add, k_g (by omega) (by omega), s5 _ (by omega), Option.bind_some, Option.bind_some, ← Int32.ofNat_add, k_g (by omega) (by omega), s5 _ (by omega), Option.bind_some, k_amount, Option.bind_some, j_suc, ← es]
      exact ih) (by
      intro fu
      rw [f_X12_loop_L112, h15, if_pos (Int32.le_refl _)]) am_fu 0 (by omega) (by unfold am_fu; omega)
  exact key
theorem k_loopR1 {D E : am_D} {i n o a m : Nat} {f : Int → Int32} (p3 : Int32) (hs : k_snd D E i n f) (hi : i < 5) (h15 : E.1 117 15 = Int32.ofNat o) (ho : o ≤ 100) (ha : a < n) (hm : 1 ≤ m ∧ m ≤ 600) (v4 v5 v6 : Int32) (hst : k_lst (k_SS f o) (k_sn n o m a m) v4 v5 v6) :
    ∃ u4 u5 u6, f_X12_loop_L90 (Int32.ofNat i) (Int32.ofNat m) p3 (Int32.ofNat a) E am_fu v4 v5 v6 (Int32.ofNat (a + m)) = some (u4, u5, u6) ∧ k_lst (k_SS f o) (k_sn n o m (a + 1) m) u4 u5 u6 := by
  have hn := hs.2.1
  have em1 : (-1 : Int32).toInt = -1 := rfl
  obtain ⟨N, hN⟩ : ∃ N, N = n + 1 - (a + m + o) := ⟨_, rfl⟩
  have key := k_ind (P := fun fu k => ∀ v4 v5 v6, k_lst (k_SS f o) (k_sn n o m a (m + k)) v4 v5 v6 → ∃ u4 u5 u6, f_X12_loop_L90 (Int32.ofNat i) (Int32.ofNat m) p3 (Int32.ofNat a) E fu v4 v5 v6 (Int32.ofNat (a + (m + k))) = some (u4, u5, u6) ∧ k_lst (k_SS f o) (k_sn n o m (a + 1) m) u4 u5 u6) N
    (by
      intro fu k hk ih v4 v5 v6 h
      have hQ : ∀ x y, k_sn n o m a (m + (k + 1)) x y ↔ k_sn n o m a (m + k) x y ∨ (x = a ∧ y = m + k) := by
        intro x y
        unfold k_sn
        omega
      rw [f_X12_loop_L90, k_g hi (by omega), hs.2.2.2.1, Option.bind_some, h15, if_neg (by rw [← Int32.ofNat_add, j_lt, j_nat (by omega), j_nat (by omega)]; omega), k_loopU _ _ _ _ _ hs hi h15 (show a + (m + k) + o ≤ n by omega), Option.bind_some]
      have ex : Int32.ofNat (a + (m + k)) + 1 = Int32.ofNat (a + (m + (k + 1))) := j_suc _
      obtain ⟨e, he⟩ : ∃ e, e = k_SS f o a (m + k) := ⟨_, rfl⟩
      rw [ex, ← he]
      rcases h with ⟨h0, hno⟩ | ⟨fr, w, hl, rfl, rfl, rfl⟩
      · rw [if_pos h0, Option.bind_some]
        exact ih _ _ _ (Or.inr ⟨a, m + k, k_lp_first hQ hno, rfl, rfl, he⟩)
      · have hin := hl.1
        unfold k_sn at hin
        have take : ((k_SS f o a (m + k)).toInt < (k_SS f o fr w).toInt ∨ ((k_SS f o a (m + k)).toInt = (k_SS f o fr w).toInt ∧ w < m + k)) → k_lst (k_SS f o) (k_sn n o m a (m + (k + 1))) (Int32.ofNat a) (Int32.ofNat (a + (m + k))) e := fun z => Or.inr ⟨a, m + k, k_lp_take hQ hl z, rfl, rfl, he⟩
        have keep : ((k_SS f o fr w).toInt < (k_SS f o a (m + k)).toInt ∨ ((k_SS f o fr w).toInt = (k_SS f o a (m + k)).toInt ∧ (m + k < w ∨ (m + k = w ∧ fr ≤ a)))) → k_lst (k_SS f o) (k_sn n o m a (m + (k + 1))) (Int32.ofNat fr) (Int32.ofNat (fr + w)) (k_SS f o fr w) := fun z => Or.inr ⟨fr, w, k_lp_keep hQ hl z, rfl, rfl, rfl⟩
        rw [← he] at take keep
        rw [if_neg (by rw [j_eq, j_nat (by omega), em1]; omega)]
        by_cases c1 : k_SS f o fr w < e
        · rw [if_pos c1, Option.bind_some]
          rw [j_lt] at c1
          exact ih _ _ _ (keep (Or.inl c1))
        · rw [if_neg c1]
          rw [j_lt] at c1
          by_cases c2 : e = k_SS f o fr w
          · have d1 : Int32.ofNat (fr + w) - Int32.ofNat fr = Int32.ofNat w := by rw [j_eq, k_S, j_nat (by omega), j_nat (by omega), j_nat (by omega)]; omega
            have d2 : Int32.ofNat (a + (m + k)) - Int32.ofNat a = Int32.ofNat (m + k) := by rw [j_eq, k_S, j_nat (by omega), j_nat (by omega), j_nat (by omega)]; omega
            have c2' : e.toInt = (k_SS f o fr w).toInt := by rw [c2]
            rw [if_pos c2, d1, d2]
            by_cases c3 : w < m + k
            · rw [if_pos (by rw [j_lt, j_nat (by omega), j_nat (by omega)]; omega), Option.bind_some]
              exact ih _ _ _ (take (Or.inr ⟨c2', c3⟩))
            · rw [if_neg (by rw [j_lt, j_nat (by omega), j_nat (by omega)]; omega), Option.bind_some]
              exact ih _ _ _ (keep (Or.inr ⟨c2'.symm, by omega⟩))
          · have c2' := (not_congr (j_eq e (k_SS f o fr w))).mp c2
            rw [if_neg c2, Option.bind_some]
            exact ih _ _ _ (take (Or.inl (by omega)))) (by
      intro fu v4 v5 v6 h
      rw [f_X12_loop_L90, k_g hi (by omega), hs.2.2.2.1, Option.bind_some, h15, if_pos (by rw [← Int32.ofNat_add, j_lt, j_nat (by omega), j_nat (by omega)]; omega)]
      refine ⟨v4, v5, v6, rfl, k_lst_cong h fun x y => ?_⟩
      unfold k_sn
      omega) am_fu 0 (by omega) (by unfold am_fu; omega) v4 v5 v6 hst
  exact key
theorem k_loopR {D E : am_D} {i n o m : Nat} {f : Int → Int32} (p3 : Int32) (hs : k_snd D E i n f) (hi : i < 5) (h15 : E.1 117 15 = Int32.ofNat o) (ho : o ≤ 100) (hm : 1 ≤ m ∧ m ≤ 600) :
    ∃ u4 u5 u6, f_X12_loop_L73 (Int32.ofNat i) (Int32.ofNat m) p3 E am_fu (-1) 0 0 0 = some (u4, u5, u6) ∧ k_lst (k_SS f o) (fun x y => m ≤ y ∧ x + y + o ≤ n) u4 u5 u6 := by
  have hn := hs.2.1
  have key := k_ind (P := fun fu k => ∀ v4 v5 v6, k_lst (k_SS f o) (k_sn n o m k m) v4 v5 v6 → ∃ u4 u5 u6, f_X12_loop_L73 (Int32.ofNat i) (Int32.ofNat m) p3 E fu v4 v5 v6 (Int32.ofNat k) = some (u4, u5, u6) ∧ k_lst (k_SS f o) (fun x y => m ≤ y ∧ x + y + o ≤ n) u4 u5 u6) n
    (by
      intro fu k hk ih v4 v5 v6 h
      obtain ⟨u4, u5, u6, a1, a2⟩ := k_loopR1 p3 hs hi h15 ho hk hm v4 v5 v6 h
      rw [f_X12_loop_L73, k_g hi (by omega), hs.2.2.2.1, Option.bind_some, if_neg (by rw [j_le, j_nat (by omega), j_nat (by omega)]; omega), ← Int32.ofNat_add, a1, Option.bind_some, j_suc]
      exact ih u4 u5 u6 a2) (by
      intro fu v4 v5 v6 h
      rw [f_X12_loop_L73, k_g hi (by omega), hs.2.2.2.1, Option.bind_some, if_pos (Int32.le_refl _)]
      refine ⟨v4, v5, v6, rfl, k_lst_cong h fun x y => ?_⟩
      unfold k_sn
      omega) am_fu 0 (by omega) (by unfold am_fu; omega) (-1) 0 0 (Or.inl ⟨rfl, fun a b h => by unfold k_sn at h; omega⟩)
  exact key
theorem k_SS_slide (f : Int → Int32) (o k c : Nat) : k_SS f o (k + 1) c = k_SS f o k c + (am_ab (f ((k + o : Nat) : Int) - f ((k + o + c : Nat) : Int)) - am_ab (f (k : Int) - f ((k + c : Nat) : Int))) := by
  have h := k_slide (fun z => am_ab (f z - f (z + c))) k o
  have e1 : k_SS f o (k + 1) c = j_sum (fun z : Nat => am_ab (f ((k : Int) + 1 + z) - f ((k : Int) + 1 + z + c))) o := by
    unfold k_SS j_unl
    refine j_sum_cong fun z _ => ?_
    have a1 : ((k + 1 : Nat) : Int) + z = (k : Int) + 1 + z := by omega
    have a2 : ((k + 1 : Nat) : Int) + c + z = (k : Int) + 1 + z + c := by omega
    rw [a1, a2]
  have e2 : k_SS f o k c = j_sum (fun z : Nat => am_ab (f ((k : Int) + z) - f ((k : Int) + z + c))) o := by
    unfold k_SS j_unl
    refine j_sum_cong fun z _ => ?_
    have a2 : (k : Int) + c + z = (k : Int) + z + c := by omega
    rw [a2]
  have a1 : ((k + o : Nat) : Int) = (k : Int) + o := by omega
  have a2 : ((k + o + c : Nat) : Int) = (k : Int) + o + c := by omega
  have a3 : ((k + c : Nat) : Int) = (k : Int) + c := by omega
  rw [e1, e2, a1, a2, a3]
  exact h
