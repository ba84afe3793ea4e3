/-! rows of the class: what each method of a row does -/
/-- a loop that keeps P -/
theorem j_loopP {σ β : Type} (L : Nat → Nat → σ → Option β) (P : Nat → σ → Prop) (R : Option β → Prop) (N : Nat) (hs : ∀ f k s, k < N → P k s → ∃ s', L (f + 1) k s = L f (k + 1) s' ∧ P (k + 1) s') (he : ∀ f s, P N s → R (L (f + 1) N s)) : ∀ n f k s, k + n = N → n < f → P k s → R (L f k s)
  | 0, f + 1, k, s, h, _, hp => by
    have e : k = N := by omega
    subst e
    exact he f s hp
  | 0, 0, _, _, _, h2, _ => absurd h2 (by omega)
  | n + 1, 0, _, _, _, h2, _ => absurd h2 (by omega)
  | n + 1, f + 1, k, s, h, h2, hp => by
    obtain ⟨s', e, hp'⟩ := hs f k s (by omega) hp
    rw [e]
    exact j_loopP L P R N hs he n f (k + 1) s' (by omega) (by omega) hp'
/-- nothing but these cells has changed -/
def j_fr (A : Nat → Prop) (D D2 : am_D) : Prop := ∀ x, ¬ A x → D2.1 x = D.1 x ∧ D2.2 x = D.2 x
theorem j_fr_refl (A : Nat → Prop) (D : am_D) : j_fr A D D := fun _ _ => ⟨rfl, rfl⟩
theorem j_fr_trans {A B C : Nat → Prop} {D D2 D3 : am_D} (h : j_fr A D D2) (h2 : j_fr B D2 D3) (hA : ∀ x, A x → C x) (hB : ∀ x, B x → C x) : j_fr C D D3 := fun x hx =>
  ⟨(h2 x fun q => hx (hB x q)).1.trans (h x fun q => hx (hA x q)).1, (h2 x fun q => hx (hB x q)).2.trans (h x fun q => hx (hA x q)).2⟩
theorem j_fr_mono {A B : Nat → Prop} {D D2 : am_D} (h : j_fr A D D2) (hA : ∀ x, A x → B x) : j_fr B D D2 := fun x hx => h x fun q => hx (hA x q)
theorem j_fr_wI (D : am_D) (a j : Nat) (v : Int32) : j_fr (fun q => q = a) D (am_wI D a j v) := fun x hx => ⟨am_up2_ne D.1 j v hx, rfl⟩
theorem j_fr_wL (D : am_D) (a j : Nat) (v : Int64) : j_fr (fun q => q = a) D (am_wL D a j v) := fun x hx => ⟨rfl, am_up2_ne D.2 j v hx⟩
theorem j_wI_at (D : am_D) (a j k : Nat) (v : Int32) : (am_wI D a j v).1 a k = if k = j then v else D.1 a k := congrFun (am_up2_at D.1 a j v) k
theorem j_wI_ne (D : am_D) {a x : Nat} (j : Nat) (v : Int32) (h : x ≠ a) : (am_wI D a j v).1 x = D.1 x := am_up2_ne D.1 j v h
theorem j_row_fr {D D2 : am_D} {r n : Nat} {f : Int → Int32} (h : j_row D r n f) (h1 : D2.1 r = D.1 r) (h2 : D2.1 (r + 1) = D.1 (r + 1)) : j_row D2 r n f :=
  ⟨h.1, h.2.1, by rw [h1]; exact h.2.2.1, fun k hk => by rw [h2]; exact h.2.2.2.1 k hk, h.2.2.2.2⟩
theorem j_row_by {A : Nat → Prop} {D D2 : am_D} {r n : Nat} {f : Int → Int32} (h : j_row D r n f) (hf : j_fr A D D2) (h1 : ¬ A r) (h2 : ¬ A (r + 1)) : j_row D2 r n f := j_row_fr h (hf r h1).1 (hf (r + 1) h2).1
theorem j_row_cong {D : am_D} {r n : Nat} {f g : Int → Int32} (h : j_row D r n f) (e : ∀ k, f k = g k) : j_row D r n g := (funext e : f = g) ▸ h
/-- one place put -/
def j_up (n : Nat) (f : Int → Int32) (i : Int) (x : Int32) : Int → Int32 := fun k => if k = i ∧ 0 ≤ k ∧ k < n then x else f k
theorem j_row_put {D : am_D} {r n : Nat} {f : Int → Int32} (h : j_row D r n f) (i x : Int32) : ∃ D2, f_X7_put r i x D = some D2 ∧ j_row D2 r n (j_up n f i.toInt x) ∧ j_fr (fun q => q = r + 1) D D2 := by
  obtain ⟨h1, h2, h3, h4, h5⟩ := h
  have e0 : (0 : Int32).toInt = 0 := rfl
  unfold f_X7_put
  by_cases c1 : i < 0
  · rw [if_pos c1]
    have := (j_lt i 0).mp c1
    refine ⟨D, rfl, j_row_cong ⟨h1, h2, h3, h4, h5⟩ fun k => ?_, j_fr_refl _ _⟩
    unfold j_up
    rw [if_neg (by omega)]
  · have g1 := (not_congr (j_lt i 0)).mp c1
    rw [if_neg c1, h3]
    by_cases c2 : Int32.ofNat n ≤ i
    · rw [if_pos c2]
      have := (j_le _ _).mp c2
      rw [j_nat (by omega)] at this
      refine ⟨D, rfl, j_row_cong ⟨h1, h2, h3, h4, h5⟩ fun k => ?_, j_fr_refl _ _⟩
      unfold j_up
      rw [if_neg (by omega)]
    · have g2 := (not_congr (j_le (Int32.ofNat n) i)).mp c2
      rw [j_nat (by omega)] at g2
      have c3 : ¬ Int32.ofNat (am_ln (r + 1)) ≤ i := by
        rw [j_le, j_nat (by omega)]
        omega
      rw [if_neg c2, if_neg c3, j_pI (by omega) (by omega)]
      refine ⟨_, rfl, ⟨h1, h2, ?_, fun k hk => ?_, fun k hk => ?_⟩, j_fr_wI _ _ _ _⟩
      · rw [j_wI_ne _ _ _ (by omega)]
        exact h3
      · rw [j_wI_at, h4 k hk]
        unfold j_up
        by_cases q : k = i.toInt.toNat
        · rw [if_pos q, if_pos (by omega)]
        · rw [if_neg q, if_neg (by omega)]
      · unfold j_up
        rw [if_neg (by omega)]
        exact h5 k hk
/-- so many places of another row laid in -/
def j_lays (n : Nat) (f g : Int → Int32) (a b : Int) (c : Nat) : Int → Int32 := fun k => if a ≤ k ∧ k < a + c ∧ 0 ≤ k ∧ k < n then g (b + (k - a)) else f k
theorem j_lays_0 (n : Nat) (f g : Int → Int32) (a b : Int) (k : Int) : f k = j_lays n f g a b 0 k := by
  unfold j_lays
  rw [if_neg (by omega)]
theorem j_row_lay {D : am_D} {r n q m : Nat} {f g : Int → Int32} (h : j_row D r n f) (hq : j_row D q m g) (hne : q ≠ r + 1 ∧ q ≠ r) (a b : Int32) (c : Nat) (hc : c ≤ 1200) (ha : -100000 ≤ a.toInt) (ha2 : a.toInt ≤ 100000) (hb : -100000 ≤ b.toInt) (hb2 : b.toInt ≤ 100000) :
    ∃ D2, f_X7_lay r a q b (Int32.ofNat c) D = some D2 ∧ j_row D2 r n (j_lays n f g a.toInt b.toInt c) ∧ j_fr (fun x => x = r + 1) D D2 := by
  have key := j_loopP (fun fu k (s : am_D) => f_X7_lay_L3 r a q b (Int32.ofNat c) fu (Int32.ofNat k) s) (fun k s => j_row s r n (j_lays n f g a.toInt b.toInt k) ∧ j_fr (fun x => x = r + 1) D s)
    (fun o => ∃ D2, o = some D2 ∧ j_row D2 r n (j_lays n f g a.toInt b.toInt c) ∧ j_fr (fun x => x = r + 1) D D2) c (fun fu k s hk hp => by
      have hqs := j_row_by hq hp.2 hne.1 (by omega)
      have ea : (a + Int32.ofNat k).toInt = a.toInt + k := by
        rw [j_add (by rw [j_nat (by omega)]; omega) (by rw [j_nat (by omega)]; omega), j_nat (by omega)]
      have eb : (b + Int32.ofNat k).toInt = b.toInt + k := by
        rw [j_add (by rw [j_nat (by omega)]; omega) (by rw [j_nat (by omega)]; omega), j_nat (by omega)]
      obtain ⟨D2, e, hr, hf⟩ := j_row_put hp.1 (a + Int32.ofNat k) (g (b.toInt + k))
      refine ⟨D2, ?_, j_row_cong hr fun x => ?_, j_fr_trans hp.2 hf (fun _ h => h) (fun _ h => h)⟩
      · show f_X7_lay_L3 r a q b (Int32.ofNat c) (fu + 1) _ _ = _
        rw [f_X7_lay_L3]
        have c1 : ¬ Int32.ofNat c ≤ Int32.ofNat k := by
          rw [j_le, j_nat (by omega), j_nat (by omega)]
          omega
        rw [if_neg c1, j_row_at hqs, eb]
        show (f_X7_put r (a + Int32.ofNat k) (g (b.toInt + k)) s).bind _ = _
        rw [e, j_suc]
        rfl
      · rw [ea]
        unfold j_up j_lays
        by_cases q1 : x = a.toInt + k
        · subst q1
          by_cases q2 : 0 ≤ a.toInt + (k : Int) ∧ a.toInt + (k : Int) < n
          · rw [if_pos (by omega), if_pos (by omega)]
            congr 1
            omega
          · rw [if_neg (by omega), if_neg (by omega), if_neg (by omega)]
        · rw [if_neg (by omega)]
          by_cases q2 : a.toInt ≤ x ∧ x < a.toInt + k ∧ 0 ≤ x ∧ x < n
          · rw [if_pos q2, if_pos (by omega)]
          · rw [if_neg q2, if_neg (by omega)]) (fun fu s hp => by
      refine ⟨s, ?_, hp⟩
      show f_X7_lay_L3 r a q b (Int32.ofNat c) (fu + 1) _ _ = _
      rw [f_X7_lay_L3, if_pos ((j_le _ _).mpr (by omega))]) c am_fu 0 D (by omega) (by unfold am_fu; omega) ⟨j_row_cong h fun k => j_lays_0 n f g _ _ k, j_fr_refl _ _⟩
  obtain ⟨D2, e, h2⟩ := key
  refine ⟨D2, ?_, h2⟩
  unfold f_X7_lay
  have e2 : f_X7_lay_L3 r a q b (Int32.ofNat c) am_fu (0 : Int32) D = some D2 := e
  rw [e2]
  rfl
/-- how far so many places are from those of another row, together -/
def j_unl (f g : Int → Int32) (a b : Int) (c : Nat) : Int32 := j_sum (fun k => am_ab (f (a + k) - g (b + k))) c
theorem j_row_unlike {D : am_D} {r n q m : Nat} {f g : Int → Int32} (h : j_row D r n f) (hq : j_row D q m g) (a b : Int32) (c : Nat) (hc : c ≤ 1200) (ha : -100000 ≤ a.toInt) (ha2 : a.toInt ≤ 100000) (hb : -100000 ≤ b.toInt) (hb2 : b.toInt ≤ 100000) :
    f_X7_unlike r a q b (Int32.ofNat c) D = some (j_unl f g a.toInt b.toInt c) := by
  unfold f_X7_unlike
  have key := j_loop (fun fu k (s : Int32) => f_X7_unlike_L6 r a q b (Int32.ofNat c) D fu s (Int32.ofNat k)) (j_unl f g a.toInt b.toInt) c (some (j_unl f g a.toInt b.toInt c)) (fun fu k hk => by
      show f_X7_unlike_L6 r a q b (Int32.ofNat c) D (fu + 1) _ _ = _
      rw [f_X7_unlike_L6]
      have c1 : ¬ Int32.ofNat c ≤ Int32.ofNat k := by
        rw [j_le, j_nat (by omega), j_nat (by omega)]
        omega
      have ea : (a + Int32.ofNat k).toInt = a.toInt + k := by
        rw [j_add (by rw [j_nat (by omega)]; omega) (by rw [j_nat (by omega)]; omega), j_nat (by omega)]
      have eb : (b + Int32.ofNat k).toInt = b.toInt + k := by
        rw [j_add (by rw [j_nat (by omega)]; omega) (by rw [j_nat (by omega)]; omega), j_nat (by omega)]
      rw [if_neg c1, j_row_at h, j_row_at hq, ea, eb, j_suc]
      rfl) (fun fu => by
      show f_X7_unlike_L6 r a q b (Int32.ofNat c) D (fu + 1) _ _ = _
      rw [f_X7_unlike_L6, if_pos ((j_le _ _).mpr (by omega))]) c am_fu 0 (by omega) (by unfold am_fu; omega)
  have key2 : f_X7_unlike_L6 r a q b (Int32.ofNat c) D am_fu (0 : Int32) (0 : Int32) = some (j_unl f g a.toInt b.toInt c) := key
  rw [key2]
  rfl
