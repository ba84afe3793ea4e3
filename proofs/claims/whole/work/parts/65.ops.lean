/-! OPERATIONS: how they end, on both sides -/
def k_opE {α : Type} (D E : am_D) (o1 : Option ((String × am_D) ⊕ (α × am_D))) (o2 : Option (α × am_D)) (ex : List String) : Prop :=
  (∃ D1 E1 v, o1 = some (.inr (v, D1)) ∧ o2 = some (v, E1) ∧ E1.1 117 0 = 0 ∧ k_Q D1 E1 ∧ k_fc D D1 ∧ k_fr E E1) ∨
  (∃ D1 E1 w j nm, ex[j]? = some nm ∧ o1 = some (.inl (nm, D1)) ∧ o2 = some (w, E1) ∧ E1.1 117 0 = Int32.ofNat (j + 1) ∧ k_Q D1 E1 ∧ k_fc D D1 ∧ k_fr E E1)
def k_opN {α : Type} (D E : am_D) (o1 o2 : Option (α × am_D)) : Prop := ∃ D1 E1 v, o1 = some (v, D1) ∧ o2 = some (v, E1) ∧ k_Q D1 E1 ∧ k_fc D D1 ∧ k_fr E E1
/-- an answer without a new world -/
def k_lf {α : Type} (D : am_D) (o : Option (String ⊕ α)) : Option ((String × am_D) ⊕ (α × am_D)) := match o with
  | none => none
  | some (.inl e) => some (.inl (e, D))
  | some (.inr v) => some (.inr (v, D))
def k_lv {α : Type} (D : am_D) (o : Option α) : Option (α × am_D) := o.bind fun v => some (v, D)
theorem k_fc_refl (D : am_D) : k_fc D D := fun _ _ => ⟨rfl, rfl⟩
theorem k_fr_refl (D : am_D) : k_fr D D := fun _ _ => ⟨rfl, rfl⟩
theorem k_fc_trans {D D2 D3 : am_D} (h : k_fc D D2) (h2 : k_fc D2 D3) : k_fc D D3 := fun y hy => ⟨(h2 y hy).1.trans (h y hy).1, (h2 y hy).2.trans (h y hy).2⟩
theorem k_fr_trans {D D2 D3 : am_D} (h : k_fr D D2) (h2 : k_fr D2 D3) : k_fr D D3 := fun y hy => ⟨(h2 y hy).1.trans (h y hy).1, (h2 y hy).2.trans (h y hy).2⟩
theorem k_fr_w {E : am_D} {a j : Nat} (v : Int32) (h : 117 ≤ a) (h2 : a < 2637) : k_fr E (am_wI E a j v) := fun y hy => ⟨j_wI_ne _ _ _ (by omega), rfl⟩
theorem k_fc_w {D : am_D} {a j : Nat} (v : Int32) (h : a < 117) : k_fc D (am_wI D a j v) := fun y hy => ⟨j_wI_ne _ _ _ (by omega), rfl⟩
theorem k_se_refl (E : am_D) : k_se E E := ⟨fun _ _ => rfl, fun _ _ => rfl, fun _ _ => ⟨rfl, rfl⟩, fun _ _ => rfl, fun _ _ _ _ _ _ _ => rfl⟩
theorem k_sc_refl (D : am_D) : k_sc D D := fun _ _ _ => rfl
theorem k_se_trans {E E2 E3 : am_D} (h : k_se E E2) (h2 : k_se E2 E3) : k_se E E3 := by
  obtain ⟨a1, a2, a3, a4, a5⟩ := h
  obtain ⟨b1, b2, b3, b4, b5⟩ := h2
  exact ⟨fun y hy => (b1 y hy).trans (a1 y hy), fun j hj => (b2 j hj).trans (a2 j hj), fun y hy => ⟨(b3 y hy).1.trans (a3 y hy).1, (b3 y hy).2.trans (a3 y hy).2⟩, fun y hy => (b4 y hy).trans (a4 y hy), fun q hq hq2 k y hk hy => (b5 q (by rw [a2 39 (by omega)]; exact hq) hq2 k y hk hy).trans (a5 q hq hq2 k y hk hy)⟩
theorem k_sc_trans {D D2 D3 : am_D} (h : k_sc D D2) (h2 : k_sc D2 D3) : k_sc D D3 := fun y a b => (h2 y a b).trans (h y a b)
theorem k_se_w0 (E : am_D) (v : Int32) : k_se E (am_wI E 117 0 v) := ⟨fun y hy => j_wI_ne _ _ _ (by omega), fun j hj => k_wj _ _ (by omega), fun y _ => ⟨by rw [j_wI_ne _ _ _ (by decide)], by rw [j_wI_ne _ _ _ (by decide)]⟩, fun y _ => by rw [j_wI_ne _ _ _ (by decide)], fun q _ _ k y hk _ => by rw [j_wI_ne _ _ _ (by omega)]⟩
/-- the reference's call begins: no exception yet -/
theorem k_start {D E : am_D} (h : k_Q D E) : ∃ E0, E0 = am_wI E 117 0 0 ∧ E0.1 117 0 = 0 ∧ k_fr E E0 ∧ k_Q D E0 :=
  ⟨_, rfl, k_ws _ _ _ _, k_fr_w _ (by omega) (by omega), k_Q_sc h (k_sc_refl D) (k_se_w0 E 0)⟩
theorem k_valE {α : Type} {D E D1 E1 : am_D} {o1 : Option ((String × am_D) ⊕ (α × am_D))} {o2 : Option (α × am_D)} {ex : List String} (v : α) (q : k_Q D1 E1) (t : E1.1 117 0 = 0) (f : k_fr E E1) (fc : k_fc D D1) (h1 : o1 = some (.inr (v, D1))) (h2 : o2 = some (v, E1)) : k_opE D E o1 o2 ex :=
  Or.inl ⟨D1, E1, v, h1, h2, t, q, fc, f⟩
theorem k_refE {α : Type} {D E D1 E0 : am_D} {o1 : Option ((String × am_D) ⊕ (α × am_D))} {o2 : Option (α × am_D)} {ex : List String} (w : α) (j : Nat) (nm : String) (q : k_Q D1 E0) (f : k_fr E E0) (fc : k_fc D D1) (hj : ex[j]? = some nm) (h1 : o1 = some (.inl (nm, D1))) (h2 : o2 = some (w, am_wI E0 117 0 (Int32.ofNat (j + 1)))) : k_opE D E o1 o2 ex :=
  Or.inr ⟨D1, _, w, j, nm, hj, h1, h2, k_ws _ _ _ _, k_Q_sc q (k_sc_refl D1) (k_se_w0 E0 _), fc, k_fr_trans f (k_fr_w _ (by omega) (by omega))⟩
theorem k_btR {α β : Type} (v : α) (D : am_D) (f : α → Option ((String × am_D) ⊕ β)) : am_btD (some (.inr v)) D f = f v := rfl
theorem k_btL {α β : Type} (e : String) (D : am_D) (f : α → Option ((String × am_D) ⊕ β)) : am_btD (some (.inl e)) D f = some (.inl (e, D)) := rfl
theorem k_bR {α β : Type} (v : α) (f : α → Option (String ⊕ β)) : am_bt (some (.inr v)) f = f v := rfl
theorem k_bL {α β : Type} (e : String) (f : α → Option (String ⊕ β)) : am_bt (some (.inl e)) f = some (.inl e) := rfl
theorem k_10 : ¬ (1 : Int32) = 0 := by decide
/-- which sound, which map -/
theorem k_ix {p : Int32} {n : Nat} (h : 0 ≤ p.toInt ∧ p.toInt < n) : ∃ i : Nat, p = Int32.ofNat i ∧ i < n := ⟨p.toInt.toNat, j_of h.1, by omega⟩
theorem k_soT {D : am_D} {ns i : Nat} (h : D.1 17 7 = Int32.ofNat ns) (hn : ns ≤ 5) (hi : i < ns) : f_X11_soundOf (Int32.ofNat i) D = some (.inr (30 + 2 * i)) := by
  have e0 : (0 : Int32).toInt = 0 := rfl
  have e5 : (5 : Int32).toInt = 5 := rfl
  unfold f_X11_soundOf
  rw [h, if_neg (by rw [j_lt, j_nat (by omega), e0]; omega), if_neg (by rw [j_le, j_nat (by omega), j_nat (by omega)]; omega), if_pos (by rw [j_lt, j_nat (by omega), e5]; omega), k_a (by omega) (by omega)]
  rfl
theorem k_soF {D : am_D} {ns : Nat} {p : Int32} (h : D.1 17 7 = Int32.ofNat ns) (hn : ns ≤ 5) (hi : ¬ (0 ≤ p.toInt ∧ p.toInt < ns)) : f_X11_soundOf p D = some (.inl "java/util/NoSuchElementException") := by
  have e0 : (0 : Int32).toInt = 0 := rfl
  unfold f_X11_soundOf
  by_cases c : p < 0
  · rw [if_pos c]
  · rw [j_lt, e0] at c
    rw [h, if_neg (by rw [j_lt, e0]; omega), if_pos (by rw [j_le, j_nat (by omega)]; omega)]
theorem k_maT {D : am_D} {ns i : Nat} (h : D.1 17 8 = Int32.ofNat ns) (hn : ns ≤ 5) (hi : i < ns) : f_X11_mapOf (Int32.ofNat i) D = some (.inr (40 + 3 * i)) := by
  have e0 : (0 : Int32).toInt = 0 := rfl
  have e5 : (5 : Int32).toInt = 5 := rfl
  unfold f_X11_mapOf
  rw [h, if_neg (by rw [j_lt, j_nat (by omega), e0]; omega), if_neg (by rw [j_le, j_nat (by omega), j_nat (by omega)]; omega), if_pos (by rw [j_lt, j_nat (by omega), e5]; omega), k_a (by omega) (by omega)]
  rfl
theorem k_maF {D : am_D} {ns : Nat} {p : Int32} (h : D.1 17 8 = Int32.ofNat ns) (hn : ns ≤ 5) (hi : ¬ (0 ≤ p.toInt ∧ p.toInt < ns)) : f_X11_mapOf p D = some (.inl "java/lang/IndexOutOfBoundsException") := by
  have e0 : (0 : Int32).toInt = 0 := rfl
  unfold f_X11_mapOf
  by_cases c : p < 0
  · rw [if_pos c]
  · rw [j_lt, e0] at c
    rw [h, if_neg (by rw [j_lt, e0]; omega), if_pos (by rw [j_le, j_nat (by omega)]; omega)]
theorem k_inN (k : Int32) {n : Nat} (hn : n ≤ 100000) : f_X12_in k 0 (Int32.ofNat n - 1) = some (if 0 ≤ k.toInt ∧ k.toInt < n then 1 else 0) := by
  have e0 : (0 : Int32).toInt = 0 := rfl
  rw [k_in, e0, j_pred n hn]
  by_cases c : 0 ≤ k.toInt ∧ k.toInt < n
  · rw [if_pos c, if_pos (by omega)]
  · rw [if_neg c, if_neg (by omega)]
theorem k_isS {E : am_D} {ns : Nat} (p : Int32) (h : E.1 117 12 = Int32.ofNat ns) (hn : ns ≤ 5) : f_X12_isSound p E = some (if 0 ≤ p.toInt ∧ p.toInt < ns then 1 else 0) := by
  have e0 : (0 : Int32).toInt = 0 := rfl
  have e1 : (Int32.ofNat ns - 1).toInt = (ns : Int) - 1 := j_pred ns (by omega)
  unfold f_X12_isSound
  rw [h, k_in, e0, e1]
  by_cases c : 0 ≤ p.toInt ∧ p.toInt < ns
  · rw [if_pos c, if_pos (by omega)]; rfl
  · rw [if_neg c, if_neg (by omega)]; rfl
theorem k_isM {E : am_D} {ns : Nat} (p : Int32) (h : E.1 117 13 = Int32.ofNat ns) (hn : ns ≤ 5) : f_X12_isMap p E = some (if 0 ≤ p.toInt ∧ p.toInt < ns then 1 else 0) := by
  have e0 : (0 : Int32).toInt = 0 := rfl
  have e1 : (Int32.ofNat ns - 1).toInt = (ns : Int) - 1 := j_pred ns (by omega)
  unfold f_X12_isMap
  rw [h, k_in, e0, e1]
  by_cases c : 0 ≤ p.toInt ∧ p.toInt < ns
  · rw [if_pos c, if_pos (by omega)]; rfl
  · rw [if_neg c, if_neg (by omega)]; rfl
theorem k_b0 {E : am_D} (h : E.1 117 0 = 0) (c : Int32) : f_X12_bad 0 c E = some (0, E) := by
  unfold f_X12_bad
  rw [if_pos rfl, Option.bind_some, if_pos h]
theorem k_b1 {E : am_D} (h : E.1 117 0 = 0) (c : Int32) (hc : ¬ c = 0) : f_X12_bad 1 c E = some (1, am_wI E 117 0 c) := by
  unfold f_X12_bad
  rw [if_neg k_10, if_pos h, Option.bind_some, Option.bind_some, if_neg]
  rw [k_ws]
  exact hc
/-- a refusal's question in the reference: not so, or so -/
theorem k_nT (E : am_D) (c : Int32) (hE : E.1 117 0 = 0) {β : Type} (F : Int32 × am_D → Option β) : ((if (1 : Int32) = 0 then some (1 : Int32) else some 0).bind fun w7 => (f_X12_bad w7 c E).bind F) = F (0, E) := by
  rw [if_neg k_10, Option.bind_some, k_b0 hE, Option.bind_some]
theorem k_nF (E : am_D) (c : Int32) (hc : ¬ c = 0) (hE : E.1 117 0 = 0) {β : Type} (F : Int32 × am_D → Option β) : ((if (0 : Int32) = 0 then some (1 : Int32) else some 0).bind fun w7 => (f_X12_bad w7 c E).bind F) = F (1, am_wI E 117 0 c) := by
  rw [if_pos rfl, Option.bind_some, k_b1 hE c hc, Option.bind_some]
theorem k_set0 (p : Nat) (w o s : Int32) (D : am_D) : f_X5_set p w o s D = some (am_wI (am_wI (am_wI D p 0 w) p 1 o) p 2 s) := rfl
/-- size -/
theorem op_size {D E : am_D} (h : k_Q D E) (p : Int32) : k_opE D E (k_lf D (f_X11_size p D)) (f_X12_size p E) ["java/util/NoSuchElementException"] := by
  obtain ⟨E0, hE0, t0, f0, q0⟩ := k_start h
  have q0' := q0
  obtain ⟨ns, nm, nw, np, nh, ni, h1, h2, h3, h4, h5, h6, h7, h8, h9⟩ := q0'
  have hc : f_X12_size p E = (f_X12_isSound p E0).bind fun x4 => (if x4 = 0 then some ((1 : Int32)) else some ((0 : Int32))).bind fun w7 => (f_X12_bad w7 (1 : Int32) E0).bind fun x9 => if x9.1 = 0 then (am_gI x9.2 139 5 p).bind fun x11 => some (x11, x9.2) else some ((0 : Int32), x9.2) := by
    rw [hE0]; rfl
  rw [hc, k_isS p h1.2.2.1 h1.1, Option.bind_some]
  by_cases c : 0 ≤ p.toInt ∧ p.toInt < ns
  · obtain ⟨i, rfl, hi⟩ := k_ix c
    obtain ⟨n, f, b⟩ := h1.2.2.2 i hi
    have hns := h1.1
    refine k_valE (Int32.ofNat n) q0 t0 f0 (k_fc_refl D) ?_ ?_
    · unfold f_X11_size
      rw [k_soT h1.2.1 h1.1 hi, k_bR, b.2.2.1.2.2.1]
      rfl
    · rw [if_pos c, k_nT E0 1 t0, if_pos rfl, k_g (by omega) (by omega), b.2.2.2.1]
      rfl
  · refine k_refE 0 0 _ q0 f0 (k_fc_refl D) rfl ?_ ?_
    · unfold f_X11_size
      rw [k_soF h1.2.1 h1.1 c]
      rfl
    · rw [if_neg c, k_nF E0 1 k_10 t0, if_neg k_10]
      rfl
/-- sample -/
theorem op_sample {D E : am_D} (h : k_Q D E) (p k : Int32) : k_opE D E (k_lf D (f_X11_sample p k D)) (f_X12_sample p k E) ["java/util/NoSuchElementException"] := by
  obtain ⟨E0, hE0, t0, f0, q0⟩ := k_start h
  have q0' := q0
  obtain ⟨ns, nm, nw, np, nh, ni, h1, h2, h3, h4, h5, h6, h7, h8, h9⟩ := q0'
  unfold f_X12_sample
  rw [Option.bind_some, ← hE0, k_isS p h1.2.2.1 h1.1, Option.bind_some]
  by_cases c : 0 ≤ p.toInt ∧ p.toInt < ns
  · obtain ⟨i, rfl, hi⟩ := k_ix c
    obtain ⟨n, f, b⟩ := h1.2.2.2 i hi
    have hns := h1.1
    have hn := b.2.1
    refine k_valE (if 0 ≤ k.toInt ∧ k.toInt < n then f k.toInt else -5000) q0 t0 f0 (k_fc_refl D) ?_ ?_
    · unfold f_X11_sample
      rw [k_soT h1.2.1 h1.1 hi, k_bR, j_row_told b.2.2.1 k]
      rfl
    · rw [if_pos c, k_nT E0 1 t0, if_pos rfl, k_g (by omega) (by omega), b.2.2.2.1, Option.bind_some, k_inN k (by omega), Option.bind_some]
      by_cases c2 : 0 ≤ k.toInt ∧ k.toInt < n
      · rw [if_pos c2, if_pos c2, if_neg k_10, k_a (by omega) (by omega), Option.bind_some, k_arr_g b.2.2.2.2.1 c2.1 c2.2 (by omega)]
        rfl
      · rw [if_neg c2, if_neg c2, if_pos rfl]
  · refine k_refE 0 0 _ q0 f0 (k_fc_refl D) rfl ?_ ?_
    · unfold f_X11_sample
      rw [k_soF h1.2.1 h1.1 c]
      rfl
    · rw [if_neg c, k_nF E0 1 k_10 t0, if_neg k_10]
      rfl
theorem k_rlast {E : am_D} {i n : Nat} {f t : Int → Int32} (h : k_rm E i n f t) (hv : k_mv n f t) (hi : i < 5) : f_X12_lastOf (Int32.ofNat i) E = some (f ((n : Int) - 1)) ∧ f_X12_lengthOf (Int32.ofNat i) E = some (t ((n : Int) - 1)) := by
  have h1 := hv.1
  have h2 := hv.2.1
  have e1 : (12 : Int32) * Int32.ofNat i + Int32.ofNat n - 1 = Int32.ofNat (12 * i + (n - 1)) := by
    have e : (12 : Int32) * Int32.ofNat i + Int32.ofNat n = Int32.ofNat (12 * i + n) := by rw [Int32.ofNat_add, Int32.ofNat_mul]; rfl
    rw [e, j_eq, j_pred _ (by omega), j_nat (by omega)]
    omega
  have e2 : ((n - 1 : Nat) : Int) = (n : Int) - 1 := by omega
  have p0 : ∀ (X : am_D) (y : Nat), am_gI X y 2 (0 : Int32) = some (X.1 y 0) := fun X y => k_g (k := 0) (by omega) (by omega)
  have p1 : ∀ (X : am_D) (y : Nat), am_gI X y 2 (1 : Int32) = some (X.1 y 1) := fun X y => k_g (k := 1) (by omega) (by omega)
  have q := h.2 (n - 1) (by omega)
  rw [e2] at q
  constructor
  · unfold f_X12_lastOf
    rw [k_g hi (by omega), h.1, Option.bind_some, e1, k_a (by omega) (by omega), Option.bind_some, p0, q.1]
    rfl
  · unfold f_X12_lengthOf
    rw [k_g hi (by omega), h.1, Option.bind_some, e1, k_a (by omega) (by omega), Option.bind_some, p1, q.2]
    rfl
/-- told -/
theorem op_told {D E : am_D} (h : k_Q D E) (p w : Int32) : k_opE D E (k_lf D (f_X11_told p w D)) (f_X12_told p w E) ["java/lang/IndexOutOfBoundsException", "java/lang/IllegalArgumentException"] := by
  obtain ⟨E0, hE0, t0, f0, q0⟩ := k_start h
  have q0' := q0
  obtain ⟨ns, nm, nw, np, nh, ni, h1, h2, h3, h4, h5, h6, h7, h8, h9⟩ := q0'
  unfold f_X12_told f_X11_told
  rw [Option.bind_some, ← hE0, k_isM p h2.2.2.1 h2.1, Option.bind_some]
  have e0 : (0 : Int32).toInt = 0 := rfl
  have e2 : (2 : Int32).toInt = 2 := rfl
  by_cases c : 0 ≤ p.toInt ∧ p.toInt < nm
  · obtain ⟨i, rfl, hi⟩ := k_ix c
    obtain ⟨n, f, t, b1, b2, b3⟩ := h2.2.2.2 i hi
    have hnm := h2.1
    rw [k_maT h2.2.1 h2.1 hi, k_bR, if_pos c, k_nT E0 1 t0, if_pos rfl, k_in, Option.bind_some, k_cwithin, Option.bind_some, e0, e2]
    by_cases c2 : 0 ≤ w.toInt ∧ w.toInt ≤ 2
    · rw [if_pos c2, k_nT E0 2 t0, if_pos rfl]
      show k_opE D E (k_lf D (if w = 0 then _ else _)) _ _
      by_cases w0 : w = 0
      · rw [if_pos w0, if_pos w0, b2.2.1, k_g (by omega) (by omega), b3.1]
        exact k_valE (Int32.ofNat n) q0 t0 f0 (k_fc_refl D) rfl rfl
      · rw [if_neg w0, if_neg w0]
        by_cases w1 : w = 1
        · rw [if_pos w1, if_pos w1, j_map_lastTo b2, (k_rlast b3 b1 (by omega)).2]
          exact k_valE _ q0 t0 f0 (k_fc_refl D) rfl rfl
        · rw [if_neg w1, if_neg w1, j_map_lastFrom b2, (k_rlast b3 b1 (by omega)).1]
          exact k_valE _ q0 t0 f0 (k_fc_refl D) rfl rfl
    · rw [if_neg c2, k_nF E0 2 (by decide) t0, if_neg k_10]
      exact k_refE 0 1 _ q0 f0 (k_fc_refl D) rfl rfl rfl
  · rw [k_maF h2.2.1 h2.1 c, if_neg c, k_nF E0 1 k_10 t0, if_neg k_10]
    exact k_refE 0 0 _ q0 f0 (k_fc_refl D) rfl rfl rfl
