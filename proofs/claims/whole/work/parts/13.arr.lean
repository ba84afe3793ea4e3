/-! rows of values -/
section AMA
variable {E : am_E} {M : am_M} {d mc ms : Nat} {o : am_O} {G' : am_G} {D' : am_D} {cu su pc : Nat} {lv : List (Nat × Value)} {st : List Value} {G : am_G} {D : am_D}
theorem am_cell_arr {a k n : Nat} (hk : ¬ k < 20) : am_cell E G D a (k, n) = .inl (E.2.2.1 (k - 20), n, am_arr E G D a (k - 20)) := if_neg hk
theorem am_iald (hE : am_EH E) {a n : Nat} {i : Int32} (hd : decode M.2.1 pc = .ok (.iaload, 1)) (hk : am_sh G a = some (20, n)) (hin : vp_in i n)
    (k : am_S E M d mc ms o G' D' cu su (pc + 1) lv (.int (D.1 a i.toNatClampNeg) :: st) G D) : am_S E M d mc ms o G' D' cu su pc lv (.int i :: .ref a :: st) G D := by
  intro p e s m args below meth cd H locs ls F hS hl hW
  have hP := hW.one hk
  rw [am_cell_arr (by decide)] at hP
  exact va_iald (a := am_ph E a) F.1 F.2.1 (hE.K F.2.2.2.2.2.2.2.2.2.1) hP 0 0 (f := D.1 a) rfl rfl hin hd (k p e s m args below meth cd H locs ls F hS hl hW)
theorem am_lald (hE : am_EH E) {a n : Nat} {i : Int32} (hd : decode M.2.1 pc = .ok (.laload, 1)) (hk : am_sh G a = some (21, n)) (hin : vp_in i n)
    (k : am_S E M d mc ms o G' D' cu su (pc + 1) lv (.long (D.2 a i.toNatClampNeg) :: st) G D) : am_S E M d mc ms o G' D' cu su pc lv (.int i :: .ref a :: st) G D := by
  intro p e s m args below meth cd H locs ls F hS hl hW
  have hP := hW.one hk
  rw [am_cell_arr (by decide)] at hP
  exact va_lald (a := am_ph E a) F.1 F.2.1 (hE.K F.2.2.2.2.2.2.2.2.2.1) hP 0 1 (f := D.2 a) rfl rfl hin hd (k p e s m args below meth cd H locs ls F hS hl hW)
theorem am_arr_q {a k : Nat} (hk : 2 ≤ k) : am_arr E G D a k = .inr (.inr (.inr (.inr (fun j => (G.1 a j).map (am_ph E))))) := by
  unfold am_arr
  rw [if_neg (by omega), if_neg (by omega)]
theorem am_aald (hE : am_EH E) {a b n t : Nat} {i : Int32} {ty : FieldType} (hd : decode M.2.1 pc = .ok (.aaload, 1)) (hk : am_sh G a = some (20 + t, n)) (ht : 2 ≤ t) (hty : (am_tys E)[t]? = some (E.2.2.1 t, ty)) (href : ty.isReference = true) (hin : vp_in i n) (hr : G.1 a i.toNatClampNeg = some b)
    (k : am_S E M d mc ms o G' D' cu su (pc + 1) lv (.ref b :: st) G D) : am_S E M d mc ms o G' D' cu su pc lv (.int i :: .ref a :: st) G D := by
  intro p e s m args below meth cd H locs ls F hS hl hW
  have hP := hW.one hk
  rw [am_cell_arr (by omega), am_arr_q (by omega)] at hP
  have e9 : 20 + t - 20 = t := by omega
  rw [e9] at hP
  have hlt : i.toNatClampNeg < n := Nat.not_le.mp fun q => hin (Or.inr q)
  have hK := hE.K F.2.2.2.2.2.2.2.2.2.1
  exact W.aald (v := .ref (am_ph E b)) (ty := ty) F.1 F.2.1 (hP 0 _ rfl) ((hK.2 t _ hty).1 n (fun j => va_rf ((G.1 a j).map (am_ph E)))) href (fun q => by cases q) (by show ¬ (i < 0 ∨ (arrV _ _ _).slots.size ≤ _); rw [arrV_size]; exact hin) (by show (arrV _ _ _).slots[_]? = _; rw [arrV_read _ _ hlt]; show some (va_rf ((G.1 a i.toNatClampNeg).map (am_ph E))) = _; rw [hr]; rfl) rfl rfl hd (k p e s m args below meth cd H locs ls F hS hl hW)
theorem am_alen (hE : am_EH E) {a t n : Nat} {v : Int32} (hd : decode M.2.1 pc = .ok (.arraylength, 1)) (hk : am_sh G a = some (20 + t, n)) (ht : t < 7) (hv : Int32.ofNat n = v)
    (k : am_S E M d mc ms o G' D' cu su (pc + 1) lv (.int v :: st) G D) : am_S E M d mc ms o G' D' cu su pc lv (.ref a :: st) G D := by
  intro p e s m args below meth cd H locs ls F hS hl hW
  have hP := hW.one hk
  rw [am_cell_arr (by omega)] at hP
  have e9 : 20 + t - 20 = t := by omega
  rw [e9] at hP
  have hK := hE.K F.2.2.2.2.2.2.2.2.2.1
  obtain ⟨ty, hty⟩ : ∃ ty, (am_tys E)[t]? = some (E.2.2.1 t, ty) := by
    match t, ht with
    | 0, _ => exact ⟨_, rfl⟩
    | 1, _ => exact ⟨_, rfl⟩
    | 2, _ => exact ⟨_, rfl⟩
    | 3, _ => exact ⟨_, rfl⟩
    | 4, _ => exact ⟨_, rfl⟩
    | 5, _ => exact ⟨_, rfl⟩
    | 6, _ => exact ⟨_, rfl⟩
  exact va_alen (a := am_ph E a) F.1 F.2.1 hK hP 0 t rfl hty hv hd (k p e s m args below meth cd H locs ls F hS hl hW)
theorem am_iast (hE : am_EH E) {a n : Nat} {i x : Int32} (hd : decode M.2.1 pc = .ok (.iastore, 1)) (hk : am_sh G a = some (20, n)) (hin : vp_in i n)
    (k : am_S E M d mc ms o G' D' cu su (pc + 1) lv st G (am_wI D a i.toNatClampNeg x)) : am_S E M d mc ms o G' D' cu su pc lv (.int x :: .int i :: .ref a :: st) G D := by
  intro p e s m args below meth cd H locs ls F hS hl hW
  have hP := hW.one hk
  rw [am_cell_arr (by decide)] at hP
  have hK := hE.K F.2.2.2.2.2.2.2.2.2.1
  refine W.iast F.1 F.2.1 (hP 0 _ rfl) ((hK.2 0 _ rfl).1 n (fun j => .int (D.1 a j))) (fun q => by cases q) (by show ¬ (i < 0 ∨ (arrV _ _ _).slots.size ≤ _); rw [arrV_size]; exact hin) rfl rfl hd fun H1 e1 z oq => ?_
  have hA : am_A E (am_ph E a) := by rw [am_ph_ge E (am_sh_ge hk)]; exact Nat.le_add_right _ _
  refine k p e s m args below meth cd H1 _ ls F (hS.put z oq hA) hl (am_WH_set hW hk rfl (fun y sh' hy => am_cell_wI sh' hy) ?_ z oq)
  rw [am_cell_arr (by decide)]
  show H1[am_ph E a]? = some (vp_cell _ _)
  rw [e1]
  show some ((vp_cell _ (n, .inl (D.1 a))).setSlot _ _) = some (vp_cell _ (n, .inl ((am_wI D a i.toNatClampNeg x).1 a)))
  rw [vp_cell_i, vp_cell_i, arrV_store]
  congr 2
  funext q
  show _ = Value.int (am_up2 D.1 a i.toNatClampNeg x a q)
  rw [am_up2_at]
  by_cases hq : q = i.toNatClampNeg
  · subst hq
    simp [updV]
  · simp [updV, hq]
theorem am_last (hE : am_EH E) {a n : Nat} {i : Int32} {x : Int64} (hd : decode M.2.1 pc = .ok (.lastore, 1)) (hk : am_sh G a = some (21, n)) (hin : vp_in i n)
    (k : am_S E M d mc ms o G' D' cu su (pc + 1) lv st G (am_wL D a i.toNatClampNeg x)) : am_S E M d mc ms o G' D' cu su pc lv (.long x :: .int i :: .ref a :: st) G D := by
  intro p e s m args below meth cd H locs ls F hS hl hW
  have hP := hW.one hk
  rw [am_cell_arr (by decide)] at hP
  have hK := hE.K F.2.2.2.2.2.2.2.2.2.1
  refine W.last F.1 F.2.1 (hP 0 _ rfl) ((hK.2 1 _ rfl).1 n (fun j => .long (D.2 a j))) (fun q => by cases q) (by show ¬ (i < 0 ∨ (arrV _ _ _).slots.size ≤ _); rw [arrV_size]; exact hin) rfl rfl hd fun H1 e1 z oq => ?_
  have hA : am_A E (am_ph E a) := by rw [am_ph_ge E (am_sh_ge hk)]; exact Nat.le_add_right _ _
  refine k p e s m args below meth cd H1 _ ls F (hS.put z oq hA) hl (am_WH_set hW hk rfl (fun y sh' hy => am_cell_wL sh' hy) ?_ z oq)
  rw [am_cell_arr (by decide)]
  show H1[am_ph E a]? = some (vp_cell _ _)
  rw [e1]
  show some ((vp_cell _ (n, .inr (.inl (D.2 a)))).setSlot _ _) = some (vp_cell _ (n, .inr (.inl ((am_wL D a i.toNatClampNeg x).2 a))))
  rw [vp_cell_l, vp_cell_l, arrV_store]
  congr 2
  funext q
  show _ = Value.long (am_up2 D.2 a i.toNatClampNeg x a q)
  rw [am_up2_at]
  by_cases hq : q = i.toNatClampNeg
  · subst hq
    simp [updV]
  · simp [updV, hq]
/-! Math -/
theorem am_Rl : 100 ≤ (am_R d mc ms).locals := by unfold am_R; show 100 ≤ 500 + 40 * d; omega
theorem am_Rf : 16 ≤ (am_R d mc ms).frames := by unfold am_R; show 16 ≤ 16 + d; omega
theorem am_mmax {idx : Nat} {x y : Int32} (hd : decode M.2.1 pc = .ok (.invokestatic idx, 3)) (hl9 : Cond.methodLink M.1.cls idx Lib.Math.max.name ∈ am_tg) (h1 : Cond.static Lib.Math.max.name ∈ am_tg) (h2 : Cond.initialized "java/lang/Math" ∈ am_tg) (h3 : Cond.code Lib.Math.max.name Lib.Math.max.code 2 (some .int) ∈ am_tg)
    (hst : (st.map fun v => v.category).sum ≤ 40) (hc : cu ≤ mc) (hs : su ≤ ms) (k : am_S E M d mc ms o G' D' cu su (pc + 3) lv (.int (if x < y then y else x) :: st) G D) : am_S E M d mc ms o G' D' cu su pc lv (.int y :: .int x :: st) G D := by
  intro p e s m args below meth cd H locs ls F hS hl hW
  exact va_mmax F.1 F.2.1 (F.2.2.1.trans hl.1.symm) F.2.2.2.2.1 (F.2.2.2.2.2.1 _ hl9) (F.2.2.2.2.2.1 _ h1) (F.2.2.2.2.2.1 _ h2) (F.2.2.2.2.2.1 _ h3) (Nat.le_trans (by decide) am_Rf) (by rw [am_cats]; exact Nat.le_trans (by omega) (am_Rl (d := d) (mc := mc) (ms := ms))) hc hs hd (k p e s m args below meth cd H locs ls F hS hl hW)
theorem am_mmin {idx : Nat} {x y : Int32} (hd : decode M.2.1 pc = .ok (.invokestatic idx, 3)) (hl9 : Cond.methodLink M.1.cls idx Lib.Math.min.name ∈ am_tg) (h1 : Cond.static Lib.Math.min.name ∈ am_tg) (h2 : Cond.initialized "java/lang/Math" ∈ am_tg) (h3 : Cond.code Lib.Math.min.name Lib.Math.min.code 2 (some .int) ∈ am_tg)
    (hst : (st.map fun v => v.category).sum ≤ 40) (hc : cu ≤ mc) (hs : su ≤ ms) (k : am_S E M d mc ms o G' D' cu su (pc + 3) lv (.int (if y < x then y else x) :: st) G D) : am_S E M d mc ms o G' D' cu su pc lv (.int y :: .int x :: st) G D := by
  intro p e s m args below meth cd H locs ls F hS hl hW
  exact va_mmin F.1 F.2.1 (F.2.2.1.trans hl.1.symm) F.2.2.2.2.1 (F.2.2.2.2.2.1 _ hl9) (F.2.2.2.2.2.1 _ h1) (F.2.2.2.2.2.1 _ h2) (F.2.2.2.2.2.1 _ h3) (Nat.le_trans (by decide) am_Rf) (by rw [am_cats]; exact Nat.le_trans (by omega) (am_Rl (d := d) (mc := mc) (ms := ms))) hc hs hd (k p e s m args below meth cd H locs ls F hS hl hW)
theorem am_mabs {idx : Nat} {x : Int32} (hd : decode M.2.1 pc = .ok (.invokestatic idx, 3)) (hl9 : Cond.methodLink M.1.cls idx Lib.Math.abs.name ∈ am_tg) (h1 : Cond.static Lib.Math.abs.name ∈ am_tg) (h2 : Cond.initialized "java/lang/Math" ∈ am_tg) (h3 : Cond.code Lib.Math.abs.name Lib.Math.abs.code 1 (some .int) ∈ am_tg)
    (hst : (st.map fun v => v.category).sum ≤ 40) (hc : cu ≤ mc) (hs : su ≤ ms) (k : am_S E M d mc ms o G' D' cu su (pc + 3) lv (.int (if 0 ≤ x then x else 0 - x) :: st) G D) : am_S E M d mc ms o G' D' cu su pc lv (.int x :: st) G D := by
  intro p e s m args below meth cd H locs ls F hS hl hW
  exact va_mabs F.1 F.2.1 (F.2.2.1.trans hl.1.symm) F.2.2.2.2.1 (F.2.2.2.2.2.1 _ hl9) (F.2.2.2.2.2.1 _ h1) (F.2.2.2.2.2.1 _ h2) (F.2.2.2.2.2.1 _ h3) (Nat.le_trans (by decide) am_Rf) (by rw [am_cats]; exact Nat.le_trans (by omega) (am_Rl (d := d) (mc := mc) (ms := ms))) hc hs hd (k p e s m args below meth cd H locs ls F hS hl hW)
theorem am_mminL {idx : Nat} {x y : Int64} (hd : decode M.2.1 pc = .ok (.invokestatic idx, 3)) (hl9 : Cond.methodLink M.1.cls idx Lib.MathLoose.min_long.x ∈ am_tg) (h1 : Cond.static Lib.MathLoose.min_long.x ∈ am_tg) (h2 : Cond.initialized "java/lang/Math" ∈ am_tg) (h3 : Cond.code Lib.MathLoose.min_long.x Lib.MathLoose.min_long.code 4 (some .long) ∈ am_tg)
    (hst : (st.map fun v => v.category).sum ≤ 40) (hc : cu ≤ mc) (hs : su ≤ ms) (k : am_S E M d mc ms o G' D' cu su (pc + 3) lv (.long (if y < x then y else x) :: st) G D) : am_S E M d mc ms o G' D' cu su pc lv (.long y :: .long x :: st) G D := by
  intro p e s m args below meth cd H locs ls F hS hl hW
  have h := va_mmin_long F.1 F.2.1 (F.2.2.1.trans hl.1.symm) F.2.2.2.2.1 (F.2.2.2.2.2.1 _ hl9) (F.2.2.2.2.2.1 _ h1) (F.2.2.2.2.2.1 _ h2) (F.2.2.2.2.2.1 _ h3) (Nat.le_trans (by decide) am_Rf) (by rw [am_cats]; exact Nat.le_trans (by omega) (am_Rl (d := d) (mc := mc) (ms := ms))) hc hs hd (k p e s m args below meth cd H locs ls F hS hl hW)
  exact h
end AMA
