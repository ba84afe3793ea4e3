/-! the constructors: the cells come one behind another, as am_S0 has them; b is the next one -/
def am_Gk (V : Nat → Nat → Option Nat) (b : Nat) : am_G := (V, am_S0.take (b - 16), true)
/-- from b on nothing was written yet -/
def am_FR (V : Nat → Nat → Option Nat) (D : am_D) (b : Nat) : Prop := ∀ x, b ≤ x → (∀ j, D.1 x j = 0) ∧ (∀ j, D.2 x j = 0) ∧ ∀ j, V x j = none
theorem am_FR_le {V : Nat → Nat → Option Nat} {D : am_D} {b b2 : Nat} (h : am_FR V D b) (hb : b ≤ b2) : am_FR V D b2 := fun x hx => h x (Nat.le_trans hb hx)
theorem am_FR_R {V : Nat → Nat → Option Nat} {D : am_D} {b a j : Nat} {v : Option Nat} (h : am_FR V D b) (ha : a < b) : am_FR (am_up2 V a j v) D b := fun x hx => ⟨(h x hx).1, (h x hx).2.1, fun i => by rw [am_up2_ne V j v (show x ≠ a by omega)]; exact (h x hx).2.2 i⟩
theorem am_FR_I {V : Nat → Nat → Option Nat} {D : am_D} {b a j : Nat} {v : Int32} (h : am_FR V D b) (ha : a < b) : am_FR V (am_wI D a j v) b := fun x hx => ⟨fun i => by rw [j_wI_ne D j v (show x ≠ a by omega)]; exact (h x hx).1 i, (h x hx).2.1, (h x hx).2.2⟩
theorem am_Gk_len {V : Nat → Nat → Option Nat} {b : Nat} (h : 16 ≤ b) (h2 : b ≤ 2638) : 16 + (am_Gk V b).2.1.length = b := by
  show 16 + (am_S0.take (b - 16)).length = b
  rw [List.length_take, am_S0_len]
  omega
theorem am_Gk_sh {V : Nat → Nat → Option Nat} {a b : Nat} {q : Nat × Nat} (h : am_sh am_G0 a = some q) (hb : a < b) : am_sh (am_Gk V b) a = some q := by
  have h0 := am_sh_ge h
  have h1 := am_sh_get h
  unfold am_sh
  rw [if_neg h0]
  show (am_S0.take (b - 16))[a - 16]? = some q
  rw [List.getElem?_take, if_pos (by omega)]
  exact h1
theorem am_Gk_push {V : Nat → Nat → Option Nat} {b : Nat} {q : Nat × Nat} (h : am_sh am_G0 b = some q) : am_push (am_Gk V b) q = am_Gk V (b + 1) := by
  have h0 := am_sh_ge h
  have h1 := am_sh_get h
  have e : b + 1 - 16 = (b - 16) + 1 := by omega
  show (V, am_S0.take (b - 16) ++ [q], true) = (V, am_S0.take (b + 1 - 16), true)
  rw [e, List.take_succ]
  have h1 : am_S0[b - 16]? = some q := h1
  rw [h1]
  rfl
/-- rows of rows among the references -/
def am_upM (V : Nat → Nat → Option Nat) (b N : Nat) : Nat → Nat → Option Nat := fun a => if a = b then (fun j => if j < N then some (b + 1 + j) else none) else V a
theorem am_Gk_push2 {V : Nat → Nat → Option Nat} {b N K : Nat} (h : 16 ≤ b) (h2 : b ≤ 2638) (hs : (am_S0.drop (b - 16)).take (N + 1) = (26, N) :: List.replicate N (20, K)) : am_push2 (am_Gk V b) N K = am_Gk (am_upM V b N) (b + 1 + N) := by
  have e : b + 1 + N - 16 = (b - 16) + (N + 1) := by omega
  unfold am_push2
  rw [am_Gk_len h h2]
  show (_, am_S0.take (b - 16) ++ ((26, N) :: List.replicate N (20, K)), true) = (_, am_S0.take (b + 1 + N - 16), true)
  rw [e, List.take_add, hs]
  rfl
theorem am_FR_M {V : Nat → Nat → Option Nat} {D : am_D} {b N : Nat} (h : am_FR V D b) : am_FR (am_upM V b N) D (b + 1 + N) := fun x hx => ⟨(h x (by omega)).1, (h x (by omega)).2.1, fun i => by
  have e : am_upM V b N x = V x := if_neg (by omega)
  rw [e]
  exact (h x (by omega)).2.2 i⟩
section AMK
variable {E : am_E} {M : am_M} {d mc ms : Nat} {o : am_O} {G' : am_G} {D' : am_D} {cu su pc : Nat} {lv : List (Nat × Value)} {st : List Value} {V : Nat → Nat → Option Nat} {D : am_D} {b : Nat}
theorem am_newK (hE : am_EH E) {c n idx : Nat} {C : String} {T : u_T} (hd : decode M.2.1 pc = .ok (.new idx, 3)) (hC : am_CF c n C T) (hl9 : Cond.classLink M.1.cls idx C ∈ am_tg) (hins : Cond.instantiable C n ∈ am_tg) (hini : Cond.initialized C ∈ am_tg) (hb : am_sh am_G0 b = some (c, n)) (hF : am_FR V D b)
    (hdef : ∀ j, j < n → defaultValue (am_ty c j) = if (am_ty c j).isReference = true then .null else .int 0) (hc : cu + 1 ≤ mc) (hs : su + n ≤ ms)
    (k : am_S E M d mc ms o G' D' (cu + 1) (su + n) (pc + 3) lv (.ref b :: st) (am_Gk V (b + 1)) D) : am_S E M d mc ms o G' D' cu su pc lv st (am_Gk V b) D := by
  have hlt := am_sh_lt hb
  have hge := am_sh_ge hb
  have hL := am_Gk_len (V := V) (show 16 ≤ b by omega) (show b ≤ 2638 by omega)
  refine am_new hE hd hC hl9 hins hini rfl (by rw [hL]; exact hF b (Nat.le_refl _)) hdef hc hs ?_
  rw [hL, am_Gk_push hb]
  exact k
theorem am_newarrK (hE : am_EH E) {t N : Nat} {atype : ArrayType} {ty : FieldType} {x : Int32} (hd : decode M.2.1 pc = .ok (.newarray atype, 2)) (hty : newarray.typeOf atype = ty) (ht : t = 0 ∧ ty = .int ∨ t = 1 ∧ ty = .long) (hl9 : Cond.arrayClass ty ∈ am_tg) (hx : x = Int32.ofNat N) (hN : N < 100000) (hb : am_sh am_G0 b = some (20 + t, N)) (hF : am_FR V D b) (hc : cu + 1 ≤ mc) (hs : su + N ≤ ms)
    (k : am_S E M d mc ms o G' D' (cu + 1) (su + N) (pc + 2) lv (.ref b :: st) (am_Gk V (b + 1)) D) : am_S E M d mc ms o G' D' cu su pc lv (.int x :: st) (am_Gk V b) D := by
  have hlt := am_sh_lt hb
  have hge := am_sh_ge hb
  have hL := am_Gk_len (V := V) (show 16 ≤ b by omega) (show b ≤ 2638 by omega)
  refine am_newarr hE hd hty ht hl9 hx hN rfl (by rw [hL]; exact hF b (Nat.le_refl _)) hc hs ?_
  rw [hL, am_Gk_push hb]
  exact k
theorem am_anewK (hE : am_EH E) (hA : am_AO E) {t N idx : Nat} {C : String} {x : Int32} (hd : decode M.2.1 pc = .ok (.anewarray idx, 3)) (ht : 2 ≤ t) (hty : (am_tys E)[t]? = some (E.2.2.1 t, .object C)) (hl9 : Cond.classLink M.1.cls idx C ∈ am_tg) (hov : C ∈ [RX7, RX9, RX5, RX4]) (hx : x = Int32.ofNat N) (hN : N < 100000) (hb : am_sh am_G0 b = some (20 + t, N)) (hF : am_FR V D b) (hc : cu + 1 ≤ mc) (hs : su + N ≤ ms)
    (k : am_S E M d mc ms o G' D' (cu + 1) (su + N) (pc + 3) lv (.ref b :: st) (am_Gk V (b + 1)) D) : am_S E M d mc ms o G' D' cu su pc lv (.int x :: st) (am_Gk V b) D := by
  have hlt := am_sh_lt hb
  have hge := am_sh_ge hb
  have hL := am_Gk_len (V := V) (show 16 ≤ b by omega) (show b ≤ 2638 by omega)
  refine am_anewA hE hA hd ht hty hl9 hov hx hN rfl (by rw [hL]; exact hF b (Nat.le_refl _)) hc hs ?_
  rw [hL, am_Gk_push hb]
  exact k
theorem am_multiK (hE : am_EH E) (hA : am_AO E) {N K idx : Nat} {x y : Int32} (hd : decode M.2.1 pc = .ok (.multianewarray idx 2, 4)) (hl9 : Cond.classLink M.1.cls idx "[[I" ∈ am_tg) (har : Cond.arrayClass .int ∈ am_tg) (hx : x = Int32.ofNat N) (hy : y = Int32.ofNat K) (hN : N < 100000) (hK : K < 100000) (hb : 16 ≤ b) (hb2 : b ≤ 2638)
    (hsh : (am_S0.drop (b - 16)).take (N + 1) = (26, N) :: List.replicate N (20, K)) (hF : am_FR V D b) (hc : cu + (1 + N) ≤ mc) (hs : su + (N + N * K) ≤ ms)
    (k : am_S E M d mc ms o G' D' (cu + 1 + N) (su + N + N * K) (pc + 4) lv (.ref b :: st) (am_Gk (am_upM V b N) (b + 1 + N)) D) : am_S E M d mc ms o G' D' cu su pc lv (.int y :: .int x :: st) (am_Gk V b) D := by
  have hL := am_Gk_len (V := V) hb hb2
  refine am_multi hE hA hd hl9 har hx hy hN hK rfl (fun j _ => by rw [hL]; exact hF (b + j) (Nat.le_add_right _ _)) hc hs ?_
  rw [hL, am_Gk_push2 hb hb2 hsh]
  exact k
theorem am_putRK (hE : am_EH E) {a v c n j idx : Nat} {C : String} {T : u_T} (hd : decode M.2.1 pc = .ok (.putfield idx, 3)) (hk : am_sh am_G0 a = some (c, n)) (ha : a < b) (hC : am_CF c n C T) (hj : j < n) (hty : (am_ty c j).isReference = true) (hlink : Cond.fieldLink M.1.cls idx C (T j).2.1 (T j).2.2.1 ∈ am_tg)
    (hfin : (T j).2.2.2 = false ∨ (M.1.name = "<init>" ∧ M.1.cls = C)) (hn : ∀ r, narrow (am_ty c j) (.ref r) = .ref r) (hfit : ∀ r, fits (am_ty c j) (.ref r) = true)
    (k : am_S E M d mc ms o G' D' cu su (pc + 3) lv st (am_Gk (am_up2 V a j (some v)) b) D) : am_S E M d mc ms o G' D' cu su pc lv (.ref v :: .ref a :: st) (am_Gk V b) D :=
  am_putR hE hd (am_Gk_sh hk ha) hC hj hty hlink hfin (hn _) (hfit _) k
theorem am_putIK (hE : am_EH E) {a c n j idx : Nat} {C : String} {T : u_T} {v : Int32} (hd : decode M.2.1 pc = .ok (.putfield idx, 3)) (hk : am_sh am_G0 a = some (c, n)) (ha : a < b) (hC : am_CF c n C T) (hj : j < n) (hty : (am_ty c j).isReference = false) (hlink : Cond.fieldLink M.1.cls idx C (T j).2.1 (T j).2.2.1 ∈ am_tg)
    (hfin : (T j).2.2.2 = false ∨ (M.1.name = "<init>" ∧ M.1.cls = C)) (hn : narrow (am_ty c j) (.int v) = .int v) (hfit : fits (am_ty c j) (.int v) = true)
    (k : am_S E M d mc ms o G' D' cu su (pc + 3) lv st (am_Gk V b) (am_wI D a j v)) : am_S E M d mc ms o G' D' cu su pc lv (.int v :: .ref a :: st) (am_Gk V b) D :=
  am_putI hE hd (am_Gk_sh hk ha) hC hj hty hlink hfin hn hfit k
theorem am_getRK (hE : am_EH E) {a r c n j idx : Nat} {C : String} {T : u_T} (hd : decode M.2.1 pc = .ok (.getfield idx, 3)) (hk : am_sh am_G0 a = some (c, n)) (ha : a < b) (hC : am_CF c n C T) (hj : j < n) (hty : (am_ty c j).isReference = true) (hlink : Cond.fieldLink M.1.cls idx C (T j).2.1 (T j).2.2.1 ∈ am_tg) (hr : V a j = some r)
    (k : am_S E M d mc ms o G' D' cu su (pc + 3) lv (.ref r :: st) (am_Gk V b) D) : am_S E M d mc ms o G' D' cu su pc lv (.ref a :: st) (am_Gk V b) D :=
  am_getR hE hd (am_Gk_sh hk ha) hC hj hty hlink hr k
theorem am_iastK (hE : am_EH E) {a n j : Nat} {i x : Int32} (hd : decode M.2.1 pc = .ok (.iastore, 1)) (hk : am_sh am_G0 a = some (20, n)) (ha : a < b) (hi : i = Int32.ofNat j) (hj : j < n) (hn : n < 100000) (k : am_S E M d mc ms o G' D' cu su (pc + 1) lv st (am_Gk V b) (am_wI D a j x)) : am_S E M d mc ms o G' D' cu su pc lv (.int x :: .int i :: .ref a :: st) (am_Gk V b) D := by
  have ei : i.toNatClampNeg = j := by rw [hi]; exact j_cn (by omega)
  refine am_iast hE hd (am_Gk_sh hk ha) ?_ ?_
  · refine am_in_vp ?_
    rw [hi]
    exact j_in (by rw [j_nat (by omega)]; omega) (by rw [j_nat (by omega)]; omega)
  · rw [ei]
    exact k
theorem am_aastK (hE : am_EH E) {a v t n c nf j : Nat} {C : String} {T : u_T} {i : Int32} (hd : decode M.2.1 pc = .ok (.aastore, 1)) (hk : am_sh am_G0 a = some (20 + t, n)) (ha : a < b) (ht : 2 ≤ t) (hty : (am_tys E)[t]? = some (E.2.2.1 t, .object C)) (hv : am_sh am_G0 v = some (c, nf)) (hvb : v < b) (hC : am_CF c nf C T) (hi : i = Int32.ofNat j) (hj : j < n) (hn : n < 100000)
    (k : am_S E M d mc ms o G' D' cu su (pc + 1) lv st (am_Gk (am_up2 V a j (some v)) b) D) : am_S E M d mc ms o G' D' cu su pc lv (.ref v :: .int i :: .ref a :: st) (am_Gk V b) D := by
  have ei : i.toNatClampNeg = j := by rw [hi]; exact j_cn (by omega)
  refine am_aast hE hd (am_Gk_sh hk ha) ht hty (am_Gk_sh hv hvb) hC ?_ ?_
  · refine am_in_vp ?_
    rw [hi]
    exact j_in (by rw [j_nat (by omega)]; omega) (by rw [j_nat (by omega)]; omega)
  · rw [ei]
    exact k
end AMK
