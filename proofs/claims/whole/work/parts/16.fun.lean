/-! the words of the functions that the methods are read as -/
def am_in (i : Int32) (n : Nat) : Bool := !(decide (i < 0)) && decide (i.toNatClampNeg < n)
theorem am_in_vp {i : Int32} {n : Nat} (h : am_in i n = true) : vp_in i n := by
  unfold am_in at h
  simp only [Bool.and_eq_true, Bool.not_eq_true', decide_eq_false_iff_not, decide_eq_true_eq] at h
  exact fun q => q.elim h.1 (fun q => absurd h.2 (Nat.not_lt.mpr q))
theorem am_in_lt {i : Int32} {n : Nat} (h : am_in i n = true) : i.toNatClampNeg < n := by
  unfold am_in at h
  simp only [Bool.and_eq_true, decide_eq_true_eq] at h
  exact h.2
def am_gI (D : am_D) (a n : Nat) (i : Int32) : Option Int32 := if am_in i n = true then some (D.1 a i.toNatClampNeg) else none
def am_gL (D : am_D) (a n : Nat) (i : Int32) : Option Int64 := if am_in i n = true then some (D.2 a i.toNatClampNeg) else none
def am_gA (n : Nat) (i : Int32) : Option Nat := if am_in i n = true then some i.toNatClampNeg else none
def am_pI (D : am_D) (a n : Nat) (i x : Int32) : Option am_D := if am_in i n = true then some (am_wI D a i.toNatClampNeg x) else none
def am_pL (D : am_D) (a n : Nat) (i : Int32) (x : Int64) : Option am_D := if am_in i n = true then some (am_wL D a i.toNatClampNeg x) else none
def am_dv (x y : Int32) : Option Int32 := if y = 0 then none else some (x / y)
def am_rm (x y : Int32) : Option Int32 := if y = 0 then none else some (x - x / y * y)
def am_zb (v : Int32) : Option Int32 := if v = 0 ∨ v = 1 then some v else none
def am_bt {α β : Type} (o : Option (String ⊕ α)) (f : α → Option (String ⊕ β)) : Option (String ⊕ β) := match o with
  | none => none
  | some (.inl e) => some (.inl e)
  | some (.inr v) => f v
def am_btD {α β : Type} (o : Option (String ⊕ α)) (D : am_D) (f : α → Option ((String × am_D) ⊕ β)) : Option ((String × am_D) ⊕ β) := match o with
  | none => none
  | some (.inl e) => some (.inl (e, D))
  | some (.inr v) => f v
def am_b2 {α β γ : Type} (o : Option (α ⊕ β)) (f : α → Option γ) (g : β → Option γ) : Option γ := match o with
  | none => none
  | some (.inl a) => f a
  | some (.inr b) => g b
def am_b3 {α β δ γ : Type} (o : Option (α ⊕ β ⊕ δ)) (f : α → Option γ) (g : β → Option γ) (h : δ → Option γ) : Option γ := match o with
  | none => none
  | some (.inl a) => f a
  | some (.inr (.inl b)) => g b
  | some (.inr (.inr c)) => h c
def am_bn {γ : Type} (o : Option (Option Nat)) (f : Nat → Option γ) (g : Option γ) : Option γ := match o with
  | none => none
  | some none => g
  | some (some r) => f r
theorem am_bd {α β : Type} {o : Option α} {f : α → Option β} {r : β} (h : o.bind f = some r) : ∃ a, o = some a ∧ f a = some r := Option.bind_eq_some_iff.mp h
theorem am_btR {α β : Type} {o : Option (String ⊕ α)} {f : α → Option (String ⊕ β)} {r : β} (h : am_bt o f = some (.inr r)) : ∃ a, o = some (.inr a) ∧ f a = some (.inr r) := by
  rcases o with _ | e | v
  · cases h
  · cases h
  · exact ⟨v, rfl, h⟩
theorem am_btT {α β : Type} {o : Option (String ⊕ α)} {f : α → Option (String ⊕ β)} {e : String} (h : am_bt o f = some (.inl e)) : o = some (.inl e) ∨ ∃ a, o = some (.inr a) ∧ f a = some (.inl e) := by
  rcases o with _ | e9 | v
  · cases h
  · cases h
    exact Or.inl rfl
  · exact Or.inr ⟨v, rfl, h⟩
theorem am_btDR {α β : Type} {o : Option (String ⊕ α)} {D : am_D} {f : α → Option ((String × am_D) ⊕ β)} {r : β} (h : am_btD o D f = some (.inr r)) : ∃ a, o = some (.inr a) ∧ f a = some (.inr r) := by
  rcases o with _ | e | v
  · cases h
  · cases h
  · exact ⟨v, rfl, h⟩
theorem am_btDT {α β : Type} {o : Option (String ⊕ α)} {D : am_D} {f : α → Option ((String × am_D) ⊕ β)} {e : String × am_D} (h : am_btD o D f = some (.inl e)) : (o = some (.inl e.1) ∧ e.2 = D) ∨ ∃ a, o = some (.inr a) ∧ f a = some (.inl e) := by
  rcases o with _ | e9 | v
  · cases h
  · cases h
    exact Or.inl ⟨rfl, rfl⟩
  · exact Or.inr ⟨v, rfl, h⟩
theorem am_b2d {α β γ : Type} {o : Option (α ⊕ β)} {f : α → Option γ} {g : β → Option γ} {r : γ} (h : am_b2 o f g = some r) : (∃ a, o = some (.inl a) ∧ f a = some r) ∨ ∃ b, o = some (.inr b) ∧ g b = some r := by
  rcases o with _ | a | b
  · cases h
  · exact Or.inl ⟨a, rfl, h⟩
  · exact Or.inr ⟨b, rfl, h⟩
theorem am_b3d {α β δ γ : Type} {o : Option (α ⊕ β ⊕ δ)} {f : α → Option γ} {g : β → Option γ} {k : δ → Option γ} {r : γ} (h : am_b3 o f g k = some r) : (∃ a, o = some (.inl a) ∧ f a = some r) ∨ (∃ b, o = some (.inr (.inl b)) ∧ g b = some r) ∨ ∃ c, o = some (.inr (.inr c)) ∧ k c = some r := by
  rcases o with _ | a | b | c
  · cases h
  · exact Or.inl ⟨a, rfl, h⟩
  · exact Or.inr (Or.inl ⟨b, rfl, h⟩)
  · exact Or.inr (Or.inr ⟨c, rfl, h⟩)
theorem am_bnd {γ : Type} {o : Option (Option Nat)} {f : Nat → Option γ} {g : Option γ} {r : γ} (h : am_bn o f g = some r) : (∃ a, o = some (some a) ∧ f a = some r) ∨ (o = some none ∧ g = some r) := by
  rcases o with _ | _ | a
  · cases h
  · exact Or.inr ⟨rfl, h⟩
  · exact Or.inl ⟨a, rfl, h⟩
/-- how long every loop may run -/
def am_fu : Nat := 5000
section AMF
variable {E : am_E} {M : am_M} {d mc ms : Nat} {o : am_O} {G' : am_G} {D' : am_D} {cu su pc : Nat} {lv : List (Nat × Value)} {st : List Value} {G : am_G} {D : am_D}
theorem am_iald2 (hE : am_EH E) {a n : Nat} {i v : Int32} (hd : decode M.2.1 pc = .ok (.iaload, 1)) (hk : am_sh G a = some (20, n)) (hg : am_gI D a n i = some v)
    (k : am_S E M d mc ms o G' D' cu su (pc + 1) lv (.int v :: st) G D) : am_S E M d mc ms o G' D' cu su pc lv (.int i :: .ref a :: st) G D := by
  unfold am_gI at hg
  by_cases h : am_in i n = true
  · rw [if_pos h] at hg
    cases hg
    exact am_iald hE hd hk (am_in_vp h) k
  · rw [if_neg h] at hg
    cases hg
theorem am_lald2 (hE : am_EH E) {a n : Nat} {i : Int32} {v : Int64} (hd : decode M.2.1 pc = .ok (.laload, 1)) (hk : am_sh G a = some (21, n)) (hg : am_gL D a n i = some v)
    (k : am_S E M d mc ms o G' D' cu su (pc + 1) lv (.long v :: st) G D) : am_S E M d mc ms o G' D' cu su pc lv (.int i :: .ref a :: st) G D := by
  unfold am_gL at hg
  by_cases h : am_in i n = true
  · rw [if_pos h] at hg
    cases hg
    exact am_lald hE hd hk (am_in_vp h) k
  · rw [if_neg h] at hg
    cases hg
theorem am_gA_lt {n j : Nat} {i : Int32} (hg : am_gA n i = some j) : j < n ∧ i.toNatClampNeg = j ∧ vp_in i n := by
  unfold am_gA at hg
  by_cases h : am_in i n = true
  · rw [if_pos h] at hg
    cases hg
    exact ⟨am_in_lt h, rfl, am_in_vp h⟩
  · rw [if_neg h] at hg
    cases hg
theorem am_aald2 (hE : am_EH E) {a b n j t : Nat} {i : Int32} {ty : FieldType} (hd : decode M.2.1 pc = .ok (.aaload, 1)) (hk : am_sh G a = some (20 + t, n)) (ht : 2 ≤ t) (hty : (am_tys E)[t]? = some (E.2.2.1 t, ty)) (href : ty.isReference = true) (hg : am_gA n i = some j) (hr : G.1 a j = some b)
    (k : am_S E M d mc ms o G' D' cu su (pc + 1) lv (.ref b :: st) G D) : am_S E M d mc ms o G' D' cu su pc lv (.int i :: .ref a :: st) G D := by
  obtain ⟨h1, h2, h3⟩ := am_gA_lt hg
  exact am_aald hE hd hk ht hty href h3 (by rw [h2]; exact hr) k
theorem am_iast2 (hE : am_EH E) {a n : Nat} {i x : Int32} {D2 : am_D} (hd : decode M.2.1 pc = .ok (.iastore, 1)) (hk : am_sh G a = some (20, n)) (hg : am_pI D a n i x = some D2)
    (k : am_S E M d mc ms o G' D' cu su (pc + 1) lv st G D2) : am_S E M d mc ms o G' D' cu su pc lv (.int x :: .int i :: .ref a :: st) G D := by
  unfold am_pI at hg
  by_cases h : am_in i n = true
  · rw [if_pos h] at hg
    cases hg
    exact am_iast hE hd hk (am_in_vp h) k
  · rw [if_neg h] at hg
    cases hg
theorem am_last2 (hE : am_EH E) {a n : Nat} {i : Int32} {x : Int64} {D2 : am_D} (hd : decode M.2.1 pc = .ok (.lastore, 1)) (hk : am_sh G a = some (21, n)) (hg : am_pL D a n i x = some D2)
    (k : am_S E M d mc ms o G' D' cu su (pc + 1) lv st G D2) : am_S E M d mc ms o G' D' cu su pc lv (.long x :: .int i :: .ref a :: st) G D := by
  unfold am_pL at hg
  by_cases h : am_in i n = true
  · rw [if_pos h] at hg
    cases hg
    exact am_last hE hd hk (am_in_vp h) k
  · rw [if_neg h] at hg
    cases hg
theorem am_idiv2 {x y v : Int32} (hd : decode M.2.1 pc = .ok (.idiv, 1)) (hg : am_dv x y = some v) (k : am_S E M d mc ms o G' D' cu su (pc + 1) lv (.int v :: st) G D) : am_S E M d mc ms o G' D' cu su pc lv (.int y :: .int x :: st) G D := by
  unfold am_dv at hg
  by_cases h : y = 0
  · rw [if_pos h] at hg
    cases hg
  · rw [if_neg h] at hg
    cases hg
    exact am_idiv hd h k
theorem am_irem2 {x y v : Int32} (hd : decode M.2.1 pc = .ok (.irem, 1)) (hg : am_rm x y = some v) (k : am_S E M d mc ms o G' D' cu su (pc + 1) lv (.int v :: st) G D) : am_S E M d mc ms o G' D' cu su pc lv (.int y :: .int x :: st) G D := by
  unfold am_rm at hg
  by_cases h : y = 0
  · rw [if_pos h] at hg
    cases hg
  · rw [if_neg h] at hg
    cases hg
    exact am_irem hd h k
theorem am_zb_eq {v w : Int32} (h : am_zb v = some w) : w = v ∧ (narrow .boolean (.int v) = .int v ∧ fits .boolean (.int v) = true) := by
  unfold am_zb at h
  by_cases q : v = 0 ∨ v = 1
  · rw [if_pos q] at h
    cases h
    rcases q with rfl | rfl
    · exact ⟨rfl, rfl, rfl⟩
    · exact ⟨rfl, rfl, rfl⟩
  · rw [if_neg q] at h
    cases h
theorem am_putI2 (hE : am_EH E) {a c n j idx : Nat} {C : String} {T : u_T} {v : Int32} {D2 : am_D} (hd : decode M.2.1 pc = .ok (.putfield idx, 3)) (hk : am_sh G a = some (c, n)) (hC : am_CF c n C T) (hj : j < n) (hty : (am_ty c j).isReference = false) (hlink : Cond.fieldLink M.1.cls idx C (T j).2.1 (T j).2.2.1 ∈ am_tg)
    (hfin : (T j).2.2.2 = false) (hn : narrow (am_ty c j) (.int v) = .int v) (hfit : fits (am_ty c j) (.int v) = true) (hg : some (am_wI D a j v) = some D2)
    (k : am_S E M d mc ms o G' D' cu su (pc + 3) lv st G D2) : am_S E M d mc ms o G' D' cu su pc lv (.int v :: .ref a :: st) G D := by
  cases hg
  exact am_putI hE hd hk hC hj hty hlink (Or.inl hfin) hn hfit k
/-- a call's answer on the stack -/
theorem am_callV1 (hE : am_EH E) {M2 : am_M} {n d2 mc2 ms2 idx a c nf : Nat} {T : u_T} {As : List Value} {w : Value} {G2 : am_G} {D2 : am_D} (hd : decode M.2.1 pc = .ok (.invokevirtual idx, 3)) (hM : am_okM M2 n) (hh : M2.2.2.2.2 = []) (hl : Cond.methodLink M.1.cls idx M2.1 ∈ am_tg) (hi : Cond.instanceMethod M2.1 ∈ am_tg)
    (hg : Cond.selects M2.1.cls M2.1 M2.1 ∈ am_tg) (hk : am_sh G a = some (c, nf)) (hC : am_CF c nf M2.1.cls T) (hc : am_C E M2 d2 mc2 ms2 (.ref a :: As) G D (.inl (some w)) G2 D2) (hn : As.length = n) (hd2 : d2 < d) (hst : (st.map fun v => v.category).sum ≤ 8) (hcu : cu + mc2 ≤ mc) (hsu : su + ms2 ≤ ms)
    {st0 : List Value} (hst0 : st0 = As.reverse ++ .ref a :: st) (k : am_S E M d mc ms o G' D' (cu + mc2) (su + ms2) (pc + 3) lv (w :: st) G2 D2) : am_S E M d mc ms o G' D' cu su pc lv st0 G D :=
  am_callV hE hd hM hh hl hi hg hk hC hc hn hd2 hst hcu hsu hst0 k
theorem am_callV0 (hE : am_EH E) {M2 : am_M} {n d2 mc2 ms2 idx a c nf : Nat} {T : u_T} {As : List Value} {G2 : am_G} {D2 : am_D} (hd : decode M.2.1 pc = .ok (.invokevirtual idx, 3)) (hM : am_okM M2 n) (hh : M2.2.2.2.2 = []) (hl : Cond.methodLink M.1.cls idx M2.1 ∈ am_tg) (hi : Cond.instanceMethod M2.1 ∈ am_tg)
    (hg : Cond.selects M2.1.cls M2.1 M2.1 ∈ am_tg) (hk : am_sh G a = some (c, nf)) (hC : am_CF c nf M2.1.cls T) (hc : am_C E M2 d2 mc2 ms2 (.ref a :: As) G D (.inl none) G2 D2) (hn : As.length = n) (hd2 : d2 < d) (hst : (st.map fun v => v.category).sum ≤ 8) (hcu : cu + mc2 ≤ mc) (hsu : su + ms2 ≤ ms)
    {st0 : List Value} (hst0 : st0 = As.reverse ++ .ref a :: st) (k : am_S E M d mc ms o G' D' (cu + mc2) (su + ms2) (pc + 3) lv st G2 D2) : am_S E M d mc ms o G' D' cu su pc lv st0 G D :=
  am_callV hE hd hM hh hl hi hg hk hC hc hn hd2 hst hcu hsu hst0 k
theorem am_callS1 {M2 : am_M} {n d2 mc2 ms2 idx : Nat} {As : List Value} {w : Value} {G2 : am_G} {D2 : am_D} (hd : decode M.2.1 pc = .ok (.invokestatic idx, 3)) (hM : am_okM M2 n) (hh : M2.2.2.2.2 = []) (hl : Cond.methodLink M.1.cls idx M2.1 ∈ am_tg) (hi : Cond.static M2.1 ∈ am_tg)
    (hc : am_C E M2 d2 mc2 ms2 As G D (.inl (some w)) G2 D2) (hn : As.length = n) (hd2 : d2 < d) (hst : (st.map fun v => v.category).sum ≤ 8) (hcu : cu + mc2 ≤ mc) (hsu : su + ms2 ≤ ms)
    {st0 : List Value} (hst0 : st0 = As.reverse ++ st) (k : am_S E M d mc ms o G' D' (cu + mc2) (su + ms2) (pc + 3) lv (w :: st) G2 D2) : am_S E M d mc ms o G' D' cu su pc lv st0 G D :=
  am_callS hd hM hh hl hi hc hn hd2 hst hcu hsu hst0 k
theorem am_callS0 {M2 : am_M} {n d2 mc2 ms2 idx : Nat} {As : List Value} {G2 : am_G} {D2 : am_D} (hd : decode M.2.1 pc = .ok (.invokestatic idx, 3)) (hM : am_okM M2 n) (hh : M2.2.2.2.2 = []) (hl : Cond.methodLink M.1.cls idx M2.1 ∈ am_tg) (hi : Cond.static M2.1 ∈ am_tg)
    (hc : am_C E M2 d2 mc2 ms2 As G D (.inl none) G2 D2) (hn : As.length = n) (hd2 : d2 < d) (hst : (st.map fun v => v.category).sum ≤ 8) (hcu : cu + mc2 ≤ mc) (hsu : su + ms2 ≤ ms)
    {st0 : List Value} (hst0 : st0 = As.reverse ++ st) (k : am_S E M d mc ms o G' D' (cu + mc2) (su + ms2) (pc + 3) lv st G2 D2) : am_S E M d mc ms o G' D' cu su pc lv st0 G D :=
  am_callS hd hM hh hl hi hc hn hd2 hst hcu hsu hst0 k
theorem am_callSN1 (hE : am_EH E) {M2 : am_M} {n d2 mc2 ms2 idx : Nat} {host : String} {As : List Value} {w : Value} {G2 : am_G} {D2 : am_D} (hd : decode M.2.1 pc = .ok (.invokestatic idx, 3)) (hM : am_okM M2 n) (hh : M2.2.2.2.2 = []) (hl : Cond.methodLinkNest M.1.cls idx M2.1 host ∈ tables_1) (hi : Cond.static M2.1 ∈ am_tg)
    (hc : am_C E M2 d2 mc2 ms2 As G D (.inl (some w)) G2 D2) (hn : As.length = n) (hd2 : d2 < d) (hst : (st.map fun v => v.category).sum ≤ 8) (hcu : cu + mc2 ≤ mc) (hsu : su + ms2 ≤ ms)
    {st0 : List Value} (hst0 : st0 = As.reverse ++ st) (k : am_S E M d mc ms o G' D' (cu + mc2) (su + ms2) (pc + 3) lv (w :: st) G2 D2) : am_S E M d mc ms o G' D' cu su pc lv st0 G D :=
  am_callSN hE hd hM hh hl hi hc hn hd2 hst hcu hsu hst0 k
end AMF
