/-! instructions that read and write cells -/
abbrev am_tys (E : am_E) : List (ClassId × FieldType) := [(E.2.2.1 0, .int), (E.2.2.1 1, .long), (E.2.2.1 2, .object RX7), (E.2.2.1 3, .object RX9), (E.2.2.1 4, .object RX5), (E.2.2.1 5, .object RX4), (E.2.2.1 6, .array .int)]
/-- the words still, tone, blow, hiss, hum, mark: lengths, bytes, texts, places in the Tape's pool -/
def am_slen : List Nat := [5, 4, 4, 4, 3, 4]
def am_sbyt : List (List Int32) := [[115, 116, 105, 108, 108], [116, 111, 110, 101], [98, 108, 111, 119], [104, 105, 115, 115], [104, 117, 109], [109, 97, 114, 107]]
def am_stx (i : Nat) : String := ["still", "tone", "blow", "hiss", "hum", "mark"].getD i ""
def am_six (i : Nat) : Nat := [89, 91, 93, 95, 97, 65].getD i 0
def am_str (E : am_E) : Prop := vk_S 6 am_slen am_sbyt (fun i => E.2.2.2.1 (1 + i)) (fun i => E.2.2.2.1 (8 + i)) (am_A E) (am_s0 E) (am_s0 E).heap ∧ (∀ i, i < 6 → vk_R RX8 (am_six i) (am_stx i) (E.2.2.2.1 (1 + i)) (am_s0 E))
def am_jst (E : am_E) : Prop := va_Z "java/lang/String" "COMPACT_STRINGS" "Z" (.int 1) (am_A E) (am_s0 E) (am_s0 E).heap ∧ (va_Z "jdk/internal/util/Preconditions" "SIOOBE_FORMATTER" "Ljava/util/function/BiFunction;" .null (am_A E) (am_s0 E) (am_s0 E).heap ∨ va_Z "jdk/internal/util/Preconditions" "SIOOBE_FORMATTER" "Ljava/util/function/BiFunction;" (.ref (E.2.2.2.1 15)) (am_A E) (am_s0 E) (am_s0 E).heap)
def am_scr (E : am_E) : Prop := va_X E.2.2.2.2.2.1 E.2.2.2.2.2.2.1 E.2.2.2.2.2.2.2 (am_s0 E) (am_s0 E).heap ∧ E.2.2.2.2.2.1 < am_bs E ∧ E.2.2.2.1 0 = E.2.2.2.2.2.1
/-- what is given of the launch and of the law's start -/
def am_EH (E : am_E) : Prop :=
  va_K E.2.1 am_cl (am_tys E) (am_s0 E) ∧ E.1.stackTraces = false ∧
  (vx_Zq Bundle.tN "UNASSIGNED_STACK" Bundle.steD (am_A E) (am_s0 E) (am_s0 E).heap ∧ vx_Zq Bundle.tN "SUPPRESSED_SENTINEL" Bundle.listD (am_A E) (am_s0 E) (am_s0 E).heap) ∧
  (∀ w ∈ tables_1, w.onTables = true → va_Nw w (am_s0 E)) ∧
  (∀ (a b : String), Cond.not (.castable a b) ∈ flatC narrow_1 → va_Nc a b (am_s0 E)) ∧ am_str E ∧ am_jst E ∧ am_scr E
theorem am_EH.K {E : am_E} (h : am_EH E) {s : State} (hw : (am_s0 E).WarmedH s.vm) : va_K E.2.1 am_cl (am_tys E) s := va_K.moved hw.alike h.1
/-- words that the tables alone decide, though they aren't good ones -/
def am_dc (w : Cond) : Bool := match w with
  | .declares _ => true
  | .castable _ _ => true
  | _ => false
theorem am_mv {w : Cond} (hw : am_dc w = true) {s U : State} (hW : s.WarmedH U.vm) (h : va_Nw w s) : va_Nw w U := by
  cases w <;> first | exact va_Nw.warmD hW h | exact va_tabs rfl (rfl : (s.setVm U.vm).vm = U.vm) (by rw [Cond.castable_setVm hW.alike]; exact h) | (cases hw)
/-- the shape of a cell -/
def am_sh (G : am_G) (a : Nat) : Option (Nat × Nat) := if a < 16 then none else G.2.1[a - 16]?
theorem am_sh_ge {G : am_G} {a : Nat} {sh : Nat × Nat} (h : am_sh G a = some sh) : ¬ a < 16 := by
  intro q
  unfold am_sh at h
  rw [if_pos q] at h
  cases h
theorem am_sh_get {G : am_G} {a : Nat} {sh : Nat × Nat} (h : am_sh G a = some sh) : G.2.1[a - 16]? = some sh := by
  have h0 := am_sh_ge h
  unfold am_sh at h
  rw [if_neg h0] at h
  exact h
theorem am_ph_ge (E : am_E) {a : Nat} (h : ¬ a < 16) : am_ph E a = am_bs E + (a - 16) := by
  unfold am_ph
  rw [if_neg h]
theorem am_WH.at {E : am_E} {G : am_G} {D : am_D} {H : Heap} {a : Nat} {sh : Nat × Nat} (hW : am_WH E G D H) (h : am_sh G a = some sh) : va_at E.2.1 am_cl (am_ph E a, am_cell E G D a sh) H := by
  have h0 := am_sh_ge h
  have h1 := hW.1 (a - 16) sh (am_sh_get h)
  rw [show 16 + (a - 16) = a by omega] at h1
  rw [am_ph_ge E h0]
  exact h1
theorem am_WH.one {E : am_E} {G : am_G} {D : am_D} {H : Heap} {a : Nat} {sh : Nat × Nat} (hW : am_WH E G D H) (h : am_sh G a = some sh) : va_P E.2.1 am_cl [(am_ph E a, am_cell E G D a sh)] H := by
  intro k q hk
  match k, hk with
  | 0, hk =>
    cases hk
    exact hW.at h
  | k + 1, hk => simp at hk
theorem am_WH_set {E : am_E} {G G2 : am_G} {D D2 : am_D} {H H1 : Heap} {a : Nat} {sh : Nat × Nat} (hW : am_WH E G D H) (hk : am_sh G a = some sh) (hG : G2.2 = G.2) (hne : ∀ (x : Nat) (sh' : Nat × Nat), x ≠ a → am_cell E G2 D2 x sh' = am_cell E G D x sh')
    (he : va_at E.2.1 am_cl (am_ph E a, am_cell E G2 D2 a sh) H1) (hz : H1.size = H.size) (ho : ∀ q, q ≠ am_ph E a → H1[q]? = H[q]?) : am_WH E G2 D2 H1 := by
  have h0 := am_sh_ge hk
  have hp := am_ph_ge E h0
  refine ⟨fun i sh' hi => ?_, fun q hq => ?_, by rw [hz]; exact hW.2.2.1, fun hal => ?_⟩
  · rw [hG] at hi
    by_cases e : 16 + i = a
    · have e1 : a - 16 = i := by omega
      have e2 := am_sh_get hk
      rw [e1] at e2
      cases Option.some.inj (e2.symm.trans hi)
      rw [hp, e1] at he
      rw [e]
      exact he
    · rw [hne _ _ e]
      exact (hW.1 i sh' hi).kept (ho _ (by show am_bs E + i ≠ _; rw [hp]; omega))
  · rw [ho q (by rw [hp]; omega)]
    exact hW.2.1 q hq
  · rw [hG] at hal ⊢
    rw [hz]
    exact hW.2.2.2 hal
def am_up2 {α : Type} (f : Nat → Nat → α) (a j : Nat) (v : α) : Nat → Nat → α := fun x => if x = a then fun y => if y = j then v else f a y else f x
theorem am_up2_at {α : Type} (f : Nat → Nat → α) (a j : Nat) (v : α) : am_up2 f a j v a = fun y => if y = j then v else f a y := if_pos rfl
theorem am_up2_ne {α : Type} (f : Nat → Nat → α) {a x : Nat} (j : Nat) (v : α) (h : x ≠ a) : am_up2 f a j v x = f x := if_neg h
def am_wI (D : am_D) (a j : Nat) (v : Int32) : am_D := (am_up2 D.1 a j v, D.2)
def am_wL (D : am_D) (a j : Nat) (v : Int64) : am_D := (D.1, am_up2 D.2 a j v)
def am_wR (G : am_G) (a j : Nat) (v : Option Nat) : am_G := (am_up2 G.1 a j v, G.2)
theorem am_fields_get {E : am_E} {G : am_G} {D : am_D} {a c n j : Nat} (h : j < n) : (am_fields E G D a c n)[j]? = some (am_field E G D a (am_ty c j) j) := by
  unfold am_fields
  rw [List.getElem?_map, List.getElem?_range h]
  rfl
theorem am_fields_set {E : am_E} {G G2 : am_G} {D D2 : am_D} {a c n j : Nat} {v : Value} (hv : am_field E G2 D2 a (am_ty c j) j = v) (ho : ∀ i, i ≠ j → am_field E G2 D2 a (am_ty c i) i = am_field E G D a (am_ty c i) i) : (am_fields E G D a c n).set j v = am_fields E G2 D2 a c n := by
  refine List.ext_getElem? fun i => ?_
  by_cases hi : i < n
  · rw [am_fields_get hi]
    by_cases e : i = j
    · subst e
      rw [List.getElem?_set_self (by unfold am_fields; rw [List.length_map, List.length_range]; exact hi), hv]
    · rw [List.getElem?_set_ne (Ne.symm e), am_fields_get hi, ho i e]
  · have h1 : ((am_fields E G D a c n).set j v).length ≤ i := by rw [List.length_set]; unfold am_fields; rw [List.length_map, List.length_range]; omega
    have h2 : (am_fields E G2 D2 a c n).length ≤ i := by unfold am_fields; rw [List.length_map, List.length_range]; omega
    rw [List.getElem?_eq_none h1, List.getElem?_eq_none h2]
theorem am_cell_wI {E : am_E} {G : am_G} {D : am_D} {a j x : Nat} {v : Int32} (sh : Nat × Nat) (h : x ≠ a) : am_cell E G (am_wI D a j v) x sh = am_cell E G D x sh := by
  unfold am_cell am_fields am_field am_arr am_wI
  simp only [am_up2_ne _ _ _ h]
theorem am_cell_wL {E : am_E} {G : am_G} {D : am_D} {a j x : Nat} {v : Int64} (sh : Nat × Nat) (h : x ≠ a) : am_cell E G (am_wL D a j v) x sh = am_cell E G D x sh := by
  unfold am_cell am_fields am_field am_arr am_wL
  simp only [am_up2_ne _ _ _ h]
theorem am_cell_wR {E : am_E} {G : am_G} {D : am_D} {a j x : Nat} {v : Option Nat} (sh : Nat × Nat) (h : x ≠ a) : am_cell E (am_wR G a j v) D x sh = am_cell E G D x sh := by
  unfold am_cell am_fields am_field am_arr am_wR
  simp only [am_up2_ne _ _ _ h]
/-- what is known of class number c -/
def am_CF (c n : Nat) (C : String) (T : u_T) : Prop := am_cl[c]? = some (C, T, n) ∧ c < 20 ∧ (∀ w ∈ u_ws C T n, w ∈ am_tg) ∧ (∀ k, k < n → parseFieldDescriptor (T k).2.2.1 = some (am_ty c k)) ∧ (∀ a, a < n → ∀ b, b < n → a ≠ b → (T a).2.1 ≠ (T b).2.1) ∧ ∀ k, k < n → (T k).1 = C
section AMH
variable {E : am_E} {M : am_M} {d mc ms : Nat} {o : am_O} {G' : am_G} {D' : am_D} {cu su pc : Nat} {lv : List (Nat × Value)} {st : List Value} {G : am_G} {D : am_D}
theorem am_getV (hE : am_EH E) {a c n j idx : Nat} {C : String} {T : u_T} {v : Value} (hd : decode M.2.1 pc = .ok (.getfield idx, 3)) (hk : am_sh G a = some (c, n)) (hC : am_CF c n C T) (hj : j < n) (hlink : Cond.fieldLink M.1.cls idx C (T j).2.1 (T j).2.2.1 ∈ am_tg) (hv : am_field E G D a (am_ty c j) j = am_cv E v)
    (k : am_S E M d mc ms o G' D' cu su (pc + 3) lv (v :: st) G D) : am_S E M d mc ms o G' D' cu su pc lv (.ref a :: st) G D := by
  intro p e s m args below meth cd H locs ls F hS hl hW
  have hP := hW.one hk
  have hcell : am_cell E G D a (c, n) = .inr (c, am_fields E G D a c n) := if_pos hC.2.1
  rw [hcell] at hP
  exact va_get (a := am_ph E a) F.1 F.2.1 F.2.2.2.2.2.1 hC.2.2.1 F.2.2.2.2.1 (hE.K F.2.2.2.2.2.2.2.2.2.1) hP 0 rfl hC.1 j hj (F.2.2.2.2.2.1 _ hlink) (fun x h => by rw [hC.2.2.2.2.2 j hj] at h; exact h) (by rw [am_fields_get hj, hv]) hd (k p e s m args below meth cd H locs ls F hS hl hW)
theorem am_getI (hE : am_EH E) {a c n j idx : Nat} {C : String} {T : u_T} (hd : decode M.2.1 pc = .ok (.getfield idx, 3)) (hk : am_sh G a = some (c, n)) (hC : am_CF c n C T) (hj : j < n) (hty : (am_ty c j).isReference = false) (hlink : Cond.fieldLink M.1.cls idx C (T j).2.1 (T j).2.2.1 ∈ am_tg)
    (k : am_S E M d mc ms o G' D' cu su (pc + 3) lv (.int (D.1 a j) :: st) G D) : am_S E M d mc ms o G' D' cu su pc lv (.ref a :: st) G D :=
  am_getV hE hd hk hC hj hlink (v := .int (D.1 a j)) (by unfold am_field; rw [hty]; rfl) k
theorem am_getR (hE : am_EH E) {a b c n j idx : Nat} {C : String} {T : u_T} (hd : decode M.2.1 pc = .ok (.getfield idx, 3)) (hk : am_sh G a = some (c, n)) (hC : am_CF c n C T) (hj : j < n) (hty : (am_ty c j).isReference = true) (hlink : Cond.fieldLink M.1.cls idx C (T j).2.1 (T j).2.2.1 ∈ am_tg) (hr : G.1 a j = some b)
    (k : am_S E M d mc ms o G' D' cu su (pc + 3) lv (.ref b :: st) G D) : am_S E M d mc ms o G' D' cu su pc lv (.ref a :: st) G D :=
  am_getV hE hd hk hC hj hlink (v := .ref b) (by unfold am_field; rw [hty, hr]; rfl) k
theorem am_putV (hE : am_EH E) {G2 : am_G} {D2 : am_D} {a c n j idx : Nat} {C : String} {T : u_T} {v : Value} (hd : decode M.2.1 pc = .ok (.putfield idx, 3)) (hk : am_sh G a = some (c, n)) (hC : am_CF c n C T) (hj : j < n) (hlink : Cond.fieldLink M.1.cls idx C (T j).2.1 (T j).2.2.1 ∈ am_tg)
    (hfin : (T j).2.2.2 = false ∨ (M.1.name = "<init>" ∧ M.1.cls = C)) (hn : narrow (am_ty c j) (am_cv E v) = am_cv E v) (hfit : fits (am_ty c j) (am_cv E v) = true) (hG : G2.2 = G.2) (hne : ∀ (x : Nat) (sh' : Nat × Nat), x ≠ a → am_cell E G2 D2 x sh' = am_cell E G D x sh') (hset : (am_fields E G D a c n).set j (am_cv E v) = am_fields E G2 D2 a c n)
    (k : am_S E M d mc ms o G' D' cu su (pc + 3) lv st G2 D2) : am_S E M d mc ms o G' D' cu su pc lv (v :: .ref a :: st) G D := by
  intro p e s m args below meth cd H locs ls F hS hl hW
  have hP := hW.one hk
  have hcell : am_cell E G D a (c, n) = .inr (c, am_fields E G D a c n) := if_pos hC.2.1
  have hcell2 : am_cell E G2 D2 a (c, n) = .inr (c, am_fields E G2 D2 a c n) := if_pos hC.2.1
  rw [hcell] at hP
  have hK := hE.K F.2.2.2.2.2.2.2.2.2.1
  have hts := F.2.2.2.2.2.1
  have hown := F.2.2.2.2.1
  have hlk := hts _ hlink
  have hap := va_apart (own := M.1.cls) hts hC.2.2.1 (am_ty c) hC.2.2.2.1 hC.2.2.2.2.1 hK hC.1
  obtain ⟨r, h1, cell, q1, q2, q3, q4⟩ := hP 0 _ rfl
  have hr : r = (C, T, n) := Option.some.inj (h1.symm.trans hC.1)
  subst hr
  obtain ⟨hSl, hfc, kC, hkC, hkind⟩ := hK.1 c _ hC.1
  obtain ⟨cf, kf, fi, f, hi, hsl⟩ := hSl j hj
  have hi2 := hi
  rw [hC.2.2.2.2.2 j hj] at hi2
  have hlay := hts _ (hC.2.2.1 _ (u_in_lay hj))
  have hst := (u_facts hfc hkC (u_lays hts hC.2.2.1 hj) hi).1
  have hl9 : j < (am_fields E G D a c n).length := by unfold am_fields; rw [List.length_map, List.length_range]; exact hj
  have hlt9 := hC.2.2.2.1 j hj
  have fin : ∀ H' : Heap, H'[am_ph E a]? = some (cell.setSlot f.slot (am_cv E v)) → H'.size = H.size → (∀ q, q ≠ am_ph E a → H'[q]? = H[q]?) → W p E.1 e (am_R d mc ms) s m args below meth cd H' (locs ++ [⟨am_ph E a, f.slot⟩]) cu su (vx_MQ below (am_Qc E o G' D') (am_XC E o G' D') args s mc ms (am_A E)) { F0 m pc ls ((v :: .ref a :: st).map (am_cv E)) with pc := pc + 3, stack := st.map (am_cv E) } := by
    intro H' e1 e2 e3
    rw [hsl] at e1
    have hA : am_A E (am_ph E a) := by rw [am_ph_ge E (am_sh_ge hk)]; exact Nat.le_add_right _ _
    have hw2 : am_WH E G2 D2 H' := by
      refine am_WH_set hW hk hG hne ?_ e2 e3
      rw [hcell2, ← hset]
      exact ⟨_, hC.1, t_OB.to (V := updV (vp_V (am_fields E G D a c n)) j (am_cv E v)) ⟨_, e1, q2, q3, t_set q4 hap hj (am_cv E v)⟩ (fun j9 _ => vp_updV_set hl9 (am_cv E v) j9)⟩
    exact k p e s m args below meth cd H' _ ls F (hS.put e2 e3 hA) hl hw2
  rcases hfin with hfin | ⟨hin, hown2⟩
  · unfold u_lay at hlay
    rw [if_neg (by rw [hfin]; decide)] at hlay
    have h6 := u_store hfc hkC hkind hlay hi hlt9 hn hfit
    exact W.putK F.1 F.2.1 (f := f) ⟨hown, hlk, ⟨_, _, _, hi2⟩, hst⟩ (by rw [q2]; exact h6) q1 q3 (by rw [hsl]; exact k2_hasslot (q4 j hj)) rfl rfl hd fin
  · by_cases hf : (T j).2.2.2 = true
    · unfold u_lay at hlay
      rw [if_pos hf] at hlay
      have hcf : m.cls = cf := by
        obtain ⟨_, _, c', _, _, _, -, -, hf', -, -, -, hown3, -⟩ := Cond.laysFinal_spec hlay
        have e1 : c' = cf := by have := hi.symm.trans hf'; simp at this; exact this.1.symm
        rw [hC.2.2.2.2.2 j hj, ← hown2] at hown3
        rw [← e1]; exact Option.some.inj (hown.symm.trans hown3)
      have h6 := u_fits hfc hkC hkind (Or.inr hlay) hi hlt9 hn hfit
      exact W.putFinK F.1 F.2.1 hown hlk hi2 hst hcf (by rw [F.2.2.2.2.2.2.2.2.1]; exact hin) (by rw [q2]; exact h6) q1 q3 (by rw [hsl]; exact k2_hasslot (q4 j hj)) rfl rfl hd fin
    · unfold u_lay at hlay
      rw [if_neg hf] at hlay
      have h6 := u_store hfc hkC hkind hlay hi hlt9 hn hfit
      exact W.putK F.1 F.2.1 (f := f) ⟨hown, hlk, ⟨_, _, _, hi2⟩, hst⟩ (by rw [q2]; exact h6) q1 q3 (by rw [hsl]; exact k2_hasslot (q4 j hj)) rfl rfl hd fin
theorem am_putI (hE : am_EH E) {a c n j idx : Nat} {C : String} {T : u_T} {v : Int32} (hd : decode M.2.1 pc = .ok (.putfield idx, 3)) (hk : am_sh G a = some (c, n)) (hC : am_CF c n C T) (hj : j < n) (hty : (am_ty c j).isReference = false) (hlink : Cond.fieldLink M.1.cls idx C (T j).2.1 (T j).2.2.1 ∈ am_tg)
    (hfin : (T j).2.2.2 = false ∨ (M.1.name = "<init>" ∧ M.1.cls = C)) (hn : narrow (am_ty c j) (.int v) = .int v) (hfit : fits (am_ty c j) (.int v) = true)
    (k : am_S E M d mc ms o G' D' cu su (pc + 3) lv st G (am_wI D a j v)) : am_S E M d mc ms o G' D' cu su pc lv (.int v :: .ref a :: st) G D := by
  refine am_putV (G2 := G) (D2 := am_wI D a j v) hE hd hk hC hj hlink hfin hn hfit rfl (fun x sh' hx => am_cell_wI sh' hx) (am_fields_set ?_ fun i hi => ?_) k
  · unfold am_field am_wI
    rw [hty]
    simp [am_up2_at, am_cv]
  · unfold am_field am_wI
    simp [am_up2_at, hi]
theorem am_putR (hE : am_EH E) {a b c n j idx : Nat} {C : String} {T : u_T} (hd : decode M.2.1 pc = .ok (.putfield idx, 3)) (hk : am_sh G a = some (c, n)) (hC : am_CF c n C T) (hj : j < n) (hty : (am_ty c j).isReference = true) (hlink : Cond.fieldLink M.1.cls idx C (T j).2.1 (T j).2.2.1 ∈ am_tg)
    (hfin : (T j).2.2.2 = false ∨ (M.1.name = "<init>" ∧ M.1.cls = C)) (hn : narrow (am_ty c j) (.ref (am_ph E b)) = .ref (am_ph E b)) (hfit : fits (am_ty c j) (.ref (am_ph E b)) = true)
    (k : am_S E M d mc ms o G' D' cu su (pc + 3) lv st (am_wR G a j (some b)) D) : am_S E M d mc ms o G' D' cu su pc lv (.ref b :: .ref a :: st) G D := by
  refine am_putV (G2 := am_wR G a j (some b)) (D2 := D) hE hd hk hC hj hlink hfin hn hfit rfl (fun x sh' hx => am_cell_wR sh' hx) (am_fields_set ?_ fun i hi => ?_) k
  · unfold am_field am_wR
    rw [hty]
    simp [am_up2_at, am_cv, va_rf]
  · unfold am_field am_wR
    simp [am_up2_at, hi]
end AMH
