/-! the law's entry: what is given there -/
theorem bs_t {s : State} {args : Array Value} (hts : ∀ w ∈ lw_tbl, w.before args s = true) (i : Nat) {w : Cond} (h : tables_1[i]? = some w) : w.before args s = true := hts w (List.mem_append_right _ (List.mem_of_getElem? h))
theorem bs_arrP {s : State} {args : Array Value} {t : FieldType} (h : (Cond.arrayClass t).before args s = true) : ∃ cA : ClassId, ArrOfT s cA t ∧ s.vm.findClass ("[" ++ t.toString) = some cA := by
  obtain ⟨c, k, comp, h1, h2, h3⟩ := Cond.arrayClass_spec h
  exact ⟨c, fun N z => ⟨(fun k h => by cases h), k, h2, comp, h3⟩, h1⟩
theorem bs_arrO {s : State} {args : Array Value} {C : String} (h : (Cond.arrayOver (.object C)).before args s = true) : ∃ cA : ClassId, ArrOfT s cA (.object C) ∧ va_RA s cA (.object C) := by
  obtain ⟨comp, c, k, h1, h2, h3, h4, h5⟩ := Cond.arrayOver_spec h
  exact ⟨c, fun N z => ⟨(fun k h => by cases h), k, h3, comp, h4⟩, k, comp, h3, h4, h1, h5⟩
theorem bs_AA {s : State} {args : Array Value} (h : (Cond.arrayOver (.array .int)).before args s = true) : am_AA s := by
  simp only [Cond.before, Cond.holds, Cond.value, beq_iff_eq] at h
  cases hc : s.vm.findClass (FieldType.array .int).toString with
  | none => simp [hc] at h
  | some comp =>
    simp only [hc, Option.bind_some, Option.bind_eq_some_iff, Option.map_eq_some_iff] at h
    obtain ⟨c, hi, k, hk, hb⟩ := h
    obtain ⟨hlt, hp, -⟩ := Array.findIdx?_eq_some_iff_getElem.mp hi
    have hkk : s.vm.classes[c] = k := (Array.getElem?_eq_some_iff.mp hk).2
    rw [hkk] at hp
    cases hkind : k.kind with
    | array component ty =>
      rw [hkind] at hb hp
      simp at hb hp
      exact ⟨comp, c, k, hc, hk, by rw [hkind, hp, hb.1], hb.2⟩
    | _ => rw [hkind] at hb; simp at hb
abbrev bs_tm (i : Nat) : Term := .string RX8 (am_six i)
theorem bs_ex : ∀ i, i < 6 → Cond.exactly (bs_tm i) "java/lang/String" ∈ flatC narrow_1 := by decide +kernel
theorem bs_co : ∀ i, i < 6 → Cond.eq (.field (bs_tm i) "java/lang/String" "coder" "B") (.int 0) ∈ flatC narrow_1 := by decide +kernel
theorem bs_ar : ∀ i, i < 6 → Cond.arrayOf (.field (bs_tm i) "java/lang/String" "value" "[B") .byte ∈ flatC narrow_1 := by decide +kernel
theorem bs_le : ∀ i, i < 6 → Cond.eq (.length (.field (bs_tm i) "java/lang/String" "value" "[B")) (.int (Int32.ofNat (am_slen.getD i 0))) ∈ flatC narrow_1 := by decide +kernel
theorem bs_el : ∀ i, i < 6 → ∀ j, j < am_slen.getD i 0 → Cond.eq (.elem (.field (bs_tm i) "java/lang/String" "value" "[B") (.int (Int32.ofNat j))) (.int ((am_sbyt.getD i []).getD j 0)) ∈ flatC narrow_1 := by decide +kernel
theorem bs_ne : ∀ i, i < 6 → ∀ j, j < 6 → i ≠ j → (Cond.not (.eq (bs_tm i) (bs_tm j)) ∈ flatC narrow_1 ∨ Cond.not (.eq (bs_tm j) (bs_tm i)) ∈ flatC narrow_1) := by decide +kernel
theorem bs_sr : ∀ i, i < 6 → Cond.stringRef RX8 (am_six i) (am_stx i) ∈ tables_1 := by decide +kernel
theorem bs_sl : ∀ i, i < 6 → am_slen.getD i 0 < 2 ^ 31 := by decide +kernel
abbrev bs_ty : List FieldType := [.int, .long, .object RX7, .object RX9, .object RX5, .object RX4, .array .int]
theorem bs_K {s : State} {b : Nat} (hts : ∀ w ∈ lw_tbl, w.before #[Value.ref b] s = true) : ∃ g : Nat → ClassId × (Nat → Nat), ∀ (c : Nat) (r : vw_C), am_cl[c]? = some r → u_Kn s r.1 r.2.1 r.2.2 (g c).1 (g c).2 := by
  have h0 : ∀ c : Nat, ∃ q : ClassId × (Nat → Nat), ∀ r : vw_C, am_cl[c]? = some r → u_Kn s r.1 r.2.1 r.2.2 q.1 q.2 := by
    intro c
    match c with
    | 0 =>
      obtain ⟨cC, iS, h⟩ := u_known (args := #[Value.ref b]) hts (fun w hw => am_tg_lw (am_u0 w hw)) (bs_t hts 329 (w := .instantiable RX0 6) (by decide +kernel))
      exact ⟨(cC, iS), fun r hr => by cases hr; exact h⟩
    | 1 =>
      obtain ⟨cC, iS, h⟩ := u_known (args := #[Value.ref b]) hts (fun w hw => am_tg_lw (am_u1 w hw)) (bs_t hts 43 (w := .instantiable RX1 14) (by decide +kernel))
      exact ⟨(cC, iS), fun r hr => by cases hr; exact h⟩
    | 2 =>
      obtain ⟨cC, iS, h⟩ := u_known (args := #[Value.ref b]) hts (fun w hw => am_tg_lw (am_u2 w hw)) (bs_t hts 359 (w := .instantiable RX2 2) (by decide +kernel))
      exact ⟨(cC, iS), fun r hr => by cases hr; exact h⟩
    | 3 =>
      obtain ⟨cC, iS, h⟩ := u_known (args := #[Value.ref b]) hts (fun w hw => am_tg_lw (am_u3 w hw)) (bs_t hts 286 (w := .instantiable RX3 8) (by decide +kernel))
      exact ⟨(cC, iS), fun r hr => by cases hr; exact h⟩
    | 4 =>
      obtain ⟨cC, iS, h⟩ := u_known (args := #[Value.ref b]) hts (fun w hw => am_tg_lw (am_u4 w hw)) (bs_t hts 213 (w := .instantiable RX4 10) (by decide +kernel))
      exact ⟨(cC, iS), fun r hr => by cases hr; exact h⟩
    | 5 =>
      obtain ⟨cC, iS, h⟩ := u_known (args := #[Value.ref b]) hts (fun w hw => am_tg_lw (am_u5 w hw)) (bs_t hts 54 (w := .instantiable RX5 3) (by decide +kernel))
      exact ⟨(cC, iS), fun r hr => by cases hr; exact h⟩
    | 6 =>
      obtain ⟨cC, iS, h⟩ := u_known (args := #[Value.ref b]) hts (fun w hw => am_tg_lw (am_u6 w hw)) (bs_t hts 77 (w := .instantiable RX6 6) (by decide +kernel))
      exact ⟨(cC, iS), fun r hr => by cases hr; exact h⟩
    | 7 =>
      obtain ⟨cC, iS, h⟩ := u_known (args := #[Value.ref b]) hts (fun w hw => am_tg_lw (am_u7 w hw)) (bs_t hts 103 (w := .instantiable RX7 2) (by decide +kernel))
      exact ⟨(cC, iS), fun r hr => by cases hr; exact h⟩
    | 8 =>
      obtain ⟨cC, iS, h⟩ := u_known (args := #[Value.ref b]) hts (fun w hw => am_tg_lw (am_u8 w hw)) (bs_t hts 252 (w := .instantiable RX8 8) (by decide +kernel))
      exact ⟨(cC, iS), fun r hr => by cases hr; exact h⟩
    | 9 =>
      obtain ⟨cC, iS, h⟩ := u_known (args := #[Value.ref b]) hts (fun w hw => am_tg_lw (am_u9 w hw)) (bs_t hts 123 (w := .instantiable RX9 3) (by decide +kernel))
      exact ⟨(cC, iS), fun r hr => by cases hr; exact h⟩
    | 10 =>
      obtain ⟨cC, iS, h⟩ := u_known (args := #[Value.ref b]) hts (fun w hw => am_tg_lw (am_u10 w hw)) (bs_t hts 373 (w := .instantiable RX10 3) (by decide +kernel))
      exact ⟨(cC, iS), fun r hr => by cases hr; exact h⟩
    | 11 =>
      obtain ⟨cC, iS, h⟩ := u_known (args := #[Value.ref b]) hts (fun w hw => am_tg_lw (am_u11 w hw)) (bs_t hts 35 (w := .instantiable RX11 14) (by decide +kernel))
      exact ⟨(cC, iS), fun r hr => by cases hr; exact h⟩
    | 12 =>
      obtain ⟨cC, iS, h⟩ := u_known (args := #[Value.ref b]) hts (fun w hw => am_tg_lw (am_u12 w hw)) (bs_t hts 1800 (w := .instantiable RX12 57) (by decide +kernel))
      exact ⟨(cC, iS), fun r hr => by cases hr; exact h⟩
    | k + 13 =>
      obtain ⟨cC, iS, h⟩ := u_known (args := #[Value.ref b]) hts (fun w hw => am_tg_lw (am_u0 w hw)) (bs_t hts 329 (w := .instantiable RX0 6) (by decide +kernel))
      exact ⟨(cC, iS), fun r hr => by simp at hr⟩
  exact Classical.axiomOfChoice h0
theorem bs_R {s : State} {b : Nat} (hts : ∀ w ∈ lw_tbl, w.before #[Value.ref b] s = true) : ∃ g : Nat → ClassId, ∀ (k : Nat) (ty : FieldType), bs_ty[k]? = some ty → ArrOfT s (g k) ty ∧ va_RA s (g k) ty := by
  have h0 : ∀ k : Nat, ∃ cA : ClassId, ∀ ty : FieldType, bs_ty[k]? = some ty → ArrOfT s cA ty ∧ va_RA s cA ty := by
    intro k
    match k with
    | 0 =>
      obtain ⟨c, h1, h2⟩ := bs_arrP (t := .int) (bs_t hts 75 (by decide +kernel))
      exact ⟨c, fun ty h => by cases h; exact ⟨h1, h2⟩⟩
    | 1 =>
      obtain ⟨c, h1, h2⟩ := bs_arrP (t := .long) (bs_t hts 390 (by decide +kernel))
      exact ⟨c, fun ty h => by cases h; exact ⟨h1, h2⟩⟩
    | 2 =>
      obtain ⟨c, h1, h2⟩ := bs_arrO (C := RX7) (bs_t hts 49 (by decide +kernel))
      exact ⟨c, fun ty h => by cases h; exact ⟨h1, h2⟩⟩
    | 3 =>
      obtain ⟨c, h1, h2⟩ := bs_arrO (C := RX9) (bs_t hts 51 (by decide +kernel))
      exact ⟨c, fun ty h => by cases h; exact ⟨h1, h2⟩⟩
    | 4 =>
      obtain ⟨c, h1, h2⟩ := bs_arrO (C := RX5) (bs_t hts 53 (by decide +kernel))
      exact ⟨c, fun ty h => by cases h; exact ⟨h1, h2⟩⟩
    | 5 =>
      obtain ⟨c, h1, h2⟩ := bs_arrO (C := RX4) (bs_t hts 212 (by decide +kernel))
      exact ⟨c, fun ty h => by cases h; exact ⟨h1, h2⟩⟩
    | 6 =>
      obtain ⟨comp, c, k, h1, h2, h3, h4⟩ := bs_AA (bs_t hts 1806 (w := .arrayOver (.array .int)) (by decide +kernel))
      exact ⟨c, fun ty h => by cases h; exact ⟨fun N z => ⟨(fun k h => by cases h), k, h2, comp, h3⟩, h4⟩⟩
    | k + 7 =>
      obtain ⟨c, h1, h2⟩ := bs_arrP (t := .int) (bs_t hts 75 (by decide +kernel))
      exact ⟨c, fun ty h => by simp at h⟩
  exact Classical.axiomOfChoice h0
theorem bs_cong {N : Nat} {len : List Nat} {byt : List (List Int32)} {a1 v1 a2 v2 : Nat → Nat} {A : Nat → Prop} {U : State} {H : Heap} (h : vk_S N len byt a1 v1 A U H) (ha : ∀ i, i < N → a2 i = a1 i) (hv : ∀ i, i < N → v2 i = v1 i) : vk_S N len byt a2 v2 A U H := by
  refine ⟨fun i hi => ?_, fun i j hi hj e => ?_⟩
  · rw [ha i hi, hv i hi]
    exact h.1 i hi
  · rw [ha i hi, ha j hj] at e
    exact h.2 i j hi hj e
def bs_f (b : Nat) (adK adV : Nat → Nat) (af : Nat) (n : Nat) : Nat := if n = 0 then b else if n = 15 then af else if n < 8 then adK (n - 1) else adV (n - 8)
theorem bs_fK {b : Nat} {adK adV : Nat → Nat} {af i : Nat} (hi : i < 6) : bs_f b adK adV af (1 + i) = adK i := by
  unfold bs_f
  rw [if_neg (by omega), if_neg (by omega), if_pos (by omega), Nat.add_sub_cancel_left]
theorem bs_fV {b : Nat} {adK adV : Nat → Nat} {af i : Nat} (hi : i < 6) : bs_f b adK adV af (8 + i) = adV i := by
  unfold bs_f
  rw [if_neg (by omega), if_neg (by omega), if_neg (by omega), Nat.add_sub_cancel_left]
theorem bs_EH {l : Launch} {s : State} {b L : Nat} {xs : Nat → Int32} (hflags : l.flags = flags0) (hts : ∀ w ∈ lw_tbl, w.before #[Value.ref b] s = true) (hX : va_X b L xs s s.heap) (hbl : b < s.heap.size) (hgv : (Jvm.Cond.and given_1 narrow_1).before #[Value.ref b] s = true) :
    ∃ (dG : va_G) (cA : Nat → ClassId) (f : Nat → Nat), f 0 = b ∧ am_EH (l, dG, cA, f, s, (b, L, xs)) ∧ am_AO (l, dG, cA, f, s, (b, L, xs)) := by
  have hA : ∀ a : Nat, a < s.heap.size → ¬ (fun q : Nat => s.heap.size ≤ q) a := fun a h => Nat.not_le.mpr h
  have hn : ∀ w ∈ flatC narrow_1, w.before #[Value.ref b] s = true := fun w hw => flat_of_before _ hgv w (List.mem_append_right _ hw)
  obtain ⟨g, hg⟩ := bs_K hts
  obtain ⟨cA, hcA⟩ := bs_R hts
  obtain ⟨adK, adV, hS, hev⟩ := vk_Sof (N := 6) (tm := bs_tm) (len := am_slen) (byt := am_sbyt) (A := fun q : Nat => s.heap.size ≤ q) bs_sl (fun i hi => hn _ (bs_ex i hi)) (fun i hi => hn _ (bs_co i hi)) (fun i hi => hn _ (bs_ar i hi)) (fun i hi => hn _ (bs_le i hi)) (fun i hi j hj => hn _ (bs_el i hi j hj))
    (fun i j hi hj hij => (bs_ne i hi j hj hij).imp (fun h => hn _ h) (fun h => hn _ h)) hA
  have hC : va_Z "java/lang/String" "COMPACT_STRINGS" "Z" (.int 1) (fun q : Nat => s.heap.size ≤ q) s s.heap := va_Zof (args := #[Value.ref b]) (bs_t hts 620 (by decide +kernel)) (bs_t hts 22 (by decide +kernel)) (va_eqt (hn _ (by decide +kernel))) hA
  have hP0 : va_Zq "jdk/internal/util/Preconditions" "SIOOBE_FORMATTER" "Ljava/util/function/BiFunction;" (fun q : Nat => s.heap.size ≤ q) s s.heap := va_Zqof (args := #[Value.ref b]) (bs_t hts 701 (by decide +kernel)) (bs_t hts 26 (by decide +kernel)) (hn _ (by decide +kernel)) hA
  obtain ⟨af, hP⟩ : ∃ af : Nat, va_Z "jdk/internal/util/Preconditions" "SIOOBE_FORMATTER" "Ljava/util/function/BiFunction;" .null (fun q : Nat => s.heap.size ≤ q) s s.heap ∨ va_Z "jdk/internal/util/Preconditions" "SIOOBE_FORMATTER" "Ljava/util/function/BiFunction;" (.ref af) (fun q : Nat => s.heap.size ≤ q) s s.heap := by
    rcases hP0 with h | ⟨t, h⟩
    · exact ⟨0, Or.inl h⟩
    · exact ⟨t, Or.inr h⟩
  have hU : vx_Zq Bundle.tN "UNASSIGNED_STACK" Bundle.steD (fun q : Nat => s.heap.size ≤ q) s s.heap := vx_Zqof (args := #[Value.ref b]) (bs_t hts 594 (by decide +kernel)) (bs_t hts 15 (by decide +kernel)) (hn _ (by decide +kernel)) hA
  have hN : vx_Zq Bundle.tN "SUPPRESSED_SENTINEL" Bundle.listD (fun q : Nat => s.heap.size ≤ q) s s.heap := vx_Zqof (args := #[Value.ref b]) (bs_t hts 596 (by decide +kernel)) (bs_t hts 15 (by decide +kernel)) (hn _ (by decide +kernel)) hA
  have hst : l.stackTraces = false := by
    unfold Launch.stackTraces
    rw [hflags]
    decide
  refine ⟨(fun c => (g c).1, fun c => (g c).2), cA, bs_f b adK adV af, rfl, ⟨⟨hg, ?_⟩, hst, ⟨hU, hN⟩, fun w hw ho => va_Nw.of ho (hts w (List.mem_append_right _ hw)), fun a c h => va_Nc.of (hn _ h), ⟨?_, fun i hi => ?_⟩, ⟨hC, hP⟩, hX, hbl, rfl⟩, ?_, ?_⟩
  · intro k q hk
    match k, hk with
    | 0, hk => cases hk; exact hcA 0 _ rfl
    | 1, hk => cases hk; exact hcA 1 _ rfl
    | 2, hk => cases hk; exact hcA 2 _ rfl
    | 3, hk => cases hk; exact hcA 3 _ rfl
    | 4, hk => cases hk; exact hcA 4 _ rfl
    | 5, hk => cases hk; exact hcA 5 _ rfl
    | 6, hk => cases hk; exact hcA 6 _ rfl
    | k + 7, hk => simp at hk
  · exact bs_cong hS (fun i hi => bs_fK hi) (fun i hi => bs_fV hi)
  · have h1 : (bs_tm i).eval #[Value.ref b] s none [] s = some (.ref (bs_f b adK adV af (1 + i))) := by
      rw [bs_fK hi]
      exact hev i hi
    exact vk_R.of (hts _ (List.mem_append_right _ (bs_sr i hi))) h1
  · intro C hC9
    rcases List.mem_cons.mp hC9 with rfl | hC9
    · exact va_AO.of (A := #[Value.ref b]) (bs_t hts 49 (by decide +kernel))
    rcases List.mem_cons.mp hC9 with rfl | hC9
    · exact va_AO.of (A := #[Value.ref b]) (bs_t hts 51 (by decide +kernel))
    rcases List.mem_cons.mp hC9 with rfl | hC9
    · exact va_AO.of (A := #[Value.ref b]) (bs_t hts 53 (by decide +kernel))
    rcases List.mem_cons.mp hC9 with rfl | hC9
    · exact va_AO.of (A := #[Value.ref b]) (bs_t hts 212 (by decide +kernel))
    · cases hC9
  · exact bs_AA (bs_t hts 1806 (w := .arrayOver (.array .int)) (by decide +kernel))
