/-! what the JDK gives: Math, arraycopy, texts -/
theorem wm_1 : Cond.static Lib.Math.max.name ∈ am_tg := am_tg_in (List.mem_append_right _ (List.mem_of_getElem? (i := 109) (by decide +kernel))) (by decide +kernel)
theorem wm_2 : Cond.code Lib.Math.max.name Lib.Math.max.code 2 (some .int) ∈ am_tg := am_tg_in (List.mem_append_right _ (List.mem_of_getElem? (i := 110) (by decide +kernel))) (by decide +kernel)
theorem wm_3 : Cond.static Lib.Math.min.name ∈ am_tg := am_tg_in (List.mem_append_right _ (List.mem_of_getElem? (i := 478) (by decide +kernel))) (by decide +kernel)
theorem wm_4 : Cond.code Lib.Math.min.name Lib.Math.min.code 2 (some .int) ∈ am_tg := am_tg_in (List.mem_append_right _ (List.mem_of_getElem? (i := 479) (by decide +kernel))) (by decide +kernel)
theorem wm_5 : Cond.static Lib.Math.abs.name ∈ am_tg := am_tg_in (List.mem_append_right _ (List.mem_of_getElem? (i := 508) (by decide +kernel))) (by decide +kernel)
theorem wm_6 : Cond.code Lib.Math.abs.name Lib.Math.abs.code 1 (some .int) ∈ am_tg := am_tg_in (List.mem_append_right _ (List.mem_of_getElem? (i := 509) (by decide +kernel))) (by decide +kernel)
theorem wm_7 : Cond.static Lib.MathLoose.min_long.x ∈ am_tg := am_tg_in (List.mem_append_right _ (List.mem_of_getElem? (i := 1340) (by decide +kernel))) (by decide +kernel)
theorem wm_8 : Cond.code Lib.MathLoose.min_long.x Lib.MathLoose.min_long.code 4 (some .long) ∈ am_tg := am_tg_in (List.mem_append_right _ (List.mem_of_getElem? (i := 1341) (by decide +kernel))) (by decide +kernel)
theorem wm_9 : Cond.initialized "java/lang/Math" ∈ am_tg := am_tg_in (List.mem_append_right _ (List.mem_of_getElem? (i := 6) (by decide +kernel))) (by decide +kernel)
theorem wm_a : Cond.native arraycopyName ∈ am_tg := am_tg_in (List.mem_append_right _ (List.mem_of_getElem? (i := 487) (by decide +kernel))) (by decide +kernel)
theorem wm_b : Cond.static arraycopyName ∈ am_tg := am_tg_in (List.mem_append_right _ (List.mem_of_getElem? (i := 486) (by decide +kernel))) (by decide +kernel)
theorem wm_c : Cond.initialized "java/lang/System" ∈ am_tg := am_tg_in (List.mem_append_right _ (List.mem_of_getElem? (i := 25) (by decide +kernel))) (by decide +kernel)
def am_mx (x y : Int32) : Int32 := if x < y then y else x
def am_mn (x y : Int32) : Int32 := if y < x then y else x
def am_ab (x : Int32) : Int32 := if 0 ≤ x then x else 0 - x
def am_mnL (x y : Int64) : Int64 := if y < x then y else x
def am_nv (r : Option Nat) : Value := match r with
  | some a => .ref a
  | none => .null
/-- the words: still, tone, blow, hiss, hum, mark -/
def am_wtx : List (List Nat) := [[115, 116, 105, 108, 108], [116, 111, 110, 101], [98, 108, 111, 119], [104, 105, 115, 115], [104, 117, 109], [109, 97, 114, 107]]
def am_wl (w : Nat) : Int32 := Int32.ofNat (am_wtx.getD (w - 1) []).length
def am_wc (w : Nat) (k : Int32) : Option Int32 := if am_in k (am_wtx.getD (w - 1) []).length = true then some (Int32.ofNat ((am_wtx.getD (w - 1) []).getD k.toNatClampNeg 0)) else none
def am_wix (w : Nat) : Nat := [0, 89, 91, 93, 95, 97, 65].getD w 0
def am_yLen : MethodName := ⟨"java/lang/String", "length", "()I"⟩
def am_yChr : MethodName := ⟨"java/lang/String", "charAt", "(I)C"⟩
def am_row (f : Nat → Nat → Int32) (a : Nat) (r : Nat → Int32) : Nat → Nat → Int32 := fun x => if x = a then r else f x
def am_cp (D : am_D) (a0 n0 : Nat) (sp : Int32) (a1 n1 : Nat) (dp n : Int32) : Option am_D :=
  if ¬ sp < 0 ∧ ¬ dp < 0 ∧ ¬ n < 0 ∧ sp.toNatClampNeg + n.toNatClampNeg ≤ n0 ∧ dp.toNatClampNeg + n.toNatClampNeg ≤ n1 then some (am_row D.1 a1 (va_cpy (D.1 a0) (D.1 a1) sp.toNatClampNeg dp.toNatClampNeg n.toNatClampNeg), D.2) else none
section AMJ
variable {E : am_E} {M : am_M} {d mc ms : Nat} {o : am_O} {G' : am_G} {D' : am_D} {cu su pc : Nat} {lv : List (Nat × Value)} {st : List Value} {G : am_G} {D : am_D}
theorem am_mmax2 {idx : Nat} {x y : Int32} (hd : decode M.2.1 pc = .ok (.invokestatic idx, 3)) (hl9 : Cond.methodLink M.1.cls idx Lib.Math.max.name ∈ am_tg) (hst : (st.map fun v => v.category).sum ≤ 8) (hc : cu ≤ mc) (hs : su ≤ ms) (k : am_S E M d mc ms o G' D' cu su (pc + 3) lv (.int (am_mx x y) :: st) G D) : am_S E M d mc ms o G' D' cu su pc lv (.int y :: .int x :: st) G D :=
  am_mmax hd hl9 wm_1 wm_9 wm_2 (by omega) hc hs k
theorem am_mmin2 {idx : Nat} {x y : Int32} (hd : decode M.2.1 pc = .ok (.invokestatic idx, 3)) (hl9 : Cond.methodLink M.1.cls idx Lib.Math.min.name ∈ am_tg) (hst : (st.map fun v => v.category).sum ≤ 8) (hc : cu ≤ mc) (hs : su ≤ ms) (k : am_S E M d mc ms o G' D' cu su (pc + 3) lv (.int (am_mn x y) :: st) G D) : am_S E M d mc ms o G' D' cu su pc lv (.int y :: .int x :: st) G D :=
  am_mmin hd hl9 wm_3 wm_9 wm_4 (by omega) hc hs k
theorem am_mabs2 {idx : Nat} {x : Int32} (hd : decode M.2.1 pc = .ok (.invokestatic idx, 3)) (hl9 : Cond.methodLink M.1.cls idx Lib.Math.abs.name ∈ am_tg) (hst : (st.map fun v => v.category).sum ≤ 8) (hc : cu ≤ mc) (hs : su ≤ ms) (k : am_S E M d mc ms o G' D' cu su (pc + 3) lv (.int (am_ab x) :: st) G D) : am_S E M d mc ms o G' D' cu su pc lv (.int x :: st) G D :=
  am_mabs hd hl9 wm_5 wm_9 wm_6 (by omega) hc hs k
theorem am_mminL2 {idx : Nat} {x y : Int64} (hd : decode M.2.1 pc = .ok (.invokestatic idx, 3)) (hl9 : Cond.methodLink M.1.cls idx Lib.MathLoose.min_long.x ∈ am_tg) (hst : (st.map fun v => v.category).sum ≤ 8) (hc : cu ≤ mc) (hs : su ≤ ms) (k : am_S E M d mc ms o G' D' cu su (pc + 3) lv (.long (am_mnL x y) :: st) G D) : am_S E M d mc ms o G' D' cu su pc lv (.long y :: .long x :: st) G D :=
  am_mminL hd hl9 wm_7 wm_9 wm_8 (by omega) hc hs k
theorem am_copy (hE : am_EH E) {idx a0 a1 n0 n1 : Nat} {sp dp n : Int32} {D2 : am_D} (hd : decode M.2.1 pc = .ok (.invokestatic idx, 3)) (hl9 : Cond.methodLink M.1.cls idx arraycopyName ∈ am_tg) (h0 : am_sh G a0 = some (20, n0)) (h1 : am_sh G a1 = some (20, n1)) (hg : am_cp D a0 n0 sp a1 n1 dp n = some D2) (hst : (st.map fun v => v.category).sum ≤ 8)
    (k : am_S E M d mc ms o G' D' cu su (pc + 3) lv st G D2) : am_S E M d mc ms o G' D' cu su pc lv (.int n :: .int dp :: .ref a1 :: .int sp :: .ref a0 :: st) G D := by
  unfold am_cp at hg
  by_cases hc : ¬ sp < 0 ∧ ¬ dp < 0 ∧ ¬ n < 0 ∧ sp.toNatClampNeg + n.toNatClampNeg ≤ n0 ∧ dp.toNatClampNeg + n.toNatClampNeg ≤ n1
  · rw [if_pos hc] at hg
    have hD2 := Option.some.inj hg
    subst hD2
    obtain ⟨g1, g2, g3, g4, g5⟩ := hc
    have nn : ∀ z : Int32, ¬ z < 0 → z.toInt = (z.toNatClampNeg : Int) := by
      intro z hz
      have hz0 : (0 : Int) ≤ z.toInt := by
        have := Int32.not_lt.mp hz
        simpa using Int32.le_iff_toInt_le.mp this
      show z.toInt = ((z.toInt.toNat : Nat) : Int)
      omega
    intro p e s m args below meth cd H locs ls F hS hl hW
    have hts := F.2.2.2.2.2.1
    have hP0 := hW.one h0
    have hP1 := hW.one h1
    rw [am_cell_arr (by decide)] at hP0 hP1
    have hK := hE.K F.2.2.2.2.2.2.2.2.2.1
    have hc0 : H[am_ph E a0]? = some (vp_cell (E.2.2.1 0) (n0, .inl (D.1 a0))) := hP0 0 _ rfl
    have hc1 : H[am_ph E a1]? = some (vp_cell (E.2.2.1 0) (n1, .inl (D.1 a1))) := hP1 0 _ rfl
    intro T hT X
    obtain ⟨-, k0, hk0, cm0, hkk0⟩ := (hK.2 0 _ rfl).1 n0 (fun j => .int (D.1 a0 j))
    obtain ⟨-, k1, hk1, cm1, hkk1⟩ := (hK.2 0 _ rfl).1 n1 (fun j => .int (D.1 a1 j))
    obtain ⟨vm', X', step⟩ := X.arraycopy F.1 F.2.2.2.2.1 (hts _ hl9) (hts _ wm_a) (hts _ wm_b) (hts _ wm_c) (src := am_ph E a0) (dst := am_ph E a1) (cs := vp_cell (E.2.2.1 0) (n0, .inl (D.1 a0))) (cd := vp_cell (E.2.2.1 0) (n1, .inl (D.1 a1))) (srcPos := sp) (destPos := dp) (n := n) (by rw [hT]; exact hc0) (by rw [hT]; exact hc1)
      (fun _ h => by cases h) (fun _ h => by cases h) (fun h => by cases h) (fun h => by cases h) hk0 hk1 hkk0 hkk1 (by simp [refKind]) g1 g2 g3
      (by rw [nn sp g1, nn n g3]; show ¬ _ > ((arrV (E.2.2.1 0) n0 (fun j => .int (D.1 a0 j))).slots.size : Int); rw [arrV_size]; omega)
      (by rw [nn dp g2, nn n g3]; show ¬ _ > ((arrV (E.2.2.1 0) n1 (fun j => .int (D.1 a1 j))).slots.size : Int); rw [arrV_size]; omega)
      (fun vm1 _ i hi => by
        have e : (vp_cell (E.2.2.1 0) (n0, .inl (D.1 a0))).slots.getD (sp.toNatClampNeg + i) .null = .int (D.1 a0 (sp.toNatClampNeg + i)) := by
          show (arrV (E.2.2.1 0) n0 (fun j => .int (D.1 a0 j))).slots.getD _ _ = _
          rw [Array.getD_eq_getD_getElem?, arrV_read _ _ (by omega)]
          rfl
        refine ⟨?_, ?_⟩
        · rw [e]
          rfl
        · rw [e]
          exact trivial)
      (g := F0 m pc ls (.int n :: .int dp :: .ref (am_ph E a1) :: .int sp :: .ref (am_ph E a0) :: st.map (am_cv E))) rfl (by rw [F.2.2.1]; exact hl.1) (rest := st.map (am_cv E)) rfl (by rw [F.2.1]; exact hd) (by show 1 ≤ 16 + d; omega) (by
        show 2 * 0 + ((st.map (am_cv E)).map fun v => v.category).sum + _ ≤ 500 + 40 * d
        rw [am_cats]
        have e9 : nativeFrameWords "java/lang/System" "arraycopy" 5 ≤ 400 := by decide +kernel
        omega)
    have e1 : copied (vp_cell (E.2.2.1 0) (n0, .inl (D.1 a0))) (vp_cell (E.2.2.1 0) (n1, .inl (D.1 a1))) sp dp n = vp_cell (E.2.2.1 0) (n1, .inl (va_cpy (D.1 a0) (D.1 a1) sp.toNatClampNeg dp.toNatClampNeg n.toNatClampNeg)) := va_copied (fun z => .int z) _ _ _ _ g4
    rw [e1] at X' step
    have hl1 : am_ph E a1 < H.size := (Array.getElem?_eq_some_iff.mp hc1).1
    have hheap : ((T.setVm vm').setCell (am_ph E a1) (vp_cell (E.2.2.1 0) (n1, .inl (va_cpy (D.1 a0) (D.1 a1) sp.toNatClampNeg dp.toNatClampNeg n.toNatClampNeg)))).heap = H.setIfInBounds (am_ph E a1) (vp_cell (E.2.2.1 0) (n1, .inl (va_cpy (D.1 a0) (D.1 a1) sp.toNatClampNeg dp.toNatClampNeg n.toNatClampNeg))) := by rw [← hT]; rfl
    have oq : ∀ q : Nat, q ≠ am_ph E a1 → (H.setIfInBounds (am_ph E a1) (vp_cell (E.2.2.1 0) (n1, .inl (va_cpy (D.1 a0) (D.1 a1) sp.toNatClampNeg dp.toNatClampNeg n.toNatClampNeg))))[q]? = H[q]? := fun q hq => by simp [Array.getElem?_setIfInBounds, Ne.symm hq]
    have hA : am_A E (am_ph E a1) := by rw [am_ph_ge E (am_sh_ge h1)]; exact Nat.le_add_right _ _
    have hW2 : am_WH E G (am_row D.1 a1 (va_cpy (D.1 a0) (D.1 a1) sp.toNatClampNeg dp.toNatClampNeg n.toNatClampNeg), D.2) (H.setIfInBounds (am_ph E a1) (vp_cell (E.2.2.1 0) (n1, .inl (va_cpy (D.1 a0) (D.1 a1) sp.toNatClampNeg dp.toNatClampNeg n.toNatClampNeg)))) := by
      refine am_WH_set hW h1 rfl (fun y sh' hy => ?_) ?_ (by simp) oq
      · unfold am_cell am_fields am_field am_arr am_row
        simp only [if_neg hy]
      · rw [am_cell_arr (by decide)]
        show (H.setIfInBounds (am_ph E a1) _)[am_ph E a1]? = some (vp_cell _ (n1, .inl (am_row D.1 a1 _ a1)))
        unfold am_row
        rw [if_pos rfl]
        simp [Array.getElem?_setIfInBounds, hl1]
    obtain ⟨t, b0, b1⟩ := k p e s m args below meth cd _ _ ls F ⟨by simp; exact hS.1, fun q q1 q2 => by
        rw [oq q (fun e => q2 (by rw [e]; exact hA))]
        exact hS.2.1 q q1 q2, fun q hq => by
        rcases List.mem_append.mp hq with h | h
        · exact hS.2.2 q h
        · obtain ⟨z, -, hz⟩ := List.mem_map.mp h
          rw [← hz]
          exact hA⟩ hl hW2 _ hheap X'
    exact ⟨t, step t b0, b1⟩
  · rw [if_neg hc] at hg
    cases hg
end AMJ
def am_mlen : am_M := (yJ0_length_8abf5, cJ0_length_8abf5, 1, some .int, [])
theorem wj_hlen : Cond.code yJ0_length_8abf5 cJ0_length_8abf5 1 (some .int) ∈ am_tg := am_tg_in (List.mem_append_right _ (List.mem_append_right _ (List.mem_append_right _ (List.mem_append_left _ (List.mem_of_getElem? (i := 237) (by decide +kernel)))))) (by decide +kernel)
theorem wj_ilen : Cond.initialized am_mlen.1.cls ∈ am_tg := am_tg_in (List.mem_append_right _ (List.mem_append_left _ (List.mem_of_getElem? (i := 22) (by decide +kernel)))) (by decide +kernel)
theorem am_klen : am_okM am_mlen 0 := ⟨wj_hlen, wj_ilen, by decide +kernel, by decide +kernel, by decide⟩
theorem am_dlen : am_all am_mlen.2.1 ttJ0_length_8abf5 = true := tkJ0_length_8abf5
theorem wj_slen : Cond.instanceMethod am_mlen.1 ∈ am_tg := am_tg_in (List.mem_append_right _ (List.mem_append_right _ (List.mem_append_right _ (List.mem_append_left _ (List.mem_of_getElem? (i := 235) (by decide +kernel)))))) (by decide +kernel)
theorem wj_elen : Cond.selects am_mlen.1.cls am_mlen.1 am_mlen.1 ∈ am_tg := am_tg_in (List.mem_append_right _ (List.mem_append_right _ (List.mem_append_right _ (List.mem_append_left _ (List.mem_of_getElem? (i := 236) (by decide +kernel)))))) (by decide +kernel)
def am_mcod : am_M := (yJ0_coder_7d493, cJ0_coder_7d493, 1, some .byte, [])
theorem wj_hcod : Cond.code yJ0_coder_7d493 cJ0_coder_7d493 1 (some .byte) ∈ am_tg := am_tg_in (List.mem_append_right _ (List.mem_append_right _ (List.mem_append_right _ (List.mem_append_right _ (List.mem_append_left _ (List.mem_of_getElem? (i := 1) (by decide +kernel))))))) (by decide +kernel)
theorem wj_icod : Cond.initialized am_mcod.1.cls ∈ am_tg := am_tg_in (List.mem_append_right _ (List.mem_append_left _ (List.mem_of_getElem? (i := 22) (by decide +kernel)))) (by decide +kernel)
theorem am_kcod : am_okM am_mcod 0 := ⟨wj_hcod, wj_icod, by decide +kernel, by decide +kernel, by decide⟩
theorem am_dcod : am_all am_mcod.2.1 ttJ0_coder_7d493 = true := tkJ0_coder_7d493
theorem wj_scod : Cond.instanceMethod am_mcod.1 ∈ am_tg := am_tg_in (List.mem_append_right _ (List.mem_append_right _ (List.mem_append_right _ (List.mem_append_left _ (List.mem_of_getElem? (i := 239) (by decide +kernel)))))) (by decide +kernel)
theorem wj_ecod : Cond.selects am_mcod.1.cls am_mcod.1 am_mcod.1 ∈ am_tg := am_tg_in (List.mem_append_right _ (List.mem_append_right _ (List.mem_append_right _ (List.mem_append_right _ (List.mem_append_left _ (List.mem_of_getElem? (i := 0) (by decide +kernel))))))) (by decide +kernel)
def am_mchr : am_M := (yJ0_charAt_5068e, cJ0_charAt_5068e, 2, some .char, [])
theorem wj_hchr : Cond.code yJ0_charAt_5068e cJ0_charAt_5068e 2 (some .char) ∈ am_tg := am_tg_in (List.mem_append_right _ (List.mem_append_right _ (List.mem_append_right _ (List.mem_append_right _ (List.mem_append_right _ (List.mem_append_left _ (List.mem_of_getElem? (i := 6) (by decide +kernel)))))))) (by decide +kernel)
theorem wj_ichr : Cond.initialized am_mchr.1.cls ∈ am_tg := am_tg_in (List.mem_append_right _ (List.mem_append_left _ (List.mem_of_getElem? (i := 22) (by decide +kernel)))) (by decide +kernel)
theorem am_kchr : am_okM am_mchr 1 := ⟨wj_hchr, wj_ichr, by decide +kernel, by decide +kernel, by decide⟩
theorem am_dchr : am_all am_mchr.2.1 ttJ0_charAt_5068e = true := tkJ0_charAt_5068e
theorem wj_schr : Cond.instanceMethod am_mchr.1 ∈ am_tg := am_tg_in (List.mem_append_right _ (List.mem_append_right _ (List.mem_append_right _ (List.mem_append_right _ (List.mem_append_right _ (List.mem_append_left _ (List.mem_of_getElem? (i := 4) (by decide +kernel)))))))) (by decide +kernel)
theorem wj_echr : Cond.selects am_mchr.1.cls am_mchr.1 am_mchr.1 ∈ am_tg := am_tg_in (List.mem_append_right _ (List.mem_append_right _ (List.mem_append_right _ (List.mem_append_right _ (List.mem_append_right _ (List.mem_append_left _ (List.mem_of_getElem? (i := 5) (by decide +kernel)))))))) (by decide +kernel)
def am_mlat : am_M := (yJ0_isLatin1_aae02, cJ0_isLatin1_aae02, 1, some .boolean, [])
theorem wj_hlat : Cond.code yJ0_isLatin1_aae02 cJ0_isLatin1_aae02 1 (some .boolean) ∈ am_tg := am_tg_in (List.mem_append_right _ (List.mem_append_right _ (List.mem_append_right _ (List.mem_append_right _ (List.mem_append_right _ (List.mem_append_left _ (List.mem_of_getElem? (i := 10) (by decide +kernel)))))))) (by decide +kernel)
theorem wj_ilat : Cond.initialized am_mlat.1.cls ∈ am_tg := am_tg_in (List.mem_append_right _ (List.mem_append_left _ (List.mem_of_getElem? (i := 22) (by decide +kernel)))) (by decide +kernel)
theorem am_klat : am_okM am_mlat 0 := ⟨wj_hlat, wj_ilat, by decide +kernel, by decide +kernel, by decide⟩
theorem am_dlat : am_all am_mlat.2.1 ttJ0_isLatin1_aae02 = true := tkJ0_isLatin1_aae02
theorem wj_slat : Cond.instanceMethod am_mlat.1 ∈ am_tg := am_tg_in (List.mem_append_right _ (List.mem_append_right _ (List.mem_append_right _ (List.mem_append_right _ (List.mem_append_right _ (List.mem_append_left _ (List.mem_of_getElem? (i := 8) (by decide +kernel)))))))) (by decide +kernel)
theorem wj_elat : Cond.selects am_mlat.1.cls am_mlat.1 am_mlat.1 ∈ am_tg := am_tg_in (List.mem_append_right _ (List.mem_append_right _ (List.mem_append_right _ (List.mem_append_right _ (List.mem_append_right _ (List.mem_append_left _ (List.mem_of_getElem? (i := 9) (by decide +kernel)))))))) (by decide +kernel)
def am_ml1c : am_M := (yJ1_charAt_3b067, cJ1_charAt_3b067, 2, some .char, [])
theorem wj_hl1c : Cond.code yJ1_charAt_3b067 cJ1_charAt_3b067 2 (some .char) ∈ am_tg := am_tg_in (List.mem_append_right _ (List.mem_append_right _ (List.mem_append_right _ (List.mem_append_right _ (List.mem_append_right _ (List.mem_append_left _ (List.mem_of_getElem? (i := 13) (by decide +kernel)))))))) (by decide +kernel)
theorem wj_il1c : Cond.initialized am_ml1c.1.cls ∈ am_tg := am_tg_in (List.mem_append_right _ (List.mem_append_left _ (List.mem_of_getElem? (i := 27) (by decide +kernel)))) (by decide +kernel)
theorem am_kl1c : am_okM am_ml1c 2 := ⟨wj_hl1c, wj_il1c, by decide +kernel, by decide +kernel, by decide⟩
theorem am_dl1c : am_all am_ml1c.2.1 ttJ1_charAt_3b067 = true := tkJ1_charAt_3b067
theorem wj_sl1c : Cond.static am_ml1c.1 ∈ am_tg := am_tg_in (List.mem_append_right _ (List.mem_append_right _ (List.mem_append_right _ (List.mem_append_right _ (List.mem_append_right _ (List.mem_append_left _ (List.mem_of_getElem? (i := 12) (by decide +kernel)))))))) (by decide +kernel)
def am_mci : am_M := (yJ0_checkIndex_df160, cJ0_checkIndex_df160, 2, none, [])
theorem wj_hci : Cond.code yJ0_checkIndex_df160 cJ0_checkIndex_df160 2 (none) ∈ am_tg := am_tg_in (List.mem_append_right _ (List.mem_append_right _ (List.mem_append_right _ (List.mem_append_right _ (List.mem_append_right _ (List.mem_append_left _ (List.mem_of_getElem? (i := 16) (by decide +kernel)))))))) (by decide +kernel)
theorem wj_ici : Cond.initialized am_mci.1.cls ∈ am_tg := am_tg_in (List.mem_append_right _ (List.mem_append_left _ (List.mem_of_getElem? (i := 22) (by decide +kernel)))) (by decide +kernel)
theorem am_kci : am_okM am_mci 2 := ⟨wj_hci, wj_ici, by decide +kernel, by decide +kernel, by decide⟩
theorem am_dci : am_all am_mci.2.1 ttJ0_checkIndex_df160 = true := tkJ0_checkIndex_df160
theorem wj_sci : Cond.static am_mci.1 ∈ am_tg := am_tg_in (List.mem_append_right _ (List.mem_append_right _ (List.mem_append_right _ (List.mem_append_right _ (List.mem_append_right _ (List.mem_append_left _ (List.mem_of_getElem? (i := 15) (by decide +kernel)))))))) (by decide +kernel)
def am_mpci : am_M := (yJ3_checkIndex_8e157, cJ3_checkIndex_8e157, 3, some .int, [])
theorem wj_hpci : Cond.code yJ3_checkIndex_8e157 cJ3_checkIndex_8e157 3 (some .int) ∈ am_tg := am_tg_in (List.mem_append_right _ (List.mem_append_right _ (List.mem_append_right _ (List.mem_append_right _ (List.mem_append_right _ (List.mem_append_left _ (List.mem_of_getElem? (i := 19) (by decide +kernel)))))))) (by decide +kernel)
theorem wj_ipci : Cond.initialized am_mpci.1.cls ∈ am_tg := am_tg_in (List.mem_append_right _ (List.mem_append_left _ (List.mem_of_getElem? (i := 26) (by decide +kernel)))) (by decide +kernel)
theorem am_kpci : am_okM am_mpci 3 := ⟨wj_hpci, wj_ipci, by decide +kernel, by decide +kernel, by decide⟩
theorem am_dpci : am_all am_mpci.2.1 ttJ3_checkIndex_8e157 = true := tkJ3_checkIndex_8e157
theorem wj_spci : Cond.static am_mpci.1 ∈ am_tg := am_tg_in (List.mem_append_right _ (List.mem_append_right _ (List.mem_append_right _ (List.mem_append_right _ (List.mem_append_right _ (List.mem_append_left _ (List.mem_of_getElem? (i := 18) (by decide +kernel)))))))) (by decide +kernel)
theorem wj_fv : Cond.fieldLink "java/lang/String" 9 "java/lang/String" "value" "[B" ∈ am_tg := am_tg_in (List.mem_append_right _ (List.mem_append_right _ (List.mem_append_right _ (List.mem_append_right _ (List.mem_append_left _ (List.mem_of_getElem? (i := 139) (by decide +kernel))))))) (by decide +kernel)
theorem wj_fc : Cond.fieldLink "java/lang/String" 15 "java/lang/String" "coder" "B" ∈ am_tg := am_tg_in (List.mem_append_right _ (List.mem_append_right _ (List.mem_append_right _ (List.mem_append_right _ (List.mem_append_left _ (List.mem_of_getElem? (i := 140) (by decide +kernel))))))) (by decide +kernel)
theorem wj_fs : Cond.fieldLink "java/lang/String" 38 "java/lang/String" "COMPACT_STRINGS" "Z" ∈ am_tg := am_tg_in (List.mem_append_right _ (List.mem_append_right _ (List.mem_append_right _ (List.mem_append_right _ (List.mem_append_left _ (List.mem_of_getElem? (i := 2) (by decide +kernel))))))) (by decide +kernel)
theorem wj_fp : Cond.fieldLink "java/lang/String" 1053 "jdk/internal/util/Preconditions" "SIOOBE_FORMATTER" "Ljava/util/function/BiFunction;" ∈ am_tg := am_tg_in (List.mem_append_right _ (List.mem_append_right _ (List.mem_append_right _ (List.mem_append_left _ (List.mem_of_getElem? (i := 220) (by decide +kernel)))))) (by decide +kernel)
theorem wj_1 : Cond.methodLink "java/lang/String" 335 am_mcod.1 ∈ am_tg := am_tg_in (List.mem_append_right _ (List.mem_append_right _ (List.mem_append_right _ (List.mem_append_left _ (List.mem_of_getElem? (i := 238) (by decide +kernel)))))) (by decide +kernel)
theorem wj_2 : Cond.methodLink "java/lang/String" 492 am_mlat.1 ∈ am_tg := am_tg_in (List.mem_append_right _ (List.mem_append_right _ (List.mem_append_right _ (List.mem_append_right _ (List.mem_append_right _ (List.mem_append_left _ (List.mem_of_getElem? (i := 7) (by decide +kernel)))))))) (by decide +kernel)
theorem wj_3 : Cond.methodLink "java/lang/String" 495 am_ml1c.1 ∈ am_tg := am_tg_in (List.mem_append_right _ (List.mem_append_right _ (List.mem_append_right _ (List.mem_append_right _ (List.mem_append_right _ (List.mem_append_left _ (List.mem_of_getElem? (i := 11) (by decide +kernel)))))))) (by decide +kernel)
theorem wj_4 : Cond.methodLink "java/lang/StringLatin1" 9 am_mci.1 ∈ am_tg := am_tg_in (List.mem_append_right _ (List.mem_append_right _ (List.mem_append_right _ (List.mem_append_right _ (List.mem_append_right _ (List.mem_append_left _ (List.mem_of_getElem? (i := 14) (by decide +kernel)))))))) (by decide +kernel)
theorem wj_5 : Cond.methodLink "java/lang/String" 1059 am_mpci.1 ∈ am_tg := am_tg_in (List.mem_append_right _ (List.mem_append_right _ (List.mem_append_right _ (List.mem_append_right _ (List.mem_append_right _ (List.mem_append_left _ (List.mem_of_getElem? (i := 17) (by decide +kernel)))))))) (by decide +kernel)
section AMS
variable {E : am_E} {M : am_M} {d mc ms : Nat} {o : am_O} {G' : am_G} {D' : am_D} {cu su pc : Nat} {lv : List (Nat × Value)} {st : List Value} {G : am_G} {D : am_D}
theorem am_sp {w : Nat} (h : w < 16) : am_ph E w = E.2.2.2.1 w := if_pos h
theorem am_strs (hE : am_EH E) {s : State} (hw : (am_s0 E).WarmedH s.vm) (ho : ∀ q, q < am_bs E → s.heap[q]? = (am_s0 E).heap[q]?) : vk_S 6 am_slen am_sbyt (fun i => E.2.2.2.1 (1 + i)) (fun i => E.2.2.2.1 (8 + i)) (am_A E) s s.heap :=
  (vk_S.moved hw.alike hE.2.2.2.2.2.1.1).kept fun a ha _ => ho a ha
theorem am_i2c {x : Int32} (hd : decode M.2.1 pc = .ok (.i2c, 1)) (k : am_S E M d mc ms o G' D' cu su (pc + 1) lv (.int (x.toUInt32 % 65536).toInt32 :: st) G D) : am_S E M d mc ms o G' D' cu su pc lv (.int x :: st) G D :=
  fun p e s m args below meth c H locs ls F hS hl hW => lv_i2c F.1 F.2.1 hd rfl (k p e s m args below meth c H locs ls F hS hl hW)
theorem am_nret {v : Int32} {ty : FieldType} (hd : decode M.2.1 pc = .ok (.ireturn, 1)) (hr : M.2.2.2.1 = some ty) (hn : narrow ty (.int v) = .int v) (hc : cu ≤ mc) (hs : su ≤ ms) : am_S E M d mc ms (.inl (some (.int v))) G D cu su pc lv [.int v] G D := by
  intro p e s m args below meth cd H locs ls F hS hl hW
  exact W.widen hc hs (vx_ret (W.zret F.1 F.2.1 (F.2.2.2.1.trans hr) hn (am_Qret (some (.int v)) hW hS) hS.2.2 hd F.2.2.2.2.2.2.1))
theorem am_getSc (hE : am_EH E) {i : Nat} (hi : i < 6) (hM : M.1.cls = "java/lang/String") (hd : decode M.2.1 pc = .ok (.getfield 15, 3)) (k : am_S E M d mc ms o G' D' cu su (pc + 3) lv (.int 0 :: st) G D) : am_S E M d mc ms o G' D' cu su pc lv (.ref (1 + i) :: st) G D := by
  intro p e s m args below meth c H locs ls F hS hl hW
  have h := ((am_strs hE F.2.2.2.2.2.2.2.2.2.1 F.2.2.2.2.2.2.2.2.2.2.1).1 i hi).2.1
  have hown := F.2.2.2.2.1
  rw [hM] at hown
  show W p E.1 e _ s m args below meth c H locs cu su _ (F0 m pc ls (.ref (am_ph E (1 + i)) :: st.map (am_cv E)))
  rw [am_sp (by omega)]
  exact vk_getf F.1 F.2.1 h hS hown (F.2.2.2.2.2.1 _ wj_fc) (fun _ h => h) hd (k p e s m args below meth c H locs ls F hS hl hW)
theorem am_getSv (hE : am_EH E) {i : Nat} (hi : i < 6) (hM : M.1.cls = "java/lang/String") (hd : decode M.2.1 pc = .ok (.getfield 9, 3)) (k : am_S E M d mc ms o G' D' cu su (pc + 3) lv (.ref (8 + i) :: st) G D) : am_S E M d mc ms o G' D' cu su pc lv (.ref (1 + i) :: st) G D := by
  intro p e s m args below meth c H locs ls F hS hl hW
  have h := ((am_strs hE F.2.2.2.2.2.2.2.2.2.1 F.2.2.2.2.2.2.2.2.2.2.1).1 i hi).2.2.1
  have hown := F.2.2.2.2.1
  rw [hM] at hown
  have key := k p e s m args below meth c H locs ls F hS hl hW
  have e8 : am_cv E (.ref (8 + i)) = .ref (E.2.2.2.1 (8 + i)) := congrArg Value.ref (am_sp (by omega))
  show W p E.1 e _ s m args below meth c H locs cu su _ (F0 m pc ls (.ref (am_ph E (1 + i)) :: st.map (am_cv E)))
  rw [am_sp (by omega)]
  refine vk_getf F.1 F.2.1 h hS hown (F.2.2.2.2.2.1 _ wj_fv) (fun _ h => h) hd ?_
  rw [← e8]
  exact key
theorem am_lenS (hE : am_EH E) {i : Nat} (hi : i < 6) (hd : decode M.2.1 pc = .ok (.arraylength, 1)) (k : am_S E M d mc ms o G' D' cu su (pc + 1) lv (.int (Int32.ofNat (am_slen.getD i 0)) :: st) G D) : am_S E M d mc ms o G' D' cu su pc lv (.ref (8 + i) :: st) G D := by
  intro p e s m args below meth c H locs ls F hS hl hW
  have h := ((am_strs hE F.2.2.2.2.2.2.2.2.2.1 F.2.2.2.2.2.2.2.2.2.2.1).1 i hi).2.2.2
  show W p E.1 e _ s m args below meth c H locs cu su _ (F0 m pc ls (.ref (am_ph E (8 + i)) :: st.map (am_cv E)))
  rw [am_sp (by omega)]
  exact va_tlen F.1 F.2.1 h hS rfl hd (k p e s m args below meth c H locs ls F hS hl hW)
theorem am_baldS (hE : am_EH E) {i : Nat} {j : Int32} (hi : i < 6) (hin : vp_in j (am_slen.getD i 0)) (hd : decode M.2.1 pc = .ok (.baload, 1)) (k : am_S E M d mc ms o G' D' cu su (pc + 1) lv (.int ((am_sbyt.getD i []).getD j.toNatClampNeg 0) :: st) G D) : am_S E M d mc ms o G' D' cu su pc lv (.int j :: .ref (8 + i) :: st) G D := by
  intro p e s m args below meth c H locs ls F hS hl hW
  have h := ((am_strs hE F.2.2.2.2.2.2.2.2.2.1 F.2.2.2.2.2.2.2.2.2.2.1).1 i hi).2.2.2
  show W p E.1 e _ s m args below meth c H locs cu su _ (F0 m pc ls (.int j :: .ref (am_ph E (8 + i)) :: st.map (am_cv E)))
  rw [am_sp (by omega)]
  exact va_tb F.1 F.2.1 h hS hin rfl hd (k p e s m args below meth c H locs ls F hS hl hW)
theorem am_getsC (hE : am_EH E) (hM : M.1.cls = "java/lang/String") (hd : decode M.2.1 pc = .ok (.getstatic 38, 3)) (k : am_S E M d mc ms o G' D' cu su (pc + 3) lv (.int 1 :: st) G D) : am_S E M d mc ms o G' D' cu su pc lv st G D := by
  intro p e s m args below meth c H locs ls F hS hl hW
  have hown := F.2.2.2.2.1
  rw [hM] at hown
  have h := (va_Z.moved F.2.2.2.2.2.2.2.2.2.1.alike hE.2.2.2.2.2.2.1.1).kept (H1 := s.heap) fun a ha _ => F.2.2.2.2.2.2.2.2.2.2.1 a ha
  exact va_gets F.1 F.2.1 h hS hown (F.2.2.2.2.2.1 _ wj_fs) (fun _ h => h) hd (k p e s m args below meth c H locs ls F hS hl hW)
theorem am_getsF (hE : am_EH E) (hM : M.1.cls = "java/lang/String") (hd : decode M.2.1 pc = .ok (.getstatic 1053, 3)) (k : ∀ v : Value, v.category = 1 → am_S E M d mc ms o G' D' cu su (pc + 3) lv (v :: st) G D) : am_S E M d mc ms o G' D' cu su pc lv st G D := by
  intro p e s m args below meth c H locs ls F hS hl hW
  have hown := F.2.2.2.2.1
  rw [hM] at hown
  rcases hE.2.2.2.2.2.2.1.2 with h0 | h0
  · have h := (va_Z.moved F.2.2.2.2.2.2.2.2.2.1.alike h0).kept (H1 := s.heap) fun a ha _ => F.2.2.2.2.2.2.2.2.2.2.1 a ha
    exact va_gets F.1 F.2.1 h hS hown (F.2.2.2.2.2.1 _ wj_fp) (fun _ h => h) hd (k .null rfl p e s m args below meth c H locs ls F hS hl hW)
  · have h := (va_Z.moved F.2.2.2.2.2.2.2.2.2.1.alike h0).kept (H1 := s.heap) fun a ha _ => F.2.2.2.2.2.2.2.2.2.2.1 a ha
    have key := k (.ref 15) rfl p e s m args below meth c H locs ls F hS hl hW
    have e8 : am_cv E (.ref 15) = .ref (E.2.2.2.1 15) := congrArg Value.ref (am_sp (by omega))
    refine va_gets F.1 F.2.1 h hS hown (F.2.2.2.2.2.1 _ wj_fp) (fun _ h => h) hd ?_
    rw [← e8]
    exact key
/-- a call on one of the texts -/
theorem am_callT (hE : am_EH E) {M2 : am_M} {n d2 mc2 ms2 idx i : Nat} {As : List Value} {w : Value} {G2 : am_G} {D2 : am_D} (hi6 : i < 6) (hcl : M2.1.cls = "java/lang/String") (hd : decode M.2.1 pc = .ok (.invokevirtual idx, 3)) (hM : am_okM M2 n) (hh : M2.2.2.2.2 = []) (hl : Cond.methodLink M.1.cls idx M2.1 ∈ am_tg) (hi : Cond.instanceMethod M2.1 ∈ am_tg)
    (hg : Cond.selects M2.1.cls M2.1 M2.1 ∈ am_tg) (hc : am_C E M2 d2 mc2 ms2 (.ref (1 + i) :: As) G D (.inl (some w)) G2 D2) (hn : As.length = n) (hd2 : d2 < d) (hst : (st.map fun v => v.category).sum ≤ 8) (hcu : cu + mc2 ≤ mc) (hsu : su + ms2 ≤ ms)
    {st0 : List Value} (hst0 : st0 = As.reverse ++ .ref (1 + i) :: st) (k : am_S E M d mc ms o G' D' (cu + mc2) (su + ms2) (pc + 3) lv (w :: st) G2 D2) : am_S E M d mc ms o G' D' cu su pc lv st0 G D := by
  subst hst0
  intro p e s m args below meth cd H locs ls F hS hl9 hW
  have hts := F.2.2.2.2.2.1
  have hrec : ∃ cell : Cell, H[am_ph E (1 + i)]? = some cell ∧ cell.vm.isStatics = false ∧ s.vm.findClass M2.1.cls = some cell.cls := by
    rw [am_sp (by omega), hcl]
    exact vk_recv (adK := fun i => E.2.2.2.1 (1 + i)) (i := i) (am_strs hE F.2.2.2.2.2.2.2.2.2.1 F.2.2.2.2.2.2.2.2.2.2.1) hi6 hS
  refine am_after (M2 := M2) (v := some w) (a := (Value.ref (am_ph E (1 + i)) :: As.map (am_cv E)).toArray) (vx_runV (Ts := am_tg) (C := M2.1.cls) (b := am_ph E (1 + i)) (As := As.map (am_cv E)) (rest := st.map (am_cv E)) ⟨F.1, F.2.1, F.2.2.1, F.2.2.2.2.1, hts⟩ hc ⟨am_callB (mc2 := mc2) (ms2 := ms2) hM hh hts hl hd2, hts _ hi, hts _ hg⟩
    ⟨am_blind, hrec, fun U hU hW9 => ⟨rfl, State.WarmedH.trans F.2.2.2.2.2.2.2.2.2.1 hW9, by rw [hU]; exact hW⟩⟩ rfl (by rw [List.length_map]; exact hn) hl9.1 ?_ ?_ hd ⟨hcu, hsu⟩) rfl F hS hl9 k
  · show (As.reverse ++ .ref (1 + i) :: st).map (am_cv E) = _
    rw [List.map_append, am_rev]
    rfl
  · show 2 * 0 + _ ≤ 8
    rw [am_cats]
    omega
theorem am_c_cod (hE : am_EH E) {i : Nat} (hi : i < 6) : am_C E am_mcod 1 0 0 [.ref (1 + i)] G D (.inl (some (.int 0))) G D := by
  refine am_C_of (by decide +kernel) (Nat.le_of_ble_eq_true rfl) ?_
  change am_S E am_mcod 1 0 0 (.inl (some (.int 0))) G D 0 0 0 [(0, .ref (1 + i))] [] G D
  refine am_getsC hE rfl (am_dec am_dcod 0 rfl) ?_
  refine am_if_eq (tgt := 13) (am_dec am_dcod 1 rfl) (by decide) (fun h => absurd h (by decide)) (fun _ => ?_)
  refine am_aload_n (am_dec am_dcod 2 rfl) rfl rfl ?_
  refine am_getSc hE hi rfl (am_dec am_dcod 3 rfl) ?_
  refine am_goto (tgt := 14) (am_dec am_dcod 4 rfl) (by decide) ?_
  exact am_nret (am_dec am_dcod 6 rfl) rfl rfl (Nat.zero_le _) (Nat.zero_le _)
theorem am_c_lat (hE : am_EH E) {i : Nat} (hi : i < 6) : am_C E am_mlat 1 0 0 [.ref (1 + i)] G D (.inl (some (.int 1))) G D := by
  refine am_C_of (by decide +kernel) (Nat.le_of_ble_eq_true rfl) ?_
  change am_S E am_mlat 1 0 0 (.inl (some (.int 1))) G D 0 0 0 [(0, .ref (1 + i))] [] G D
  refine am_getsC hE rfl (am_dec am_dlat 0 rfl) ?_
  refine am_if_eq (tgt := 17) (am_dec am_dlat 1 rfl) (by decide) (fun h => absurd h (by decide)) (fun _ => ?_)
  refine am_aload_n (am_dec am_dlat 2 rfl) rfl rfl ?_
  refine am_getSc hE hi rfl (am_dec am_dlat 3 rfl) ?_
  refine am_if_ne (tgt := 17) (am_dec am_dlat 4 rfl) (by decide) (fun h => absurd rfl h) (fun _ => ?_)
  refine am_iconst (v := (1 : Int32)) (am_dec am_dlat 5 rfl) (by decide) ?_
  refine am_goto (tgt := 18) (am_dec am_dlat 6 rfl) (by decide) ?_
  exact am_zret (am_dec am_dlat 8 rfl) rfl rfl (Nat.zero_le _) (Nat.zero_le _)
theorem am_c_len (hE : am_EH E) {i : Nat} (hi : i < 6) : am_C E am_mlen 2 0 0 [.ref (1 + i)] G D (.inl (some (.int (am_wl (1 + i))))) G D := by
  refine am_C_of (by decide +kernel) (Nat.le_of_ble_eq_true rfl) ?_
  change am_S E am_mlen 2 0 0 (.inl (some (.int (am_wl (1 + i))))) G D 0 0 0 [(0, .ref (1 + i))] [] G D
  refine am_aload_n (am_dec am_dlen 0 rfl) rfl rfl ?_
  refine am_getSv hE hi rfl (am_dec am_dlen 1 rfl) ?_
  refine am_lenS hE hi (am_dec am_dlen 2 rfl) ?_
  refine am_aload_n (am_dec am_dlen 3 rfl) rfl rfl ?_
  refine am_callT (As := []) (st := [.int (Int32.ofNat (am_slen.getD i 0))]) hE hi rfl (am_dec am_dlen 4 rfl) am_kcod rfl wj_1 wj_scod wj_ecod (am_c_cod hE hi) rfl (by decide) (Nat.le_of_ble_eq_true rfl) (Nat.zero_le _) (Nat.zero_le _) rfl ?_
  refine am_ishr (am_dec am_dlen 5 rfl) ?_
  have e : Int32.ofNat (am_slen.getD i 0) >>> ((0 : Int32) &&& 31) = am_wl (1 + i) := by
    match i, hi with
    | 0, _ => decide
    | 1, _ => decide
    | 2, _ => decide
    | 3, _ => decide
    | 4, _ => decide
    | 5, _ => decide
  rw [e]
  exact am_iret (am_dec am_dlen 6 rfl) rfl (Nat.zero_le _) (Nat.zero_le _)
theorem am_c_pci {j n : Int32} {v : Value} (hv : v.category = 1) (h1 : ¬ j < 0) (h2 : j < n) : am_C E am_mpci 1 0 0 [.int j, .int n, v] G D (.inl (some (.int j))) G D := by
  refine am_C_of (by decide +kernel) ?_ ?_
  · cases v <;> first | exact Nat.le_of_ble_eq_true rfl | (cases hv)
  change am_S E am_mpci 1 0 0 (.inl (some (.int j))) G D 0 0 0 [(0, .int j), (1, .int n), (2, v)] [] G D
  refine am_iload_n (am_dec am_dpci 0 rfl) rfl rfl ?_
  refine am_if_lt (tgt := 9) (am_dec am_dpci 1 rfl) (by decide) (fun h => absurd h h1) (fun _ => ?_)
  refine am_iload_n (am_dec am_dpci 2 rfl) rfl rfl ?_
  refine am_iload_n (am_dec am_dpci 3 rfl) rfl rfl ?_
  refine am_icmp_lt (tgt := 16) (am_dec am_dpci 4 rfl) (by decide) (fun _ => ?_) (fun h => absurd h2 h)
  refine am_iload_n (am_dec am_dpci 10 rfl) rfl rfl ?_
  exact am_iret (am_dec am_dpci 11 rfl) rfl (Nat.zero_le _) (Nat.zero_le _)
theorem am_c_ci (hE : am_EH E) {j n : Int32} (h1 : ¬ j < 0) (h2 : j < n) : am_C E am_mci 2 0 0 [.int j, .int n] G D (.inl none) G D := by
  refine am_C_of (by decide +kernel) (Nat.le_of_ble_eq_true rfl) ?_
  change am_S E am_mci 2 0 0 (.inl none) G D 0 0 0 [(0, .int j), (1, .int n)] [] G D
  refine am_iload_n (am_dec am_dci 0 rfl) rfl rfl ?_
  refine am_iload_n (am_dec am_dci 1 rfl) rfl rfl ?_
  refine am_getsF hE rfl (am_dec am_dci 2 rfl) (fun v hv => ?_)
  refine am_callS1 (As := [.int j, .int n, v]) (st := []) (am_dec am_dci 3 rfl) am_kpci rfl wj_5 wj_spci (am_c_pci hv h1 h2) rfl (by decide) (Nat.le_of_ble_eq_true rfl) (Nat.zero_le _) (Nat.zero_le _) rfl ?_
  refine am_pop (am_dec am_dci 4 rfl) rfl ?_
  exact am_vret (am_dec am_dci 5 rfl) rfl (Nat.zero_le _) (Nat.zero_le _)
def am_ch (i j : Nat) : Int32 := Int32.ofNat ((am_wtx.getD i []).getD j 0)
theorem am_chs : ∀ i, i < 6 → ∀ j, j < am_slen.getD i 0 → (((am_sbyt.getD i []).getD j 0 &&& 255).toUInt32 % 65536).toInt32 = am_ch i j := by decide +kernel
theorem am_chn : ∀ i, i < 6 → ∀ j, j < am_slen.getD i 0 → narrow .char (.int (am_ch i j)) = .int (am_ch i j) := by decide +kernel
theorem am_c_l1c (hE : am_EH E) {i : Nat} {j : Int32} (hi : i < 6) (hj : am_in j (am_slen.getD i 0) = true) : am_C E am_ml1c 3 0 0 [.ref (8 + i), .int j] G D (.inl (some (.int (am_ch i j.toNatClampNeg)))) G D := by
  have hlt := am_in_lt hj
  have hin := am_in_vp hj
  have hl5 : am_slen.getD i 0 < 100 := (by decide : ∀ i, i < 6 → am_slen.getD i 0 < 100) i hi
  have h1 : ¬ j < 0 := fun q => hin (Or.inl q)
  obtain ⟨n, hn, rfl⟩ := vp_in_of hin (by omega)
  have hcl : (nI n).toNatClampNeg = n := nI_clamp (by omega)
  rw [hcl] at hlt ⊢
  refine am_C_of (by decide +kernel) (Nat.le_of_ble_eq_true rfl) ?_
  change am_S E am_ml1c 3 0 0 (.inl (some (.int (am_ch i n)))) G D 0 0 0 [(0, .ref (8 + i)), (1, .int (nI n))] [] G D
  refine am_iload_n (am_dec am_dl1c 0 rfl) rfl rfl ?_
  refine am_aload_n (am_dec am_dl1c 1 rfl) rfl rfl ?_
  refine am_lenS hE hi (am_dec am_dl1c 2 rfl) ?_
  refine am_callS0 (As := [.int (nI n), .int (Int32.ofNat (am_slen.getD i 0))]) (st := []) (am_dec am_dl1c 3 rfl) am_kci rfl wj_4 wj_sci (am_c_ci hE h1 (nI_lt hlt (by omega))) rfl (by decide) (Nat.le_of_ble_eq_true rfl) (Nat.zero_le _) (Nat.zero_le _) rfl ?_
  refine am_aload_n (am_dec am_dl1c 4 rfl) rfl rfl ?_
  refine am_iload_n (am_dec am_dl1c 5 rfl) rfl rfl ?_
  refine am_baldS hE hi hin (am_dec am_dl1c 6 rfl) ?_
  refine am_sipush (v := (255 : Int32)) (am_dec am_dl1c 7 rfl) (by decide) ?_
  refine am_iand (am_dec am_dl1c 8 rfl) ?_
  refine am_i2c (am_dec am_dl1c 9 rfl) ?_
  rw [hcl, am_chs i hi n hlt]
  exact am_nret (am_dec am_dl1c 10 rfl) rfl (am_chn i hi n hlt) (Nat.zero_le _) (Nat.zero_le _)
theorem am_c_chr (hE : am_EH E) {i : Nat} {j : Int32} (hi : i < 6) (hj : am_in j (am_slen.getD i 0) = true) : am_C E am_mchr 4 0 0 [.ref (1 + i), .int j] G D (.inl (some (.int (am_ch i j.toNatClampNeg)))) G D := by
  refine am_C_of (by decide +kernel) (Nat.le_of_ble_eq_true rfl) ?_
  change am_S E am_mchr 4 0 0 (.inl (some (.int (am_ch i j.toNatClampNeg)))) G D 0 0 0 [(0, .ref (1 + i)), (1, .int j)] [] G D
  refine am_aload_n (am_dec am_dchr 0 rfl) rfl rfl ?_
  refine am_callT (As := []) (st := []) hE hi rfl (am_dec am_dchr 1 rfl) am_klat rfl wj_2 wj_slat wj_elat (am_c_lat hE hi) rfl (by decide) (Nat.le_of_ble_eq_true rfl) (Nat.zero_le _) (Nat.zero_le _) rfl ?_
  refine am_if_eq (tgt := 16) (am_dec am_dchr 2 rfl) (by decide) (fun h => absurd h (by decide)) (fun _ => ?_)
  refine am_aload_n (am_dec am_dchr 3 rfl) rfl rfl ?_
  refine am_getSv hE hi rfl (am_dec am_dchr 4 rfl) ?_
  refine am_iload_n (am_dec am_dchr 5 rfl) rfl rfl ?_
  refine am_callS1 (As := [.ref (8 + i), .int j]) (st := []) (am_dec am_dchr 6 rfl) am_kl1c rfl wj_3 wj_sl1c (am_c_l1c hE hi hj) rfl (by decide) (Nat.le_of_ble_eq_true rfl) (Nat.zero_le _) (Nat.zero_le _) rfl ?_
  exact am_nret (am_dec am_dchr 7 rfl) rfl (am_chn i hi _ (am_in_lt hj)) (Nat.zero_le _) (Nat.zero_le _)
theorem am_ldcs (hE : am_EH E) (w : Nat) {idx : Nat} (hd : decode M.2.1 pc = .ok (.ldc idx, 2)) (hi : 1 ≤ w ∧ w ≤ 6 ∧ am_wix w = idx) (hM : M.1.cls = RX8)
    (k : am_S E M d mc ms o G' D' cu su (pc + 2) lv (.ref w :: st) G D) : am_S E M d mc ms o G' D' cu su pc lv st G D := by
  obtain ⟨h1, h6, hix⟩ := hi
  obtain ⟨i, rfl⟩ : ∃ i, w = 1 + i := ⟨w - 1, by omega⟩
  have hi6 : i < 6 := by omega
  have e9 : am_six i = idx := by
    rw [← hix]
    exact (by decide : ∀ i, i < 6 → am_six i = am_wix (1 + i)) i hi6
  intro p e s m args below meth c H locs ls F hS hl hW
  have hr := (hE.2.2.2.2.2.1.2 i hi6).warm F.2.2.2.2.2.2.2.2.2.1
  rw [e9] at hr
  have hown := F.2.2.2.2.1
  rw [hM] at hown
  have key := k p e s m args below meth c H locs ls F hS hl hW
  have e8 : am_cv E (.ref (1 + i)) = .ref (E.2.2.2.1 (1 + i)) := congrArg Value.ref (am_sp (by omega))
  refine va_ldcS F.1 F.2.1 hown hr hd ?_
  rw [← e8]
  exact key
theorem am_strlen (hE : am_EH E) {w idx : Nat} (hd : decode M.2.1 pc = .ok (.invokevirtual idx, 3)) (hl9 : Cond.methodLink M.1.cls idx am_yLen ∈ am_tg) (hw : 1 ≤ w ∧ w ≤ 6) (h6 : 6 ≤ d) (hst : (st.map fun v => v.category).sum ≤ 8) (hc : cu ≤ mc) (hs : su ≤ ms)
    (k : am_S E M d mc ms o G' D' cu su (pc + 3) lv (.int (am_wl w) :: st) G D) : am_S E M d mc ms o G' D' cu su pc lv (.ref w :: st) G D := by
  obtain ⟨i, rfl⟩ : ∃ i, w = 1 + i := ⟨w - 1, by omega⟩
  have hi6 : i < 6 := by omega
  exact am_callT (As := []) (st := st) hE hi6 rfl hd am_klen rfl hl9 wj_slen wj_elen (am_c_len hE hi6) rfl (by omega) hst hc hs rfl k
theorem am_charAt (hE : am_EH E) {w idx : Nat} {i v : Int32} (hd : decode M.2.1 pc = .ok (.invokevirtual idx, 3)) (hl9 : Cond.methodLink M.1.cls idx am_yChr ∈ am_tg) (hw : 1 ≤ w ∧ w ≤ 6) (hg : am_wc w i = some v) (h6 : 6 ≤ d) (hst : (st.map fun v => v.category).sum ≤ 8) (hc : cu ≤ mc) (hs : su ≤ ms)
    (k : am_S E M d mc ms o G' D' cu su (pc + 3) lv (.int v :: st) G D) : am_S E M d mc ms o G' D' cu su pc lv (.int i :: .ref w :: st) G D := by
  obtain ⟨q, rfl⟩ : ∃ q, w = 1 + q := ⟨w - 1, by omega⟩
  have hq6 : q < 6 := by omega
  have e1 : (am_wtx.getD (1 + q - 1) []).length = am_slen.getD q 0 := (by decide : ∀ q, q < 6 → (am_wtx.getD (1 + q - 1) []).length = am_slen.getD q 0) q hq6
  unfold am_wc at hg
  rw [e1] at hg
  by_cases h : am_in i (am_slen.getD q 0) = true
  · rw [if_pos h] at hg
    have hv := Option.some.inj hg
    have e2 : v = am_ch q i.toNatClampNeg := by
      rw [← hv]
      unfold am_ch
      rw [show 1 + q - 1 = q by omega]
    rw [e2] at k
    exact am_callT (As := [.int i]) (st := st) hE hq6 rfl hd am_kchr rfl hl9 wj_schr wj_echr (am_c_chr hE hq6 h) rfl (by omega) hst hc hs rfl k
  · rw [if_neg h] at hg
    cases hg
end AMS
