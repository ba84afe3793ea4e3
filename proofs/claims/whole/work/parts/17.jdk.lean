/-! what the JDK gives: Math, arraycopy, texts -/
theorem wm_1 : Cond.static Lib.Math.max.name ∈ am_tg := am_tg_in (List.mem_append_right _ (List.mem_of_getElem? (i := 109) (by decide +kernel))) (by decide +kernel)
theorem wm_2 : Cond.code Lib.Math.max.name Lib.Math.max.code 2 (some .int) ∈ am_tg := am_tg_in (List.mem_append_right _ (List.mem_of_getElem? (i := 110) (by decide +kernel))) (by decide +kernel)
theorem wm_3 : Cond.static Lib.Math.min.name ∈ am_tg := am_tg_in (List.mem_append_right _ (List.mem_of_getElem? (i := 478) (by decide +kernel))) (by decide +kernel)
theorem wm_4 : Cond.code Lib.Math.min.name Lib.Math.min.code 2 (some .int) ∈ am_tg := am_tg_in (List.mem_append_right _ (List.mem_of_getElem? (i := 479) (by decide +kernel))) (by decide +kernel)
theorem wm_5 : Cond.static Lib.Math.abs.name ∈ am_tg := am_tg_in (List.mem_append_right _ (List.mem_of_getElem? (i := 508) (by decide +kernel))) (by decide +kernel)
theorem wm_6 : Cond.code Lib.Math.abs.name Lib.Math.abs.code 1 (some .int) ∈ am_tg := am_tg_in (List.mem_append_right _ (List.mem_of_getElem? (i := 509) (by decide +kernel))) (by decide +kernel)
theorem wm_7 : Cond.static Lib.MathLoose.min_long.x ∈ am_tg := am_tg_in (List.mem_append_right _ (List.mem_of_getElem? (i := 1340) (by decide +kernel))) (by decide +kernel)
theorem wm_8 : Cond.code Lib.MathLoose.min_long.x Lib.MathLoose.min_long.code 4 (some .long) ∈ am_tg := am_tg_in (List.mem_append_right _ (List.mem_of_getElem? (i := 1341) (by decide +kernel))) (by decide +kernel)
theorem wm_9 : Cond.initialized "java/lang/Math" ∈ am_tg := am_tg_in (List.mem_append_right _ (List.mem_of_getElem? (i := 6) (by decide +kernel))) (by decide +kernel)
theorem wm_a : Cond.native arraycopyName ∈ am_tg := am_tg_in (List.mem_append_right _ (List.mem_of_getElem? (i := 487) (by decide +kernel))) (by decide +kernel)
theorem wm_b : Cond.static arraycopyName ∈ am_tg := am_tg_in (List.mem_append_right _ (List.mem_of_getElem? (i := 486) (by decide +kernel))) (by decide +kernel)
theorem wm_c : Cond.initialized "java/lang/System" ∈ am_tg := am_tg_in (List.mem_append_right _ (List.mem_of_getElem? (i := 25) (by decide +kernel))) (by decide +kernel)
def am_mx (x y : Int32) : Int32 := if x < y then y else x
def am_mn (x y : Int32) : Int32 := if y < x then y else x
def am_ab (x : Int32) : Int32 := if 0 ≤ x then x else 0 - x
def am_mnL (x y : Int64) : Int64 := if y < x then y else x
def am_nv (r : Option Nat) : Value := match r with
  | some a => .ref a
  | none => .null
/-- the words: still, tone, blow, hiss, hum, mark -/
def am_wtx : List (List Nat) := [[115, 116, 105, 108, 108], [116, 111, 110, 101], [98, 108, 111, 119], [104, 105, 115, 115], [104, 117, 109], [109, 97, 114, 107]]
def am_wl (w : Nat) : Int32 := Int32.ofNat (am_wtx.getD (w - 1) []).length
def am_wc (w : Nat) (k : Int32) : Option Int32 := if am_in k (am_wtx.getD (w - 1) []).length = true then some (Int32.ofNat ((am_wtx.getD (w - 1) []).getD k.toNatClampNeg 0)) else none
def am_wix (w : Nat) : Nat := [0, 89, 91, 93, 95, 97, 65].getD w 0
def am_yLen : MethodName := ⟨"java/lang/String", "length", "()I"⟩
def am_yChr : MethodName := ⟨"java/lang/String", "charAt", "(I)C"⟩
def am_row (f : Nat → Nat → Int32) (a : Nat) (r : Nat → Int32) : Nat → Nat → Int32 := fun x => if x = a then r else f x
def am_cp (D : am_D) (a0 n0 : Nat) (sp : Int32) (a1 n1 : Nat) (dp n : Int32) : Option am_D :=
  if ¬ sp < 0 ∧ ¬ dp < 0 ∧ ¬ n < 0 ∧ sp.toNatClampNeg + n.toNatClampNeg ≤ n0 ∧ dp.toNatClampNeg + n.toNatClampNeg ≤ n1 then some (am_row D.1 a1 (va_cpy (D.1 a0) (D.1 a1) sp.toNatClampNeg dp.toNatClampNeg n.toNatClampNeg), D.2) else none
section AMJ
variable {E : am_E} {M : am_M} {d mc ms : Nat} {o : am_O} {G' : am_G} {D' : am_D} {cu su pc : Nat} {lv : List (Nat × Value)} {st : List Value} {G : am_G} {D : am_D}
theorem am_mmax2 {idx : Nat} {x y : Int32} (hd : decode M.2.1 pc = .ok (.invokestatic idx, 3)) (hl9 : Cond.methodLink M.1.cls idx Lib.Math.max.name ∈ am_tg) (hst : (st.map fun v => v.category).sum ≤ 8) (hc : cu ≤ mc) (hs : su ≤ ms) (k : am_S E M d mc ms o G' D' cu su (pc + 3) lv (.int (am_mx x y) :: st) G D) : am_S E M d mc ms o G' D' cu su pc lv (.int y :: .int x :: st) G D :=
  am_mmax hd hl9 wm_1 wm_9 wm_2 (by omega) hc hs k
theorem am_mmin2 {idx : Nat} {x y : Int32} (hd : decode M.2.1 pc = .ok (.invokestatic idx, 3)) (hl9 : Cond.methodLink M.1.cls idx Lib.Math.min.name ∈ am_tg) (hst : (st.map fun v => v.category).sum ≤ 8) (hc : cu ≤ mc) (hs : su ≤ ms) (k : am_S E M d mc ms o G' D' cu su (pc + 3) lv (.int (am_mn x y) :: st) G D) : am_S E M d mc ms o G' D' cu su pc lv (.int y :: .int x :: st) G D :=
  am_mmin hd hl9 wm_3 wm_9 wm_4 (by omega) hc hs k
theorem am_mabs2 {idx : Nat} {x : Int32} (hd : decode M.2.1 pc = .ok (.invokestatic idx, 3)) (hl9 : Cond.methodLink M.1.cls idx Lib.Math.abs.name ∈ am_tg) (hst : (st.map fun v => v.category).sum ≤ 8) (hc : cu ≤ mc) (hs : su ≤ ms) (k : am_S E M d mc ms o G' D' cu su (pc + 3) lv (.int (am_ab x) :: st) G D) : am_S E M d mc ms o G' D' cu su pc lv (.int x :: st) G D :=
  am_mabs hd hl9 wm_5 wm_9 wm_6 (by omega) hc hs k
theorem am_mminL2 {idx : Nat} {x y : Int64} (hd : decode M.2.1 pc = .ok (.invokestatic idx, 3)) (hl9 : Cond.methodLink M.1.cls idx Lib.MathLoose.min_long.x ∈ am_tg) (hst : (st.map fun v => v.category).sum ≤ 8) (hc : cu ≤ mc) (hs : su ≤ ms) (k : am_S E M d mc ms o G' D' cu su (pc + 3) lv (.long (am_mnL x y) :: st) G D) : am_S E M d mc ms o G' D' cu su pc lv (.long y :: .long x :: st) G D :=
  am_mminL hd hl9 wm_7 wm_9 wm_8 (by omega) hc hs k
theorem am_copy (hE : am_EH E) {idx a0 a1 n0 n1 : Nat} {sp dp n : Int32} {D2 : am_D} (hd : decode M.2.1 pc = .ok (.invokestatic idx, 3)) (hl9 : Cond.methodLink M.1.cls idx arraycopyName ∈ am_tg) (h0 : am_sh G a0 = some (20, n0)) (h1 : am_sh G a1 = some (20, n1)) (hg : am_cp D a0 n0 sp a1 n1 dp n = some D2) (hst : (st.map fun v => v.category).sum ≤ 8)
    (k : am_S E M d mc ms o G' D' cu su (pc + 3) lv st G D2) : am_S E M d mc ms o G' D' cu su pc lv (.int n :: .int dp :: .ref a1 :: .int sp :: .ref a0 :: st) G D := sorry
theorem am_ldcs (hE : am_EH E) (w : Nat) {idx : Nat} (hd : decode M.2.1 pc = .ok (.ldc idx, 2)) (hi : 1 ≤ w ∧ w ≤ 6 ∧ am_wix w = idx) (hM : M.1.cls = RX8)
    (k : am_S E M d mc ms o G' D' cu su (pc + 2) lv (.ref w :: st) G D) : am_S E M d mc ms o G' D' cu su pc lv st G D := sorry
theorem am_strlen (hE : am_EH E) {w idx : Nat} (hd : decode M.2.1 pc = .ok (.invokevirtual idx, 3)) (hl9 : Cond.methodLink M.1.cls idx am_yLen ∈ am_tg) (hw : 1 ≤ w ∧ w ≤ 6) (h6 : 6 ≤ d) (hst : (st.map fun v => v.category).sum ≤ 8) (hc : cu ≤ mc) (hs : su ≤ ms)
    (k : am_S E M d mc ms o G' D' cu su (pc + 3) lv (.int (am_wl w) :: st) G D) : am_S E M d mc ms o G' D' cu su pc lv (.ref w :: st) G D := sorry
theorem am_charAt (hE : am_EH E) {w idx : Nat} {i v : Int32} (hd : decode M.2.1 pc = .ok (.invokevirtual idx, 3)) (hl9 : Cond.methodLink M.1.cls idx am_yChr ∈ am_tg) (hw : 1 ≤ w ∧ w ≤ 6) (hg : am_wc w i = some v) (h6 : 6 ≤ d) (hst : (st.map fun v => v.category).sum ≤ 8) (hc : cu ≤ mc) (hs : su ≤ ms)
    (k : am_S E M d mc ms o G' D' cu su (pc + 3) lv (.int v :: st) G D) : am_S E M d mc ms o G' D' cu su pc lv (.int i :: .ref w :: st) G D := sorry
end AMJ
