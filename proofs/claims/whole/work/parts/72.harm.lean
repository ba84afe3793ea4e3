/-! harm, on both sides -/
theorem k_or_mv {D E D2 E2 : am_D} {r0 L c q st : Nat} {out : Int → Int32} (h : k_or D E r0 L c out q st) (hD : ∀ y, r0 ≤ y → y < r0 + 10 → D2.1 y = D.1 y) (h38 : E2.1 117 38 = E.1 117 38) (h39 : E2.1 117 39 = E.1 117 39) (h222 : E2.1 222 = E.1 222) (hs : ∀ k, k < q → E2.1 (225 + k) = E.1 (225 + k)) : k_or D2 E2 r0 L c out q st := by
  obtain ⟨o1, o2, o3, o4, o5, o6, o7, o8, o9, o10, o11, o12, o13⟩ := h
  exact ⟨o1, j_row_fr o2 (hD _ (by omega) (by omega)) (hD _ (by omega) (by omega)), by rw [h38]; exact o3, k_arr_by o4 h222, o5, by rw [hD r0 (by omega) (by omega)]; exact o6, by rw [h39]; exact o7, by rw [hD r0 (by omega) (by omega)]; exact o8, o9, o10, o11, o12, fun k hk => by rw [hs k hk, hD (r0 + 8) (by omega) (by omega), hD (r0 + 9) (by omega) (by omega)]; exact o13 k hk⟩
theorem k_seamR {D E : am_D} {r0 L c q st : Nat} {out : Int → Int32} (h : k_or D E r0 L c out q st) (k : Nat) (hk : k < q) : (k + 1) * st < L := by
  obtain ⟨o1, o2, o3, o4, o5, o6, o7, o8, o9, o10, o11, o12, o13⟩ := h
  have h1 : (k + 1) * st ≤ q * st := Nat.mul_le_mul_right st hk
  rcases o11 with z | z
  · omega
  · omega
/-- all unlike together -/
theorem k_h0 {D E : am_D} {r0 L c q st : Nat} {out : Int → Int32} (h : k_or D E r0 L c out q st) : ∃ v, f_X3_unlikeTogether r0 0 1200 D = some v ∧ f_X12_harmOf_L30 E am_fu 0 0 = some v := by
  have hsm := k_seamR h
  obtain ⟨⟨o1, o1c⟩, o2, o3, o4, o5, o6, o7, o8, o9, o10, o11, o12, o13⟩ := h
  have e0 : (0 : Int32).toInt = 0 := rfl
  have e600 : (600 : Int32).toInt = 600 := rfl
  have e1199 : ((1200 : Int32) - 1).toInt = 1199 := by decide
  have key := k_ind (P := fun fu k => ∀ v, ∃ w, f_X3_unlikeTogether_L5 r0 0 1200 D fu v (Int32.ofNat k) = some w ∧ f_X12_harmOf_L30 E fu v (Int32.ofNat k) = some w) q
    (by
      intro fu k hk ih v
      have hb := hsm k hk
      have hc : f_X3_unlikeTogether_L5 r0 0 1200 D (fu + 1) v (Int32.ofNat k) = f_X3_unlikeTogether_L5 r0 0 1200 D fu (v + D.1 (r0 + 9) k) (Int32.ofNat (k + 1)) := by
        rw [f_X3_unlikeTogether_L5, o6, if_neg (by rw [j_le, j_nat (by omega), j_nat (by omega)]; omega), if_neg (by rw [j_le, j_nat (by omega), e600]; omega), o8, j_suc, ← Int32.ofNat_mul, k_cwithin, e0, e1199, j_nat (by omega), if_pos (by omega), Option.bind_some, if_neg k_10, k_g (by omega) (by omega), Option.bind_some, Option.bind_some]
      have hr : f_X12_harmOf_L30 E (fu + 1) v (Int32.ofNat k) = f_X12_harmOf_L30 E fu (v + D.1 (r0 + 9) k) (Int32.ofNat (k + 1)) := by
        have g : am_gI E (225 + k) 3 2 = some (E.1 (225 + k) 2) := k_g (k := 2) (by omega) (by omega)
        rw [f_X12_harmOf_L30, o7, if_neg (by rw [j_le, j_nat (by omega), j_nat (by omega)]; omega), k_a (by omega) (by omega), Option.bind_some, g, (o13 k hk).2.2, Option.bind_some, j_suc]
      rw [hc, hr]
      exact ih _) (by
      intro fu v
      rw [f_X3_unlikeTogether_L5, f_X12_harmOf_L30, o6, o7, if_pos (Int32.le_refl _), if_pos (Int32.le_refl _)]
      exact ⟨v, rfl, rfl⟩) am_fu 0 (by omega) (by unfold am_fu; omega) 0
  obtain ⟨w, k1, k2⟩ := key
  have k1 : f_X3_unlikeTogether_L5 r0 0 1200 D am_fu 0 (0 : Int32) = some w := k1
  refine ⟨w, ?_, k2⟩
  unfold f_X3_unlikeTogether
  rw [k1, Option.bind_some]
/-- how many of so many places are half as loud as that -/
def k_hl (f : Int → Int32) (n a : Nat) (loud : Int32) : Nat → Int32
  | 0 => 0
  | k + 1 => if a + k < n ∧ ¬ (2 : Int32) * am_ab (f (a + k : Nat)) < loud then k_hl f n a loud k + 1 else k_hl f n a loud k
theorem k_hl_end {f : Int → Int32} {n a : Nat} {loud : Int32} {k : Nat} (h : n ≤ a + k) : ∀ j : Nat, k_hl f n a loud (k + j) = k_hl f n a loud k
  | 0 => rfl
  | j + 1 => by
    show (if a + (k + j) < n ∧ _ then _ else k_hl f n a loud (k + j)) = _
    rw [if_neg (fun z => absurd z.1 (by omega))]
    exact k_hl_end h j
theorem k_half {D : am_D} {r n a w : Nat} {f : Int → Int32} (h : j_row D r n f) (loud : Int32) (ha : a ≤ 1200) (hw : w ≤ 100) : f_X3_halfLoud r (Int32.ofNat a) (Int32.ofNat w) loud D = some (k_hl f n a loud w) := by
  have hn := h.1
  have hn2 := h.2.1
  have key := k_ind (P := fun fu k => f_X3_halfLoud_L6 r (Int32.ofNat a) (Int32.ofNat w) loud D fu (k_hl f n a loud k) (Int32.ofNat (a + k)) = some (k_hl f n a loud w)) w
    (by
      intro fu k hk ih
      rw [f_X3_halfLoud_L6, ← Int32.ofNat_add, if_neg (by rw [j_le, j_nat (by omega), j_nat (by omega)]; omega), h.2.2.1]
      by_cases c : n ≤ a + k
      · rw [if_pos (by rw [j_le, j_nat (by omega), j_nat (by omega)]; omega)]
        have e : w = k + (w - k) := by omega
        rw [e, k_hl_end c]
      · rw [if_neg (by rw [j_le, j_nat (by omega), j_nat (by omega)]; omega), j_row_loud h, j_nat (by omega), Option.bind_some]
        have e2 : k_hl f n a loud (k + 1) = if a + k < n ∧ ¬ (2 : Int32) * am_ab (f (a + k : Nat)) < loud then k_hl f n a loud k + 1 else k_hl f n a loud k := rfl
        rw [e2] at ih
        have e3 : a + (k + 1) = (a + k) + 1 := by omega
        rw [e3] at ih
        by_cases c2 : (2 : Int32) * am_ab (f (a + k : Nat)) < loud
        · rw [if_neg (fun z => z.2 c2)] at ih
          rw [if_pos c2, Option.bind_some, j_suc]
          exact ih
        · rw [if_pos ⟨(by omega), c2⟩] at ih
          rw [if_neg c2, Option.bind_some, j_suc]
          exact ih) (by
      intro fu
      rw [f_X3_halfLoud_L6, ← Int32.ofNat_add, if_pos (Int32.le_refl _)]) am_fu 0 (by omega) (by unfold am_fu; omega)
  unfold f_X3_halfLoud
  have key : f_X3_halfLoud_L6 r (Int32.ofNat a) (Int32.ofNat w) loud D am_fu 0 (Int32.ofNat a) = _ := key
  rw [key, Option.bind_some]
/-- the smear of one blow in the reference -/
theorem k_smear1 {E : am_D} {n L wd x w : Nat} {g out : Int → Int32} (q1 q2 q3 loud : Int32) (hg : k_arr E 221 n g) (ho : k_arr E 222 L out) (hn : n ≤ 1200) (hL : L ≤ 1200) (e19 : E.1 117 19 = Int32.ofNat wd) (e36 : E.1 117 36 = Int32.ofNat n) (e38 : E.1 117 38 = Int32.ofNat L) (hx : x < n) (hw : w < L) (hwd : wd ≤ 40) :
    f_X12_smear_L65 q1 q2 q3 (Int32.ofNat x) (Int32.ofNat w) loud E am_fu 0 0 = some (k_hl out L w loud (2 * wd) - k_hl g n x loud (2 * wd)) := by
  have key := k_ind (P := fun fu k => f_X12_smear_L65 q1 q2 q3 (Int32.ofNat x) (Int32.ofNat w) loud E fu (k_hl out L w loud k - k_hl g n x loud k) (Int32.ofNat k) = some (k_hl out L w loud (2 * wd) - k_hl g n x loud (2 * wd))) (2 * wd)
    (by
      intro fu k hk ih
      have e2 : (2 : Int32) * Int32.ofNat wd = Int32.ofNat (2 * wd) := (Int32.ofNat_mul 2 wd).symm
      have A : (if Int32.ofNat L ≤ Int32.ofNat (w + k) then some (0 : Int32) else (am_gI E 222 1200 (Int32.ofNat (w + k))).bind fun x17 => (f_X12_amount x17).bind fun x20 => if ((2 : Int32) * x20) < loud then some 0 else some 1) = some (if w + k < L ∧ ¬ (2 : Int32) * am_ab (out (w + k : Nat)) < loud then 1 else 0) := by
        by_cases c : L ≤ w + k
        · rw [if_pos (by rw [j_le, j_nat (by omega), j_nat (by omega)]; omega), if_neg (fun z => absurd z.1 (by omega))]
        · rw [if_neg (by rw [j_le, j_nat (by omega), j_nat (by omega)]; omega), k_g (by omega) (by omega), ho _ (by omega), Option.bind_some, k_amount, Option.bind_some]
          by_cases c2 : (2 : Int32) * am_ab (out (w + k : Nat)) < loud
          · rw [if_pos c2, if_neg (fun z => z.2 c2)]
          · rw [if_neg c2, if_pos ⟨(by omega), c2⟩]
      have B : (if Int32.ofNat n ≤ Int32.ofNat (x + k) then some (0 : Int32) else (am_gI E 221 1200 (Int32.ofNat (x + k))).bind fun x17 => (f_X12_amount x17).bind fun x20 => if ((2 : Int32) * x20) < loud then some 0 else some 1) = some (if x + k < n ∧ ¬ (2 : Int32) * am_ab (g (x + k : Nat)) < loud then 1 else 0) := by
        by_cases c : n ≤ x + k
        · rw [if_pos (by rw [j_le, j_nat (by omega), j_nat (by omega)]; omega), if_neg (fun z => absurd z.1 (by omega))]
        · rw [if_neg (by rw [j_le, j_nat (by omega), j_nat (by omega)]; omega), k_g (by omega) (by omega), hg _ (by omega), Option.bind_some, k_amount, Option.bind_some]
          by_cases c2 : (2 : Int32) * am_ab (g (x + k : Nat)) < loud
          · rw [if_pos c2, if_neg (fun z => z.2 c2)]
          · rw [if_neg c2, if_pos ⟨(by omega), c2⟩]
      have st : f_X12_smear_L65 q1 q2 q3 (Int32.ofNat x) (Int32.ofNat w) loud E (fu + 1) (k_hl out L w loud k - k_hl g n x loud k) (Int32.ofNat k) = f_X12_smear_L65 q1 q2 q3 (Int32.ofNat x) (Int32.ofNat w) loud E fu (k_hl out L w loud k - k_hl g n x loud k + (if w + k < L ∧ ¬ (2 : Int32) * am_ab (out (w + k : Nat)) < loud then 1 else 0) - (if x + k < n ∧ ¬ (2 : Int32) * am_ab (g (x + k : Nat)) < loud then 1 else 0)) (Int32.ofNat (k + 1)) := by
        rw [f_X12_smear_L65, e19, e36, e38, e2, if_neg (by rw [j_le, j_nat (by omega), j_nat (by omega)]; omega), ← Int32.ofNat_add, ← Int32.ofNat_add, A, Option.bind_some, B, Option.bind_some, j_suc]
      rw [st]
      have e3 : k_hl out L w loud k - k_hl g n x loud k + (if w + k < L ∧ ¬ (2 : Int32) * am_ab (out (w + k : Nat)) < loud then 1 else 0) - (if x + k < n ∧ ¬ (2 : Int32) * am_ab (g (x + k : Nat)) < loud then 1 else 0) = k_hl out L w loud (k + 1) - k_hl g n x loud (k + 1) := by
        show _ = (if w + k < L ∧ ¬ (2 : Int32) * am_ab (out (w + k : Nat)) < loud then k_hl out L w loud k + 1 else k_hl out L w loud k) - (if x + k < n ∧ ¬ (2 : Int32) * am_ab (g (x + k : Nat)) < loud then k_hl g n x loud k + 1 else k_hl g n x loud k)
        generalize k_hl out L w loud k = u
        generalize k_hl g n x loud k = z
        by_cases c1 : w + k < L ∧ ¬ (2 : Int32) * am_ab (out (w + k : Nat)) < loud
        · rw [if_pos c1, if_pos c1]
          by_cases c2 : x + k < n ∧ ¬ (2 : Int32) * am_ab (g (x + k : Nat)) < loud
          · rw [if_pos c2, if_pos c2]; grind
          · rw [if_neg c2, if_neg c2]; grind
        · rw [if_neg c1, if_neg c1]
          by_cases c2 : x + k < n ∧ ¬ (2 : Int32) * am_ab (g (x + k : Nat)) < loud
          · rw [if_pos c2, if_pos c2]; grind
          · rw [if_neg c2, if_neg c2]; grind
      rw [e3]
      exact ih) (by
      intro fu
      have e2 : (2 : Int32) * Int32.ofNat wd = Int32.ofNat (2 * wd) := (Int32.ofNat_mul 2 wd).symm
      rw [f_X12_smear_L65, e19, e2, if_pos (Int32.le_refl _)]) am_fu 0 (by omega) (by unfold am_fu; omega)
  have e : k_hl out L w loud 0 - k_hl g n x loud 0 = 0 := by
    show (0 : Int32) - 0 = 0
    decide
  have k2 : f_X12_smear_L65 q1 q2 q3 (Int32.ofNat x) (Int32.ofNat w) loud E am_fu (k_hl out L w loud 0 - k_hl g n x loud 0) (0 : Int32) = some (k_hl out L w loud (2 * wd) - k_hl g n x loud (2 * wd)) := key
  rw [e] at k2
  exact k2
theorem k_h1 {D E : am_D} {r0 n m L c wd q st : Nat} {g f t out : Int → Int32} {pos : Nat → Nat} (q1 : Int32) (hs : k_sr D E r0 n g m f t) (ho : k_or D E r0 L L out q st) (hT : t ((m : Int) - 1) = Int32.ofNat L) (e19 : E.1 117 19 = Int32.ofNat wd) (hwd : wd ≤ 40) (hb : k_bl D E 106 n c pos) (hq : q1 = Int32.ofNat c) : ∃ v, f_X3_smearTogether r0 106 (Int32.ofNat wd) D = some v ∧ f_X12_smear_L17 q1 E am_fu 0 0 = some v := by
  obtain ⟨s1, s2, s3, s4, s5, s6, s7, s8, s9⟩ := hs
  obtain ⟨⟨o1, o1c⟩, o2, o3, o4, o5, o6, o7, o8, o9, o10, o11, o12, o13⟩ := ho
  have hc6 := hb.1
  have hTi : (t ((m : Int) - 1)).toInt = L := by rw [hT, j_nat (by omega)]
  have key := k_ind (P := fun fu k => ∀ v, ∃ w, f_X3_smearTogether_L5 r0 106 (Int32.ofNat wd) D fu v (Int32.ofNat k) = some w ∧ f_X12_smear_L17 q1 E fu v (Int32.ofNat k) = some w) c
    (by
      intro fu k hk ih v
      obtain ⟨p1, p2, p3, p4⟩ := hb.2.2 k hk
      obtain ⟨w, w1, w2, w3⟩ := k_where s6 s7 s8 (Int32.ofNat (pos k))
      have hat := k_blat hb (Int32.ofNat k)
      rw [j_nat (by omega), if_pos (by omega)] at hat
      have hkk : ((k : Nat) : Int).toNat = k := by omega
      rw [hkk] at hat
      have hc : f_X3_smearTogether_L5 r0 106 (Int32.ofNat wd) D (fu + 1) v (Int32.ofNat k) = f_X3_smearTogether_L5 r0 106 (Int32.ofNat wd) D fu (if w = -1 then v else v + am_ab (k_hl out L w.toInt.toNat (am_ab (g (pos k))) (2 * wd) - k_hl g n (pos k) (am_ab (g (pos k))) (2 * wd))) (Int32.ofNat (k + 1)) := by
        have e2 : (2 : Int32) * Int32.ofNat wd = Int32.ofNat (2 * wd) := (Int32.ofNat_mul 2 wd).symm
        rw [f_X3_smearTogether_L5, hb.2.1, if_neg (by rw [j_le, j_nat (by omega), j_nat (by omega)]; omega), hat, Option.bind_some, w1, Option.bind_some]
        by_cases cw : w = -1
        · rw [if_pos cw, if_pos cw, Option.bind_some, j_suc]
        · have cw2 : 0 ≤ w.toInt ∧ w.toInt < L := by
            rcases w3 with z | z
            · exact absurd ((j_eq w (-1)).mpr z) cw
            · omega
          have ew : w = Int32.ofNat w.toInt.toNat := j_of cw2.1
          have hh := k_half (a := w.toInt.toNat) (w := 2 * wd) o2 (am_ab (g (pos k))) (by omega) (by omega)
          rw [← ew] at hh
          rw [if_neg cw, if_neg cw, j_row_loud s2, j_nat (by omega), Option.bind_some, e2, hh, Option.bind_some, k_half s2 _ (by omega) (by omega), Option.bind_some]
          show (((some (v + am_ab _)) : Option Int32).bind _) = _
          rw [Option.bind_some, j_suc]
      have hr : f_X12_smear_L17 q1 E (fu + 1) v (Int32.ofNat k) = f_X12_smear_L17 q1 E fu (if w = -1 then v else v + am_ab (k_hl out L w.toInt.toNat (am_ab (g (pos k))) (2 * wd) - k_hl g n (pos k) (am_ab (g (pos k))) (2 * wd))) (Int32.ofNat (k + 1)) := by
        rw [f_X12_smear_L17, hq, if_neg (by rw [j_le, j_nat (by omega), j_nat (by omega)]; omega), k_g (by omega) (by omega), p2, Option.bind_some, w2, Option.bind_some, k_g (by omega) (by omega), s4 _ p3, Option.bind_some, k_amount, Option.bind_some]
        by_cases cw : w = -1
        · rw [if_pos cw, if_pos cw, Option.bind_some, j_suc]
        · have cw2 : 0 ≤ w.toInt ∧ w.toInt < L := by
            rcases w3 with z | z
            · exact absurd ((j_eq w (-1)).mpr z) cw
            · omega
          have ew : w = Int32.ofNat w.toInt.toNat := j_of cw2.1
          have hh := k_smear1 (w := w.toInt.toNat) (Int32.ofNat c) v (Int32.ofNat k) (am_ab (g (pos k))) s4 o4 s1 o1 e19 s3 o3 p3 (by omega) hwd
          rw [← ew] at hh
          rw [if_neg cw, if_neg cw, hh, Option.bind_some, k_amount, Option.bind_some, Option.bind_some, j_suc]
      rw [hc, hr]
      exact ih _) (by
      intro fu v
      rw [f_X3_smearTogether_L5, f_X12_smear_L17, hb.2.1, hq, if_pos (Int32.le_refl _), if_pos (Int32.le_refl _)]
      exact ⟨v, rfl, rfl⟩) am_fu 0 (by omega) (by unfold am_fu; omega) 0
  obtain ⟨w, k1, k2⟩ := key
  have k1 : f_X3_smearTogether_L5 r0 106 (Int32.ofNat wd) D am_fu 0 (0 : Int32) = some w := k1
  refine ⟨w, ?_, k2⟩
  unfold f_X3_smearTogether
  rw [k1, Option.bind_some]
/-- the ring -/
theorem k_still {E : am_D} {n wd : Nat} {g : Int → Int32} (hg : k_arr E 221 n g) (hz : ∀ y : Int, (n : Int) ≤ y → g y = 0) (hn : n ≤ 1200) (e19 : E.1 117 19 = Int32.ofNat wd) (e36 : E.1 117 36 = Int32.ofNat n) (hwd : wd ≤ 40) (p : Int32) (hp : 0 ≤ p.toInt) (hp2 : p.toInt ≤ 2000) :
    f_X12_isStill p E = some (if ∀ k : Nat, k < wd → g (p.toInt + k) = 0 then 1 else 0) := by
  have key := k_ind (P := fun fu k => (∀ j : Nat, j < k → g (p.toInt + j) = 0) → f_X12_isStill_L2 p E fu (Int32.ofNat k) = some (if ∀ k : Nat, k < wd → g (p.toInt + k) = 0 then .inr () else .inl ())) wd
    (by
      intro fu k hk ih hj
      have e : (p + Int32.ofNat k).toInt = p.toInt + k := by rw [k_A, j_nat (by omega)]; omega
      have hv : f_X12_fromAt (p + Int32.ofNat k) E = some (g (p.toInt + k)) := by
        unfold f_X12_fromAt
        rw [e36]
        by_cases c : (n : Int) ≤ p.toInt + k
        · rw [if_pos (by rw [j_le, j_nat (by omega), e]; omega), hz _ c]
        · rw [if_neg (by rw [j_le, j_nat (by omega), e]; omega), k_arr_g hg (by omega) (by rw [e]; omega) hn, e, Option.bind_some]
      rw [f_X12_isStill_L2, e19, if_neg (by rw [j_le, j_nat (by omega), j_nat (by omega)]; omega), hv, Option.bind_some]
      by_cases c : g (p.toInt + k) = 0
      · rw [if_pos c, j_suc]
        refine ih fun j h1 => ?_
        by_cases ej : j = k
        · rw [ej]; exact c
        · exact hj j (by omega)
      · rw [if_neg c, if_neg (fun z => c (z k hk))]) (by
      intro fu hj
      rw [f_X12_isStill_L2, e19, if_pos (Int32.le_refl _), if_pos hj]) am_fu 0 (by omega) (by unfold am_fu; omega) (fun j hj => absurd hj (by omega))
  unfold f_X12_isStill
  have key2 : f_X12_isStill_L2 p E am_fu (0 : Int32) = _ := key
  rw [key2]
  by_cases c : ∀ k : Nat, k < wd → g (p.toInt + k) = 0
  · rw [if_pos c, if_pos c]; rfl
  · rw [if_neg c, if_neg c]; rfl
theorem k_h3 {D E : am_D} {r0 n m L wd q st : Nat} {g f t out : Int → Int32} (hs : k_sr D E r0 n g m f t) (ho : k_or D E r0 L L out q st) (hT : t ((m : Int) - 1) = Int32.ofNat L) (e19 : E.1 117 19 = Int32.ofNat wd) (hwd : wd ≤ 40) : ∃ v, f_X3_ringTogether r0 (Int32.ofNat wd) D = some v ∧ f_X12_harmOf_L96 E am_fu 0 0 = some v := by
  obtain ⟨s1, s2, s3, s4, s5, s6, s7, s8, s9⟩ := hs
  obtain ⟨⟨o1, o1c⟩, o2, o3, o4, o5, o6, o7, o8, o9, o10, o11, o12, o13⟩ := ho
  have hTi : (t ((m : Int) - 1)).toInt = L := by rw [hT, j_nat (by omega)]
  have key := k_ind (P := fun fu k => ∀ v, ∃ w, f_X3_ringTogether_L4 r0 (Int32.ofNat wd) D fu v (Int32.ofNat k) = some w ∧ f_X12_harmOf_L96 E fu v (Int32.ofNat k) = some w) L
    (by
      intro fu k hk ih v
      have hx := k_pc_int s8 (Int32.ofNat k) (by rw [j_nat (by omega)]; omega) (by rw [j_nat (by omega)]; omega)
      have hfk := k_fi_ok t (Int32.ofNat k) m
      have hkl := (k_fi_lt s8 (Int32.ofNat k)).mpr (by rw [j_nat (by omega)]; omega)
      have hb1 := k_mv_bd s8 (k_fi t (Int32.ofNat k) m) hfk.1
      have hb2 := k_mv_bd s8 (k_fi t (Int32.ofNat k) m + 1) hkl
      have e9 : ((k_fi t (Int32.ofNat k) m + 1 : Nat) : Int) - 1 = (k_fi t (Int32.ofNat k) m : Nat) := by omega
      rw [e9] at hb2
      obtain ⟨p, hp⟩ : ∃ p, p = k_pc m f t (Int32.ofNat k) := ⟨_, rfl⟩
      rw [← hp] at hx
      have hc : f_X3_ringTogether_L4 r0 (Int32.ofNat wd) D (fu + 1) v (Int32.ofNat k) = f_X3_ringTogether_L4 r0 (Int32.ofNat wd) D fu (if ∀ k : Nat, k < wd → g (p.toInt + k) = 0 then v + am_ab (out k) else v) (Int32.ofNat (k + 1)) := by
        rw [f_X3_ringTogether_L4, o2.2.2.1, if_neg (by rw [j_le, j_nat (by omega), j_nat (by omega)]; omega), k_cplace s6 s8, ← hp, Option.bind_some, k_row_silent s2 p (by omega) (by omega) wd (by omega), Option.bind_some]
        by_cases c : ∀ k : Nat, k < wd → g (p.toInt + k) = 0
        · rw [if_pos c, if_pos c, if_neg k_10, j_row_loud o2, j_nat (by omega), Option.bind_some, Option.bind_some, j_suc]
        · rw [if_neg c, if_neg c, if_pos rfl, Option.bind_some, j_suc]
      have hr : f_X12_harmOf_L96 E (fu + 1) v (Int32.ofNat k) = f_X12_harmOf_L96 E fu (if ∀ k : Nat, k < wd → g (p.toInt + k) = 0 then v + am_ab (out k) else v) (Int32.ofNat (k + 1)) := by
        rw [f_X12_harmOf_L96, o3, if_neg (by rw [j_le, j_nat (by omega), j_nat (by omega)]; omega), k_rplace s7 s8, ← hp, Option.bind_some, k_still s4 (fun y hy => s2.2.2.2.2 y (Or.inr hy)) s1 e19 s3 hwd p (by omega) (by omega), Option.bind_some]
        by_cases c : ∀ k : Nat, k < wd → g (p.toInt + k) = 0
        · rw [if_pos c, if_pos c, if_neg k_10, k_g (by omega) (by omega), o4 k hk, Option.bind_some, k_amount, Option.bind_some, Option.bind_some, j_suc]
        · rw [if_neg c, if_neg c, if_pos rfl, Option.bind_some, j_suc]
          have e : v + 0 = v := by grind
          rw [e]
      rw [hc, hr]
      exact ih _) (by
      intro fu v
      rw [f_X3_ringTogether_L4, f_X12_harmOf_L96, o2.2.2.1, o3, if_pos (Int32.le_refl _), if_pos (Int32.le_refl _)]
      exact ⟨v, rfl, rfl⟩) am_fu 0 (by omega) (by unfold am_fu; omega) 0
  obtain ⟨w, k1, k2⟩ := key
  have k1 : f_X3_ringTogether_L4 r0 (Int32.ofNat wd) D am_fu 0 (0 : Int32) = some w := k1
  refine ⟨w, ?_, k2⟩
  unfold f_X3_ringTogether
  rw [k1, Option.bind_some]
