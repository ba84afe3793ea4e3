/-! samples behind a row, on both sides -/
def k_app (made m : Nat) (u : Nat → Int32) (g : Int → Int32) : Int → Int32 := fun z => if (made : Int) ≤ z ∧ z < made + m then u (z - made).toNat else g z
theorem k_app_0 (made : Nat) (u : Nat → Int32) (g : Int → Int32) : k_app made 0 u g = g := by
  funext z
  unfold k_app
  rw [if_neg (by omega)]
theorem k_app_s (made k : Nat) (u : Nat → Int32) (g : Int → Int32) (z : Int) : (if z = ((made + k : Nat) : Int) then u k else k_app made k u g z) = k_app made (k + 1) u g z := by
  unfold k_app
  by_cases c : z = ((made + k : Nat) : Int)
  · have e : (z - made).toNat = k := (by omega)
    rw [if_pos c, if_pos (by omega), e]
  · rw [if_neg c]
    by_cases c2 : (made : Int) ≤ z ∧ z < made + k
    · rw [if_pos c2, if_pos (by omega)]
    · rw [if_neg c2, if_neg (by omega)]
theorem k_app_bnd {made m : Nat} {u : Nat → Int32} {g : Int → Int32} (hg : k_bnd g) (hu : ∀ k, k < m → -2047 ≤ (u k).toInt ∧ (u k).toInt ≤ 2047) : k_bnd (k_app made m u g) := by
  intro z
  unfold k_app
  by_cases c : (made : Int) ≤ z ∧ z < made + m
  · rw [if_pos c]
    exact hu _ (by omega)
  · rw [if_neg c]
    exact hg z
theorem k_cadds {r c : Nat} (hr : j_rw r c) (L : Nat → Nat → am_D → Option am_D) (u : Nat → Int32) (m : Nat) (h1 : ∀ fu k D, k < m → L (fu + 1) k D = (f_X7_add r (u k) D).bind fun x => L fu (k + 1) x) (h0 : ∀ fu D, L (fu + 1) m D = some D)
    {D : am_D} {made : Nat} {g : Int → Int32} (h : j_row D r made g) (hm : made + m ≤ c) (hm2 : m ≤ 1200) : ∃ D2, L am_fu 0 D = some D2 ∧ j_row D2 r (made + m) (k_app made m u g) ∧ j_fr (fun q => q = r ∨ q = r + 1) D D2 := by
  refine k_ind (P := fun fu k => ∀ D1, j_row D1 r (made + k) (k_app made k u g) → j_fr (fun q => q = r ∨ q = r + 1) D D1 → ∃ D2, L fu k D1 = some D2 ∧ j_row D2 r (made + m) (k_app made m u g) ∧ j_fr (fun q => q = r ∨ q = r + 1) D D2) m
    (by
      intro fu k hk ih D1 g1 g2
      obtain ⟨D2, e1, e2, e3⟩ := j_row_add g1 hr (by omega) (u k)
      rw [h1 fu k D1 hk, e1, Option.bind_some]
      exact ih D2 (j_row_cong e2 (k_app_s made k u g)) (j_fr_trans g2 e3 (fun _ q => q) (fun _ q => q))) (by
      intro fu D1 g1 g2
      exact ⟨D1, h0 fu D1, g1, g2⟩) am_fu 0 (by omega) (by unfold am_fu; omega) D ?_ (j_fr_refl _ D)
  rw [k_app_0]
  exact h
/-- the seed behind k draws -/
def k_sd (x : Int32) : Nat → Int32
  | 0 => x
  | k + 1 => k_sd x k * (1103515245 : Int32) + (12345 : Int32)
theorem k_radds {q1 q2 q3 x : Int32} {m : Nat} (u : Nat → Int32) (hv : ∀ k, k < m → ∀ w59, (if Int32.ofNat k ≤ (61 : Int32) then some (q3 >>> ((Int32.ofNat k / (2 : Int32)) &&& 31)) else some (0 : Int32)) = some w59 →
      (if q1 = 0 then some (0 : Int32) else if q1 = (1 : Int32) then (f_X12_wave (Int32.ofNat k) q2 q3).bind fun x70 => some (x70) else if q1 = (2 : Int32) then (am_rm (Int32.ofNat k) (2 : Int32)).bind fun x66 => if x66 = 0 then some (w59) else some ((-w59)) else (am_rm ((((k_sd x k * (1103515245 : Int32)) + (12345 : Int32)) >>> ((16 : Int32) &&& 31)) &&& (32767 : Int32)) (((2 : Int32) * q3) + (1 : Int32))).bind fun x64 => some ((x64 - q3))) = some (u k))
    {E : am_D} {made : Nat} {g : Int → Int32} (ha : k_arr E 119 made g) (h8 : E.1 117 8 = Int32.ofNat made) (hm : made + m ≤ 600) :
    ∃ E2, f_X12_clause_L206 q1 q2 q3 (Int32.ofNat m) am_fu x (0 : Int32) E = some E2 ∧ k_arr E2 119 (made + m) (k_app made m u g) ∧ E2.1 117 8 = Int32.ofNat (made + m) ∧ (∀ y, y ≠ 117 → y ≠ 119 → E2.1 y = E.1 y) ∧ (∀ j, j ≠ 8 → E2.1 117 j = E.1 117 j) ∧ E2.2 = E.2 := by
  have key := k_ind (P := fun fu k => ∀ E1, k_arr E1 119 (made + k) (k_app made k u g) → E1.1 117 8 = Int32.ofNat (made + k) → (∀ y, y ≠ 117 → y ≠ 119 → E1.1 y = E.1 y) → (∀ j, j ≠ 8 → E1.1 117 j = E.1 117 j) → E1.2 = E.2 → ∃ E2, f_X12_clause_L206 q1 q2 q3 (Int32.ofNat m) fu (k_sd x k) (Int32.ofNat k) E1 = some E2 ∧ k_arr E2 119 (made + m) (k_app made m u g) ∧ E2.1 117 8 = Int32.ofNat (made + m) ∧ (∀ y, y ≠ 117 → y ≠ 119 → E2.1 y = E.1 y) ∧ (∀ j, j ≠ 8 → E2.1 117 j = E.1 117 j) ∧ E2.2 = E.2) m
    (by
      intro fu k hk ih E1 g1 g2 g3 g4 g5
      obtain ⟨w, hw⟩ : ∃ w, (if Int32.ofNat k ≤ (61 : Int32) then some (q3 >>> ((Int32.ofNat k / (2 : Int32)) &&& 31)) else some (0 : Int32)) = some w := by
        by_cases c : Int32.ofNat k ≤ (61 : Int32)
        · exact ⟨_, if_pos c⟩
        · exact ⟨_, if_neg c⟩
      rw [f_X12_clause_L206, if_neg (by rw [j_le, j_nat (by omega), j_nat (by omega)]; omega), hw, Option.bind_some, hv k hk w hw, Option.bind_some, g2, k_p _ (by omega) (by omega), Option.bind_some, j_wI_ne _ _ _ (by decide), g2, j_suc, Option.bind_some, j_suc]
      refine ih _ (fun z hz => ?_) (by rw [k_ws]; rfl) (fun y a b => by rw [j_wI_ne _ _ _ a, j_wI_ne _ _ _ b, g3 y a b]) (fun j hj => by rw [k_wj _ _ hj, j_wI_ne _ _ _ (by decide), g4 j hj]) g5
      rw [j_wI_ne _ _ _ (by decide), j_wI_at, ← k_app_s made k u g]
      by_cases c : z = made + k
      · rw [if_pos c, if_pos (by rw [c])]
      · rw [if_neg c, if_neg (by omega)]
        exact g1 z (by omega)) (by
      intro fu E1 g1 g2 g3 g4 g5
      rw [f_X12_clause_L206, if_pos (Int32.le_refl _)]
      exact ⟨E1, rfl, g1, g2, g3, g4, g5⟩) am_fu 0 (by omega) (by unfold am_fu; omega) E (by rw [k_app_0]; exact ha) h8 (fun _ _ _ => rfl) (fun _ _ => rfl) rfl
  exact key
theorem k_shr (a : Int32) (s : Nat) (hs : s ≤ 30) : (a >>> (Int32.ofNat s &&& 31)).toInt = a.toInt / ((2 ^ s : Nat) : Int) := by
  have e : ((Int32.ofNat s &&& 31).toBitVec.smod 32).toNat = s := (by decide : ∀ s : Fin 31, ((Int32.ofNat s.1 &&& 31).toBitVec.smod 32).toNat = s.1) ⟨s, (by omega)⟩
  show (BitVec.sshiftRight' a.toBitVec ((Int32.ofNat s &&& 31).toBitVec.smod 32)).toInt = _
  rw [BitVec.toInt_sshiftRight', e, Int.shiftRight_eq_div_pow]
  rfl
theorem k_shr_b {a : Int32} (s : Nat) (hs : s ≤ 30) (h : 0 ≤ a.toInt) : 0 ≤ (a >>> (Int32.ofNat s &&& 31)).toInt ∧ (a >>> (Int32.ofNat s &&& 31)).toInt ≤ a.toInt := by
  rw [k_shr a s hs]
  have hp : 0 < ((2 ^ s : Nat) : Int) := by
    have := Nat.two_pow_pos s
    omega
  exact ⟨Int.ediv_nonneg h (by omega), Int.ediv_le_self _ h⟩
theorem k_shr_30 {a : Int32} (h : 0 ≤ a.toInt) (h2 : a.toInt ≤ 2000) : a >>> (Int32.ofNat 30 &&& 31) = 0 := by
  rw [j_eq, k_shr a 30 (by omega)]
  have e : ((2 ^ 30 : Nat) : Int) = 1073741824 := by decide
  have e0 : (0 : Int32).toInt = 0 := rfl
  rw [e, e0]
  omega
/-- a blow's samples -/
def k_blw (a : Int32) (k : Nat) : Int32 := if k % 2 = 0 then a >>> (Int32.ofNat (min (k / 2) 30) &&& 31) else -(a >>> (Int32.ofNat (min (k / 2) 30) &&& 31))
theorem k_bl_c (a : Int32) (k : Nat) (hk : k < 1000) : (if (Int32.ofNat k &&& (1 : Int32)) = (1 : Int32) then some ((-(a >>> ((am_mn (Int32.ofNat k / (2 : Int32)) (30 : Int32)) &&& 31)))) else some ((a >>> ((am_mn (Int32.ofNat k / (2 : Int32)) (30 : Int32)) &&& 31)))) = some (k_blw a k) := by
  have e2 : Int32.ofNat k / (2 : Int32) = Int32.ofNat (k / 2) := k_dvN (x := k) (y := 2) (by omega) (by omega) (by omega)
  have e30 : (30 : Int32).toInt = 30 := rfl
  have em : am_mn (Int32.ofNat (k / 2)) 30 = Int32.ofNat (min (k / 2) 30) := by
    rw [j_eq, j_mn, j_nat (by omega), j_nat (by omega), e30]
    omega
  have ea : (Int32.ofNat k &&& (1 : Int32)) = (1 : Int32) ↔ k % 2 = 1 := by
    have e : Int32.ofNat k &&& (1 : Int32) = Int32.ofNat (k % 2) := by
      have q : k % 2 = k &&& 1 := (Nat.and_one_is_mod k).symm
      rw [q]
      apply Int32.toBitVec_inj.1
      show BitVec.ofNat 32 k &&& BitVec.ofNat 32 1 = BitVec.ofNat 32 (k &&& 1)
      exact BitVec.ofNat_and.symm
    rw [e]
    constructor
    · intro z
      exact k_ofN_inj (b := 1) z (by omega) (by omega)
    · intro z
      rw [z]
      rfl
  unfold k_blw
  rw [e2, em]
  by_cases c : k % 2 = 0
  · rw [if_neg (by rw [ea]; omega), if_pos c]
  · rw [if_pos (by rw [ea]; omega), if_neg c]
theorem k_bl_r {a : Int32} (h : 0 ≤ a.toInt) (h2 : a.toInt ≤ 2000) (k : Nat) (hk : k < 1000) (w : Int32) (hw : (if Int32.ofNat k ≤ (61 : Int32) then some (a >>> ((Int32.ofNat k / (2 : Int32)) &&& 31)) else some (0 : Int32)) = some w) : ((am_rm (Int32.ofNat k) (2 : Int32)).bind fun x66 => if x66 = 0 then some (w) else some ((-w))) = some (k_blw a k) := by
  have e2 : Int32.ofNat k / (2 : Int32) = Int32.ofNat (k / 2) := k_dvN (x := k) (y := 2) (by omega) (by omega) (by omega)
  have e61 : (61 : Int32).toInt = 61 := rfl
  have er : am_rm (Int32.ofNat k) (2 : Int32) = some (Int32.ofNat (k % 2)) := k_rmN (x := k) (y := 2) (by omega) (by omega) (by omega)
  have ew : w = a >>> (Int32.ofNat (min (k / 2) 30) &&& 31) := by
    rw [e2] at hw
    by_cases c : k ≤ 61
    · rw [if_pos (by rw [j_le, j_nat (by omega), e61]; omega)] at hw
      have z : min (k / 2) 30 = k / 2 := (by omega)
      rw [z]
      exact (Option.some.inj hw).symm
    · rw [if_neg (by rw [j_le, j_nat (by omega), e61]; omega)] at hw
      have z : min (k / 2) 30 = 30 := (by omega)
      rw [z, k_shr_30 h h2]
      exact (Option.some.inj hw).symm
  rw [er, Option.bind_some, ew]
  unfold k_blw
  by_cases c : k % 2 = 0
  · rw [if_pos c, if_pos (by rw [c]; rfl)]
  · rw [if_neg c, if_neg (show ¬ Int32.ofNat (k % 2) = 0 from fun z => c (k_ofN_inj (b := 0) z (by omega) (by omega)))]
theorem k_bl_b {a : Int32} (h : 0 ≤ a.toInt) (h2 : a.toInt ≤ 2000) (k : Nat) : -2047 ≤ (k_blw a k).toInt ∧ (k_blw a k).toInt ≤ 2047 := by
  obtain ⟨b1, b2⟩ := k_shr_b (a := a) (min (k / 2) 30) (by omega) h
  unfold k_blw
  by_cases c : k % 2 = 0
  · rw [if_pos c]
    omega
  · rw [if_neg c, k_G]
    omega
/-- a hiss's samples -/
theorem k_32767 : ∀ i : Fin 32, 15 ≤ i.1 → (32767#32).getLsbD i.1 = false := by decide
theorem k_hbit (q : Int32) : ((q.toUInt32 >>> ((16 : Int32).toUInt32 &&& Int32.toUInt32 31)).toInt32 &&& (32767 : Int32)) = ((q >>> ((16 : Int32) &&& 31)) &&& (32767 : Int32)) := by
  apply Int32.toBitVec_inj.1
  apply BitVec.eq_of_getLsbD_eq
  intro i hi
  simp [BitVec.getLsbD_sshiftRight]
  by_cases c : 15 ≤ i
  · rw [k_32767 ⟨i, hi⟩ c, Bool.and_false, Bool.and_false]
  · rw [if_pos (by omega), decide_eq_false (by omega)]
    rfl
theorem k_and15 (z : Int32) : 0 ≤ (z &&& 32767).toInt ∧ (z &&& 32767).toInt ≤ 32767 := by
  have h : (z &&& 32767).toBitVec.toNat ≤ 32767 := by
    show (z.toBitVec &&& (32767 : Int32).toBitVec).toNat ≤ 32767
    rw [BitVec.toNat_and]
    exact Nat.and_le_right
  have e : (z &&& 32767).toInt = ((z &&& 32767).toBitVec.toNat : Int) := BitVec.toInt_eq_toNat_of_lt (by omega)
  omega
def k_dr (an : Nat) (x : Int32) (k : Nat) : Int32 := Int32.ofNat (((k_sd x (k + 1) >>> ((16 : Int32) &&& 31)) &&& (32767 : Int32)).toInt.toNat % (2 * an + 1)) - Int32.ofNat an
theorem k_dr_e (an : Nat) (ha : an ≤ 2000) : (2 : Int32) * Int32.ofNat an + (1 : Int32) = Int32.ofNat (2 * an + 1) := by
  rw [Int32.ofNat_add, Int32.ofNat_mul]
  rfl
theorem k_dr_r (an : Nat) (ha : an ≤ 2000) (x : Int32) (k : Nat) : ((am_rm ((((k_sd x k * (1103515245 : Int32)) + (12345 : Int32)) >>> ((16 : Int32) &&& 31)) &&& (32767 : Int32)) (((2 : Int32) * Int32.ofNat an) + (1 : Int32))).bind fun x64 => some ((x64 - Int32.ofNat an))) = some (k_dr an x k) := by
  obtain ⟨b1, b2⟩ := k_and15 (k_sd x (k + 1) >>> ((16 : Int32) &&& 31))
  have e : (((k_sd x k * (1103515245 : Int32)) + (12345 : Int32)) >>> ((16 : Int32) &&& 31)) &&& (32767 : Int32) = Int32.ofNat ((k_sd x (k + 1) >>> ((16 : Int32) &&& 31)) &&& (32767 : Int32)).toInt.toNat := j_of b1
  rw [e, k_dr_e an ha, k_rmN (by omega) (by omega) (by omega), Option.bind_some]
  rfl
theorem k_dr_c (an : Nat) (ha : an ≤ 2000) (x : Int32) (k : Nat) : ((f_X11_left (((((k_sd x k * (1103515245 : Int32)) + (12345 : Int32)).toUInt32 >>> ((16 : Int32).toUInt32 &&& Int32.toUInt32 31)).toInt32) &&& (32767 : Int32)) (((2 : Int32) * Int32.ofNat an) + (1 : Int32))).bind fun x3 => some (x3 - Int32.ofNat an)) = some (k_dr an x k) := by
  rw [k_hbit, ← k_dr_r an ha x k, k_dr_e an ha]
  have e : ¬ Int32.ofNat (2 * an + 1) = 0 := fun q => absurd (k_ofN_inj (b := 0) q (by omega) (by omega)) (by omega)
  rw [j_left (by rw [j_nat (by omega)]; omega)]
  unfold am_rm
  rw [if_neg e]
theorem k_dr_b (an : Nat) (ha : an ≤ 2000) (x : Int32) (k : Nat) : -2047 ≤ (k_dr an x k).toInt ∧ (k_dr an x k).toInt ≤ 2047 := by
  unfold k_dr
  have h := Nat.mod_lt ((k_sd x (k + 1) >>> ((16 : Int32) &&& 31)) &&& (32767 : Int32)).toInt.toNat (show 0 < 2 * an + 1 by omega)
  rw [j_sub (by rw [j_nat (by omega), j_nat (by omega)]; omega) (by rw [j_nat (by omega), j_nat (by omega)]; omega), j_nat (by omega), j_nat (by omega)]
  omega
/-- what is added, in the class -/
theorem k_addS0 {r : Nat} (hr : j_rw r 600) {D : am_D} {made m : Nat} {g : Int → Int32} (h : j_row D r made g) (hm : made + m ≤ 600) : ∃ D2, f_X7_addStill r (Int32.ofNat m) D = some D2 ∧ j_row D2 r (made + m) (k_app made m (fun _ => 0) g) ∧ j_fr (fun q => q = r ∨ q = r + 1) D D2 := by
  obtain ⟨D2, e1, e2⟩ := k_cadds hr (fun fu k D => f_X7_addStill_L2 r (Int32.ofNat m) fu (Int32.ofNat k) D) (fun _ => 0) m (fun fu k D hk => by
    show f_X7_addStill_L2 r (Int32.ofNat m) (fu + 1) (Int32.ofNat k) D = _
    rw [f_X7_addStill_L2, if_neg (by rw [j_le, j_nat (by omega), j_nat (by omega)]; omega), j_suc]) (fun fu D => by
    show f_X7_addStill_L2 r (Int32.ofNat m) (fu + 1) (Int32.ofNat m) D = _
    rw [f_X7_addStill_L2, if_pos (Int32.le_refl _)]) h hm (by omega)
  refine ⟨D2, ?_, e2⟩
  unfold f_X7_addStill
  have e1 : f_X7_addStill_L2 r (Int32.ofNat m) am_fu (0 : Int32) D = some D2 := e1
  rw [e1]
  rfl
theorem k_addW0 {r : Nat} (hr : j_rw r 600) {p a : Int32} (u : Nat → Int32) {D : am_D} {made m : Nat} {g : Int → Int32} (hu : ∀ k, k < m → f_X11_wave p a (Int32.ofNat k) = some (u k)) (h : j_row D r made g) (hm : made + m ≤ 600) : ∃ D2, f_X7_addWave r p a (Int32.ofNat m) D = some D2 ∧ j_row D2 r (made + m) (k_app made m u g) ∧ j_fr (fun q => q = r ∨ q = r + 1) D D2 := by
  obtain ⟨D2, e1, e2⟩ := k_cadds hr (fun fu k D => f_X7_addWave_L3 r p a (Int32.ofNat m) fu (Int32.ofNat k) D) u m (fun fu k D hk => by
    show f_X7_addWave_L3 r p a (Int32.ofNat m) (fu + 1) (Int32.ofNat k) D = _
    rw [f_X7_addWave_L3, if_neg (by rw [j_le, j_nat (by omega), j_nat (by omega)]; omega), hu k hk, Option.bind_some, j_suc]) (fun fu D => by
    show f_X7_addWave_L3 r p a (Int32.ofNat m) (fu + 1) (Int32.ofNat m) D = _
    rw [f_X7_addWave_L3, if_pos (Int32.le_refl _)]) h hm (by omega)
  refine ⟨D2, ?_, e2⟩
  unfold f_X7_addWave
  have e1 : f_X7_addWave_L3 r p a (Int32.ofNat m) am_fu (0 : Int32) D = some D2 := e1
  rw [e1]
  rfl
theorem k_addB0 {r : Nat} (hr : j_rw r 600) {a : Int32} {D : am_D} {made m : Nat} {g : Int → Int32} (h : j_row D r made g) (hm : made + m ≤ 600) : ∃ D2, f_X7_addBlow r a (Int32.ofNat m) D = some D2 ∧ j_row D2 r (made + m) (k_app made m (k_blw a) g) ∧ j_fr (fun q => q = r ∨ q = r + 1) D D2 := by
  obtain ⟨D2, e1, e2⟩ := k_cadds hr (fun fu k D => f_X7_addBlow_L2 r a (Int32.ofNat m) fu (Int32.ofNat k) D) (k_blw a) m (fun fu k D hk => by
    show f_X7_addBlow_L2 r a (Int32.ofNat m) (fu + 1) (Int32.ofNat k) D = _
    rw [f_X7_addBlow_L2, if_neg (by rw [j_le, j_nat (by omega), j_nat (by omega)]; omega), k_bl_c a k (by omega), Option.bind_some, j_suc]) (fun fu D => by
    show f_X7_addBlow_L2 r a (Int32.ofNat m) (fu + 1) (Int32.ofNat m) D = _
    rw [f_X7_addBlow_L2, if_pos (Int32.le_refl _)]) h hm (by omega)
  refine ⟨D2, ?_, e2⟩
  unfold f_X7_addBlow
  have e1 : f_X7_addBlow_L2 r a (Int32.ofNat m) am_fu (0 : Int32) D = some D2 := e1
  rw [e1]
  rfl
theorem k_addH0 {r : Nat} (hr : j_rw r 600) {an : Nat} (ha : an ≤ 2000) {x : Int32} {D : am_D} {made m : Nat} {g : Int → Int32} (h : j_row D r made g) (hm : made + m ≤ 600) : ∃ D2, f_X7_addHiss r (Int32.ofNat an) (Int32.ofNat m) x D = some D2 ∧ j_row D2 r (made + m) (k_app made m (k_dr an x) g) ∧ j_fr (fun q => q = r ∨ q = r + 1) D D2 := by
  obtain ⟨D2, e1, e2⟩ := k_cadds hr (fun fu k D => f_X7_addHiss_L6 r (Int32.ofNat an) (Int32.ofNat m) fu (k_sd x k) (Int32.ofNat k) D) (k_dr an x) m (fun fu k D hk => by
    show f_X7_addHiss_L6 r (Int32.ofNat an) (Int32.ofNat m) (fu + 1) (k_sd x k) (Int32.ofNat k) D = _
    have hd := k_dr_c an ha x k
    obtain ⟨z, hz⟩ : ∃ z, (f_X11_left (((((k_sd x k * (1103515245 : Int32)) + (12345 : Int32)).toUInt32 >>> ((16 : Int32).toUInt32 &&& Int32.toUInt32 31)).toInt32) &&& (32767 : Int32)) (((2 : Int32) * Int32.ofNat an) + (1 : Int32))) = some z := by
      cases q : (f_X11_left (((((k_sd x k * (1103515245 : Int32)) + (12345 : Int32)).toUInt32 >>> ((16 : Int32).toUInt32 &&& Int32.toUInt32 31)).toInt32) &&& (32767 : Int32)) (((2 : Int32) * Int32.ofNat an) + (1 : Int32))) with
      | none => rw [q] at hd; cases hd
      | some z => exact ⟨z, rfl⟩
    rw [hz, Option.bind_some] at hd
    have hd := Option.some.inj hd
    rw [f_X7_addHiss_L6, if_neg (by rw [j_le, j_nat (by omega), j_nat (by omega)]; omega), hz, Option.bind_some, hd, j_suc]
    rfl) (fun fu D => by
    show f_X7_addHiss_L6 r (Int32.ofNat an) (Int32.ofNat m) (fu + 1) (k_sd x m) (Int32.ofNat m) D = _
    rw [f_X7_addHiss_L6, if_pos (Int32.le_refl _)]) h hm (by omega)
  refine ⟨D2, ?_, e2⟩
  unfold f_X7_addHiss
  have e1 : f_X7_addHiss_L6 r (Int32.ofNat an) (Int32.ofNat m) am_fu x (0 : Int32) D = some D2 := e1
  rw [e1]
  rfl
/-- a hum over all there are -/
def k_hm (u : Nat → Int32) (g : Int → Int32) (n : Nat) : Int → Int32 := fun z => if 0 ≤ z ∧ z < n then am_mx (-2047) (am_mn (g z + u z.toNat) 2047) else g z
theorem k_hm_0 (u : Nat → Int32) (g : Int → Int32) : k_hm u g 0 = g := by
  funext z
  unfold k_hm
  rw [if_neg (by omega)]
theorem k_hm_s (u : Nat → Int32) (g : Int → Int32) (n made : Nat) (hn : n < made) (z : Int) : j_up made (k_hm u g n) ((n : Nat) : Int) (am_mx (-2047) (am_mn (g n + u n) 2047)) z = k_hm u g (n + 1) z := by
  unfold j_up k_hm
  by_cases c : z = (n : Int)
  · rw [if_pos (by omega), if_pos (by omega), c]
    rfl
  · rw [if_neg (by omega)]
    by_cases c2 : 0 ≤ z ∧ z < n
    · rw [if_pos c2, if_pos (by omega)]
    · rw [if_neg c2, if_neg (by omega)]
theorem k_hm_b {u : Nat → Int32} {g : Int → Int32} {n : Nat} (hg : k_bnd g) : k_bnd (k_hm u g n) := by
  intro z
  unfold k_hm
  by_cases c : 0 ≤ z ∧ z < n
  · rw [if_pos c, j_mx, j_mn]
    have e1 : (-2047 : Int32).toInt = -2047 := rfl
    have e2 : (2047 : Int32).toInt = 2047 := rfl
    omega
  · rw [if_neg c]
    exact hg z
theorem k_layH {r : Nat} {p a : Int32} (u : Nat → Int32) {D : am_D} {made : Nat} {g : Int → Int32} (hm : made ≤ 600) (hu : ∀ k, k < made → f_X11_wave p a (Int32.ofNat k) = some (u k)) (h : j_row D r made g) : ∃ D2, f_X7_layHum r p a D = some D2 ∧ j_row D2 r made (k_hm u g made) ∧ j_fr (fun q => q = r ∨ q = r + 1) D D2 := by
  have key := k_ind (P := fun fu k => ∀ D1, j_row D1 r made (k_hm u g k) → j_fr (fun q => q = r ∨ q = r + 1) D D1 → ∃ D2, f_X7_layHum_L2 r p a fu (Int32.ofNat k) D1 = some D2 ∧ j_row D2 r made (k_hm u g made) ∧ j_fr (fun q => q = r ∨ q = r + 1) D D2) made
    (by
      intro fu k hk ih D1 g1 g2
      have ek : k_hm u g k (Int32.ofNat k).toInt = g k := by
        rw [j_nat (by omega)]
        unfold k_hm
        rw [if_neg (by omega)]
      have eb : f_X11_bounded (g k + u k) (-2047 : Int32) (2047 : Int32) = some (am_mx (-2047) (am_mn (g k + u k) 2047)) := rfl
      obtain ⟨D2, e1, e2, e3⟩ := j_row_put g1 (Int32.ofNat k) (am_mx (-2047) (am_mn (g k + u k) 2047))
      rw [f_X7_layHum_L2, g1.2.2.1, if_neg (by rw [j_le, j_nat (by omega), j_nat (by omega)]; omega), j_row_at g1, ek, Option.bind_some, hu k hk, Option.bind_some, eb, Option.bind_some, e1, Option.bind_some, j_suc]
      rw [j_nat (by omega)] at e2
      exact ih D2 (j_row_cong e2 (k_hm_s u g k made hk)) (j_fr_trans g2 e3 (fun _ q => q) (fun _ q => Or.inr q))) (by
      intro fu D1 g1 g2
      rw [f_X7_layHum_L2, g1.2.2.1, if_pos (Int32.le_refl _)]
      exact ⟨D1, rfl, g1, g2⟩) am_fu 0 (by omega) (by unfold am_fu; omega) D (by rw [k_hm_0]; exact h) (j_fr_refl _ D)
  obtain ⟨D2, e1, e2⟩ := key
  refine ⟨D2, ?_, e2⟩
  unfold f_X7_layHum
  have e1 : f_X7_layHum_L2 r p a am_fu (0 : Int32) D = some D2 := e1
  rw [e1]
  rfl
theorem k_rlayH {q1 p a q4 q5 : Int32} (u : Nat → Int32) {E : am_D} {made : Nat} {g : Int → Int32} (hm : made ≤ 600) (hu : ∀ k, k < made → f_X12_wave (Int32.ofNat k) p a = some (u k)) (ha : k_arr E 119 made g) (h8 : E.1 117 8 = Int32.ofNat made) : ∃ E2, f_X12_clause_L157 q1 p a q4 q5 am_fu (0 : Int32) E = some E2 ∧ k_arr E2 119 made (k_hm u g made) ∧ (∀ y, y ≠ 119 → E2.1 y = E.1 y) ∧ E2.2 = E.2 := by
  have e1 : (-2047 : Int32).toInt = -2047 := rfl
  have e2 : (2047 : Int32).toInt = 2047 := rfl
  have key := k_ind (P := fun fu k => ∀ E1, k_arr E1 119 made (k_hm u g k) → (∀ y, y ≠ 119 → E1.1 y = E.1 y) → E1.2 = E.2 → ∃ E2, f_X12_clause_L157 q1 p a q4 q5 fu (Int32.ofNat k) E1 = some E2 ∧ k_arr E2 119 made (k_hm u g made) ∧ (∀ y, y ≠ 119 → E2.1 y = E.1 y) ∧ E2.2 = E.2) made
    (by
      intro fu k hk ih E1 g1 g2 g3
      have ek : E1.1 119 k = g k := by
        rw [g1 k hk]
        unfold k_hm
        rw [if_neg (by omega)]
      rw [f_X12_clause_L157, g2 117 (by decide), h8, if_neg (by rw [j_le, j_nat (by omega), j_nat (by omega)]; omega), k_g (by omega) (by omega), ek, Option.bind_some, hu k hk, Option.bind_some, k_within _ _ _ (by rw [e1, e2]; omega), Option.bind_some, k_p _ (by omega) (by omega), Option.bind_some, j_suc]
      refine ih _ (fun z hz => ?_) (fun y hy => by rw [j_wI_ne _ _ _ hy]; exact g2 y hy) g3
      rw [j_wI_at, ← k_hm_s u g k made hk]
      unfold j_up
      by_cases c : z = k
      · rw [if_pos c, if_pos (by omega)]
      · rw [if_neg c, if_neg (by omega)]
        exact g1 z hz) (by
      intro fu E1 g1 g2 g3
      rw [f_X12_clause_L157, g2 117 (by decide), h8, if_pos (Int32.le_refl _)]
      exact ⟨E1, rfl, g1, g2, g3⟩) am_fu 0 (by omega) (by unfold am_fu; omega) E (by rw [k_hm_0]; exact ha) (fun _ _ => rfl) rfl
  exact key
/-- waves as one function -/
theorem k_waves {p a : Int32} (hp : 4 ≤ p.toInt) (hp2 : p.toInt ≤ 60) (ha : 0 ≤ a.toInt) (ha2 : a.toInt ≤ 2047) : ∃ u : Nat → Int32, ∀ k, k ≤ 2000 → f_X11_wave p a (Int32.ofNat k) = some (u k) ∧ f_X12_wave (Int32.ofNat k) p a = some (u k) ∧ -2047 ≤ (u k).toInt ∧ (u k).toInt ≤ 2047 := by
  have ep := j_of (a := p) (by omega)
  refine ⟨fun k => (f_X11_wave p a (Int32.ofNat k)).getD 0, fun k hk => ?_⟩
  obtain ⟨v, w1, w2, w3, w4⟩ := k_wave (p := p.toInt.toNat) (k := k) (a := a) (by omega) (by omega) hk ha ha2
  rw [← ep] at w1 w2
  show f_X11_wave p a (Int32.ofNat k) = some ((f_X11_wave p a (Int32.ofNat k)).getD 0) ∧ f_X12_wave (Int32.ofNat k) p a = some ((f_X11_wave p a (Int32.ofNat k)).getD 0) ∧ _ ≤ ((f_X11_wave p a (Int32.ofNat k)).getD 0).toInt ∧ ((f_X11_wave p a (Int32.ofNat k)).getD 0).toInt ≤ _
  rw [w1, w2]
  exact ⟨rfl, rfl, w3, w4⟩
