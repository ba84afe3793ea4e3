/-! beat: the numbers -/
def k_ns (g : Nat → Nat) : Nat → Nat
  | 0 => 0
  | n + 1 => k_ns g n + g n
theorem k_ns_add {g h : Nat → Nat} : ∀ n, k_ns (fun b => g b + h b) n = k_ns g n + k_ns h n
  | 0 => rfl
  | n + 1 => by
    show k_ns (fun b => g b + h b) n + (g n + h n) = k_ns g n + g n + (k_ns h n + h n)
    rw [k_ns_add n]
    omega
theorem k_ns_cong {g h : Nat → Nat} : ∀ n, (∀ b, b < n → g b = h b) → k_ns g n = k_ns h n
  | 0, _ => rfl
  | n + 1, e => by
    show k_ns g n + g n = k_ns h n + h n
    rw [k_ns_cong n (fun b hb => e b (by omega)), e n (by omega)]
theorem k_ns_const (v : Nat) : ∀ n, k_ns (fun _ => v) n = n * v
  | 0 => by rw [Nat.zero_mul]; rfl
  | n + 1 => by
    show k_ns (fun _ => v) n + v = _
    rw [k_ns_const v n, Nat.add_mul, Nat.one_mul]
theorem k_ns_le {g : Nat → Nat} {v : Nat} (h : ∀ b, g b ≤ v) : ∀ n, k_ns g n ≤ n * v
  | 0 => by rw [Nat.zero_mul]; exact Nat.le_refl _
  | n + 1 => by
    have := k_ns_le h n
    have e := h n
    show k_ns g n + g n ≤ _
    rw [Nat.add_mul, Nat.one_mul]
    omega
/-- how far a place lies behind the grid -/
def k_m (p x a : Nat) : Nat := (x + (p - a)) % p
theorem k_m_lt {p x a : Nat} (hp : 0 < p) : k_m p x a < p := Nat.mod_lt _ hp
theorem k_m_s {p x a : Nat} (ha : a < p) : k_m p x (a + 1) = if k_m p x a = 0 then p - 1 else k_m p x a - 1 := by
  unfold k_m
  have e : x + (p - a) = x + (p - (a + 1)) + 1 := by omega
  rw [e]
  generalize x + (p - (a + 1)) = y
  have hr : y % p < p := Nat.mod_lt _ (by omega)
  have hd := Nat.div_add_mod y p
  generalize y / p = q at hd
  by_cases c : y % p + 1 < p
  · have h2 : (y + 1) % p = y % p + 1 := by
      have e2 : y + 1 = p * q + (y % p + 1) := by omega
      rw [e2, Nat.mul_add_mod, Nat.mod_eq_of_lt c]
    rw [h2, if_neg (by omega)]
    omega
  · have h2 : (y + 1) % p = 0 := by
      have e2 : y + 1 = p * q + p := by omega
      rw [e2, Nat.mul_add_mod, Nat.mod_self]
    rw [h2, if_pos rfl]
    omega
theorem k_m_eq {p x a r : Nat} (ha : a ≤ p) (hr : r < p) : k_m p x a = r ↔ x % p = (a + r) % p := by
  unfold k_m
  constructor
  · intro h
    rw [← h, Nat.add_mod_mod]
    have e : a + (x + (p - a)) = x + p := by omega
    rw [e, Nat.add_mod_right]
  · intro h
    rw [← Nat.mod_add_mod, h, Nat.mod_add_mod]
    have e : a + r + (p - a) = r + p := by omega
    rw [e, Nat.add_mod_right, Nat.mod_eq_of_lt hr]
theorem k_m_0 (p x : Nat) : k_m p x 0 = x % p := by
  unfold k_m
  rw [Nat.sub_zero, Nat.add_mod_right]
/-- what the blows are off the grid -/
def k_off (p c : Nat) (pos : Nat → Nat) (a : Nat) : Nat := k_ns (fun b => min (k_m p (pos b) a) (p - k_m p (pos b) a)) c
def k_lv1 (p c : Nat) (pos : Nat → Nat) (t : Nat) : Nat := k_ns (fun b => if pos b % p = t then 1 else 0) c
def k_near (p c : Nat) (pos : Nat → Nat) (h a : Nat) : Nat := k_ns (fun b => if 1 ≤ k_m p (pos b) a ∧ k_m p (pos b) a ≤ h then 1 else 0) c
theorem k_cnt {p c a r : Nat} {pos : Nat → Nat} (ha : a ≤ p) (hr : r < p) : k_ns (fun b => if k_m p (pos b) a = r then 1 else 0) c = k_lv1 p c pos ((a + r) % p) := by
  unfold k_lv1
  refine k_ns_cong c fun b _ => ?_
  by_cases q : k_m p (pos b) a = r
  · rw [if_pos q, if_pos ((k_m_eq ha hr).mp q)]
  · rw [if_neg q, if_neg (fun z => q ((k_m_eq ha hr).mpr z))]
theorem k_off_s {p c a : Nat} {pos : Nat → Nat} (hp : 4 ≤ p) (ha : a < p) : k_off p c pos (a + 1) + 2 * k_near p c pos (p / 2) a + (if p % 2 = 1 then k_lv1 p c pos ((a + (p / 2 + 1)) % p) else 0) = k_off p c pos a + c := by
  have e1 : (if p % 2 = 1 then k_lv1 p c pos ((a + (p / 2 + 1)) % p) else 0) = k_ns (fun b => if p % 2 = 1 ∧ k_m p (pos b) a = p / 2 + 1 then 1 else 0) c := by
    by_cases q : p % 2 = 1
    · rw [if_pos q, ← k_cnt (by omega) (by omega)]
      refine k_ns_cong c fun b _ => ?_
      by_cases z : k_m p (pos b) a = p / 2 + 1
      · rw [if_pos z, if_pos ⟨q, z⟩]
      · rw [if_neg z, if_neg (fun y => z y.2)]
    · rw [if_neg q]
      have e : k_ns (fun b => if p % 2 = 1 ∧ k_m p (pos b) a = p / 2 + 1 then 1 else 0) c = k_ns (fun _ => 0) c := k_ns_cong c fun b _ => if_neg (fun y => q y.1)
      rw [e, k_ns_const, Nat.mul_zero]
  have e2 : c = k_ns (fun _ => 1) c := by rw [k_ns_const, Nat.mul_one]
  have e3 : k_off p c pos a + c = k_ns (fun b => min (k_m p (pos b) a) (p - k_m p (pos b) a) + 1) c := by
    unfold k_off
    rw [k_ns_add (h := fun _ => 1), ← e2]
  have e4 : 2 * k_near p c pos (p / 2) a = k_ns (fun b => (if 1 ≤ k_m p (pos b) a ∧ k_m p (pos b) a ≤ p / 2 then 1 else 0) + (if 1 ≤ k_m p (pos b) a ∧ k_m p (pos b) a ≤ p / 2 then 1 else 0)) c := by
    unfold k_near
    rw [k_ns_add]
    omega
  rw [e1, e3, e4]
  unfold k_off
  rw [← k_ns_add, ← k_ns_add]
  refine k_ns_cong c fun b _ => ?_
  have hm := k_m_lt (x := pos b) (a := a) (show 0 < p by omega)
  rw [k_m_s ha]
  generalize k_m p (pos b) a = m at hm
  by_cases c0 : m = 0
  · subst c0
    rw [if_pos rfl, if_neg (by omega), if_neg (by omega)]
    omega
  · rw [if_neg c0]
    by_cases c1 : m ≤ p / 2
    · rw [if_pos ⟨by omega, c1⟩, if_neg (by omega)]
      omega
    · rw [if_neg (fun z => c1 z.2)]
      by_cases c2 : p % 2 = 1 ∧ m = p / 2 + 1
      · rw [if_pos c2]
        omega
      · rw [if_neg c2]
        omega
theorem k_near_s {p c a : Nat} {pos : Nat → Nat} (hp : 4 ≤ p) (ha : a < p) : k_near p c pos (p / 2) (a + 1) + k_lv1 p c pos ((a + 1) % p) = k_near p c pos (p / 2) a + k_lv1 p c pos ((a + (p / 2 + 1)) % p) := by
  rw [← k_cnt (by omega) (show 1 < p by omega), ← k_cnt (by omega) (show p / 2 + 1 < p by omega)]
  unfold k_near
  rw [← k_ns_add, ← k_ns_add]
  refine k_ns_cong c fun b _ => ?_
  have hm := k_m_lt (x := pos b) (a := a) (show 0 < p by omega)
  rw [k_m_s ha]
  generalize k_m p (pos b) a = m at hm
  by_cases c0 : m = 0
  · subst c0
    rw [if_pos rfl, if_neg (by omega), if_neg (by omega), if_neg (by omega), if_neg (by omega)]
  · rw [if_neg c0]
    by_cases c1 : m ≤ p / 2
    · rw [if_pos (show 1 ≤ m ∧ m ≤ p / 2 by omega), if_neg (show ¬ m = p / 2 + 1 by omega)]
      by_cases c2 : m = 1
      · rw [if_neg (by omega), if_pos c2]
      · rw [if_pos (by omega), if_neg c2]
    · rw [if_neg (show ¬ (1 ≤ m ∧ m ≤ p / 2) by omega), if_neg (show ¬ m = 1 by omega)]
      by_cases c2 : m = p / 2 + 1
      · rw [if_pos (by omega), if_pos c2]
      · rw [if_neg (by omega), if_neg c2]
theorem k_near_0 {p c : Nat} {pos : Nat → Nat} : ∀ h : Nat, h < p → k_near p c pos h 0 = k_ns (fun r => k_lv1 p c pos (r + 1)) h
  | 0, _ => by
    unfold k_near
    have e : k_ns (fun b => if 1 ≤ k_m p (pos b) 0 ∧ k_m p (pos b) 0 ≤ 0 then 1 else 0) c = k_ns (fun _ => 0) c := k_ns_cong c fun b _ => if_neg (by omega)
    rw [e, k_ns_const, Nat.mul_zero]
    rfl
  | h + 1, hh => by
    show _ = k_ns (fun r => k_lv1 p c pos (r + 1)) h + k_lv1 p c pos (h + 1)
    rw [← k_near_0 h (by omega)]
    unfold k_near k_lv1
    rw [← k_ns_add]
    refine k_ns_cong c fun b _ => ?_
    rw [k_m_0]
    generalize pos b % p = m
    by_cases c1 : m = h + 1
    · rw [if_pos c1, if_pos (by omega), if_neg (by omega)]
    · rw [if_neg c1]
      by_cases c2 : 1 ≤ m ∧ m ≤ h
      · rw [if_pos c2, if_pos (by omega)]
      · rw [if_neg c2, if_neg (by omega)]
/-- the reference's remainder -/
theorem k_rmm {p x a : Nat} (hx : x < 100000) (hp : 0 < p) (hp2 : p < 100000) (ha : a < p) : ∃ v, am_rm (Int32.ofNat x - Int32.ofNat a) (Int32.ofNat p) = some v ∧ am_rm (v + Int32.ofNat p) (Int32.ofNat p) = some (Int32.ofNat (k_m p x a)) := by
  have e0 : (0 : Int32).toInt = 0 := rfl
  unfold k_m
  by_cases c : a ≤ x
  · have e1 : Int32.ofNat x - Int32.ofNat a = Int32.ofNat (x - a) := by rw [j_eq, k_S, j_nat (by omega), j_nat (by omega), j_nat (by omega)]; omega
    have hl : (x - a) % p < p := Nat.mod_lt _ hp
    refine ⟨_, by rw [e1]; exact k_rmN (by omega) (by omega) (by omega), ?_⟩
    rw [← Int32.ofNat_add, k_rmN (by omega) (by omega) (by omega), Nat.add_mod_right, Nat.mod_mod]
    have e2 : x + (p - a) = x - a + p := by omega
    rw [e2, Nat.add_mod_right]
  · have e1 : (Int32.ofNat x - Int32.ofNat a).toInt = -((a - x : Nat) : Int) := by rw [k_S, j_nat (by omega), j_nat (by omega)]; omega
    have e2 : (Int32.ofNat x - Int32.ofNat a) / Int32.ofNat p = 0 := by
      have z : (-(-((a - x : Nat) : Int))) / (p : Int) = 0 := Int.ediv_eq_zero_of_lt (by omega) (by omega)
      rw [j_eq, k_D _ _ (by rw [j_nat (by omega)]; omega), e1, j_nat (by omega)]
      unfold k_q
      rw [if_neg (by omega), z]
      rfl
    have e3 : Int32.ofNat x - Int32.ofNat a + Int32.ofNat p = Int32.ofNat (x + (p - a)) := by
      rw [j_eq, k_A, e1, j_nat (by omega), j_nat (by omega)]
      omega
    refine ⟨Int32.ofNat x - Int32.ofNat a, ?_, ?_⟩
    · unfold am_rm
      rw [if_neg (by rw [j_eq, j_nat (by omega), e0]; omega), e2, Int32.zero_mul, Int32.sub_zero]
    · rw [e3, k_rmN (by omega) (by omega) (by omega)]
theorem k_offR {D E : am_D} {r0 n c p a : Nat} {pos : Nat → Nat} (h : k_bl D E r0 n c pos) (hn : n ≤ 1200) (hp : 4 ≤ p) (hp2 : p ≤ 200) (ha : a < p) : f_X12_offBy (Int32.ofNat c) (Int32.ofNat p) (Int32.ofNat a) E = some (Int32.ofNat (k_off p c pos a)) := by
  have hc := h.1
  have key := k_ind (P := fun fu k => f_X12_offBy_L6 (Int32.ofNat c) (Int32.ofNat p) (Int32.ofNat a) E fu (Int32.ofNat (k_off p k pos a)) (Int32.ofNat k) = some (Int32.ofNat (k_off p c pos a))) c
    (by
      intro fu k hk ih
      obtain ⟨b1, b2, b3, b4⟩ := h.2.2 k hk
      obtain ⟨v, v1, v2⟩ := k_rmm (x := pos k) (show pos k < 100000 by omega) (show 0 < p by omega) (show p < 100000 by omega) ha
      have hm := k_m_lt (x := pos k) (a := a) (show 0 < p by omega)
      have em : am_mn (Int32.ofNat (k_m p (pos k) a)) (Int32.ofNat p - Int32.ofNat (k_m p (pos k) a)) = Int32.ofNat (min (k_m p (pos k) a) (p - k_m p (pos k) a)) := by
        rw [j_eq, j_mn, k_S, j_nat (by omega), j_nat (by omega), j_nat (by omega)]
        omega
      have es : Int32.ofNat (k_off p k pos a) + Int32.ofNat (min (k_m p (pos k) a) (p - k_m p (pos k) a)) = Int32.ofNat (k_off p (k + 1) pos a) := (Int32.ofNat_add _ _).symm
      rw [f_X12_offBy_L6, if_neg (by rw [j_le, j_nat (by omega), j_nat (by omega)]; omega), k_g (by omega) (by omega), b2, Option.bind_some, v1, Option.bind_some, v2, Option.bind_some, k_less, em, Option.bind_some, es, j_suc]
      exact ih) (by
      intro fu
      rw [f_X12_offBy_L6, if_pos (Int32.le_refl _)]) am_fu 0 (by omega) (by unfold am_fu; omega)
  have key : f_X12_offBy_L6 (Int32.ofNat c) (Int32.ofNat p) (Int32.ofNat a) E am_fu (0 : Int32) (0 : Int32) = _ := key
  unfold f_X12_offBy
  rw [key, Option.bind_some]
theorem k_l108 : am_ln 108 = 200 := by decide +kernel
def k_f108 (D D2 : am_D) : Prop := (∀ y, y ≠ 108 → D2.1 y = D.1 y) ∧ D2.2 = D.2
theorem k_fill108 (D : am_D) : ∃ D2, f_J7_fill_53178 108 0 D = some D2 ∧ (∀ t : Nat, t < 200 → D2.1 108 t = 0) ∧ k_f108 D D2 := by
  have key := k_ind (P := fun fu k => ∀ D1 : am_D, (∀ t : Nat, t < k → D1.1 108 t = 0) → k_f108 D D1 → ∃ D2, f_J7_fill_53178_L5 108 0 (Int32.ofNat 200) fu (Int32.ofNat k) D1 = some D2 ∧ (∀ t : Nat, t < 200 → D2.1 108 t = 0) ∧ k_f108 D D2) 200
    (by
      intro fu k hk ih D1 g1 f1
      rw [f_J7_fill_53178_L5, if_neg (by rw [j_le, j_nat (by omega), j_nat (by omega)]; omega), k_l108, k_p _ (by omega) (by omega), Option.bind_some, j_suc]
      refine ih _ (fun t ht => ?_) ⟨fun y hy => by rw [j_wI_ne _ _ _ hy]; exact f1.1 y hy, f1.2⟩
      rw [j_wI_at]
      by_cases c : t = k
      · rw [if_pos c]
      · rw [if_neg c]
        exact g1 t (by omega)) (by
      intro fu D1 g1 f1
      rw [f_J7_fill_53178_L5, if_pos (Int32.le_refl _)]
      exact ⟨D1, rfl, g1, f1⟩) am_fu 0 (by omega) (by unfold am_fu; omega) D (fun t ht => absurd ht (by omega)) ⟨fun _ _ => rfl, rfl⟩
  obtain ⟨D2, a1, a2⟩ := key
  have a1 : f_J7_fill_53178_L5 108 0 (Int32.ofNat 200) am_fu (0 : Int32) D = some D2 := a1
  refine ⟨D2, ?_, a2⟩
  unfold f_J7_fill_53178
  rw [k_l108, a1, Option.bind_some]
/-- the leavings counted -/
def k_lvs (D : am_D) (p c : Nat) (pos : Nat → Nat) : Prop := ∀ t : Nat, t < 200 → D.1 108 t = Int32.ofNat (k_lv1 p c pos t)
theorem k_bl_108 {D E D2 : am_D} {n c : Nat} {pos : Nat → Nat} (h : k_bl D E 106 n c pos) (f : k_f108 D D2) : k_bl D2 E 106 n c pos := ⟨h.1, by rw [f.1 106 (by omega)]; exact h.2.1, fun j hj => by rw [f.1 107 (by omega)]; exact h.2.2 j hj⟩
theorem k_try1 {D E : am_D} {n c p : Nat} {pos : Nat → Nat} (h : k_bl D E 106 n c pos) (hn : n ≤ 1200) (hp : 4 ≤ p) (hp2 : p ≤ 200) (hz : ∀ t : Nat, t < 200 → D.1 108 t = 0) :
    ∃ D2, f_X0_tryStep_L12 106 (Int32.ofNat p) am_fu 0 0 D = some (Int32.ofNat (k_off p c pos 0), D2) ∧ k_lvs D2 p c pos ∧ k_f108 D D2 := by
  have hc := h.1
  have e0 : (0 : Int32).toInt = 0 := rfl
  have e200 : (200 : Int32).toInt = 200 := rfl
  have key := k_ind (P := fun fu k => ∀ D1 : am_D, k_lvs D1 p k pos → k_f108 D D1 → ∃ D2, f_X0_tryStep_L12 106 (Int32.ofNat p) fu (Int32.ofNat (k_off p k pos 0)) (Int32.ofNat k) D1 = some (Int32.ofNat (k_off p c pos 0), D2) ∧ k_lvs D2 p c pos ∧ k_f108 D D2) c
    (by
      intro fu k hk ih D1 g1 f1
      obtain ⟨b1, b2, b3, b4⟩ := h.2.2 k hk
      have hb1 := k_bl_108 h f1
      have hat : f_X0_at 106 (Int32.ofNat k) D1 = some (Int32.ofNat (pos k)) := by
        have q := k_blat hb1 (Int32.ofNat k)
        rw [j_nat (by omega), if_pos (by omega)] at q
        have e : ((k : Nat) : Int).toNat = k := by omega
        rw [e] at q
        exact q
      have hl : pos k % p < p := Nat.mod_lt _ (by omega)
      have hleft : f_X11_left (Int32.ofNat (pos k)) (Int32.ofNat p) = some (Int32.ofNat (pos k % p)) := by
        unfold f_X11_left
        rw [if_neg (by rw [j_eq, j_nat (by omega), e0]; omega), k_rmN (by omega) (by omega) (by omega), Option.bind_some]
      obtain ⟨m, hm⟩ : ∃ m, m = pos k % p := ⟨_, rfl⟩
      rw [← hm] at hleft hl
      have hadd : f_X0_addLeaving 106 (Int32.ofNat m) D1 = some (am_wI D1 108 m (Int32.ofNat (k_lv1 p k pos m + 1))) := by
        unfold f_X0_addLeaving
        rw [if_neg (by rw [j_lt, j_nat (by omega), e0]; omega), if_neg (by rw [j_le, j_nat (by omega), e200]; omega), k_g (by omega) (by omega), g1 m (by omega), Option.bind_some, j_suc, k_p _ (by omega) (by omega), Option.bind_some]
      have em : am_mn (Int32.ofNat m) (Int32.ofNat p - Int32.ofNat m) = Int32.ofNat (min m (p - m)) := by
        rw [j_eq, j_mn, k_S, j_nat (by omega), j_nat (by omega), j_nat (by omega)]
        omega
      have es : k_off p (k + 1) pos 0 = k_off p k pos 0 + min m (p - m) := by
        show k_off p k pos 0 + min (k_m p (pos k) 0) (p - k_m p (pos k) 0) = _
        rw [k_m_0, hm]
      rw [f_X0_tryStep_L12, hb1.2.1, if_neg (by rw [j_le, j_nat (by omega), j_nat (by omega)]; omega), hat, Option.bind_some, hleft, Option.bind_some, hadd, Option.bind_some, em, ← Int32.ofNat_add, ← es, j_suc]
      refine ih _ (fun t ht => ?_) ⟨fun y hy => by rw [j_wI_ne _ _ _ hy]; exact f1.1 y hy, f1.2⟩
      have ek : k_lv1 p (k + 1) pos t = k_lv1 p k pos t + (if m = t then 1 else 0) := by
        show k_lv1 p k pos t + (if pos k % p = t then 1 else 0) = _
        rw [hm]
      rw [j_wI_at, ek]
      by_cases ct : t = m
      · rw [if_pos ct, if_pos ct.symm, ct]
      · rw [if_neg ct, if_neg (fun z => ct z.symm)]
        exact g1 t ht) (by
      intro fu D1 g1 f1
      rw [f_X0_tryStep_L12, f1.1 106 (by omega), h.2.1, if_pos (Int32.le_refl _)]
      exact ⟨D1, rfl, g1, f1⟩) am_fu 0 (by omega) (by unfold am_fu; omega) D (fun t ht => hz t ht) ⟨fun _ _ => rfl, rfl⟩
  exact key
theorem k_lat {D : am_D} {p c t : Nat} {pos : Nat → Nat} (h : k_lvs D p c pos) (ht : t < 200) : f_X0_leavingAt 106 (Int32.ofNat t) D = some (Int32.ofNat (k_lv1 p c pos t)) := by
  have e0 : (0 : Int32).toInt = 0 := rfl
  have e200 : (200 : Int32).toInt = 200 := rfl
  unfold f_X0_leavingAt
  rw [if_neg (by rw [j_lt, j_nat (by omega), e0]; omega), if_neg (by rw [j_le, j_nat (by omega), e200]; omega), k_g (by omega) (by omega), h t ht, Option.bind_some]
theorem k_try2 {D : am_D} {p c : Nat} {pos : Nat → Nat} (v : Int32) (h : k_lvs D p c pos) (hp : 4 ≤ p) (hp2 : p ≤ 200) : f_X0_tryStep_L65 106 (Int32.ofNat p) v (Int32.ofNat (p / 2)) D am_fu 0 1 = some (Int32.ofNat (k_near p c pos (p / 2) 0)) := by
  rw [k_near_0 (p / 2) (by omega)]
  have key := k_ind (P := fun fu k => f_X0_tryStep_L65 106 (Int32.ofNat p) v (Int32.ofNat (p / 2)) D fu (Int32.ofNat (k_ns (fun r => k_lv1 p c pos (r + 1)) k)) (Int32.ofNat (k + 1)) = some (Int32.ofNat (k_ns (fun r => k_lv1 p c pos (r + 1)) (p / 2)))) (p / 2)
    (by
      intro fu k hk ih
      rw [f_X0_tryStep_L65, if_neg (by rw [j_lt, j_nat (by omega), j_nat (by omega)]; omega), k_lat h (by omega), Option.bind_some, ← Int32.ofNat_add, j_suc]
      exact ih) (by
      intro fu
      rw [f_X0_tryStep_L65, if_pos (by rw [j_lt, j_nat (by omega), j_nat (by omega)]; omega)]) am_fu 0 (by omega) (by unfold am_fu; omega)
  exact key
