/-! beat: the numbers -/
def k_ns (g : Nat → Nat) : Nat → Nat
  | 0 => 0
  | n + 1 => k_ns g n + g n
theorem k_ns_add {g h : Nat → Nat} : ∀ n, k_ns (fun b => g b + h b) n = k_ns g n + k_ns h n
  | 0 => rfl
  | n + 1 => by
    show k_ns (fun b => g b + h b) n + (g n + h n) = k_ns g n + g n + (k_ns h n + h n)
    rw [k_ns_add n]
    omega
theorem k_ns_cong {g h : Nat → Nat} : ∀ n, (∀ b, b < n → g b = h b) → k_ns g n = k_ns h n
  | 0, _ => rfl
  | n + 1, e => by
    show k_ns g n + g n = k_ns h n + h n
    rw [k_ns_cong n (fun b hb => e b (by omega)), e n (by omega)]
theorem k_ns_const (v : Nat) : ∀ n, k_ns (fun _ => v) n = n * v
  | 0 => by rw [Nat.zero_mul]; rfl
  | n + 1 => by
    show k_ns (fun _ => v) n + v = _
    rw [k_ns_const v n, Nat.add_mul, Nat.one_mul]
theorem k_ns_le {g : Nat → Nat} {v : Nat} (h : ∀ b, g b ≤ v) : ∀ n, k_ns g n ≤ n * v
  | 0 => by rw [Nat.zero_mul]; exact Nat.le_refl _
  | n + 1 => by
    have := k_ns_le h n
    have e := h n
    show k_ns g n + g n ≤ _
    rw [Nat.add_mul, Nat.one_mul]
    omega
/-- how far a place lies behind the grid -/
def k_m (p x a : Nat) : Nat := (x + (p - a)) % p
theorem k_m_lt {p x a : Nat} (hp : 0 < p) : k_m p x a < p := Nat.mod_lt _ hp
theorem k_m_s {p x a : Nat} (ha : a < p) : k_m p x (a + 1) = if k_m p x a = 0 then p - 1 else k_m p x a - 1 := by
  unfold k_m
  have e : x + (p - a) = x + (p - (a + 1)) + 1 := by omega
  rw [e]
  generalize x + (p - (a + 1)) = y
  have hr : y % p < p := Nat.mod_lt _ (by omega)
  have hd := Nat.div_add_mod y p
  generalize y / p = q at hd
  by_cases c : y % p + 1 < p
  · have h2 : (y + 1) % p = y % p + 1 := by
      have e2 : y + 1 = p * q + (y % p + 1) := by omega
      rw [e2, Nat.mul_add_mod, Nat.mod_eq_of_lt c]
    rw [h2, if_neg (by omega)]
    omega
  · have h2 : (y + 1) % p = 0 := by
      have e2 : y + 1 = p * q + p := by omega
      rw [e2, Nat.mul_add_mod, Nat.mod_self]
    rw [h2, if_pos rfl]
    omega
theorem k_m_eq {p x a r : Nat} (ha : a ≤ p) (hr : r < p) : k_m p x a = r ↔ x % p = (a + r) % p := by
  unfold k_m
  constructor
  · intro h
    rw [← h, Nat.add_mod_mod]
    have e : a + (x + (p - a)) = x + p := by omega
    rw [e, Nat.add_mod_right]
  · intro h
    rw [← Nat.mod_add_mod, h, Nat.mod_add_mod]
    have e : a + r + (p - a) = r + p := by omega
    rw [e, Nat.add_mod_right, Nat.mod_eq_of_lt hr]
theorem k_m_0 (p x : Nat) : k_m p x 0 = x % p := by
  unfold k_m
  rw [Nat.sub_zero, Nat.add_mod_right]
/-- what the blows are off the grid -/
def k_off (p c : Nat) (pos : Nat → Nat) (a : Nat) : Nat := k_ns (fun b => min (k_m p (pos b) a) (p - k_m p (pos b) a)) c
def k_lv1 (p c : Nat) (pos : Nat → Nat) (t : Nat) : Nat := k_ns (fun b => if pos b % p = t then 1 else 0) c
def k_near (p c : Nat) (pos : Nat → Nat) (h a : Nat) : Nat := k_ns (fun b => if 1 ≤ k_m p (pos b) a ∧ k_m p (pos b) a ≤ h then 1 else 0) c
theorem k_cnt {p c a r : Nat} {pos : Nat → Nat} (ha : a ≤ p) (hr : r < p) : k_ns (fun b => if k_m p (pos b) a = r then 1 else 0) c = k_lv1 p c pos ((a + r) % p) := by
  unfold k_lv1
  refine k_ns_cong c fun b _ => ?_
  by_cases q : k_m p (pos b) a = r
  · rw [if_pos q, if_pos ((k_m_eq ha hr).mp q)]
  · rw [if_neg q, if_neg (fun z => q ((k_m_eq ha hr).mpr z))]
theorem k_off_s {p c a : Nat} {pos : Nat → Nat} (hp : 4 ≤ p) (ha : a < p) : k_off p c pos (a + 1) + 2 * k_near p c pos (p / 2) a + (if p % 2 = 1 then k_lv1 p c pos ((a + (p / 2 + 1)) % p) else 0) = k_off p c pos a + c := by
  have e1 : (if p % 2 = 1 then k_lv1 p c pos ((a + (p / 2 + 1)) % p) else 0) = k_ns (fun b => if p % 2 = 1 ∧ k_m p (pos b) a = p / 2 + 1 then 1 else 0) c := by
    by_cases q : p % 2 = 1
    · rw [if_pos q, ← k_cnt (by omega) (by omega)]
      refine k_ns_cong c fun b _ => ?_
      by_cases z : k_m p (pos b) a = p / 2 + 1
      · rw [if_pos z, if_pos ⟨q, z⟩]
      · rw [if_neg z, if_neg (fun y => z y.2)]
    · rw [if_neg q]
      have e : k_ns (fun b => if p % 2 = 1 ∧ k_m p (pos b) a = p / 2 + 1 then 1 else 0) c = k_ns (fun _ => 0) c := k_ns_cong c fun b _ => if_neg (fun y => q y.1)
      rw [e, k_ns_const, Nat.mul_zero]
  have e2 : c = k_ns (fun _ => 1) c := by rw [k_ns_const, Nat.mul_one]
  have e3 : k_off p c pos a + c = k_ns (fun b => min (k_m p (pos b) a) (p - k_m p (pos b) a) + 1) c := by
    unfold k_off
    rw [k_ns_add (h := fun _ => 1), ← e2]
  have e4 : 2 * k_near p c pos (p / 2) a = k_ns (fun b => (if 1 ≤ k_m p (pos b) a ∧ k_m p (pos b) a ≤ p / 2 then 1 else 0) + (if 1 ≤ k_m p (pos b) a ∧ k_m p (pos b) a ≤ p / 2 then 1 else 0)) c := by
    unfold k_near
    rw [k_ns_add]
    omega
  rw [e1, e3, e4]
  unfold k_off
  rw [← k_ns_add, ← k_ns_add]
  refine k_ns_cong c fun b _ => ?_
  have hm := k_m_lt (x := pos b) (a := a) (show 0 < p by omega)
  rw [k_m_s ha]
  generalize k_m p (pos b) a = m at hm
  by_cases c0 : m = 0
  · subst c0
    rw [if_pos rfl, if_neg (by omega), if_neg (by omega)]
    omega
  · rw [if_neg c0]
    by_cases c1 : m ≤ p / 2
    · rw [if_pos ⟨by omega, c1⟩, if_neg (by omega)]
      omega
    · rw [if_neg (fun z => c1 z.2)]
      by_cases c2 : p % 2 = 1 ∧ m = p / 2 + 1
      · rw [if_pos c2]
        omega
      · rw [if_neg c2]
        omega
theorem k_near_s {p c a : Nat} {pos : Nat → Nat} (hp : 4 ≤ p) (ha : a < p) : k_near p c pos (p / 2) (a + 1) + k_lv1 p c pos ((a + 1) % p) = k_near p c pos (p / 2) a + k_lv1 p c pos ((a + (p / 2 + 1)) % p) := by
  rw [← k_cnt (by omega) (show 1 < p by omega), ← k_cnt (by omega) (show p / 2 + 1 < p by omega)]
  unfold k_near
  rw [← k_ns_add, ← k_ns_add]
  refine k_ns_cong c fun b _ => ?_
  have hm := k_m_lt (x := pos b) (a := a) (show 0 < p by omega)
  rw [k_m_s ha]
  generalize k_m p (pos b) a = m at hm
  by_cases c0 : m = 0
  · subst c0
    rw [if_pos rfl, if_neg (by omega), if_neg (by omega), if_neg (by omega), if_neg (by omega)]
  · rw [if_neg c0]
    by_cases c1 : m ≤ p / 2
    · rw [if_pos (show 1 ≤ m ∧ m ≤ p / 2 by omega), if_neg (show ¬ m = p / 2 + 1 by omega)]
      by_cases c2 : m = 1
      · rw [if_neg (by omega), if_pos c2]
      · rw [if_pos (by omega), if_neg c2]
    · rw [if_neg (show ¬ (1 ≤ m ∧ m ≤ p / 2) by omega), if_neg (show ¬ m = 1 by omega)]
      by_cases c2 : m = p / 2 + 1
      · rw [if_pos (by omega), if_pos c2]
      · rw [if_neg (by omega), if_neg c2]
theorem k_near_0 {p c : Nat} {pos : Nat → Nat} : ∀ h : Nat, h < p → k_near p c pos h 0 = k_ns (fun r => k_lv1 p c pos (r + 1)) h
  | 0, _ => by
    unfold k_near
    have e : k_ns (fun b => if 1 ≤ k_m p (pos b) 0 ∧ k_m p (pos b) 0 ≤ 0 then 1 else 0) c = k_ns (fun _ => 0) c := k_ns_cong c fun b _ => if_neg (by omega)
    rw [e, k_ns_const, Nat.mul_zero]
    rfl
  | h + 1, hh => by
    show _ = k_ns (fun r => k_lv1 p c pos (r + 1)) h + k_lv1 p c pos (h + 1)
    rw [← k_near_0 h (by omega)]
    unfold k_near k_lv1
    rw [← k_ns_add]
    refine k_ns_cong c fun b _ => ?_
    rw [k_m_0]
    generalize pos b % p = m
    by_cases c1 : m = h + 1
    · rw [if_pos c1, if_pos (by omega), if_neg (by omega)]
    · rw [if_neg c1]
      by_cases c2 : 1 ≤ m ∧ m ≤ h
      · rw [if_pos c2, if_pos (by omega)]
      · rw [if_neg c2, if_neg (by omega)]
