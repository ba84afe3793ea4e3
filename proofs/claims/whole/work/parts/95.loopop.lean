/-! loop, the class's side and the operation -/
theorem k_l116 : am_ln 116 = 3 := by decide
def k_f116 (D D2 : am_D) : Prop := (∀ y, y ≠ 116 → D2.1 y = D.1 y) ∧ D2.2 = D.2
theorem k_loopC1 {D : am_D} {i n o c m : Nat} {f : Int → Int32} (hr : j_row D (30 + 2 * i) n f) (hi : i < 5) (hn : n ≤ 600) (ho : o ≤ 100) (hc : m ≤ c ∧ c + o ≤ n) (hm : 1 ≤ m) (v4 : Int32) (hst : k_cst (k_SS f o) (k_sw n o m c 0) v4 D) :
    ∃ u D2, f_X7_findLoop_L37 (30 + 2 * i) (Int32.ofNat m) (Int32.ofNat o) 116 (Int32.ofNat c) am_fu v4 (k_SS f o 0 c) 0 D = some (u, D2) ∧ k_cst (k_SS f o) (k_sw n o m (c - 1) 0) u D2 ∧ k_f116 D D2 := by
  obtain ⟨N, hN⟩ : ∃ N, N = n - c - o + 1 := ⟨_, rfl⟩
  have key := k_ind (P := fun fu k => ∀ (v4 : Int32) (D1 : am_D), k_cst (k_SS f o) (k_sw n o m c k) v4 D1 → k_f116 D D1 → ∃ u D2, f_X7_findLoop_L37 (30 + 2 * i) (Int32.ofNat m) (Int32.ofNat o) 116 (Int32.ofNat c) fu v4 (k_SS f o k c) (Int32.ofNat k) D1 = some (u, D2) ∧ k_cst (k_SS f o) (k_sw n o m (c - 1) 0) u D2 ∧ k_f116 D D2) N
    (by
      intro fu k hk ih v4 D1 h f1
      have hQ : ∀ x y, k_sw n o m c (k + 1) x y ↔ k_sw n o m c k x y ∨ (x = k ∧ y = c) := by
        intro x y
        unfold k_sw
        omega
      have p0 : ∀ (X : am_D) (z : Int32), am_pI X 116 3 (0 : Int32) z = some (am_wI X 116 0 z) := fun X z => k_p (k := 0) z (by omega) (by omega)
      have p1 : ∀ (X : am_D) (z : Int32), am_pI X 116 3 (1 : Int32) z = some (am_wI X 116 1 z) := fun X z => k_p (k := 1) z (by omega) (by omega)
      have p2 : ∀ (X : am_D) (z : Int32), am_pI X 116 3 (2 : Int32) z = some (am_wI X 116 2 z) := fun X z => k_p (k := 2) z (by omega) (by omega)
      have g2 : ∀ (X : am_D), am_gI X 116 3 (2 : Int32) = some (X.1 116 2) := fun X => k_g (k := 2) (by omega) (by omega)
      obtain ⟨s, hs⟩ : ∃ s, s = k_SS f o k c := ⟨_, rfl⟩
      -- the rest of one round, in any world
      have rest : ∀ (u : Int32) (D2 : am_D), k_f116 D D2 → ((some (u, D2) : Option (Int32 × am_D)).bind fun w23 => (f_X7_at (30 + 2 * i) (Int32.ofNat k + Int32.ofNat o) w23.2).bind fun x25 => (f_X7_at (30 + 2 * i) ((Int32.ofNat k + Int32.ofNat o) + Int32.ofNat c) w23.2).bind fun x27 => (f_X11_far x25 x27).bind fun x29 => (f_X7_at (30 + 2 * i) (Int32.ofNat k) w23.2).bind fun x31 => (f_X7_at (30 + 2 * i) (Int32.ofNat k + Int32.ofNat c) w23.2).bind fun x33 => (f_X11_far x31 x33).bind fun x35 => f_X7_findLoop_L37 (30 + 2 * i) (Int32.ofNat m) (Int32.ofNat o) 116 (Int32.ofNat c) fu w23.1 (k_SS f o k c + (x29 - x35)) (Int32.ofNat k + (1 : Int32)) w23.2) = f_X7_findLoop_L37 (30 + 2 * i) (Int32.ofNat m) (Int32.ofNat o) 116 (Int32.ofNat c) fu u (k_SS f o (k + 1) c) (Int32.ofNat (k + 1)) D2 := by
        intro u D2 f2
        have r2 : j_row D2 (30 + 2 * i) n f := j_row_fr hr (f2.1 _ (by omega)) (f2.1 _ (by omega))
        rw [Option.bind_some]
        dsimp only
        rw [← Int32.ofNat_add, ← Int32.ofNat_add, ← Int32.ofNat_add, j_row_at r2, Option.bind_some, j_row_at r2, Option.bind_some, k_cfar, Option.bind_some, j_row_at r2, Option.bind_some, j_row_at r2, Option.bind_some, k_cfar, Option.bind_some, j_suc, j_nat (by omega), j_nat (by omega), j_nat (by omega), j_nat (by omega), ← k_SS_slide]
      have wr : ∀ X : am_D, k_f116 D X → k_f116 D (am_wI (am_wI (am_wI X 116 0 (Int32.ofNat k)) 116 1 (Int32.ofNat k + Int32.ofNat c)) 116 2 s) := fun X hX => ⟨fun y hy => by rw [j_wI_ne _ _ _ hy, j_wI_ne _ _ _ hy, j_wI_ne _ _ _ hy]; exact hX.1 y hy, hX.2⟩
      have ws : k_lp (k_SS f o) (k_sw n o m c (k + 1)) k c → k_cst (k_SS f o) (k_sw n o m c (k + 1)) 1 (am_wI (am_wI (am_wI D1 116 0 (Int32.ofNat k)) 116 1 (Int32.ofNat k + Int32.ofNat c)) 116 2 s) := fun z => Or.inr ⟨rfl, k, c, z, by rw [k_wj _ _ (by decide), k_wj _ _ (by decide), k_ws], by rw [k_wj _ _ (by decide), k_ws, ← Int32.ofNat_add], by rw [k_ws, hs]⟩
      have hlen : D1.1 (30 + 2 * i) 1 = Int32.ofNat n := by rw [f1.1 _ (by omega)]; exact hr.2.2.1
      rw [f_X7_findLoop_L37, hlen, if_neg (by rw [← Int32.ofNat_add, ← Int32.ofNat_add, j_lt, j_nat (by omega), j_nat (by omega)]; omega), k_l116]
      rcases h with ⟨h0, hno⟩ | ⟨h1, fr, w, hl, b0, b1, b2⟩
      · rw [if_pos h0, ← hs, p0, Option.bind_some, p1, Option.bind_some, p2, Option.bind_some, hs, rest _ _ (hs ▸ wr D1 f1)]
        exact ih 1 _ (hs ▸ ws (k_lp_first hQ hno)) (hs ▸ wr D1 f1)
      · have hin := hl.1
        unfold k_sw at hin
        rw [if_neg (by rw [h1]; exact k_10), g2, b2, Option.bind_some]
        by_cases c1 : k_SS f o fr w ≤ k_SS f o k c
        · rw [if_pos c1, rest _ _ f1]
          rw [j_le] at c1
          refine ih v4 D1 (Or.inr ⟨h1, fr, w, k_lp_keep hQ hl ?_, b0, b1, b2⟩) f1
          omega
        · rw [if_neg c1, ← hs, p0, Option.bind_some, p1, Option.bind_some, p2, Option.bind_some, hs, rest _ _ (hs ▸ wr D1 f1)]
          rw [j_le] at c1
          exact ih 1 _ (hs ▸ ws (k_lp_take hQ hl (Or.inl (by omega)))) (hs ▸ wr D1 f1)) (by
      intro fu v4 D1 h f1
      have hlen : D1.1 (30 + 2 * i) 1 = Int32.ofNat n := by rw [f1.1 _ (by omega)]; exact hr.2.2.1
      rw [f_X7_findLoop_L37, hlen, if_pos (by rw [← Int32.ofNat_add, ← Int32.ofNat_add, j_lt, j_nat (by omega), j_nat (by omega)]; omega)]
      refine ⟨v4, D1, rfl, k_cst_cong h fun x y => ?_, f1⟩
      unfold k_sw
      omega) am_fu 0 (by omega) (by unfold am_fu; omega) v4 D hst ⟨fun _ _ => rfl, rfl⟩
  exact key
theorem k_loopC {D : am_D} {i n o m : Nat} {f : Int → Int32} (hr : j_row D (30 + 2 * i) n f) (hi : i < 5) (hn : n ≤ 600) (ho : o ≤ 100) (hm : 1 ≤ m ∧ m ≤ 600) :
    ∃ u D2, f_X7_findLoop (30 + 2 * i) (Int32.ofNat m) (Int32.ofNat o) 116 D = some (u, D2) ∧ k_cst (k_SS f o) (fun x y => m ≤ y ∧ x + y + o ≤ n) u D2 ∧ k_f116 D D2 := by
  have e0 : (0 : Int32).toInt = 0 := rfl
  have fin : ∀ (u : Int32) (D2 : am_D), f_X7_findLoop_L11 (30 + 2 * i) (Int32.ofNat m) (Int32.ofNat o) 116 am_fu 0 (Int32.ofNat n - Int32.ofNat o) D = some (u, D2) → k_cst (k_SS f o) (fun x y => m ≤ y ∧ x + y + o ≤ n) u D2 → f_X7_findLoop (30 + 2 * i) (Int32.ofNat m) (Int32.ofNat o) 116 D = some (u, D2) := by
    intro u D2 h g
    have hz : am_zb u = some u := by
      unfold am_zb
      rcases g with ⟨h0, _⟩ | ⟨h1, _⟩
      · rw [if_pos (Or.inl h0)]
      · rw [if_pos (Or.inr h1)]
    have h : f_X7_findLoop_L11 (30 + 2 * i) (Int32.ofNat m) (Int32.ofNat o) 116 am_fu (0 : Int32) (Int32.ofNat n - Int32.ofNat o) D = some (u, D2) := h
    unfold f_X7_findLoop
    rw [hr.2.2.1, h, Option.bind_some]
    dsimp only
    rw [hz, Option.bind_some]
  by_cases c : m + o ≤ n
  · obtain ⟨N, hN⟩ : ∃ N, N = n - o - m + 1 := ⟨_, rfl⟩
    have key := k_ind (P := fun fu k => ∀ (v4 : Int32) (D1 : am_D), k_cst (k_SS f o) (k_sw n o m (n - o - k) 0) v4 D1 → k_f116 D D1 → ∃ u D2, f_X7_findLoop_L11 (30 + 2 * i) (Int32.ofNat m) (Int32.ofNat o) 116 fu v4 (Int32.ofNat (n - o - k)) D1 = some (u, D2) ∧ k_cst (k_SS f o) (fun x y => m ≤ y ∧ x + y + o ≤ n) u D2 ∧ k_f116 D D2) N
      (by
        intro fu k hk ih v4 D1 h f1
        have r1 : j_row D1 (30 + 2 * i) n f := j_row_fr hr (f1.1 _ (by omega)) (f1.1 _ (by omega))
        have hu := j_row_unlike r1 r1 0 (Int32.ofNat (n - o - k)) o (by omega) (by rw [e0]; omega) (by rw [e0]; omega) (by rw [j_nat (by omega)]; omega) (by rw [j_nat (by omega)]; omega)
        have eu : j_unl f f (0 : Int32).toInt (Int32.ofNat (n - o - k)).toInt o = k_SS f o 0 (n - o - k) := by
          rw [e0, j_nat (by omega)]
          unfold k_SS
          have e : ((0 : Nat) : Int) + ((n - o - k : Nat) : Int) = ((n - o - k : Nat) : Int) := by omega
          rw [e]
          rfl
        obtain ⟨u, D2, a1, a2, a3⟩ := k_loopC1 r1 hi hn ho (show m ≤ n - o - k ∧ n - o - k + o ≤ n by omega) hm.1 v4 h
        have a1 : f_X7_findLoop_L37 (30 + 2 * i) (Int32.ofNat m) (Int32.ofNat o) 116 (Int32.ofNat (n - o - k)) am_fu v4 (k_SS f o 0 (n - o - k)) (0 : Int32) D1 = some (u, D2) := a1
        have e1 : Int32.ofNat (n - o - k) + (-1 : Int32) = Int32.ofNat (n - o - (k + 1)) := by
          have em1 : (-1 : Int32).toInt = -1 := rfl
          rw [j_eq, k_A, em1, j_nat (by omega), j_nat (by omega)]
          omega
        rw [f_X7_findLoop_L11, if_neg (by rw [j_lt, j_nat (by omega), j_nat (by omega)]; omega), k_l116, if_neg (show ¬ Int32.ofNat 3 < 3 from (by decide)), hu, Option.bind_some, eu, a1, Option.bind_some, e1]
        exact ih u D2 a2 ⟨fun y hy => (a3.1 y hy).trans (f1.1 y hy), a3.2.trans f1.2⟩) (by
        intro fu v4 D1 h f1
        rw [f_X7_findLoop_L11, if_pos (by rw [j_lt, j_nat (by omega), j_nat (by omega)]; omega)]
        refine ⟨v4, D1, rfl, k_cst_cong h fun x y => ?_, f1⟩
        unfold k_sw
        omega) am_fu 0 (by omega) (by unfold am_fu; omega) 0 D (Or.inl ⟨rfl, fun a b h => by unfold k_sw at h; omega⟩) ⟨fun _ _ => rfl, rfl⟩
    obtain ⟨u, D2, a1, a2, a3⟩ := key
    have eno : Int32.ofNat n - Int32.ofNat o = Int32.ofNat (n - o - 0) := by rw [j_eq, k_S, j_nat (by omega), j_nat (by omega), j_nat (by omega)]; omega
    exact ⟨u, D2, fin u D2 (by rw [eno]; exact a1) a2, a2, a3⟩
  · have g : k_cst (k_SS f o) (fun x y => m ≤ y ∧ x + y + o ≤ n) 0 D := Or.inl ⟨rfl, fun a b h => by omega⟩
    refine ⟨0, D, fin 0 D ?_ g, g, fun _ _ => rfl, rfl⟩
    have e : am_fu = 4999 + 1 := rfl
    rw [e, f_X7_findLoop_L11, if_pos (by rw [j_lt, k_S, j_nat (by omega), j_nat (by omega), j_nat (by omega)]; omega)]
theorem op_loop {D E : am_D} (h : k_Q D E) (p a b : Int32) : k_opE D E (f_X11_loop p a b D) (f_X12_loop p a b E) ["java/util/NoSuchElementException", "java/lang/IllegalArgumentException"] := by
  obtain ⟨E0, hE0, t0, f0, q0⟩ := k_start h
  have q0' := q0
  obtain ⟨ns, nm, nw, np, nh, ni, h1, h2, h3, h4, h5, h6, h7, h8, h9⟩ := q0'

  have hns := h1.1
  have e0 : (0 : Int32).toInt = 0 := rfl
  have e1 : (1 : Int32).toInt = 1 := rfl
  have e2 : (2 : Int32).toInt = 2 := rfl
  have em1 : (-1 : Int32).toInt = -1 := rfl
  have e600 : (600 : Int32).toInt = 600 := rfl
  unfold f_X12_loop
  rw [Option.bind_some, ← hE0, k_isS _ h1.2.2.1 h1.1, Option.bind_some]
  by_cases c : 0 ≤ p.toInt ∧ p.toInt < ns
  · obtain ⟨i, rfl, hi⟩ := k_ix c
    obtain ⟨n, g, bs⟩ := h1.2.2.2 i hi
    have hn1 := bs.1
    have hn2 := bs.2.1
    rw [if_pos c, k_nT E0 1 t0, if_pos rfl]
    dsimp only
    have chk : ∀ F : Int32 → Int32 → Int32 → Option Int32, (∀ x a b : Int32, F x a b = some (if a.toInt ≤ x.toInt ∧ x.toInt ≤ b.toInt then 1 else 0)) → ∀ y z : Int32, ((F a 1 600).bind fun x2 => if x2 = 0 then some y else (F b 0 2).bind fun x5 => if x5 = 0 then some y else some z) = some (if (1 ≤ a.toInt ∧ a.toInt ≤ 600) ∧ (0 ≤ b.toInt ∧ b.toInt ≤ 2) then z else y) := by
      intro F hF y z
      rw [hF, hF, e0, e1, e2, e600, Option.bind_some]
      by_cases c1 : 1 ≤ a.toInt ∧ a.toInt ≤ 600
      · rw [if_pos c1, if_neg k_10, Option.bind_some]
        by_cases c2 : 0 ≤ b.toInt ∧ b.toInt ≤ 2
        · rw [if_pos c2, if_neg k_10, if_pos ⟨c1, c2⟩]
        · rw [if_neg c2, if_pos rfl, if_neg (fun z => c2 z.2)]
      · rw [if_neg c1, if_pos rfl, if_neg (fun z => c1 z.1)]
    rw [← Option.bind_assoc, chk _ k_in, Option.bind_some]
    have cls0 : f_X11_loop (Int32.ofNat i) a b D = am_btD (f_X11_need (if (1 ≤ a.toInt ∧ a.toInt ≤ 600) ∧ (0 ≤ b.toInt ∧ b.toInt ≤ 2) then 1 else 0)) D fun x12 => (f_X7_findLoop (30 + 2 * i) a (D.1 23 1) 116 D).bind fun x14 => if x14.1 = 0 then some (.inr ((-1 : Int32), x14.2)) else (am_gI x14.2 116 3 b).bind fun x16 => some (.inr (x16, x14.2)) := by
      unfold f_X11_loop
      rw [k_soT h1.2.1 h1.1 hi, k_btR, ← Option.bind_assoc, chk _ k_cwithin, Option.bind_some]
    rw [cls0]
    by_cases cc : (1 ≤ a.toInt ∧ a.toInt ≤ 600) ∧ (0 ≤ b.toInt ∧ b.toInt ≤ 2)
    · rw [if_pos cc, if_pos cc, k_needT, k_b0 t0, Option.bind_some, if_pos rfl]
      dsimp only
      obtain ⟨m, rfl, hm1, hm2⟩ := k_natOf (lo := 1) (hi := 600) cc.1
      obtain ⟨z, rfl, hz1, hz2⟩ := k_natOf (lo := 0) (hi := 2) cc.2
      obtain ⟨w, o, s, hps⟩ := h3.1
      have hpv := hps.1
      unfold k_pv at hpv
      obtain ⟨u, D2, a1, a2, a3⟩ := k_loopC (m := m) bs.2.2.1 (show i < 5 by omega) hn2 (show o ≤ 100 by omega) ⟨hm1, hm2⟩
      obtain ⟨u4, u5, u6, r1, r2⟩ := k_loopR (m := m) (Int32.ofNat z) bs (show i < 5 by omega) hps.2.2.2.2.2.1 (show o ≤ 100 by omega) ⟨hm1, hm2⟩
      have r1 : f_X12_loop_L73 (Int32.ofNat i) (Int32.ofNat m) (Int32.ofNat z) E0 am_fu (-1 : Int32) (0 : Int32) (0 : Int32) (0 : Int32) = some (u4, u5, u6) := r1
      have q2 : k_Q D2 E0 := k_Q_sc q0 (fun y hy _ => a3.1 y (by omega)) ⟨fun _ _ => rfl, fun _ _ => rfl, fun _ _ => ⟨rfl, rfl⟩, fun _ _ => rfl, fun _ _ _ _ _ _ _ => rfl⟩
      have fc : k_fc D D2 := fun y hy => ⟨a3.1 y (by omega), by rw [a3.2]⟩
      rw [hps.2.2.1, a1, r1, Option.bind_some, Option.bind_some]
      dsimp only
      rcases a2 with ⟨g0, gno⟩ | ⟨g1, fr, wy, gl, b0, b1, b2⟩
      · rcases r2 with ⟨k0, _⟩ | ⟨fr, wy, kl, _⟩
        · rw [if_pos g0, if_pos k0]
          exact k_valE _ q2 t0 f0 fc rfl rfl
        · exact absurd kl.1 (gno fr wy)
      · rcases r2 with ⟨_, kno⟩ | ⟨fr2, wy2, kl, k4, k5, k6⟩
        · exact absurd gl.1 (kno fr wy)
        · obtain ⟨x1, x2⟩ := k_lp_uniq gl kl
          subst x1
          subst x2
          have hin := gl.1
          rw [if_neg (by rw [g1]; exact k_10), if_neg (by rw [k4, j_eq, j_nat (by omega), em1]; omega), k_g (by omega) (by omega), Option.bind_some]
          have cz : z = 0 ∨ z = 1 ∨ z = 2 := by omega
          rcases cz with rfl | rfl | rfl
          · rw [if_pos (show Int32.ofNat 0 = 0 from rfl), b0, ← k4]
            exact k_valE _ q2 t0 f0 fc rfl rfl
          · rw [if_neg (show ¬ Int32.ofNat 1 = 0 from k_10), if_pos (show Int32.ofNat 1 = (1 : Int32) from rfl), b1, ← k5]
            exact k_valE _ q2 t0 f0 fc rfl rfl
          · rw [if_neg (show ¬ Int32.ofNat 2 = 0 from (by decide)), if_neg (show ¬ Int32.ofNat 2 = (1 : Int32) from (by decide)), b2, ← k6]
            exact k_valE _ q2 t0 f0 fc rfl rfl
    · rw [if_neg cc, if_neg cc, k_needF, k_b1 t0 2 (by decide), Option.bind_some, if_neg k_10]
      exact k_refE 0 1 _ q0 f0 (k_fc_refl D) rfl rfl rfl
  · unfold f_X11_loop
    rw [k_soF h1.2.1 h1.1 c, k_btL, if_neg c, k_nF E0 1 k_10 t0, if_neg k_10]
    exact k_refE 0 0 _ q0 f0 (k_fc_refl D) rfl rfl rfl
