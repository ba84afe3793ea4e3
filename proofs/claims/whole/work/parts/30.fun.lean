def f_X7_at (r0 : Nat) (p1 : Int32) (D : am_D) : Option (Int32) :=
    if p1 < 0 then
    some (0 : Int32)
    else
    if (D.1 r0 1) ≤ p1 then
    some (0 : Int32)
    else
    if (Int32.ofNat (am_ln (r0 + 1))) ≤ p1 then
    some (0 : Int32)
    else
    (am_gI D (r0 + 1) (am_ln (r0 + 1)) p1).bind fun x4 =>
    some x4
set_option maxRecDepth 100000 in
set_option maxHeartbeats 4000000 in
theorem c_X7_at {E : am_E} (hE : am_EH E) {r0 : Nat} {p1 : Int32} {D : am_D} {r : Int32} (h_r0 : am_sh am_G0 r0 = some (7, 2)) (hf : f_X7_at r0 p1 D = some r) : am_C E mX7_at 1 0 0 [.ref r0, .int p1] am_G0 D (.inl (some (.int r))) am_G0 D := by
  refine am_C_of (by decide +kernel) (Nat.le_of_ble_eq_true rfl) ?_
  change am_S E mX7_at 1 0 0 (.inl (some (.int r))) am_G0 D 0 0 0 [(0, .ref r0), (1, .int p1)] [] am_G0 D
  unfold f_X7_at at hf
  refine am_iload_n (am_dec tmX7_at 0 rfl) rfl rfl ?_
  refine am_if_lt (tgt := 30) (am_dec tmX7_at 1 rfl) (by decide) (fun c1 => ?_) (fun c1 => ?_)
  · rw [if_pos c1] at hf
    refine am_iconst (v := (0 : Int32)) (am_dec tmX7_at 16 rfl) (by decide) ?_
    have hf := Option.some.inj hf
    subst hf
    exact am_iret (am_dec tmX7_at 17 rfl) rfl (Nat.zero_le _) (Nat.zero_le _)
  · rw [if_neg c1] at hf
    refine am_iload_n (am_dec tmX7_at 2 rfl) rfl rfl ?_
    refine am_aload_n (am_dec tmX7_at 3 rfl) rfl rfl ?_
    refine am_getI (j := 1) hE (am_dec tmX7_at 4 rfl) h_r0 cf7 (by decide) rfl lf_X7_25 ?_
    refine am_icmp_ge (tgt := 30) (am_dec tmX7_at 5 rfl) (by decide) (fun c2 => ?_) (fun c2 => ?_)
    · rw [if_pos c2] at hf
      refine am_iconst (v := (0 : Int32)) (am_dec tmX7_at 16 rfl) (by decide) ?_
      have hf := Option.some.inj hf
      subst hf
      exact am_iret (am_dec tmX7_at 17 rfl) rfl (Nat.zero_le _) (Nat.zero_le _)
    · rw [if_neg c2] at hf
      refine am_iload_n (am_dec tmX7_at 6 rfl) rfl rfl ?_
      refine am_aload_n (am_dec tmX7_at 7 rfl) rfl rfl ?_
      refine am_getR (j := 0) hE (am_dec tmX7_at 8 rfl) h_r0 cf7 (by decide) rfl lf_X7_15 (ro_X7_0_0 h_r0) ?_
      refine am_alen (t := 0) (v := (Int32.ofNat (am_ln (r0 + 1)))) hE (am_dec tmX7_at 9 rfl) (so_X7_1 h_r0) (by decide) rfl ?_
      refine am_icmp_ge (tgt := 30) (am_dec tmX7_at 10 rfl) (by decide) (fun c3 => ?_) (fun c3 => ?_)
      · rw [if_pos c3] at hf
        refine am_iconst (v := (0 : Int32)) (am_dec tmX7_at 16 rfl) (by decide) ?_
        have hf := Option.some.inj hf
        subst hf
        exact am_iret (am_dec tmX7_at 17 rfl) rfl (Nat.zero_le _) (Nat.zero_le _)
      · rw [if_neg c3] at hf
        refine am_aload_n (am_dec tmX7_at 11 rfl) rfl rfl ?_
        refine am_getR (j := 0) hE (am_dec tmX7_at 12 rfl) h_r0 cf7 (by decide) rfl lf_X7_15 (ro_X7_0_0 h_r0) ?_
        refine am_iload_n (am_dec tmX7_at 13 rfl) rfl rfl ?_
        obtain ⟨x4, g5, hf⟩ := am_bd hf
        refine am_iald2 hE (am_dec tmX7_at 14 rfl) (so_X7_1 h_r0) g5 ?_
        refine am_goto (tgt := 31) (am_dec tmX7_at 15 rfl) (by decide) ?_
        have hf := Option.some.inj hf
        subst hf
        exact am_iret (am_dec tmX7_at 17 rfl) rfl (Nat.zero_le _) (Nat.zero_le _)
def f_X7_loud (r0 : Nat) (p1 : Int32) (D : am_D) : Option (Int32) :=
    (f_X7_at r0 p1 D).bind fun x2 =>
    some (am_ab x2)
set_option maxRecDepth 100000 in
set_option maxHeartbeats 4000000 in
theorem c_X7_loud {E : am_E} (hE : am_EH E) {r0 : Nat} {p1 : Int32} {D : am_D} {r : Int32} (h_r0 : am_sh am_G0 r0 = some (7, 2)) (hf : f_X7_loud r0 p1 D = some r) : am_C E mX7_loud 2 0 0 [.ref r0, .int p1] am_G0 D (.inl (some (.int r))) am_G0 D := by
  refine am_C_of (by decide +kernel) (Nat.le_of_ble_eq_true rfl) ?_
  change am_S E mX7_loud 2 0 0 (.inl (some (.int r))) am_G0 D 0 0 0 [(0, .ref r0), (1, .int p1)] [] am_G0 D
  unfold f_X7_loud at hf
  refine am_aload_n (am_dec tmX7_loud 0 rfl) rfl rfl ?_
  refine am_iload_n (am_dec tmX7_loud 1 rfl) rfl rfl ?_
  obtain ⟨x2, g1, hf⟩ := am_bd hf
  refine am_callV1 (As := [.int p1]) (st := []) hE (am_dec tmX7_loud 2 rfl) ok_X7_at rfl lm_X7_35 in_X7_at se_X7_at h_r0 cf7 (c_X7_at hE h_r0 g1) rfl (by decide) (Nat.le_of_ble_eq_true rfl) (Nat.zero_le _) (Nat.zero_le _) rfl ?_
  refine am_mabs2 (am_dec tmX7_loud 3 rfl) lm_X7_39 (Nat.le_of_ble_eq_true rfl) (Nat.zero_le _) (Nat.zero_le _) ?_
  have hf := Option.some.inj hf
  subst hf
  exact am_iret (am_dec tmX7_loud 4 rfl) rfl (Nat.zero_le _) (Nat.zero_le _)
def f_X7_loudest_L5 (q0 : Nat) (q1 : Int32) (q2 : Int32) (D : am_D) : Nat → Int32 → Int32 → Option (Int32)
  | 0, _, _ => none
  | n + 1, v3, v4 =>
    if q2 ≤ v4 then
    some (v3)
    else
    (f_X7_at q0 (q1 + v4) D).bind fun x3 =>
    f_X7_loudest_L5 q0 q1 q2 D n (am_mx v3 (am_ab x3)) (v4 + (1 : Int32))
def f_X7_loudest (r0 : Nat) (p1 : Int32) (p2 : Int32) (D : am_D) : Option (Int32) :=
    (f_X7_loudest_L5 r0 p1 p2 D am_fu (0 : Int32) (0 : Int32)).bind fun e4 =>
    some e4
set_option maxRecDepth 100000 in
set_option maxHeartbeats 4000000 in
theorem l_X7_loudest_L5 {E : am_E} (hE : am_EH E) {d mc ms : Nat} {o : am_O} {G2 : am_G} {D2 : am_D} (hdp : 2 ≤ d) {q0 : Nat} {q1 : Int32} {q2 : Int32} {D : am_D} (h_q0 : am_sh am_G0 q0 = some (7, 2)) : ∀ (n : Nat) (v3 : Int32) (v4 : Int32) (ex0 : Int32), f_X7_loudest_L5 q0 q1 q2 D n v3 v4 = some ex0 → (∀ ex : Int32, ex0 = ex → am_S E mX7_loudest d mc ms o G2 D2 0 0 33 [(3, .int ex)] [] am_G0 D) → am_S E mX7_loudest d mc ms o G2 D2 0 0 5 [(0, .ref q0), (1, .int q1), (2, .int q2), (3, .int v3), (4, .int v4)] [] am_G0 D
  | 0, _, _, _, hf, _ => by
    unfold f_X7_loudest_L5 at hf
    cases hf
  | n + 1, v3, v4, ex0, hf, hk0 => by
    unfold f_X7_loudest_L5 at hf
    refine am_iload (am_dec tmX7_loudest 4 rfl) rfl ?_
    refine am_iload_n (am_dec tmX7_loudest 5 rfl) rfl rfl ?_
    refine am_icmp_ge (tgt := 33) (am_dec tmX7_loudest 6 rfl) (by decide) (fun c1 => ?_) (fun c1 => ?_)
    · rw [if_pos c1] at hf
      have hf := Option.some.inj hf
      subst hf
      exact am_pick [3] rfl (hk0 _ rfl)
    · rw [if_neg c1] at hf
      refine am_iload_n (am_dec tmX7_loudest 7 rfl) rfl rfl ?_
      refine am_aload_n (am_dec tmX7_loudest 8 rfl) rfl rfl ?_
      refine am_iload_n (am_dec tmX7_loudest 9 rfl) rfl rfl ?_
      refine am_iload (am_dec tmX7_loudest 10 rfl) rfl ?_
      refine am_iadd (am_dec tmX7_loudest 11 rfl) ?_
      obtain ⟨x3, g2, hf⟩ := am_bd hf
      refine am_callV1 (As := [.int (q1 + v4)]) (st := [.int v3]) hE (am_dec tmX7_loudest 12 rfl) ok_X7_at rfl lm_X7_35 in_X7_at se_X7_at h_q0 cf7 (c_X7_at hE h_q0 g2) rfl (Nat.lt_of_lt_of_le (by decide) hdp) (Nat.le_of_ble_eq_true rfl) (Nat.zero_le _) (Nat.zero_le _) rfl ?_
      refine am_mabs2 (am_dec tmX7_loudest 13 rfl) lm_X7_39 (Nat.le_of_ble_eq_true rfl) (Nat.zero_le _) (Nat.zero_le _) ?_
      refine am_mmax2 (am_dec tmX7_loudest 14 rfl) lm_X7_9 (Nat.le_of_ble_eq_true rfl) (Nat.zero_le _) (Nat.zero_le _) ?_
      refine am_istore_n (lv' := [(0, .ref q0), (1, .int q1), (2, .int q2), (3, .int (am_mx v3 (am_ab x3))), (4, .int v4)]) (am_dec tmX7_loudest 15 rfl) rfl (by decide) rfl ?_
      refine am_iinc (v := (1 : Int32)) (lv' := [(0, .ref q0), (1, .int q1), (2, .int q2), (3, .int (am_mx v3 (am_ab x3))), (4, .int (v4 + (1 : Int32)))]) (am_dec tmX7_loudest 16 rfl) rfl (by decide) (by decide) rfl ?_
      refine am_goto (tgt := 5) (am_dec tmX7_loudest 17 rfl) (by decide) ?_
      exact am_pick [0, 1, 2, 3, 4] rfl (l_X7_loudest_L5 hE hdp h_q0 n (am_mx v3 (am_ab x3)) (v4 + (1 : Int32)) ex0 hf hk0)
set_option maxRecDepth 100000 in
set_option maxHeartbeats 4000000 in
theorem c_X7_loudest {E : am_E} (hE : am_EH E) {r0 : Nat} {p1 : Int32} {p2 : Int32} {D : am_D} {r : Int32} (h_r0 : am_sh am_G0 r0 = some (7, 2)) (hf : f_X7_loudest r0 p1 p2 D = some r) : am_C E mX7_loudest 2 0 0 [.ref r0, .int p1, .int p2] am_G0 D (.inl (some (.int r))) am_G0 D := by
  refine am_C_of (by decide +kernel) (Nat.le_of_ble_eq_true rfl) ?_
  change am_S E mX7_loudest 2 0 0 (.inl (some (.int r))) am_G0 D 0 0 0 [(0, .ref r0), (1, .int p1), (2, .int p2)] [] am_G0 D
  unfold f_X7_loudest at hf
  refine am_iconst (v := (0 : Int32)) (am_dec tmX7_loudest 0 rfl) (by decide) ?_
  refine am_istore_n (lv' := [(0, .ref r0), (1, .int p1), (2, .int p2), (3, .int (0 : Int32))]) (am_dec tmX7_loudest 1 rfl) rfl (by decide) rfl ?_
  refine am_iconst (v := (0 : Int32)) (am_dec tmX7_loudest 2 rfl) (by decide) ?_
  refine am_istore (lv' := [(0, .ref r0), (1, .int p1), (2, .int p2), (3, .int (0 : Int32)), (4, .int (0 : Int32))]) (am_dec tmX7_loudest 3 rfl) (by decide) rfl ?_
  obtain ⟨e4, g5, hf⟩ := am_bd hf
  refine am_pick [0, 1, 2, 3, 4] rfl (l_X7_loudest_L5 hE (Nat.le_refl _) h_r0 am_fu _ _ _ g5 (fun ex he => ?_))
  subst he
  refine am_iload_n (am_dec tmX7_loudest 18 rfl) rfl rfl ?_
  have hf := Option.some.inj hf
  subst hf
  exact am_iret (am_dec tmX7_loudest 19 rfl) rfl (Nat.zero_le _) (Nat.zero_le _)
def f_X0_isBlow (p0 : Nat) (p1 : Int32) (D : am_D) : Option (Int32) :=
    (f_X7_loud p0 p1 D).bind fun x2 =>
    if x2 < (D.1 17 11) then
    some (0 : Int32)
    else
    (f_X7_loudest p0 (p1 - (D.1 17 13)) (D.1 17 13) D).bind fun x5 =>
    if x2 < ((D.1 17 12) * x5) then
    some (0 : Int32)
    else
    some (1 : Int32)
set_option maxRecDepth 100000 in
set_option maxHeartbeats 4000000 in
theorem c_X0_isBlow {E : am_E} (hE : am_EH E) {p0 : Nat} {p1 : Int32} {D : am_D} {r : Int32} (h_p0 : am_sh am_G0 p0 = some (7, 2)) (hf : f_X0_isBlow p0 p1 D = some r) : am_C E mX0_isBlow 3 0 0 [.ref p0, .int p1, .ref 17] am_G0 D (.inl (some (.int r))) am_G0 D := by
  refine am_C_of (by decide +kernel) (Nat.le_of_ble_eq_true rfl) ?_
  change am_S E mX0_isBlow 3 0 0 (.inl (some (.int r))) am_G0 D 0 0 0 [(0, .ref p0), (1, .int p1), (2, .ref 17)] [] am_G0 D
  unfold f_X0_isBlow at hf
  refine am_aload_n (am_dec tmX0_isBlow 0 rfl) rfl rfl ?_
  refine am_iload_n (am_dec tmX0_isBlow 1 rfl) rfl rfl ?_
  obtain ⟨x2, g1, hf⟩ := am_bd hf
  refine am_callV1 (As := [.int p1]) (st := []) hE (am_dec tmX0_isBlow 2 rfl) ok_X7_loud rfl lm_X0_34 in_X7_loud se_X7_loud h_p0 cf7 (c_X7_loud hE h_p0 g1) rfl (by decide) (Nat.le_of_ble_eq_true rfl) (Nat.zero_le _) (Nat.zero_le _) rfl ?_
  refine am_istore_n (lv' := [(0, .ref p0), (1, .int p1), (2, .ref 17), (3, .int x2)]) (am_dec tmX0_isBlow 3 rfl) rfl (by decide) rfl ?_
  refine am_iload_n (am_dec tmX0_isBlow 4 rfl) rfl rfl ?_
  refine am_aload_n (am_dec tmX0_isBlow 5 rfl) rfl rfl ?_
  refine am_getI (j := 11) hE (am_dec tmX0_isBlow 6 rfl) sh_17 cf1 (by decide) rfl lf_X0_38 ?_
  refine am_icmp_lt (tgt := 41) (am_dec tmX0_isBlow 7 rfl) (by decide) (fun c3 => ?_) (fun c3 => ?_)
  · rw [if_pos c3] at hf
    refine am_iconst (v := (0 : Int32)) (am_dec tmX0_isBlow 23 rfl) (by decide) ?_
    have hf := Option.some.inj hf
    subst hf
    exact am_zret (am_dec tmX0_isBlow 24 rfl) rfl am_z0 (Nat.zero_le _) (Nat.zero_le _)
  · rw [if_neg c3] at hf
    refine am_iload_n (am_dec tmX0_isBlow 8 rfl) rfl rfl ?_
    refine am_aload_n (am_dec tmX0_isBlow 9 rfl) rfl rfl ?_
    refine am_getI (j := 12) hE (am_dec tmX0_isBlow 10 rfl) sh_17 cf1 (by decide) rfl lf_X0_41 ?_
    refine am_aload_n (am_dec tmX0_isBlow 11 rfl) rfl rfl ?_
    refine am_iload_n (am_dec tmX0_isBlow 12 rfl) rfl rfl ?_
    refine am_aload_n (am_dec tmX0_isBlow 13 rfl) rfl rfl ?_
    refine am_getI (j := 13) hE (am_dec tmX0_isBlow 14 rfl) sh_17 cf1 (by decide) rfl lf_X0_29 ?_
    refine am_isub (am_dec tmX0_isBlow 15 rfl) ?_
    refine am_aload_n (am_dec tmX0_isBlow 16 rfl) rfl rfl ?_
    refine am_getI (j := 13) hE (am_dec tmX0_isBlow 17 rfl) sh_17 cf1 (by decide) rfl lf_X0_29 ?_
    obtain ⟨x5, g4, hf⟩ := am_bd hf
    refine am_callV1 (As := [.int (p1 - (D.1 17 13)), .int (D.1 17 13)]) (st := [.int (D.1 17 12), .int x2]) hE (am_dec tmX0_isBlow 18 rfl) ok_X7_loudest rfl lm_X0_44 in_X7_loudest se_X7_loudest h_p0 cf7 (c_X7_loudest hE h_p0 g4) rfl (by decide) (Nat.le_of_ble_eq_true rfl) (Nat.zero_le _) (Nat.zero_le _) rfl ?_
    refine am_imul (am_dec tmX0_isBlow 19 rfl) ?_
    refine am_icmp_lt (tgt := 41) (am_dec tmX0_isBlow 20 rfl) (by decide) (fun c6 => ?_) (fun c6 => ?_)
    · rw [if_pos c6] at hf
      refine am_iconst (v := (0 : Int32)) (am_dec tmX0_isBlow 23 rfl) (by decide) ?_
      have hf := Option.some.inj hf
      subst hf
      exact am_zret (am_dec tmX0_isBlow 24 rfl) rfl am_z0 (Nat.zero_le _) (Nat.zero_le _)
    · rw [if_neg c6] at hf
      refine am_iconst (v := (1 : Int32)) (am_dec tmX0_isBlow 21 rfl) (by decide) ?_
      refine am_goto (tgt := 42) (am_dec tmX0_isBlow 22 rfl) (by decide) ?_
      have hf := Option.some.inj hf
      subst hf
      exact am_zret (am_dec tmX0_isBlow 24 rfl) rfl am_z1 (Nat.zero_le _) (Nat.zero_le _)
theorem z_X0_isBlow {p0 : Nat} {p1 : Int32} {D : am_D} {r : Int32} (hf : f_X0_isBlow p0 p1 D = some r) : narrow .boolean (.int r) = .int r := by
  unfold f_X0_isBlow at hf
  obtain ⟨x2, g1, hf⟩ := am_bd hf
  by_cases c3 : x2 < (D.1 17 11)
  · rw [if_pos c3] at hf
    have hf := Option.some.inj hf
    subst hf
    exact am_z0
  · rw [if_neg c3] at hf
    obtain ⟨x5, g4, hf⟩ := am_bd hf
    by_cases c6 : x2 < ((D.1 17 12) * x5)
    · rw [if_pos c6] at hf
      have hf := Option.some.inj hf
      subst hf
      exact am_z0
    · rw [if_neg c6] at hf
      have hf := Option.some.inj hf
      subst hf
      exact am_z1
def f_X0_find_L10 (q0 : Nat) (q1 : Nat) : Nat → Int32 → Int32 → am_D → Option (am_D)
  | 0, _, _, _ => none
  | n + 1, v3, v4, D =>
    if (D.1 q1 1) ≤ v4 then
    some (D)
    else
    (if v4 < v3 then
    some (v3, D)
    else
    (f_X0_isBlow q1 v4 D).bind fun x7 =>
    if x7 = 0 then
    some (v3, D)
    else
    if (600 : Int32) ≤ (D.1 q0 2) then
    some (v3, D)
    else
    (am_pI D (q0 + 1) 600 (D.1 q0 2) v4).bind fun D10 =>
    (some (am_wI D10 q0 2 ((D10.1 q0 2) + (1 : Int32)))).bind fun D12 =>
    some (((v4 + (D12.1 17 13)) + (1 : Int32)), D12)).bind fun w14 =>
    f_X0_find_L10 q0 q1 n w14.1 (v4 + (1 : Int32)) w14.2
def f_X0_find (r0 : Nat) (p1 : Nat) (D : am_D) : Option (am_D) :=
    (some (am_wI D r0 2 (0 : Int32))).bind fun D1 =>
    (f_X0_find_L10 r0 p1 am_fu (0 : Int32) (0 : Int32) D1).bind fun e16 =>
    some e16
set_option maxRecDepth 100000 in
set_option maxHeartbeats 4000000 in
theorem l_X0_find_L10 {E : am_E} (hE : am_EH E) {d mc ms : Nat} {o : am_O} {G2 : am_G} {D2 : am_D} (hdp : 4 ≤ d) {q0 : Nat} {q1 : Nat} (h_q0 : am_sh am_G0 q0 = some (0, 6)) (h_q1 : am_sh am_G0 q1 = some (7, 2)) : ∀ (n : Nat) (v3 : Int32) (v4 : Int32) (D : am_D) (ex0 : am_D), f_X0_find_L10 q0 q1 n v3 v4 D = some ex0 → (∀ ex : am_D, ex0 = ex → am_S E mX0_find d mc ms o G2 D2 0 0 84 [] [] am_G0 ex) → am_S E mX0_find d mc ms o G2 D2 0 0 10 [(0, .ref q0), (1, .ref q1), (2, .ref 17), (3, .int v3), (4, .int v4)] [] am_G0 D
  | 0, _, _, _, _, hf, _ => by
    unfold f_X0_find_L10 at hf
    cases hf
  | n + 1, v3, v4, D, ex0, hf, hk0 => by
    unfold f_X0_find_L10 at hf
    refine am_iload (am_dec tmX0_find 7 rfl) rfl ?_
    refine am_aload_n (am_dec tmX0_find 8 rfl) rfl rfl ?_
    refine am_getI (j := 1) hE (am_dec tmX0_find 9 rfl) h_q1 cf7 (by decide) rfl lf_X0_22 ?_
    refine am_icmp_ge (tgt := 84) (am_dec tmX0_find 10 rfl) (by decide) (fun c3 => ?_) (fun c3 => ?_)
    · rw [if_pos c3] at hf
      have hf := Option.some.inj hf
      subst hf
      exact am_pick [] rfl (hk0 _ rfl)
    · rw [if_neg c3] at hf
      refine am_iload (am_dec tmX0_find 11 rfl) rfl ?_
      refine am_iload_n (am_dec tmX0_find 12 rfl) rfl rfl ?_
      obtain ⟨w14, g15, hf⟩ := am_bd hf
      have key5 : am_S E mX0_find d mc ms o G2 D2 0 0 78 [(0, .ref q0), (1, .ref q1), (2, .ref 17), (3, .int w14.1), (4, .int v4)] [] am_G0 w14.2 := by
        refine am_iinc (v := (1 : Int32)) (lv' := [(0, .ref q0), (1, .ref q1), (2, .ref 17), (3, .int w14.1), (4, .int (v4 + (1 : Int32)))]) (am_dec tmX0_find 44 rfl) rfl (by decide) (by decide) rfl ?_
        refine am_goto (tgt := 10) (am_dec tmX0_find 45 rfl) (by decide) ?_
        exact am_pick [0, 1, 2, 3, 4] rfl (l_X0_find_L10 hE hdp h_q0 h_q1 n w14.1 (v4 + (1 : Int32)) w14.2 ex0 hf hk0)
      replace hf := g15
      refine am_icmp_lt (tgt := 78) (am_dec tmX0_find 13 rfl) (by decide) (fun c4 => ?_) (fun c4 => ?_)
      · rw [if_pos c4] at hf
        have hf := Option.some.inj hf
        subst hf
        exact am_pick [0, 1, 2, 3, 4] rfl key5
      · rw [if_neg c4] at hf
        refine am_aload_n (am_dec tmX0_find 14 rfl) rfl rfl ?_
        refine am_iload (am_dec tmX0_find 15 rfl) rfl ?_
        refine am_aload_n (am_dec tmX0_find 16 rfl) rfl rfl ?_
        obtain ⟨x7, g6, hf⟩ := am_bd hf
        refine am_callS1 (As := [.ref q1, .int v4, .ref 17]) (st := []) (am_dec tmX0_find 17 rfl) ok_X0_isBlow rfl lm_X0_25 st_X0_isBlow (c_X0_isBlow hE h_q1 g6) rfl (Nat.lt_of_lt_of_le (by decide) hdp) (Nat.le_of_ble_eq_true rfl) (Nat.zero_le _) (Nat.zero_le _) rfl ?_
        refine am_if_eq (tgt := 78) (am_dec tmX0_find 18 rfl) (by decide) (fun c8 => ?_) (fun c8 => ?_)
        · rw [if_pos c8] at hf
          have hf := Option.some.inj hf
          subst hf
          exact am_pick [0, 1, 2, 3, 4] rfl key5
        · rw [if_neg c8] at hf
          refine am_aload_n (am_dec tmX0_find 19 rfl) rfl rfl ?_
          refine am_getI (j := 2) hE (am_dec tmX0_find 20 rfl) h_q0 cf0 (by decide) rfl lf_X0_18 ?_
          refine am_aload_n (am_dec tmX0_find 21 rfl) rfl rfl ?_
          refine am_getR (j := 0) hE (am_dec tmX0_find 22 rfl) h_q0 cf0 (by decide) rfl lf_X0_9 (ro_X0_0_0 h_q0) ?_
          refine am_alen (t := 0) (v := (600 : Int32)) hE (am_dec tmX0_find 23 rfl) (so_X0_1 h_q0) (by decide) (by decide) ?_
          refine am_icmp_ge (tgt := 78) (am_dec tmX0_find 24 rfl) (by decide) (fun c9 => ?_) (fun c9 => ?_)
          · rw [if_pos c9] at hf
            have hf := Option.some.inj hf
            subst hf
            exact am_pick [0, 1, 2, 3, 4] rfl key5
          · rw [if_neg c9] at hf
            refine am_aload_n (am_dec tmX0_find 25 rfl) rfl rfl ?_
            refine am_getR (j := 0) hE (am_dec tmX0_find 26 rfl) h_q0 cf0 (by decide) rfl lf_X0_9 (ro_X0_0_0 h_q0) ?_
            refine am_aload_n (am_dec tmX0_find 27 rfl) rfl rfl ?_
            refine am_getI (j := 2) hE (am_dec tmX0_find 28 rfl) h_q0 cf0 (by decide) rfl lf_X0_18 ?_
            refine am_iload (am_dec tmX0_find 29 rfl) rfl ?_
            obtain ⟨D10, g11, hf⟩ := am_bd hf
            refine am_iast2 hE (am_dec tmX0_find 30 rfl) (so_X0_1 h_q0) g11 ?_
            refine am_aload_n (am_dec tmX0_find 31 rfl) rfl rfl ?_
            refine am_dup (am_dec tmX0_find 32 rfl) rfl ?_
            refine am_getI (j := 2) hE (am_dec tmX0_find 33 rfl) h_q0 cf0 (by decide) rfl lf_X0_18 ?_
            refine am_iconst (v := (1 : Int32)) (am_dec tmX0_find 34 rfl) (by decide) ?_
            refine am_iadd (am_dec tmX0_find 35 rfl) ?_
            obtain ⟨D12, g13, hf⟩ := am_bd hf
            refine am_putI2 (j := 2) hE (am_dec tmX0_find 36 rfl) h_q0 cf0 (by decide) rfl lf_X0_18 rfl rfl rfl g13 ?_
            refine am_iload (am_dec tmX0_find 37 rfl) rfl ?_
            refine am_aload_n (am_dec tmX0_find 38 rfl) rfl rfl ?_
            refine am_getI (j := 13) hE (am_dec tmX0_find 39 rfl) sh_17 cf1 (by decide) rfl lf_X0_29 ?_
            refine am_iadd (am_dec tmX0_find 40 rfl) ?_
            refine am_iconst (v := (1 : Int32)) (am_dec tmX0_find 41 rfl) (by decide) ?_
            refine am_iadd (am_dec tmX0_find 42 rfl) ?_
            refine am_istore_n (lv' := [(0, .ref q0), (1, .ref q1), (2, .ref 17), (3, .int ((v4 + (D12.1 17 13)) + (1 : Int32))), (4, .int v4)]) (am_dec tmX0_find 43 rfl) rfl (by decide) rfl ?_
            have hf := Option.some.inj hf
            subst hf
            exact am_pick [0, 1, 2, 3, 4] rfl key5
set_option maxRecDepth 100000 in
set_option maxHeartbeats 4000000 in
theorem c_X0_find {E : am_E} (hE : am_EH E) {r0 : Nat} {p1 : Nat} {D : am_D} {r : am_D} (h_r0 : am_sh am_G0 r0 = some (0, 6)) (h_p1 : am_sh am_G0 p1 = some (7, 2)) (hf : f_X0_find r0 p1 D = some r) : am_C E mX0_find 4 0 0 [.ref r0, .ref p1, .ref 17] am_G0 D (.inl none) am_G0 r := by
  refine am_C_of (by decide +kernel) (Nat.le_of_ble_eq_true rfl) ?_
  change am_S E mX0_find 4 0 0 (.inl none) am_G0 r 0 0 0 [(0, .ref r0), (1, .ref p1), (2, .ref 17)] [] am_G0 D
  unfold f_X0_find at hf
  refine am_aload_n (am_dec tmX0_find 0 rfl) rfl rfl ?_
  refine am_iconst (v := (0 : Int32)) (am_dec tmX0_find 1 rfl) (by decide) ?_
  obtain ⟨D1, g2, hf⟩ := am_bd hf
  refine am_putI2 (j := 2) hE (am_dec tmX0_find 2 rfl) h_r0 cf0 (by decide) rfl lf_X0_18 rfl rfl rfl g2 ?_
  refine am_iconst (v := (0 : Int32)) (am_dec tmX0_find 3 rfl) (by decide) ?_
  refine am_istore_n (lv' := [(0, .ref r0), (1, .ref p1), (2, .ref 17), (3, .int (0 : Int32))]) (am_dec tmX0_find 4 rfl) rfl (by decide) rfl ?_
  refine am_iconst (v := (0 : Int32)) (am_dec tmX0_find 5 rfl) (by decide) ?_
  refine am_istore (lv' := [(0, .ref r0), (1, .ref p1), (2, .ref 17), (3, .int (0 : Int32)), (4, .int (0 : Int32))]) (am_dec tmX0_find 6 rfl) (by decide) rfl ?_
  obtain ⟨e16, g17, hf⟩ := am_bd hf
  refine am_pick [0, 1, 2, 3, 4] rfl (l_X0_find_L10 hE (Nat.le_refl _) h_r0 h_p1 am_fu _ _ _ _ g17 (fun ex he => ?_))
  subst he
  have hf := Option.some.inj hf
  subst hf
  exact am_vret (am_dec tmX0_find 46 rfl) rfl (Nat.zero_le _) (Nat.zero_le _)
def f_X0_at (r0 : Nat) (p1 : Int32) (D : am_D) : Option (Int32) :=
    if p1 < 0 then
    some (-1 : Int32)
    else
    if (D.1 r0 2) ≤ p1 then
    some (-1 : Int32)
    else
    if (600 : Int32) ≤ p1 then
    some (-1 : Int32)
    else
    (am_gI D (r0 + 1) 600 p1).bind fun x4 =>
    some x4
set_option maxRecDepth 100000 in
set_option maxHeartbeats 4000000 in
theorem c_X0_at {E : am_E} (hE : am_EH E) {r0 : Nat} {p1 : Int32} {D : am_D} {r : Int32} (h_r0 : am_sh am_G0 r0 = some (0, 6)) (hf : f_X0_at r0 p1 D = some r) : am_C E mX0_at 1 0 0 [.ref r0, .int p1] am_G0 D (.inl (some (.int r))) am_G0 D := by
  refine am_C_of (by decide +kernel) (Nat.le_of_ble_eq_true rfl) ?_
  change am_S E mX0_at 1 0 0 (.inl (some (.int r))) am_G0 D 0 0 0 [(0, .ref r0), (1, .int p1)] [] am_G0 D
  unfold f_X0_at at hf
  refine am_iload_n (am_dec tmX0_at 0 rfl) rfl rfl ?_
  refine am_if_lt (tgt := 30) (am_dec tmX0_at 1 rfl) (by decide) (fun c1 => ?_) (fun c1 => ?_)
  · rw [if_pos c1] at hf
    refine am_iconst (v := (-1 : Int32)) (am_dec tmX0_at 16 rfl) (by decide) ?_
    have hf := Option.some.inj hf
    subst hf
    exact am_iret (am_dec tmX0_at 17 rfl) rfl (Nat.zero_le _) (Nat.zero_le _)
  · rw [if_neg c1] at hf
    refine am_iload_n (am_dec tmX0_at 2 rfl) rfl rfl ?_
    refine am_aload_n (am_dec tmX0_at 3 rfl) rfl rfl ?_
    refine am_getI (j := 2) hE (am_dec tmX0_at 4 rfl) h_r0 cf0 (by decide) rfl lf_X0_18 ?_
    refine am_icmp_ge (tgt := 30) (am_dec tmX0_at 5 rfl) (by decide) (fun c2 => ?_) (fun c2 => ?_)
    · rw [if_pos c2] at hf
      refine am_iconst (v := (-1 : Int32)) (am_dec tmX0_at 16 rfl) (by decide) ?_
      have hf := Option.some.inj hf
      subst hf
      exact am_iret (am_dec tmX0_at 17 rfl) rfl (Nat.zero_le _) (Nat.zero_le _)
    · rw [if_neg c2] at hf
      refine am_iload_n (am_dec tmX0_at 6 rfl) rfl rfl ?_
      refine am_aload_n (am_dec tmX0_at 7 rfl) rfl rfl ?_
      refine am_getR (j := 0) hE (am_dec tmX0_at 8 rfl) h_r0 cf0 (by decide) rfl lf_X0_9 (ro_X0_0_0 h_r0) ?_
      refine am_alen (t := 0) (v := (600 : Int32)) hE (am_dec tmX0_at 9 rfl) (so_X0_1 h_r0) (by decide) (by decide) ?_
      refine am_icmp_ge (tgt := 30) (am_dec tmX0_at 10 rfl) (by decide) (fun c3 => ?_) (fun c3 => ?_)
      · rw [if_pos c3] at hf
        refine am_iconst (v := (-1 : Int32)) (am_dec tmX0_at 16 rfl) (by decide) ?_
        have hf := Option.some.inj hf
        subst hf
        exact am_iret (am_dec tmX0_at 17 rfl) rfl (Nat.zero_le _) (Nat.zero_le _)
      · rw [if_neg c3] at hf
        refine am_aload_n (am_dec tmX0_at 11 rfl) rfl rfl ?_
        refine am_getR (j := 0) hE (am_dec tmX0_at 12 rfl) h_r0 cf0 (by decide) rfl lf_X0_9 (ro_X0_0_0 h_r0) ?_
        refine am_iload_n (am_dec tmX0_at 13 rfl) rfl rfl ?_
        obtain ⟨x4, g5, hf⟩ := am_bd hf
        refine am_iald2 hE (am_dec tmX0_at 14 rfl) (so_X0_1 h_r0) g5 ?_
        refine am_goto (tgt := 31) (am_dec tmX0_at 15 rfl) (by decide) ?_
        have hf := Option.some.inj hf
        subst hf
        exact am_iret (am_dec tmX0_at 17 rfl) rfl (Nat.zero_le _) (Nat.zero_le _)
def f_J7_fill_53178_L5 (q0 : Nat) (q1 : Int32) (q3 : Int32) : Nat → Int32 → am_D → Option (am_D)
  | 0, _, _ => none
  | n + 1, v2, D =>
    if q3 ≤ v2 then
    some (D)
    else
    (am_pI D q0 (am_ln q0) v2 q1).bind fun D2 =>
    f_J7_fill_53178_L5 q0 q1 q3 n (v2 + (1 : Int32)) D2
def f_J7_fill_53178 (p0 : Nat) (p1 : Int32) (D : am_D) : Option (am_D) :=
    (f_J7_fill_53178_L5 p0 p1 (Int32.ofNat (am_ln p0)) am_fu (0 : Int32) D).bind fun e4 =>
    some e4
set_option maxRecDepth 100000 in
set_option maxHeartbeats 4000000 in
theorem l_J7_fill_53178_L5 {E : am_E} (hE : am_EH E) {d mc ms : Nat} {o : am_O} {G2 : am_G} {D2 : am_D} (hdp : 1 ≤ d) {q0 : Nat} {q1 : Int32} {q3 : Int32} (h_q0 : am_sh am_G0 q0 = some (20, am_ln q0)) : ∀ (n : Nat) (v2 : Int32) (D : am_D) (ex0 : am_D), f_J7_fill_53178_L5 q0 q1 q3 n v2 D = some ex0 → (∀ ex : am_D, ex0 = ex → am_S E mJ7_fill_53178 d mc ms o G2 D2 0 0 20 [] [] am_G0 ex) → am_S E mJ7_fill_53178 d mc ms o G2 D2 0 0 5 [(0, .ref q0), (1, .int q1), (2, .int v2), (3, .int q3)] [] am_G0 D
  | 0, _, _, _, hf, _ => by
    unfold f_J7_fill_53178_L5 at hf
    cases hf
  | n + 1, v2, D, ex0, hf, hk0 => by
    unfold f_J7_fill_53178_L5 at hf
    refine am_iload_n (am_dec tmJ7_fill_53178 5 rfl) rfl rfl ?_
    refine am_iload_n (am_dec tmJ7_fill_53178 6 rfl) rfl rfl ?_
    refine am_icmp_ge (tgt := 20) (am_dec tmJ7_fill_53178 7 rfl) (by decide) (fun c1 => ?_) (fun c1 => ?_)
    · rw [if_pos c1] at hf
      have hf := Option.some.inj hf
      subst hf
      exact am_pick [] rfl (hk0 _ rfl)
    · rw [if_neg c1] at hf
      refine am_aload_n (am_dec tmJ7_fill_53178 8 rfl) rfl rfl ?_
      refine am_iload_n (am_dec tmJ7_fill_53178 9 rfl) rfl rfl ?_
      refine am_iload_n (am_dec tmJ7_fill_53178 10 rfl) rfl rfl ?_
      obtain ⟨D2, g3, hf⟩ := am_bd hf
      refine am_iast2 hE (am_dec tmJ7_fill_53178 11 rfl) h_q0 g3 ?_
      refine am_iinc (v := (1 : Int32)) (lv' := [(0, .ref q0), (1, .int q1), (2, .int (v2 + (1 : Int32))), (3, .int q3)]) (am_dec tmJ7_fill_53178 12 rfl) rfl (by decide) (by decide) rfl ?_
      refine am_goto (tgt := 5) (am_dec tmJ7_fill_53178 13 rfl) (by decide) ?_
      exact am_pick [0, 1, 2, 3] rfl (l_J7_fill_53178_L5 hE hdp h_q0 n (v2 + (1 : Int32)) D2 ex0 hf hk0)
set_option maxRecDepth 100000 in
set_option maxHeartbeats 4000000 in
theorem c_J7_fill_53178 {E : am_E} (hE : am_EH E) {p0 : Nat} {p1 : Int32} {D : am_D} {r : am_D} (h_p0 : am_sh am_G0 p0 = some (20, am_ln p0)) (hf : f_J7_fill_53178 p0 p1 D = some r) : am_C E mJ7_fill_53178 1 0 0 [.ref p0, .int p1] am_G0 D (.inl none) am_G0 r := by
  refine am_C_of (by decide +kernel) (Nat.le_of_ble_eq_true rfl) ?_
  change am_S E mJ7_fill_53178 1 0 0 (.inl none) am_G0 r 0 0 0 [(0, .ref p0), (1, .int p1)] [] am_G0 D
  unfold f_J7_fill_53178 at hf
  refine am_iconst (v := (0 : Int32)) (am_dec tmJ7_fill_53178 0 rfl) (by decide) ?_
  refine am_istore_n (lv' := [(0, .ref p0), (1, .int p1), (2, .int (0 : Int32))]) (am_dec tmJ7_fill_53178 1 rfl) rfl (by decide) rfl ?_
  refine am_aload_n (am_dec tmJ7_fill_53178 2 rfl) rfl rfl ?_
  refine am_alen (t := 0) (v := (Int32.ofNat (am_ln p0))) hE (am_dec tmJ7_fill_53178 3 rfl) h_p0 (by decide) rfl ?_
  refine am_istore_n (lv' := [(0, .ref p0), (1, .int p1), (2, .int (0 : Int32)), (3, .int (Int32.ofNat (am_ln p0)))]) (am_dec tmJ7_fill_53178 4 rfl) rfl (by decide) rfl ?_
  obtain ⟨e4, g5, hf⟩ := am_bd hf
  refine am_pick [0, 1, 2, 3] rfl (l_J7_fill_53178_L5 hE (Nat.le_refl _) h_p0 am_fu _ _ _ g5 (fun ex he => ?_))
  subst he
  have hf := Option.some.inj hf
  subst hf
  exact am_vret (am_dec tmJ7_fill_53178 14 rfl) rfl (Nat.zero_le _) (Nat.zero_le _)
def f_X0_addLeaving (r0 : Nat) (p1 : Int32) (D : am_D) : Option (am_D) :=
    if p1 < 0 then
    some D
    else
    if (200 : Int32) ≤ p1 then
    some D
    else
    (am_gI D (r0 + 2) 200 p1).bind fun x3 =>
    (am_pI D (r0 + 2) 200 p1 (x3 + (1 : Int32))).bind fun D5 =>
    some D5
set_option maxRecDepth 100000 in
set_option maxHeartbeats 4000000 in
theorem c_X0_addLeaving {E : am_E} (hE : am_EH E) {r0 : Nat} {p1 : Int32} {D : am_D} {r : am_D} (h_r0 : am_sh am_G0 r0 = some (0, 6)) (hf : f_X0_addLeaving r0 p1 D = some r) : am_C E mX0_addLeaving 1 0 0 [.ref r0, .int p1] am_G0 D (.inl none) am_G0 r := by
  refine am_C_of (by decide +kernel) (Nat.le_of_ble_eq_true rfl) ?_
  change am_S E mX0_addLeaving 1 0 0 (.inl none) am_G0 r 0 0 0 [(0, .ref r0), (1, .int p1)] [] am_G0 D
  unfold f_X0_addLeaving at hf
  refine am_iload_n (am_dec tmX0_addLeaving 0 rfl) rfl rfl ?_
  refine am_if_lt (tgt := 23) (am_dec tmX0_addLeaving 1 rfl) (by decide) (fun c1 => ?_) (fun c1 => ?_)
  · rw [if_pos c1] at hf
    have hf := Option.some.inj hf
    subst hf
    exact am_vret (am_dec tmX0_addLeaving 15 rfl) rfl (Nat.zero_le _) (Nat.zero_le _)
  · rw [if_neg c1] at hf
    refine am_iload_n (am_dec tmX0_addLeaving 2 rfl) rfl rfl ?_
    refine am_aload_n (am_dec tmX0_addLeaving 3 rfl) rfl rfl ?_
    refine am_getR (j := 1) hE (am_dec tmX0_addLeaving 4 rfl) h_r0 cf0 (by decide) rfl lf_X0_15 (ro_X0_0_1 h_r0) ?_
    refine am_alen (t := 0) (v := (200 : Int32)) hE (am_dec tmX0_addLeaving 5 rfl) (so_X0_2 h_r0) (by decide) (by decide) ?_
    refine am_icmp_ge (tgt := 23) (am_dec tmX0_addLeaving 6 rfl) (by decide) (fun c2 => ?_) (fun c2 => ?_)
    · rw [if_pos c2] at hf
      have hf := Option.some.inj hf
      subst hf
      exact am_vret (am_dec tmX0_addLeaving 15 rfl) rfl (Nat.zero_le _) (Nat.zero_le _)
    · rw [if_neg c2] at hf
      refine am_aload_n (am_dec tmX0_addLeaving 7 rfl) rfl rfl ?_
      refine am_getR (j := 1) hE (am_dec tmX0_addLeaving 8 rfl) h_r0 cf0 (by decide) rfl lf_X0_15 (ro_X0_0_1 h_r0) ?_
      refine am_iload_n (am_dec tmX0_addLeaving 9 rfl) rfl rfl ?_
      refine am_dup2 (am_dec tmX0_addLeaving 10 rfl) rfl rfl ?_
      obtain ⟨x3, g4, hf⟩ := am_bd hf
      refine am_iald2 hE (am_dec tmX0_addLeaving 11 rfl) (so_X0_2 h_r0) g4 ?_
      refine am_iconst (v := (1 : Int32)) (am_dec tmX0_addLeaving 12 rfl) (by decide) ?_
      refine am_iadd (am_dec tmX0_addLeaving 13 rfl) ?_
      obtain ⟨D5, g6, hf⟩ := am_bd hf
      refine am_iast2 hE (am_dec tmX0_addLeaving 14 rfl) (so_X0_2 h_r0) g6 ?_
      have hf := Option.some.inj hf
      subst hf
      exact am_vret (am_dec tmX0_addLeaving 15 rfl) rfl (Nat.zero_le _) (Nat.zero_le _)
def f_X0_leavingAt (r0 : Nat) (p1 : Int32) (D : am_D) : Option (Int32) :=
    if p1 < 0 then
    some (0 : Int32)
    else
    if (200 : Int32) ≤ p1 then
    some (0 : Int32)
    else
    (am_gI D (r0 + 2) 200 p1).bind fun x3 =>
    some x3
set_option maxRecDepth 100000 in
set_option maxHeartbeats 4000000 in
theorem c_X0_leavingAt {E : am_E} (hE : am_EH E) {r0 : Nat} {p1 : Int32} {D : am_D} {r : Int32} (h_r0 : am_sh am_G0 r0 = some (0, 6)) (hf : f_X0_leavingAt r0 p1 D = some r) : am_C E mX0_leavingAt 1 0 0 [.ref r0, .int p1] am_G0 D (.inl (some (.int r))) am_G0 D := by
  refine am_C_of (by decide +kernel) (Nat.le_of_ble_eq_true rfl) ?_
  change am_S E mX0_leavingAt 1 0 0 (.inl (some (.int r))) am_G0 D 0 0 0 [(0, .ref r0), (1, .int p1)] [] am_G0 D
  unfold f_X0_leavingAt at hf
  refine am_iload_n (am_dec tmX0_leavingAt 0 rfl) rfl rfl ?_
  refine am_if_lt (tgt := 22) (am_dec tmX0_leavingAt 1 rfl) (by decide) (fun c1 => ?_) (fun c1 => ?_)
  · rw [if_pos c1] at hf
    refine am_iconst (v := (0 : Int32)) (am_dec tmX0_leavingAt 12 rfl) (by decide) ?_
    have hf := Option.some.inj hf
    subst hf
    exact am_iret (am_dec tmX0_leavingAt 13 rfl) rfl (Nat.zero_le _) (Nat.zero_le _)
  · rw [if_neg c1] at hf
    refine am_iload_n (am_dec tmX0_leavingAt 2 rfl) rfl rfl ?_
    refine am_aload_n (am_dec tmX0_leavingAt 3 rfl) rfl rfl ?_
    refine am_getR (j := 1) hE (am_dec tmX0_leavingAt 4 rfl) h_r0 cf0 (by decide) rfl lf_X0_15 (ro_X0_0_1 h_r0) ?_
    refine am_alen (t := 0) (v := (200 : Int32)) hE (am_dec tmX0_leavingAt 5 rfl) (so_X0_2 h_r0) (by decide) (by decide) ?_
    refine am_icmp_ge (tgt := 22) (am_dec tmX0_leavingAt 6 rfl) (by decide) (fun c2 => ?_) (fun c2 => ?_)
    · rw [if_pos c2] at hf
      refine am_iconst (v := (0 : Int32)) (am_dec tmX0_leavingAt 12 rfl) (by decide) ?_
      have hf := Option.some.inj hf
      subst hf
      exact am_iret (am_dec tmX0_leavingAt 13 rfl) rfl (Nat.zero_le _) (Nat.zero_le _)
    · rw [if_neg c2] at hf
      refine am_aload_n (am_dec tmX0_leavingAt 7 rfl) rfl rfl ?_
      refine am_getR (j := 1) hE (am_dec tmX0_leavingAt 8 rfl) h_r0 cf0 (by decide) rfl lf_X0_15 (ro_X0_0_1 h_r0) ?_
      refine am_iload_n (am_dec tmX0_leavingAt 9 rfl) rfl rfl ?_
      obtain ⟨x3, g4, hf⟩ := am_bd hf
      refine am_iald2 hE (am_dec tmX0_leavingAt 10 rfl) (so_X0_2 h_r0) g4 ?_
      refine am_goto (tgt := 23) (am_dec tmX0_leavingAt 11 rfl) (by decide) ?_
      have hf := Option.some.inj hf
      subst hf
      exact am_iret (am_dec tmX0_leavingAt 13 rfl) rfl (Nat.zero_le _) (Nat.zero_le _)
def f_X0_take (r0 : Nat) (p1 : Int32) (p2 : Int32) (p3 : Int32) (D : am_D) : Option (am_D) :=
    if (D.1 r0 3) = 0 then
    (some (am_wI D r0 3 p1)).bind fun D2 =>
    (some (am_wI D2 r0 4 p2)).bind fun D4 =>
    (some (am_wI D4 r0 5 p3)).bind fun D6 =>
    some D6
    else
    if ((D.1 r0 5) * p1) ≤ (p3 * (D.1 r0 3)) then
    some D
    else
    (some (am_wI D r0 3 p1)).bind fun D9 =>
    (some (am_wI D9 r0 4 p2)).bind fun D11 =>
    (some (am_wI D11 r0 5 p3)).bind fun D13 =>
    some D13
set_option maxRecDepth 100000 in
set_option maxHeartbeats 4000000 in
theorem c_X0_take {E : am_E} (hE : am_EH E) {r0 : Nat} {p1 : Int32} {p2 : Int32} {p3 : Int32} {D : am_D} {r : am_D} (h_r0 : am_sh am_G0 r0 = some (0, 6)) (hf : f_X0_take r0 p1 p2 p3 D = some r) : am_C E mX0_take 1 0 0 [.ref r0, .int p1, .int p2, .int p3] am_G0 D (.inl none) am_G0 r := by
  refine am_C_of (by decide +kernel) (Nat.le_of_ble_eq_true rfl) ?_
  change am_S E mX0_take 1 0 0 (.inl none) am_G0 r 0 0 0 [(0, .ref r0), (1, .int p1), (2, .int p2), (3, .int p3)] [] am_G0 D
  unfold f_X0_take at hf
  refine am_aload_n (am_dec tmX0_take 0 rfl) rfl rfl ?_
  refine am_getI (j := 3) hE (am_dec tmX0_take 1 rfl) h_r0 cf0 (by decide) rfl lf_X0_48 ?_
  refine am_if_eq (tgt := 22) (am_dec tmX0_take 2 rfl) (by decide) (fun c1 => ?_) (fun c1 => ?_)
  · rw [if_pos c1] at hf
    refine am_aload_n (am_dec tmX0_take 12 rfl) rfl rfl ?_
    refine am_iload_n (am_dec tmX0_take 13 rfl) rfl rfl ?_
    obtain ⟨D2, g3, hf⟩ := am_bd hf
    refine am_putI2 (j := 3) hE (am_dec tmX0_take 14 rfl) h_r0 cf0 (by decide) rfl lf_X0_48 rfl rfl rfl g3 ?_
    refine am_aload_n (am_dec tmX0_take 15 rfl) rfl rfl ?_
    refine am_iload_n (am_dec tmX0_take 16 rfl) rfl rfl ?_
    obtain ⟨D4, g5, hf⟩ := am_bd hf
    refine am_putI2 (j := 4) hE (am_dec tmX0_take 17 rfl) h_r0 cf0 (by decide) rfl lf_X0_85 rfl rfl rfl g5 ?_
    refine am_aload_n (am_dec tmX0_take 18 rfl) rfl rfl ?_
    refine am_iload_n (am_dec tmX0_take 19 rfl) rfl rfl ?_
    obtain ⟨D6, g7, hf⟩ := am_bd hf
    refine am_putI2 (j := 5) hE (am_dec tmX0_take 20 rfl) h_r0 cf0 (by decide) rfl lf_X0_82 rfl rfl rfl g7 ?_
    have hf := Option.some.inj hf
    subst hf
    exact am_vret (am_dec tmX0_take 21 rfl) rfl (Nat.zero_le _) (Nat.zero_le _)
  · rw [if_neg c1] at hf
    refine am_iload_n (am_dec tmX0_take 3 rfl) rfl rfl ?_
    refine am_aload_n (am_dec tmX0_take 4 rfl) rfl rfl ?_
    refine am_getI (j := 3) hE (am_dec tmX0_take 5 rfl) h_r0 cf0 (by decide) rfl lf_X0_48 ?_
    refine am_imul (am_dec tmX0_take 6 rfl) ?_
    refine am_aload_n (am_dec tmX0_take 7 rfl) rfl rfl ?_
    refine am_getI (j := 5) hE (am_dec tmX0_take 8 rfl) h_r0 cf0 (by decide) rfl lf_X0_82 ?_
    refine am_iload_n (am_dec tmX0_take 9 rfl) rfl rfl ?_
    refine am_imul (am_dec tmX0_take 10 rfl) ?_
    refine am_icmp_ge (tgt := 37) (am_dec tmX0_take 11 rfl) (by decide) (fun c8 => ?_) (fun c8 => ?_)
    · rw [if_pos c8] at hf
      have hf := Option.some.inj hf
      subst hf
      exact am_vret (am_dec tmX0_take 21 rfl) rfl (Nat.zero_le _) (Nat.zero_le _)
    · rw [if_neg c8] at hf
      refine am_aload_n (am_dec tmX0_take 12 rfl) rfl rfl ?_
      refine am_iload_n (am_dec tmX0_take 13 rfl) rfl rfl ?_
      obtain ⟨D9, g10, hf⟩ := am_bd hf
      refine am_putI2 (j := 3) hE (am_dec tmX0_take 14 rfl) h_r0 cf0 (by decide) rfl lf_X0_48 rfl rfl rfl g10 ?_
      refine am_aload_n (am_dec tmX0_take 15 rfl) rfl rfl ?_
      refine am_iload_n (am_dec tmX0_take 16 rfl) rfl rfl ?_
      obtain ⟨D11, g12, hf⟩ := am_bd hf
      refine am_putI2 (j := 4) hE (am_dec tmX0_take 17 rfl) h_r0 cf0 (by decide) rfl lf_X0_85 rfl rfl rfl g12 ?_
      refine am_aload_n (am_dec tmX0_take 18 rfl) rfl rfl ?_
      refine am_iload_n (am_dec tmX0_take 19 rfl) rfl rfl ?_
      obtain ⟨D13, g14, hf⟩ := am_bd hf
      refine am_putI2 (j := 5) hE (am_dec tmX0_take 20 rfl) h_r0 cf0 (by decide) rfl lf_X0_82 rfl rfl rfl g14 ?_
      have hf := Option.some.inj hf
      subst hf
      exact am_vret (am_dec tmX0_take 21 rfl) rfl (Nat.zero_le _) (Nat.zero_le _)
def f_X11_left (p0 : Int32) (p1 : Int32) : Option (Int32) :=
    if p1 = 0 then
    some (0 : Int32)
    else
    (am_rm p0 p1).bind fun x2 =>
    some x2
set_option maxRecDepth 100000 in
set_option maxHeartbeats 4000000 in
theorem c_X11_left {E : am_E} (hE : am_EH E) {p0 : Int32} {p1 : Int32} {D : am_D} {r : Int32}  (hf : f_X11_left p0 p1 = some r) : am_C E mX11_left 1 0 0 [.int p0, .int p1] am_G0 D (.inl (some (.int r))) am_G0 D := by
  refine am_C_of (by decide +kernel) (Nat.le_of_ble_eq_true rfl) ?_
  change am_S E mX11_left 1 0 0 (.inl (some (.int r))) am_G0 D 0 0 0 [(0, .int p0), (1, .int p1)] [] am_G0 D
  unfold f_X11_left at hf
  refine am_iload_n (am_dec tmX11_left 0 rfl) rfl rfl ?_
  refine am_if_ne (tgt := 8) (am_dec tmX11_left 1 rfl) (by decide) (fun c1 => ?_) (fun c1 => ?_)
  · rw [if_neg c1] at hf
    refine am_iload_n (am_dec tmX11_left 4 rfl) rfl rfl ?_
    refine am_iload_n (am_dec tmX11_left 5 rfl) rfl rfl ?_
    obtain ⟨x2, g3, hf⟩ := am_bd hf
    refine am_irem2 (am_dec tmX11_left 6 rfl) g3 ?_
    have hf := Option.some.inj hf
    subst hf
    exact am_iret (am_dec tmX11_left 7 rfl) rfl (Nat.zero_le _) (Nat.zero_le _)
  · rw [if_pos c1] at hf
    refine am_iconst (v := (0 : Int32)) (am_dec tmX11_left 2 rfl) (by decide) ?_
    refine am_goto (tgt := 11) (am_dec tmX11_left 3 rfl) (by decide) ?_
    have hf := Option.some.inj hf
    subst hf
    exact am_iret (am_dec tmX11_left 7 rfl) rfl (Nat.zero_le _) (Nat.zero_le _)
def f_X0_tryStep_L12 (q0 : Nat) (q1 : Int32) : Nat → Int32 → Int32 → am_D → Option (Int32 × am_D)
  | 0, _, _, _ => none
  | n + 1, v2, v3, D =>
    if (D.1 q0 2) ≤ v3 then
    some (v2, D)
    else
    (f_X0_at q0 v3 D).bind fun x5 =>
    (f_X11_left x5 q1).bind fun x7 =>
    (f_X0_addLeaving q0 x7 D).bind fun x9 =>
    f_X0_tryStep_L12 q0 q1 n (v2 + (am_mn x7 (q1 - x7))) (v3 + (1 : Int32)) x9
def f_X0_tryStep_L65 (q0 : Nat) (q1 : Int32) (q2 : Int32) (q3 : Int32) (D : am_D) : Nat → Int32 → Int32 → Option (Int32)
  | 0, _, _ => none
  | n + 1, v4, v5 =>
    if q3 < v5 then
    some (v4)
    else
    (f_X0_leavingAt q0 v5 D).bind fun x13 =>
    f_X0_tryStep_L65 q0 q1 q2 q3 D n (v4 + x13) (v5 + (1 : Int32))
def f_X0_tryStep_L91 (q0 : Nat) (q1 : Int32) (q3 : Int32) : Nat → Int32 → Int32 → Int32 → am_D → Option (am_D)
  | 0, _, _, _, _ => none
  | n + 1, v2, v4, v5, D =>
    if q1 ≤ v5 then
    some (D)
    else
    (f_X0_take q0 q1 v5 v2 D).bind fun x17 =>
    (if (q1 &&& (1 : Int32)) = (1 : Int32) then
    (f_X11_left ((v5 + q3) + (1 : Int32)) q1).bind fun x21 =>
    (f_X0_leavingAt q0 x21 x17).bind fun x23 =>
    some (x23)
    else
    some ((0 : Int32))).bind fun w24 =>
    (f_X11_left ((v5 + (1 : Int32)) + q3) q1).bind fun x26 =>
    (f_X0_leavingAt q0 x26 x17).bind fun x28 =>
    (f_X11_left (v5 + (1 : Int32)) q1).bind fun x30 =>
    (f_X0_leavingAt q0 x30 x17).bind fun x32 =>
    f_X0_tryStep_L91 q0 q1 q3 n (v2 + (((x17.1 q0 2) - w24) - ((2 : Int32) * v4))) (v4 + (x28 - x32)) (v5 + (1 : Int32)) x17
def f_X0_tryStep (r0 : Nat) (p1 : Int32) (D : am_D) : Option (am_D) :=
    (f_J7_fill_53178 (r0 + 2) (0 : Int32) D).bind fun x2 =>
    (f_X0_tryStep_L12 r0 p1 am_fu (0 : Int32) (0 : Int32) x2).bind fun e10 =>
    (f_X0_tryStep_L65 r0 p1 e10.1 (p1 / (2 : Int32)) e10.2 am_fu (0 : Int32) (1 : Int32)).bind fun e14 =>
    (f_X0_tryStep_L91 r0 p1 (p1 / (2 : Int32)) am_fu e10.1 e14 (0 : Int32) e10.2).bind fun e34 =>
    some e34
set_option maxRecDepth 100000 in
set_option maxHeartbeats 4000000 in
theorem l_X0_tryStep_L12 {E : am_E} (hE : am_EH E) {d mc ms : Nat} {o : am_O} {G2 : am_G} {D2 : am_D} (hdp : 2 ≤ d) {q0 : Nat} {q1 : Int32} (h_q0 : am_sh am_G0 q0 = some (0, 6)) : ∀ (n : Nat) (v2 : Int32) (v3 : Int32) (D : am_D) (ex0 : Int32 × am_D), f_X0_tryStep_L12 q0 q1 n v2 v3 D = some ex0 → (∀ ex : Int32 × am_D, ex0 = ex → am_S E mX0_tryStep d mc ms o G2 D2 0 0 55 [(0, .ref q0), (1, .int q1), (2, .int ex.1)] [] am_G0 ex.2) → am_S E mX0_tryStep d mc ms o G2 D2 0 0 12 [(0, .ref q0), (1, .int q1), (2, .int v2), (3, .int v3)] [] am_G0 D
  | 0, _, _, _, _, hf, _ => by
    unfold f_X0_tryStep_L12 at hf
    cases hf
  | n + 1, v2, v3, D, ex0, hf, hk0 => by
    unfold f_X0_tryStep_L12 at hf
    refine am_iload_n (am_dec tmX0_tryStep_0 8 rfl) rfl rfl ?_
    refine am_aload_n (am_dec tmX0_tryStep_0 9 rfl) rfl rfl ?_
    refine am_getI (j := 2) hE (am_dec tmX0_tryStep_0 10 rfl) h_q0 cf0 (by decide) rfl lf_X0_18 ?_
    refine am_icmp_ge (tgt := 55) (am_dec tmX0_tryStep_0 11 rfl) (by decide) (fun c3 => ?_) (fun c3 => ?_)
    · rw [if_pos c3] at hf
      have hf := Option.some.inj hf
      subst hf
      exact am_pick [0, 1, 2] rfl (hk0 _ rfl)
    · rw [if_neg c3] at hf
      refine am_aload_n (am_dec tmX0_tryStep_0 12 rfl) rfl rfl ?_
      refine am_iload_n (am_dec tmX0_tryStep_0 13 rfl) rfl rfl ?_
      obtain ⟨x5, g4, hf⟩ := am_bd hf
      refine am_callV1 (As := [.int v3]) (st := []) hE (am_dec tmX0_tryStep_0 14 rfl) ok_X0_at rfl lm_X0_61 in_X0_at se_X0_at h_q0 cf0 (c_X0_at hE h_q0 g4) rfl (Nat.lt_of_lt_of_le (by decide) hdp) (Nat.le_of_ble_eq_true rfl) (Nat.zero_le _) (Nat.zero_le _) rfl ?_
      refine am_iload_n (am_dec tmX0_tryStep_0 15 rfl) rfl rfl ?_
      obtain ⟨x7, g6, hf⟩ := am_bd hf
      refine am_callSN1 (As := [.int x5, .int q1]) (st := []) hE (am_dec tmX0_tryStep_0 16 rfl) ok_X11_left rfl lm_X0_64 st_X11_left (c_X11_left hE g6) rfl (Nat.lt_of_lt_of_le (by decide) hdp) (Nat.le_of_ble_eq_true rfl) (Nat.zero_le _) (Nat.zero_le _) rfl ?_
      refine am_istore (lv' := [(0, .ref q0), (1, .int q1), (2, .int v2), (3, .int v3), (4, .int x7)]) (am_dec tmX0_tryStep_0 17 rfl) (by decide) rfl ?_
      refine am_iload_n (am_dec tmX0_tryStep_0 18 rfl) rfl rfl ?_
      refine am_iload (am_dec tmX0_tryStep_0 19 rfl) rfl ?_
      refine am_iload_n (am_dec tmX0_tryStep_0 20 rfl) rfl rfl ?_
      refine am_iload (am_dec tmX0_tryStep_0 21 rfl) rfl ?_
      refine am_isub (am_dec tmX0_tryStep_0 22 rfl) ?_
      refine am_mmin2 (am_dec tmX0_tryStep_0 23 rfl) lm_X0_67 (Nat.le_of_ble_eq_true rfl) (Nat.zero_le _) (Nat.zero_le _) ?_
      refine am_iadd (am_dec tmX0_tryStep_0 24 rfl) ?_
      refine am_istore_n (lv' := [(0, .ref q0), (1, .int q1), (2, .int (v2 + (am_mn x7 (q1 - x7)))), (3, .int v3), (4, .int x7)]) (am_dec tmX0_tryStep_0 25 rfl) rfl (by decide) rfl ?_
      refine am_aload_n (am_dec tmX0_tryStep_0 26 rfl) rfl rfl ?_
      refine am_iload (am_dec tmX0_tryStep_0 27 rfl) rfl ?_
      obtain ⟨x9, g8, hf⟩ := am_bd hf
      refine am_callV0 (As := [.int x7]) (st := []) hE (am_dec tmX0_tryStep_0 28 rfl) ok_X0_addLeaving rfl lm_X0_72 in_X0_addLeaving se_X0_addLeaving h_q0 cf0 (c_X0_addLeaving hE h_q0 g8) rfl (Nat.lt_of_lt_of_le (by decide) hdp) (Nat.le_of_ble_eq_true rfl) (Nat.zero_le _) (Nat.zero_le _) rfl ?_
      refine am_iinc (v := (1 : Int32)) (lv' := [(0, .ref q0), (1, .int q1), (2, .int (v2 + (am_mn x7 (q1 - x7)))), (3, .int (v3 + (1 : Int32))), (4, .int x7)]) (am_dec tmX0_tryStep_0 29 rfl) rfl (by decide) (by decide) rfl ?_
      refine am_goto (tgt := 12) (am_dec tmX0_tryStep_0 30 rfl) (by decide) ?_
      exact am_pick [0, 1, 2, 3] rfl (l_X0_tryStep_L12 hE hdp h_q0 n (v2 + (am_mn x7 (q1 - x7))) (v3 + (1 : Int32)) x9 ex0 hf hk0)
set_option maxRecDepth 100000 in
set_option maxHeartbeats 4000000 in
theorem l_X0_tryStep_L65 {E : am_E} (hE : am_EH E) {d mc ms : Nat} {o : am_O} {G2 : am_G} {D2 : am_D} (hdp : 2 ≤ d) {q0 : Nat} {q1 : Int32} {q2 : Int32} {q3 : Int32} {D : am_D} (h_q0 : am_sh am_G0 q0 = some (0, 6)) : ∀ (n : Nat) (v4 : Int32) (v5 : Int32) (ex0 : Int32), f_X0_tryStep_L65 q0 q1 q2 q3 D n v4 v5 = some ex0 → (∀ ex : Int32, ex0 = ex → am_S E mX0_tryStep d mc ms o G2 D2 0 0 88 [(0, .ref q0), (1, .int q1), (2, .int q2), (3, .int q3), (4, .int ex)] [] am_G0 D) → am_S E mX0_tryStep d mc ms o G2 D2 0 0 65 [(0, .ref q0), (1, .int q1), (2, .int q2), (3, .int q3), (4, .int v4), (5, .int v5)] [] am_G0 D
  | 0, _, _, _, hf, _ => by
    unfold f_X0_tryStep_L65 at hf
    cases hf
  | n + 1, v4, v5, ex0, hf, hk0 => by
    unfold f_X0_tryStep_L65 at hf
    refine am_iload (am_dec tmX0_tryStep_0 39 rfl) rfl ?_
    refine am_iload_n (am_dec tmX0_tryStep_0 40 rfl) rfl rfl ?_
    refine am_icmp_gt (tgt := 88) (am_dec tmX0_tryStep_0 41 rfl) (by decide) (fun c11 => ?_) (fun c11 => ?_)
    · rw [if_pos c11] at hf
      have hf := Option.some.inj hf
      subst hf
      exact am_pick [0, 1, 2, 3, 4] rfl (hk0 _ rfl)
    · rw [if_neg c11] at hf
      refine am_iload (am_dec tmX0_tryStep_0 42 rfl) rfl ?_
      refine am_aload_n (am_dec tmX0_tryStep_0 43 rfl) rfl rfl ?_
      refine am_iload (am_dec tmX0_tryStep_0 44 rfl) rfl ?_
      obtain ⟨x13, g12, hf⟩ := am_bd hf
      refine am_callV1 (As := [.int v5]) (st := [.int v4]) hE (am_dec tmX0_tryStep_0 45 rfl) ok_X0_leavingAt rfl lm_X0_75 in_X0_leavingAt se_X0_leavingAt h_q0 cf0 (c_X0_leavingAt hE h_q0 g12) rfl (Nat.lt_of_lt_of_le (by decide) hdp) (Nat.le_of_ble_eq_true rfl) (Nat.zero_le _) (Nat.zero_le _) rfl ?_
      refine am_iadd (am_dec tmX0_tryStep_0 46 rfl) ?_
      refine am_istore (lv' := [(0, .ref q0), (1, .int q1), (2, .int q2), (3, .int q3), (4, .int (v4 + x13)), (5, .int v5)]) (am_dec tmX0_tryStep_0 47 rfl) (by decide) rfl ?_
      refine am_iinc (v := (1 : Int32)) (lv' := [(0, .ref q0), (1, .int q1), (2, .int q2), (3, .int q3), (4, .int (v4 + x13)), (5, .int (v5 + (1 : Int32)))]) (am_dec tmX0_tryStep_0 48 rfl) rfl (by decide) (by decide) rfl ?_
      refine am_goto (tgt := 65) (am_dec tmX0_tryStep_0 49 rfl) (by decide) ?_
      exact am_pick [0, 1, 2, 3, 4, 5] rfl (l_X0_tryStep_L65 hE hdp h_q0 n (v4 + x13) (v5 + (1 : Int32)) ex0 hf hk0)
set_option maxRecDepth 100000 in
set_option maxHeartbeats 4000000 in
theorem l_X0_tryStep_L91 {E : am_E} (hE : am_EH E) {d mc ms : Nat} {o : am_O} {G2 : am_G} {D2 : am_D} (hdp : 2 ≤ d) {q0 : Nat} {q1 : Int32} {q3 : Int32} (h_q0 : am_sh am_G0 q0 = some (0, 6)) : ∀ (n : Nat) (v2 : Int32) (v4 : Int32) (v5 : Int32) (D : am_D) (ex0 : am_D), f_X0_tryStep_L91 q0 q1 q3 n v2 v4 v5 D = some ex0 → (∀ ex : am_D, ex0 = ex → am_S E mX0_tryStep d mc ms o G2 D2 0 0 185 [] [] am_G0 ex) → am_S E mX0_tryStep d mc ms o G2 D2 0 0 91 [(0, .ref q0), (1, .int q1), (2, .int v2), (3, .int q3), (4, .int v4), (5, .int v5)] [] am_G0 D
  | 0, _, _, _, _, _, hf, _ => by
    unfold f_X0_tryStep_L91 at hf
    cases hf
  | n + 1, v2, v4, v5, D, ex0, hf, hk0 => by
    unfold f_X0_tryStep_L91 at hf
    refine am_iload (am_dec tmX0_tryStep_0 52 rfl) rfl ?_
    refine am_iload_n (am_dec tmX0_tryStep_0 53 rfl) rfl rfl ?_
    refine am_icmp_ge (tgt := 185) (am_dec tmX0_tryStep_0 54 rfl) (by decide) (fun c15 => ?_) (fun c15 => ?_)
    · rw [if_pos c15] at hf
      have hf := Option.some.inj hf
      subst hf
      exact am_pick [] rfl (hk0 _ rfl)
    · rw [if_neg c15] at hf
      refine am_aload_n (am_dec tmX0_tryStep_0 55 rfl) rfl rfl ?_
      refine am_iload_n (am_dec tmX0_tryStep_0 56 rfl) rfl rfl ?_
      refine am_iload (am_dec tmX0_tryStep_0 57 rfl) rfl ?_
      refine am_iload_n (am_dec tmX0_tryStep_0 58 rfl) rfl rfl ?_
      obtain ⟨x17, g16, hf⟩ := am_bd hf
      refine am_callV0 (As := [.int q1, .int v5, .int v2]) (st := []) hE (am_dec tmX0_tryStep_0 59 rfl) ok_X0_take rfl lm_X0_78 in_X0_take se_X0_take h_q0 cf0 (c_X0_take hE h_q0 g16) rfl (Nat.lt_of_lt_of_le (by decide) hdp) (Nat.le_of_ble_eq_true rfl) (Nat.zero_le _) (Nat.zero_le _) rfl ?_
      refine am_iload_n (am_dec tmX0_tryStep_1 0 rfl) rfl rfl ?_
      refine am_iconst (v := (1 : Int32)) (am_dec tmX0_tryStep_1 1 rfl) (by decide) ?_
      refine am_iand (am_dec tmX0_tryStep_1 2 rfl) ?_
      refine am_iconst (v := (1 : Int32)) (am_dec tmX0_tryStep_1 3 rfl) (by decide) ?_
      obtain ⟨w24, g33, hf⟩ := am_bd hf
      have key19 : am_S E mX0_tryStep d mc ms o G2 D2 0 0 130 [(0, .ref q0), (1, .int q1), (2, .int v2), (3, .int q3), (4, .int v4), (5, .int v5)] [.int w24] am_G0 x17 := by
        refine am_istore (lv' := [(0, .ref q0), (1, .int q1), (2, .int v2), (3, .int q3), (4, .int v4), (5, .int v5), (6, .int w24)]) (am_dec tmX0_tryStep_1 16 rfl) (by decide) rfl ?_
        refine am_iload_n (am_dec tmX0_tryStep_1 17 rfl) rfl rfl ?_
        refine am_aload_n (am_dec tmX0_tryStep_1 18 rfl) rfl rfl ?_
        refine am_getI (j := 2) hE (am_dec tmX0_tryStep_1 19 rfl) h_q0 cf0 (by decide) rfl lf_X0_18 ?_
        refine am_iload (am_dec tmX0_tryStep_1 20 rfl) rfl ?_
        refine am_isub (am_dec tmX0_tryStep_1 21 rfl) ?_
        refine am_iconst (v := (2 : Int32)) (am_dec tmX0_tryStep_1 22 rfl) (by decide) ?_
        refine am_iload (am_dec tmX0_tryStep_1 23 rfl) rfl ?_
        refine am_imul (am_dec tmX0_tryStep_1 24 rfl) ?_
        refine am_isub (am_dec tmX0_tryStep_1 25 rfl) ?_
        refine am_iadd (am_dec tmX0_tryStep_1 26 rfl) ?_
        refine am_istore_n (lv' := [(0, .ref q0), (1, .int q1), (2, .int (v2 + (((x17.1 q0 2) - w24) - ((2 : Int32) * v4)))), (3, .int q3), (4, .int v4), (5, .int v5), (6, .int w24)]) (am_dec tmX0_tryStep_1 27 rfl) rfl (by decide) rfl ?_
        refine am_iload (am_dec tmX0_tryStep_1 28 rfl) rfl ?_
        refine am_aload_n (am_dec tmX0_tryStep_1 29 rfl) rfl rfl ?_
        refine am_iload (am_dec tmX0_tryStep_1 30 rfl) rfl ?_
        refine am_iconst (v := (1 : Int32)) (am_dec tmX0_tryStep_1 31 rfl) (by decide) ?_
        refine am_iadd (am_dec tmX0_tryStep_1 32 rfl) ?_
        refine am_iload_n (am_dec tmX0_tryStep_1 33 rfl) rfl rfl ?_
        refine am_iadd (am_dec tmX0_tryStep_1 34 rfl) ?_
        refine am_iload_n (am_dec tmX0_tryStep_1 35 rfl) rfl rfl ?_
        obtain ⟨x26, g25, hf⟩ := am_bd hf
        refine am_callSN1 (As := [.int ((v5 + (1 : Int32)) + q3), .int q1]) (st := [.ref q0, .int v4]) hE (am_dec tmX0_tryStep_1 36 rfl) ok_X11_left rfl lm_X0_64 st_X11_left (c_X11_left hE g25) rfl (Nat.lt_of_lt_of_le (by decide) hdp) (Nat.le_of_ble_eq_true rfl) (Nat.zero_le _) (Nat.zero_le _) rfl ?_
        obtain ⟨x28, g27, hf⟩ := am_bd hf
        refine am_callV1 (As := [.int x26]) (st := [.int v4]) hE (am_dec tmX0_tryStep_1 37 rfl) ok_X0_leavingAt rfl lm_X0_75 in_X0_leavingAt se_X0_leavingAt h_q0 cf0 (c_X0_leavingAt hE h_q0 g27) rfl (Nat.lt_of_lt_of_le (by decide) hdp) (Nat.le_of_ble_eq_true rfl) (Nat.zero_le _) (Nat.zero_le _) rfl ?_
        refine am_aload_n (am_dec tmX0_tryStep_1 38 rfl) rfl rfl ?_
        refine am_iload (am_dec tmX0_tryStep_1 39 rfl) rfl ?_
        refine am_iconst (v := (1 : Int32)) (am_dec tmX0_tryStep_1 40 rfl) (by decide) ?_
        refine am_iadd (am_dec tmX0_tryStep_1 41 rfl) ?_
        refine am_iload_n (am_dec tmX0_tryStep_1 42 rfl) rfl rfl ?_
        obtain ⟨x30, g29, hf⟩ := am_bd hf
        refine am_callSN1 (As := [.int (v5 + (1 : Int32)), .int q1]) (st := [.ref q0, .int x28, .int v4]) hE (am_dec tmX0_tryStep_1 43 rfl) ok_X11_left rfl lm_X0_64 st_X11_left (c_X11_left hE g29) rfl (Nat.lt_of_lt_of_le (by decide) hdp) (Nat.le_of_ble_eq_true rfl) (Nat.zero_le _) (Nat.zero_le _) rfl ?_
        obtain ⟨x32, g31, hf⟩ := am_bd hf
        refine am_callV1 (As := [.int x30]) (st := [.int x28, .int v4]) hE (am_dec tmX0_tryStep_1 44 rfl) ok_X0_leavingAt rfl lm_X0_75 in_X0_leavingAt se_X0_leavingAt h_q0 cf0 (c_X0_leavingAt hE h_q0 g31) rfl (Nat.lt_of_lt_of_le (by decide) hdp) (Nat.le_of_ble_eq_true rfl) (Nat.zero_le _) (Nat.zero_le _) rfl ?_
        refine am_isub (am_dec tmX0_tryStep_1 45 rfl) ?_
        refine am_iadd (am_dec tmX0_tryStep_1 46 rfl) ?_
        refine am_istore (lv' := [(0, .ref q0), (1, .int q1), (2, .int (v2 + (((x17.1 q0 2) - w24) - ((2 : Int32) * v4)))), (3, .int q3), (4, .int (v4 + (x28 - x32))), (5, .int v5), (6, .int w24)]) (am_dec tmX0_tryStep_1 47 rfl) (by decide) rfl ?_
        refine am_iinc (v := (1 : Int32)) (lv' := [(0, .ref q0), (1, .int q1), (2, .int (v2 + (((x17.1 q0 2) - w24) - ((2 : Int32) * v4)))), (3, .int q3), (4, .int (v4 + (x28 - x32))), (5, .int (v5 + (1 : Int32))), (6, .int w24)]) (am_dec tmX0_tryStep_1 48 rfl) rfl (by decide) (by decide) rfl ?_
        refine am_goto (tgt := 91) (am_dec tmX0_tryStep_1 49 rfl) (by decide) ?_
        exact am_pick [0, 1, 2, 3, 4, 5] rfl (l_X0_tryStep_L91 hE hdp h_q0 n (v2 + (((x17.1 q0 2) - w24) - ((2 : Int32) * v4))) (v4 + (x28 - x32)) (v5 + (1 : Int32)) x17 ex0 hf hk0)
      replace hf := g33
      refine am_icmp_ne (tgt := 129) (am_dec tmX0_tryStep_1 4 rfl) (by decide) (fun c18 => ?_) (fun c18 => ?_)
      · rw [if_neg c18] at hf
        refine am_iconst (v := (0 : Int32)) (am_dec tmX0_tryStep_1 15 rfl) (by decide) ?_
        have hf := Option.some.inj hf
        subst hf
        exact am_pick [0, 1, 2, 3, 4, 5] rfl key19
      · rw [if_pos c18] at hf
        refine am_aload_n (am_dec tmX0_tryStep_1 5 rfl) rfl rfl ?_
        refine am_iload (am_dec tmX0_tryStep_1 6 rfl) rfl ?_
        refine am_iload_n (am_dec tmX0_tryStep_1 7 rfl) rfl rfl ?_
        refine am_iadd (am_dec tmX0_tryStep_1 8 rfl) ?_
        refine am_iconst (v := (1 : Int32)) (am_dec tmX0_tryStep_1 9 rfl) (by decide) ?_
        refine am_iadd (am_dec tmX0_tryStep_1 10 rfl) ?_
        refine am_iload_n (am_dec tmX0_tryStep_1 11 rfl) rfl rfl ?_
        obtain ⟨x21, g20, hf⟩ := am_bd hf
        refine am_callSN1 (As := [.int ((v5 + q3) + (1 : Int32)), .int q1]) (st := [.ref q0]) hE (am_dec tmX0_tryStep_1 12 rfl) ok_X11_left rfl lm_X0_64 st_X11_left (c_X11_left hE g20) rfl (Nat.lt_of_lt_of_le (by decide) hdp) (Nat.le_of_ble_eq_true rfl) (Nat.zero_le _) (Nat.zero_le _) rfl ?_
        obtain ⟨x23, g22, hf⟩ := am_bd hf
        refine am_callV1 (As := [.int x21]) (st := []) hE (am_dec tmX0_tryStep_1 13 rfl) ok_X0_leavingAt rfl lm_X0_75 in_X0_leavingAt se_X0_leavingAt h_q0 cf0 (c_X0_leavingAt hE h_q0 g22) rfl (Nat.lt_of_lt_of_le (by decide) hdp) (Nat.le_of_ble_eq_true rfl) (Nat.zero_le _) (Nat.zero_le _) rfl ?_
        refine am_goto (tgt := 130) (am_dec tmX0_tryStep_1 14 rfl) (by decide) ?_
        have hf := Option.some.inj hf
        subst hf
        exact am_pick [0, 1, 2, 3, 4, 5] rfl key19
set_option maxRecDepth 100000 in
set_option maxHeartbeats 4000000 in
theorem c_X0_tryStep {E : am_E} (hE : am_EH E) {r0 : Nat} {p1 : Int32} {D : am_D} {r : am_D} (h_r0 : am_sh am_G0 r0 = some (0, 6)) (hf : f_X0_tryStep r0 p1 D = some r) : am_C E mX0_tryStep 2 0 0 [.ref r0, .int p1] am_G0 D (.inl none) am_G0 r := by
  refine am_C_of (by decide +kernel) (Nat.le_of_ble_eq_true rfl) ?_
  change am_S E mX0_tryStep 2 0 0 (.inl none) am_G0 r 0 0 0 [(0, .ref r0), (1, .int p1)] [] am_G0 D
  unfold f_X0_tryStep at hf
  refine am_aload_n (am_dec tmX0_tryStep_0 0 rfl) rfl rfl ?_
  refine am_getR (j := 1) hE (am_dec tmX0_tryStep_0 1 rfl) h_r0 cf0 (by decide) rfl lf_X0_15 (ro_X0_0_1 h_r0) ?_
  refine am_iconst (v := (0 : Int32)) (am_dec tmX0_tryStep_0 2 rfl) (by decide) ?_
  obtain ⟨x2, g1, hf⟩ := am_bd hf
  refine am_callS0 (As := [.ref (r0 + 2), .int (0 : Int32)]) (st := []) (am_dec tmX0_tryStep_0 3 rfl) ok_J7_fill_53178 rfl lm_X0_55 st_J7_fill_53178 (c_J7_fill_53178 hE (am_shl (so_X0_2 h_r0)) g1) rfl (by decide) (Nat.le_of_ble_eq_true rfl) (Nat.zero_le _) (Nat.zero_le _) rfl ?_
  refine am_iconst (v := (0 : Int32)) (am_dec tmX0_tryStep_0 4 rfl) (by decide) ?_
  refine am_istore_n (lv' := [(0, .ref r0), (1, .int p1), (2, .int (0 : Int32))]) (am_dec tmX0_tryStep_0 5 rfl) rfl (by decide) rfl ?_
  refine am_iconst (v := (0 : Int32)) (am_dec tmX0_tryStep_0 6 rfl) (by decide) ?_
  refine am_istore_n (lv' := [(0, .ref r0), (1, .int p1), (2, .int (0 : Int32)), (3, .int (0 : Int32))]) (am_dec tmX0_tryStep_0 7 rfl) rfl (by decide) rfl ?_
  obtain ⟨e10, g37, hf⟩ := am_bd hf
  refine am_pick [0, 1, 2, 3] rfl (l_X0_tryStep_L12 hE (Nat.le_refl _) h_r0 am_fu _ _ _ _ g37 (fun ex he => ?_))
  subst he
  refine am_iload_n (am_dec tmX0_tryStep_0 31 rfl) rfl rfl ?_
  refine am_iconst (v := (2 : Int32)) (am_dec tmX0_tryStep_0 32 rfl) (by decide) ?_
  refine am_idiv (am_dec tmX0_tryStep_0 33 rfl) (by decide) ?_
  refine am_istore_n (lv' := [(0, .ref r0), (1, .int p1), (2, .int e10.1), (3, .int (p1 / (2 : Int32)))]) (am_dec tmX0_tryStep_0 34 rfl) rfl (by decide) rfl ?_
  refine am_iconst (v := (0 : Int32)) (am_dec tmX0_tryStep_0 35 rfl) (by decide) ?_
  refine am_istore (lv' := [(0, .ref r0), (1, .int p1), (2, .int e10.1), (3, .int (p1 / (2 : Int32))), (4, .int (0 : Int32))]) (am_dec tmX0_tryStep_0 36 rfl) (by decide) rfl ?_
  refine am_iconst (v := (1 : Int32)) (am_dec tmX0_tryStep_0 37 rfl) (by decide) ?_
  refine am_istore (lv' := [(0, .ref r0), (1, .int p1), (2, .int e10.1), (3, .int (p1 / (2 : Int32))), (4, .int (0 : Int32)), (5, .int (1 : Int32))]) (am_dec tmX0_tryStep_0 38 rfl) (by decide) rfl ?_
  obtain ⟨e14, g36, hf⟩ := am_bd hf
  refine am_pick [0, 1, 2, 3, 4, 5] rfl (l_X0_tryStep_L65 hE (Nat.le_refl _) h_r0 am_fu _ _ _ g36 (fun ex he => ?_))
  subst he
  refine am_iconst (v := (0 : Int32)) (am_dec tmX0_tryStep_0 50 rfl) (by decide) ?_
  refine am_istore (lv' := [(0, .ref r0), (1, .int p1), (2, .int e10.1), (3, .int (p1 / (2 : Int32))), (4, .int e14), (5, .int (0 : Int32))]) (am_dec tmX0_tryStep_0 51 rfl) (by decide) rfl ?_
  obtain ⟨e34, g35, hf⟩ := am_bd hf
  refine am_pick [0, 1, 2, 3, 4, 5] rfl (l_X0_tryStep_L91 hE (Nat.le_refl _) h_r0 am_fu _ _ _ _ _ g35 (fun ex he => ?_))
  subst he
  have hf := Option.some.inj hf
  subst hf
  exact am_vret (am_dec tmX0_tryStep_1 50 rfl) rfl (Nat.zero_le _) (Nat.zero_le _)
def f_X0_findGrid_L9 (q0 : Nat) : Nat → Int32 → am_D → Option (am_D)
  | 0, _, _ => none
  | n + 1, v1, D =>
    if v1 < (4 : Int32) then
    some (D)
    else
    (f_X0_tryStep q0 v1 D).bind fun x5 =>
    f_X0_findGrid_L9 q0 n (v1 + (-1 : Int32)) x5
def f_X0_findGrid (r0 : Nat) (D : am_D) : Option (am_D) :=
    (some (am_wI D r0 3 (0 : Int32))).bind fun D1 =>
    (f_X0_findGrid_L9 r0 am_fu (200 : Int32) D1).bind fun e6 =>
    some e6
set_option maxRecDepth 100000 in
set_option maxHeartbeats 4000000 in
theorem l_X0_findGrid_L9 {E : am_E} (hE : am_EH E) {d mc ms : Nat} {o : am_O} {G2 : am_G} {D2 : am_D} (hdp : 3 ≤ d) {q0 : Nat} (h_q0 : am_sh am_G0 q0 = some (0, 6)) : ∀ (n : Nat) (v1 : Int32) (D : am_D) (ex0 : am_D), f_X0_findGrid_L9 q0 n v1 D = some ex0 → (∀ ex : am_D, ex0 = ex → am_S E mX0_findGrid d mc ms o G2 D2 0 0 25 [] [] am_G0 ex) → am_S E mX0_findGrid d mc ms o G2 D2 0 0 9 [(0, .ref q0), (1, .int v1)] [] am_G0 D
  | 0, _, _, _, hf, _ => by
    unfold f_X0_findGrid_L9 at hf
    cases hf
  | n + 1, v1, D, ex0, hf, hk0 => by
    unfold f_X0_findGrid_L9 at hf
    refine am_iload_n (am_dec tmX0_findGrid 5 rfl) rfl rfl ?_
    refine am_iconst (v := (4 : Int32)) (am_dec tmX0_findGrid 6 rfl) (by decide) ?_
    refine am_icmp_lt (tgt := 25) (am_dec tmX0_findGrid 7 rfl) (by decide) (fun c3 => ?_) (fun c3 => ?_)
    · rw [if_pos c3] at hf
      have hf := Option.some.inj hf
      subst hf
      exact am_pick [] rfl (hk0 _ rfl)
    · rw [if_neg c3] at hf
      refine am_aload_n (am_dec tmX0_findGrid 8 rfl) rfl rfl ?_
      refine am_iload_n (am_dec tmX0_findGrid 9 rfl) rfl rfl ?_
      obtain ⟨x5, g4, hf⟩ := am_bd hf
      refine am_callV0 (As := [.int v1]) (st := []) hE (am_dec tmX0_findGrid 10 rfl) ok_X0_tryStep rfl lm_X0_51 in_X0_tryStep se_X0_tryStep h_q0 cf0 (c_X0_tryStep hE h_q0 g4) rfl (Nat.lt_of_lt_of_le (by decide) hdp) (Nat.le_of_ble_eq_true rfl) (Nat.zero_le _) (Nat.zero_le _) rfl ?_
      refine am_iinc (v := (-1 : Int32)) (lv' := [(0, .ref q0), (1, .int (v1 + (-1 : Int32)))]) (am_dec tmX0_findGrid 11 rfl) rfl (by decide) (by decide) rfl ?_
      refine am_goto (tgt := 9) (am_dec tmX0_findGrid 12 rfl) (by decide) ?_
      exact am_pick [0, 1] rfl (l_X0_findGrid_L9 hE hdp h_q0 n (v1 + (-1 : Int32)) x5 ex0 hf hk0)
set_option maxRecDepth 100000 in
set_option maxHeartbeats 4000000 in
theorem c_X0_findGrid {E : am_E} (hE : am_EH E) {r0 : Nat} {D : am_D} {r : am_D} (h_r0 : am_sh am_G0 r0 = some (0, 6)) (hf : f_X0_findGrid r0 D = some r) : am_C E mX0_findGrid 3 0 0 [.ref r0] am_G0 D (.inl none) am_G0 r := by
  refine am_C_of (by decide +kernel) (Nat.le_of_ble_eq_true rfl) ?_
  change am_S E mX0_findGrid 3 0 0 (.inl none) am_G0 r 0 0 0 [(0, .ref r0)] [] am_G0 D
  unfold f_X0_findGrid at hf
  refine am_aload_n (am_dec tmX0_findGrid 0 rfl) rfl rfl ?_
  refine am_iconst (v := (0 : Int32)) (am_dec tmX0_findGrid 1 rfl) (by decide) ?_
  obtain ⟨D1, g2, hf⟩ := am_bd hf
  refine am_putI2 (j := 3) hE (am_dec tmX0_findGrid 2 rfl) h_r0 cf0 (by decide) rfl lf_X0_48 rfl rfl rfl g2 ?_
  refine am_sipush (v := (200 : Int32)) (am_dec tmX0_findGrid 3 rfl) (by decide) ?_
  refine am_istore_n (lv' := [(0, .ref r0), (1, .int (200 : Int32))]) (am_dec tmX0_findGrid 4 rfl) rfl (by decide) rfl ?_
  obtain ⟨e6, g7, hf⟩ := am_bd hf
  refine am_pick [0, 1] rfl (l_X0_findGrid_L9 hE (Nat.le_refl _) h_r0 am_fu _ _ _ g7 (fun ex he => ?_))
  subst he
  have hf := Option.some.inj hf
  subst hf
  exact am_vret (am_dec tmX0_findGrid 13 rfl) rfl (Nat.zero_le _) (Nat.zero_le _)
def f_X11_cut (p0 : Int32) (p1 : Int32) : Option (Int32) :=
    if p1 = 0 then
    some (0 : Int32)
    else
    (am_dv p0 p1).bind fun x2 =>
    some x2
set_option maxRecDepth 100000 in
set_option maxHeartbeats 4000000 in
theorem c_X11_cut {E : am_E} (hE : am_EH E) {p0 : Int32} {p1 : Int32} {D : am_D} {r : Int32}  (hf : f_X11_cut p0 p1 = some r) : am_C E mX11_cut 1 0 0 [.int p0, .int p1] am_G0 D (.inl (some (.int r))) am_G0 D := by
  refine am_C_of (by decide +kernel) (Nat.le_of_ble_eq_true rfl) ?_
  change am_S E mX11_cut 1 0 0 (.inl (some (.int r))) am_G0 D 0 0 0 [(0, .int p0), (1, .int p1)] [] am_G0 D
  unfold f_X11_cut at hf
  refine am_iload_n (am_dec tmX11_cut 0 rfl) rfl rfl ?_
  refine am_if_ne (tgt := 8) (am_dec tmX11_cut 1 rfl) (by decide) (fun c1 => ?_) (fun c1 => ?_)
  · rw [if_neg c1] at hf
    refine am_iload_n (am_dec tmX11_cut 4 rfl) rfl rfl ?_
    refine am_iload_n (am_dec tmX11_cut 5 rfl) rfl rfl ?_
    obtain ⟨x2, g3, hf⟩ := am_bd hf
    refine am_idiv2 (am_dec tmX11_cut 6 rfl) g3 ?_
    have hf := Option.some.inj hf
    subst hf
    exact am_iret (am_dec tmX11_cut 7 rfl) rfl (Nat.zero_le _) (Nat.zero_le _)
  · rw [if_pos c1] at hf
    refine am_iconst (v := (0 : Int32)) (am_dec tmX11_cut 2 rfl) (by decide) ?_
    refine am_goto (tgt := 11) (am_dec tmX11_cut 3 rfl) (by decide) ?_
    have hf := Option.some.inj hf
    subst hf
    exact am_iret (am_dec tmX11_cut 7 rfl) rfl (Nat.zero_le _) (Nat.zero_le _)
def f_X0_numberOf (r0 : Nat) (p1 : Int32) (D : am_D) : Option (Int32) :=
    (f_X11_cut (((2 : Int32) * (p1 - (D.1 r0 4))) + (D.1 r0 3)) ((2 : Int32) * (D.1 r0 3))).bind fun x2 =>
    some x2
set_option maxRecDepth 100000 in
set_option maxHeartbeats 4000000 in
theorem c_X0_numberOf {E : am_E} (hE : am_EH E) {r0 : Nat} {p1 : Int32} {D : am_D} {r : Int32} (h_r0 : am_sh am_G0 r0 = some (0, 6)) (hf : f_X0_numberOf r0 p1 D = some r) : am_C E mX0_numberOf 2 0 0 [.ref r0, .int p1] am_G0 D (.inl (some (.int r))) am_G0 D := by
  refine am_C_of (by decide +kernel) (Nat.le_of_ble_eq_true rfl) ?_
  change am_S E mX0_numberOf 2 0 0 (.inl (some (.int r))) am_G0 D 0 0 0 [(0, .ref r0), (1, .int p1)] [] am_G0 D
  unfold f_X0_numberOf at hf
  refine am_iconst (v := (2 : Int32)) (am_dec tmX0_numberOf 0 rfl) (by decide) ?_
  refine am_iload_n (am_dec tmX0_numberOf 1 rfl) rfl rfl ?_
  refine am_aload_n (am_dec tmX0_numberOf 2 rfl) rfl rfl ?_
  refine am_getI (j := 4) hE (am_dec tmX0_numberOf 3 rfl) h_r0 cf0 (by decide) rfl lf_X0_85 ?_
  refine am_isub (am_dec tmX0_numberOf 4 rfl) ?_
  refine am_imul (am_dec tmX0_numberOf 5 rfl) ?_
  refine am_aload_n (am_dec tmX0_numberOf 6 rfl) rfl rfl ?_
  refine am_getI (j := 3) hE (am_dec tmX0_numberOf 7 rfl) h_r0 cf0 (by decide) rfl lf_X0_48 ?_
  refine am_iadd (am_dec tmX0_numberOf 8 rfl) ?_
  refine am_iconst (v := (2 : Int32)) (am_dec tmX0_numberOf 9 rfl) (by decide) ?_
  refine am_aload_n (am_dec tmX0_numberOf 10 rfl) rfl rfl ?_
  refine am_getI (j := 3) hE (am_dec tmX0_numberOf 11 rfl) h_r0 cf0 (by decide) rfl lf_X0_48 ?_
  refine am_imul (am_dec tmX0_numberOf 12 rfl) ?_
  obtain ⟨x2, g1, hf⟩ := am_bd hf
  refine am_callSN1 (As := [.int (((2 : Int32) * (p1 - (D.1 r0 4))) + (D.1 r0 3)), .int ((2 : Int32) * (D.1 r0 3))]) (st := []) hE (am_dec tmX0_numberOf 13 rfl) ok_X11_cut rfl lm_X0_88 st_X11_cut (c_X11_cut hE g1) rfl (by decide) (Nat.le_of_ble_eq_true rfl) (Nat.zero_le _) (Nat.zero_le _) rfl ?_
  have hf := Option.some.inj hf
  subst hf
  exact am_iret (am_dec tmX0_numberOf 14 rfl) rfl (Nat.zero_le _) (Nat.zero_le _)
def f_X9_add (r0 : Nat) (p1 : Int32) (p2 : Int32) (D : am_D) : Option (am_D) :=
    if (D.1 r0 2) < 0 then
    some D
    else
    if (12 : Int32) ≤ (D.1 r0 2) then
    some D
    else
    (am_pI D (r0 + 1) 12 (D.1 r0 2) p1).bind fun D3 =>
    (am_pI D3 (r0 + 2) 12 (D3.1 r0 2) p2).bind fun D5 =>
    (some (am_wI D5 r0 2 ((D5.1 r0 2) + (1 : Int32)))).bind fun D7 =>
    some D7
set_option maxRecDepth 100000 in
set_option maxHeartbeats 4000000 in
theorem c_X9_add {E : am_E} (hE : am_EH E) {r0 : Nat} {p1 : Int32} {p2 : Int32} {D : am_D} {r : am_D} (h_r0 : am_sh am_G0 r0 = some (9, 3)) (hf : f_X9_add r0 p1 p2 D = some r) : am_C E mX9_add 1 0 0 [.ref r0, .int p1, .int p2] am_G0 D (.inl none) am_G0 r := by
  refine am_C_of (by decide +kernel) (Nat.le_of_ble_eq_true rfl) ?_
  change am_S E mX9_add 1 0 0 (.inl none) am_G0 r 0 0 0 [(0, .ref r0), (1, .int p1), (2, .int p2)] [] am_G0 D
  unfold f_X9_add at hf
  refine am_aload_n (am_dec tmX9_add 0 rfl) rfl rfl ?_
  refine am_getI (j := 2) hE (am_dec tmX9_add 1 rfl) h_r0 cf9 (by decide) rfl lf_X9_18 ?_
  refine am_if_lt (tgt := 46) (am_dec tmX9_add 2 rfl) (by decide) (fun c1 => ?_) (fun c1 => ?_)
  · rw [if_pos c1] at hf
    have hf := Option.some.inj hf
    subst hf
    exact am_vret (am_dec tmX9_add 25 rfl) rfl (Nat.zero_le _) (Nat.zero_le _)
  · rw [if_neg c1] at hf
    refine am_aload_n (am_dec tmX9_add 3 rfl) rfl rfl ?_
    refine am_getI (j := 2) hE (am_dec tmX9_add 4 rfl) h_r0 cf9 (by decide) rfl lf_X9_18 ?_
    refine am_bipush (v := (12 : Int32)) (am_dec tmX9_add 5 rfl) (by decide) ?_
    refine am_icmp_ge (tgt := 46) (am_dec tmX9_add 6 rfl) (by decide) (fun c2 => ?_) (fun c2 => ?_)
    · rw [if_pos c2] at hf
      have hf := Option.some.inj hf
      subst hf
      exact am_vret (am_dec tmX9_add 25 rfl) rfl (Nat.zero_le _) (Nat.zero_le _)
    · rw [if_neg c2] at hf
      refine am_aload_n (am_dec tmX9_add 7 rfl) rfl rfl ?_
      refine am_getR (j := 0) hE (am_dec tmX9_add 8 rfl) h_r0 cf9 (by decide) rfl lf_X9_9 (ro_X9_0_0 h_r0) ?_
      refine am_aload_n (am_dec tmX9_add 9 rfl) rfl rfl ?_
      refine am_getI (j := 2) hE (am_dec tmX9_add 10 rfl) h_r0 cf9 (by decide) rfl lf_X9_18 ?_
      refine am_iload_n (am_dec tmX9_add 11 rfl) rfl rfl ?_
      obtain ⟨D3, g4, hf⟩ := am_bd hf
      refine am_iast2 hE (am_dec tmX9_add 12 rfl) (so_X9_1 h_r0) g4 ?_
      refine am_aload_n (am_dec tmX9_add 13 rfl) rfl rfl ?_
      refine am_getR (j := 1) hE (am_dec tmX9_add 14 rfl) h_r0 cf9 (by decide) rfl lf_X9_15 (ro_X9_0_1 h_r0) ?_
      refine am_aload_n (am_dec tmX9_add 15 rfl) rfl rfl ?_
      refine am_getI (j := 2) hE (am_dec tmX9_add 16 rfl) h_r0 cf9 (by decide) rfl lf_X9_18 ?_
      refine am_iload_n (am_dec tmX9_add 17 rfl) rfl rfl ?_
      obtain ⟨D5, g6, hf⟩ := am_bd hf
      refine am_iast2 hE (am_dec tmX9_add 18 rfl) (so_X9_2 h_r0) g6 ?_
      refine am_aload_n (am_dec tmX9_add 19 rfl) rfl rfl ?_
      refine am_dup (am_dec tmX9_add 20 rfl) rfl ?_
      refine am_getI (j := 2) hE (am_dec tmX9_add 21 rfl) h_r0 cf9 (by decide) rfl lf_X9_18 ?_
      refine am_iconst (v := (1 : Int32)) (am_dec tmX9_add 22 rfl) (by decide) ?_
      refine am_iadd (am_dec tmX9_add 23 rfl) ?_
      obtain ⟨D7, g8, hf⟩ := am_bd hf
      refine am_putI2 (j := 2) hE (am_dec tmX9_add 24 rfl) h_r0 cf9 (by decide) rfl lf_X9_18 rfl rfl rfl g8 ?_
      have hf := Option.some.inj hf
      subst hf
      exact am_vret (am_dec tmX9_add 25 rfl) rfl (Nat.zero_le _) (Nat.zero_le _)
def f_X9_clear (r0 : Nat) (D : am_D) : Option (am_D) :=
    (some (am_wI D r0 2 (0 : Int32))).bind fun D1 =>
    some D1
set_option maxRecDepth 100000 in
set_option maxHeartbeats 4000000 in
theorem c_X9_clear {E : am_E} (hE : am_EH E) {r0 : Nat} {D : am_D} {r : am_D} (h_r0 : am_sh am_G0 r0 = some (9, 3)) (hf : f_X9_clear r0 D = some r) : am_C E mX9_clear 1 0 0 [.ref r0] am_G0 D (.inl none) am_G0 r := by
  refine am_C_of (by decide +kernel) (Nat.le_of_ble_eq_true rfl) ?_
  change am_S E mX9_clear 1 0 0 (.inl none) am_G0 r 0 0 0 [(0, .ref r0)] [] am_G0 D
  unfold f_X9_clear at hf
  refine am_aload_n (am_dec tmX9_clear 0 rfl) rfl rfl ?_
  refine am_iconst (v := (0 : Int32)) (am_dec tmX9_clear 1 rfl) (by decide) ?_
  obtain ⟨D1, g2, hf⟩ := am_bd hf
  refine am_putI2 (j := 2) hE (am_dec tmX9_clear 2 rfl) h_r0 cf9 (by decide) rfl lf_X9_18 rfl rfl rfl g2 ?_
  have hf := Option.some.inj hf
  subst hf
  exact am_vret (am_dec tmX9_clear 3 rfl) rfl (Nat.zero_le _) (Nat.zero_le _)
def f_X9_from (r0 : Nat) (p1 : Int32) (D : am_D) : Option (Int32) :=
    if p1 < 0 then
    some (0 : Int32)
    else
    if (D.1 r0 2) ≤ p1 then
    some (0 : Int32)
    else
    if (12 : Int32) ≤ p1 then
    some (0 : Int32)
    else
    (am_gI D (r0 + 1) 12 p1).bind fun x4 =>
    some x4
set_option maxRecDepth 100000 in
set_option maxHeartbeats 4000000 in
theorem c_X9_from {E : am_E} (hE : am_EH E) {r0 : Nat} {p1 : Int32} {D : am_D} {r : Int32} (h_r0 : am_sh am_G0 r0 = some (9, 3)) (hf : f_X9_from r0 p1 D = some r) : am_C E mX9_from 1 0 0 [.ref r0, .int p1] am_G0 D (.inl (some (.int r))) am_G0 D := by
  refine am_C_of (by decide +kernel) (Nat.le_of_ble_eq_true rfl) ?_
  change am_S E mX9_from 1 0 0 (.inl (some (.int r))) am_G0 D 0 0 0 [(0, .ref r0), (1, .int p1)] [] am_G0 D
  unfold f_X9_from at hf
  refine am_iload_n (am_dec tmX9_from 0 rfl) rfl rfl ?_
  refine am_if_lt (tgt := 30) (am_dec tmX9_from 1 rfl) (by decide) (fun c1 => ?_) (fun c1 => ?_)
  · rw [if_pos c1] at hf
    refine am_iconst (v := (0 : Int32)) (am_dec tmX9_from 16 rfl) (by decide) ?_
    have hf := Option.some.inj hf
    subst hf
    exact am_iret (am_dec tmX9_from 17 rfl) rfl (Nat.zero_le _) (Nat.zero_le _)
  · rw [if_neg c1] at hf
    refine am_iload_n (am_dec tmX9_from 2 rfl) rfl rfl ?_
    refine am_aload_n (am_dec tmX9_from 3 rfl) rfl rfl ?_
    refine am_getI (j := 2) hE (am_dec tmX9_from 4 rfl) h_r0 cf9 (by decide) rfl lf_X9_18 ?_
    refine am_icmp_ge (tgt := 30) (am_dec tmX9_from 5 rfl) (by decide) (fun c2 => ?_) (fun c2 => ?_)
    · rw [if_pos c2] at hf
      refine am_iconst (v := (0 : Int32)) (am_dec tmX9_from 16 rfl) (by decide) ?_
      have hf := Option.some.inj hf
      subst hf
      exact am_iret (am_dec tmX9_from 17 rfl) rfl (Nat.zero_le _) (Nat.zero_le _)
    · rw [if_neg c2] at hf
      refine am_iload_n (am_dec tmX9_from 6 rfl) rfl rfl ?_
      refine am_aload_n (am_dec tmX9_from 7 rfl) rfl rfl ?_
      refine am_getR (j := 0) hE (am_dec tmX9_from 8 rfl) h_r0 cf9 (by decide) rfl lf_X9_9 (ro_X9_0_0 h_r0) ?_
      refine am_alen (t := 0) (v := (12 : Int32)) hE (am_dec tmX9_from 9 rfl) (so_X9_1 h_r0) (by decide) (by decide) ?_
      refine am_icmp_ge (tgt := 30) (am_dec tmX9_from 10 rfl) (by decide) (fun c3 => ?_) (fun c3 => ?_)
      · rw [if_pos c3] at hf
        refine am_iconst (v := (0 : Int32)) (am_dec tmX9_from 16 rfl) (by decide) ?_
        have hf := Option.some.inj hf
        subst hf
        exact am_iret (am_dec tmX9_from 17 rfl) rfl (Nat.zero_le _) (Nat.zero_le _)
      · rw [if_neg c3] at hf
        refine am_aload_n (am_dec tmX9_from 11 rfl) rfl rfl ?_
        refine am_getR (j := 0) hE (am_dec tmX9_from 12 rfl) h_r0 cf9 (by decide) rfl lf_X9_9 (ro_X9_0_0 h_r0) ?_
        refine am_iload_n (am_dec tmX9_from 13 rfl) rfl rfl ?_
        obtain ⟨x4, g5, hf⟩ := am_bd hf
        refine am_iald2 hE (am_dec tmX9_from 14 rfl) (so_X9_1 h_r0) g5 ?_
        refine am_goto (tgt := 31) (am_dec tmX9_from 15 rfl) (by decide) ?_
        have hf := Option.some.inj hf
        subst hf
        exact am_iret (am_dec tmX9_from 17 rfl) rfl (Nat.zero_le _) (Nat.zero_le _)
def f_X9_lastFrom (r0 : Nat) (D : am_D) : Option (Int32) :=
    (f_X9_from r0 ((D.1 r0 2) - (1 : Int32)) D).bind fun x2 =>
    some x2
set_option maxRecDepth 100000 in
set_option maxHeartbeats 4000000 in
theorem c_X9_lastFrom {E : am_E} (hE : am_EH E) {r0 : Nat} {D : am_D} {r : Int32} (h_r0 : am_sh am_G0 r0 = some (9, 3)) (hf : f_X9_lastFrom r0 D = some r) : am_C E mX9_lastFrom 2 0 0 [.ref r0] am_G0 D (.inl (some (.int r))) am_G0 D := by
  refine am_C_of (by decide +kernel) (Nat.le_of_ble_eq_true rfl) ?_
  change am_S E mX9_lastFrom 2 0 0 (.inl (some (.int r))) am_G0 D 0 0 0 [(0, .ref r0)] [] am_G0 D
  unfold f_X9_lastFrom at hf
  refine am_aload_n (am_dec tmX9_lastFrom 0 rfl) rfl rfl ?_
  refine am_aload_n (am_dec tmX9_lastFrom 1 rfl) rfl rfl ?_
  refine am_getI (j := 2) hE (am_dec tmX9_lastFrom 2 rfl) h_r0 cf9 (by decide) rfl lf_X9_18 ?_
  refine am_iconst (v := (1 : Int32)) (am_dec tmX9_lastFrom 3 rfl) (by decide) ?_
  refine am_isub (am_dec tmX9_lastFrom 4 rfl) ?_
  obtain ⟨x2, g1, hf⟩ := am_bd hf
  refine am_callV1 (As := [.int ((D.1 r0 2) - (1 : Int32))]) (st := []) hE (am_dec tmX9_lastFrom 5 rfl) ok_X9_from rfl lm_X9_43 in_X9_from se_X9_from h_r0 cf9 (c_X9_from hE h_r0 g1) rfl (by decide) (Nat.le_of_ble_eq_true rfl) (Nat.zero_le _) (Nat.zero_le _) rfl ?_
  have hf := Option.some.inj hf
  subst hf
  exact am_iret (am_dec tmX9_lastFrom 6 rfl) rfl (Nat.zero_le _) (Nat.zero_le _)
def f_X9_to (r0 : Nat) (p1 : Int32) (D : am_D) : Option (Int32) :=
    if p1 < 0 then
    some (0 : Int32)
    else
    if (D.1 r0 2) ≤ p1 then
    some (0 : Int32)
    else
    if (12 : Int32) ≤ p1 then
    some (0 : Int32)
    else
    (am_gI D (r0 + 2) 12 p1).bind fun x4 =>
    some x4
set_option maxRecDepth 100000 in
set_option maxHeartbeats 4000000 in
theorem c_X9_to {E : am_E} (hE : am_EH E) {r0 : Nat} {p1 : Int32} {D : am_D} {r : Int32} (h_r0 : am_sh am_G0 r0 = some (9, 3)) (hf : f_X9_to r0 p1 D = some r) : am_C E mX9_to 1 0 0 [.ref r0, .int p1] am_G0 D (.inl (some (.int r))) am_G0 D := by
  refine am_C_of (by decide +kernel) (Nat.le_of_ble_eq_true rfl) ?_
  change am_S E mX9_to 1 0 0 (.inl (some (.int r))) am_G0 D 0 0 0 [(0, .ref r0), (1, .int p1)] [] am_G0 D
  unfold f_X9_to at hf
  refine am_iload_n (am_dec tmX9_to 0 rfl) rfl rfl ?_
  refine am_if_lt (tgt := 30) (am_dec tmX9_to 1 rfl) (by decide) (fun c1 => ?_) (fun c1 => ?_)
  · rw [if_pos c1] at hf
    refine am_iconst (v := (0 : Int32)) (am_dec tmX9_to 16 rfl) (by decide) ?_
    have hf := Option.some.inj hf
    subst hf
    exact am_iret (am_dec tmX9_to 17 rfl) rfl (Nat.zero_le _) (Nat.zero_le _)
  · rw [if_neg c1] at hf
    refine am_iload_n (am_dec tmX9_to 2 rfl) rfl rfl ?_
    refine am_aload_n (am_dec tmX9_to 3 rfl) rfl rfl ?_
    refine am_getI (j := 2) hE (am_dec tmX9_to 4 rfl) h_r0 cf9 (by decide) rfl lf_X9_18 ?_
    refine am_icmp_ge (tgt := 30) (am_dec tmX9_to 5 rfl) (by decide) (fun c2 => ?_) (fun c2 => ?_)
    · rw [if_pos c2] at hf
      refine am_iconst (v := (0 : Int32)) (am_dec tmX9_to 16 rfl) (by decide) ?_
      have hf := Option.some.inj hf
      subst hf
      exact am_iret (am_dec tmX9_to 17 rfl) rfl (Nat.zero_le _) (Nat.zero_le _)
    · rw [if_neg c2] at hf
      refine am_iload_n (am_dec tmX9_to 6 rfl) rfl rfl ?_
      refine am_aload_n (am_dec tmX9_to 7 rfl) rfl rfl ?_
      refine am_getR (j := 1) hE (am_dec tmX9_to 8 rfl) h_r0 cf9 (by decide) rfl lf_X9_15 (ro_X9_0_1 h_r0) ?_
      refine am_alen (t := 0) (v := (12 : Int32)) hE (am_dec tmX9_to 9 rfl) (so_X9_2 h_r0) (by decide) (by decide) ?_
      refine am_icmp_ge (tgt := 30) (am_dec tmX9_to 10 rfl) (by decide) (fun c3 => ?_) (fun c3 => ?_)
      · rw [if_pos c3] at hf
        refine am_iconst (v := (0 : Int32)) (am_dec tmX9_to 16 rfl) (by decide) ?_
        have hf := Option.some.inj hf
        subst hf
        exact am_iret (am_dec tmX9_to 17 rfl) rfl (Nat.zero_le _) (Nat.zero_le _)
      · rw [if_neg c3] at hf
        refine am_aload_n (am_dec tmX9_to 11 rfl) rfl rfl ?_
        refine am_getR (j := 1) hE (am_dec tmX9_to 12 rfl) h_r0 cf9 (by decide) rfl lf_X9_15 (ro_X9_0_1 h_r0) ?_
        refine am_iload_n (am_dec tmX9_to 13 rfl) rfl rfl ?_
        obtain ⟨x4, g5, hf⟩ := am_bd hf
        refine am_iald2 hE (am_dec tmX9_to 14 rfl) (so_X9_2 h_r0) g5 ?_
        refine am_goto (tgt := 31) (am_dec tmX9_to 15 rfl) (by decide) ?_
        have hf := Option.some.inj hf
        subst hf
        exact am_iret (am_dec tmX9_to 17 rfl) rfl (Nat.zero_le _) (Nat.zero_le _)
def f_X9_lastTo (r0 : Nat) (D : am_D) : Option (Int32) :=
    (f_X9_to r0 ((D.1 r0 2) - (1 : Int32)) D).bind fun x2 =>
    some x2
set_option maxRecDepth 100000 in
set_option maxHeartbeats 4000000 in
theorem c_X9_lastTo {E : am_E} (hE : am_EH E) {r0 : Nat} {D : am_D} {r : Int32} (h_r0 : am_sh am_G0 r0 = some (9, 3)) (hf : f_X9_lastTo r0 D = some r) : am_C E mX9_lastTo 2 0 0 [.ref r0] am_G0 D (.inl (some (.int r))) am_G0 D := by
  refine am_C_of (by decide +kernel) (Nat.le_of_ble_eq_true rfl) ?_
  change am_S E mX9_lastTo 2 0 0 (.inl (some (.int r))) am_G0 D 0 0 0 [(0, .ref r0)] [] am_G0 D
  unfold f_X9_lastTo at hf
  refine am_aload_n (am_dec tmX9_lastTo 0 rfl) rfl rfl ?_
  refine am_aload_n (am_dec tmX9_lastTo 1 rfl) rfl rfl ?_
  refine am_getI (j := 2) hE (am_dec tmX9_lastTo 2 rfl) h_r0 cf9 (by decide) rfl lf_X9_18 ?_
  refine am_iconst (v := (1 : Int32)) (am_dec tmX9_lastTo 3 rfl) (by decide) ?_
  refine am_isub (am_dec tmX9_lastTo 4 rfl) ?_
  obtain ⟨x2, g1, hf⟩ := am_bd hf
  refine am_callV1 (As := [.int ((D.1 r0 2) - (1 : Int32))]) (st := []) hE (am_dec tmX9_lastTo 5 rfl) ok_X9_to rfl lm_X9_47 in_X9_to se_X9_to h_r0 cf9 (c_X9_to hE h_r0 g1) rfl (by decide) (Nat.le_of_ble_eq_true rfl) (Nat.zero_le _) (Nat.zero_le _) rfl ?_
  have hf := Option.some.inj hf
  subst hf
  exact am_iret (am_dec tmX9_lastTo 6 rfl) rfl (Nat.zero_le _) (Nat.zero_le _)
def f_X0_intoMap_L17 (q0 : Nat) (q1 : Int32) (q2 : Nat) (q3 : Int32) : Nat → Int32 → am_D → Option (am_D)
  | 0, _, _ => none
  | n + 1, v4, D =>
    if (D.1 q0 2) ≤ v4 then
    some (D)
    else
    (f_X0_at q0 v4 D).bind fun x9 =>
    (f_X0_numberOf q0 x9 D).bind fun x11 =>
    (f_X9_lastFrom q2 D).bind fun x13 =>
    (if x9 ≤ x13 then
    some ((0 : Int32))
    else
    (f_X9_lastTo q2 D).bind fun x17 =>
    if (q1 * ((x11 - q3) + (1 : Int32))) ≤ x17 then
    some ((0 : Int32))
    else
    some ((1 : Int32))).bind fun w19 =>
    (if w19 = 0 then
    some (D)
    else
    if (11 : Int32) ≤ (D.1 q2 2) then
    some (D)
    else
    (f_X9_add q2 x9 (q1 * ((x11 - q3) + (1 : Int32))) D).bind fun x24 =>
    some (x24)).bind fun w25 =>
    f_X0_intoMap_L17 q0 q1 q2 q3 n (v4 + (1 : Int32)) w25
def f_X0_intoMap (r0 : Nat) (p1 : Int32) (p2 : Nat) (D : am_D) : Option (am_D) :=
    (f_X9_clear p2 D).bind fun x2 =>
    (f_X0_at r0 (0 : Int32) x2).bind fun x4 =>
    (f_X0_numberOf r0 x4 x2).bind fun x6 =>
    (f_X0_intoMap_L17 r0 p1 p2 x6 am_fu (0 : Int32) x2).bind fun e28 =>
    some e28
set_option maxRecDepth 100000 in
set_option maxHeartbeats 4000000 in
theorem l_X0_intoMap_L17 {E : am_E} (hE : am_EH E) {d mc ms : Nat} {o : am_O} {G2 : am_G} {D2 : am_D} (hdp : 3 ≤ d) {q0 : Nat} {q1 : Int32} {q2 : Nat} {q3 : Int32} (h_q0 : am_sh am_G0 q0 = some (0, 6)) (h_q2 : am_sh am_G0 q2 = some (9, 3)) : ∀ (n : Nat) (v4 : Int32) (D : am_D) (ex0 : am_D), f_X0_intoMap_L17 q0 q1 q2 q3 n v4 D = some ex0 → (∀ ex : am_D, ex0 = ex → am_S E mX0_intoMap d mc ms o G2 D2 0 0 101 [] [] am_G0 ex) → am_S E mX0_intoMap d mc ms o G2 D2 0 0 17 [(0, .ref q0), (1, .int q1), (2, .ref q2), (3, .int q3), (4, .int v4)] [] am_G0 D
  | 0, _, _, _, hf, _ => by
    unfold f_X0_intoMap_L17 at hf
    cases hf
  | n + 1, v4, D, ex0, hf, hk0 => by
    unfold f_X0_intoMap_L17 at hf
    refine am_iload (am_dec tmX0_intoMap 10 rfl) rfl ?_
    refine am_aload_n (am_dec tmX0_intoMap 11 rfl) rfl rfl ?_
    refine am_getI (j := 2) hE (am_dec tmX0_intoMap 12 rfl) h_q0 cf0 (by decide) rfl lf_X0_18 ?_
    refine am_icmp_ge (tgt := 101) (am_dec tmX0_intoMap 13 rfl) (by decide) (fun c7 => ?_) (fun c7 => ?_)
    · rw [if_pos c7] at hf
      have hf := Option.some.inj hf
      subst hf
      exact am_pick [] rfl (hk0 _ rfl)
    · rw [if_neg c7] at hf
      refine am_aload_n (am_dec tmX0_intoMap 14 rfl) rfl rfl ?_
      refine am_iload (am_dec tmX0_intoMap 15 rfl) rfl ?_
      obtain ⟨x9, g8, hf⟩ := am_bd hf
      refine am_callV1 (As := [.int v4]) (st := []) hE (am_dec tmX0_intoMap 16 rfl) ok_X0_at rfl lm_X0_61 in_X0_at se_X0_at h_q0 cf0 (c_X0_at hE h_q0 g8) rfl (Nat.lt_of_lt_of_le (by decide) hdp) (Nat.le_of_ble_eq_true rfl) (Nat.zero_le _) (Nat.zero_le _) rfl ?_
      refine am_istore (lv' := [(0, .ref q0), (1, .int q1), (2, .ref q2), (3, .int q3), (4, .int v4), (5, .int x9)]) (am_dec tmX0_intoMap 17 rfl) (by decide) rfl ?_
      refine am_iload_n (am_dec tmX0_intoMap 18 rfl) rfl rfl ?_
      refine am_aload_n (am_dec tmX0_intoMap 19 rfl) rfl rfl ?_
      refine am_iload (am_dec tmX0_intoMap 20 rfl) rfl ?_
      obtain ⟨x11, g10, hf⟩ := am_bd hf
      refine am_callV1 (As := [.int x9]) (st := [.int q1]) hE (am_dec tmX0_intoMap 21 rfl) ok_X0_numberOf rfl lm_X0_96 in_X0_numberOf se_X0_numberOf h_q0 cf0 (c_X0_numberOf hE h_q0 g10) rfl (Nat.lt_of_lt_of_le (by decide) hdp) (Nat.le_of_ble_eq_true rfl) (Nat.zero_le _) (Nat.zero_le _) rfl ?_
      refine am_iload_n (am_dec tmX0_intoMap 22 rfl) rfl rfl ?_
      refine am_isub (am_dec tmX0_intoMap 23 rfl) ?_
      refine am_iconst (v := (1 : Int32)) (am_dec tmX0_intoMap 24 rfl) (by decide) ?_
      refine am_iadd (am_dec tmX0_intoMap 25 rfl) ?_
      refine am_imul (am_dec tmX0_intoMap 26 rfl) ?_
      refine am_istore (lv' := [(0, .ref q0), (1, .int q1), (2, .ref q2), (3, .int q3), (4, .int v4), (5, .int x9), (6, .int (q1 * ((x11 - q3) + (1 : Int32))))]) (am_dec tmX0_intoMap 27 rfl) (by decide) rfl ?_
      refine am_iload (am_dec tmX0_intoMap 28 rfl) rfl ?_
      refine am_aload_n (am_dec tmX0_intoMap 29 rfl) rfl rfl ?_
      obtain ⟨x13, g12, hf⟩ := am_bd hf
      refine am_callV1 (As := []) (st := [.int x9]) hE (am_dec tmX0_intoMap 30 rfl) ok_X9_lastFrom rfl lm_X0_99 in_X9_lastFrom se_X9_lastFrom h_q2 cf9 (c_X9_lastFrom hE h_q2 g12) rfl (Nat.lt_of_lt_of_le (by decide) hdp) (Nat.le_of_ble_eq_true rfl) (Nat.zero_le _) (Nat.zero_le _) rfl ?_
      obtain ⟨w19, g27, hf⟩ := am_bd hf
      have key15 : am_S E mX0_intoMap d mc ms o G2 D2 0 0 71 [(0, .ref q0), (1, .int q1), (2, .ref q2), (3, .int q3), (4, .int v4), (5, .int x9), (6, .int (q1 * ((x11 - q3) + (1 : Int32))))] [.int w19] am_G0 D := by
        refine am_istore (lv' := [(0, .ref q0), (1, .int q1), (2, .ref q2), (3, .int q3), (4, .int v4), (5, .int x9), (6, .int (q1 * ((x11 - q3) + (1 : Int32)))), (7, .int w19)]) (am_dec tmX0_intoMap 39 rfl) (by decide) rfl ?_
        refine am_iload (am_dec tmX0_intoMap 40 rfl) rfl ?_
        obtain ⟨w25, g26, hf⟩ := am_bd hf
        have key21 : am_S E mX0_intoMap d mc ms o G2 D2 0 0 95 [(0, .ref q0), (1, .int q1), (2, .ref q2), (3, .int q3), (4, .int v4)] [] am_G0 w25 := by
          refine am_iinc (v := (1 : Int32)) (lv' := [(0, .ref q0), (1, .int q1), (2, .ref q2), (3, .int q3), (4, .int (v4 + (1 : Int32)))]) (am_dec tmX0_intoMap 50 rfl) rfl (by decide) (by decide) rfl ?_
          refine am_goto (tgt := 17) (am_dec tmX0_intoMap 51 rfl) (by decide) ?_
          exact am_pick [0, 1, 2, 3, 4] rfl (l_X0_intoMap_L17 hE hdp h_q0 h_q2 n (v4 + (1 : Int32)) w25 ex0 hf hk0)
        replace hf := g26
        refine am_if_eq (tgt := 95) (am_dec tmX0_intoMap 41 rfl) (by decide) (fun c20 => ?_) (fun c20 => ?_)
        · rw [if_pos c20] at hf
          have hf := Option.some.inj hf
          subst hf
          exact am_pick [0, 1, 2, 3, 4] rfl key21
        · rw [if_neg c20] at hf
          refine am_aload_n (am_dec tmX0_intoMap 42 rfl) rfl rfl ?_
          refine am_getI (j := 2) hE (am_dec tmX0_intoMap 43 rfl) h_q2 cf9 (by decide) rfl lf_X0_106 ?_
          refine am_bipush (v := (11 : Int32)) (am_dec tmX0_intoMap 44 rfl) (by decide) ?_
          refine am_icmp_ge (tgt := 95) (am_dec tmX0_intoMap 45 rfl) (by decide) (fun c22 => ?_) (fun c22 => ?_)
          · rw [if_pos c22] at hf
            have hf := Option.some.inj hf
            subst hf
            exact am_pick [0, 1, 2, 3, 4] rfl key21
          · rw [if_neg c22] at hf
            refine am_aload_n (am_dec tmX0_intoMap 46 rfl) rfl rfl ?_
            refine am_iload (am_dec tmX0_intoMap 47 rfl) rfl ?_
            refine am_iload (am_dec tmX0_intoMap 48 rfl) rfl ?_
            obtain ⟨x24, g23, hf⟩ := am_bd hf
            refine am_callV0 (As := [.int x9, .int (q1 * ((x11 - q3) + (1 : Int32)))]) (st := []) hE (am_dec tmX0_intoMap 49 rfl) ok_X9_add rfl lm_X0_107 in_X9_add se_X9_add h_q2 cf9 (c_X9_add hE h_q2 g23) rfl (Nat.lt_of_lt_of_le (by decide) hdp) (Nat.le_of_ble_eq_true rfl) (Nat.zero_le _) (Nat.zero_le _) rfl ?_
            have hf := Option.some.inj hf
            subst hf
            exact am_pick [0, 1, 2, 3, 4] rfl key21
      replace hf := g27
      refine am_icmp_le (tgt := 70) (am_dec tmX0_intoMap 31 rfl) (by decide) (fun c14 => ?_) (fun c14 => ?_)
      · rw [if_pos c14] at hf
        refine am_iconst (v := (0 : Int32)) (am_dec tmX0_intoMap 38 rfl) (by decide) ?_
        have hf := Option.some.inj hf
        subst hf
        exact am_pick [0, 1, 2, 3, 4, 5, 6] rfl key15
      · rw [if_neg c14] at hf
        refine am_iload (am_dec tmX0_intoMap 32 rfl) rfl ?_
        refine am_aload_n (am_dec tmX0_intoMap 33 rfl) rfl rfl ?_
        obtain ⟨x17, g16, hf⟩ := am_bd hf
        refine am_callV1 (As := []) (st := [.int (q1 * ((x11 - q3) + (1 : Int32)))]) hE (am_dec tmX0_intoMap 34 rfl) ok_X9_lastTo rfl lm_X0_103 in_X9_lastTo se_X9_lastTo h_q2 cf9 (c_X9_lastTo hE h_q2 g16) rfl (Nat.lt_of_lt_of_le (by decide) hdp) (Nat.le_of_ble_eq_true rfl) (Nat.zero_le _) (Nat.zero_le _) rfl ?_
        refine am_icmp_le (tgt := 70) (am_dec tmX0_intoMap 35 rfl) (by decide) (fun c18 => ?_) (fun c18 => ?_)
        · rw [if_pos c18] at hf
          refine am_iconst (v := (0 : Int32)) (am_dec tmX0_intoMap 38 rfl) (by decide) ?_
          have hf := Option.some.inj hf
          subst hf
          exact am_pick [0, 1, 2, 3, 4, 5, 6] rfl key15
        · rw [if_neg c18] at hf
          refine am_iconst (v := (1 : Int32)) (am_dec tmX0_intoMap 36 rfl) (by decide) ?_
          refine am_goto (tgt := 71) (am_dec tmX0_intoMap 37 rfl) (by decide) ?_
          have hf := Option.some.inj hf
          subst hf
          exact am_pick [0, 1, 2, 3, 4, 5, 6] rfl key15
set_option maxRecDepth 100000 in
set_option maxHeartbeats 4000000 in
theorem c_X0_intoMap {E : am_E} (hE : am_EH E) {r0 : Nat} {p1 : Int32} {p2 : Nat} {D : am_D} {r : am_D} (h_r0 : am_sh am_G0 r0 = some (0, 6)) (h_p2 : am_sh am_G0 p2 = some (9, 3)) (hf : f_X0_intoMap r0 p1 p2 D = some r) : am_C E mX0_intoMap 3 0 0 [.ref r0, .int p1, .ref p2] am_G0 D (.inl none) am_G0 r := by
  refine am_C_of (by decide +kernel) (Nat.le_of_ble_eq_true rfl) ?_
  change am_S E mX0_intoMap 3 0 0 (.inl none) am_G0 r 0 0 0 [(0, .ref r0), (1, .int p1), (2, .ref p2)] [] am_G0 D
  unfold f_X0_intoMap at hf
  refine am_aload_n (am_dec tmX0_intoMap 0 rfl) rfl rfl ?_
  obtain ⟨x2, g1, hf⟩ := am_bd hf
  refine am_callV0 (As := []) (st := []) hE (am_dec tmX0_intoMap 1 rfl) ok_X9_clear rfl lm_X0_91 in_X9_clear se_X9_clear h_p2 cf9 (c_X9_clear hE h_p2 g1) rfl (by decide) (Nat.le_of_ble_eq_true rfl) (Nat.zero_le _) (Nat.zero_le _) rfl ?_
  refine am_aload_n (am_dec tmX0_intoMap 2 rfl) rfl rfl ?_
  refine am_aload_n (am_dec tmX0_intoMap 3 rfl) rfl rfl ?_
  refine am_iconst (v := (0 : Int32)) (am_dec tmX0_intoMap 4 rfl) (by decide) ?_
  obtain ⟨x4, g3, hf⟩ := am_bd hf
  refine am_callV1 (As := [.int (0 : Int32)]) (st := [.ref r0]) hE (am_dec tmX0_intoMap 5 rfl) ok_X0_at rfl lm_X0_61 in_X0_at se_X0_at h_r0 cf0 (c_X0_at hE h_r0 g3) rfl (by decide) (Nat.le_of_ble_eq_true rfl) (Nat.zero_le _) (Nat.zero_le _) rfl ?_
  obtain ⟨x6, g5, hf⟩ := am_bd hf
  refine am_callV1 (As := [.int x4]) (st := []) hE (am_dec tmX0_intoMap 6 rfl) ok_X0_numberOf rfl lm_X0_96 in_X0_numberOf se_X0_numberOf h_r0 cf0 (c_X0_numberOf hE h_r0 g5) rfl (by decide) (Nat.le_of_ble_eq_true rfl) (Nat.zero_le _) (Nat.zero_le _) rfl ?_
  refine am_istore_n (lv' := [(0, .ref r0), (1, .int p1), (2, .ref p2), (3, .int x6)]) (am_dec tmX0_intoMap 7 rfl) rfl (by decide) rfl ?_
  refine am_iconst (v := (0 : Int32)) (am_dec tmX0_intoMap 8 rfl) (by decide) ?_
  refine am_istore (lv' := [(0, .ref r0), (1, .int p1), (2, .ref p2), (3, .int x6), (4, .int (0 : Int32))]) (am_dec tmX0_intoMap 9 rfl) (by decide) rfl ?_
  obtain ⟨e28, g29, hf⟩ := am_bd hf
  refine am_pick [0, 1, 2, 3, 4] rfl (l_X0_intoMap_L17 hE (Nat.le_refl _) h_r0 h_p2 am_fu _ _ _ g29 (fun ex he => ?_))
  subst he
  have hf := Option.some.inj hf
  subst hf
  exact am_vret (am_dec tmX0_intoMap 52 rfl) rfl (Nat.zero_le _) (Nat.zero_le _)
def f_X1_freeSound (D : am_D) : Option ((Option Nat)) :=
    if (D.1 17 7) < 0 then
    some none
    else
    if (5 : Int32) ≤ (D.1 17 7) then
    some none
    else
    (am_gA 5 (D.1 17 7)).bind fun j3 =>
    some (some (30 + 2 * j3))
set_option maxRecDepth 100000 in
set_option maxHeartbeats 4000000 in
theorem c_X1_freeSound {E : am_E} (hE : am_EH E) {D : am_D} {r : (Option Nat)}  (hf : f_X1_freeSound D = some r) : am_C E mX1_freeSound 1 0 0 [.ref 17] am_G0 D (.inl (some (am_nv r))) am_G0 D := by
  refine am_C_of (by decide +kernel) (Nat.le_of_ble_eq_true rfl) ?_
  change am_S E mX1_freeSound 1 0 0 (.inl (some (am_nv r))) am_G0 D 0 0 0 [(0, .ref 17)] [] am_G0 D
  unfold f_X1_freeSound at hf
  refine am_aload_n (am_dec tmX1_freeSound 0 rfl) rfl rfl ?_
  refine am_getI (j := 7) hE (am_dec tmX1_freeSound 1 rfl) sh_17 cf1 (by decide) rfl lf_X1_62 ?_
  refine am_if_lt (tgt := 27) (am_dec tmX1_freeSound 2 rfl) (by decide) (fun c1 => ?_) (fun c1 => ?_)
  · rw [if_pos c1] at hf
    refine am_null (am_dec tmX1_freeSound 13 rfl) ?_
    have hf := Option.some.inj hf
    subst hf
    exact am_aretN (am_dec tmX1_freeSound 14 rfl) rfl (Or.inl ⟨_, rfl⟩) (Nat.zero_le _) (Nat.zero_le _)
  · rw [if_neg c1] at hf
    refine am_aload_n (am_dec tmX1_freeSound 3 rfl) rfl rfl ?_
    refine am_getI (j := 7) hE (am_dec tmX1_freeSound 4 rfl) sh_17 cf1 (by decide) rfl lf_X1_62 ?_
    refine am_iconst (v := (5 : Int32)) (am_dec tmX1_freeSound 5 rfl) (by decide) ?_
    refine am_icmp_ge (tgt := 27) (am_dec tmX1_freeSound 6 rfl) (by decide) (fun c2 => ?_) (fun c2 => ?_)
    · rw [if_pos c2] at hf
      refine am_null (am_dec tmX1_freeSound 13 rfl) ?_
      have hf := Option.some.inj hf
      subst hf
      exact am_aretN (am_dec tmX1_freeSound 14 rfl) rfl (Or.inl ⟨_, rfl⟩) (Nat.zero_le _) (Nat.zero_le _)
    · rw [if_neg c2] at hf
      refine am_aload_n (am_dec tmX1_freeSound 7 rfl) rfl rfl ?_
      refine am_getR (j := 0) hE (am_dec tmX1_freeSound 8 rfl) sh_17 cf1 (by decide) rfl lf_X1_11 rf_17_0 ?_
      refine am_aload_n (am_dec tmX1_freeSound 9 rfl) rfl rfl ?_
      refine am_getI (j := 7) hE (am_dec tmX1_freeSound 10 rfl) sh_17 cf1 (by decide) rfl lf_X1_62 ?_
      obtain ⟨j3, g4, hf⟩ := am_bd hf
      have hj_j3 := (am_gA_lt g4).1
      refine am_aald2 (t := 2) hE (am_dec tmX1_freeSound 11 rfl) sh_18 (by decide) rfl rfl g4 (rr_18 hj_j3) ?_
      refine am_goto (tgt := 28) (am_dec tmX1_freeSound 12 rfl) (by decide) ?_
      have hf := Option.some.inj hf
      subst hf
      exact am_aret (am_dec tmX1_freeSound 14 rfl) rfl (Or.inl ⟨_, rfl⟩) (Nat.zero_le _) (Nat.zero_le _)
theorem k_X1_freeSound {D : am_D} {r : Nat} (hf : f_X1_freeSound D = some (some r)) : am_sh am_G0 r = some (7, 2) := by
  unfold f_X1_freeSound at hf
  by_cases c1 : (D.1 17 7) < 0
  · rw [if_pos c1] at hf
    cases hf
  · rw [if_neg c1] at hf
    by_cases c2 : (5 : Int32) ≤ (D.1 17 7)
    · rw [if_pos c2] at hf
      cases hf
    · rw [if_neg c2] at hf
      obtain ⟨j3, g4, hf⟩ := am_bd hf
      have hj_j3 := (am_gA_lt g4).1
      have hf := Option.some.inj (Option.some.inj hf)
      subst hf
      exact (sa_18_0 hj_j3)
def f_X1_freeMap (D : am_D) : Option ((Option Nat)) :=
    if (D.1 17 8) < 0 then
    some none
    else
    if (5 : Int32) ≤ (D.1 17 8) then
    some none
    else
    (am_gA 5 (D.1 17 8)).bind fun j3 =>
    some (some (40 + 3 * j3))
set_option maxRecDepth 100000 in
set_option maxHeartbeats 4000000 in
theorem c_X1_freeMap {E : am_E} (hE : am_EH E) {D : am_D} {r : (Option Nat)}  (hf : f_X1_freeMap D = some r) : am_C E mX1_freeMap 1 0 0 [.ref 17] am_G0 D (.inl (some (am_nv r))) am_G0 D := by
  refine am_C_of (by decide +kernel) (Nat.le_of_ble_eq_true rfl) ?_
  change am_S E mX1_freeMap 1 0 0 (.inl (some (am_nv r))) am_G0 D 0 0 0 [(0, .ref 17)] [] am_G0 D
  unfold f_X1_freeMap at hf
  refine am_aload_n (am_dec tmX1_freeMap 0 rfl) rfl rfl ?_
  refine am_getI (j := 8) hE (am_dec tmX1_freeMap 1 rfl) sh_17 cf1 (by decide) rfl lf_X1_65 ?_
  refine am_if_lt (tgt := 27) (am_dec tmX1_freeMap 2 rfl) (by decide) (fun c1 => ?_) (fun c1 => ?_)
  · rw [if_pos c1] at hf
    refine am_null (am_dec tmX1_freeMap 13 rfl) ?_
    have hf := Option.some.inj hf
    subst hf
    exact am_aretN (am_dec tmX1_freeMap 14 rfl) rfl (Or.inl ⟨_, rfl⟩) (Nat.zero_le _) (Nat.zero_le _)
  · rw [if_neg c1] at hf
    refine am_aload_n (am_dec tmX1_freeMap 3 rfl) rfl rfl ?_
    refine am_getI (j := 8) hE (am_dec tmX1_freeMap 4 rfl) sh_17 cf1 (by decide) rfl lf_X1_65 ?_
    refine am_iconst (v := (5 : Int32)) (am_dec tmX1_freeMap 5 rfl) (by decide) ?_
    refine am_icmp_ge (tgt := 27) (am_dec tmX1_freeMap 6 rfl) (by decide) (fun c2 => ?_) (fun c2 => ?_)
    · rw [if_pos c2] at hf
      refine am_null (am_dec tmX1_freeMap 13 rfl) ?_
      have hf := Option.some.inj hf
      subst hf
      exact am_aretN (am_dec tmX1_freeMap 14 rfl) rfl (Or.inl ⟨_, rfl⟩) (Nat.zero_le _) (Nat.zero_le _)
    · rw [if_neg c2] at hf
      refine am_aload_n (am_dec tmX1_freeMap 7 rfl) rfl rfl ?_
      refine am_getR (j := 1) hE (am_dec tmX1_freeMap 8 rfl) sh_17 cf1 (by decide) rfl lf_X1_19 rf_17_1 ?_
      refine am_aload_n (am_dec tmX1_freeMap 9 rfl) rfl rfl ?_
      refine am_getI (j := 8) hE (am_dec tmX1_freeMap 10 rfl) sh_17 cf1 (by decide) rfl lf_X1_65 ?_
      obtain ⟨j3, g4, hf⟩ := am_bd hf
      have hj_j3 := (am_gA_lt g4).1
      refine am_aald2 (t := 3) hE (am_dec tmX1_freeMap 11 rfl) sh_19 (by decide) rfl rfl g4 (rr_19 hj_j3) ?_
      refine am_goto (tgt := 28) (am_dec tmX1_freeMap 12 rfl) (by decide) ?_
      have hf := Option.some.inj hf
      subst hf
      exact am_aret (am_dec tmX1_freeMap 14 rfl) rfl (Or.inl ⟨_, rfl⟩) (Nat.zero_le _) (Nat.zero_le _)
theorem k_X1_freeMap {D : am_D} {r : Nat} (hf : f_X1_freeMap D = some (some r)) : am_sh am_G0 r = some (9, 3) := by
  unfold f_X1_freeMap at hf
  by_cases c1 : (D.1 17 8) < 0
  · rw [if_pos c1] at hf
    cases hf
  · rw [if_neg c1] at hf
    by_cases c2 : (5 : Int32) ≤ (D.1 17 8)
    · rw [if_pos c2] at hf
      cases hf
    · rw [if_neg c2] at hf
      obtain ⟨j3, g4, hf⟩ := am_bd hf
      have hj_j3 := (am_gA_lt g4).1
      have hf := Option.some.inj (Option.some.inj hf)
      subst hf
      exact (sa_19_0 hj_j3)
def f_X1_takeSound (D : am_D) : Option ((Int32 × am_D)) :=
    (some (am_wI D 17 7 ((D.1 17 7) + (1 : Int32)))).bind fun D1 =>
    some (((D1.1 17 7) - (1 : Int32)), D1)
set_option maxRecDepth 100000 in
set_option maxHeartbeats 4000000 in
theorem c_X1_takeSound {E : am_E} (hE : am_EH E) {D : am_D} {r : (Int32 × am_D)}  (hf : f_X1_takeSound D = some r) : am_C E mX1_takeSound 1 0 0 [.ref 17] am_G0 D (.inl (some (.int r.1))) am_G0 r.2 := by
  refine am_C_of (by decide +kernel) (Nat.le_of_ble_eq_true rfl) ?_
  change am_S E mX1_takeSound 1 0 0 (.inl (some (.int r.1))) am_G0 r.2 0 0 0 [(0, .ref 17)] [] am_G0 D
  unfold f_X1_takeSound at hf
  refine am_aload_n (am_dec tmX1_takeSound 0 rfl) rfl rfl ?_
  refine am_dup (am_dec tmX1_takeSound 1 rfl) rfl ?_
  refine am_getI (j := 7) hE (am_dec tmX1_takeSound 2 rfl) sh_17 cf1 (by decide) rfl lf_X1_62 ?_
  refine am_iconst (v := (1 : Int32)) (am_dec tmX1_takeSound 3 rfl) (by decide) ?_
  refine am_iadd (am_dec tmX1_takeSound 4 rfl) ?_
  obtain ⟨D1, g2, hf⟩ := am_bd hf
  refine am_putI2 (j := 7) hE (am_dec tmX1_takeSound 5 rfl) sh_17 cf1 (by decide) rfl lf_X1_62 rfl rfl rfl g2 ?_
  refine am_aload_n (am_dec tmX1_takeSound 6 rfl) rfl rfl ?_
  refine am_getI (j := 7) hE (am_dec tmX1_takeSound 7 rfl) sh_17 cf1 (by decide) rfl lf_X1_62 ?_
  refine am_iconst (v := (1 : Int32)) (am_dec tmX1_takeSound 8 rfl) (by decide) ?_
  refine am_isub (am_dec tmX1_takeSound 9 rfl) ?_
  have hf := Option.some.inj hf
  subst hf
  exact am_iret (am_dec tmX1_takeSound 10 rfl) rfl (Nat.zero_le _) (Nat.zero_le _)
def f_X1_takeMap (D : am_D) : Option ((Int32 × am_D)) :=
    (some (am_wI D 17 8 ((D.1 17 8) + (1 : Int32)))).bind fun D1 =>
    some (((D1.1 17 8) - (1 : Int32)), D1)
set_option maxRecDepth 100000 in
set_option maxHeartbeats 4000000 in
theorem c_X1_takeMap {E : am_E} (hE : am_EH E) {D : am_D} {r : (Int32 × am_D)}  (hf : f_X1_takeMap D = some r) : am_C E mX1_takeMap 1 0 0 [.ref 17] am_G0 D (.inl (some (.int r.1))) am_G0 r.2 := by
  refine am_C_of (by decide +kernel) (Nat.le_of_ble_eq_true rfl) ?_
  change am_S E mX1_takeMap 1 0 0 (.inl (some (.int r.1))) am_G0 r.2 0 0 0 [(0, .ref 17)] [] am_G0 D
  unfold f_X1_takeMap at hf
  refine am_aload_n (am_dec tmX1_takeMap 0 rfl) rfl rfl ?_
  refine am_dup (am_dec tmX1_takeMap 1 rfl) rfl ?_
  refine am_getI (j := 8) hE (am_dec tmX1_takeMap 2 rfl) sh_17 cf1 (by decide) rfl lf_X1_65 ?_
  refine am_iconst (v := (1 : Int32)) (am_dec tmX1_takeMap 3 rfl) (by decide) ?_
  refine am_iadd (am_dec tmX1_takeMap 4 rfl) ?_
  obtain ⟨D1, g2, hf⟩ := am_bd hf
  refine am_putI2 (j := 8) hE (am_dec tmX1_takeMap 5 rfl) sh_17 cf1 (by decide) rfl lf_X1_65 rfl rfl rfl g2 ?_
  refine am_aload_n (am_dec tmX1_takeMap 6 rfl) rfl rfl ?_
  refine am_getI (j := 8) hE (am_dec tmX1_takeMap 7 rfl) sh_17 cf1 (by decide) rfl lf_X1_65 ?_
  refine am_iconst (v := (1 : Int32)) (am_dec tmX1_takeMap 8 rfl) (by decide) ?_
  refine am_isub (am_dec tmX1_takeMap 9 rfl) ?_
  have hf := Option.some.inj hf
  subst hf
  exact am_iret (am_dec tmX1_takeMap 10 rfl) rfl (Nat.zero_le _) (Nat.zero_le _)
def f_X11_far (p0 : Int32) (p1 : Int32) : Option (Int32) :=
    some (am_ab (p0 - p1))
set_option maxRecDepth 100000 in
set_option maxHeartbeats 4000000 in
theorem c_X11_far {E : am_E} (hE : am_EH E) {p0 : Int32} {p1 : Int32} {D : am_D} {r : Int32}  (hf : f_X11_far p0 p1 = some r) : am_C E mX11_far 1 0 0 [.int p0, .int p1] am_G0 D (.inl (some (.int r))) am_G0 D := by
  refine am_C_of (by decide +kernel) (Nat.le_of_ble_eq_true rfl) ?_
  change am_S E mX11_far 1 0 0 (.inl (some (.int r))) am_G0 D 0 0 0 [(0, .int p0), (1, .int p1)] [] am_G0 D
  unfold f_X11_far at hf
  refine am_iload_n (am_dec tmX11_far 0 rfl) rfl rfl ?_
  refine am_iload_n (am_dec tmX11_far 1 rfl) rfl rfl ?_
  refine am_isub (am_dec tmX11_far 2 rfl) ?_
  refine am_mabs2 (am_dec tmX11_far 3 rfl) lm_X11_486 (Nat.le_of_ble_eq_true rfl) (Nat.zero_le _) (Nat.zero_le _) ?_
  have hf := Option.some.inj hf
  subst hf
  exact am_iret (am_dec tmX11_far 4 rfl) rfl (Nat.zero_le _) (Nat.zero_le _)
def f_X1_humFar (p1 : Int32) (p2 : Int32) (D : am_D) : Option (Int32) :=
    if p1 < 0 then
    some (0 : Int32)
    else
    if (6 : Int32) ≤ p1 then
    some (0 : Int32)
    else
    (am_gI D 21 6 p1).bind fun x3 =>
    (f_X11_far x3 p2).bind fun x6 =>
    some x6
set_option maxRecDepth 100000 in
set_option maxHeartbeats 4000000 in
theorem c_X1_humFar {E : am_E} (hE : am_EH E) {p1 : Int32} {p2 : Int32} {D : am_D} {r : Int32}  (hf : f_X1_humFar p1 p2 D = some r) : am_C E mX1_humFar 2 0 0 [.ref 17, .int p1, .int p2] am_G0 D (.inl (some (.int r))) am_G0 D := by
  refine am_C_of (by decide +kernel) (Nat.le_of_ble_eq_true rfl) ?_
  change am_S E mX1_humFar 2 0 0 (.inl (some (.int r))) am_G0 D 0 0 0 [(0, .ref 17), (1, .int p1), (2, .int p2)] [] am_G0 D
  unfold f_X1_humFar at hf
  refine am_iload_n (am_dec tmX1_humFar 0 rfl) rfl rfl ?_
  refine am_if_lt (tgt := 23) (am_dec tmX1_humFar 1 rfl) (by decide) (fun c1 => ?_) (fun c1 => ?_)
  · rw [if_pos c1] at hf
    refine am_iconst (v := (0 : Int32)) (am_dec tmX1_humFar 12 rfl) (by decide) ?_
    have hf := Option.some.inj hf
    subst hf
    exact am_iret (am_dec tmX1_humFar 13 rfl) rfl (Nat.zero_le _) (Nat.zero_le _)
  · rw [if_neg c1] at hf
    refine am_iload_n (am_dec tmX1_humFar 2 rfl) rfl rfl ?_
    refine am_bipush (v := (6 : Int32)) (am_dec tmX1_humFar 3 rfl) (by decide) ?_
    refine am_icmp_ge (tgt := 23) (am_dec tmX1_humFar 4 rfl) (by decide) (fun c2 => ?_) (fun c2 => ?_)
    · rw [if_pos c2] at hf
      refine am_iconst (v := (0 : Int32)) (am_dec tmX1_humFar 12 rfl) (by decide) ?_
      have hf := Option.some.inj hf
      subst hf
      exact am_iret (am_dec tmX1_humFar 13 rfl) rfl (Nat.zero_le _) (Nat.zero_le _)
    · rw [if_neg c2] at hf
      refine am_aload_n (am_dec tmX1_humFar 5 rfl) rfl rfl ?_
      refine am_getR (j := 3) hE (am_dec tmX1_humFar 6 rfl) sh_17 cf1 (by decide) rfl lf_X1_29 rf_17_3 ?_
      refine am_iload_n (am_dec tmX1_humFar 7 rfl) rfl rfl ?_
      obtain ⟨x3, g4, hf⟩ := am_bd hf
      refine am_iald2 hE (am_dec tmX1_humFar 8 rfl) sh_21 g4 ?_
      refine am_iload_n (am_dec tmX1_humFar 9 rfl) rfl rfl ?_
      obtain ⟨x6, g5, hf⟩ := am_bd hf
      refine am_callSN1 (As := [.int x3, .int p2]) (st := []) hE (am_dec tmX1_humFar 10 rfl) ok_X11_far rfl lm_X1_75 st_X11_far (c_X11_far hE g5) rfl (by decide) (Nat.le_of_ble_eq_true rfl) (Nat.zero_le _) (Nat.zero_le _) rfl ?_
      refine am_goto (tgt := 24) (am_dec tmX1_humFar 11 rfl) (by decide) ?_
      have hf := Option.some.inj hf
      subst hf
      exact am_iret (am_dec tmX1_humFar 13 rfl) rfl (Nat.zero_le _) (Nat.zero_le _)
def f_X1_nearestHum_L5 (q1 : Int32) (q2 : Int32) (D : am_D) : Nat → Int32 → Int32 → Option (Int32)
  | 0, _, _ => none
  | n + 1, v3, v4 =>
    if (D.1 17 10) ≤ v4 then
    some (v3)
    else
    if (6 : Int32) ≤ v4 then
    some (v3)
    else
    (if v3 = (-1 : Int32) then
    some ((1 : Int32))
    else
    (f_X1_humFar v4 q1 D).bind fun x6 =>
    (f_X1_humFar v3 q1 D).bind fun x8 =>
    if x8 ≤ x6 then
    some ((0 : Int32))
    else
    some ((1 : Int32))).bind fun w10 =>
    (if v4 = q2 then
    some (v3)
    else
    if w10 = 0 then
    some (v3)
    else
    some (v4)).bind fun w14 =>
    f_X1_nearestHum_L5 q1 q2 D n w14 (v4 + (1 : Int32))
def f_X1_nearestHum (p1 : Int32) (p2 : Int32) (D : am_D) : Option (Int32) :=
    (f_X1_nearestHum_L5 p1 p2 D am_fu (-1 : Int32) (0 : Int32)).bind fun e17 =>
    some e17
set_option maxRecDepth 100000 in
set_option maxHeartbeats 4000000 in
theorem l_X1_nearestHum_L5 {E : am_E} (hE : am_EH E) {d mc ms : Nat} {o : am_O} {G2 : am_G} {D2 : am_D} (hdp : 3 ≤ d) {q1 : Int32} {q2 : Int32} {D : am_D}  : ∀ (n : Nat) (v3 : Int32) (v4 : Int32) (ex0 : Int32), f_X1_nearestHum_L5 q1 q2 D n v3 v4 = some ex0 → (∀ ex : Int32, ex0 = ex → am_S E mX1_nearestHum d mc ms o G2 D2 0 0 69 [(3, .int ex)] [] am_G0 D) → am_S E mX1_nearestHum d mc ms o G2 D2 0 0 5 [(0, .ref 17), (1, .int q1), (2, .int q2), (3, .int v3), (4, .int v4)] [] am_G0 D
  | 0, _, _, _, hf, _ => by
    unfold f_X1_nearestHum_L5 at hf
    cases hf
  | n + 1, v3, v4, ex0, hf, hk0 => by
    unfold f_X1_nearestHum_L5 at hf
    refine am_iload (am_dec tmX1_nearestHum 4 rfl) rfl ?_
    refine am_aload_n (am_dec tmX1_nearestHum 5 rfl) rfl rfl ?_
    refine am_getI (j := 10) hE (am_dec tmX1_nearestHum 6 rfl) sh_17 cf1 (by decide) rfl lf_X1_68 ?_
    refine am_icmp_ge (tgt := 69) (am_dec tmX1_nearestHum 7 rfl) (by decide) (fun c1 => ?_) (fun c1 => ?_)
    · rw [if_pos c1] at hf
      have hf := Option.some.inj hf
      subst hf
      exact am_pick [3] rfl (hk0 _ rfl)
    · rw [if_neg c1] at hf
      refine am_iload (am_dec tmX1_nearestHum 8 rfl) rfl ?_
      refine am_bipush (v := (6 : Int32)) (am_dec tmX1_nearestHum 9 rfl) (by decide) ?_
      refine am_icmp_ge (tgt := 69) (am_dec tmX1_nearestHum 10 rfl) (by decide) (fun c2 => ?_) (fun c2 => ?_)
      · rw [if_pos c2] at hf
        have hf := Option.some.inj hf
        subst hf
        exact am_pick [3] rfl (hk0 _ rfl)
      · rw [if_neg c2] at hf
        refine am_iload_n (am_dec tmX1_nearestHum 11 rfl) rfl rfl ?_
        refine am_iconst (v := (-1 : Int32)) (am_dec tmX1_nearestHum 12 rfl) (by decide) ?_
        obtain ⟨w10, g16, hf⟩ := am_bd hf
        have key4 : am_S E mX1_nearestHum d mc ms o G2 D2 0 0 47 [(0, .ref 17), (1, .int q1), (2, .int q2), (3, .int v3), (4, .int v4)] [.int w10] am_G0 D := by
          refine am_istore (lv' := [(0, .ref 17), (1, .int q1), (2, .int q2), (3, .int v3), (4, .int v4), (5, .int w10)]) (am_dec tmX1_nearestHum 26 rfl) (by decide) rfl ?_
          refine am_iload (am_dec tmX1_nearestHum 27 rfl) rfl ?_
          refine am_iload_n (am_dec tmX1_nearestHum 28 rfl) rfl rfl ?_
          obtain ⟨w14, g15, hf⟩ := am_bd hf
          have key12 : am_S E mX1_nearestHum d mc ms o G2 D2 0 0 63 [(0, .ref 17), (1, .int q1), (2, .int q2), (3, .int w14), (4, .int v4)] [] am_G0 D := by
            refine am_iinc (v := (1 : Int32)) (lv' := [(0, .ref 17), (1, .int q1), (2, .int q2), (3, .int w14), (4, .int (v4 + (1 : Int32)))]) (am_dec tmX1_nearestHum 34 rfl) rfl (by decide) (by decide) rfl ?_
            refine am_goto (tgt := 5) (am_dec tmX1_nearestHum 35 rfl) (by decide) ?_
            exact am_pick [0, 1, 2, 3, 4] rfl (l_X1_nearestHum_L5 hE hdp n w14 (v4 + (1 : Int32)) ex0 hf hk0)
          replace hf := g15
          refine am_icmp_eq (tgt := 63) (am_dec tmX1_nearestHum 29 rfl) (by decide) (fun c11 => ?_) (fun c11 => ?_)
          · rw [if_pos c11] at hf
            have hf := Option.some.inj hf
            subst hf
            exact am_pick [0, 1, 2, 3, 4] rfl key12
          · rw [if_neg c11] at hf
            refine am_iload (am_dec tmX1_nearestHum 30 rfl) rfl ?_
            refine am_if_eq (tgt := 63) (am_dec tmX1_nearestHum 31 rfl) (by decide) (fun c13 => ?_) (fun c13 => ?_)
            · rw [if_pos c13] at hf
              have hf := Option.some.inj hf
              subst hf
              exact am_pick [0, 1, 2, 3, 4] rfl key12
            · rw [if_neg c13] at hf
              refine am_iload (am_dec tmX1_nearestHum 32 rfl) rfl ?_
              refine am_istore_n (lv' := [(0, .ref 17), (1, .int q1), (2, .int q2), (3, .int v4), (4, .int v4), (5, .int w10)]) (am_dec tmX1_nearestHum 33 rfl) rfl (by decide) rfl ?_
              have hf := Option.some.inj hf
              subst hf
              exact am_pick [0, 1, 2, 3, 4] rfl key12
        replace hf := g16
        refine am_icmp_eq (tgt := 42) (am_dec tmX1_nearestHum 13 rfl) (by decide) (fun c3 => ?_) (fun c3 => ?_)
        · rw [if_pos c3] at hf
          refine am_iconst (v := (1 : Int32)) (am_dec tmX1_nearestHum 23 rfl) (by decide) ?_
          refine am_goto (tgt := 47) (am_dec tmX1_nearestHum 24 rfl) (by decide) ?_
          have hf := Option.some.inj hf
          subst hf
          exact am_pick [0, 1, 2, 3, 4] rfl key4
        · rw [if_neg c3] at hf
          refine am_aload_n (am_dec tmX1_nearestHum 14 rfl) rfl rfl ?_
          refine am_iload (am_dec tmX1_nearestHum 15 rfl) rfl ?_
          refine am_iload_n (am_dec tmX1_nearestHum 16 rfl) rfl rfl ?_
          obtain ⟨x6, g5, hf⟩ := am_bd hf
          refine am_callV1 (As := [.int v4, .int q1]) (st := []) hE (am_dec tmX1_nearestHum 17 rfl) ok_X1_humFar rfl lm_X1_71 in_X1_humFar se_X1_humFar sh_17 cf1 (c_X1_humFar hE g5) rfl (Nat.lt_of_lt_of_le (by decide) hdp) (Nat.le_of_ble_eq_true rfl) (Nat.zero_le _) (Nat.zero_le _) rfl ?_
          refine am_aload_n (am_dec tmX1_nearestHum 18 rfl) rfl rfl ?_
          refine am_iload_n (am_dec tmX1_nearestHum 19 rfl) rfl rfl ?_
          refine am_iload_n (am_dec tmX1_nearestHum 20 rfl) rfl rfl ?_
          obtain ⟨x8, g7, hf⟩ := am_bd hf
          refine am_callV1 (As := [.int v3, .int q1]) (st := [.int x6]) hE (am_dec tmX1_nearestHum 21 rfl) ok_X1_humFar rfl lm_X1_71 in_X1_humFar se_X1_humFar sh_17 cf1 (c_X1_humFar hE g7) rfl (Nat.lt_of_lt_of_le (by decide) hdp) (Nat.le_of_ble_eq_true rfl) (Nat.zero_le _) (Nat.zero_le _) rfl ?_
          refine am_icmp_ge (tgt := 46) (am_dec tmX1_nearestHum 22 rfl) (by decide) (fun c9 => ?_) (fun c9 => ?_)
          · rw [if_pos c9] at hf
            refine am_iconst (v := (0 : Int32)) (am_dec tmX1_nearestHum 25 rfl) (by decide) ?_
            have hf := Option.some.inj hf
            subst hf
            exact am_pick [0, 1, 2, 3, 4] rfl key4
          · rw [if_neg c9] at hf
            refine am_iconst (v := (1 : Int32)) (am_dec tmX1_nearestHum 23 rfl) (by decide) ?_
            refine am_goto (tgt := 47) (am_dec tmX1_nearestHum 24 rfl) (by decide) ?_
            have hf := Option.some.inj hf
            subst hf
            exact am_pick [0, 1, 2, 3, 4] rfl key4
set_option maxRecDepth 100000 in
set_option maxHeartbeats 4000000 in
theorem c_X1_nearestHum {E : am_E} (hE : am_EH E) {p1 : Int32} {p2 : Int32} {D : am_D} {r : Int32}  (hf : f_X1_nearestHum p1 p2 D = some r) : am_C E mX1_nearestHum 3 0 0 [.ref 17, .int p1, .int p2] am_G0 D (.inl (some (.int r))) am_G0 D := by
  refine am_C_of (by decide +kernel) (Nat.le_of_ble_eq_true rfl) ?_
  change am_S E mX1_nearestHum 3 0 0 (.inl (some (.int r))) am_G0 D 0 0 0 [(0, .ref 17), (1, .int p1), (2, .int p2)] [] am_G0 D
  unfold f_X1_nearestHum at hf
  refine am_iconst (v := (-1 : Int32)) (am_dec tmX1_nearestHum 0 rfl) (by decide) ?_
  refine am_istore_n (lv' := [(0, .ref 17), (1, .int p1), (2, .int p2), (3, .int (-1 : Int32))]) (am_dec tmX1_nearestHum 1 rfl) rfl (by decide) rfl ?_
  refine am_iconst (v := (0 : Int32)) (am_dec tmX1_nearestHum 2 rfl) (by decide) ?_
  refine am_istore (lv' := [(0, .ref 17), (1, .int p1), (2, .int p2), (3, .int (-1 : Int32)), (4, .int (0 : Int32))]) (am_dec tmX1_nearestHum 3 rfl) (by decide) rfl ?_
  obtain ⟨e17, g18, hf⟩ := am_bd hf
  refine am_pick [0, 1, 2, 3, 4] rfl (l_X1_nearestHum_L5 hE (Nat.le_refl _) am_fu _ _ _ g18 (fun ex he => ?_))
  subst he
  refine am_iload_n (am_dec tmX1_nearestHum 36 rfl) rfl rfl ?_
  have hf := Option.some.inj hf
  subst hf
  exact am_iret (am_dec tmX1_nearestHum 37 rfl) rfl (Nat.zero_le _) (Nat.zero_le _)
def f_X2_find_L7 (q1 : Nat) : Nat → Int32 → am_D → Option (am_D)
  | 0, _, _ => none
  | n + 1, v2, D =>
    if (D.1 q1 1) ≤ v2 then
    some (D)
    else
    (f_X7_at q1 v2 D).bind fun x5 =>
    (if x5 < 0 then
    some (D)
    else
    (f_X7_at q1 (v2 - (1 : Int32)) D).bind fun x9 =>
    if 0 ≤ x9 then
    some (D)
    else
    if (300 : Int32) ≤ (D.1 112 1) then
    some (D)
    else
    (am_pI D 113 300 (D.1 112 1) v2).bind fun D12 =>
    (some (am_wI D12 112 1 ((D12.1 112 1) + (1 : Int32)))).bind fun D14 =>
    some (D14)).bind fun w16 =>
    f_X2_find_L7 q1 n (v2 + (1 : Int32)) w16
def f_X2_find (p1 : Nat) (D : am_D) : Option (am_D) :=
    (some (am_wI D 112 1 (0 : Int32))).bind fun D1 =>
    (f_X2_find_L7 p1 am_fu (1 : Int32) D1).bind fun e18 =>
    some e18
set_option maxRecDepth 100000 in
set_option maxHeartbeats 4000000 in
theorem l_X2_find_L7 {E : am_E} (hE : am_EH E) {d mc ms : Nat} {o : am_O} {G2 : am_G} {D2 : am_D} (hdp : 2 ≤ d) {q1 : Nat} (h_q1 : am_sh am_G0 q1 = some (7, 2)) : ∀ (n : Nat) (v2 : Int32) (D : am_D) (ex0 : am_D), f_X2_find_L7 q1 n v2 D = some ex0 → (∀ ex : am_D, ex0 = ex → am_S E mX2_find d mc ms o G2 D2 0 0 71 [] [] am_G0 ex) → am_S E mX2_find d mc ms o G2 D2 0 0 7 [(0, .ref 112), (1, .ref q1), (2, .int v2)] [] am_G0 D
  | 0, _, _, _, hf, _ => by
    unfold f_X2_find_L7 at hf
    cases hf
  | n + 1, v2, D, ex0, hf, hk0 => by
    unfold f_X2_find_L7 at hf
    refine am_iload_n (am_dec tmX2_find 5 rfl) rfl rfl ?_
    refine am_aload_n (am_dec tmX2_find 6 rfl) rfl rfl ?_
    refine am_getI (j := 1) hE (am_dec tmX2_find 7 rfl) h_q1 cf7 (by decide) rfl lf_X2_19 ?_
    refine am_icmp_ge (tgt := 71) (am_dec tmX2_find 8 rfl) (by decide) (fun c3 => ?_) (fun c3 => ?_)
    · rw [if_pos c3] at hf
      have hf := Option.some.inj hf
      subst hf
      exact am_pick [] rfl (hk0 _ rfl)
    · rw [if_neg c3] at hf
      refine am_aload_n (am_dec tmX2_find 9 rfl) rfl rfl ?_
      refine am_iload_n (am_dec tmX2_find 10 rfl) rfl rfl ?_
      obtain ⟨x5, g4, hf⟩ := am_bd hf
      refine am_callV1 (As := [.int v2]) (st := []) hE (am_dec tmX2_find 11 rfl) ok_X7_at rfl lm_X2_22 in_X7_at se_X7_at h_q1 cf7 (c_X7_at hE h_q1 g4) rfl (Nat.lt_of_lt_of_le (by decide) hdp) (Nat.le_of_ble_eq_true rfl) (Nat.zero_le _) (Nat.zero_le _) rfl ?_
      obtain ⟨w16, g17, hf⟩ := am_bd hf
      have key7 : am_S E mX2_find d mc ms o G2 D2 0 0 65 [(0, .ref 112), (1, .ref q1), (2, .int v2)] [] am_G0 w16 := by
        refine am_iinc (v := (1 : Int32)) (lv' := [(0, .ref 112), (1, .ref q1), (2, .int (v2 + (1 : Int32)))]) (am_dec tmX2_find 37 rfl) rfl (by decide) (by decide) rfl ?_
        refine am_goto (tgt := 7) (am_dec tmX2_find 38 rfl) (by decide) ?_
        exact am_pick [0, 1, 2] rfl (l_X2_find_L7 hE hdp h_q1 n (v2 + (1 : Int32)) w16 ex0 hf hk0)
      replace hf := g17
      refine am_if_lt (tgt := 65) (am_dec tmX2_find 12 rfl) (by decide) (fun c6 => ?_) (fun c6 => ?_)
      · rw [if_pos c6] at hf
        have hf := Option.some.inj hf
        subst hf
        exact am_pick [0, 1, 2] rfl key7
      · rw [if_neg c6] at hf
        refine am_aload_n (am_dec tmX2_find 13 rfl) rfl rfl ?_
        refine am_iload_n (am_dec tmX2_find 14 rfl) rfl rfl ?_
        refine am_iconst (v := (1 : Int32)) (am_dec tmX2_find 15 rfl) (by decide) ?_
        refine am_isub (am_dec tmX2_find 16 rfl) ?_
        obtain ⟨x9, g8, hf⟩ := am_bd hf
        refine am_callV1 (As := [.int (v2 - (1 : Int32))]) (st := []) hE (am_dec tmX2_find 17 rfl) ok_X7_at rfl lm_X2_22 in_X7_at se_X7_at h_q1 cf7 (c_X7_at hE h_q1 g8) rfl (Nat.lt_of_lt_of_le (by decide) hdp) (Nat.le_of_ble_eq_true rfl) (Nat.zero_le _) (Nat.zero_le _) rfl ?_
        refine am_if_ge (tgt := 65) (am_dec tmX2_find 18 rfl) (by decide) (fun c10 => ?_) (fun c10 => ?_)
        · rw [if_pos c10] at hf
          have hf := Option.some.inj hf
          subst hf
          exact am_pick [0, 1, 2] rfl key7
        · rw [if_neg c10] at hf
          refine am_aload_n (am_dec tmX2_find 19 rfl) rfl rfl ?_
          refine am_getI (j := 1) hE (am_dec tmX2_find 20 rfl) sh_112 cf2 (by decide) rfl lf_X2_15 ?_
          refine am_aload_n (am_dec tmX2_find 21 rfl) rfl rfl ?_
          refine am_getR (j := 0) hE (am_dec tmX2_find 22 rfl) sh_112 cf2 (by decide) rfl lf_X2_9 rf_112_0 ?_
          refine am_alen (t := 0) (v := (300 : Int32)) hE (am_dec tmX2_find 23 rfl) sh_113 (by decide) (by decide) ?_
          refine am_icmp_ge (tgt := 65) (am_dec tmX2_find 24 rfl) (by decide) (fun c11 => ?_) (fun c11 => ?_)
          · rw [if_pos c11] at hf
            have hf := Option.some.inj hf
            subst hf
            exact am_pick [0, 1, 2] rfl key7
          · rw [if_neg c11] at hf
            refine am_aload_n (am_dec tmX2_find 25 rfl) rfl rfl ?_
            refine am_getR (j := 0) hE (am_dec tmX2_find 26 rfl) sh_112 cf2 (by decide) rfl lf_X2_9 rf_112_0 ?_
            refine am_aload_n (am_dec tmX2_find 27 rfl) rfl rfl ?_
            refine am_getI (j := 1) hE (am_dec tmX2_find 28 rfl) sh_112 cf2 (by decide) rfl lf_X2_15 ?_
            refine am_iload_n (am_dec tmX2_find 29 rfl) rfl rfl ?_
            obtain ⟨D12, g13, hf⟩ := am_bd hf
            refine am_iast2 hE (am_dec tmX2_find 30 rfl) sh_113 g13 ?_
            refine am_aload_n (am_dec tmX2_find 31 rfl) rfl rfl ?_
            refine am_dup (am_dec tmX2_find 32 rfl) rfl ?_
            refine am_getI (j := 1) hE (am_dec tmX2_find 33 rfl) sh_112 cf2 (by decide) rfl lf_X2_15 ?_
            refine am_iconst (v := (1 : Int32)) (am_dec tmX2_find 34 rfl) (by decide) ?_
            refine am_iadd (am_dec tmX2_find 35 rfl) ?_
            obtain ⟨D14, g15, hf⟩ := am_bd hf
            refine am_putI2 (j := 1) hE (am_dec tmX2_find 36 rfl) sh_112 cf2 (by decide) rfl lf_X2_15 rfl rfl rfl g15 ?_
            have hf := Option.some.inj hf
            subst hf
            exact am_pick [0, 1, 2] rfl key7
set_option maxRecDepth 100000 in
set_option maxHeartbeats 4000000 in
theorem c_X2_find {E : am_E} (hE : am_EH E) {p1 : Nat} {D : am_D} {r : am_D} (h_p1 : am_sh am_G0 p1 = some (7, 2)) (hf : f_X2_find p1 D = some r) : am_C E mX2_find 2 0 0 [.ref 112, .ref p1] am_G0 D (.inl none) am_G0 r := by
  refine am_C_of (by decide +kernel) (Nat.le_of_ble_eq_true rfl) ?_
  change am_S E mX2_find 2 0 0 (.inl none) am_G0 r 0 0 0 [(0, .ref 112), (1, .ref p1)] [] am_G0 D
  unfold f_X2_find at hf
  refine am_aload_n (am_dec tmX2_find 0 rfl) rfl rfl ?_
  refine am_iconst (v := (0 : Int32)) (am_dec tmX2_find 1 rfl) (by decide) ?_
  obtain ⟨D1, g2, hf⟩ := am_bd hf
  refine am_putI2 (j := 1) hE (am_dec tmX2_find 2 rfl) sh_112 cf2 (by decide) rfl lf_X2_15 rfl rfl rfl g2 ?_
  refine am_iconst (v := (1 : Int32)) (am_dec tmX2_find 3 rfl) (by decide) ?_
  refine am_istore_n (lv' := [(0, .ref 112), (1, .ref p1), (2, .int (1 : Int32))]) (am_dec tmX2_find 4 rfl) rfl (by decide) rfl ?_
  obtain ⟨e18, g19, hf⟩ := am_bd hf
  refine am_pick [0, 1, 2] rfl (l_X2_find_L7 hE (Nat.le_refl _) h_p1 am_fu _ _ _ g19 (fun ex he => ?_))
  subst he
  have hf := Option.some.inj hf
  subst hf
  exact am_vret (am_dec tmX2_find 39 rfl) rfl (Nat.zero_le _) (Nat.zero_le _)
def f_X2_at (p1 : Int32) (D : am_D) : Option (Int32) :=
    if p1 < 0 then
    some (-1 : Int32)
    else
    if (D.1 112 1) ≤ p1 then
    some (-1 : Int32)
    else
    if (300 : Int32) ≤ p1 then
    some (-1 : Int32)
    else
    (am_gI D 113 300 p1).bind fun x4 =>
    some x4
set_option maxRecDepth 100000 in
set_option maxHeartbeats 4000000 in
theorem c_X2_at {E : am_E} (hE : am_EH E) {p1 : Int32} {D : am_D} {r : Int32}  (hf : f_X2_at p1 D = some r) : am_C E mX2_at 1 0 0 [.ref 112, .int p1] am_G0 D (.inl (some (.int r))) am_G0 D := by
  refine am_C_of (by decide +kernel) (Nat.le_of_ble_eq_true rfl) ?_
  change am_S E mX2_at 1 0 0 (.inl (some (.int r))) am_G0 D 0 0 0 [(0, .ref 112), (1, .int p1)] [] am_G0 D
  unfold f_X2_at at hf
  refine am_iload_n (am_dec tmX2_at 0 rfl) rfl rfl ?_
  refine am_if_lt (tgt := 30) (am_dec tmX2_at 1 rfl) (by decide) (fun c1 => ?_) (fun c1 => ?_)
  · rw [if_pos c1] at hf
    refine am_iconst (v := (-1 : Int32)) (am_dec tmX2_at 16 rfl) (by decide) ?_
    have hf := Option.some.inj hf
    subst hf
    exact am_iret (am_dec tmX2_at 17 rfl) rfl (Nat.zero_le _) (Nat.zero_le _)
  · rw [if_neg c1] at hf
    refine am_iload_n (am_dec tmX2_at 2 rfl) rfl rfl ?_
    refine am_aload_n (am_dec tmX2_at 3 rfl) rfl rfl ?_
    refine am_getI (j := 1) hE (am_dec tmX2_at 4 rfl) sh_112 cf2 (by decide) rfl lf_X2_15 ?_
    refine am_icmp_ge (tgt := 30) (am_dec tmX2_at 5 rfl) (by decide) (fun c2 => ?_) (fun c2 => ?_)
    · rw [if_pos c2] at hf
      refine am_iconst (v := (-1 : Int32)) (am_dec tmX2_at 16 rfl) (by decide) ?_
      have hf := Option.some.inj hf
      subst hf
      exact am_iret (am_dec tmX2_at 17 rfl) rfl (Nat.zero_le _) (Nat.zero_le _)
    · rw [if_neg c2] at hf
      refine am_iload_n (am_dec tmX2_at 6 rfl) rfl rfl ?_
      refine am_aload_n (am_dec tmX2_at 7 rfl) rfl rfl ?_
      refine am_getR (j := 0) hE (am_dec tmX2_at 8 rfl) sh_112 cf2 (by decide) rfl lf_X2_9 rf_112_0 ?_
      refine am_alen (t := 0) (v := (300 : Int32)) hE (am_dec tmX2_at 9 rfl) sh_113 (by decide) (by decide) ?_
      refine am_icmp_ge (tgt := 30) (am_dec tmX2_at 10 rfl) (by decide) (fun c3 => ?_) (fun c3 => ?_)
      · rw [if_pos c3] at hf
        refine am_iconst (v := (-1 : Int32)) (am_dec tmX2_at 16 rfl) (by decide) ?_
        have hf := Option.some.inj hf
        subst hf
        exact am_iret (am_dec tmX2_at 17 rfl) rfl (Nat.zero_le _) (Nat.zero_le _)
      · rw [if_neg c3] at hf
        refine am_aload_n (am_dec tmX2_at 11 rfl) rfl rfl ?_
        refine am_getR (j := 0) hE (am_dec tmX2_at 12 rfl) sh_112 cf2 (by decide) rfl lf_X2_9 rf_112_0 ?_
        refine am_iload_n (am_dec tmX2_at 13 rfl) rfl rfl ?_
        obtain ⟨x4, g5, hf⟩ := am_bd hf
        refine am_iald2 hE (am_dec tmX2_at 14 rfl) sh_113 g5 ?_
        refine am_goto (tgt := 31) (am_dec tmX2_at 15 rfl) (by decide) ?_
        have hf := Option.some.inj hf
        subst hf
        exact am_iret (am_dec tmX2_at 17 rfl) rfl (Nat.zero_le _) (Nat.zero_le _)
def f_X2_intervals (D : am_D) : Option (Int32) :=
    some (am_mx (0 : Int32) ((D.1 112 1) - (1 : Int32)))
set_option maxRecDepth 100000 in
set_option maxHeartbeats 4000000 in
theorem c_X2_intervals {E : am_E} (hE : am_EH E) {D : am_D} {r : Int32}  (hf : f_X2_intervals D = some r) : am_C E mX2_intervals 1 0 0 [.ref 112] am_G0 D (.inl (some (.int r))) am_G0 D := by
  refine am_C_of (by decide +kernel) (Nat.le_of_ble_eq_true rfl) ?_
  change am_S E mX2_intervals 1 0 0 (.inl (some (.int r))) am_G0 D 0 0 0 [(0, .ref 112)] [] am_G0 D
  unfold f_X2_intervals at hf
  refine am_iconst (v := (0 : Int32)) (am_dec tmX2_intervals 0 rfl) (by decide) ?_
  refine am_aload_n (am_dec tmX2_intervals 1 rfl) rfl rfl ?_
  refine am_getI (j := 1) hE (am_dec tmX2_intervals 2 rfl) sh_112 cf2 (by decide) rfl lf_X2_15 ?_
  refine am_iconst (v := (1 : Int32)) (am_dec tmX2_intervals 3 rfl) (by decide) ?_
  refine am_isub (am_dec tmX2_intervals 4 rfl) ?_
  refine am_mmax2 (am_dec tmX2_intervals 5 rfl) lm_X2_26 (Nat.le_of_ble_eq_true rfl) (Nat.zero_le _) (Nat.zero_le _) ?_
  have hf := Option.some.inj hf
  subst hf
  exact am_iret (am_dec tmX2_intervals 6 rfl) rfl (Nat.zero_le _) (Nat.zero_le _)
def f_X2_interval (p1 : Int32) (D : am_D) : Option (Int32) :=
    (f_X2_at (p1 + (1 : Int32)) D).bind fun x2 =>
    (f_X2_at p1 D).bind fun x4 =>
    some (x2 - x4)
set_option maxRecDepth 100000 in
set_option maxHeartbeats 4000000 in
theorem c_X2_interval {E : am_E} (hE : am_EH E) {p1 : Int32} {D : am_D} {r : Int32}  (hf : f_X2_interval p1 D = some r) : am_C E mX2_interval 2 0 0 [.ref 112, .int p1] am_G0 D (.inl (some (.int r))) am_G0 D := by
  refine am_C_of (by decide +kernel) (Nat.le_of_ble_eq_true rfl) ?_
  change am_S E mX2_interval 2 0 0 (.inl (some (.int r))) am_G0 D 0 0 0 [(0, .ref 112), (1, .int p1)] [] am_G0 D
  unfold f_X2_interval at hf
  refine am_aload_n (am_dec tmX2_interval 0 rfl) rfl rfl ?_
  refine am_iload_n (am_dec tmX2_interval 1 rfl) rfl rfl ?_
  refine am_iconst (v := (1 : Int32)) (am_dec tmX2_interval 2 rfl) (by decide) ?_
  refine am_iadd (am_dec tmX2_interval 3 rfl) ?_
  obtain ⟨x2, g1, hf⟩ := am_bd hf
  refine am_callV1 (As := [.int (p1 + (1 : Int32))]) (st := []) hE (am_dec tmX2_interval 4 rfl) ok_X2_at rfl lm_X2_32 in_X2_at se_X2_at sh_112 cf2 (c_X2_at hE g1) rfl (by decide) (Nat.le_of_ble_eq_true rfl) (Nat.zero_le _) (Nat.zero_le _) rfl ?_
  refine am_aload_n (am_dec tmX2_interval 5 rfl) rfl rfl ?_
  refine am_iload_n (am_dec tmX2_interval 6 rfl) rfl rfl ?_
  obtain ⟨x4, g3, hf⟩ := am_bd hf
  refine am_callV1 (As := [.int p1]) (st := [.int x2]) hE (am_dec tmX2_interval 7 rfl) ok_X2_at rfl lm_X2_32 in_X2_at se_X2_at sh_112 cf2 (c_X2_at hE g3) rfl (by decide) (Nat.le_of_ble_eq_true rfl) (Nat.zero_le _) (Nat.zero_le _) rfl ?_
  refine am_isub (am_dec tmX2_interval 8 rfl) ?_
  have hf := Option.some.inj hf
  subst hf
  exact am_iret (am_dec tmX2_interval 9 rfl) rfl (Nat.zero_le _) (Nat.zero_le _)
def f_X2_across (D : am_D) : Option (Int32) :=
    (f_X2_at ((D.1 112 1) - (1 : Int32)) D).bind fun x2 =>
    (f_X2_at (0 : Int32) D).bind fun x4 =>
    some (x2 - x4)
set_option maxRecDepth 100000 in
set_option maxHeartbeats 4000000 in
theorem c_X2_across {E : am_E} (hE : am_EH E) {D : am_D} {r : Int32}  (hf : f_X2_across D = some r) : am_C E mX2_across 2 0 0 [.ref 112] am_G0 D (.inl (some (.int r))) am_G0 D := by
  refine am_C_of (by decide +kernel) (Nat.le_of_ble_eq_true rfl) ?_
  change am_S E mX2_across 2 0 0 (.inl (some (.int r))) am_G0 D 0 0 0 [(0, .ref 112)] [] am_G0 D
  unfold f_X2_across at hf
  refine am_aload_n (am_dec tmX2_across 0 rfl) rfl rfl ?_
  refine am_aload_n (am_dec tmX2_across 1 rfl) rfl rfl ?_
  refine am_getI (j := 1) hE (am_dec tmX2_across 2 rfl) sh_112 cf2 (by decide) rfl lf_X2_15 ?_
  refine am_iconst (v := (1 : Int32)) (am_dec tmX2_across 3 rfl) (by decide) ?_
  refine am_isub (am_dec tmX2_across 4 rfl) ?_
  obtain ⟨x2, g1, hf⟩ := am_bd hf
  refine am_callV1 (As := [.int ((D.1 112 1) - (1 : Int32))]) (st := []) hE (am_dec tmX2_across 5 rfl) ok_X2_at rfl lm_X2_32 in_X2_at se_X2_at sh_112 cf2 (c_X2_at hE g1) rfl (by decide) (Nat.le_of_ble_eq_true rfl) (Nat.zero_le _) (Nat.zero_le _) rfl ?_
  refine am_aload_n (am_dec tmX2_across 6 rfl) rfl rfl ?_
  refine am_iconst (v := (0 : Int32)) (am_dec tmX2_across 7 rfl) (by decide) ?_
  obtain ⟨x4, g3, hf⟩ := am_bd hf
  refine am_callV1 (As := [.int (0 : Int32)]) (st := [.int x2]) hE (am_dec tmX2_across 8 rfl) ok_X2_at rfl lm_X2_32 in_X2_at se_X2_at sh_112 cf2 (c_X2_at hE g3) rfl (by decide) (Nat.le_of_ble_eq_true rfl) (Nat.zero_le _) (Nat.zero_le _) rfl ?_
  refine am_isub (am_dec tmX2_across 9 rfl) ?_
  have hf := Option.some.inj hf
  subst hf
  exact am_iret (am_dec tmX2_across 10 rfl) rfl (Nat.zero_le _) (Nat.zero_le _)
def f_X2_hundredths (D : am_D) : Option (Int32) :=
    (f_X2_intervals D).bind fun x2 =>
    if x2 = 0 then
    some (-1 : Int32)
    else
    (f_X2_across D).bind fun x5 =>
    (f_X2_intervals D).bind fun x7 =>
    (f_X11_cut ((100 : Int32) * x5) x7).bind fun x9 =>
    some x9
set_option maxRecDepth 100000 in
set_option maxHeartbeats 4000000 in
theorem c_X2_hundredths {E : am_E} (hE : am_EH E) {D : am_D} {r : Int32}  (hf : f_X2_hundredths D = some r) : am_C E mX2_hundredths 3 0 0 [.ref 112] am_G0 D (.inl (some (.int r))) am_G0 D := by
  refine am_C_of (by decide +kernel) (Nat.le_of_ble_eq_true rfl) ?_
  change am_S E mX2_hundredths 3 0 0 (.inl (some (.int r))) am_G0 D 0 0 0 [(0, .ref 112)] [] am_G0 D
  unfold f_X2_hundredths at hf
  refine am_aload_n (am_dec tmX2_hundredths 0 rfl) rfl rfl ?_
  obtain ⟨x2, g1, hf⟩ := am_bd hf
  refine am_callV1 (As := []) (st := []) hE (am_dec tmX2_hundredths 1 rfl) ok_X2_intervals rfl lm_X2_33 in_X2_intervals se_X2_intervals sh_112 cf2 (c_X2_intervals hE g1) rfl (by decide) (Nat.le_of_ble_eq_true rfl) (Nat.zero_le _) (Nat.zero_le _) rfl ?_
  refine am_if_ne (tgt := 11) (am_dec tmX2_hundredths 2 rfl) (by decide) (fun c3 => ?_) (fun c3 => ?_)
  · rw [if_neg c3] at hf
    refine am_bipush (v := (100 : Int32)) (am_dec tmX2_hundredths 5 rfl) (by decide) ?_
    refine am_aload_n (am_dec tmX2_hundredths 6 rfl) rfl rfl ?_
    obtain ⟨x5, g4, hf⟩ := am_bd hf
    refine am_callV1 (As := []) (st := [.int (100 : Int32)]) hE (am_dec tmX2_hundredths 7 rfl) ok_X2_across rfl lm_X2_37 in_X2_across se_X2_across sh_112 cf2 (c_X2_across hE g4) rfl (by decide) (Nat.le_of_ble_eq_true rfl) (Nat.zero_le _) (Nat.zero_le _) rfl ?_
    refine am_imul (am_dec tmX2_hundredths 8 rfl) ?_
    refine am_aload_n (am_dec tmX2_hundredths 9 rfl) rfl rfl ?_
    obtain ⟨x7, g6, hf⟩ := am_bd hf
    refine am_callV1 (As := []) (st := [.int ((100 : Int32) * x5)]) hE (am_dec tmX2_hundredths 10 rfl) ok_X2_intervals rfl lm_X2_33 in_X2_intervals se_X2_intervals sh_112 cf2 (c_X2_intervals hE g6) rfl (by decide) (Nat.le_of_ble_eq_true rfl) (Nat.zero_le _) (Nat.zero_le _) rfl ?_
    obtain ⟨x9, g8, hf⟩ := am_bd hf
    refine am_callSN1 (As := [.int ((100 : Int32) * x5), .int x7]) (st := []) hE (am_dec tmX2_hundredths 11 rfl) ok_X11_cut rfl lm_X2_40 st_X11_cut (c_X11_cut hE g8) rfl (by decide) (Nat.le_of_ble_eq_true rfl) (Nat.zero_le _) (Nat.zero_le _) rfl ?_
    have hf := Option.some.inj hf
    subst hf
    exact am_iret (am_dec tmX2_hundredths 12 rfl) rfl (Nat.zero_le _) (Nat.zero_le _)
  · rw [if_pos c3] at hf
    refine am_iconst (v := (-1 : Int32)) (am_dec tmX2_hundredths 3 rfl) (by decide) ?_
    refine am_goto (tgt := 25) (am_dec tmX2_hundredths 4 rfl) (by decide) ?_
    have hf := Option.some.inj hf
    subst hf
    exact am_iret (am_dec tmX2_hundredths 12 rfl) rfl (Nat.zero_le _) (Nat.zero_le _)
def f_X2_turns_L35 (q1 : Int32) (q2 : Int32) (q3 : Int32) (q4 : Int32) (q6 : Int32) (D : am_D) : Nat → Int32 → Int32 → Option (Int32)
  | 0, _, _ => none
  | n + 1, v5, v7 =>
    if q6 ≤ v7 then
    some (v5)
    else
    (f_X2_interval v7 D).bind fun x8 =>
    (f_X2_interval (v7 + q4) D).bind fun x10 =>
    (f_X11_far x8 x10).bind fun x12 =>
    f_X2_turns_L35 q1 q2 q3 q4 q6 D n (v5 + x12) (v7 + (1 : Int32))
def f_X2_turns_L9  (D : am_D) : Nat → Int32 → Int32 → Int32 → Int32 → Option (Int32)
  | 0, _, _, _, _ => none
  | n + 1, v1, v2, v3, v4 =>
    (f_X2_intervals D).bind fun x2 =>
    if x2 < ((2 : Int32) * v4) then
    some (v1)
    else
    (f_X2_intervals D).bind fun x5 =>
    (f_X2_turns_L35 v1 v2 v3 v4 (x5 - v4) D am_fu (0 : Int32) (0 : Int32)).bind fun e13 =>
    (if v1 = (-1 : Int32) then
    some (v4, e13, (x5 - v4))
    else
    if (v2 * (x5 - v4)) ≤ (e13 * v3) then
    some (v1, v2, v3)
    else
    some (v4, e13, (x5 - v4))).bind fun w17 =>
    f_X2_turns_L9 D n w17.1 w17.2.1 w17.2.2 (v4 + (1 : Int32))
def f_X2_turns (D : am_D) : Option (Int32) :=
    (f_X2_turns_L9 D am_fu (-1 : Int32) (0 : Int32) (1 : Int32) (1 : Int32)).bind fun e20 =>
    some e20
set_option maxRecDepth 100000 in
set_option maxHeartbeats 4000000 in
theorem l_X2_turns_L35 {E : am_E} (hE : am_EH E) {d mc ms : Nat} {o : am_O} {G2 : am_G} {D2 : am_D} (hdp : 3 ≤ d) {q1 : Int32} {q2 : Int32} {q3 : Int32} {q4 : Int32} {q6 : Int32} {D : am_D}  : ∀ (n : Nat) (v5 : Int32) (v7 : Int32) (ex0 : Int32), f_X2_turns_L35 q1 q2 q3 q4 q6 D n v5 v7 = some ex0 → (∀ ex : Int32, ex0 = ex → am_S E mX2_turns d mc ms o G2 D2 0 0 71 [(0, .ref 112), (1, .int q1), (2, .int q2), (3, .int q3), (4, .int q4), (5, .int ex), (6, .int q6)] [] am_G0 D) → am_S E mX2_turns d mc ms o G2 D2 0 0 35 [(0, .ref 112), (1, .int q1), (2, .int q2), (3, .int q3), (4, .int q4), (5, .int v5), (6, .int q6), (7, .int v7)] [] am_G0 D
  | 0, _, _, _, hf, _ => by
    unfold f_X2_turns_L35 at hf
    cases hf
  | n + 1, v5, v7, ex0, hf, hk0 => by
    unfold f_X2_turns_L35 at hf
    refine am_iload (am_dec tmX2_turns 23 rfl) rfl ?_
    refine am_iload (am_dec tmX2_turns 24 rfl) rfl ?_
    refine am_icmp_ge (tgt := 71) (am_dec tmX2_turns 25 rfl) (by decide) (fun c6 => ?_) (fun c6 => ?_)
    · rw [if_pos c6] at hf
      have hf := Option.some.inj hf
      subst hf
      exact am_pick [0, 1, 2, 3, 4, 5, 6] rfl (hk0 _ rfl)
    · rw [if_neg c6] at hf
      refine am_iload (am_dec tmX2_turns 26 rfl) rfl ?_
      refine am_aload_n (am_dec tmX2_turns 27 rfl) rfl rfl ?_
      refine am_iload (am_dec tmX2_turns 28 rfl) rfl ?_
      obtain ⟨x8, g7, hf⟩ := am_bd hf
      refine am_callV1 (As := [.int v7]) (st := [.int v5]) hE (am_dec tmX2_turns 29 rfl) ok_X2_interval rfl lm_X2_43 in_X2_interval se_X2_interval sh_112 cf2 (c_X2_interval hE g7) rfl (Nat.lt_of_lt_of_le (by decide) hdp) (Nat.le_of_ble_eq_true rfl) (Nat.zero_le _) (Nat.zero_le _) rfl ?_
      refine am_aload_n (am_dec tmX2_turns 30 rfl) rfl rfl ?_
      refine am_iload (am_dec tmX2_turns 31 rfl) rfl ?_
      refine am_iload (am_dec tmX2_turns 32 rfl) rfl ?_
      refine am_iadd (am_dec tmX2_turns 33 rfl) ?_
      obtain ⟨x10, g9, hf⟩ := am_bd hf
      refine am_callV1 (As := [.int (v7 + q4)]) (st := [.int x8, .int v5]) hE (am_dec tmX2_turns 34 rfl) ok_X2_interval rfl lm_X2_43 in_X2_interval se_X2_interval sh_112 cf2 (c_X2_interval hE g9) rfl (Nat.lt_of_lt_of_le (by decide) hdp) (Nat.le_of_ble_eq_true rfl) (Nat.zero_le _) (Nat.zero_le _) rfl ?_
      obtain ⟨x12, g11, hf⟩ := am_bd hf
      refine am_callSN1 (As := [.int x8, .int x10]) (st := [.int v5]) hE (am_dec tmX2_turns 35 rfl) ok_X11_far rfl lm_X2_46 st_X11_far (c_X11_far hE g11) rfl (Nat.lt_of_lt_of_le (by decide) hdp) (Nat.le_of_ble_eq_true rfl) (Nat.zero_le _) (Nat.zero_le _) rfl ?_
      refine am_iadd (am_dec tmX2_turns 36 rfl) ?_
      refine am_istore (lv' := [(0, .ref 112), (1, .int q1), (2, .int q2), (3, .int q3), (4, .int q4), (5, .int (v5 + x12)), (6, .int q6), (7, .int v7)]) (am_dec tmX2_turns 37 rfl) (by decide) rfl ?_
      refine am_iinc (v := (1 : Int32)) (lv' := [(0, .ref 112), (1, .int q1), (2, .int q2), (3, .int q3), (4, .int q4), (5, .int (v5 + x12)), (6, .int q6), (7, .int (v7 + (1 : Int32)))]) (am_dec tmX2_turns 38 rfl) rfl (by decide) (by decide) rfl ?_
      refine am_goto (tgt := 35) (am_dec tmX2_turns 39 rfl) (by decide) ?_
      exact am_pick [0, 1, 2, 3, 4, 5, 6, 7] rfl (l_X2_turns_L35 hE hdp n (v5 + x12) (v7 + (1 : Int32)) ex0 hf hk0)
set_option maxRecDepth 100000 in
set_option maxHeartbeats 4000000 in
theorem l_X2_turns_L9 {E : am_E} (hE : am_EH E) {d mc ms : Nat} {o : am_O} {G2 : am_G} {D2 : am_D} (hdp : 3 ≤ d)  {D : am_D}  : ∀ (n : Nat) (v1 : Int32) (v2 : Int32) (v3 : Int32) (v4 : Int32) (ex0 : Int32), f_X2_turns_L9  D n v1 v2 v3 v4 = some ex0 → (∀ ex : Int32, ex0 = ex → am_S E mX2_turns d mc ms o G2 D2 0 0 102 [(1, .int ex)] [] am_G0 D) → am_S E mX2_turns d mc ms o G2 D2 0 0 9 [(0, .ref 112), (1, .int v1), (2, .int v2), (3, .int v3), (4, .int v4)] [] am_G0 D
  | 0, _, _, _, _, _, hf, _ => by
    unfold f_X2_turns_L9 at hf
    cases hf
  | n + 1, v1, v2, v3, v4, ex0, hf, hk0 => by
    unfold f_X2_turns_L9 at hf
    refine am_iconst (v := (2 : Int32)) (am_dec tmX2_turns 8 rfl) (by decide) ?_
    refine am_iload (am_dec tmX2_turns 9 rfl) rfl ?_
    refine am_imul (am_dec tmX2_turns 10 rfl) ?_
    refine am_aload_n (am_dec tmX2_turns 11 rfl) rfl rfl ?_
    obtain ⟨x2, g1, hf⟩ := am_bd hf
    refine am_callV1 (As := []) (st := [.int ((2 : Int32) * v4)]) hE (am_dec tmX2_turns 12 rfl) ok_X2_intervals rfl lm_X2_33 in_X2_intervals se_X2_intervals sh_112 cf2 (c_X2_intervals hE g1) rfl (Nat.lt_of_lt_of_le (by decide) hdp) (Nat.le_of_ble_eq_true rfl) (Nat.zero_le _) (Nat.zero_le _) rfl ?_
    refine am_icmp_gt (tgt := 102) (am_dec tmX2_turns 13 rfl) (by decide) (fun c3 => ?_) (fun c3 => ?_)
    · rw [if_pos c3] at hf
      have hf := Option.some.inj hf
      subst hf
      exact am_pick [1] rfl (hk0 _ rfl)
    · rw [if_neg c3] at hf
      refine am_iconst (v := (0 : Int32)) (am_dec tmX2_turns 14 rfl) (by decide) ?_
      refine am_istore (lv' := [(0, .ref 112), (1, .int v1), (2, .int v2), (3, .int v3), (4, .int v4), (5, .int (0 : Int32))]) (am_dec tmX2_turns 15 rfl) (by decide) rfl ?_
      refine am_aload_n (am_dec tmX2_turns 16 rfl) rfl rfl ?_
      obtain ⟨x5, g4, hf⟩ := am_bd hf
      refine am_callV1 (As := []) (st := []) hE (am_dec tmX2_turns 17 rfl) ok_X2_intervals rfl lm_X2_33 in_X2_intervals se_X2_intervals sh_112 cf2 (c_X2_intervals hE g4) rfl (Nat.lt_of_lt_of_le (by decide) hdp) (Nat.le_of_ble_eq_true rfl) (Nat.zero_le _) (Nat.zero_le _) rfl ?_
      refine am_iload (am_dec tmX2_turns 18 rfl) rfl ?_
      refine am_isub (am_dec tmX2_turns 19 rfl) ?_
      refine am_istore (lv' := [(0, .ref 112), (1, .int v1), (2, .int v2), (3, .int v3), (4, .int v4), (5, .int (0 : Int32)), (6, .int (x5 - v4))]) (am_dec tmX2_turns 20 rfl) (by decide) rfl ?_
      refine am_iconst (v := (0 : Int32)) (am_dec tmX2_turns 21 rfl) (by decide) ?_
      refine am_istore (lv' := [(0, .ref 112), (1, .int v1), (2, .int v2), (3, .int v3), (4, .int v4), (5, .int (0 : Int32)), (6, .int (x5 - v4)), (7, .int (0 : Int32))]) (am_dec tmX2_turns 22 rfl) (by decide) rfl ?_
      obtain ⟨e13, g19, hf⟩ := am_bd hf
      refine am_pick [0, 1, 2, 3, 4, 5, 6, 7] rfl (l_X2_turns_L35 hE hdp am_fu _ _ _ g19 (fun ex he => ?_))
      subst he
      refine am_iload_n (am_dec tmX2_turns 40 rfl) rfl rfl ?_
      refine am_iconst (v := (-1 : Int32)) (am_dec tmX2_turns 41 rfl) (by decide) ?_
      obtain ⟨w17, g18, hf⟩ := am_bd hf
      have key15 : am_S E mX2_turns d mc ms o G2 D2 0 0 96 [(0, .ref 112), (1, .int w17.1), (2, .int w17.2.1), (3, .int w17.2.2), (4, .int v4)] [] am_G0 D := by
        refine am_iinc (v := (1 : Int32)) (lv' := [(0, .ref 112), (1, .int w17.1), (2, .int w17.2.1), (3, .int w17.2.2), (4, .int (v4 + (1 : Int32)))]) (am_dec tmX2_turns 56 rfl) rfl (by decide) (by decide) rfl ?_
        refine am_goto (tgt := 9) (am_dec tmX2_turns 57 rfl) (by decide) ?_
        exact am_pick [0, 1, 2, 3, 4] rfl (l_X2_turns_L9 hE hdp n w17.1 w17.2.1 w17.2.2 (v4 + (1 : Int32)) ex0 hf hk0)
      replace hf := g18
      refine am_icmp_eq (tgt := 87) (am_dec tmX2_turns 42 rfl) (by decide) (fun c14 => ?_) (fun c14 => ?_)
      · rw [if_pos c14] at hf
        refine am_iload (am_dec tmX2_turns 50 rfl) rfl ?_
        refine am_istore_n (lv' := [(0, .ref 112), (1, .int v4), (2, .int v2), (3, .int v3), (4, .int v4), (5, .int e13), (6, .int (x5 - v4))]) (am_dec tmX2_turns 51 rfl) rfl (by decide) rfl ?_
        refine am_iload (am_dec tmX2_turns 52 rfl) rfl ?_
        refine am_istore_n (lv' := [(0, .ref 112), (1, .int v4), (2, .int e13), (3, .int v3), (4, .int v4), (5, .int e13), (6, .int (x5 - v4))]) (am_dec tmX2_turns 53 rfl) rfl (by decide) rfl ?_
        refine am_iload (am_dec tmX2_turns 54 rfl) rfl ?_
        refine am_istore_n (lv' := [(0, .ref 112), (1, .int v4), (2, .int e13), (3, .int (x5 - v4)), (4, .int v4), (5, .int e13), (6, .int (x5 - v4))]) (am_dec tmX2_turns 55 rfl) rfl (by decide) rfl ?_
        have hf := Option.some.inj hf
        subst hf
        exact am_pick [0, 1, 2, 3, 4] rfl key15
      · rw [if_neg c14] at hf
        refine am_iload (am_dec tmX2_turns 43 rfl) rfl ?_
        refine am_iload_n (am_dec tmX2_turns 44 rfl) rfl rfl ?_
        refine am_imul (am_dec tmX2_turns 45 rfl) ?_
        refine am_iload_n (am_dec tmX2_turns 46 rfl) rfl rfl ?_
        refine am_iload (am_dec tmX2_turns 47 rfl) rfl ?_
        refine am_imul (am_dec tmX2_turns 48 rfl) ?_
        refine am_icmp_ge (tgt := 96) (am_dec tmX2_turns 49 rfl) (by decide) (fun c16 => ?_) (fun c16 => ?_)
        · rw [if_pos c16] at hf
          have hf := Option.some.inj hf
          subst hf
          exact am_pick [0, 1, 2, 3, 4] rfl key15
        · rw [if_neg c16] at hf
          refine am_iload (am_dec tmX2_turns 50 rfl) rfl ?_
          refine am_istore_n (lv' := [(0, .ref 112), (1, .int v4), (2, .int v2), (3, .int v3), (4, .int v4), (5, .int e13), (6, .int (x5 - v4))]) (am_dec tmX2_turns 51 rfl) rfl (by decide) rfl ?_
          refine am_iload (am_dec tmX2_turns 52 rfl) rfl ?_
          refine am_istore_n (lv' := [(0, .ref 112), (1, .int v4), (2, .int e13), (3, .int v3), (4, .int v4), (5, .int e13), (6, .int (x5 - v4))]) (am_dec tmX2_turns 53 rfl) rfl (by decide) rfl ?_
          refine am_iload (am_dec tmX2_turns 54 rfl) rfl ?_
          refine am_istore_n (lv' := [(0, .ref 112), (1, .int v4), (2, .int e13), (3, .int (x5 - v4)), (4, .int v4), (5, .int e13), (6, .int (x5 - v4))]) (am_dec tmX2_turns 55 rfl) rfl (by decide) rfl ?_
          have hf := Option.some.inj hf
          subst hf
          exact am_pick [0, 1, 2, 3, 4] rfl key15
set_option maxRecDepth 100000 in
set_option maxHeartbeats 4000000 in
theorem c_X2_turns {E : am_E} (hE : am_EH E) {D : am_D} {r : Int32}  (hf : f_X2_turns D = some r) : am_C E mX2_turns 3 0 0 [.ref 112] am_G0 D (.inl (some (.int r))) am_G0 D := by
  refine am_C_of (by decide +kernel) (Nat.le_of_ble_eq_true rfl) ?_
  change am_S E mX2_turns 3 0 0 (.inl (some (.int r))) am_G0 D 0 0 0 [(0, .ref 112)] [] am_G0 D
  unfold f_X2_turns at hf
  refine am_iconst (v := (-1 : Int32)) (am_dec tmX2_turns 0 rfl) (by decide) ?_
  refine am_istore_n (lv' := [(0, .ref 112), (1, .int (-1 : Int32))]) (am_dec tmX2_turns 1 rfl) rfl (by decide) rfl ?_
  refine am_iconst (v := (0 : Int32)) (am_dec tmX2_turns 2 rfl) (by decide) ?_
  refine am_istore_n (lv' := [(0, .ref 112), (1, .int (-1 : Int32)), (2, .int (0 : Int32))]) (am_dec tmX2_turns 3 rfl) rfl (by decide) rfl ?_
  refine am_iconst (v := (1 : Int32)) (am_dec tmX2_turns 4 rfl) (by decide) ?_
  refine am_istore_n (lv' := [(0, .ref 112), (1, .int (-1 : Int32)), (2, .int (0 : Int32)), (3, .int (1 : Int32))]) (am_dec tmX2_turns 5 rfl) rfl (by decide) rfl ?_
  refine am_iconst (v := (1 : Int32)) (am_dec tmX2_turns 6 rfl) (by decide) ?_
  refine am_istore (lv' := [(0, .ref 112), (1, .int (-1 : Int32)), (2, .int (0 : Int32)), (3, .int (1 : Int32)), (4, .int (1 : Int32))]) (am_dec tmX2_turns 7 rfl) (by decide) rfl ?_
  obtain ⟨e20, g21, hf⟩ := am_bd hf
  refine am_pick [0, 1, 2, 3, 4] rfl (l_X2_turns_L9 hE (Nat.le_refl _) am_fu _ _ _ _ _ g21 (fun ex he => ?_))
  subst he
  refine am_iload_n (am_dec tmX2_turns 58 rfl) rfl rfl ?_
  have hf := Option.some.inj hf
  subst hf
  exact am_iret (am_dec tmX2_turns 59 rfl) rfl (Nat.zero_le _) (Nat.zero_le _)
def f_X2_swing_L10  (D : am_D) : Nat → Int32 → Int32 → Int32 → Option (Int32 × Int32)
  | 0, _, _, _ => none
  | n + 1, v1, v2, v3 =>
    (f_X2_intervals D).bind fun x4 =>
    if x4 ≤ v3 then
    some (v1, v2)
    else
    (f_X2_interval v3 D).bind fun x7 =>
    (f_X2_interval v3 D).bind fun x9 =>
    f_X2_swing_L10 D n (am_mn v1 x7) (am_mx v2 x9) (v3 + (1 : Int32))
def f_X2_swing (D : am_D) : Option (Int32) :=
    (f_X2_interval (0 : Int32) D).bind fun x2 =>
    (f_X2_swing_L10 D am_fu x2 x2 (1 : Int32)).bind fun e10 =>
    some (e10.2 - e10.1)
set_option maxRecDepth 100000 in
set_option maxHeartbeats 4000000 in
theorem l_X2_swing_L10 {E : am_E} (hE : am_EH E) {d mc ms : Nat} {o : am_O} {G2 : am_G} {D2 : am_D} (hdp : 3 ≤ d)  {D : am_D}  : ∀ (n : Nat) (v1 : Int32) (v2 : Int32) (v3 : Int32) (ex0 : Int32 × Int32), f_X2_swing_L10  D n v1 v2 v3 = some ex0 → (∀ ex : Int32 × Int32, ex0 = ex → am_S E mX2_swing d mc ms o G2 D2 0 0 44 [(1, .int ex.1), (2, .int ex.2)] [] am_G0 D) → am_S E mX2_swing d mc ms o G2 D2 0 0 10 [(0, .ref 112), (1, .int v1), (2, .int v2), (3, .int v3)] [] am_G0 D
  | 0, _, _, _, _, hf, _ => by
    unfold f_X2_swing_L10 at hf
    cases hf
  | n + 1, v1, v2, v3, ex0, hf, hk0 => by
    unfold f_X2_swing_L10 at hf
    refine am_iload_n (am_dec tmX2_swing 8 rfl) rfl rfl ?_
    refine am_aload_n (am_dec tmX2_swing 9 rfl) rfl rfl ?_
    obtain ⟨x4, g3, hf⟩ := am_bd hf
    refine am_callV1 (As := []) (st := [.int v3]) hE (am_dec tmX2_swing 10 rfl) ok_X2_intervals rfl lm_X2_33 in_X2_intervals se_X2_intervals sh_112 cf2 (c_X2_intervals hE g3) rfl (Nat.lt_of_lt_of_le (by decide) hdp) (Nat.le_of_ble_eq_true rfl) (Nat.zero_le _) (Nat.zero_le _) rfl ?_
    refine am_icmp_ge (tgt := 44) (am_dec tmX2_swing 11 rfl) (by decide) (fun c5 => ?_) (fun c5 => ?_)
    · rw [if_pos c5] at hf
      have hf := Option.some.inj hf
      subst hf
      exact am_pick [1, 2] rfl (hk0 _ rfl)
    · rw [if_neg c5] at hf
      refine am_iload_n (am_dec tmX2_swing 12 rfl) rfl rfl ?_
      refine am_aload_n (am_dec tmX2_swing 13 rfl) rfl rfl ?_
      refine am_iload_n (am_dec tmX2_swing 14 rfl) rfl rfl ?_
      obtain ⟨x7, g6, hf⟩ := am_bd hf
      refine am_callV1 (As := [.int v3]) (st := [.int v1]) hE (am_dec tmX2_swing 15 rfl) ok_X2_interval rfl lm_X2_43 in_X2_interval se_X2_interval sh_112 cf2 (c_X2_interval hE g6) rfl (Nat.lt_of_lt_of_le (by decide) hdp) (Nat.le_of_ble_eq_true rfl) (Nat.zero_le _) (Nat.zero_le _) rfl ?_
      refine am_mmin2 (am_dec tmX2_swing 16 rfl) lm_X2_49 (Nat.le_of_ble_eq_true rfl) (Nat.zero_le _) (Nat.zero_le _) ?_
      refine am_istore_n (lv' := [(0, .ref 112), (1, .int (am_mn v1 x7)), (2, .int v2), (3, .int v3)]) (am_dec tmX2_swing 17 rfl) rfl (by decide) rfl ?_
      refine am_iload_n (am_dec tmX2_swing 18 rfl) rfl rfl ?_
      refine am_aload_n (am_dec tmX2_swing 19 rfl) rfl rfl ?_
      refine am_iload_n (am_dec tmX2_swing 20 rfl) rfl rfl ?_
      obtain ⟨x9, g8, hf⟩ := am_bd hf
      refine am_callV1 (As := [.int v3]) (st := [.int v2]) hE (am_dec tmX2_swing 21 rfl) ok_X2_interval rfl lm_X2_43 in_X2_interval se_X2_interval sh_112 cf2 (c_X2_interval hE g8) rfl (Nat.lt_of_lt_of_le (by decide) hdp) (Nat.le_of_ble_eq_true rfl) (Nat.zero_le _) (Nat.zero_le _) rfl ?_
      refine am_mmax2 (am_dec tmX2_swing 22 rfl) lm_X2_26 (Nat.le_of_ble_eq_true rfl) (Nat.zero_le _) (Nat.zero_le _) ?_
      refine am_istore_n (lv' := [(0, .ref 112), (1, .int (am_mn v1 x7)), (2, .int (am_mx v2 x9)), (3, .int v3)]) (am_dec tmX2_swing 23 rfl) rfl (by decide) rfl ?_
      refine am_iinc (v := (1 : Int32)) (lv' := [(0, .ref 112), (1, .int (am_mn v1 x7)), (2, .int (am_mx v2 x9)), (3, .int (v3 + (1 : Int32)))]) (am_dec tmX2_swing 24 rfl) rfl (by decide) (by decide) rfl ?_
      refine am_goto (tgt := 10) (am_dec tmX2_swing 25 rfl) (by decide) ?_
      exact am_pick [0, 1, 2, 3] rfl (l_X2_swing_L10 hE hdp n (am_mn v1 x7) (am_mx v2 x9) (v3 + (1 : Int32)) ex0 hf hk0)
set_option maxRecDepth 100000 in
set_option maxHeartbeats 4000000 in
theorem c_X2_swing {E : am_E} (hE : am_EH E) {D : am_D} {r : Int32}  (hf : f_X2_swing D = some r) : am_C E mX2_swing 3 0 0 [.ref 112] am_G0 D (.inl (some (.int r))) am_G0 D := by
  refine am_C_of (by decide +kernel) (Nat.le_of_ble_eq_true rfl) ?_
  change am_S E mX2_swing 3 0 0 (.inl (some (.int r))) am_G0 D 0 0 0 [(0, .ref 112)] [] am_G0 D
  unfold f_X2_swing at hf
  refine am_aload_n (am_dec tmX2_swing 0 rfl) rfl rfl ?_
  refine am_iconst (v := (0 : Int32)) (am_dec tmX2_swing 1 rfl) (by decide) ?_
  obtain ⟨x2, g1, hf⟩ := am_bd hf
  refine am_callV1 (As := [.int (0 : Int32)]) (st := []) hE (am_dec tmX2_swing 2 rfl) ok_X2_interval rfl lm_X2_43 in_X2_interval se_X2_interval sh_112 cf2 (c_X2_interval hE g1) rfl (by decide) (Nat.le_of_ble_eq_true rfl) (Nat.zero_le _) (Nat.zero_le _) rfl ?_
  refine am_istore_n (lv' := [(0, .ref 112), (1, .int x2)]) (am_dec tmX2_swing 3 rfl) rfl (by decide) rfl ?_
  refine am_iload_n (am_dec tmX2_swing 4 rfl) rfl rfl ?_
  refine am_istore_n (lv' := [(0, .ref 112), (1, .int x2), (2, .int x2)]) (am_dec tmX2_swing 5 rfl) rfl (by decide) rfl ?_
  refine am_iconst (v := (1 : Int32)) (am_dec tmX2_swing 6 rfl) (by decide) ?_
  refine am_istore_n (lv' := [(0, .ref 112), (1, .int x2), (2, .int x2), (3, .int (1 : Int32))]) (am_dec tmX2_swing 7 rfl) rfl (by decide) rfl ?_
  obtain ⟨e10, g11, hf⟩ := am_bd hf
  refine am_pick [0, 1, 2, 3] rfl (l_X2_swing_L10 hE (Nat.le_refl _) am_fu _ _ _ _ g11 (fun ex he => ?_))
  subst he
  refine am_iload_n (am_dec tmX2_swing 26 rfl) rfl rfl ?_
  refine am_iload_n (am_dec tmX2_swing 27 rfl) rfl rfl ?_
  refine am_isub (am_dec tmX2_swing 28 rfl) ?_
  have hf := Option.some.inj hf
  subst hf
  exact am_iret (am_dec tmX2_swing 29 rfl) rfl (Nat.zero_le _) (Nat.zero_le _)
def f_X2_addSteadied (p1 : Nat) (p2 : Int32) (D : am_D) : Option (am_D) :=
    (f_X2_at (0 : Int32) D).bind fun x2 =>
    (f_X2_across D).bind fun x4 =>
    (f_X2_intervals D).bind fun x6 =>
    (f_X11_cut (x4 * p2) x6).bind fun x8 =>
    (f_X2_at p2 D).bind fun x10 =>
    (f_X9_lastFrom p1 D).bind fun x12 =>
    if x10 ≤ x12 then
    some D
    else
    (f_X9_lastTo p1 D).bind fun x15 =>
    if (x2 + x8) ≤ x15 then
    some D
    else
    (f_X2_at p2 D).bind fun x18 =>
    (f_X9_add p1 x18 (x2 + x8) D).bind fun x20 =>
    some x20
set_option maxRecDepth 100000 in
set_option maxHeartbeats 4000000 in
theorem c_X2_addSteadied {E : am_E} (hE : am_EH E) {p1 : Nat} {p2 : Int32} {D : am_D} {r : am_D} (h_p1 : am_sh am_G0 p1 = some (9, 3)) (hf : f_X2_addSteadied p1 p2 D = some r) : am_C E mX2_addSteadied 3 0 0 [.ref 112, .ref p1, .int p2] am_G0 D (.inl none) am_G0 r := by
  refine am_C_of (by decide +kernel) (Nat.le_of_ble_eq_true rfl) ?_
  change am_S E mX2_addSteadied 3 0 0 (.inl none) am_G0 r 0 0 0 [(0, .ref 112), (1, .ref p1), (2, .int p2)] [] am_G0 D
  unfold f_X2_addSteadied at hf
  refine am_aload_n (am_dec tmX2_addSteadied 0 rfl) rfl rfl ?_
  refine am_iconst (v := (0 : Int32)) (am_dec tmX2_addSteadied 1 rfl) (by decide) ?_
  obtain ⟨x2, g1, hf⟩ := am_bd hf
  refine am_callV1 (As := [.int (0 : Int32)]) (st := []) hE (am_dec tmX2_addSteadied 2 rfl) ok_X2_at rfl lm_X2_32 in_X2_at se_X2_at sh_112 cf2 (c_X2_at hE g1) rfl (by decide) (Nat.le_of_ble_eq_true rfl) (Nat.zero_le _) (Nat.zero_le _) rfl ?_
  refine am_aload_n (am_dec tmX2_addSteadied 3 rfl) rfl rfl ?_
  obtain ⟨x4, g3, hf⟩ := am_bd hf
  refine am_callV1 (As := []) (st := [.int x2]) hE (am_dec tmX2_addSteadied 4 rfl) ok_X2_across rfl lm_X2_37 in_X2_across se_X2_across sh_112 cf2 (c_X2_across hE g3) rfl (by decide) (Nat.le_of_ble_eq_true rfl) (Nat.zero_le _) (Nat.zero_le _) rfl ?_
  refine am_iload_n (am_dec tmX2_addSteadied 5 rfl) rfl rfl ?_
  refine am_imul (am_dec tmX2_addSteadied 6 rfl) ?_
  refine am_aload_n (am_dec tmX2_addSteadied 7 rfl) rfl rfl ?_
  obtain ⟨x6, g5, hf⟩ := am_bd hf
  refine am_callV1 (As := []) (st := [.int (x4 * p2), .int x2]) hE (am_dec tmX2_addSteadied 8 rfl) ok_X2_intervals rfl lm_X2_33 in_X2_intervals se_X2_intervals sh_112 cf2 (c_X2_intervals hE g5) rfl (by decide) (Nat.le_of_ble_eq_true rfl) (Nat.zero_le _) (Nat.zero_le _) rfl ?_
  obtain ⟨x8, g7, hf⟩ := am_bd hf
  refine am_callSN1 (As := [.int (x4 * p2), .int x6]) (st := [.int x2]) hE (am_dec tmX2_addSteadied 9 rfl) ok_X11_cut rfl lm_X2_40 st_X11_cut (c_X11_cut hE g7) rfl (by decide) (Nat.le_of_ble_eq_true rfl) (Nat.zero_le _) (Nat.zero_le _) rfl ?_
  refine am_iadd (am_dec tmX2_addSteadied 10 rfl) ?_
  refine am_istore_n (lv' := [(0, .ref 112), (1, .ref p1), (2, .int p2), (3, .int (x2 + x8))]) (am_dec tmX2_addSteadied 11 rfl) rfl (by decide) rfl ?_
  refine am_aload_n (am_dec tmX2_addSteadied 12 rfl) rfl rfl ?_
  refine am_iload_n (am_dec tmX2_addSteadied 13 rfl) rfl rfl ?_
  obtain ⟨x10, g9, hf⟩ := am_bd hf
  refine am_callV1 (As := [.int p2]) (st := []) hE (am_dec tmX2_addSteadied 14 rfl) ok_X2_at rfl lm_X2_32 in_X2_at se_X2_at sh_112 cf2 (c_X2_at hE g9) rfl (by decide) (Nat.le_of_ble_eq_true rfl) (Nat.zero_le _) (Nat.zero_le _) rfl ?_
  refine am_aload_n (am_dec tmX2_addSteadied 15 rfl) rfl rfl ?_
  obtain ⟨x12, g11, hf⟩ := am_bd hf
  refine am_callV1 (As := []) (st := [.int x10]) hE (am_dec tmX2_addSteadied 16 rfl) ok_X9_lastFrom rfl lm_X2_64 in_X9_lastFrom se_X9_lastFrom h_p1 cf9 (c_X9_lastFrom hE h_p1 g11) rfl (by decide) (Nat.le_of_ble_eq_true rfl) (Nat.zero_le _) (Nat.zero_le _) rfl ?_
  refine am_icmp_le (tgt := 50) (am_dec tmX2_addSteadied 17 rfl) (by decide) (fun c13 => ?_) (fun c13 => ?_)
  · rw [if_pos c13] at hf
    have hf := Option.some.inj hf
    subst hf
    exact am_vret (am_dec tmX2_addSteadied 28 rfl) rfl (Nat.zero_le _) (Nat.zero_le _)
  · rw [if_neg c13] at hf
    refine am_iload_n (am_dec tmX2_addSteadied 18 rfl) rfl rfl ?_
    refine am_aload_n (am_dec tmX2_addSteadied 19 rfl) rfl rfl ?_
    obtain ⟨x15, g14, hf⟩ := am_bd hf
    refine am_callV1 (As := []) (st := [.int (x2 + x8)]) hE (am_dec tmX2_addSteadied 20 rfl) ok_X9_lastTo rfl lm_X2_67 in_X9_lastTo se_X9_lastTo h_p1 cf9 (c_X9_lastTo hE h_p1 g14) rfl (by decide) (Nat.le_of_ble_eq_true rfl) (Nat.zero_le _) (Nat.zero_le _) rfl ?_
    refine am_icmp_le (tgt := 50) (am_dec tmX2_addSteadied 21 rfl) (by decide) (fun c16 => ?_) (fun c16 => ?_)
    · rw [if_pos c16] at hf
      have hf := Option.some.inj hf
      subst hf
      exact am_vret (am_dec tmX2_addSteadied 28 rfl) rfl (Nat.zero_le _) (Nat.zero_le _)
    · rw [if_neg c16] at hf
      refine am_aload_n (am_dec tmX2_addSteadied 22 rfl) rfl rfl ?_
      refine am_aload_n (am_dec tmX2_addSteadied 23 rfl) rfl rfl ?_
      refine am_iload_n (am_dec tmX2_addSteadied 24 rfl) rfl rfl ?_
      obtain ⟨x18, g17, hf⟩ := am_bd hf
      refine am_callV1 (As := [.int p2]) (st := [.ref p1]) hE (am_dec tmX2_addSteadied 25 rfl) ok_X2_at rfl lm_X2_32 in_X2_at se_X2_at sh_112 cf2 (c_X2_at hE g17) rfl (by decide) (Nat.le_of_ble_eq_true rfl) (Nat.zero_le _) (Nat.zero_le _) rfl ?_
      refine am_iload_n (am_dec tmX2_addSteadied 26 rfl) rfl rfl ?_
      obtain ⟨x20, g19, hf⟩ := am_bd hf
      refine am_callV0 (As := [.int x18, .int (x2 + x8)]) (st := []) hE (am_dec tmX2_addSteadied 27 rfl) ok_X9_add rfl lm_X2_70 in_X9_add se_X9_add h_p1 cf9 (c_X9_add hE h_p1 g19) rfl (by decide) (Nat.le_of_ble_eq_true rfl) (Nat.zero_le _) (Nat.zero_le _) rfl ?_
      have hf := Option.some.inj hf
      subst hf
      exact am_vret (am_dec tmX2_addSteadied 28 rfl) rfl (Nat.zero_le _) (Nat.zero_le _)
