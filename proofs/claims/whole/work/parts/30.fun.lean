def f_X7_at (r0 : Nat) (p1 : Int32) (D : am_D) : Option (Int32) :=
    if p1 < 0 then
    some (0 : Int32)
    else
    if (D.1 r0 1) ≤ p1 then
    some (0 : Int32)
    else
    if (Int32.ofNat (am_ln (r0 + 1))) ≤ p1 then
    some (0 : Int32)
    else
    (am_gI D (r0 + 1) (am_ln (r0 + 1)) p1).bind fun x4 =>
    some x4
set_option maxRecDepth 100000 in
set_option maxHeartbeats 4000000 in
theorem c_X7_at {E : am_E} (hE : am_EH E) {r0 : Nat} {p1 : Int32} {D : am_D} {r : Int32} (h_r0 : am_sh am_G0 r0 = some (7, 2)) (hf : f_X7_at r0 p1 D = some r) : am_C E mX7_at 1 0 0 [.ref r0, .int p1] am_G0 D (.inl (some (.int r))) am_G0 D := by
  refine am_C_of (by decide +kernel) (Nat.le_of_ble_eq_true rfl) ?_
  change am_S E mX7_at 1 0 0 (.inl (some (.int r))) am_G0 D 0 0 0 [(0, .ref r0), (1, .int p1)] [] am_G0 D
  unfold f_X7_at at hf
  refine am_iload_n (am_dec tmX7_at 0 rfl) rfl rfl ?_
  refine am_if_lt (tgt := 30) (am_dec tmX7_at 1 rfl) (by decide) (fun c1 => ?_) (fun c1 => ?_)
  · rw [if_pos c1] at hf
    refine am_iconst (v := (0 : Int32)) (am_dec tmX7_at 16 rfl) (by decide) ?_
    cases hf
    exact am_iret (am_dec tmX7_at 17 rfl) rfl (Nat.zero_le _) (Nat.zero_le _)
  · rw [if_neg c1] at hf
    refine am_iload_n (am_dec tmX7_at 2 rfl) rfl rfl ?_
    refine am_aload_n (am_dec tmX7_at 3 rfl) rfl rfl ?_
    refine am_getI (j := 1) hE (am_dec tmX7_at 4 rfl) h_r0 cf7 (by decide) rfl lf_X7_25 ?_
    refine am_icmp_ge (tgt := 30) (am_dec tmX7_at 5 rfl) (by decide) (fun c2 => ?_) (fun c2 => ?_)
    · rw [if_pos c2] at hf
      refine am_iconst (v := (0 : Int32)) (am_dec tmX7_at 16 rfl) (by decide) ?_
      cases hf
      exact am_iret (am_dec tmX7_at 17 rfl) rfl (Nat.zero_le _) (Nat.zero_le _)
    · rw [if_neg c2] at hf
      refine am_iload_n (am_dec tmX7_at 6 rfl) rfl rfl ?_
      refine am_aload_n (am_dec tmX7_at 7 rfl) rfl rfl ?_
      refine am_getR (j := 0) hE (am_dec tmX7_at 8 rfl) h_r0 cf7 (by decide) rfl lf_X7_15 (ro_X7_0_0 h_r0) ?_
      refine am_alen (t := 0) (v := (Int32.ofNat (am_ln (r0 + 1)))) hE (am_dec tmX7_at 9 rfl) (so_X7_1 h_r0) (by decide) rfl ?_
      refine am_icmp_ge (tgt := 30) (am_dec tmX7_at 10 rfl) (by decide) (fun c3 => ?_) (fun c3 => ?_)
      · rw [if_pos c3] at hf
        refine am_iconst (v := (0 : Int32)) (am_dec tmX7_at 16 rfl) (by decide) ?_
        cases hf
        exact am_iret (am_dec tmX7_at 17 rfl) rfl (Nat.zero_le _) (Nat.zero_le _)
      · rw [if_neg c3] at hf
        refine am_aload_n (am_dec tmX7_at 11 rfl) rfl rfl ?_
        refine am_getR (j := 0) hE (am_dec tmX7_at 12 rfl) h_r0 cf7 (by decide) rfl lf_X7_15 (ro_X7_0_0 h_r0) ?_
        refine am_iload_n (am_dec tmX7_at 13 rfl) rfl rfl ?_
        obtain ⟨x4, g5, hf⟩ := am_bd hf
        refine am_iald2 hE (am_dec tmX7_at 14 rfl) (so_X7_1 h_r0) g5 ?_
        refine am_goto (tgt := 31) (am_dec tmX7_at 15 rfl) (by decide) ?_
        cases hf
        exact am_iret (am_dec tmX7_at 17 rfl) rfl (Nat.zero_le _) (Nat.zero_le _)
def f_X7_loud (r0 : Nat) (p1 : Int32) (D : am_D) : Option (Int32) :=
    (f_X7_at r0 p1 D).bind fun x2 =>
    some (am_ab x2)
set_option maxRecDepth 100000 in
set_option maxHeartbeats 4000000 in
theorem c_X7_loud {E : am_E} (hE : am_EH E) {r0 : Nat} {p1 : Int32} {D : am_D} {r : Int32} (h_r0 : am_sh am_G0 r0 = some (7, 2)) (hf : f_X7_loud r0 p1 D = some r) : am_C E mX7_loud 2 0 0 [.ref r0, .int p1] am_G0 D (.inl (some (.int r))) am_G0 D := by
  refine am_C_of (by decide +kernel) (Nat.le_of_ble_eq_true rfl) ?_
  change am_S E mX7_loud 2 0 0 (.inl (some (.int r))) am_G0 D 0 0 0 [(0, .ref r0), (1, .int p1)] [] am_G0 D
  unfold f_X7_loud at hf
  refine am_aload_n (am_dec tmX7_loud 0 rfl) rfl rfl ?_
  refine am_iload_n (am_dec tmX7_loud 1 rfl) rfl rfl ?_
  obtain ⟨x2, g1, hf⟩ := am_bd hf
  refine am_callV1 (As := [.int p1]) (st := []) hE (am_dec tmX7_loud 2 rfl) ok_X7_at rfl lm_X7_35 in_X7_at se_X7_at h_r0 cf7 (c_X7_at hE h_r0 g1) rfl (by decide) (Nat.le_of_ble_eq_true rfl) (Nat.zero_le _) (Nat.zero_le _) rfl ?_
  refine am_mabs2 (am_dec tmX7_loud 3 rfl) lm_X7_39 (Nat.le_of_ble_eq_true rfl) (Nat.zero_le _) (Nat.zero_le _) ?_
  cases hf
  exact am_iret (am_dec tmX7_loud 4 rfl) rfl (Nat.zero_le _) (Nat.zero_le _)
def f_X7_loudest_L5 (q0 : Nat) (q1 : Int32) (q2 : Int32) (D : am_D) : Nat → Int32 → Int32 → Option (Int32)
  | 0, _, _ => none
  | n + 1, v3, v4 =>
    if q2 ≤ v4 then
    some (v3)
    else
    (f_X7_at q0 (q1 + v4) D).bind fun x3 =>
    f_X7_loudest_L5 q0 q1 q2 D n (am_mx v3 (am_ab x3)) (v4 + (1 : Int32))
def f_X7_loudest (r0 : Nat) (p1 : Int32) (p2 : Int32) (D : am_D) : Option (Int32) :=
    (f_X7_loudest_L5 r0 p1 p2 D am_fu (0 : Int32) (0 : Int32)).bind fun e4 =>
    some e4
set_option maxRecDepth 100000 in
set_option maxHeartbeats 4000000 in
theorem l_X7_loudest_L5 {E : am_E} (hE : am_EH E) {d mc ms : Nat} {o : am_O} {G2 : am_G} {D2 : am_D} (hdp : 2 ≤ d) {q0 : Nat} {q1 : Int32} {q2 : Int32} {D : am_D} (h_q0 : am_sh am_G0 q0 = some (7, 2)) : ∀ (n : Nat) (v3 : Int32) (v4 : Int32) (ex0 : Int32), f_X7_loudest_L5 q0 q1 q2 D n v3 v4 = some ex0 → (∀ ex : Int32, ex0 = ex → am_S E mX7_loudest d mc ms o G2 D2 0 0 33 [(3, .int ex)] [] am_G0 D) → am_S E mX7_loudest d mc ms o G2 D2 0 0 5 [(0, .ref q0), (1, .int q1), (2, .int q2), (3, .int v3), (4, .int v4)] [] am_G0 D
  | 0, _, _, _, hf, _ => by
    unfold f_X7_loudest_L5 at hf
    cases hf
  | n + 1, v3, v4, ex0, hf, hk0 => by
    unfold f_X7_loudest_L5 at hf
    refine am_iload (am_dec tmX7_loudest 4 rfl) rfl ?_
    refine am_iload_n (am_dec tmX7_loudest 5 rfl) rfl rfl ?_
    refine am_icmp_ge (tgt := 33) (am_dec tmX7_loudest 6 rfl) (by decide) (fun c1 => ?_) (fun c1 => ?_)
    · rw [if_pos c1] at hf
      cases hf
      exact am_pick [3] rfl (hk0 _ rfl)
    · rw [if_neg c1] at hf
      refine am_iload_n (am_dec tmX7_loudest 7 rfl) rfl rfl ?_
      refine am_aload_n (am_dec tmX7_loudest 8 rfl) rfl rfl ?_
      refine am_iload_n (am_dec tmX7_loudest 9 rfl) rfl rfl ?_
      refine am_iload (am_dec tmX7_loudest 10 rfl) rfl ?_
      refine am_iadd (am_dec tmX7_loudest 11 rfl) ?_
      obtain ⟨x3, g2, hf⟩ := am_bd hf
      refine am_callV1 (As := [.int (q1 + v4)]) (st := [.int v3]) hE (am_dec tmX7_loudest 12 rfl) ok_X7_at rfl lm_X7_35 in_X7_at se_X7_at h_q0 cf7 (c_X7_at hE h_q0 g2) rfl (Nat.lt_of_lt_of_le (by decide) hdp) (Nat.le_of_ble_eq_true rfl) (Nat.zero_le _) (Nat.zero_le _) rfl ?_
      refine am_mabs2 (am_dec tmX7_loudest 13 rfl) lm_X7_39 (Nat.le_of_ble_eq_true rfl) (Nat.zero_le _) (Nat.zero_le _) ?_
      refine am_mmax2 (am_dec tmX7_loudest 14 rfl) lm_X7_9 (Nat.le_of_ble_eq_true rfl) (Nat.zero_le _) (Nat.zero_le _) ?_
      refine am_istore_n (lv' := [(0, .ref q0), (1, .int q1), (2, .int q2), (3, .int (am_mx v3 (am_ab x3))), (4, .int v4)]) (am_dec tmX7_loudest 15 rfl) rfl (by decide) rfl ?_
      refine am_iinc (v := (1 : Int32)) (lv' := [(0, .ref q0), (1, .int q1), (2, .int q2), (3, .int (am_mx v3 (am_ab x3))), (4, .int (v4 + (1 : Int32)))]) (am_dec tmX7_loudest 16 rfl) rfl (by decide) (by decide) rfl ?_
      refine am_goto (tgt := 5) (am_dec tmX7_loudest 17 rfl) (by decide) ?_
      exact am_pick [0, 1, 2, 3, 4] rfl (l_X7_loudest_L5 hE hdp h_q0 n (am_mx v3 (am_ab x3)) (v4 + (1 : Int32)) ex0 hf hk0)
set_option maxRecDepth 100000 in
set_option maxHeartbeats 4000000 in
theorem c_X7_loudest {E : am_E} (hE : am_EH E) {r0 : Nat} {p1 : Int32} {p2 : Int32} {D : am_D} {r : Int32} (h_r0 : am_sh am_G0 r0 = some (7, 2)) (hf : f_X7_loudest r0 p1 p2 D = some r) : am_C E mX7_loudest 2 0 0 [.ref r0, .int p1, .int p2] am_G0 D (.inl (some (.int r))) am_G0 D := by
  refine am_C_of (by decide +kernel) (Nat.le_of_ble_eq_true rfl) ?_
  change am_S E mX7_loudest 2 0 0 (.inl (some (.int r))) am_G0 D 0 0 0 [(0, .ref r0), (1, .int p1), (2, .int p2)] [] am_G0 D
  unfold f_X7_loudest at hf
  refine am_iconst (v := (0 : Int32)) (am_dec tmX7_loudest 0 rfl) (by decide) ?_
  refine am_istore_n (lv' := [(0, .ref r0), (1, .int p1), (2, .int p2), (3, .int (0 : Int32))]) (am_dec tmX7_loudest 1 rfl) rfl (by decide) rfl ?_
  refine am_iconst (v := (0 : Int32)) (am_dec tmX7_loudest 2 rfl) (by decide) ?_
  refine am_istore (lv' := [(0, .ref r0), (1, .int p1), (2, .int p2), (3, .int (0 : Int32)), (4, .int (0 : Int32))]) (am_dec tmX7_loudest 3 rfl) (by decide) rfl ?_
  obtain ⟨e4, g5, hf⟩ := am_bd hf
  refine am_pick [0, 1, 2, 3, 4] rfl (l_X7_loudest_L5 hE (Nat.le_refl _) h_r0 am_fu _ _ _ g5 (fun ex he => ?_))
  subst he
  refine am_iload_n (am_dec tmX7_loudest 18 rfl) rfl rfl ?_
  cases hf
  exact am_iret (am_dec tmX7_loudest 19 rfl) rfl (Nat.zero_le _) (Nat.zero_le _)
def f_X0_isBlow (p0 : Nat) (p1 : Int32) (D : am_D) : Option (Int32) :=
    (f_X7_loud p0 p1 D).bind fun x2 =>
    if x2 < (D.1 17 11) then
    some (0 : Int32)
    else
    (f_X7_loudest p0 (p1 - (D.1 17 13)) (D.1 17 13) D).bind fun x5 =>
    if x2 < ((D.1 17 12) * x5) then
    some (0 : Int32)
    else
    some (1 : Int32)
set_option maxRecDepth 100000 in
set_option maxHeartbeats 4000000 in
theorem c_X0_isBlow {E : am_E} (hE : am_EH E) {p0 : Nat} {p1 : Int32} {D : am_D} {r : Int32} (h_p0 : am_sh am_G0 p0 = some (7, 2)) (hf : f_X0_isBlow p0 p1 D = some r) : am_C E mX0_isBlow 3 0 0 [.ref p0, .int p1, .ref 17] am_G0 D (.inl (some (.int r))) am_G0 D := by
  refine am_C_of (by decide +kernel) (Nat.le_of_ble_eq_true rfl) ?_
  change am_S E mX0_isBlow 3 0 0 (.inl (some (.int r))) am_G0 D 0 0 0 [(0, .ref p0), (1, .int p1), (2, .ref 17)] [] am_G0 D
  unfold f_X0_isBlow at hf
  refine am_aload_n (am_dec tmX0_isBlow 0 rfl) rfl rfl ?_
  refine am_iload_n (am_dec tmX0_isBlow 1 rfl) rfl rfl ?_
  obtain ⟨x2, g1, hf⟩ := am_bd hf
  refine am_callV1 (As := [.int p1]) (st := []) hE (am_dec tmX0_isBlow 2 rfl) ok_X7_loud rfl lm_X0_34 in_X7_loud se_X7_loud h_p0 cf7 (c_X7_loud hE h_p0 g1) rfl (by decide) (Nat.le_of_ble_eq_true rfl) (Nat.zero_le _) (Nat.zero_le _) rfl ?_
  refine am_istore_n (lv' := [(0, .ref p0), (1, .int p1), (2, .ref 17), (3, .int x2)]) (am_dec tmX0_isBlow 3 rfl) rfl (by decide) rfl ?_
  refine am_iload_n (am_dec tmX0_isBlow 4 rfl) rfl rfl ?_
  refine am_aload_n (am_dec tmX0_isBlow 5 rfl) rfl rfl ?_
  refine am_getI (j := 11) hE (am_dec tmX0_isBlow 6 rfl) sh_17 cf1 (by decide) rfl lf_X0_38 ?_
  refine am_icmp_lt (tgt := 41) (am_dec tmX0_isBlow 7 rfl) (by decide) (fun c3 => ?_) (fun c3 => ?_)
  · rw [if_pos c3] at hf
    refine am_iconst (v := (0 : Int32)) (am_dec tmX0_isBlow 23 rfl) (by decide) ?_
    cases hf
    exact am_zret (am_dec tmX0_isBlow 24 rfl) rfl rfl (Nat.zero_le _) (Nat.zero_le _)
  · rw [if_neg c3] at hf
    refine am_iload_n (am_dec tmX0_isBlow 8 rfl) rfl rfl ?_
    refine am_aload_n (am_dec tmX0_isBlow 9 rfl) rfl rfl ?_
    refine am_getI (j := 12) hE (am_dec tmX0_isBlow 10 rfl) sh_17 cf1 (by decide) rfl lf_X0_41 ?_
    refine am_aload_n (am_dec tmX0_isBlow 11 rfl) rfl rfl ?_
    refine am_iload_n (am_dec tmX0_isBlow 12 rfl) rfl rfl ?_
    refine am_aload_n (am_dec tmX0_isBlow 13 rfl) rfl rfl ?_
    refine am_getI (j := 13) hE (am_dec tmX0_isBlow 14 rfl) sh_17 cf1 (by decide) rfl lf_X0_29 ?_
    refine am_isub (am_dec tmX0_isBlow 15 rfl) ?_
    refine am_aload_n (am_dec tmX0_isBlow 16 rfl) rfl rfl ?_
    refine am_getI (j := 13) hE (am_dec tmX0_isBlow 17 rfl) sh_17 cf1 (by decide) rfl lf_X0_29 ?_
    obtain ⟨x5, g4, hf⟩ := am_bd hf
    refine am_callV1 (As := [.int (p1 - (D.1 17 13)), .int (D.1 17 13)]) (st := [.int (D.1 17 12), .int x2]) hE (am_dec tmX0_isBlow 18 rfl) ok_X7_loudest rfl lm_X0_44 in_X7_loudest se_X7_loudest h_p0 cf7 (c_X7_loudest hE h_p0 g4) rfl (by decide) (Nat.le_of_ble_eq_true rfl) (Nat.zero_le _) (Nat.zero_le _) rfl ?_
    refine am_imul (am_dec tmX0_isBlow 19 rfl) ?_
    refine am_icmp_lt (tgt := 41) (am_dec tmX0_isBlow 20 rfl) (by decide) (fun c6 => ?_) (fun c6 => ?_)
    · rw [if_pos c6] at hf
      refine am_iconst (v := (0 : Int32)) (am_dec tmX0_isBlow 23 rfl) (by decide) ?_
      cases hf
      exact am_zret (am_dec tmX0_isBlow 24 rfl) rfl rfl (Nat.zero_le _) (Nat.zero_le _)
    · rw [if_neg c6] at hf
      refine am_iconst (v := (1 : Int32)) (am_dec tmX0_isBlow 21 rfl) (by decide) ?_
      refine am_goto (tgt := 42) (am_dec tmX0_isBlow 22 rfl) (by decide) ?_
      cases hf
      exact am_zret (am_dec tmX0_isBlow 24 rfl) rfl rfl (Nat.zero_le _) (Nat.zero_le _)
theorem z_X0_isBlow {p0 : Nat} {p1 : Int32} {D : am_D} {r : Int32} (hf : f_X0_isBlow p0 p1 D = some r) : narrow .boolean (.int r) = .int r := by
  unfold f_X0_isBlow at hf
  obtain ⟨x2, g1, hf⟩ := am_bd hf
  by_cases c3 : x2 < (D.1 17 11)
  · rw [if_pos c3] at hf
    cases hf
    exact rfl
  · rw [if_neg c3] at hf
    obtain ⟨x5, g4, hf⟩ := am_bd hf
    by_cases c6 : x2 < ((D.1 17 12) * x5)
    · rw [if_pos c6] at hf
      cases hf
      exact rfl
    · rw [if_neg c6] at hf
      cases hf
      exact rfl
def f_X0_find_L10 (q0 : Nat) (q1 : Nat) : Nat → Int32 → Int32 → am_D → Option (am_D)
  | 0, _, _, _ => none
  | n + 1, v3, v4, D =>
    if (D.1 q1 1) ≤ v4 then
    some (D)
    else
    (if v4 < v3 then
    some (v3, D)
    else
    (f_X0_isBlow q1 v4 D).bind fun x7 =>
    if x7 = 0 then
    some (v3, D)
    else
    if (600 : Int32) ≤ (D.1 q0 2) then
    some (v3, D)
    else
    (am_pI D (q0 + 1) 600 (D.1 q0 2) v4).bind fun D10 =>
    (some (am_wI D10 q0 2 ((D10.1 q0 2) + (1 : Int32)))).bind fun D12 =>
    some (((v4 + (D12.1 17 13)) + (1 : Int32)), D12)).bind fun p14 =>
    f_X0_find_L10 q0 q1 n p14.1 (v4 + (1 : Int32)) p14.2
def f_X0_find (r0 : Nat) (p1 : Nat) (D : am_D) : Option (am_D) :=
    (some (am_wI D r0 2 (0 : Int32))).bind fun D1 =>
    (f_X0_find_L10 r0 p1 am_fu (0 : Int32) (0 : Int32) D1).bind fun e16 =>
    some e16
set_option maxRecDepth 100000 in
set_option maxHeartbeats 4000000 in
theorem l_X0_find_L10 {E : am_E} (hE : am_EH E) {d mc ms : Nat} {o : am_O} {G2 : am_G} {D2 : am_D} (hdp : 4 ≤ d) {q0 : Nat} {q1 : Nat} (h_q0 : am_sh am_G0 q0 = some (0, 6)) (h_q1 : am_sh am_G0 q1 = some (7, 2)) : ∀ (n : Nat) (v3 : Int32) (v4 : Int32) (D : am_D) (ex0 : am_D), f_X0_find_L10 q0 q1 n v3 v4 D = some ex0 → (∀ ex : am_D, ex0 = ex → am_S E mX0_find d mc ms o G2 D2 0 0 84 [] [] am_G0 ex) → am_S E mX0_find d mc ms o G2 D2 0 0 10 [(0, .ref q0), (1, .ref q1), (2, .ref 17), (3, .int v3), (4, .int v4)] [] am_G0 D
  | 0, _, _, _, _, hf, _ => by
    unfold f_X0_find_L10 at hf
    cases hf
  | n + 1, v3, v4, D, ex0, hf, hk0 => by
    unfold f_X0_find_L10 at hf
    refine am_iload (am_dec tmX0_find 7 rfl) rfl ?_
    refine am_aload_n (am_dec tmX0_find 8 rfl) rfl rfl ?_
    refine am_getI (j := 1) hE (am_dec tmX0_find 9 rfl) h_q1 cf7 (by decide) rfl lf_X0_22 ?_
    refine am_icmp_ge (tgt := 84) (am_dec tmX0_find 10 rfl) (by decide) (fun c3 => ?_) (fun c3 => ?_)
    · rw [if_pos c3] at hf
      cases hf
      exact am_pick [] rfl (hk0 _ rfl)
    · rw [if_neg c3] at hf
      refine am_iload (am_dec tmX0_find 11 rfl) rfl ?_
      refine am_iload_n (am_dec tmX0_find 12 rfl) rfl rfl ?_
      obtain ⟨p14, g15, hf⟩ := am_bd hf
      have key5 : am_S E mX0_find d mc ms o G2 D2 0 0 78 [(0, .ref q0), (1, .ref q1), (2, .ref 17), (3, .int p14.1), (4, .int v4)] [] am_G0 p14.2 := by
        refine am_iinc (v := (1 : Int32)) (lv' := [(0, .ref q0), (1, .ref q1), (2, .ref 17), (3, .int p14.1), (4, .int (v4 + (1 : Int32)))]) (am_dec tmX0_find 44 rfl) rfl (by decide) (by decide) rfl ?_
        refine am_goto (tgt := 10) (am_dec tmX0_find 45 rfl) (by decide) ?_
        exact am_pick [0, 1, 2, 3, 4] rfl (l_X0_find_L10 hE hdp h_q0 h_q1 n p14.1 (v4 + (1 : Int32)) p14.2 ex0 hf hk0)
      replace hf := g15
      refine am_icmp_lt (tgt := 78) (am_dec tmX0_find 13 rfl) (by decide) (fun c4 => ?_) (fun c4 => ?_)
      · rw [if_pos c4] at hf
        cases hf
        exact am_pick [0, 1, 2, 3, 4] rfl key5
      · rw [if_neg c4] at hf
        refine am_aload_n (am_dec tmX0_find 14 rfl) rfl rfl ?_
        refine am_iload (am_dec tmX0_find 15 rfl) rfl ?_
        refine am_aload_n (am_dec tmX0_find 16 rfl) rfl rfl ?_
        obtain ⟨x7, g6, hf⟩ := am_bd hf
        refine am_callS1 (As := [.ref q1, .int v4, .ref 17]) (st := []) (am_dec tmX0_find 17 rfl) ok_X0_isBlow rfl lm_X0_25 st_X0_isBlow (c_X0_isBlow hE h_q1 g6) rfl (Nat.lt_of_lt_of_le (by decide) hdp) (Nat.le_of_ble_eq_true rfl) (Nat.zero_le _) (Nat.zero_le _) rfl ?_
        refine am_if_eq (tgt := 78) (am_dec tmX0_find 18 rfl) (by decide) (fun c8 => ?_) (fun c8 => ?_)
        · rw [if_pos c8] at hf
          cases hf
          exact am_pick [0, 1, 2, 3, 4] rfl key5
        · rw [if_neg c8] at hf
          refine am_aload_n (am_dec tmX0_find 19 rfl) rfl rfl ?_
          refine am_getI (j := 2) hE (am_dec tmX0_find 20 rfl) h_q0 cf0 (by decide) rfl lf_X0_18 ?_
          refine am_aload_n (am_dec tmX0_find 21 rfl) rfl rfl ?_
          refine am_getR (j := 0) hE (am_dec tmX0_find 22 rfl) h_q0 cf0 (by decide) rfl lf_X0_9 (ro_X0_0_0 h_q0) ?_
          refine am_alen (t := 0) (v := (600 : Int32)) hE (am_dec tmX0_find 23 rfl) (so_X0_1 h_q0) (by decide) (by decide) ?_
          refine am_icmp_ge (tgt := 78) (am_dec tmX0_find 24 rfl) (by decide) (fun c9 => ?_) (fun c9 => ?_)
          · rw [if_pos c9] at hf
            cases hf
            exact am_pick [0, 1, 2, 3, 4] rfl key5
          · rw [if_neg c9] at hf
            refine am_aload_n (am_dec tmX0_find 25 rfl) rfl rfl ?_
            refine am_getR (j := 0) hE (am_dec tmX0_find 26 rfl) h_q0 cf0 (by decide) rfl lf_X0_9 (ro_X0_0_0 h_q0) ?_
            refine am_aload_n (am_dec tmX0_find 27 rfl) rfl rfl ?_
            refine am_getI (j := 2) hE (am_dec tmX0_find 28 rfl) h_q0 cf0 (by decide) rfl lf_X0_18 ?_
            refine am_iload (am_dec tmX0_find 29 rfl) rfl ?_
            obtain ⟨D10, g11, hf⟩ := am_bd hf
            refine am_iast2 hE (am_dec tmX0_find 30 rfl) (so_X0_1 h_q0) g11 ?_
            refine am_aload_n (am_dec tmX0_find 31 rfl) rfl rfl ?_
            refine am_dup (am_dec tmX0_find 32 rfl) rfl ?_
            refine am_getI (j := 2) hE (am_dec tmX0_find 33 rfl) h_q0 cf0 (by decide) rfl lf_X0_18 ?_
            refine am_iconst (v := (1 : Int32)) (am_dec tmX0_find 34 rfl) (by decide) ?_
            refine am_iadd (am_dec tmX0_find 35 rfl) ?_
            obtain ⟨D12, g13, hf⟩ := am_bd hf
            refine am_putI2 (j := 2) hE (am_dec tmX0_find 36 rfl) h_q0 cf0 (by decide) rfl lf_X0_18 rfl rfl rfl g13 ?_
            refine am_iload (am_dec tmX0_find 37 rfl) rfl ?_
            refine am_aload_n (am_dec tmX0_find 38 rfl) rfl rfl ?_
            refine am_getI (j := 13) hE (am_dec tmX0_find 39 rfl) sh_17 cf1 (by decide) rfl lf_X0_29 ?_
            refine am_iadd (am_dec tmX0_find 40 rfl) ?_
            refine am_iconst (v := (1 : Int32)) (am_dec tmX0_find 41 rfl) (by decide) ?_
            refine am_iadd (am_dec tmX0_find 42 rfl) ?_
            refine am_istore_n (lv' := [(0, .ref q0), (1, .ref q1), (2, .ref 17), (3, .int ((v4 + (D12.1 17 13)) + (1 : Int32))), (4, .int v4)]) (am_dec tmX0_find 43 rfl) rfl (by decide) rfl ?_
            cases hf
            exact am_pick [0, 1, 2, 3, 4] rfl key5
set_option maxRecDepth 100000 in
set_option maxHeartbeats 4000000 in
theorem c_X0_find {E : am_E} (hE : am_EH E) {r0 : Nat} {p1 : Nat} {D : am_D} {r : am_D} (h_r0 : am_sh am_G0 r0 = some (0, 6)) (h_p1 : am_sh am_G0 p1 = some (7, 2)) (hf : f_X0_find r0 p1 D = some r) : am_C E mX0_find 4 0 0 [.ref r0, .ref p1, .ref 17] am_G0 D (.inl none) am_G0 r := by
  refine am_C_of (by decide +kernel) (Nat.le_of_ble_eq_true rfl) ?_
  change am_S E mX0_find 4 0 0 (.inl none) am_G0 r 0 0 0 [(0, .ref r0), (1, .ref p1), (2, .ref 17)] [] am_G0 D
  unfold f_X0_find at hf
  refine am_aload_n (am_dec tmX0_find 0 rfl) rfl rfl ?_
  refine am_iconst (v := (0 : Int32)) (am_dec tmX0_find 1 rfl) (by decide) ?_
  obtain ⟨D1, g2, hf⟩ := am_bd hf
  refine am_putI2 (j := 2) hE (am_dec tmX0_find 2 rfl) h_r0 cf0 (by decide) rfl lf_X0_18 rfl rfl rfl g2 ?_
  refine am_iconst (v := (0 : Int32)) (am_dec tmX0_find 3 rfl) (by decide) ?_
  refine am_istore_n (lv' := [(0, .ref r0), (1, .ref p1), (2, .ref 17), (3, .int (0 : Int32))]) (am_dec tmX0_find 4 rfl) rfl (by decide) rfl ?_
  refine am_iconst (v := (0 : Int32)) (am_dec tmX0_find 5 rfl) (by decide) ?_
  refine am_istore (lv' := [(0, .ref r0), (1, .ref p1), (2, .ref 17), (3, .int (0 : Int32)), (4, .int (0 : Int32))]) (am_dec tmX0_find 6 rfl) (by decide) rfl ?_
  obtain ⟨e16, g17, hf⟩ := am_bd hf
  refine am_pick [0, 1, 2, 3, 4] rfl (l_X0_find_L10 hE (Nat.le_refl _) h_r0 h_p1 am_fu _ _ _ _ g17 (fun ex he => ?_))
  subst he
  cases hf
  exact am_vret (am_dec tmX0_find 46 rfl) rfl (Nat.zero_le _) (Nat.zero_le _)
def f_X0_at (r0 : Nat) (p1 : Int32) (D : am_D) : Option (Int32) :=
    if p1 < 0 then
    some (-1 : Int32)
    else
    if (D.1 r0 2) ≤ p1 then
    some (-1 : Int32)
    else
    if (600 : Int32) ≤ p1 then
    some (-1 : Int32)
    else
    (am_gI D (r0 + 1) 600 p1).bind fun x4 =>
    some x4
set_option maxRecDepth 100000 in
set_option maxHeartbeats 4000000 in
theorem c_X0_at {E : am_E} (hE : am_EH E) {r0 : Nat} {p1 : Int32} {D : am_D} {r : Int32} (h_r0 : am_sh am_G0 r0 = some (0, 6)) (hf : f_X0_at r0 p1 D = some r) : am_C E mX0_at 1 0 0 [.ref r0, .int p1] am_G0 D (.inl (some (.int r))) am_G0 D := by
  refine am_C_of (by decide +kernel) (Nat.le_of_ble_eq_true rfl) ?_
  change am_S E mX0_at 1 0 0 (.inl (some (.int r))) am_G0 D 0 0 0 [(0, .ref r0), (1, .int p1)] [] am_G0 D
  unfold f_X0_at at hf
  refine am_iload_n (am_dec tmX0_at 0 rfl) rfl rfl ?_
  refine am_if_lt (tgt := 30) (am_dec tmX0_at 1 rfl) (by decide) (fun c1 => ?_) (fun c1 => ?_)
  · rw [if_pos c1] at hf
    refine am_iconst (v := (-1 : Int32)) (am_dec tmX0_at 16 rfl) (by decide) ?_
    cases hf
    exact am_iret (am_dec tmX0_at 17 rfl) rfl (Nat.zero_le _) (Nat.zero_le _)
  · rw [if_neg c1] at hf
    refine am_iload_n (am_dec tmX0_at 2 rfl) rfl rfl ?_
    refine am_aload_n (am_dec tmX0_at 3 rfl) rfl rfl ?_
    refine am_getI (j := 2) hE (am_dec tmX0_at 4 rfl) h_r0 cf0 (by decide) rfl lf_X0_18 ?_
    refine am_icmp_ge (tgt := 30) (am_dec tmX0_at 5 rfl) (by decide) (fun c2 => ?_) (fun c2 => ?_)
    · rw [if_pos c2] at hf
      refine am_iconst (v := (-1 : Int32)) (am_dec tmX0_at 16 rfl) (by decide) ?_
      cases hf
      exact am_iret (am_dec tmX0_at 17 rfl) rfl (Nat.zero_le _) (Nat.zero_le _)
    · rw [if_neg c2] at hf
      refine am_iload_n (am_dec tmX0_at 6 rfl) rfl rfl ?_
      refine am_aload_n (am_dec tmX0_at 7 rfl) rfl rfl ?_
      refine am_getR (j := 0) hE (am_dec tmX0_at 8 rfl) h_r0 cf0 (by decide) rfl lf_X0_9 (ro_X0_0_0 h_r0) ?_
      refine am_alen (t := 0) (v := (600 : Int32)) hE (am_dec tmX0_at 9 rfl) (so_X0_1 h_r0) (by decide) (by decide) ?_
      refine am_icmp_ge (tgt := 30) (am_dec tmX0_at 10 rfl) (by decide) (fun c3 => ?_) (fun c3 => ?_)
      · rw [if_pos c3] at hf
        refine am_iconst (v := (-1 : Int32)) (am_dec tmX0_at 16 rfl) (by decide) ?_
        cases hf
        exact am_iret (am_dec tmX0_at 17 rfl) rfl (Nat.zero_le _) (Nat.zero_le _)
      · rw [if_neg c3] at hf
        refine am_aload_n (am_dec tmX0_at 11 rfl) rfl rfl ?_
        refine am_getR (j := 0) hE (am_dec tmX0_at 12 rfl) h_r0 cf0 (by decide) rfl lf_X0_9 (ro_X0_0_0 h_r0) ?_
        refine am_iload_n (am_dec tmX0_at 13 rfl) rfl rfl ?_
        obtain ⟨x4, g5, hf⟩ := am_bd hf
        refine am_iald2 hE (am_dec tmX0_at 14 rfl) (so_X0_1 h_r0) g5 ?_
        refine am_goto (tgt := 31) (am_dec tmX0_at 15 rfl) (by decide) ?_
        cases hf
        exact am_iret (am_dec tmX0_at 17 rfl) rfl (Nat.zero_le _) (Nat.zero_le _)
