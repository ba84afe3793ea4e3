def f_X3_ringTogether_L4 (q0 : Nat) (q1 : Int32) (D : am_D) : Nat → Int32 → Int32 → Option (Int32)
  | 0, _, _ => none
  | n + 1, v2, v3 =>
    if (D.1 (q0 + 3) 1) ≤ v3 then
    some (v2)
    else
    (f_X9_placeOf (q0 + 5) v3 D).bind fun x3 =>
    (f_X7_silent (q0 + 1) x3 q1 D).bind fun x5 =>
    (if x5 = 0 then
    some (v2)
    else
    (f_X7_loud (q0 + 3) v3 D).bind fun x9 =>
    some ((v2 + x9))).bind fun w10 =>
    f_X3_ringTogether_L4 q0 q1 D n w10 (v3 + (1 : Int32))
def f_X3_ringTogether (r0 : Nat) (p1 : Int32) (D : am_D) : Option (Int32) :=
    (f_X3_ringTogether_L4 r0 p1 D am_fu (0 : Int32) (0 : Int32)).bind fun e12 =>
    some e12
set_option maxRecDepth 100000 in
set_option maxHeartbeats 4000000 in
theorem l_X3_ringTogether_L4 {E : am_E} (hE : am_EH E) {d mc ms : Nat} {o : am_O} {G2 : am_G} {D2 : am_D} (hdp : 3 ≤ d) {q0 : Nat} {q1 : Int32} {D : am_D} (h_q0 : am_sh am_G0 q0 = some (3, 8)) : ∀ (n : Nat) (v2 : Int32) (v3 : Int32) (ex0 : Int32), f_X3_ringTogether_L4 q0 q1 D n v2 v3 = some ex0 → (∀ ex : Int32, ex0 = ex → am_S E mX3_ringTogether d mc ms o G2 D2 0 0 51 [(2, .int ex)] [] am_G0 D) → am_S E mX3_ringTogether d mc ms o G2 D2 0 0 4 [(0, .ref q0), (1, .int q1), (2, .int v2), (3, .int v3)] [] am_G0 D
  | 0, _, _, _, hf, _ => by
    unfold f_X3_ringTogether_L4 at hf
    cases hf
  | n + 1, v2, v3, ex0, hf, hk0 => by
    unfold f_X3_ringTogether_L4 at hf
    refine am_iload_n (am_dec tmX3_ringTogether 4 rfl) rfl rfl ?_
    refine am_aload_n (am_dec tmX3_ringTogether 5 rfl) rfl rfl ?_
    refine am_getR (j := 1) hE (am_dec tmX3_ringTogether 6 rfl) h_q0 cf3 (by decide) rfl lf_X3_20 (ro_X3_0_1 h_q0) ?_
    refine am_getI (j := 1) hE (am_dec tmX3_ringTogether 7 rfl) (so_X3_3 h_q0) cf7 (by decide) rfl lf_X3_80 ?_
    refine am_icmp_ge (tgt := 51) (am_dec tmX3_ringTogether 8 rfl) (by decide) (fun c1 => ?_) (fun c1 => ?_)
    · rw [if_pos c1] at hf
      have hf := Option.some.inj hf
      subst hf
      exact am_pick [2] rfl (hk0 _ rfl)
    · rw [if_neg c1] at hf
      refine am_aload_n (am_dec tmX3_ringTogether 9 rfl) rfl rfl ?_
      refine am_getR (j := 0) hE (am_dec tmX3_ringTogether 10 rfl) h_q0 cf3 (by decide) rfl lf_X3_14 (ro_X3_0_0 h_q0) ?_
      refine am_aload_n (am_dec tmX3_ringTogether 11 rfl) rfl rfl ?_
      refine am_getR (j := 2) hE (am_dec tmX3_ringTogether 12 rfl) h_q0 cf3 (by decide) rfl lf_X3_26 (ro_X3_0_2 h_q0) ?_
      refine am_iload_n (am_dec tmX3_ringTogether 13 rfl) rfl rfl ?_
      obtain ⟨x3, g2, hf⟩ := am_bd hf
      refine am_callV1 (As := [.int v3]) (st := [.ref (q0 + 1)]) hE (am_dec tmX3_ringTogether 14 rfl) ok_X9_placeOf rfl lm_X3_90 in_X9_placeOf se_X9_placeOf (so_X3_5 h_q0) cf9 (c_X9_placeOf hE (so_X3_5 h_q0) g2) rfl (Nat.lt_of_lt_of_le (by decide) hdp) (Nat.le_of_ble_eq_true rfl) (Nat.zero_le _) (Nat.zero_le _) rfl ?_
      refine am_iload_n (am_dec tmX3_ringTogether 15 rfl) rfl rfl ?_
      obtain ⟨x5, g4, hf⟩ := am_bd hf
      refine am_callV1 (As := [.int x3, .int q1]) (st := []) hE (am_dec tmX3_ringTogether 16 rfl) ok_X7_silent rfl lm_X3_151 in_X7_silent se_X7_silent (so_X3_1 h_q0) cf7 (c_X7_silent hE (so_X3_1 h_q0) g4) rfl (Nat.lt_of_lt_of_le (by decide) hdp) (Nat.le_of_ble_eq_true rfl) (Nat.zero_le _) (Nat.zero_le _) rfl ?_
      obtain ⟨w10, g11, hf⟩ := am_bd hf
      have key7 : am_S E mX3_ringTogether d mc ms o G2 D2 0 0 45 [(0, .ref q0), (1, .int q1), (2, .int w10), (3, .int v3)] [] am_G0 D := by
        refine am_iinc (v := (1 : Int32)) (lv' := [(0, .ref q0), (1, .int q1), (2, .int w10), (3, .int (v3 + (1 : Int32)))]) (am_dec tmX3_ringTogether 25 rfl) rfl (by decide) (by decide) rfl ?_
        refine am_goto (tgt := 4) (am_dec tmX3_ringTogether 26 rfl) (by decide) ?_
        exact am_pick [0, 1, 2, 3] rfl (l_X3_ringTogether_L4 hE hdp h_q0 n w10 (v3 + (1 : Int32)) ex0 hf hk0)
      replace hf := g11
      refine am_if_eq (tgt := 45) (am_dec tmX3_ringTogether 17 rfl) (by decide) (fun c6 => ?_) (fun c6 => ?_)
      · rw [if_pos c6] at hf
        have hf := Option.some.inj hf
        subst hf
        exact am_pick [0, 1, 2, 3] rfl key7
      · rw [if_neg c6] at hf
        refine am_iload_n (am_dec tmX3_ringTogether 18 rfl) rfl rfl ?_
        refine am_aload_n (am_dec tmX3_ringTogether 19 rfl) rfl rfl ?_
        refine am_getR (j := 1) hE (am_dec tmX3_ringTogether 20 rfl) h_q0 cf3 (by decide) rfl lf_X3_20 (ro_X3_0_1 h_q0) ?_
        refine am_iload_n (am_dec tmX3_ringTogether 21 rfl) rfl rfl ?_
        obtain ⟨x9, g8, hf⟩ := am_bd hf
        refine am_callV1 (As := [.int v3]) (st := [.int v2]) hE (am_dec tmX3_ringTogether 22 rfl) ok_X7_loud rfl lm_X3_141 in_X7_loud se_X7_loud (so_X3_3 h_q0) cf7 (c_X7_loud hE (so_X3_3 h_q0) g8) rfl (Nat.lt_of_lt_of_le (by decide) hdp) (Nat.le_of_ble_eq_true rfl) (Nat.zero_le _) (Nat.zero_le _) rfl ?_
        refine am_iadd (am_dec tmX3_ringTogether 23 rfl) ?_
        refine am_istore_n (lv' := [(0, .ref q0), (1, .int q1), (2, .int (v2 + x9)), (3, .int v3)]) (am_dec tmX3_ringTogether 24 rfl) rfl (by decide) rfl ?_
        have hf := Option.some.inj hf
        subst hf
        exact am_pick [0, 1, 2, 3] rfl key7
set_option maxRecDepth 100000 in
set_option maxHeartbeats 4000000 in
theorem c_X3_ringTogether {E : am_E} (hE : am_EH E) {r0 : Nat} {p1 : Int32} {D : am_D} {r : Int32} (h_r0 : am_sh am_G0 r0 = some (3, 8)) (hf : f_X3_ringTogether r0 p1 D = some r) : am_C E mX3_ringTogether 3 0 0 [.ref r0, .int p1] am_G0 D (.inl (some (.int r))) am_G0 D := by
  refine am_C_of (by decide +kernel) (Nat.le_of_ble_eq_true rfl) ?_
  change am_S E mX3_ringTogether 3 0 0 (.inl (some (.int r))) am_G0 D 0 0 0 [(0, .ref r0), (1, .int p1)] [] am_G0 D
  unfold f_X3_ringTogether at hf
  refine am_iconst (v := (0 : Int32)) (am_dec tmX3_ringTogether 0 rfl) (by decide) ?_
  refine am_istore_n (lv' := [(0, .ref r0), (1, .int p1), (2, .int (0 : Int32))]) (am_dec tmX3_ringTogether 1 rfl) rfl (by decide) rfl ?_
  refine am_iconst (v := (0 : Int32)) (am_dec tmX3_ringTogether 2 rfl) (by decide) ?_
  refine am_istore_n (lv' := [(0, .ref r0), (1, .int p1), (2, .int (0 : Int32)), (3, .int (0 : Int32))]) (am_dec tmX3_ringTogether 3 rfl) rfl (by decide) rfl ?_
  obtain ⟨e12, g13, hf⟩ := am_bd hf
  refine am_pick [0, 1, 2, 3] rfl (l_X3_ringTogether_L4 hE (Nat.le_refl _) h_r0 am_fu _ _ _ g13 (fun ex he => ?_))
  subst he
  refine am_iload_n (am_dec tmX3_ringTogether 27 rfl) rfl rfl ?_
  have hf := Option.some.inj hf
  subst hf
  exact am_iret (am_dec tmX3_ringTogether 28 rfl) rfl (Nat.zero_le _) (Nat.zero_le _)
def f_X4_copyCounts_L2 (q0 : Nat) (q1 : Nat) : Nat → Int32 → am_D → Option (am_D)
  | 0, _, _ => none
  | n + 1, v2, D =>
    if (Int32.ofNat (am_ln q0)) ≤ v2 then
    some (D)
    else
    if (Int32.ofNat (am_ln q1)) ≤ v2 then
    some (D)
    else
    (am_gI D q0 (am_ln q0) v2).bind fun x3 =>
    (am_pI D q1 (am_ln q1) v2 x3).bind fun D5 =>
    f_X4_copyCounts_L2 q0 q1 n (v2 + (1 : Int32)) D5
def f_X4_copyCounts (p0 : Nat) (p1 : Nat) (D : am_D) : Option (am_D) :=
    (f_X4_copyCounts_L2 p0 p1 am_fu (0 : Int32) D).bind fun e7 =>
    some e7
set_option maxRecDepth 100000 in
set_option maxHeartbeats 4000000 in
theorem l_X4_copyCounts_L2 {E : am_E} (hE : am_EH E) {d mc ms : Nat} {o : am_O} {G2 : am_G} {D2 : am_D} (hdp : 1 ≤ d) {q0 : Nat} {q1 : Nat} (h_q0 : am_sh am_G0 q0 = some (20, am_ln q0)) (h_q1 : am_sh am_G0 q1 = some (20, am_ln q1)) : ∀ (n : Nat) (v2 : Int32) (D : am_D) (ex0 : am_D), f_X4_copyCounts_L2 q0 q1 n v2 D = some ex0 → (∀ ex : am_D, ex0 = ex → am_S E mX4_copyCounts d mc ms o G2 D2 0 0 26 [] [] am_G0 ex) → am_S E mX4_copyCounts d mc ms o G2 D2 0 0 2 [(0, .ref q0), (1, .ref q1), (2, .int v2)] [] am_G0 D
  | 0, _, _, _, hf, _ => by
    unfold f_X4_copyCounts_L2 at hf
    cases hf
  | n + 1, v2, D, ex0, hf, hk0 => by
    unfold f_X4_copyCounts_L2 at hf
    refine am_iload_n (am_dec tmX4_copyCounts 2 rfl) rfl rfl ?_
    refine am_aload_n (am_dec tmX4_copyCounts 3 rfl) rfl rfl ?_
    refine am_alen (t := 0) (v := (Int32.ofNat (am_ln q0))) hE (am_dec tmX4_copyCounts 4 rfl) h_q0 (by decide) rfl ?_
    refine am_icmp_ge (tgt := 26) (am_dec tmX4_copyCounts 5 rfl) (by decide) (fun c1 => ?_) (fun c1 => ?_)
    · rw [if_pos c1] at hf
      have hf := Option.some.inj hf
      subst hf
      exact am_pick [] rfl (hk0 _ rfl)
    · rw [if_neg c1] at hf
      refine am_iload_n (am_dec tmX4_copyCounts 6 rfl) rfl rfl ?_
      refine am_aload_n (am_dec tmX4_copyCounts 7 rfl) rfl rfl ?_
      refine am_alen (t := 0) (v := (Int32.ofNat (am_ln q1))) hE (am_dec tmX4_copyCounts 8 rfl) h_q1 (by decide) rfl ?_
      refine am_icmp_ge (tgt := 26) (am_dec tmX4_copyCounts 9 rfl) (by decide) (fun c2 => ?_) (fun c2 => ?_)
      · rw [if_pos c2] at hf
        have hf := Option.some.inj hf
        subst hf
        exact am_pick [] rfl (hk0 _ rfl)
      · rw [if_neg c2] at hf
        refine am_aload_n (am_dec tmX4_copyCounts 10 rfl) rfl rfl ?_
        refine am_iload_n (am_dec tmX4_copyCounts 11 rfl) rfl rfl ?_
        refine am_aload_n (am_dec tmX4_copyCounts 12 rfl) rfl rfl ?_
        refine am_iload_n (am_dec tmX4_copyCounts 13 rfl) rfl rfl ?_
        obtain ⟨x3, g4, hf⟩ := am_bd hf
        refine am_iald2 hE (am_dec tmX4_copyCounts 14 rfl) h_q0 g4 ?_
        obtain ⟨D5, g6, hf⟩ := am_bd hf
        refine am_iast2 hE (am_dec tmX4_copyCounts 15 rfl) h_q1 g6 ?_
        refine am_iinc (v := (1 : Int32)) (lv' := [(0, .ref q0), (1, .ref q1), (2, .int (v2 + (1 : Int32)))]) (am_dec tmX4_copyCounts 16 rfl) rfl (by decide) (by decide) rfl ?_
        refine am_goto (tgt := 2) (am_dec tmX4_copyCounts 17 rfl) (by decide) ?_
        exact am_pick [0, 1, 2] rfl (l_X4_copyCounts_L2 hE hdp h_q0 h_q1 n (v2 + (1 : Int32)) D5 ex0 hf hk0)
set_option maxRecDepth 100000 in
set_option maxHeartbeats 4000000 in
theorem c_X4_copyCounts {E : am_E} (hE : am_EH E) {p0 : Nat} {p1 : Nat} {D : am_D} {r : am_D} (h_p0 : am_sh am_G0 p0 = some (20, am_ln p0)) (h_p1 : am_sh am_G0 p1 = some (20, am_ln p1)) (hf : f_X4_copyCounts p0 p1 D = some r) : am_C E mX4_copyCounts 1 0 0 [.ref p0, .ref p1] am_G0 D (.inl none) am_G0 r := by
  refine am_C_of (by decide +kernel) (Nat.le_of_ble_eq_true rfl) ?_
  change am_S E mX4_copyCounts 1 0 0 (.inl none) am_G0 r 0 0 0 [(0, .ref p0), (1, .ref p1)] [] am_G0 D
  unfold f_X4_copyCounts at hf
  refine am_iconst (v := (0 : Int32)) (am_dec tmX4_copyCounts 0 rfl) (by decide) ?_
  refine am_istore_n (lv' := [(0, .ref p0), (1, .ref p1), (2, .int (0 : Int32))]) (am_dec tmX4_copyCounts 1 rfl) rfl (by decide) rfl ?_
  obtain ⟨e7, g8, hf⟩ := am_bd hf
  refine am_pick [0, 1, 2] rfl (l_X4_copyCounts_L2 hE (Nat.le_refl _) h_p0 h_p1 am_fu _ _ _ g8 (fun ex he => ?_))
  subst he
  have hf := Option.some.inj hf
  subst hf
  exact am_vret (am_dec tmX4_copyCounts 18 rfl) rfl (Nat.zero_le _) (Nat.zero_le _)
def f_X5_set (r0 : Nat) (p1 : Int32) (p2 : Int32) (p3 : Int32) (D : am_D) : Option (am_D) :=
    (some (am_wI D r0 0 p1)).bind fun D1 =>
    (some (am_wI D1 r0 1 p2)).bind fun D3 =>
    (some (am_wI D3 r0 2 p3)).bind fun D5 =>
    some D5
set_option maxRecDepth 100000 in
set_option maxHeartbeats 4000000 in
theorem c_X5_set {E : am_E} (hE : am_EH E) {r0 : Nat} {p1 : Int32} {p2 : Int32} {p3 : Int32} {D : am_D} {r : am_D} (h_r0 : am_sh am_G0 r0 = some (5, 3)) (hf : f_X5_set r0 p1 p2 p3 D = some r) : am_C E mX5_set 1 0 0 [.ref r0, .int p1, .int p2, .int p3] am_G0 D (.inl none) am_G0 r := by
  refine am_C_of (by decide +kernel) (Nat.le_of_ble_eq_true rfl) ?_
  change am_S E mX5_set 1 0 0 (.inl none) am_G0 r 0 0 0 [(0, .ref r0), (1, .int p1), (2, .int p2), (3, .int p3)] [] am_G0 D
  unfold f_X5_set at hf
  refine am_aload_n (am_dec tmX5_set 0 rfl) rfl rfl ?_
  refine am_iload_n (am_dec tmX5_set 1 rfl) rfl rfl ?_
  obtain ⟨D1, g2, hf⟩ := am_bd hf
  refine am_putI2 (j := 0) hE (am_dec tmX5_set 2 rfl) h_r0 cf5 (by decide) rfl lf_X5_7 rfl rfl rfl g2 ?_
  refine am_aload_n (am_dec tmX5_set 3 rfl) rfl rfl ?_
  refine am_iload_n (am_dec tmX5_set 4 rfl) rfl rfl ?_
  obtain ⟨D3, g4, hf⟩ := am_bd hf
  refine am_putI2 (j := 1) hE (am_dec tmX5_set 5 rfl) h_r0 cf5 (by decide) rfl lf_X5_13 rfl rfl rfl g4 ?_
  refine am_aload_n (am_dec tmX5_set 6 rfl) rfl rfl ?_
  refine am_iload_n (am_dec tmX5_set 7 rfl) rfl rfl ?_
  obtain ⟨D5, g6, hf⟩ := am_bd hf
  refine am_putI2 (j := 2) hE (am_dec tmX5_set 8 rfl) h_r0 cf5 (by decide) rfl lf_X5_16 rfl rfl rfl g6 ?_
  have hf := Option.some.inj hf
  subst hf
  exact am_vret (am_dec tmX5_set 9 rfl) rfl (Nat.zero_le _) (Nat.zero_le _)
def f_X5_copyFrom (r0 : Nat) (p1 : Nat) (D : am_D) : Option (am_D) :=
    (f_X5_set r0 (D.1 p1 0) (D.1 p1 1) (D.1 p1 2) D).bind fun x2 =>
    some x2
set_option maxRecDepth 100000 in
set_option maxHeartbeats 4000000 in
theorem c_X5_copyFrom {E : am_E} (hE : am_EH E) {r0 : Nat} {p1 : Nat} {D : am_D} {r : am_D} (h_r0 : am_sh am_G0 r0 = some (5, 3)) (h_p1 : am_sh am_G0 p1 = some (5, 3)) (hf : f_X5_copyFrom r0 p1 D = some r) : am_C E mX5_copyFrom 2 0 0 [.ref r0, .ref p1] am_G0 D (.inl none) am_G0 r := by
  refine am_C_of (by decide +kernel) (Nat.le_of_ble_eq_true rfl) ?_
  change am_S E mX5_copyFrom 2 0 0 (.inl none) am_G0 r 0 0 0 [(0, .ref r0), (1, .ref p1)] [] am_G0 D
  unfold f_X5_copyFrom at hf
  refine am_aload_n (am_dec tmX5_copyFrom 0 rfl) rfl rfl ?_
  refine am_aload_n (am_dec tmX5_copyFrom 1 rfl) rfl rfl ?_
  refine am_getI (j := 0) hE (am_dec tmX5_copyFrom 2 rfl) h_p1 cf5 (by decide) rfl lf_X5_7 ?_
  refine am_aload_n (am_dec tmX5_copyFrom 3 rfl) rfl rfl ?_
  refine am_getI (j := 1) hE (am_dec tmX5_copyFrom 4 rfl) h_p1 cf5 (by decide) rfl lf_X5_13 ?_
  refine am_aload_n (am_dec tmX5_copyFrom 5 rfl) rfl rfl ?_
  refine am_getI (j := 2) hE (am_dec tmX5_copyFrom 6 rfl) h_p1 cf5 (by decide) rfl lf_X5_16 ?_
  obtain ⟨x2, g1, hf⟩ := am_bd hf
  refine am_callV0 (As := [.int (D.1 p1 0), .int (D.1 p1 1), .int (D.1 p1 2)]) (st := []) hE (am_dec tmX5_copyFrom 7 rfl) ok_X5_set rfl lm_X5_25 in_X5_set se_X5_set h_r0 cf5 (c_X5_set hE h_r0 g1) rfl (by decide) (Nat.le_of_ble_eq_true rfl) (Nat.zero_le _) (Nat.zero_le _) rfl ?_
  have hf := Option.some.inj hf
  subst hf
  exact am_vret (am_dec tmX5_copyFrom 8 rfl) rfl (Nat.zero_le _) (Nat.zero_le _)
def f_X4_take (r0 : Nat) (D : am_D) : Option (am_D) :=
    (some (am_wI D r0 2 (D.1 17 7))).bind fun D1 =>
    (some (am_wI D1 r0 3 (D1.1 17 8))).bind fun D3 =>
    (some (am_wI D3 r0 4 (D3.1 17 9))).bind fun D5 =>
    (some (am_wI D5 r0 5 (D5.1 24 5))).bind fun D7 =>
    (some (am_wI D7 r0 6 (D7.1 17 10))).bind fun D9 =>
    (some (am_wI D9 r0 7 (D9.1 17 11))).bind fun D11 =>
    (some (am_wI D11 r0 8 (D11.1 17 12))).bind fun D13 =>
    (some (am_wI D13 r0 9 (D13.1 17 13))).bind fun D15 =>
    (f_X5_copyFrom (r0 + 1) 23 D15).bind fun x18 =>
    (f_X4_copyCounts 22 (r0 + 2) x18).bind fun x20 =>
    some x20
set_option maxRecDepth 100000 in
set_option maxHeartbeats 4000000 in
theorem c_X4_take {E : am_E} (hE : am_EH E) {r0 : Nat} {D : am_D} {r : am_D} (h_r0 : am_sh am_G0 r0 = some (4, 10)) (hf : f_X4_take r0 D = some r) : am_C E mX4_take 3 0 0 [.ref r0, .ref 17] am_G0 D (.inl none) am_G0 r := by
  refine am_C_of (by decide +kernel) (Nat.le_of_ble_eq_true rfl) ?_
  change am_S E mX4_take 3 0 0 (.inl none) am_G0 r 0 0 0 [(0, .ref r0), (1, .ref 17)] [] am_G0 D
  unfold f_X4_take at hf
  refine am_aload_n (am_dec tmX4_take 0 rfl) rfl rfl ?_
  refine am_aload_n (am_dec tmX4_take 1 rfl) rfl rfl ?_
  refine am_getI (j := 7) hE (am_dec tmX4_take 2 rfl) sh_17 cf1 (by decide) rfl lf_X4_20 ?_
  obtain ⟨D1, g2, hf⟩ := am_bd hf
  refine am_putI2 (j := 2) hE (am_dec tmX4_take 3 rfl) h_r0 cf4 (by decide) rfl lf_X4_26 rfl rfl rfl g2 ?_
  refine am_aload_n (am_dec tmX4_take 4 rfl) rfl rfl ?_
  refine am_aload_n (am_dec tmX4_take 5 rfl) rfl rfl ?_
  refine am_getI (j := 8) hE (am_dec tmX4_take 6 rfl) sh_17 cf1 (by decide) rfl lf_X4_27 ?_
  obtain ⟨D3, g4, hf⟩ := am_bd hf
  refine am_putI2 (j := 3) hE (am_dec tmX4_take 7 rfl) h_r0 cf4 (by decide) rfl lf_X4_30 rfl rfl rfl g4 ?_
  refine am_aload_n (am_dec tmX4_take 8 rfl) rfl rfl ?_
  refine am_aload_n (am_dec tmX4_take 9 rfl) rfl rfl ?_
  refine am_getI (j := 9) hE (am_dec tmX4_take 10 rfl) sh_17 cf1 (by decide) rfl lf_X4_31 ?_
  obtain ⟨D5, g6, hf⟩ := am_bd hf
  refine am_putI2 (j := 4) hE (am_dec tmX4_take 11 rfl) h_r0 cf4 (by decide) rfl lf_X4_34 rfl rfl rfl g6 ?_
  refine am_aload_n (am_dec tmX4_take 12 rfl) rfl rfl ?_
  refine am_aload_n (am_dec tmX4_take 13 rfl) rfl rfl ?_
  refine am_getR (j := 6) hE (am_dec tmX4_take 14 rfl) sh_17 cf1 (by decide) rfl lf_X4_35 rf_17_6 ?_
  refine am_getI (j := 5) hE (am_dec tmX4_take 15 rfl) sh_24 cf6 (by decide) rfl lf_X4_39 ?_
  obtain ⟨D7, g8, hf⟩ := am_bd hf
  refine am_putI2 (j := 5) hE (am_dec tmX4_take 16 rfl) h_r0 cf4 (by decide) rfl lf_X4_44 rfl rfl rfl g8 ?_
  refine am_aload_n (am_dec tmX4_take 17 rfl) rfl rfl ?_
  refine am_aload_n (am_dec tmX4_take 18 rfl) rfl rfl ?_
  refine am_getI (j := 10) hE (am_dec tmX4_take 19 rfl) sh_17 cf1 (by decide) rfl lf_X4_47 ?_
  obtain ⟨D9, g10, hf⟩ := am_bd hf
  refine am_putI2 (j := 6) hE (am_dec tmX4_take 20 rfl) h_r0 cf4 (by decide) rfl lf_X4_50 rfl rfl rfl g10 ?_
  refine am_aload_n (am_dec tmX4_take 21 rfl) rfl rfl ?_
  refine am_aload_n (am_dec tmX4_take 22 rfl) rfl rfl ?_
  refine am_getI (j := 11) hE (am_dec tmX4_take 23 rfl) sh_17 cf1 (by decide) rfl lf_X4_51 ?_
  obtain ⟨D11, g12, hf⟩ := am_bd hf
  refine am_putI2 (j := 7) hE (am_dec tmX4_take 24 rfl) h_r0 cf4 (by decide) rfl lf_X4_54 rfl rfl rfl g12 ?_
  refine am_aload_n (am_dec tmX4_take 25 rfl) rfl rfl ?_
  refine am_aload_n (am_dec tmX4_take 26 rfl) rfl rfl ?_
  refine am_getI (j := 12) hE (am_dec tmX4_take 27 rfl) sh_17 cf1 (by decide) rfl lf_X4_55 ?_
  obtain ⟨D13, g14, hf⟩ := am_bd hf
  refine am_putI2 (j := 8) hE (am_dec tmX4_take 28 rfl) h_r0 cf4 (by decide) rfl lf_X4_58 rfl rfl rfl g14 ?_
  refine am_aload_n (am_dec tmX4_take 29 rfl) rfl rfl ?_
  refine am_aload_n (am_dec tmX4_take 30 rfl) rfl rfl ?_
  refine am_getI (j := 13) hE (am_dec tmX4_take 31 rfl) sh_17 cf1 (by decide) rfl lf_X4_59 ?_
  obtain ⟨D15, g16, hf⟩ := am_bd hf
  refine am_putI2 (j := 9) hE (am_dec tmX4_take 32 rfl) h_r0 cf4 (by decide) rfl lf_X4_62 rfl rfl rfl g16 ?_
  refine am_aload_n (am_dec tmX4_take 33 rfl) rfl rfl ?_
  refine am_getR (j := 0) hE (am_dec tmX4_take 34 rfl) h_r0 cf4 (by decide) rfl lf_X4_10 (ro_X4_0_0 h_r0) ?_
  refine am_aload_n (am_dec tmX4_take 35 rfl) rfl rfl ?_
  refine am_getR (j := 5) hE (am_dec tmX4_take 36 rfl) sh_17 cf1 (by decide) rfl lf_X4_63 rf_17_5 ?_
  obtain ⟨x18, g17, hf⟩ := am_bd hf
  refine am_callV0 (As := [.ref 23]) (st := []) hE (am_dec tmX4_take 37 rfl) ok_X5_copyFrom rfl lm_X4_64 in_X5_copyFrom se_X5_copyFrom (so_X4_1 h_r0) cf5 (c_X5_copyFrom hE (so_X4_1 h_r0) sh_23 g17) rfl (by decide) (Nat.le_of_ble_eq_true rfl) (Nat.zero_le _) (Nat.zero_le _) rfl ?_
  refine am_aload_n (am_dec tmX4_take 38 rfl) rfl rfl ?_
  refine am_getR (j := 4) hE (am_dec tmX4_take 39 rfl) sh_17 cf1 (by decide) rfl lf_X4_68 rf_17_4 ?_
  refine am_aload_n (am_dec tmX4_take 40 rfl) rfl rfl ?_
  refine am_getR (j := 1) hE (am_dec tmX4_take 41 rfl) h_r0 cf4 (by decide) rfl lf_X4_16 (ro_X4_0_1 h_r0) ?_
  obtain ⟨x20, g19, hf⟩ := am_bd hf
  refine am_callS0 (As := [.ref 22, .ref (r0 + 2)]) (st := []) (am_dec tmX4_take 42 rfl) ok_X4_copyCounts rfl lm_X4_69 st_X4_copyCounts (c_X4_copyCounts hE (am_shl sh_22) (am_shl (so_X4_2 h_r0)) g19) rfl (by decide) (Nat.le_of_ble_eq_true rfl) (Nat.zero_le _) (Nat.zero_le _) rfl ?_
  have hf := Option.some.inj hf
  subst hf
  exact am_vret (am_dec tmX4_take 43 rfl) rfl (Nat.zero_le _) (Nat.zero_le _)
def f_X4_giveBack (r0 : Nat) (D : am_D) : Option (am_D) :=
    (some (am_wI D 17 7 (D.1 r0 2))).bind fun D1 =>
    (some (am_wI D1 17 8 (D1.1 r0 3))).bind fun D3 =>
    (some (am_wI D3 17 9 (D3.1 r0 4))).bind fun D5 =>
    (some (am_wI D5 24 5 (D5.1 r0 5))).bind fun D7 =>
    (some (am_wI D7 17 10 (D7.1 r0 6))).bind fun D9 =>
    (some (am_wI D9 17 11 (D9.1 r0 7))).bind fun D11 =>
    (some (am_wI D11 17 12 (D11.1 r0 8))).bind fun D13 =>
    (some (am_wI D13 17 13 (D13.1 r0 9))).bind fun D15 =>
    (f_X5_copyFrom 23 (r0 + 1) D15).bind fun x18 =>
    (f_X4_copyCounts (r0 + 2) 22 x18).bind fun x20 =>
    some x20
set_option maxRecDepth 100000 in
set_option maxHeartbeats 4000000 in
theorem c_X4_giveBack {E : am_E} (hE : am_EH E) {r0 : Nat} {D : am_D} {r : am_D} (h_r0 : am_sh am_G0 r0 = some (4, 10)) (hf : f_X4_giveBack r0 D = some r) : am_C E mX4_giveBack 3 0 0 [.ref r0, .ref 17] am_G0 D (.inl none) am_G0 r := by
  refine am_C_of (by decide +kernel) (Nat.le_of_ble_eq_true rfl) ?_
  change am_S E mX4_giveBack 3 0 0 (.inl none) am_G0 r 0 0 0 [(0, .ref r0), (1, .ref 17)] [] am_G0 D
  unfold f_X4_giveBack at hf
  refine am_aload_n (am_dec tmX4_giveBack 0 rfl) rfl rfl ?_
  refine am_aload_n (am_dec tmX4_giveBack 1 rfl) rfl rfl ?_
  refine am_getI (j := 2) hE (am_dec tmX4_giveBack 2 rfl) h_r0 cf4 (by decide) rfl lf_X4_26 ?_
  obtain ⟨D1, g2, hf⟩ := am_bd hf
  refine am_putI2 (j := 7) hE (am_dec tmX4_giveBack 3 rfl) sh_17 cf1 (by decide) rfl lf_X4_20 rfl rfl rfl g2 ?_
  refine am_aload_n (am_dec tmX4_giveBack 4 rfl) rfl rfl ?_
  refine am_aload_n (am_dec tmX4_giveBack 5 rfl) rfl rfl ?_
  refine am_getI (j := 3) hE (am_dec tmX4_giveBack 6 rfl) h_r0 cf4 (by decide) rfl lf_X4_30 ?_
  obtain ⟨D3, g4, hf⟩ := am_bd hf
  refine am_putI2 (j := 8) hE (am_dec tmX4_giveBack 7 rfl) sh_17 cf1 (by decide) rfl lf_X4_27 rfl rfl rfl g4 ?_
  refine am_aload_n (am_dec tmX4_giveBack 8 rfl) rfl rfl ?_
  refine am_aload_n (am_dec tmX4_giveBack 9 rfl) rfl rfl ?_
  refine am_getI (j := 4) hE (am_dec tmX4_giveBack 10 rfl) h_r0 cf4 (by decide) rfl lf_X4_34 ?_
  obtain ⟨D5, g6, hf⟩ := am_bd hf
  refine am_putI2 (j := 9) hE (am_dec tmX4_giveBack 11 rfl) sh_17 cf1 (by decide) rfl lf_X4_31 rfl rfl rfl g6 ?_
  refine am_aload_n (am_dec tmX4_giveBack 12 rfl) rfl rfl ?_
  refine am_getR (j := 6) hE (am_dec tmX4_giveBack 13 rfl) sh_17 cf1 (by decide) rfl lf_X4_35 rf_17_6 ?_
  refine am_aload_n (am_dec tmX4_giveBack 14 rfl) rfl rfl ?_
  refine am_getI (j := 5) hE (am_dec tmX4_giveBack 15 rfl) h_r0 cf4 (by decide) rfl lf_X4_44 ?_
  obtain ⟨D7, g8, hf⟩ := am_bd hf
  refine am_putI2 (j := 5) hE (am_dec tmX4_giveBack 16 rfl) sh_24 cf6 (by decide) rfl lf_X4_39 rfl rfl rfl g8 ?_
  refine am_aload_n (am_dec tmX4_giveBack 17 rfl) rfl rfl ?_
  refine am_aload_n (am_dec tmX4_giveBack 18 rfl) rfl rfl ?_
  refine am_getI (j := 6) hE (am_dec tmX4_giveBack 19 rfl) h_r0 cf4 (by decide) rfl lf_X4_50 ?_
  obtain ⟨D9, g10, hf⟩ := am_bd hf
  refine am_putI2 (j := 10) hE (am_dec tmX4_giveBack 20 rfl) sh_17 cf1 (by decide) rfl lf_X4_47 rfl rfl rfl g10 ?_
  refine am_aload_n (am_dec tmX4_giveBack 21 rfl) rfl rfl ?_
  refine am_aload_n (am_dec tmX4_giveBack 22 rfl) rfl rfl ?_
  refine am_getI (j := 7) hE (am_dec tmX4_giveBack 23 rfl) h_r0 cf4 (by decide) rfl lf_X4_54 ?_
  obtain ⟨D11, g12, hf⟩ := am_bd hf
  refine am_putI2 (j := 11) hE (am_dec tmX4_giveBack 24 rfl) sh_17 cf1 (by decide) rfl lf_X4_51 rfl rfl rfl g12 ?_
  refine am_aload_n (am_dec tmX4_giveBack 25 rfl) rfl rfl ?_
  refine am_aload_n (am_dec tmX4_giveBack 26 rfl) rfl rfl ?_
  refine am_getI (j := 8) hE (am_dec tmX4_giveBack 27 rfl) h_r0 cf4 (by decide) rfl lf_X4_58 ?_
  obtain ⟨D13, g14, hf⟩ := am_bd hf
  refine am_putI2 (j := 12) hE (am_dec tmX4_giveBack 28 rfl) sh_17 cf1 (by decide) rfl lf_X4_55 rfl rfl rfl g14 ?_
  refine am_aload_n (am_dec tmX4_giveBack 29 rfl) rfl rfl ?_
  refine am_aload_n (am_dec tmX4_giveBack 30 rfl) rfl rfl ?_
  refine am_getI (j := 9) hE (am_dec tmX4_giveBack 31 rfl) h_r0 cf4 (by decide) rfl lf_X4_62 ?_
  obtain ⟨D15, g16, hf⟩ := am_bd hf
  refine am_putI2 (j := 13) hE (am_dec tmX4_giveBack 32 rfl) sh_17 cf1 (by decide) rfl lf_X4_59 rfl rfl rfl g16 ?_
  refine am_aload_n (am_dec tmX4_giveBack 33 rfl) rfl rfl ?_
  refine am_getR (j := 5) hE (am_dec tmX4_giveBack 34 rfl) sh_17 cf1 (by decide) rfl lf_X4_63 rf_17_5 ?_
  refine am_aload_n (am_dec tmX4_giveBack 35 rfl) rfl rfl ?_
  refine am_getR (j := 0) hE (am_dec tmX4_giveBack 36 rfl) h_r0 cf4 (by decide) rfl lf_X4_10 (ro_X4_0_0 h_r0) ?_
  obtain ⟨x18, g17, hf⟩ := am_bd hf
  refine am_callV0 (As := [.ref (r0 + 1)]) (st := []) hE (am_dec tmX4_giveBack 37 rfl) ok_X5_copyFrom rfl lm_X4_64 in_X5_copyFrom se_X5_copyFrom sh_23 cf5 (c_X5_copyFrom hE sh_23 (so_X4_1 h_r0) g17) rfl (by decide) (Nat.le_of_ble_eq_true rfl) (Nat.zero_le _) (Nat.zero_le _) rfl ?_
  refine am_aload_n (am_dec tmX4_giveBack 38 rfl) rfl rfl ?_
  refine am_getR (j := 1) hE (am_dec tmX4_giveBack 39 rfl) h_r0 cf4 (by decide) rfl lf_X4_16 (ro_X4_0_1 h_r0) ?_
  refine am_aload_n (am_dec tmX4_giveBack 40 rfl) rfl rfl ?_
  refine am_getR (j := 4) hE (am_dec tmX4_giveBack 41 rfl) sh_17 cf1 (by decide) rfl lf_X4_68 rf_17_4 ?_
  obtain ⟨x20, g19, hf⟩ := am_bd hf
  refine am_callS0 (As := [.ref (r0 + 2), .ref 22]) (st := []) (am_dec tmX4_giveBack 42 rfl) ok_X4_copyCounts rfl lm_X4_69 st_X4_copyCounts (c_X4_copyCounts hE (am_shl (so_X4_2 h_r0)) (am_shl sh_22) g19) rfl (by decide) (Nat.le_of_ble_eq_true rfl) (Nat.zero_le _) (Nat.zero_le _) rfl ?_
  have hf := Option.some.inj hf
  subst hf
  exact am_vret (am_dec tmX4_giveBack 43 rfl) rfl (Nat.zero_le _) (Nat.zero_le _)
def f_X5_allowed (p0 : Int32) (p1 : Int32) (p2 : Int32) : Option (Int32) :=
    (f_X11_within p0 (4 : Int32) (64 : Int32)).bind fun x2 =>
    if x2 = 0 then
    some (0 : Int32)
    else
    (f_X11_within p1 (1 : Int32) (p0 / (2 : Int32))).bind fun x5 =>
    if x5 = 0 then
    some (0 : Int32)
    else
    (f_X11_within p2 (0 : Int32) (20 : Int32)).bind fun x8 =>
    if x8 = 0 then
    some (0 : Int32)
    else
    some (1 : Int32)
set_option maxRecDepth 100000 in
set_option maxHeartbeats 4000000 in
theorem c_X5_allowed {E : am_E} (hE : am_EH E) {p0 : Int32} {p1 : Int32} {p2 : Int32} {D : am_D} {r : Int32}  (hf : f_X5_allowed p0 p1 p2 = some r) : am_C E mX5_allowed 2 0 0 [.int p0, .int p1, .int p2] am_G0 D (.inl (some (.int r))) am_G0 D := by
  refine am_C_of (by decide +kernel) (Nat.le_of_ble_eq_true rfl) ?_
  change am_S E mX5_allowed 2 0 0 (.inl (some (.int r))) am_G0 D 0 0 0 [(0, .int p0), (1, .int p1), (2, .int p2)] [] am_G0 D
  unfold f_X5_allowed at hf
  refine am_iload_n (am_dec tmX5_allowed 0 rfl) rfl rfl ?_
  refine am_iconst (v := (4 : Int32)) (am_dec tmX5_allowed 1 rfl) (by decide) ?_
  refine am_bipush (v := (64 : Int32)) (am_dec tmX5_allowed 2 rfl) (by decide) ?_
  obtain ⟨x2, g1, hf⟩ := am_bd hf
  refine am_callSN1 (As := [.int p0, .int (4 : Int32), .int (64 : Int32)]) (st := []) hE (am_dec tmX5_allowed 3 rfl) ok_X11_within rfl lm_X5_19 st_X11_within (c_X11_within hE g1) rfl (by decide) (Nat.le_of_ble_eq_true rfl) (Nat.zero_le _) (Nat.zero_le _) rfl ?_
  refine am_if_eq (tgt := 35) (am_dec tmX5_allowed 4 rfl) (by decide) (fun c3 => ?_) (fun c3 => ?_)
  · rw [if_pos c3] at hf
    refine am_iconst (v := (0 : Int32)) (am_dec tmX5_allowed 19 rfl) (by decide) ?_
    have hf := Option.some.inj hf
    subst hf
    exact am_zret (am_dec tmX5_allowed 20 rfl) rfl am_z0 (Nat.zero_le _) (Nat.zero_le _)
  · rw [if_neg c3] at hf
    refine am_iload_n (am_dec tmX5_allowed 5 rfl) rfl rfl ?_
    refine am_iconst (v := (1 : Int32)) (am_dec tmX5_allowed 6 rfl) (by decide) ?_
    refine am_iload_n (am_dec tmX5_allowed 7 rfl) rfl rfl ?_
    refine am_iconst (v := (2 : Int32)) (am_dec tmX5_allowed 8 rfl) (by decide) ?_
    refine am_idiv (am_dec tmX5_allowed 9 rfl) (by decide) ?_
    obtain ⟨x5, g4, hf⟩ := am_bd hf
    refine am_callSN1 (As := [.int p1, .int (1 : Int32), .int (p0 / (2 : Int32))]) (st := []) hE (am_dec tmX5_allowed 10 rfl) ok_X11_within rfl lm_X5_19 st_X11_within (c_X11_within hE g4) rfl (by decide) (Nat.le_of_ble_eq_true rfl) (Nat.zero_le _) (Nat.zero_le _) rfl ?_
    refine am_if_eq (tgt := 35) (am_dec tmX5_allowed 11 rfl) (by decide) (fun c6 => ?_) (fun c6 => ?_)
    · rw [if_pos c6] at hf
      refine am_iconst (v := (0 : Int32)) (am_dec tmX5_allowed 19 rfl) (by decide) ?_
      have hf := Option.some.inj hf
      subst hf
      exact am_zret (am_dec tmX5_allowed 20 rfl) rfl am_z0 (Nat.zero_le _) (Nat.zero_le _)
    · rw [if_neg c6] at hf
      refine am_iload_n (am_dec tmX5_allowed 12 rfl) rfl rfl ?_
      refine am_iconst (v := (0 : Int32)) (am_dec tmX5_allowed 13 rfl) (by decide) ?_
      refine am_bipush (v := (20 : Int32)) (am_dec tmX5_allowed 14 rfl) (by decide) ?_
      obtain ⟨x8, g7, hf⟩ := am_bd hf
      refine am_callSN1 (As := [.int p2, .int (0 : Int32), .int (20 : Int32)]) (st := []) hE (am_dec tmX5_allowed 15 rfl) ok_X11_within rfl lm_X5_19 st_X11_within (c_X11_within hE g7) rfl (by decide) (Nat.le_of_ble_eq_true rfl) (Nat.zero_le _) (Nat.zero_le _) rfl ?_
      refine am_if_eq (tgt := 35) (am_dec tmX5_allowed 16 rfl) (by decide) (fun c9 => ?_) (fun c9 => ?_)
      · rw [if_pos c9] at hf
        refine am_iconst (v := (0 : Int32)) (am_dec tmX5_allowed 19 rfl) (by decide) ?_
        have hf := Option.some.inj hf
        subst hf
        exact am_zret (am_dec tmX5_allowed 20 rfl) rfl am_z0 (Nat.zero_le _) (Nat.zero_le _)
      · rw [if_neg c9] at hf
        refine am_iconst (v := (1 : Int32)) (am_dec tmX5_allowed 17 rfl) (by decide) ?_
        refine am_goto (tgt := 36) (am_dec tmX5_allowed 18 rfl) (by decide) ?_
        have hf := Option.some.inj hf
        subst hf
        exact am_zret (am_dec tmX5_allowed 20 rfl) rfl am_z1 (Nat.zero_le _) (Nat.zero_le _)
theorem z_X5_allowed {p0 : Int32} {p1 : Int32} {p2 : Int32} {r : Int32} (hf : f_X5_allowed p0 p1 p2 = some r) : narrow .boolean (.int r) = .int r := by
  unfold f_X5_allowed at hf
  obtain ⟨x2, g1, hf⟩ := am_bd hf
  by_cases c3 : x2 = 0
  · rw [if_pos c3] at hf
    have hf := Option.some.inj hf
    subst hf
    exact am_z0
  · rw [if_neg c3] at hf
    obtain ⟨x5, g4, hf⟩ := am_bd hf
    by_cases c6 : x5 = 0
    · rw [if_pos c6] at hf
      have hf := Option.some.inj hf
      subst hf
      exact am_z0
    · rw [if_neg c6] at hf
      obtain ⟨x8, g7, hf⟩ := am_bd hf
      by_cases c9 : x8 = 0
      · rw [if_pos c9] at hf
        have hf := Option.some.inj hf
        subst hf
        exact am_z0
      · rw [if_neg c9] at hf
        have hf := Option.some.inj hf
        subst hf
        exact am_z1
def f_X6_add (p1 : Int32) (p2 : Int32) (p3 : Int32) (p4 : Int32) (D : am_D) : Option (am_D) :=
    if (D.1 24 5) < 0 then
    some D
    else
    if (10 : Int32) ≤ (D.1 24 5) then
    some D
    else
    (am_pI D 25 10 (D.1 24 5) p1).bind fun D3 =>
    (am_pI D3 26 10 (D3.1 24 5) p2).bind fun D5 =>
    (am_pI D5 27 10 (D5.1 24 5) p3).bind fun D7 =>
    (am_pI D7 28 10 (D7.1 24 5) p4).bind fun D9 =>
    (some (am_wI D9 24 5 ((D9.1 24 5) + (1 : Int32)))).bind fun D11 =>
    some D11
set_option maxRecDepth 100000 in
set_option maxHeartbeats 4000000 in
theorem c_X6_add {E : am_E} (hE : am_EH E) {p1 : Int32} {p2 : Int32} {p3 : Int32} {p4 : Int32} {D : am_D} {r : am_D}  (hf : f_X6_add p1 p2 p3 p4 D = some r) : am_C E mX6_add 1 0 0 [.ref 24, .int p1, .int p2, .int p3, .int p4] am_G0 D (.inl none) am_G0 r := by
  refine am_C_of (by decide +kernel) (Nat.le_of_ble_eq_true rfl) ?_
  change am_S E mX6_add 1 0 0 (.inl none) am_G0 r 0 0 0 [(0, .ref 24), (1, .int p1), (2, .int p2), (3, .int p3), (4, .int p4)] [] am_G0 D
  unfold f_X6_add at hf
  refine am_aload_n (am_dec tmX6_add 0 rfl) rfl rfl ?_
  refine am_getI (j := 5) hE (am_dec tmX6_add 1 rfl) sh_24 cf6 (by decide) rfl lf_X6_27 ?_
  refine am_if_lt (tgt := 67) (am_dec tmX6_add 2 rfl) (by decide) (fun c1 => ?_) (fun c1 => ?_)
  · rw [if_pos c1] at hf
    have hf := Option.some.inj hf
    subst hf
    exact am_vret (am_dec tmX6_add 37 rfl) rfl (Nat.zero_le _) (Nat.zero_le _)
  · rw [if_neg c1] at hf
    refine am_aload_n (am_dec tmX6_add 3 rfl) rfl rfl ?_
    refine am_getI (j := 5) hE (am_dec tmX6_add 4 rfl) sh_24 cf6 (by decide) rfl lf_X6_27 ?_
    refine am_bipush (v := (10 : Int32)) (am_dec tmX6_add 5 rfl) (by decide) ?_
    refine am_icmp_ge (tgt := 67) (am_dec tmX6_add 6 rfl) (by decide) (fun c2 => ?_) (fun c2 => ?_)
    · rw [if_pos c2] at hf
      have hf := Option.some.inj hf
      subst hf
      exact am_vret (am_dec tmX6_add 37 rfl) rfl (Nat.zero_le _) (Nat.zero_le _)
    · rw [if_neg c2] at hf
      refine am_aload_n (am_dec tmX6_add 7 rfl) rfl rfl ?_
      refine am_getR (j := 0) hE (am_dec tmX6_add 8 rfl) sh_24 cf6 (by decide) rfl lf_X6_9 rf_24_0 ?_
      refine am_aload_n (am_dec tmX6_add 9 rfl) rfl rfl ?_
      refine am_getI (j := 5) hE (am_dec tmX6_add 10 rfl) sh_24 cf6 (by decide) rfl lf_X6_27 ?_
      refine am_iload_n (am_dec tmX6_add 11 rfl) rfl rfl ?_
      obtain ⟨D3, g4, hf⟩ := am_bd hf
      refine am_iast2 hE (am_dec tmX6_add 12 rfl) sh_25 g4 ?_
      refine am_aload_n (am_dec tmX6_add 13 rfl) rfl rfl ?_
      refine am_getR (j := 1) hE (am_dec tmX6_add 14 rfl) sh_24 cf6 (by decide) rfl lf_X6_15 rf_24_1 ?_
      refine am_aload_n (am_dec tmX6_add 15 rfl) rfl rfl ?_
      refine am_getI (j := 5) hE (am_dec tmX6_add 16 rfl) sh_24 cf6 (by decide) rfl lf_X6_27 ?_
      refine am_iload_n (am_dec tmX6_add 17 rfl) rfl rfl ?_
      obtain ⟨D5, g6, hf⟩ := am_bd hf
      refine am_iast2 hE (am_dec tmX6_add 18 rfl) sh_26 g6 ?_
      refine am_aload_n (am_dec tmX6_add 19 rfl) rfl rfl ?_
      refine am_getR (j := 2) hE (am_dec tmX6_add 20 rfl) sh_24 cf6 (by decide) rfl lf_X6_18 rf_24_2 ?_
      refine am_aload_n (am_dec tmX6_add 21 rfl) rfl rfl ?_
      refine am_getI (j := 5) hE (am_dec tmX6_add 22 rfl) sh_24 cf6 (by decide) rfl lf_X6_27 ?_
      refine am_iload_n (am_dec tmX6_add 23 rfl) rfl rfl ?_
      obtain ⟨D7, g8, hf⟩ := am_bd hf
      refine am_iast2 hE (am_dec tmX6_add 24 rfl) sh_27 g8 ?_
      refine am_aload_n (am_dec tmX6_add 25 rfl) rfl rfl ?_
      refine am_getR (j := 3) hE (am_dec tmX6_add 26 rfl) sh_24 cf6 (by decide) rfl lf_X6_21 rf_24_3 ?_
      refine am_aload_n (am_dec tmX6_add 27 rfl) rfl rfl ?_
      refine am_getI (j := 5) hE (am_dec tmX6_add 28 rfl) sh_24 cf6 (by decide) rfl lf_X6_27 ?_
      refine am_iload (am_dec tmX6_add 29 rfl) rfl ?_
      obtain ⟨D9, g10, hf⟩ := am_bd hf
      refine am_iast2 hE (am_dec tmX6_add 30 rfl) sh_28 g10 ?_
      refine am_aload_n (am_dec tmX6_add 31 rfl) rfl rfl ?_
      refine am_dup (am_dec tmX6_add 32 rfl) rfl ?_
      refine am_getI (j := 5) hE (am_dec tmX6_add 33 rfl) sh_24 cf6 (by decide) rfl lf_X6_27 ?_
      refine am_iconst (v := (1 : Int32)) (am_dec tmX6_add 34 rfl) (by decide) ?_
      refine am_iadd (am_dec tmX6_add 35 rfl) ?_
      obtain ⟨D11, g12, hf⟩ := am_bd hf
      refine am_putI2 (j := 5) hE (am_dec tmX6_add 36 rfl) sh_24 cf6 (by decide) rfl lf_X6_27 rfl rfl rfl g12 ?_
      have hf := Option.some.inj hf
      subst hf
      exact am_vret (am_dec tmX6_add 37 rfl) rfl (Nat.zero_le _) (Nat.zero_le _)
def f_X6_reach_L4  : Nat → Int32 → Int32 → am_D → Option (Int32 × am_D)
  | 0, _, _, _ => none
  | n + 1, v2, v3, D =>
    if (D.1 24 5) ≤ v3 then
    some (v2, D)
    else
    if (10 : Int32) ≤ v3 then
    some (v2, D)
    else
    (am_gI D 25 10 v3).bind fun x3 =>
    (am_gI D 27 10 v3).bind fun x5 =>
    (am_gI D 28 10 v3).bind fun x7 =>
    (f_X11_bounded x3 x5 x7).bind fun x10 =>
    (am_pI D 29 10 v3 x10).bind fun D11 =>
    (am_gI D11 29 10 v3).bind fun x13 =>
    f_X6_reach_L4 n (v2 - x13) (v3 + (1 : Int32)) D11
def f_X6_reach_L75 (q3 : Int32) : Nat → Int32 → Int32 → am_D → Option (Int32 × am_D)
  | 0, _, _, _ => none
  | n + 1, v2, v4, D =>
    if (D.1 24 5) ≤ v4 then
    some (v2, D)
    else
    if (10 : Int32) ≤ v4 then
    some (v2, D)
    else
    (am_gI D 26 10 v4).bind fun x20 =>
    (if x20 = q3 then
    (am_gI D 27 10 v4).bind fun x24 =>
    (am_gI D 29 10 v4).bind fun x26 =>
    (am_gI D 28 10 v4).bind fun x28 =>
    (am_gI D 29 10 v4).bind fun x30 =>
    (f_X11_bounded v2 (x24 - x26) (x28 - x30)).bind fun x33 =>
    (am_gI D 29 10 v4).bind fun x34 =>
    (am_pI D 29 10 v4 (x34 + x33)).bind fun D36 =>
    some ((v2 - x33), D36)
    else
    some (v2, D)).bind fun w38 =>
    f_X6_reach_L75 q3 n w38.1 (v4 + (1 : Int32)) w38.2
def f_X6_reach_L62  : Nat → Int32 → Int32 → am_D → Option (Int32 × am_D)
  | 0, _, _, _ => none
  | n + 1, v2, v3, D =>
    if (99 : Int32) < v3 then
    some (v2, D)
    else
    if v2 = 0 then
    some (v2, D)
    else
    (f_X6_reach_L75 v3 am_fu v2 (0 : Int32) D).bind fun e40 =>
    f_X6_reach_L62 n e40.1 (v3 + (1 : Int32)) e40.2
def f_X6_reach (p1 : Int32) (D : am_D) : Option ((Int32 × am_D)) :=
    (f_X6_reach_L4 am_fu p1 (0 : Int32) D).bind fun e15 =>
    (f_X6_reach_L62 am_fu e15.1 (0 : Int32) e15.2).bind fun e42 =>
    if e42.1 = 0 then
    some ((1 : Int32), e42.2)
    else
    some ((0 : Int32), e42.2)
set_option maxRecDepth 100000 in
set_option maxHeartbeats 4000000 in
theorem l_X6_reach_L4 {E : am_E} (hE : am_EH E) {d mc ms : Nat} {o : am_O} {G2 : am_G} {D2 : am_D} (hdp : 2 ≤ d)   : ∀ (n : Nat) (v2 : Int32) (v3 : Int32) (D : am_D) (ex0 : Int32 × am_D), f_X6_reach_L4  n v2 v3 D = some ex0 → (∀ ex : Int32 × am_D, ex0 = ex → am_S E mX6_reach d mc ms o G2 D2 0 0 60 [(0, .ref 24), (2, .int ex.1)] [] am_G0 ex.2) → am_S E mX6_reach d mc ms o G2 D2 0 0 4 [(0, .ref 24), (2, .int v2), (3, .int v3)] [] am_G0 D
  | 0, _, _, _, _, hf, _ => by
    unfold f_X6_reach_L4 at hf
    cases hf
  | n + 1, v2, v3, D, ex0, hf, hk0 => by
    unfold f_X6_reach_L4 at hf
    refine am_iload_n (am_dec tmX6_reach_0 4 rfl) rfl rfl ?_
    refine am_aload_n (am_dec tmX6_reach_0 5 rfl) rfl rfl ?_
    refine am_getI (j := 5) hE (am_dec tmX6_reach_0 6 rfl) sh_24 cf6 (by decide) rfl lf_X6_27 ?_
    refine am_icmp_ge (tgt := 60) (am_dec tmX6_reach_0 7 rfl) (by decide) (fun c1 => ?_) (fun c1 => ?_)
    · rw [if_pos c1] at hf
      have hf := Option.some.inj hf
      subst hf
      exact am_pick [0, 1] rfl (hk0 _ rfl)
    · rw [if_neg c1] at hf
      refine am_iload_n (am_dec tmX6_reach_0 8 rfl) rfl rfl ?_
      refine am_bipush (v := (10 : Int32)) (am_dec tmX6_reach_0 9 rfl) (by decide) ?_
      refine am_icmp_ge (tgt := 60) (am_dec tmX6_reach_0 10 rfl) (by decide) (fun c2 => ?_) (fun c2 => ?_)
      · rw [if_pos c2] at hf
        have hf := Option.some.inj hf
        subst hf
        exact am_pick [0, 1] rfl (hk0 _ rfl)
      · rw [if_neg c2] at hf
        refine am_aload_n (am_dec tmX6_reach_0 11 rfl) rfl rfl ?_
        refine am_getR (j := 4) hE (am_dec tmX6_reach_0 12 rfl) sh_24 cf6 (by decide) rfl lf_X6_24 rf_24_4 ?_
        refine am_iload_n (am_dec tmX6_reach_0 13 rfl) rfl rfl ?_
        refine am_aload_n (am_dec tmX6_reach_0 14 rfl) rfl rfl ?_
        refine am_getR (j := 0) hE (am_dec tmX6_reach_0 15 rfl) sh_24 cf6 (by decide) rfl lf_X6_9 rf_24_0 ?_
        refine am_iload_n (am_dec tmX6_reach_0 16 rfl) rfl rfl ?_
        obtain ⟨x3, g4, hf⟩ := am_bd hf
        refine am_iald2 hE (am_dec tmX6_reach_0 17 rfl) sh_25 g4 ?_
        refine am_aload_n (am_dec tmX6_reach_0 18 rfl) rfl rfl ?_
        refine am_getR (j := 2) hE (am_dec tmX6_reach_0 19 rfl) sh_24 cf6 (by decide) rfl lf_X6_18 rf_24_2 ?_
        refine am_iload_n (am_dec tmX6_reach_0 20 rfl) rfl rfl ?_
        obtain ⟨x5, g6, hf⟩ := am_bd hf
        refine am_iald2 hE (am_dec tmX6_reach_0 21 rfl) sh_27 g6 ?_
        refine am_aload_n (am_dec tmX6_reach_0 22 rfl) rfl rfl ?_
        refine am_getR (j := 3) hE (am_dec tmX6_reach_0 23 rfl) sh_24 cf6 (by decide) rfl lf_X6_21 rf_24_3 ?_
        refine am_iload_n (am_dec tmX6_reach_0 24 rfl) rfl rfl ?_
        obtain ⟨x7, g8, hf⟩ := am_bd hf
        refine am_iald2 hE (am_dec tmX6_reach_0 25 rfl) sh_28 g8 ?_
        obtain ⟨x10, g9, hf⟩ := am_bd hf
        refine am_callSN1 (As := [.int x3, .int x5, .int x7]) (st := [.int v3, .ref 29]) hE (am_dec tmX6_reach_0 26 rfl) ok_X11_bounded rfl lm_X6_31 st_X11_bounded (c_X11_bounded hE g9) rfl (Nat.lt_of_lt_of_le (by decide) hdp) (Nat.le_of_ble_eq_true rfl) (Nat.zero_le _) (Nat.zero_le _) rfl ?_
        obtain ⟨D11, g12, hf⟩ := am_bd hf
        refine am_iast2 hE (am_dec tmX6_reach_0 27 rfl) sh_29 g12 ?_
        refine am_iload_n (am_dec tmX6_reach_0 28 rfl) rfl rfl ?_
        refine am_aload_n (am_dec tmX6_reach_0 29 rfl) rfl rfl ?_
        refine am_getR (j := 4) hE (am_dec tmX6_reach_0 30 rfl) sh_24 cf6 (by decide) rfl lf_X6_24 rf_24_4 ?_
        refine am_iload_n (am_dec tmX6_reach_0 31 rfl) rfl rfl ?_
        obtain ⟨x13, g14, hf⟩ := am_bd hf
        refine am_iald2 hE (am_dec tmX6_reach_0 32 rfl) sh_29 g14 ?_
        refine am_isub (am_dec tmX6_reach_0 33 rfl) ?_
        refine am_istore_n (lv' := [(0, .ref 24), (2, .int (v2 - x13)), (3, .int v3)]) (am_dec tmX6_reach_0 34 rfl) rfl (by decide) rfl ?_
        refine am_iinc (v := (1 : Int32)) (lv' := [(0, .ref 24), (2, .int (v2 - x13)), (3, .int (v3 + (1 : Int32)))]) (am_dec tmX6_reach_0 35 rfl) rfl (by decide) (by decide) rfl ?_
        refine am_goto (tgt := 4) (am_dec tmX6_reach_0 36 rfl) (by decide) ?_
        exact am_pick [0, 1, 2] rfl (l_X6_reach_L4 hE hdp n (v2 - x13) (v3 + (1 : Int32)) D11 ex0 hf hk0)
set_option maxRecDepth 100000 in
set_option maxHeartbeats 4000000 in
theorem l_X6_reach_L75 {E : am_E} (hE : am_EH E) {d mc ms : Nat} {o : am_O} {G2 : am_G} {D2 : am_D} (hdp : 2 ≤ d) {q3 : Int32}  : ∀ (n : Nat) (v2 : Int32) (v4 : Int32) (D : am_D) (ex0 : Int32 × am_D), f_X6_reach_L75 q3 n v2 v4 D = some ex0 → (∀ ex : Int32 × am_D, ex0 = ex → am_S E mX6_reach d mc ms o G2 D2 0 0 161 [(0, .ref 24), (2, .int ex.1), (3, .int q3)] [] am_G0 ex.2) → am_S E mX6_reach d mc ms o G2 D2 0 0 75 [(0, .ref 24), (2, .int v2), (3, .int q3), (4, .int v4)] [] am_G0 D
  | 0, _, _, _, _, hf, _ => by
    unfold f_X6_reach_L75 at hf
    cases hf
  | n + 1, v2, v4, D, ex0, hf, hk0 => by
    unfold f_X6_reach_L75 at hf
    refine am_iload (am_dec tmX6_reach_0 46 rfl) rfl ?_
    refine am_aload_n (am_dec tmX6_reach_0 47 rfl) rfl rfl ?_
    refine am_getI (j := 5) hE (am_dec tmX6_reach_0 48 rfl) sh_24 cf6 (by decide) rfl lf_X6_27 ?_
    refine am_icmp_ge (tgt := 161) (am_dec tmX6_reach_0 49 rfl) (by decide) (fun c18 => ?_) (fun c18 => ?_)
    · rw [if_pos c18] at hf
      have hf := Option.some.inj hf
      subst hf
      exact am_pick [0, 1, 2] rfl (hk0 _ rfl)
    · rw [if_neg c18] at hf
      refine am_iload (am_dec tmX6_reach_0 50 rfl) rfl ?_
      refine am_bipush (v := (10 : Int32)) (am_dec tmX6_reach_0 51 rfl) (by decide) ?_
      refine am_icmp_ge (tgt := 161) (am_dec tmX6_reach_0 52 rfl) (by decide) (fun c19 => ?_) (fun c19 => ?_)
      · rw [if_pos c19] at hf
        have hf := Option.some.inj hf
        subst hf
        exact am_pick [0, 1, 2] rfl (hk0 _ rfl)
      · rw [if_neg c19] at hf
        refine am_aload_n (am_dec tmX6_reach_0 53 rfl) rfl rfl ?_
        refine am_getR (j := 1) hE (am_dec tmX6_reach_0 54 rfl) sh_24 cf6 (by decide) rfl lf_X6_15 rf_24_1 ?_
        refine am_iload (am_dec tmX6_reach_0 55 rfl) rfl ?_
        obtain ⟨x20, g21, hf⟩ := am_bd hf
        refine am_iald2 hE (am_dec tmX6_reach_0 56 rfl) sh_26 g21 ?_
        refine am_iload_n (am_dec tmX6_reach_0 57 rfl) rfl rfl ?_
        obtain ⟨w38, g39, hf⟩ := am_bd hf
        have key23 : am_S E mX6_reach d mc ms o G2 D2 0 0 155 [(0, .ref 24), (2, .int w38.1), (3, .int q3), (4, .int v4)] [] am_G0 w38.2 := by
          refine am_iinc (v := (1 : Int32)) (lv' := [(0, .ref 24), (2, .int w38.1), (3, .int q3), (4, .int (v4 + (1 : Int32)))]) (am_dec tmX6_reach_1 32 rfl) rfl (by decide) (by decide) rfl ?_
          refine am_goto (tgt := 75) (am_dec tmX6_reach_1 33 rfl) (by decide) ?_
          exact am_pick [0, 1, 2, 3] rfl (l_X6_reach_L75 hE hdp n w38.1 (v4 + (1 : Int32)) w38.2 ex0 hf hk0)
        replace hf := g39
        refine am_icmp_ne (tgt := 155) (am_dec tmX6_reach_0 58 rfl) (by decide) (fun c22 => ?_) (fun c22 => ?_)
        · rw [if_neg c22] at hf
          have hf := Option.some.inj hf
          subst hf
          exact am_pick [0, 1, 2, 3] rfl key23
        · rw [if_pos c22] at hf
          refine am_iload_n (am_dec tmX6_reach_0 59 rfl) rfl rfl ?_
          refine am_aload_n (am_dec tmX6_reach_1 0 rfl) rfl rfl ?_
          refine am_getR (j := 2) hE (am_dec tmX6_reach_1 1 rfl) sh_24 cf6 (by decide) rfl lf_X6_18 rf_24_2 ?_
          refine am_iload (am_dec tmX6_reach_1 2 rfl) rfl ?_
          obtain ⟨x24, g25, hf⟩ := am_bd hf
          refine am_iald2 hE (am_dec tmX6_reach_1 3 rfl) sh_27 g25 ?_
          refine am_aload_n (am_dec tmX6_reach_1 4 rfl) rfl rfl ?_
          refine am_getR (j := 4) hE (am_dec tmX6_reach_1 5 rfl) sh_24 cf6 (by decide) rfl lf_X6_24 rf_24_4 ?_
          refine am_iload (am_dec tmX6_reach_1 6 rfl) rfl ?_
          obtain ⟨x26, g27, hf⟩ := am_bd hf
          refine am_iald2 hE (am_dec tmX6_reach_1 7 rfl) sh_29 g27 ?_
          refine am_isub (am_dec tmX6_reach_1 8 rfl) ?_
          refine am_aload_n (am_dec tmX6_reach_1 9 rfl) rfl rfl ?_
          refine am_getR (j := 3) hE (am_dec tmX6_reach_1 10 rfl) sh_24 cf6 (by decide) rfl lf_X6_21 rf_24_3 ?_
          refine am_iload (am_dec tmX6_reach_1 11 rfl) rfl ?_
          obtain ⟨x28, g29, hf⟩ := am_bd hf
          refine am_iald2 hE (am_dec tmX6_reach_1 12 rfl) sh_28 g29 ?_
          refine am_aload_n (am_dec tmX6_reach_1 13 rfl) rfl rfl ?_
          refine am_getR (j := 4) hE (am_dec tmX6_reach_1 14 rfl) sh_24 cf6 (by decide) rfl lf_X6_24 rf_24_4 ?_
          refine am_iload (am_dec tmX6_reach_1 15 rfl) rfl ?_
          obtain ⟨x30, g31, hf⟩ := am_bd hf
          refine am_iald2 hE (am_dec tmX6_reach_1 16 rfl) sh_29 g31 ?_
          refine am_isub (am_dec tmX6_reach_1 17 rfl) ?_
          obtain ⟨x33, g32, hf⟩ := am_bd hf
          refine am_callSN1 (As := [.int v2, .int (x24 - x26), .int (x28 - x30)]) (st := []) hE (am_dec tmX6_reach_1 18 rfl) ok_X11_bounded rfl lm_X6_31 st_X11_bounded (c_X11_bounded hE g32) rfl (Nat.lt_of_lt_of_le (by decide) hdp) (Nat.le_of_ble_eq_true rfl) (Nat.zero_le _) (Nat.zero_le _) rfl ?_
          refine am_istore (lv' := [(0, .ref 24), (2, .int v2), (3, .int q3), (4, .int v4), (5, .int x33)]) (am_dec tmX6_reach_1 19 rfl) (by decide) rfl ?_
          refine am_aload_n (am_dec tmX6_reach_1 20 rfl) rfl rfl ?_
          refine am_getR (j := 4) hE (am_dec tmX6_reach_1 21 rfl) sh_24 cf6 (by decide) rfl lf_X6_24 rf_24_4 ?_
          refine am_iload (am_dec tmX6_reach_1 22 rfl) rfl ?_
          refine am_dup2 (am_dec tmX6_reach_1 23 rfl) rfl rfl ?_
          obtain ⟨x34, g35, hf⟩ := am_bd hf
          refine am_iald2 hE (am_dec tmX6_reach_1 24 rfl) sh_29 g35 ?_
          refine am_iload (am_dec tmX6_reach_1 25 rfl) rfl ?_
          refine am_iadd (am_dec tmX6_reach_1 26 rfl) ?_
          obtain ⟨D36, g37, hf⟩ := am_bd hf
          refine am_iast2 hE (am_dec tmX6_reach_1 27 rfl) sh_29 g37 ?_
          refine am_iload_n (am_dec tmX6_reach_1 28 rfl) rfl rfl ?_
          refine am_iload (am_dec tmX6_reach_1 29 rfl) rfl ?_
          refine am_isub (am_dec tmX6_reach_1 30 rfl) ?_
          refine am_istore_n (lv' := [(0, .ref 24), (2, .int (v2 - x33)), (3, .int q3), (4, .int v4), (5, .int x33)]) (am_dec tmX6_reach_1 31 rfl) rfl (by decide) rfl ?_
          have hf := Option.some.inj hf
          subst hf
          exact am_pick [0, 1, 2, 3] rfl key23
set_option maxRecDepth 100000 in
set_option maxHeartbeats 4000000 in
theorem l_X6_reach_L62 {E : am_E} (hE : am_EH E) {d mc ms : Nat} {o : am_O} {G2 : am_G} {D2 : am_D} (hdp : 2 ≤ d)   : ∀ (n : Nat) (v2 : Int32) (v3 : Int32) (D : am_D) (ex0 : Int32 × am_D), f_X6_reach_L62  n v2 v3 D = some ex0 → (∀ ex : Int32 × am_D, ex0 = ex → am_S E mX6_reach d mc ms o G2 D2 0 0 167 [(2, .int ex.1)] [] am_G0 ex.2) → am_S E mX6_reach d mc ms o G2 D2 0 0 62 [(0, .ref 24), (2, .int v2), (3, .int v3)] [] am_G0 D
  | 0, _, _, _, _, hf, _ => by
    unfold f_X6_reach_L62 at hf
    cases hf
  | n + 1, v2, v3, D, ex0, hf, hk0 => by
    unfold f_X6_reach_L62 at hf
    refine am_iload_n (am_dec tmX6_reach_0 39 rfl) rfl rfl ?_
    refine am_bipush (v := (99 : Int32)) (am_dec tmX6_reach_0 40 rfl) (by decide) ?_
    refine am_icmp_gt (tgt := 167) (am_dec tmX6_reach_0 41 rfl) (by decide) (fun c16 => ?_) (fun c16 => ?_)
    · rw [if_pos c16] at hf
      have hf := Option.some.inj hf
      subst hf
      exact am_pick [1] rfl (hk0 _ rfl)
    · rw [if_neg c16] at hf
      refine am_iload_n (am_dec tmX6_reach_0 42 rfl) rfl rfl ?_
      refine am_if_eq (tgt := 167) (am_dec tmX6_reach_0 43 rfl) (by decide) (fun c17 => ?_) (fun c17 => ?_)
      · rw [if_pos c17] at hf
        have hf := Option.some.inj hf
        subst hf
        exact am_pick [1] rfl (hk0 _ rfl)
      · rw [if_neg c17] at hf
        refine am_iconst (v := (0 : Int32)) (am_dec tmX6_reach_0 44 rfl) (by decide) ?_
        refine am_istore (lv' := [(0, .ref 24), (2, .int v2), (3, .int v3), (4, .int (0 : Int32))]) (am_dec tmX6_reach_0 45 rfl) (by decide) rfl ?_
        obtain ⟨e40, g41, hf⟩ := am_bd hf
        refine am_pick [0, 1, 2, 3] rfl (l_X6_reach_L75 hE hdp am_fu _ _ _ _ g41 (fun ex he => ?_))
        subst he
        refine am_iinc (v := (1 : Int32)) (lv' := [(0, .ref 24), (2, .int e40.1), (3, .int (v3 + (1 : Int32)))]) (am_dec tmX6_reach_1 34 rfl) rfl (by decide) (by decide) rfl ?_
        refine am_goto (tgt := 62) (am_dec tmX6_reach_1 35 rfl) (by decide) ?_
        exact am_pick [0, 1, 2] rfl (l_X6_reach_L62 hE hdp n e40.1 (v3 + (1 : Int32)) e40.2 ex0 hf hk0)
set_option maxRecDepth 100000 in
set_option maxHeartbeats 4000000 in
theorem c_X6_reach {E : am_E} (hE : am_EH E) {p1 : Int32} {D : am_D} {r : (Int32 × am_D)}  (hf : f_X6_reach p1 D = some r) : am_C E mX6_reach 2 0 0 [.ref 24, .int p1] am_G0 D (.inl (some (.int r.1))) am_G0 r.2 := by
  refine am_C_of (by decide +kernel) (Nat.le_of_ble_eq_true rfl) ?_
  change am_S E mX6_reach 2 0 0 (.inl (some (.int r.1))) am_G0 r.2 0 0 0 [(0, .ref 24), (1, .int p1)] [] am_G0 D
  unfold f_X6_reach at hf
  refine am_iload_n (am_dec tmX6_reach_0 0 rfl) rfl rfl ?_
  refine am_istore_n (lv' := [(0, .ref 24), (1, .int p1), (2, .int p1)]) (am_dec tmX6_reach_0 1 rfl) rfl (by decide) rfl ?_
  refine am_iconst (v := (0 : Int32)) (am_dec tmX6_reach_0 2 rfl) (by decide) ?_
  refine am_istore_n (lv' := [(0, .ref 24), (1, .int p1), (2, .int p1), (3, .int (0 : Int32))]) (am_dec tmX6_reach_0 3 rfl) rfl (by decide) rfl ?_
  obtain ⟨e15, g45, hf⟩ := am_bd hf
  refine am_pick [0, 2, 3] rfl (l_X6_reach_L4 hE (Nat.le_refl _) am_fu _ _ _ _ g45 (fun ex he => ?_))
  subst he
  refine am_iconst (v := (0 : Int32)) (am_dec tmX6_reach_0 37 rfl) (by decide) ?_
  refine am_istore_n (lv' := [(0, .ref 24), (2, .int e15.1), (3, .int (0 : Int32))]) (am_dec tmX6_reach_0 38 rfl) rfl (by decide) rfl ?_
  obtain ⟨e42, g44, hf⟩ := am_bd hf
  refine am_pick [0, 1, 2] rfl (l_X6_reach_L62 hE (Nat.le_refl _) am_fu _ _ _ _ g44 (fun ex he => ?_))
  subst he
  refine am_iload_n (am_dec tmX6_reach_1 36 rfl) rfl rfl ?_
  refine am_if_ne (tgt := 175) (am_dec tmX6_reach_1 37 rfl) (by decide) (fun c43 => ?_) (fun c43 => ?_)
  · rw [if_neg c43] at hf
    refine am_iconst (v := (0 : Int32)) (am_dec tmX6_reach_1 40 rfl) (by decide) ?_
    have hf := Option.some.inj hf
    subst hf
    exact am_zret (am_dec tmX6_reach_1 41 rfl) rfl am_z0 (Nat.zero_le _) (Nat.zero_le _)
  · rw [if_pos c43] at hf
    refine am_iconst (v := (1 : Int32)) (am_dec tmX6_reach_1 38 rfl) (by decide) ?_
    refine am_goto (tgt := 176) (am_dec tmX6_reach_1 39 rfl) (by decide) ?_
    have hf := Option.some.inj hf
    subst hf
    exact am_zret (am_dec tmX6_reach_1 41 rfl) rfl am_z1 (Nat.zero_le _) (Nat.zero_le _)
theorem z_X6_reach {p1 : Int32} {D : am_D} {r : (Int32 × am_D)} (hf : f_X6_reach p1 D = some r) : narrow .boolean (.int r.1) = .int r.1 := by
  unfold f_X6_reach at hf
  obtain ⟨e15, g45, hf⟩ := am_bd hf
  obtain ⟨e42, g44, hf⟩ := am_bd hf
  by_cases c43 : e42.1 = 0
  · rw [if_pos c43] at hf
    have hf := Option.some.inj hf
    subst hf
    exact am_z1
  · rw [if_neg c43] at hf
    have hf := Option.some.inj hf
    subst hf
    exact am_z0
def f_X6_lengthOf (p1 : Int32) (D : am_D) : Option (Int32) :=
    if p1 < 0 then
    some (-5000 : Int32)
    else
    if (D.1 24 5) ≤ p1 then
    some (-5000 : Int32)
    else
    if (10 : Int32) ≤ p1 then
    some (-5000 : Int32)
    else
    (am_gI D 29 10 p1).bind fun x4 =>
    some x4
set_option maxRecDepth 100000 in
set_option maxHeartbeats 4000000 in
theorem c_X6_lengthOf {E : am_E} (hE : am_EH E) {p1 : Int32} {D : am_D} {r : Int32}  (hf : f_X6_lengthOf p1 D = some r) : am_C E mX6_lengthOf 1 0 0 [.ref 24, .int p1] am_G0 D (.inl (some (.int r))) am_G0 D := by
  refine am_C_of (by decide +kernel) (Nat.le_of_ble_eq_true rfl) ?_
  change am_S E mX6_lengthOf 1 0 0 (.inl (some (.int r))) am_G0 D 0 0 0 [(0, .ref 24), (1, .int p1)] [] am_G0 D
  unfold f_X6_lengthOf at hf
  refine am_iload_n (am_dec tmX6_lengthOf 0 rfl) rfl rfl ?_
  refine am_if_lt (tgt := 27) (am_dec tmX6_lengthOf 1 rfl) (by decide) (fun c1 => ?_) (fun c1 => ?_)
  · rw [if_pos c1] at hf
    refine am_sipush (v := (-5000 : Int32)) (am_dec tmX6_lengthOf 14 rfl) (by decide) ?_
    have hf := Option.some.inj hf
    subst hf
    exact am_iret (am_dec tmX6_lengthOf 15 rfl) rfl (Nat.zero_le _) (Nat.zero_le _)
  · rw [if_neg c1] at hf
    refine am_iload_n (am_dec tmX6_lengthOf 2 rfl) rfl rfl ?_
    refine am_aload_n (am_dec tmX6_lengthOf 3 rfl) rfl rfl ?_
    refine am_getI (j := 5) hE (am_dec tmX6_lengthOf 4 rfl) sh_24 cf6 (by decide) rfl lf_X6_27 ?_
    refine am_icmp_ge (tgt := 27) (am_dec tmX6_lengthOf 5 rfl) (by decide) (fun c2 => ?_) (fun c2 => ?_)
    · rw [if_pos c2] at hf
      refine am_sipush (v := (-5000 : Int32)) (am_dec tmX6_lengthOf 14 rfl) (by decide) ?_
      have hf := Option.some.inj hf
      subst hf
      exact am_iret (am_dec tmX6_lengthOf 15 rfl) rfl (Nat.zero_le _) (Nat.zero_le _)
    · rw [if_neg c2] at hf
      refine am_iload_n (am_dec tmX6_lengthOf 6 rfl) rfl rfl ?_
      refine am_bipush (v := (10 : Int32)) (am_dec tmX6_lengthOf 7 rfl) (by decide) ?_
      refine am_icmp_ge (tgt := 27) (am_dec tmX6_lengthOf 8 rfl) (by decide) (fun c3 => ?_) (fun c3 => ?_)
      · rw [if_pos c3] at hf
        refine am_sipush (v := (-5000 : Int32)) (am_dec tmX6_lengthOf 14 rfl) (by decide) ?_
        have hf := Option.some.inj hf
        subst hf
        exact am_iret (am_dec tmX6_lengthOf 15 rfl) rfl (Nat.zero_le _) (Nat.zero_le _)
      · rw [if_neg c3] at hf
        refine am_aload_n (am_dec tmX6_lengthOf 9 rfl) rfl rfl ?_
        refine am_getR (j := 4) hE (am_dec tmX6_lengthOf 10 rfl) sh_24 cf6 (by decide) rfl lf_X6_24 rf_24_4 ?_
        refine am_iload_n (am_dec tmX6_lengthOf 11 rfl) rfl rfl ?_
        obtain ⟨x4, g5, hf⟩ := am_bd hf
        refine am_iald2 hE (am_dec tmX6_lengthOf 12 rfl) sh_29 g5 ?_
        refine am_goto (tgt := 30) (am_dec tmX6_lengthOf 13 rfl) (by decide) ?_
        have hf := Option.some.inj hf
        subst hf
        exact am_iret (am_dec tmX6_lengthOf 15 rfl) rfl (Nat.zero_le _) (Nat.zero_le _)
def f_X6_weightTogether_L4  (D : am_D) : Nat → Int32 → Int32 → Option (Int32)
  | 0, _, _ => none
  | n + 1, v1, v2 =>
    if (D.1 24 5) ≤ v2 then
    some (v1)
    else
    if (10 : Int32) ≤ v2 then
    some (v1)
    else
    (am_gI D 26 10 v2).bind fun x3 =>
    (am_gI D 29 10 v2).bind fun x5 =>
    (am_gI D 25 10 v2).bind fun x7 =>
    (f_X11_far x5 x7).bind fun x10 =>
    f_X6_weightTogether_L4 D n (v1 + (x3 * x10)) (v2 + (1 : Int32))
def f_X6_weightTogether (D : am_D) : Option (Int32) :=
    (f_X6_weightTogether_L4 D am_fu (0 : Int32) (0 : Int32)).bind fun e11 =>
    some e11
set_option maxRecDepth 100000 in
set_option maxHeartbeats 4000000 in
theorem l_X6_weightTogether_L4 {E : am_E} (hE : am_EH E) {d mc ms : Nat} {o : am_O} {G2 : am_G} {D2 : am_D} (hdp : 2 ≤ d)  {D : am_D}  : ∀ (n : Nat) (v1 : Int32) (v2 : Int32) (ex0 : Int32), f_X6_weightTogether_L4  D n v1 v2 = some ex0 → (∀ ex : Int32, ex0 = ex → am_S E mX6_weightTogether d mc ms o G2 D2 0 0 49 [(1, .int ex)] [] am_G0 D) → am_S E mX6_weightTogether d mc ms o G2 D2 0 0 4 [(0, .ref 24), (1, .int v1), (2, .int v2)] [] am_G0 D
  | 0, _, _, _, hf, _ => by
    unfold f_X6_weightTogether_L4 at hf
    cases hf
  | n + 1, v1, v2, ex0, hf, hk0 => by
    unfold f_X6_weightTogether_L4 at hf
    refine am_iload_n (am_dec tmX6_weightTogether 4 rfl) rfl rfl ?_
    refine am_aload_n (am_dec tmX6_weightTogether 5 rfl) rfl rfl ?_
    refine am_getI (j := 5) hE (am_dec tmX6_weightTogether 6 rfl) sh_24 cf6 (by decide) rfl lf_X6_27 ?_
    refine am_icmp_ge (tgt := 49) (am_dec tmX6_weightTogether 7 rfl) (by decide) (fun c1 => ?_) (fun c1 => ?_)
    · rw [if_pos c1] at hf
      have hf := Option.some.inj hf
      subst hf
      exact am_pick [1] rfl (hk0 _ rfl)
    · rw [if_neg c1] at hf
      refine am_iload_n (am_dec tmX6_weightTogether 8 rfl) rfl rfl ?_
      refine am_bipush (v := (10 : Int32)) (am_dec tmX6_weightTogether 9 rfl) (by decide) ?_
      refine am_icmp_ge (tgt := 49) (am_dec tmX6_weightTogether 10 rfl) (by decide) (fun c2 => ?_) (fun c2 => ?_)
      · rw [if_pos c2] at hf
        have hf := Option.some.inj hf
        subst hf
        exact am_pick [1] rfl (hk0 _ rfl)
      · rw [if_neg c2] at hf
        refine am_iload_n (am_dec tmX6_weightTogether 11 rfl) rfl rfl ?_
        refine am_aload_n (am_dec tmX6_weightTogether 12 rfl) rfl rfl ?_
        refine am_getR (j := 1) hE (am_dec tmX6_weightTogether 13 rfl) sh_24 cf6 (by decide) rfl lf_X6_15 rf_24_1 ?_
        refine am_iload_n (am_dec tmX6_weightTogether 14 rfl) rfl rfl ?_
        obtain ⟨x3, g4, hf⟩ := am_bd hf
        refine am_iald2 hE (am_dec tmX6_weightTogether 15 rfl) sh_26 g4 ?_
        refine am_aload_n (am_dec tmX6_weightTogether 16 rfl) rfl rfl ?_
        refine am_getR (j := 4) hE (am_dec tmX6_weightTogether 17 rfl) sh_24 cf6 (by decide) rfl lf_X6_24 rf_24_4 ?_
        refine am_iload_n (am_dec tmX6_weightTogether 18 rfl) rfl rfl ?_
        obtain ⟨x5, g6, hf⟩ := am_bd hf
        refine am_iald2 hE (am_dec tmX6_weightTogether 19 rfl) sh_29 g6 ?_
        refine am_aload_n (am_dec tmX6_weightTogether 20 rfl) rfl rfl ?_
        refine am_getR (j := 0) hE (am_dec tmX6_weightTogether 21 rfl) sh_24 cf6 (by decide) rfl lf_X6_9 rf_24_0 ?_
        refine am_iload_n (am_dec tmX6_weightTogether 22 rfl) rfl rfl ?_
        obtain ⟨x7, g8, hf⟩ := am_bd hf
        refine am_iald2 hE (am_dec tmX6_weightTogether 23 rfl) sh_25 g8 ?_
        obtain ⟨x10, g9, hf⟩ := am_bd hf
        refine am_callSN1 (As := [.int x5, .int x7]) (st := [.int x3, .int v1]) hE (am_dec tmX6_weightTogether 24 rfl) ok_X11_far rfl lm_X6_35 st_X11_far (c_X11_far hE g9) rfl (Nat.lt_of_lt_of_le (by decide) hdp) (Nat.le_of_ble_eq_true rfl) (Nat.zero_le _) (Nat.zero_le _) rfl ?_
        refine am_imul (am_dec tmX6_weightTogether 25 rfl) ?_
        refine am_iadd (am_dec tmX6_weightTogether 26 rfl) ?_
        refine am_istore_n (lv' := [(0, .ref 24), (1, .int (v1 + (x3 * x10))), (2, .int v2)]) (am_dec tmX6_weightTogether 27 rfl) rfl (by decide) rfl ?_
        refine am_iinc (v := (1 : Int32)) (lv' := [(0, .ref 24), (1, .int (v1 + (x3 * x10))), (2, .int (v2 + (1 : Int32)))]) (am_dec tmX6_weightTogether 28 rfl) rfl (by decide) (by decide) rfl ?_
        refine am_goto (tgt := 4) (am_dec tmX6_weightTogether 29 rfl) (by decide) ?_
        exact am_pick [0, 1, 2] rfl (l_X6_weightTogether_L4 hE hdp n (v1 + (x3 * x10)) (v2 + (1 : Int32)) ex0 hf hk0)
set_option maxRecDepth 100000 in
set_option maxHeartbeats 4000000 in
theorem c_X6_weightTogether {E : am_E} (hE : am_EH E) {D : am_D} {r : Int32}  (hf : f_X6_weightTogether D = some r) : am_C E mX6_weightTogether 2 0 0 [.ref 24] am_G0 D (.inl (some (.int r))) am_G0 D := by
  refine am_C_of (by decide +kernel) (Nat.le_of_ble_eq_true rfl) ?_
  change am_S E mX6_weightTogether 2 0 0 (.inl (some (.int r))) am_G0 D 0 0 0 [(0, .ref 24)] [] am_G0 D
  unfold f_X6_weightTogether at hf
  refine am_iconst (v := (0 : Int32)) (am_dec tmX6_weightTogether 0 rfl) (by decide) ?_
  refine am_istore_n (lv' := [(0, .ref 24), (1, .int (0 : Int32))]) (am_dec tmX6_weightTogether 1 rfl) rfl (by decide) rfl ?_
  refine am_iconst (v := (0 : Int32)) (am_dec tmX6_weightTogether 2 rfl) (by decide) ?_
  refine am_istore_n (lv' := [(0, .ref 24), (1, .int (0 : Int32)), (2, .int (0 : Int32))]) (am_dec tmX6_weightTogether 3 rfl) rfl (by decide) rfl ?_
  obtain ⟨e11, g12, hf⟩ := am_bd hf
  refine am_pick [0, 1, 2] rfl (l_X6_weightTogether_L4 hE (Nat.le_refl _) am_fu _ _ _ g12 (fun ex he => ?_))
  subst he
  refine am_iload_n (am_dec tmX6_weightTogether 30 rfl) rfl rfl ?_
  have hf := Option.some.inj hf
  subst hf
  exact am_iret (am_dec tmX6_weightTogether 31 rfl) rfl (Nat.zero_le _) (Nat.zero_le _)
def f_X9_stretchLast (r0 : Nat) (p1 : Int32) (D : am_D) : Option (am_D) :=
    if (D.1 r0 2) ≤ 0 then
    some D
    else
    if (12 : Int32) < (D.1 r0 2) then
    some D
    else
    (am_pI D (r0 + 1) 12 ((D.1 r0 2) - (1 : Int32)) p1).bind fun D3 =>
    some D3
set_option maxRecDepth 100000 in
set_option maxHeartbeats 4000000 in
theorem c_X9_stretchLast {E : am_E} (hE : am_EH E) {r0 : Nat} {p1 : Int32} {D : am_D} {r : am_D} (h_r0 : am_sh am_G0 r0 = some (9, 3)) (hf : f_X9_stretchLast r0 p1 D = some r) : am_C E mX9_stretchLast 1 0 0 [.ref r0, .int p1] am_G0 D (.inl none) am_G0 r := by
  refine am_C_of (by decide +kernel) (Nat.le_of_ble_eq_true rfl) ?_
  change am_S E mX9_stretchLast 1 0 0 (.inl none) am_G0 r 0 0 0 [(0, .ref r0), (1, .int p1)] [] am_G0 D
  unfold f_X9_stretchLast at hf
  refine am_aload_n (am_dec tmX9_stretchLast 0 rfl) rfl rfl ?_
  refine am_getI (j := 2) hE (am_dec tmX9_stretchLast 1 rfl) h_r0 cf9 (by decide) rfl lf_X9_18 ?_
  refine am_if_le (tgt := 31) (am_dec tmX9_stretchLast 2 rfl) (by decide) (fun c1 => ?_) (fun c1 => ?_)
  · rw [if_pos c1] at hf
    have hf := Option.some.inj hf
    subst hf
    exact am_vret (am_dec tmX9_stretchLast 17 rfl) rfl (Nat.zero_le _) (Nat.zero_le _)
  · rw [if_neg c1] at hf
    refine am_aload_n (am_dec tmX9_stretchLast 3 rfl) rfl rfl ?_
    refine am_getI (j := 2) hE (am_dec tmX9_stretchLast 4 rfl) h_r0 cf9 (by decide) rfl lf_X9_18 ?_
    refine am_aload_n (am_dec tmX9_stretchLast 5 rfl) rfl rfl ?_
    refine am_getR (j := 0) hE (am_dec tmX9_stretchLast 6 rfl) h_r0 cf9 (by decide) rfl lf_X9_9 (ro_X9_0_0 h_r0) ?_
    refine am_alen (t := 0) (v := (12 : Int32)) hE (am_dec tmX9_stretchLast 7 rfl) (so_X9_1 h_r0) (by decide) (by decide) ?_
    refine am_icmp_gt (tgt := 31) (am_dec tmX9_stretchLast 8 rfl) (by decide) (fun c2 => ?_) (fun c2 => ?_)
    · rw [if_pos c2] at hf
      have hf := Option.some.inj hf
      subst hf
      exact am_vret (am_dec tmX9_stretchLast 17 rfl) rfl (Nat.zero_le _) (Nat.zero_le _)
    · rw [if_neg c2] at hf
      refine am_aload_n (am_dec tmX9_stretchLast 9 rfl) rfl rfl ?_
      refine am_getR (j := 0) hE (am_dec tmX9_stretchLast 10 rfl) h_r0 cf9 (by decide) rfl lf_X9_9 (ro_X9_0_0 h_r0) ?_
      refine am_aload_n (am_dec tmX9_stretchLast 11 rfl) rfl rfl ?_
      refine am_getI (j := 2) hE (am_dec tmX9_stretchLast 12 rfl) h_r0 cf9 (by decide) rfl lf_X9_18 ?_
      refine am_iconst (v := (1 : Int32)) (am_dec tmX9_stretchLast 13 rfl) (by decide) ?_
      refine am_isub (am_dec tmX9_stretchLast 14 rfl) ?_
      refine am_iload_n (am_dec tmX9_stretchLast 15 rfl) rfl rfl ?_
      obtain ⟨D3, g4, hf⟩ := am_bd hf
      refine am_iast2 hE (am_dec tmX9_stretchLast 16 rfl) (so_X9_1 h_r0) g4 ?_
      have hf := Option.some.inj hf
      subst hf
      exact am_vret (am_dec tmX9_stretchLast 17 rfl) rfl (Nat.zero_le _) (Nat.zero_le _)
def f_X6_intoMap_L11 (q1 : Nat) : Nat → Int32 → Int32 → Int32 → am_D → Option (Int32 × Int32 × am_D)
  | 0, _, _, _, _ => none
  | n + 1, v2, v3, v4, D =>
    if (D.1 24 5) ≤ v4 then
    some (v2, v3, D)
    else
    if (10 : Int32) ≤ v4 then
    some (v2, v3, D)
    else
    (am_gI D 25 10 v4).bind fun x5 =>
    (am_gI D 29 10 v4).bind fun x7 =>
    (am_gI D 29 10 v4).bind fun x9 =>
    (if x9 ≤ 0 then
    some (D)
    else
    (f_X9_add q1 (v2 + x5) (v3 + x7) D).bind fun x14 =>
    some (x14)).bind fun w15 =>
    f_X6_intoMap_L11 q1 n (v2 + x5) (v3 + x7) (v4 + (1 : Int32)) w15
def f_X6_intoMap (p1 : Nat) (D : am_D) : Option ((Int32 × am_D)) :=
    (f_X9_clear p1 D).bind fun x2 =>
    (f_X6_intoMap_L11 p1 am_fu (0 : Int32) (0 : Int32) (0 : Int32) x2).bind fun e17 =>
    (f_X9_stretchLast p1 e17.1 e17.2.2).bind fun x19 =>
    if (x19.1 p1 2) ≤ 0 then
    some ((0 : Int32), x19)
    else
    if (600 : Int32) < e17.1 then
    some ((0 : Int32), x19)
    else
    if (1200 : Int32) < e17.2.1 then
    some ((0 : Int32), x19)
    else
    some ((1 : Int32), x19)
set_option maxRecDepth 100000 in
set_option maxHeartbeats 4000000 in
theorem l_X6_intoMap_L11 {E : am_E} (hE : am_EH E) {d mc ms : Nat} {o : am_O} {G2 : am_G} {D2 : am_D} (hdp : 2 ≤ d) {q1 : Nat} (h_q1 : am_sh am_G0 q1 = some (9, 3)) : ∀ (n : Nat) (v2 : Int32) (v3 : Int32) (v4 : Int32) (D : am_D) (ex0 : Int32 × Int32 × am_D), f_X6_intoMap_L11 q1 n v2 v3 v4 D = some ex0 → (∀ ex : Int32 × Int32 × am_D, ex0 = ex → am_S E mX6_intoMap d mc ms o G2 D2 0 0 69 [(1, .ref q1), (2, .int ex.1), (3, .int ex.2.1)] [] am_G0 ex.2.2) → am_S E mX6_intoMap d mc ms o G2 D2 0 0 11 [(0, .ref 24), (1, .ref q1), (2, .int v2), (3, .int v3), (4, .int v4)] [] am_G0 D
  | 0, _, _, _, _, _, hf, _ => by
    unfold f_X6_intoMap_L11 at hf
    cases hf
  | n + 1, v2, v3, v4, D, ex0, hf, hk0 => by
    unfold f_X6_intoMap_L11 at hf
    refine am_iload (am_dec tmX6_intoMap 8 rfl) rfl ?_
    refine am_aload_n (am_dec tmX6_intoMap 9 rfl) rfl rfl ?_
    refine am_getI (j := 5) hE (am_dec tmX6_intoMap 10 rfl) sh_24 cf6 (by decide) rfl lf_X6_27 ?_
    refine am_icmp_ge (tgt := 69) (am_dec tmX6_intoMap 11 rfl) (by decide) (fun c3 => ?_) (fun c3 => ?_)
    · rw [if_pos c3] at hf
      have hf := Option.some.inj hf
      subst hf
      exact am_pick [1, 2, 3] rfl (hk0 _ rfl)
    · rw [if_neg c3] at hf
      refine am_iload (am_dec tmX6_intoMap 12 rfl) rfl ?_
      refine am_bipush (v := (10 : Int32)) (am_dec tmX6_intoMap 13 rfl) (by decide) ?_
      refine am_icmp_ge (tgt := 69) (am_dec tmX6_intoMap 14 rfl) (by decide) (fun c4 => ?_) (fun c4 => ?_)
      · rw [if_pos c4] at hf
        have hf := Option.some.inj hf
        subst hf
        exact am_pick [1, 2, 3] rfl (hk0 _ rfl)
      · rw [if_neg c4] at hf
        refine am_iload_n (am_dec tmX6_intoMap 15 rfl) rfl rfl ?_
        refine am_aload_n (am_dec tmX6_intoMap 16 rfl) rfl rfl ?_
        refine am_getR (j := 0) hE (am_dec tmX6_intoMap 17 rfl) sh_24 cf6 (by decide) rfl lf_X6_9 rf_24_0 ?_
        refine am_iload (am_dec tmX6_intoMap 18 rfl) rfl ?_
        obtain ⟨x5, g6, hf⟩ := am_bd hf
        refine am_iald2 hE (am_dec tmX6_intoMap 19 rfl) sh_25 g6 ?_
        refine am_iadd (am_dec tmX6_intoMap 20 rfl) ?_
        refine am_istore_n (lv' := [(0, .ref 24), (1, .ref q1), (2, .int (v2 + x5)), (3, .int v3), (4, .int v4)]) (am_dec tmX6_intoMap 21 rfl) rfl (by decide) rfl ?_
        refine am_iload_n (am_dec tmX6_intoMap 22 rfl) rfl rfl ?_
        refine am_aload_n (am_dec tmX6_intoMap 23 rfl) rfl rfl ?_
        refine am_getR (j := 4) hE (am_dec tmX6_intoMap 24 rfl) sh_24 cf6 (by decide) rfl lf_X6_24 rf_24_4 ?_
        refine am_iload (am_dec tmX6_intoMap 25 rfl) rfl ?_
        obtain ⟨x7, g8, hf⟩ := am_bd hf
        refine am_iald2 hE (am_dec tmX6_intoMap 26 rfl) sh_29 g8 ?_
        refine am_iadd (am_dec tmX6_intoMap 27 rfl) ?_
        refine am_istore_n (lv' := [(0, .ref 24), (1, .ref q1), (2, .int (v2 + x5)), (3, .int (v3 + x7)), (4, .int v4)]) (am_dec tmX6_intoMap 28 rfl) rfl (by decide) rfl ?_
        refine am_aload_n (am_dec tmX6_intoMap 29 rfl) rfl rfl ?_
        refine am_getR (j := 4) hE (am_dec tmX6_intoMap 30 rfl) sh_24 cf6 (by decide) rfl lf_X6_24 rf_24_4 ?_
        refine am_iload (am_dec tmX6_intoMap 31 rfl) rfl ?_
        obtain ⟨x9, g10, hf⟩ := am_bd hf
        refine am_iald2 hE (am_dec tmX6_intoMap 32 rfl) sh_29 g10 ?_
        obtain ⟨w15, g16, hf⟩ := am_bd hf
        have key12 : am_S E mX6_intoMap d mc ms o G2 D2 0 0 63 [(0, .ref 24), (1, .ref q1), (2, .int (v2 + x5)), (3, .int (v3 + x7)), (4, .int v4)] [] am_G0 w15 := by
          refine am_iinc (v := (1 : Int32)) (lv' := [(0, .ref 24), (1, .ref q1), (2, .int (v2 + x5)), (3, .int (v3 + x7)), (4, .int (v4 + (1 : Int32)))]) (am_dec tmX6_intoMap 38 rfl) rfl (by decide) (by decide) rfl ?_
          refine am_goto (tgt := 11) (am_dec tmX6_intoMap 39 rfl) (by decide) ?_
          exact am_pick [0, 1, 2, 3, 4] rfl (l_X6_intoMap_L11 hE hdp h_q1 n (v2 + x5) (v3 + x7) (v4 + (1 : Int32)) w15 ex0 hf hk0)
        replace hf := g16
        refine am_if_le (tgt := 63) (am_dec tmX6_intoMap 33 rfl) (by decide) (fun c11 => ?_) (fun c11 => ?_)
        · rw [if_pos c11] at hf
          have hf := Option.some.inj hf
          subst hf
          exact am_pick [0, 1, 2, 3, 4] rfl key12
        · rw [if_neg c11] at hf
          refine am_aload_n (am_dec tmX6_intoMap 34 rfl) rfl rfl ?_
          refine am_iload_n (am_dec tmX6_intoMap 35 rfl) rfl rfl ?_
          refine am_iload_n (am_dec tmX6_intoMap 36 rfl) rfl rfl ?_
          obtain ⟨x14, g13, hf⟩ := am_bd hf
          refine am_callV0 (As := [.int (v2 + x5), .int (v3 + x7)]) (st := []) hE (am_dec tmX6_intoMap 37 rfl) ok_X9_add rfl lm_X6_44 in_X9_add se_X9_add h_q1 cf9 (c_X9_add hE h_q1 g13) rfl (Nat.lt_of_lt_of_le (by decide) hdp) (Nat.le_of_ble_eq_true rfl) (Nat.zero_le _) (Nat.zero_le _) rfl ?_
          have hf := Option.some.inj hf
          subst hf
          exact am_pick [0, 1, 2, 3, 4] rfl key12
set_option maxRecDepth 100000 in
set_option maxHeartbeats 4000000 in
theorem c_X6_intoMap {E : am_E} (hE : am_EH E) {p1 : Nat} {D : am_D} {r : (Int32 × am_D)} (h_p1 : am_sh am_G0 p1 = some (9, 3)) (hf : f_X6_intoMap p1 D = some r) : am_C E mX6_intoMap 2 0 0 [.ref 24, .ref p1] am_G0 D (.inl (some (.int r.1))) am_G0 r.2 := by
  refine am_C_of (by decide +kernel) (Nat.le_of_ble_eq_true rfl) ?_
  change am_S E mX6_intoMap 2 0 0 (.inl (some (.int r.1))) am_G0 r.2 0 0 0 [(0, .ref 24), (1, .ref p1)] [] am_G0 D
  unfold f_X6_intoMap at hf
  refine am_iconst (v := (0 : Int32)) (am_dec tmX6_intoMap 0 rfl) (by decide) ?_
  refine am_istore_n (lv' := [(0, .ref 24), (1, .ref p1), (2, .int (0 : Int32))]) (am_dec tmX6_intoMap 1 rfl) rfl (by decide) rfl ?_
  refine am_iconst (v := (0 : Int32)) (am_dec tmX6_intoMap 2 rfl) (by decide) ?_
  refine am_istore_n (lv' := [(0, .ref 24), (1, .ref p1), (2, .int (0 : Int32)), (3, .int (0 : Int32))]) (am_dec tmX6_intoMap 3 rfl) rfl (by decide) rfl ?_
  refine am_aload_n (am_dec tmX6_intoMap 4 rfl) rfl rfl ?_
  obtain ⟨x2, g1, hf⟩ := am_bd hf
  refine am_callV0 (As := []) (st := []) hE (am_dec tmX6_intoMap 5 rfl) ok_X9_clear rfl lm_X6_39 in_X9_clear se_X9_clear h_p1 cf9 (c_X9_clear hE h_p1 g1) rfl (by decide) (Nat.le_of_ble_eq_true rfl) (Nat.zero_le _) (Nat.zero_le _) rfl ?_
  refine am_iconst (v := (0 : Int32)) (am_dec tmX6_intoMap 6 rfl) (by decide) ?_
  refine am_istore (lv' := [(0, .ref 24), (1, .ref p1), (2, .int (0 : Int32)), (3, .int (0 : Int32)), (4, .int (0 : Int32))]) (am_dec tmX6_intoMap 7 rfl) (by decide) rfl ?_
  obtain ⟨e17, g23, hf⟩ := am_bd hf
  refine am_pick [0, 1, 2, 3, 4] rfl (l_X6_intoMap_L11 hE (Nat.le_refl _) h_p1 am_fu _ _ _ _ _ g23 (fun ex he => ?_))
  subst he
  refine am_aload_n (am_dec tmX6_intoMap 40 rfl) rfl rfl ?_
  refine am_iload_n (am_dec tmX6_intoMap 41 rfl) rfl rfl ?_
  obtain ⟨x19, g18, hf⟩ := am_bd hf
  refine am_callV0 (As := [.int e17.1]) (st := []) hE (am_dec tmX6_intoMap 42 rfl) ok_X9_stretchLast rfl lm_X6_48 in_X9_stretchLast se_X9_stretchLast h_p1 cf9 (c_X9_stretchLast hE h_p1 g18) rfl (by decide) (Nat.le_of_ble_eq_true rfl) (Nat.zero_le _) (Nat.zero_le _) rfl ?_
  refine am_aload_n (am_dec tmX6_intoMap 43 rfl) rfl rfl ?_
  refine am_getI (j := 2) hE (am_dec tmX6_intoMap 44 rfl) h_p1 cf9 (by decide) rfl lf_X6_52 ?_
  refine am_if_le (tgt := 99) (am_dec tmX6_intoMap 45 rfl) (by decide) (fun c20 => ?_) (fun c20 => ?_)
  · rw [if_pos c20] at hf
    refine am_iconst (v := (0 : Int32)) (am_dec tmX6_intoMap 54 rfl) (by decide) ?_
    have hf := Option.some.inj hf
    subst hf
    exact am_zret (am_dec tmX6_intoMap 55 rfl) rfl am_z0 (Nat.zero_le _) (Nat.zero_le _)
  · rw [if_neg c20] at hf
    refine am_iload_n (am_dec tmX6_intoMap 46 rfl) rfl rfl ?_
    refine am_sipush (v := (600 : Int32)) (am_dec tmX6_intoMap 47 rfl) (by decide) ?_
    refine am_icmp_gt (tgt := 99) (am_dec tmX6_intoMap 48 rfl) (by decide) (fun c21 => ?_) (fun c21 => ?_)
    · rw [if_pos c21] at hf
      refine am_iconst (v := (0 : Int32)) (am_dec tmX6_intoMap 54 rfl) (by decide) ?_
      have hf := Option.some.inj hf
      subst hf
      exact am_zret (am_dec tmX6_intoMap 55 rfl) rfl am_z0 (Nat.zero_le _) (Nat.zero_le _)
    · rw [if_neg c21] at hf
      refine am_iload_n (am_dec tmX6_intoMap 49 rfl) rfl rfl ?_
      refine am_sipush (v := (1200 : Int32)) (am_dec tmX6_intoMap 50 rfl) (by decide) ?_
      refine am_icmp_gt (tgt := 99) (am_dec tmX6_intoMap 51 rfl) (by decide) (fun c22 => ?_) (fun c22 => ?_)
      · rw [if_pos c22] at hf
        refine am_iconst (v := (0 : Int32)) (am_dec tmX6_intoMap 54 rfl) (by decide) ?_
        have hf := Option.some.inj hf
        subst hf
        exact am_zret (am_dec tmX6_intoMap 55 rfl) rfl am_z0 (Nat.zero_le _) (Nat.zero_le _)
      · rw [if_neg c22] at hf
        refine am_iconst (v := (1 : Int32)) (am_dec tmX6_intoMap 52 rfl) (by decide) ?_
        refine am_goto (tgt := 100) (am_dec tmX6_intoMap 53 rfl) (by decide) ?_
        have hf := Option.some.inj hf
        subst hf
        exact am_zret (am_dec tmX6_intoMap 55 rfl) rfl am_z1 (Nat.zero_le _) (Nat.zero_le _)
theorem z_X6_intoMap {p1 : Nat} {D : am_D} {r : (Int32 × am_D)} (hf : f_X6_intoMap p1 D = some r) : narrow .boolean (.int r.1) = .int r.1 := by
  unfold f_X6_intoMap at hf
  obtain ⟨x2, g1, hf⟩ := am_bd hf
  obtain ⟨e17, g23, hf⟩ := am_bd hf
  obtain ⟨x19, g18, hf⟩ := am_bd hf
  by_cases c20 : (x19.1 p1 2) ≤ 0
  · rw [if_pos c20] at hf
    have hf := Option.some.inj hf
    subst hf
    exact am_z0
  · rw [if_neg c20] at hf
    by_cases c21 : (600 : Int32) < e17.1
    · rw [if_pos c21] at hf
      have hf := Option.some.inj hf
      subst hf
      exact am_z0
    · rw [if_neg c21] at hf
      by_cases c22 : (1200 : Int32) < e17.2.1
      · rw [if_pos c22] at hf
        have hf := Option.some.inj hf
        subst hf
        exact am_z0
      · rw [if_neg c22] at hf
        have hf := Option.some.inj hf
        subst hf
        exact am_z1
def f_X7_add (r0 : Nat) (p1 : Int32) (D : am_D) : Option (am_D) :=
    if (D.1 r0 1) < 0 then
    some D
    else
    if (Int32.ofNat (am_ln (r0 + 1))) ≤ (D.1 r0 1) then
    some D
    else
    (am_pI D (r0 + 1) (am_ln (r0 + 1)) (D.1 r0 1) p1).bind fun D3 =>
    (some (am_wI D3 r0 1 ((D3.1 r0 1) + (1 : Int32)))).bind fun D5 =>
    some D5
set_option maxRecDepth 100000 in
set_option maxHeartbeats 4000000 in
theorem c_X7_add {E : am_E} (hE : am_EH E) {r0 : Nat} {p1 : Int32} {D : am_D} {r : am_D} (h_r0 : am_sh am_G0 r0 = some (7, 2)) (hf : f_X7_add r0 p1 D = some r) : am_C E mX7_add 1 0 0 [.ref r0, .int p1] am_G0 D (.inl none) am_G0 r := by
  refine am_C_of (by decide +kernel) (Nat.le_of_ble_eq_true rfl) ?_
  change am_S E mX7_add 1 0 0 (.inl none) am_G0 r 0 0 0 [(0, .ref r0), (1, .int p1)] [] am_G0 D
  unfold f_X7_add at hf
  refine am_aload_n (am_dec tmX7_add 0 rfl) rfl rfl ?_
  refine am_getI (j := 1) hE (am_dec tmX7_add 1 rfl) h_r0 cf7 (by decide) rfl lf_X7_25 ?_
  refine am_if_lt (tgt := 39) (am_dec tmX7_add 2 rfl) (by decide) (fun c1 => ?_) (fun c1 => ?_)
  · rw [if_pos c1] at hf
    have hf := Option.some.inj hf
    subst hf
    exact am_vret (am_dec tmX7_add 21 rfl) rfl (Nat.zero_le _) (Nat.zero_le _)
  · rw [if_neg c1] at hf
    refine am_aload_n (am_dec tmX7_add 3 rfl) rfl rfl ?_
    refine am_getI (j := 1) hE (am_dec tmX7_add 4 rfl) h_r0 cf7 (by decide) rfl lf_X7_25 ?_
    refine am_aload_n (am_dec tmX7_add 5 rfl) rfl rfl ?_
    refine am_getR (j := 0) hE (am_dec tmX7_add 6 rfl) h_r0 cf7 (by decide) rfl lf_X7_15 (ro_X7_0_0 h_r0) ?_
    refine am_alen (t := 0) (v := (Int32.ofNat (am_ln (r0 + 1)))) hE (am_dec tmX7_add 7 rfl) (so_X7_1 h_r0) (by decide) rfl ?_
    refine am_icmp_ge (tgt := 39) (am_dec tmX7_add 8 rfl) (by decide) (fun c2 => ?_) (fun c2 => ?_)
    · rw [if_pos c2] at hf
      have hf := Option.some.inj hf
      subst hf
      exact am_vret (am_dec tmX7_add 21 rfl) rfl (Nat.zero_le _) (Nat.zero_le _)
    · rw [if_neg c2] at hf
      refine am_aload_n (am_dec tmX7_add 9 rfl) rfl rfl ?_
      refine am_getR (j := 0) hE (am_dec tmX7_add 10 rfl) h_r0 cf7 (by decide) rfl lf_X7_15 (ro_X7_0_0 h_r0) ?_
      refine am_aload_n (am_dec tmX7_add 11 rfl) rfl rfl ?_
      refine am_getI (j := 1) hE (am_dec tmX7_add 12 rfl) h_r0 cf7 (by decide) rfl lf_X7_25 ?_
      refine am_iload_n (am_dec tmX7_add 13 rfl) rfl rfl ?_
      obtain ⟨D3, g4, hf⟩ := am_bd hf
      refine am_iast2 hE (am_dec tmX7_add 14 rfl) (so_X7_1 h_r0) g4 ?_
      refine am_aload_n (am_dec tmX7_add 15 rfl) rfl rfl ?_
      refine am_dup (am_dec tmX7_add 16 rfl) rfl ?_
      refine am_getI (j := 1) hE (am_dec tmX7_add 17 rfl) h_r0 cf7 (by decide) rfl lf_X7_25 ?_
      refine am_iconst (v := (1 : Int32)) (am_dec tmX7_add 18 rfl) (by decide) ?_
      refine am_iadd (am_dec tmX7_add 19 rfl) ?_
      obtain ⟨D5, g6, hf⟩ := am_bd hf
      refine am_putI2 (j := 1) hE (am_dec tmX7_add 20 rfl) h_r0 cf7 (by decide) rfl lf_X7_25 rfl rfl rfl g6 ?_
      have hf := Option.some.inj hf
      subst hf
      exact am_vret (am_dec tmX7_add 21 rfl) rfl (Nat.zero_le _) (Nat.zero_le _)
def f_X7_toldAt (r0 : Nat) (p1 : Int32) (D : am_D) : Option (Int32) :=
    if p1 < 0 then
    some (-5000 : Int32)
    else
    if (D.1 r0 1) ≤ p1 then
    some (-5000 : Int32)
    else
    (f_X7_at r0 p1 D).bind fun x4 =>
    some x4
set_option maxRecDepth 100000 in
set_option maxHeartbeats 4000000 in
theorem c_X7_toldAt {E : am_E} (hE : am_EH E) {r0 : Nat} {p1 : Int32} {D : am_D} {r : Int32} (h_r0 : am_sh am_G0 r0 = some (7, 2)) (hf : f_X7_toldAt r0 p1 D = some r) : am_C E mX7_toldAt 2 0 0 [.ref r0, .int p1] am_G0 D (.inl (some (.int r))) am_G0 D := by
  refine am_C_of (by decide +kernel) (Nat.le_of_ble_eq_true rfl) ?_
  change am_S E mX7_toldAt 2 0 0 (.inl (some (.int r))) am_G0 D 0 0 0 [(0, .ref r0), (1, .int p1)] [] am_G0 D
  unfold f_X7_toldAt at hf
  refine am_iload_n (am_dec tmX7_toldAt 0 rfl) rfl rfl ?_
  refine am_if_lt (tgt := 20) (am_dec tmX7_toldAt 1 rfl) (by decide) (fun c1 => ?_) (fun c1 => ?_)
  · rw [if_pos c1] at hf
    refine am_sipush (v := (-5000 : Int32)) (am_dec tmX7_toldAt 10 rfl) (by decide) ?_
    have hf := Option.some.inj hf
    subst hf
    exact am_iret (am_dec tmX7_toldAt 11 rfl) rfl (Nat.zero_le _) (Nat.zero_le _)
  · rw [if_neg c1] at hf
    refine am_iload_n (am_dec tmX7_toldAt 2 rfl) rfl rfl ?_
    refine am_aload_n (am_dec tmX7_toldAt 3 rfl) rfl rfl ?_
    refine am_getI (j := 1) hE (am_dec tmX7_toldAt 4 rfl) h_r0 cf7 (by decide) rfl lf_X7_25 ?_
    refine am_icmp_ge (tgt := 20) (am_dec tmX7_toldAt 5 rfl) (by decide) (fun c2 => ?_) (fun c2 => ?_)
    · rw [if_pos c2] at hf
      refine am_sipush (v := (-5000 : Int32)) (am_dec tmX7_toldAt 10 rfl) (by decide) ?_
      have hf := Option.some.inj hf
      subst hf
      exact am_iret (am_dec tmX7_toldAt 11 rfl) rfl (Nat.zero_le _) (Nat.zero_le _)
    · rw [if_neg c2] at hf
      refine am_aload_n (am_dec tmX7_toldAt 6 rfl) rfl rfl ?_
      refine am_iload_n (am_dec tmX7_toldAt 7 rfl) rfl rfl ?_
      obtain ⟨x4, g3, hf⟩ := am_bd hf
      refine am_callV1 (As := [.int p1]) (st := []) hE (am_dec tmX7_toldAt 8 rfl) ok_X7_at rfl lm_X7_35 in_X7_at se_X7_at h_r0 cf7 (c_X7_at hE h_r0 g3) rfl (by decide) (Nat.le_of_ble_eq_true rfl) (Nat.zero_le _) (Nat.zero_le _) rfl ?_
      refine am_goto (tgt := 23) (am_dec tmX7_toldAt 9 rfl) (by decide) ?_
      have hf := Option.some.inj hf
      subst hf
      exact am_iret (am_dec tmX7_toldAt 11 rfl) rfl (Nat.zero_le _) (Nat.zero_le _)
def f_X7_holds (r0 : Nat) (p1 : Int32) (p2 : Int32) (D : am_D) : Option (Int32) :=
    if p1 < 0 then
    some (0 : Int32)
    else
    if p2 < 0 then
    some (0 : Int32)
    else
    if (D.1 r0 1) < p1 then
    some (0 : Int32)
    else
    if ((D.1 r0 1) - p1) < p2 then
    some (0 : Int32)
    else
    some (1 : Int32)
set_option maxRecDepth 100000 in
set_option maxHeartbeats 4000000 in
theorem c_X7_holds {E : am_E} (hE : am_EH E) {r0 : Nat} {p1 : Int32} {p2 : Int32} {D : am_D} {r : Int32} (h_r0 : am_sh am_G0 r0 = some (7, 2)) (hf : f_X7_holds r0 p1 p2 D = some r) : am_C E mX7_holds 1 0 0 [.ref r0, .int p1, .int p2] am_G0 D (.inl (some (.int r))) am_G0 D := by
  refine am_C_of (by decide +kernel) (Nat.le_of_ble_eq_true rfl) ?_
  change am_S E mX7_holds 1 0 0 (.inl (some (.int r))) am_G0 D 0 0 0 [(0, .ref r0), (1, .int p1), (2, .int p2)] [] am_G0 D
  unfold f_X7_holds at hf
  refine am_iload_n (am_dec tmX7_holds 0 rfl) rfl rfl ?_
  refine am_if_lt (tgt := 30) (am_dec tmX7_holds 1 rfl) (by decide) (fun c1 => ?_) (fun c1 => ?_)
  · rw [if_pos c1] at hf
    refine am_iconst (v := (0 : Int32)) (am_dec tmX7_holds 16 rfl) (by decide) ?_
    have hf := Option.some.inj hf
    subst hf
    exact am_zret (am_dec tmX7_holds 17 rfl) rfl am_z0 (Nat.zero_le _) (Nat.zero_le _)
  · rw [if_neg c1] at hf
    refine am_iload_n (am_dec tmX7_holds 2 rfl) rfl rfl ?_
    refine am_if_lt (tgt := 30) (am_dec tmX7_holds 3 rfl) (by decide) (fun c2 => ?_) (fun c2 => ?_)
    · rw [if_pos c2] at hf
      refine am_iconst (v := (0 : Int32)) (am_dec tmX7_holds 16 rfl) (by decide) ?_
      have hf := Option.some.inj hf
      subst hf
      exact am_zret (am_dec tmX7_holds 17 rfl) rfl am_z0 (Nat.zero_le _) (Nat.zero_le _)
    · rw [if_neg c2] at hf
      refine am_iload_n (am_dec tmX7_holds 4 rfl) rfl rfl ?_
      refine am_aload_n (am_dec tmX7_holds 5 rfl) rfl rfl ?_
      refine am_getI (j := 1) hE (am_dec tmX7_holds 6 rfl) h_r0 cf7 (by decide) rfl lf_X7_25 ?_
      refine am_icmp_gt (tgt := 30) (am_dec tmX7_holds 7 rfl) (by decide) (fun c3 => ?_) (fun c3 => ?_)
      · rw [if_pos c3] at hf
        refine am_iconst (v := (0 : Int32)) (am_dec tmX7_holds 16 rfl) (by decide) ?_
        have hf := Option.some.inj hf
        subst hf
        exact am_zret (am_dec tmX7_holds 17 rfl) rfl am_z0 (Nat.zero_le _) (Nat.zero_le _)
      · rw [if_neg c3] at hf
        refine am_iload_n (am_dec tmX7_holds 8 rfl) rfl rfl ?_
        refine am_aload_n (am_dec tmX7_holds 9 rfl) rfl rfl ?_
        refine am_getI (j := 1) hE (am_dec tmX7_holds 10 rfl) h_r0 cf7 (by decide) rfl lf_X7_25 ?_
        refine am_iload_n (am_dec tmX7_holds 11 rfl) rfl rfl ?_
        refine am_isub (am_dec tmX7_holds 12 rfl) ?_
        refine am_icmp_gt (tgt := 30) (am_dec tmX7_holds 13 rfl) (by decide) (fun c4 => ?_) (fun c4 => ?_)
        · rw [if_pos c4] at hf
          refine am_iconst (v := (0 : Int32)) (am_dec tmX7_holds 16 rfl) (by decide) ?_
          have hf := Option.some.inj hf
          subst hf
          exact am_zret (am_dec tmX7_holds 17 rfl) rfl am_z0 (Nat.zero_le _) (Nat.zero_le _)
        · rw [if_neg c4] at hf
          refine am_iconst (v := (1 : Int32)) (am_dec tmX7_holds 14 rfl) (by decide) ?_
          refine am_goto (tgt := 31) (am_dec tmX7_holds 15 rfl) (by decide) ?_
          have hf := Option.some.inj hf
          subst hf
          exact am_zret (am_dec tmX7_holds 17 rfl) rfl am_z1 (Nat.zero_le _) (Nat.zero_le _)
theorem z_X7_holds {r0 : Nat} {p1 : Int32} {p2 : Int32} {D : am_D} {r : Int32} (hf : f_X7_holds r0 p1 p2 D = some r) : narrow .boolean (.int r) = .int r := by
  unfold f_X7_holds at hf
  by_cases c1 : p1 < 0
  · rw [if_pos c1] at hf
    have hf := Option.some.inj hf
    subst hf
    exact am_z0
  · rw [if_neg c1] at hf
    by_cases c2 : p2 < 0
    · rw [if_pos c2] at hf
      have hf := Option.some.inj hf
      subst hf
      exact am_z0
    · rw [if_neg c2] at hf
      by_cases c3 : (D.1 r0 1) < p1
      · rw [if_pos c3] at hf
        have hf := Option.some.inj hf
        subst hf
        exact am_z0
      · rw [if_neg c3] at hf
        by_cases c4 : ((D.1 r0 1) - p1) < p2
        · rw [if_pos c4] at hf
          have hf := Option.some.inj hf
          subst hf
          exact am_z0
        · rw [if_neg c4] at hf
          have hf := Option.some.inj hf
          subst hf
          exact am_z1
def f_X7_widestStep_L4 (q0 : Nat) (D : am_D) : Nat → Int32 → Int32 → Option (Int32)
  | 0, _, _ => none
  | n + 1, v1, v2 =>
    if (D.1 q0 1) ≤ v2 then
    some (v1)
    else
    (f_X7_at q0 v2 D).bind fun x3 =>
    (f_X7_at q0 (v2 - (1 : Int32)) D).bind fun x5 =>
    (f_X11_far x3 x5).bind fun x7 =>
    f_X7_widestStep_L4 q0 D n (am_mx v1 x7) (v2 + (1 : Int32))
def f_X7_widestStep (r0 : Nat) (D : am_D) : Option (Int32) :=
    (f_X7_widestStep_L4 r0 D am_fu (0 : Int32) (1 : Int32)).bind fun e8 =>
    some e8
set_option maxRecDepth 100000 in
set_option maxHeartbeats 4000000 in
theorem l_X7_widestStep_L4 {E : am_E} (hE : am_EH E) {d mc ms : Nat} {o : am_O} {G2 : am_G} {D2 : am_D} (hdp : 2 ≤ d) {q0 : Nat} {D : am_D} (h_q0 : am_sh am_G0 q0 = some (7, 2)) : ∀ (n : Nat) (v1 : Int32) (v2 : Int32) (ex0 : Int32), f_X7_widestStep_L4 q0 D n v1 v2 = some ex0 → (∀ ex : Int32, ex0 = ex → am_S E mX7_widestStep d mc ms o G2 D2 0 0 38 [(1, .int ex)] [] am_G0 D) → am_S E mX7_widestStep d mc ms o G2 D2 0 0 4 [(0, .ref q0), (1, .int v1), (2, .int v2)] [] am_G0 D
  | 0, _, _, _, hf, _ => by
    unfold f_X7_widestStep_L4 at hf
    cases hf
  | n + 1, v1, v2, ex0, hf, hk0 => by
    unfold f_X7_widestStep_L4 at hf
    refine am_iload_n (am_dec tmX7_widestStep 4 rfl) rfl rfl ?_
    refine am_aload_n (am_dec tmX7_widestStep 5 rfl) rfl rfl ?_
    refine am_getI (j := 1) hE (am_dec tmX7_widestStep 6 rfl) h_q0 cf7 (by decide) rfl lf_X7_25 ?_
    refine am_icmp_ge (tgt := 38) (am_dec tmX7_widestStep 7 rfl) (by decide) (fun c1 => ?_) (fun c1 => ?_)
    · rw [if_pos c1] at hf
      have hf := Option.some.inj hf
      subst hf
      exact am_pick [1] rfl (hk0 _ rfl)
    · rw [if_neg c1] at hf
      refine am_iload_n (am_dec tmX7_widestStep 8 rfl) rfl rfl ?_
      refine am_aload_n (am_dec tmX7_widestStep 9 rfl) rfl rfl ?_
      refine am_iload_n (am_dec tmX7_widestStep 10 rfl) rfl rfl ?_
      obtain ⟨x3, g2, hf⟩ := am_bd hf
      refine am_callV1 (As := [.int v2]) (st := [.int v1]) hE (am_dec tmX7_widestStep 11 rfl) ok_X7_at rfl lm_X7_35 in_X7_at se_X7_at h_q0 cf7 (c_X7_at hE h_q0 g2) rfl (Nat.lt_of_lt_of_le (by decide) hdp) (Nat.le_of_ble_eq_true rfl) (Nat.zero_le _) (Nat.zero_le _) rfl ?_
      refine am_aload_n (am_dec tmX7_widestStep 12 rfl) rfl rfl ?_
      refine am_iload_n (am_dec tmX7_widestStep 13 rfl) rfl rfl ?_
      refine am_iconst (v := (1 : Int32)) (am_dec tmX7_widestStep 14 rfl) (by decide) ?_
      refine am_isub (am_dec tmX7_widestStep 15 rfl) ?_
      obtain ⟨x5, g4, hf⟩ := am_bd hf
      refine am_callV1 (As := [.int (v2 - (1 : Int32))]) (st := [.int x3, .int v1]) hE (am_dec tmX7_widestStep 16 rfl) ok_X7_at rfl lm_X7_35 in_X7_at se_X7_at h_q0 cf7 (c_X7_at hE h_q0 g4) rfl (Nat.lt_of_lt_of_le (by decide) hdp) (Nat.le_of_ble_eq_true rfl) (Nat.zero_le _) (Nat.zero_le _) rfl ?_
      obtain ⟨x7, g6, hf⟩ := am_bd hf
      refine am_callSN1 (As := [.int x3, .int x5]) (st := [.int v1]) hE (am_dec tmX7_widestStep 17 rfl) ok_X11_far rfl lm_X7_51 st_X11_far (c_X11_far hE g6) rfl (Nat.lt_of_lt_of_le (by decide) hdp) (Nat.le_of_ble_eq_true rfl) (Nat.zero_le _) (Nat.zero_le _) rfl ?_
      refine am_mmax2 (am_dec tmX7_widestStep 18 rfl) lm_X7_9 (Nat.le_of_ble_eq_true rfl) (Nat.zero_le _) (Nat.zero_le _) ?_
      refine am_istore_n (lv' := [(0, .ref q0), (1, .int (am_mx v1 x7)), (2, .int v2)]) (am_dec tmX7_widestStep 19 rfl) rfl (by decide) rfl ?_
      refine am_iinc (v := (1 : Int32)) (lv' := [(0, .ref q0), (1, .int (am_mx v1 x7)), (2, .int (v2 + (1 : Int32)))]) (am_dec tmX7_widestStep 20 rfl) rfl (by decide) (by decide) rfl ?_
      refine am_goto (tgt := 4) (am_dec tmX7_widestStep 21 rfl) (by decide) ?_
      exact am_pick [0, 1, 2] rfl (l_X7_widestStep_L4 hE hdp h_q0 n (am_mx v1 x7) (v2 + (1 : Int32)) ex0 hf hk0)
set_option maxRecDepth 100000 in
set_option maxHeartbeats 4000000 in
theorem c_X7_widestStep {E : am_E} (hE : am_EH E) {r0 : Nat} {D : am_D} {r : Int32} (h_r0 : am_sh am_G0 r0 = some (7, 2)) (hf : f_X7_widestStep r0 D = some r) : am_C E mX7_widestStep 2 0 0 [.ref r0] am_G0 D (.inl (some (.int r))) am_G0 D := by
  refine am_C_of (by decide +kernel) (Nat.le_of_ble_eq_true rfl) ?_
  change am_S E mX7_widestStep 2 0 0 (.inl (some (.int r))) am_G0 D 0 0 0 [(0, .ref r0)] [] am_G0 D
  unfold f_X7_widestStep at hf
  refine am_iconst (v := (0 : Int32)) (am_dec tmX7_widestStep 0 rfl) (by decide) ?_
  refine am_istore_n (lv' := [(0, .ref r0), (1, .int (0 : Int32))]) (am_dec tmX7_widestStep 1 rfl) rfl (by decide) rfl ?_
  refine am_iconst (v := (1 : Int32)) (am_dec tmX7_widestStep 2 rfl) (by decide) ?_
  refine am_istore_n (lv' := [(0, .ref r0), (1, .int (0 : Int32)), (2, .int (1 : Int32))]) (am_dec tmX7_widestStep 3 rfl) rfl (by decide) rfl ?_
  obtain ⟨e8, g9, hf⟩ := am_bd hf
  refine am_pick [0, 1, 2] rfl (l_X7_widestStep_L4 hE (Nat.le_refl _) h_r0 am_fu _ _ _ g9 (fun ex he => ?_))
  subst he
  refine am_iload_n (am_dec tmX7_widestStep 22 rfl) rfl rfl ?_
  have hf := Option.some.inj hf
  subst hf
  exact am_iret (am_dec tmX7_widestStep 23 rfl) rfl (Nat.zero_le _) (Nat.zero_le _)
def f_X7_addStill_L2 (q0 : Nat) (q1 : Int32) : Nat → Int32 → am_D → Option (am_D)
  | 0, _, _ => none
  | n + 1, v2, D =>
    if q1 ≤ v2 then
    some (D)
    else
    (f_X7_add q0 (0 : Int32) D).bind fun x3 =>
    f_X7_addStill_L2 q0 q1 n (v2 + (1 : Int32)) x3
def f_X7_addStill (r0 : Nat) (p1 : Int32) (D : am_D) : Option (am_D) :=
    (f_X7_addStill_L2 r0 p1 am_fu (0 : Int32) D).bind fun e4 =>
    some e4
set_option maxRecDepth 100000 in
set_option maxHeartbeats 4000000 in
theorem l_X7_addStill_L2 {E : am_E} (hE : am_EH E) {d mc ms : Nat} {o : am_O} {G2 : am_G} {D2 : am_D} (hdp : 2 ≤ d) {q0 : Nat} {q1 : Int32} (h_q0 : am_sh am_G0 q0 = some (7, 2)) : ∀ (n : Nat) (v2 : Int32) (D : am_D) (ex0 : am_D), f_X7_addStill_L2 q0 q1 n v2 D = some ex0 → (∀ ex : am_D, ex0 = ex → am_S E mX7_addStill d mc ms o G2 D2 0 0 18 [] [] am_G0 ex) → am_S E mX7_addStill d mc ms o G2 D2 0 0 2 [(0, .ref q0), (1, .int q1), (2, .int v2)] [] am_G0 D
  | 0, _, _, _, hf, _ => by
    unfold f_X7_addStill_L2 at hf
    cases hf
  | n + 1, v2, D, ex0, hf, hk0 => by
    unfold f_X7_addStill_L2 at hf
    refine am_iload_n (am_dec tmX7_addStill 2 rfl) rfl rfl ?_
    refine am_iload_n (am_dec tmX7_addStill 3 rfl) rfl rfl ?_
    refine am_icmp_ge (tgt := 18) (am_dec tmX7_addStill 4 rfl) (by decide) (fun c1 => ?_) (fun c1 => ?_)
    · rw [if_pos c1] at hf
      have hf := Option.some.inj hf
      subst hf
      exact am_pick [] rfl (hk0 _ rfl)
    · rw [if_neg c1] at hf
      refine am_aload_n (am_dec tmX7_addStill 5 rfl) rfl rfl ?_
      refine am_iconst (v := (0 : Int32)) (am_dec tmX7_addStill 6 rfl) (by decide) ?_
      obtain ⟨x3, g2, hf⟩ := am_bd hf
      refine am_callV0 (As := [.int (0 : Int32)]) (st := []) hE (am_dec tmX7_addStill 7 rfl) ok_X7_add rfl lm_X7_54 in_X7_add se_X7_add h_q0 cf7 (c_X7_add hE h_q0 g2) rfl (Nat.lt_of_lt_of_le (by decide) hdp) (Nat.le_of_ble_eq_true rfl) (Nat.zero_le _) (Nat.zero_le _) rfl ?_
      refine am_iinc (v := (1 : Int32)) (lv' := [(0, .ref q0), (1, .int q1), (2, .int (v2 + (1 : Int32)))]) (am_dec tmX7_addStill 8 rfl) rfl (by decide) (by decide) rfl ?_
      refine am_goto (tgt := 2) (am_dec tmX7_addStill 9 rfl) (by decide) ?_
      exact am_pick [0, 1, 2] rfl (l_X7_addStill_L2 hE hdp h_q0 n (v2 + (1 : Int32)) x3 ex0 hf hk0)
set_option maxRecDepth 100000 in
set_option maxHeartbeats 4000000 in
theorem c_X7_addStill {E : am_E} (hE : am_EH E) {r0 : Nat} {p1 : Int32} {D : am_D} {r : am_D} (h_r0 : am_sh am_G0 r0 = some (7, 2)) (hf : f_X7_addStill r0 p1 D = some r) : am_C E mX7_addStill 2 0 0 [.ref r0, .int p1] am_G0 D (.inl none) am_G0 r := by
  refine am_C_of (by decide +kernel) (Nat.le_of_ble_eq_true rfl) ?_
  change am_S E mX7_addStill 2 0 0 (.inl none) am_G0 r 0 0 0 [(0, .ref r0), (1, .int p1)] [] am_G0 D
  unfold f_X7_addStill at hf
  refine am_iconst (v := (0 : Int32)) (am_dec tmX7_addStill 0 rfl) (by decide) ?_
  refine am_istore_n (lv' := [(0, .ref r0), (1, .int p1), (2, .int (0 : Int32))]) (am_dec tmX7_addStill 1 rfl) rfl (by decide) rfl ?_
  obtain ⟨e4, g5, hf⟩ := am_bd hf
  refine am_pick [0, 1, 2] rfl (l_X7_addStill_L2 hE (Nat.le_refl _) h_r0 am_fu _ _ _ g5 (fun ex he => ?_))
  subst he
  have hf := Option.some.inj hf
  subst hf
  exact am_vret (am_dec tmX7_addStill 10 rfl) rfl (Nat.zero_le _) (Nat.zero_le _)
def f_X7_addWave_L3 (q0 : Nat) (q1 : Int32) (q2 : Int32) (q3 : Int32) : Nat → Int32 → am_D → Option (am_D)
  | 0, _, _ => none
  | n + 1, v4, D =>
    if q3 ≤ v4 then
    some (D)
    else
    (f_X11_wave q1 q2 v4).bind fun x3 =>
    (f_X7_add q0 x3 D).bind fun x5 =>
    f_X7_addWave_L3 q0 q1 q2 q3 n (v4 + (1 : Int32)) x5
def f_X7_addWave (r0 : Nat) (p1 : Int32) (p2 : Int32) (p3 : Int32) (D : am_D) : Option (am_D) :=
    (f_X7_addWave_L3 r0 p1 p2 p3 am_fu (0 : Int32) D).bind fun e6 =>
    some e6
set_option maxRecDepth 100000 in
set_option maxHeartbeats 4000000 in
theorem l_X7_addWave_L3 {E : am_E} (hE : am_EH E) {d mc ms : Nat} {o : am_O} {G2 : am_G} {D2 : am_D} (hdp : 3 ≤ d) {q0 : Nat} {q1 : Int32} {q2 : Int32} {q3 : Int32} (h_q0 : am_sh am_G0 q0 = some (7, 2)) : ∀ (n : Nat) (v4 : Int32) (D : am_D) (ex0 : am_D), f_X7_addWave_L3 q0 q1 q2 q3 n v4 D = some ex0 → (∀ ex : am_D, ex0 = ex → am_S E mX7_addWave d mc ms o G2 D2 0 0 26 [] [] am_G0 ex) → am_S E mX7_addWave d mc ms o G2 D2 0 0 3 [(0, .ref q0), (1, .int q1), (2, .int q2), (3, .int q3), (4, .int v4)] [] am_G0 D
  | 0, _, _, _, hf, _ => by
    unfold f_X7_addWave_L3 at hf
    cases hf
  | n + 1, v4, D, ex0, hf, hk0 => by
    unfold f_X7_addWave_L3 at hf
    refine am_iload (am_dec tmX7_addWave 2 rfl) rfl ?_
    refine am_iload_n (am_dec tmX7_addWave 3 rfl) rfl rfl ?_
    refine am_icmp_ge (tgt := 26) (am_dec tmX7_addWave 4 rfl) (by decide) (fun c1 => ?_) (fun c1 => ?_)
    · rw [if_pos c1] at hf
      have hf := Option.some.inj hf
      subst hf
      exact am_pick [] rfl (hk0 _ rfl)
    · rw [if_neg c1] at hf
      refine am_aload_n (am_dec tmX7_addWave 5 rfl) rfl rfl ?_
      refine am_iload_n (am_dec tmX7_addWave 6 rfl) rfl rfl ?_
      refine am_iload_n (am_dec tmX7_addWave 7 rfl) rfl rfl ?_
      refine am_iload (am_dec tmX7_addWave 8 rfl) rfl ?_
      obtain ⟨x3, g2, hf⟩ := am_bd hf
      refine am_callSN1 (As := [.int q1, .int q2, .int v4]) (st := [.ref q0]) hE (am_dec tmX7_addWave 9 rfl) ok_X11_wave rfl lm_X7_58 st_X11_wave (c_X11_wave hE g2) rfl (Nat.lt_of_lt_of_le (by decide) hdp) (Nat.le_of_ble_eq_true rfl) (Nat.zero_le _) (Nat.zero_le _) rfl ?_
      obtain ⟨x5, g4, hf⟩ := am_bd hf
      refine am_callV0 (As := [.int x3]) (st := []) hE (am_dec tmX7_addWave 10 rfl) ok_X7_add rfl lm_X7_54 in_X7_add se_X7_add h_q0 cf7 (c_X7_add hE h_q0 g4) rfl (Nat.lt_of_lt_of_le (by decide) hdp) (Nat.le_of_ble_eq_true rfl) (Nat.zero_le _) (Nat.zero_le _) rfl ?_
      refine am_iinc (v := (1 : Int32)) (lv' := [(0, .ref q0), (1, .int q1), (2, .int q2), (3, .int q3), (4, .int (v4 + (1 : Int32)))]) (am_dec tmX7_addWave 11 rfl) rfl (by decide) (by decide) rfl ?_
      refine am_goto (tgt := 3) (am_dec tmX7_addWave 12 rfl) (by decide) ?_
      exact am_pick [0, 1, 2, 3, 4] rfl (l_X7_addWave_L3 hE hdp h_q0 n (v4 + (1 : Int32)) x5 ex0 hf hk0)
set_option maxRecDepth 100000 in
set_option maxHeartbeats 4000000 in
theorem c_X7_addWave {E : am_E} (hE : am_EH E) {r0 : Nat} {p1 : Int32} {p2 : Int32} {p3 : Int32} {D : am_D} {r : am_D} (h_r0 : am_sh am_G0 r0 = some (7, 2)) (hf : f_X7_addWave r0 p1 p2 p3 D = some r) : am_C E mX7_addWave 3 0 0 [.ref r0, .int p1, .int p2, .int p3] am_G0 D (.inl none) am_G0 r := by
  refine am_C_of (by decide +kernel) (Nat.le_of_ble_eq_true rfl) ?_
  change am_S E mX7_addWave 3 0 0 (.inl none) am_G0 r 0 0 0 [(0, .ref r0), (1, .int p1), (2, .int p2), (3, .int p3)] [] am_G0 D
  unfold f_X7_addWave at hf
  refine am_iconst (v := (0 : Int32)) (am_dec tmX7_addWave 0 rfl) (by decide) ?_
  refine am_istore (lv' := [(0, .ref r0), (1, .int p1), (2, .int p2), (3, .int p3), (4, .int (0 : Int32))]) (am_dec tmX7_addWave 1 rfl) (by decide) rfl ?_
  obtain ⟨e6, g7, hf⟩ := am_bd hf
  refine am_pick [0, 1, 2, 3, 4] rfl (l_X7_addWave_L3 hE (Nat.le_refl _) h_r0 am_fu _ _ _ g7 (fun ex he => ?_))
  subst he
  have hf := Option.some.inj hf
  subst hf
  exact am_vret (am_dec tmX7_addWave 13 rfl) rfl (Nat.zero_le _) (Nat.zero_le _)
def f_X7_addBlow_L2 (q0 : Nat) (q1 : Int32) (q2 : Int32) : Nat → Int32 → am_D → Option (am_D)
  | 0, _, _ => none
  | n + 1, v3, D =>
    if q2 ≤ v3 then
    some (D)
    else
    (if (v3 &&& (1 : Int32)) = (1 : Int32) then
    some ((-(q1 >>> ((am_mn (v3 / (2 : Int32)) (30 : Int32)) &&& 31))))
    else
    some ((q1 >>> ((am_mn (v3 / (2 : Int32)) (30 : Int32)) &&& 31)))).bind fun w4 =>
    (f_X7_add q0 w4 D).bind fun x6 =>
    f_X7_addBlow_L2 q0 q1 q2 n (v3 + (1 : Int32)) x6
def f_X7_addBlow (r0 : Nat) (p1 : Int32) (p2 : Int32) (D : am_D) : Option (am_D) :=
    (f_X7_addBlow_L2 r0 p1 p2 am_fu (0 : Int32) D).bind fun e8 =>
    some e8
set_option maxRecDepth 100000 in
set_option maxHeartbeats 4000000 in
theorem l_X7_addBlow_L2 {E : am_E} (hE : am_EH E) {d mc ms : Nat} {o : am_O} {G2 : am_G} {D2 : am_D} (hdp : 2 ≤ d) {q0 : Nat} {q1 : Int32} {q2 : Int32} (h_q0 : am_sh am_G0 q0 = some (7, 2)) : ∀ (n : Nat) (v3 : Int32) (D : am_D) (ex0 : am_D), f_X7_addBlow_L2 q0 q1 q2 n v3 D = some ex0 → (∀ ex : am_D, ex0 = ex → am_S E mX7_addBlow d mc ms o G2 D2 0 0 44 [] [] am_G0 ex) → am_S E mX7_addBlow d mc ms o G2 D2 0 0 2 [(0, .ref q0), (1, .int q1), (2, .int q2), (3, .int v3)] [] am_G0 D
  | 0, _, _, _, hf, _ => by
    unfold f_X7_addBlow_L2 at hf
    cases hf
  | n + 1, v3, D, ex0, hf, hk0 => by
    unfold f_X7_addBlow_L2 at hf
    refine am_iload_n (am_dec tmX7_addBlow 2 rfl) rfl rfl ?_
    refine am_iload_n (am_dec tmX7_addBlow 3 rfl) rfl rfl ?_
    refine am_icmp_ge (tgt := 44) (am_dec tmX7_addBlow 4 rfl) (by decide) (fun c1 => ?_) (fun c1 => ?_)
    · rw [if_pos c1] at hf
      have hf := Option.some.inj hf
      subst hf
      exact am_pick [] rfl (hk0 _ rfl)
    · rw [if_neg c1] at hf
      refine am_iload_n (am_dec tmX7_addBlow 5 rfl) rfl rfl ?_
      refine am_iload_n (am_dec tmX7_addBlow 6 rfl) rfl rfl ?_
      refine am_iconst (v := (2 : Int32)) (am_dec tmX7_addBlow 7 rfl) (by decide) ?_
      refine am_idiv (am_dec tmX7_addBlow 8 rfl) (by decide) ?_
      refine am_bipush (v := (30 : Int32)) (am_dec tmX7_addBlow 9 rfl) (by decide) ?_
      refine am_mmin2 (am_dec tmX7_addBlow 10 rfl) lm_X7_42 (Nat.le_of_ble_eq_true rfl) (Nat.zero_le _) (Nat.zero_le _) ?_
      refine am_ishr (am_dec tmX7_addBlow 11 rfl) ?_
      refine am_istore (lv' := [(0, .ref q0), (1, .int q1), (2, .int q2), (3, .int v3), (4, .int (q1 >>> ((am_mn (v3 / (2 : Int32)) (30 : Int32)) &&& 31)))]) (am_dec tmX7_addBlow 12 rfl) (by decide) rfl ?_
      refine am_aload_n (am_dec tmX7_addBlow 13 rfl) rfl rfl ?_
      refine am_iload_n (am_dec tmX7_addBlow 14 rfl) rfl rfl ?_
      refine am_iconst (v := (1 : Int32)) (am_dec tmX7_addBlow 15 rfl) (by decide) ?_
      refine am_iand (am_dec tmX7_addBlow 16 rfl) ?_
      refine am_iconst (v := (1 : Int32)) (am_dec tmX7_addBlow 17 rfl) (by decide) ?_
      obtain ⟨w4, g7, hf⟩ := am_bd hf
      have key3 : am_S E mX7_addBlow d mc ms o G2 D2 0 0 35 [(0, .ref q0), (1, .int q1), (2, .int q2), (3, .int v3)] [.int w4, .ref q0] am_G0 D := by
        obtain ⟨x6, g5, hf⟩ := am_bd hf
        refine am_callV0 (As := [.int w4]) (st := []) hE (am_dec tmX7_addBlow 23 rfl) ok_X7_add rfl lm_X7_54 in_X7_add se_X7_add h_q0 cf7 (c_X7_add hE h_q0 g5) rfl (Nat.lt_of_lt_of_le (by decide) hdp) (Nat.le_of_ble_eq_true rfl) (Nat.zero_le _) (Nat.zero_le _) rfl ?_
        refine am_iinc (v := (1 : Int32)) (lv' := [(0, .ref q0), (1, .int q1), (2, .int q2), (3, .int (v3 + (1 : Int32)))]) (am_dec tmX7_addBlow 24 rfl) rfl (by decide) (by decide) rfl ?_
        refine am_goto (tgt := 2) (am_dec tmX7_addBlow 25 rfl) (by decide) ?_
        exact am_pick [0, 1, 2, 3] rfl (l_X7_addBlow_L2 hE hdp h_q0 n (v3 + (1 : Int32)) x6 ex0 hf hk0)
      replace hf := g7
      refine am_icmp_ne (tgt := 33) (am_dec tmX7_addBlow 18 rfl) (by decide) (fun c2 => ?_) (fun c2 => ?_)
      · rw [if_neg c2] at hf
        refine am_iload (am_dec tmX7_addBlow 22 rfl) rfl ?_
        have hf := Option.some.inj hf
        subst hf
        exact am_pick [0, 1, 2, 3] rfl key3
      · rw [if_pos c2] at hf
        refine am_iload (am_dec tmX7_addBlow 19 rfl) rfl ?_
        refine am_ineg (am_dec tmX7_addBlow 20 rfl) ?_
        refine am_goto (tgt := 35) (am_dec tmX7_addBlow 21 rfl) (by decide) ?_
        have hf := Option.some.inj hf
        subst hf
        exact am_pick [0, 1, 2, 3] rfl key3
set_option maxRecDepth 100000 in
set_option maxHeartbeats 4000000 in
theorem c_X7_addBlow {E : am_E} (hE : am_EH E) {r0 : Nat} {p1 : Int32} {p2 : Int32} {D : am_D} {r : am_D} (h_r0 : am_sh am_G0 r0 = some (7, 2)) (hf : f_X7_addBlow r0 p1 p2 D = some r) : am_C E mX7_addBlow 2 0 0 [.ref r0, .int p1, .int p2] am_G0 D (.inl none) am_G0 r := by
  refine am_C_of (by decide +kernel) (Nat.le_of_ble_eq_true rfl) ?_
  change am_S E mX7_addBlow 2 0 0 (.inl none) am_G0 r 0 0 0 [(0, .ref r0), (1, .int p1), (2, .int p2)] [] am_G0 D
  unfold f_X7_addBlow at hf
  refine am_iconst (v := (0 : Int32)) (am_dec tmX7_addBlow 0 rfl) (by decide) ?_
  refine am_istore_n (lv' := [(0, .ref r0), (1, .int p1), (2, .int p2), (3, .int (0 : Int32))]) (am_dec tmX7_addBlow 1 rfl) rfl (by decide) rfl ?_
  obtain ⟨e8, g9, hf⟩ := am_bd hf
  refine am_pick [0, 1, 2, 3] rfl (l_X7_addBlow_L2 hE (Nat.le_refl _) h_r0 am_fu _ _ _ g9 (fun ex he => ?_))
  subst he
  have hf := Option.some.inj hf
  subst hf
  exact am_vret (am_dec tmX7_addBlow 26 rfl) rfl (Nat.zero_le _) (Nat.zero_le _)
def f_X7_addHiss_L6 (q0 : Nat) (q1 : Int32) (q2 : Int32) : Nat → Int32 → Int32 → am_D → Option (am_D)
  | 0, _, _, _ => none
  | n + 1, v4, v5, D =>
    if q2 ≤ v5 then
    some (D)
    else
    (f_X11_left (((((v4 * (1103515245 : Int32)) + (12345 : Int32)).toUInt32 >>> ((16 : Int32).toUInt32 &&& Int32.toUInt32 31)).toInt32) &&& (32767 : Int32)) (((2 : Int32) * q1) + (1 : Int32))).bind fun x3 =>
    (f_X7_add q0 (x3 - q1) D).bind fun x5 =>
    f_X7_addHiss_L6 q0 q1 q2 n ((v4 * (1103515245 : Int32)) + (12345 : Int32)) (v5 + (1 : Int32)) x5
def f_X7_addHiss (r0 : Nat) (p1 : Int32) (p2 : Int32) (p3 : Int32) (D : am_D) : Option (am_D) :=
    (f_X7_addHiss_L6 r0 p1 p2 am_fu p3 (0 : Int32) D).bind fun e6 =>
    some e6
set_option maxRecDepth 100000 in
set_option maxHeartbeats 4000000 in
theorem l_X7_addHiss_L6 {E : am_E} (hE : am_EH E) {d mc ms : Nat} {o : am_O} {G2 : am_G} {D2 : am_D} (hdp : 2 ≤ d) {q0 : Nat} {q1 : Int32} {q2 : Int32} (h_q0 : am_sh am_G0 q0 = some (7, 2)) : ∀ (n : Nat) (v4 : Int32) (v5 : Int32) (D : am_D) (ex0 : am_D), f_X7_addHiss_L6 q0 q1 q2 n v4 v5 D = some ex0 → (∀ ex : am_D, ex0 = ex → am_S E mX7_addHiss d mc ms o G2 D2 0 0 52 [] [] am_G0 ex) → am_S E mX7_addHiss d mc ms o G2 D2 0 0 6 [(0, .ref q0), (1, .int q1), (2, .int q2), (4, .int v4), (5, .int v5)] [] am_G0 D
  | 0, _, _, _, _, hf, _ => by
    unfold f_X7_addHiss_L6 at hf
    cases hf
  | n + 1, v4, v5, D, ex0, hf, hk0 => by
    unfold f_X7_addHiss_L6 at hf
    refine am_iload (am_dec tmX7_addHiss 4 rfl) rfl ?_
    refine am_iload_n (am_dec tmX7_addHiss 5 rfl) rfl rfl ?_
    refine am_icmp_ge (tgt := 52) (am_dec tmX7_addHiss 6 rfl) (by decide) (fun c1 => ?_) (fun c1 => ?_)
    · rw [if_pos c1] at hf
      have hf := Option.some.inj hf
      subst hf
      exact am_pick [] rfl (hk0 _ rfl)
    · rw [if_neg c1] at hf
      refine am_iload (am_dec tmX7_addHiss 7 rfl) rfl ?_
      refine am_ldc (v := (1103515245 : Int32)) (am_dec tmX7_addHiss 8 rfl) lc_X7_61 ?_
      refine am_imul (am_dec tmX7_addHiss 9 rfl) ?_
      refine am_sipush (v := (12345 : Int32)) (am_dec tmX7_addHiss 10 rfl) (by decide) ?_
      refine am_iadd (am_dec tmX7_addHiss 11 rfl) ?_
      refine am_istore (lv' := [(0, .ref q0), (1, .int q1), (2, .int q2), (4, .int ((v4 * (1103515245 : Int32)) + (12345 : Int32))), (5, .int v5)]) (am_dec tmX7_addHiss 12 rfl) (by decide) rfl ?_
      refine am_aload_n (am_dec tmX7_addHiss 13 rfl) rfl rfl ?_
      refine am_iload (am_dec tmX7_addHiss 14 rfl) rfl ?_
      refine am_bipush (v := (16 : Int32)) (am_dec tmX7_addHiss 15 rfl) (by decide) ?_
      refine am_iushr (am_dec tmX7_addHiss 16 rfl) ?_
      refine am_sipush (v := (32767 : Int32)) (am_dec tmX7_addHiss 17 rfl) (by decide) ?_
      refine am_iand (am_dec tmX7_addHiss 18 rfl) ?_
      refine am_iconst (v := (2 : Int32)) (am_dec tmX7_addHiss 19 rfl) (by decide) ?_
      refine am_iload_n (am_dec tmX7_addHiss 20 rfl) rfl rfl ?_
      refine am_imul (am_dec tmX7_addHiss 21 rfl) ?_
      refine am_iconst (v := (1 : Int32)) (am_dec tmX7_addHiss 22 rfl) (by decide) ?_
      refine am_iadd (am_dec tmX7_addHiss 23 rfl) ?_
      obtain ⟨x3, g2, hf⟩ := am_bd hf
      refine am_callSN1 (As := [.int (((((v4 * (1103515245 : Int32)) + (12345 : Int32)).toUInt32 >>> ((16 : Int32).toUInt32 &&& Int32.toUInt32 31)).toInt32) &&& (32767 : Int32)), .int (((2 : Int32) * q1) + (1 : Int32))]) (st := [.ref q0]) hE (am_dec tmX7_addHiss 24 rfl) ok_X11_left rfl lm_X7_62 st_X11_left (c_X11_left hE g2) rfl (Nat.lt_of_lt_of_le (by decide) hdp) (Nat.le_of_ble_eq_true rfl) (Nat.zero_le _) (Nat.zero_le _) rfl ?_
      refine am_iload_n (am_dec tmX7_addHiss 25 rfl) rfl rfl ?_
      refine am_isub (am_dec tmX7_addHiss 26 rfl) ?_
      obtain ⟨x5, g4, hf⟩ := am_bd hf
      refine am_callV0 (As := [.int (x3 - q1)]) (st := []) hE (am_dec tmX7_addHiss 27 rfl) ok_X7_add rfl lm_X7_54 in_X7_add se_X7_add h_q0 cf7 (c_X7_add hE h_q0 g4) rfl (Nat.lt_of_lt_of_le (by decide) hdp) (Nat.le_of_ble_eq_true rfl) (Nat.zero_le _) (Nat.zero_le _) rfl ?_
      refine am_iinc (v := (1 : Int32)) (lv' := [(0, .ref q0), (1, .int q1), (2, .int q2), (4, .int ((v4 * (1103515245 : Int32)) + (12345 : Int32))), (5, .int (v5 + (1 : Int32)))]) (am_dec tmX7_addHiss 28 rfl) rfl (by decide) (by decide) rfl ?_
      refine am_goto (tgt := 6) (am_dec tmX7_addHiss 29 rfl) (by decide) ?_
      exact am_pick [0, 1, 2, 3, 4] rfl (l_X7_addHiss_L6 hE hdp h_q0 n ((v4 * (1103515245 : Int32)) + (12345 : Int32)) (v5 + (1 : Int32)) x5 ex0 hf hk0)
set_option maxRecDepth 100000 in
set_option maxHeartbeats 4000000 in
theorem c_X7_addHiss {E : am_E} (hE : am_EH E) {r0 : Nat} {p1 : Int32} {p2 : Int32} {p3 : Int32} {D : am_D} {r : am_D} (h_r0 : am_sh am_G0 r0 = some (7, 2)) (hf : f_X7_addHiss r0 p1 p2 p3 D = some r) : am_C E mX7_addHiss 2 0 0 [.ref r0, .int p1, .int p2, .int p3] am_G0 D (.inl none) am_G0 r := by
  refine am_C_of (by decide +kernel) (Nat.le_of_ble_eq_true rfl) ?_
  change am_S E mX7_addHiss 2 0 0 (.inl none) am_G0 r 0 0 0 [(0, .ref r0), (1, .int p1), (2, .int p2), (3, .int p3)] [] am_G0 D
  unfold f_X7_addHiss at hf
  refine am_iload_n (am_dec tmX7_addHiss 0 rfl) rfl rfl ?_
  refine am_istore (lv' := [(0, .ref r0), (1, .int p1), (2, .int p2), (3, .int p3), (4, .int p3)]) (am_dec tmX7_addHiss 1 rfl) (by decide) rfl ?_
  refine am_iconst (v := (0 : Int32)) (am_dec tmX7_addHiss 2 rfl) (by decide) ?_
  refine am_istore (lv' := [(0, .ref r0), (1, .int p1), (2, .int p2), (3, .int p3), (4, .int p3), (5, .int (0 : Int32))]) (am_dec tmX7_addHiss 3 rfl) (by decide) rfl ?_
  obtain ⟨e6, g7, hf⟩ := am_bd hf
  refine am_pick [0, 1, 2, 4, 5] rfl (l_X7_addHiss_L6 hE (Nat.le_refl _) h_r0 am_fu _ _ _ _ g7 (fun ex he => ?_))
  subst he
  have hf := Option.some.inj hf
  subst hf
  exact am_vret (am_dec tmX7_addHiss 30 rfl) rfl (Nat.zero_le _) (Nat.zero_le _)
def f_X7_layHum_L2 (q0 : Nat) (q1 : Int32) (q2 : Int32) : Nat → Int32 → am_D → Option (am_D)
  | 0, _, _ => none
  | n + 1, v3, D =>
    if (D.1 q0 1) ≤ v3 then
    some (D)
    else
    (f_X7_at q0 v3 D).bind fun x3 =>
    (f_X11_wave q1 q2 v3).bind fun x5 =>
    (f_X11_bounded (x3 + x5) (-2047 : Int32) (2047 : Int32)).bind fun x7 =>
    (f_X7_put q0 v3 x7 D).bind fun x9 =>
    f_X7_layHum_L2 q0 q1 q2 n (v3 + (1 : Int32)) x9
def f_X7_layHum (r0 : Nat) (p1 : Int32) (p2 : Int32) (D : am_D) : Option (am_D) :=
    (f_X7_layHum_L2 r0 p1 p2 am_fu (0 : Int32) D).bind fun e10 =>
    some e10
set_option maxRecDepth 100000 in
set_option maxHeartbeats 4000000 in
theorem l_X7_layHum_L2 {E : am_E} (hE : am_EH E) {d mc ms : Nat} {o : am_O} {G2 : am_G} {D2 : am_D} (hdp : 3 ≤ d) {q0 : Nat} {q1 : Int32} {q2 : Int32} (h_q0 : am_sh am_G0 q0 = some (7, 2)) : ∀ (n : Nat) (v3 : Int32) (D : am_D) (ex0 : am_D), f_X7_layHum_L2 q0 q1 q2 n v3 D = some ex0 → (∀ ex : am_D, ex0 = ex → am_S E mX7_layHum d mc ms o G2 D2 0 0 42 [] [] am_G0 ex) → am_S E mX7_layHum d mc ms o G2 D2 0 0 2 [(0, .ref q0), (1, .int q1), (2, .int q2), (3, .int v3)] [] am_G0 D
  | 0, _, _, _, hf, _ => by
    unfold f_X7_layHum_L2 at hf
    cases hf
  | n + 1, v3, D, ex0, hf, hk0 => by
    unfold f_X7_layHum_L2 at hf
    refine am_iload_n (am_dec tmX7_layHum 2 rfl) rfl rfl ?_
    refine am_aload_n (am_dec tmX7_layHum 3 rfl) rfl rfl ?_
    refine am_getI (j := 1) hE (am_dec tmX7_layHum 4 rfl) h_q0 cf7 (by decide) rfl lf_X7_25 ?_
    refine am_icmp_ge (tgt := 42) (am_dec tmX7_layHum 5 rfl) (by decide) (fun c1 => ?_) (fun c1 => ?_)
    · rw [if_pos c1] at hf
      have hf := Option.some.inj hf
      subst hf
      exact am_pick [] rfl (hk0 _ rfl)
    · rw [if_neg c1] at hf
      refine am_aload_n (am_dec tmX7_layHum 6 rfl) rfl rfl ?_
      refine am_iload_n (am_dec tmX7_layHum 7 rfl) rfl rfl ?_
      refine am_aload_n (am_dec tmX7_layHum 8 rfl) rfl rfl ?_
      refine am_iload_n (am_dec tmX7_layHum 9 rfl) rfl rfl ?_
      obtain ⟨x3, g2, hf⟩ := am_bd hf
      refine am_callV1 (As := [.int v3]) (st := [.int v3, .ref q0]) hE (am_dec tmX7_layHum 10 rfl) ok_X7_at rfl lm_X7_35 in_X7_at se_X7_at h_q0 cf7 (c_X7_at hE h_q0 g2) rfl (Nat.lt_of_lt_of_le (by decide) hdp) (Nat.le_of_ble_eq_true rfl) (Nat.zero_le _) (Nat.zero_le _) rfl ?_
      refine am_iload_n (am_dec tmX7_layHum 11 rfl) rfl rfl ?_
      refine am_iload_n (am_dec tmX7_layHum 12 rfl) rfl rfl ?_
      refine am_iload_n (am_dec tmX7_layHum 13 rfl) rfl rfl ?_
      obtain ⟨x5, g4, hf⟩ := am_bd hf
      refine am_callSN1 (As := [.int q1, .int q2, .int v3]) (st := [.int x3, .int v3, .ref q0]) hE (am_dec tmX7_layHum 14 rfl) ok_X11_wave rfl lm_X7_58 st_X11_wave (c_X11_wave hE g4) rfl (Nat.lt_of_lt_of_le (by decide) hdp) (Nat.le_of_ble_eq_true rfl) (Nat.zero_le _) (Nat.zero_le _) rfl ?_
      refine am_iadd (am_dec tmX7_layHum 15 rfl) ?_
      refine am_sipush (v := (-2047 : Int32)) (am_dec tmX7_layHum 16 rfl) (by decide) ?_
      refine am_sipush (v := (2047 : Int32)) (am_dec tmX7_layHum 17 rfl) (by decide) ?_
      obtain ⟨x7, g6, hf⟩ := am_bd hf
      refine am_callSN1 (As := [.int (x3 + x5), .int (-2047 : Int32), .int (2047 : Int32)]) (st := [.int v3, .ref q0]) hE (am_dec tmX7_layHum 18 rfl) ok_X11_bounded rfl lm_X7_21 st_X11_bounded (c_X11_bounded hE g6) rfl (Nat.lt_of_lt_of_le (by decide) hdp) (Nat.le_of_ble_eq_true rfl) (Nat.zero_le _) (Nat.zero_le _) rfl ?_
      obtain ⟨x9, g8, hf⟩ := am_bd hf
      refine am_callV0 (As := [.int v3, .int x7]) (st := []) hE (am_dec tmX7_layHum 19 rfl) ok_X7_put rfl lm_X7_65 in_X7_put se_X7_put h_q0 cf7 (c_X7_put hE h_q0 g8) rfl (Nat.lt_of_lt_of_le (by decide) hdp) (Nat.le_of_ble_eq_true rfl) (Nat.zero_le _) (Nat.zero_le _) rfl ?_
      refine am_iinc (v := (1 : Int32)) (lv' := [(0, .ref q0), (1, .int q1), (2, .int q2), (3, .int (v3 + (1 : Int32)))]) (am_dec tmX7_layHum 20 rfl) rfl (by decide) (by decide) rfl ?_
      refine am_goto (tgt := 2) (am_dec tmX7_layHum 21 rfl) (by decide) ?_
      exact am_pick [0, 1, 2, 3] rfl (l_X7_layHum_L2 hE hdp h_q0 n (v3 + (1 : Int32)) x9 ex0 hf hk0)
set_option maxRecDepth 100000 in
set_option maxHeartbeats 4000000 in
theorem c_X7_layHum {E : am_E} (hE : am_EH E) {r0 : Nat} {p1 : Int32} {p2 : Int32} {D : am_D} {r : am_D} (h_r0 : am_sh am_G0 r0 = some (7, 2)) (hf : f_X7_layHum r0 p1 p2 D = some r) : am_C E mX7_layHum 3 0 0 [.ref r0, .int p1, .int p2] am_G0 D (.inl none) am_G0 r := by
  refine am_C_of (by decide +kernel) (Nat.le_of_ble_eq_true rfl) ?_
  change am_S E mX7_layHum 3 0 0 (.inl none) am_G0 r 0 0 0 [(0, .ref r0), (1, .int p1), (2, .int p2)] [] am_G0 D
  unfold f_X7_layHum at hf
  refine am_iconst (v := (0 : Int32)) (am_dec tmX7_layHum 0 rfl) (by decide) ?_
  refine am_istore_n (lv' := [(0, .ref r0), (1, .int p1), (2, .int p2), (3, .int (0 : Int32))]) (am_dec tmX7_layHum 1 rfl) rfl (by decide) rfl ?_
  obtain ⟨e10, g11, hf⟩ := am_bd hf
  refine am_pick [0, 1, 2, 3] rfl (l_X7_layHum_L2 hE (Nat.le_refl _) h_r0 am_fu _ _ _ g11 (fun ex he => ?_))
  subst he
  have hf := Option.some.inj hf
  subst hf
  exact am_vret (am_dec tmX7_layHum 22 rfl) rfl (Nat.zero_le _) (Nat.zero_le _)
def f_X7_farFrom (r0 : Nat) (p1 : Nat) (D : am_D) : Option (Int32) :=
    (f_X7_unlike r0 (0 : Int32) p1 (0 : Int32) (am_mn (D.1 r0 1) (D.1 p1 1)) D).bind fun x2 =>
    (f_X11_far (D.1 r0 1) (D.1 p1 1)).bind fun x4 =>
    some (x2 + ((2047 : Int32) * x4))
set_option maxRecDepth 100000 in
set_option maxHeartbeats 4000000 in
theorem c_X7_farFrom {E : am_E} (hE : am_EH E) {r0 : Nat} {p1 : Nat} {D : am_D} {r : Int32} (h_r0 : am_sh am_G0 r0 = some (7, 2)) (h_p1 : am_sh am_G0 p1 = some (7, 2)) (hf : f_X7_farFrom r0 p1 D = some r) : am_C E mX7_farFrom 3 0 0 [.ref r0, .ref p1] am_G0 D (.inl (some (.int r))) am_G0 D := by
  refine am_C_of (by decide +kernel) (Nat.le_of_ble_eq_true rfl) ?_
  change am_S E mX7_farFrom 3 0 0 (.inl (some (.int r))) am_G0 D 0 0 0 [(0, .ref r0), (1, .ref p1)] [] am_G0 D
  unfold f_X7_farFrom at hf
  refine am_aload_n (am_dec tmX7_farFrom 0 rfl) rfl rfl ?_
  refine am_getI (j := 1) hE (am_dec tmX7_farFrom 1 rfl) h_r0 cf7 (by decide) rfl lf_X7_25 ?_
  refine am_aload_n (am_dec tmX7_farFrom 2 rfl) rfl rfl ?_
  refine am_getI (j := 1) hE (am_dec tmX7_farFrom 3 rfl) h_p1 cf7 (by decide) rfl lf_X7_25 ?_
  refine am_mmin2 (am_dec tmX7_farFrom 4 rfl) lm_X7_42 (Nat.le_of_ble_eq_true rfl) (Nat.zero_le _) (Nat.zero_le _) ?_
  refine am_istore_n (lv' := [(0, .ref r0), (1, .ref p1), (2, .int (am_mn (D.1 r0 1) (D.1 p1 1)))]) (am_dec tmX7_farFrom 5 rfl) rfl (by decide) rfl ?_
  refine am_aload_n (am_dec tmX7_farFrom 6 rfl) rfl rfl ?_
  refine am_iconst (v := (0 : Int32)) (am_dec tmX7_farFrom 7 rfl) (by decide) ?_
  refine am_aload_n (am_dec tmX7_farFrom 8 rfl) rfl rfl ?_
  refine am_iconst (v := (0 : Int32)) (am_dec tmX7_farFrom 9 rfl) (by decide) ?_
  refine am_iload_n (am_dec tmX7_farFrom 10 rfl) rfl rfl ?_
  obtain ⟨x2, g1, hf⟩ := am_bd hf
  refine am_callV1 (As := [.int (0 : Int32), .ref p1, .int (0 : Int32), .int (am_mn (D.1 r0 1) (D.1 p1 1))]) (st := []) hE (am_dec tmX7_farFrom 11 rfl) ok_X7_unlike rfl lm_X7_72 in_X7_unlike se_X7_unlike h_r0 cf7 (c_X7_unlike hE h_r0 h_p1 g1) rfl (by decide) (Nat.le_of_ble_eq_true rfl) (Nat.zero_le _) (Nat.zero_le _) rfl ?_
  refine am_sipush (v := (2047 : Int32)) (am_dec tmX7_farFrom 12 rfl) (by decide) ?_
  refine am_aload_n (am_dec tmX7_farFrom 13 rfl) rfl rfl ?_
  refine am_getI (j := 1) hE (am_dec tmX7_farFrom 14 rfl) h_r0 cf7 (by decide) rfl lf_X7_25 ?_
  refine am_aload_n (am_dec tmX7_farFrom 15 rfl) rfl rfl ?_
  refine am_getI (j := 1) hE (am_dec tmX7_farFrom 16 rfl) h_p1 cf7 (by decide) rfl lf_X7_25 ?_
  obtain ⟨x4, g3, hf⟩ := am_bd hf
  refine am_callSN1 (As := [.int (D.1 r0 1), .int (D.1 p1 1)]) (st := [.int (2047 : Int32), .int x2]) hE (am_dec tmX7_farFrom 17 rfl) ok_X11_far rfl lm_X7_51 st_X11_far (c_X11_far hE g3) rfl (by decide) (Nat.le_of_ble_eq_true rfl) (Nat.zero_le _) (Nat.zero_le _) rfl ?_
  refine am_imul (am_dec tmX7_farFrom 18 rfl) ?_
  refine am_iadd (am_dec tmX7_farFrom 19 rfl) ?_
  have hf := Option.some.inj hf
  subst hf
  exact am_iret (am_dec tmX7_farFrom 20 rfl) rfl (Nat.zero_le _) (Nat.zero_le _)
def f_X7_findLoop_L37 (q0 : Nat) (q1 : Int32) (q2 : Int32) (q3 : Nat) (q5 : Int32) : Nat → Int32 → Int32 → Int32 → am_D → Option (Int32 × am_D)
  | 0, _, _, _, _ => none
  | n + 1, v4, v6, v7, D =>
    if (D.1 q0 1) < ((v7 + q5) + q2) then
    some (v4, D)
    else
    (if v4 = 0 then
    (am_pI D q3 (am_ln q3) (0 : Int32) v7).bind fun D8 =>
    (am_pI D8 q3 (am_ln q3) (1 : Int32) (v7 + q5)).bind fun D10 =>
    (am_pI D10 q3 (am_ln q3) (2 : Int32) v6).bind fun D12 =>
    some ((1 : Int32), D12)
    else
    (am_gI D q3 (am_ln q3) (2 : Int32)).bind fun x14 =>
    if x14 ≤ v6 then
    some (v4, D)
    else
    (am_pI D q3 (am_ln q3) (0 : Int32) v7).bind fun D17 =>
    (am_pI D17 q3 (am_ln q3) (1 : Int32) (v7 + q5)).bind fun D19 =>
    (am_pI D19 q3 (am_ln q3) (2 : Int32) v6).bind fun D21 =>
    some ((1 : Int32), D21)).bind fun w23 =>
    (f_X7_at q0 (v7 + q2) w23.2).bind fun x25 =>
    (f_X7_at q0 ((v7 + q2) + q5) w23.2).bind fun x27 =>
    (f_X11_far x25 x27).bind fun x29 =>
    (f_X7_at q0 v7 w23.2).bind fun x31 =>
    (f_X7_at q0 (v7 + q5) w23.2).bind fun x33 =>
    (f_X11_far x31 x33).bind fun x35 =>
    f_X7_findLoop_L37 q0 q1 q2 q3 q5 n w23.1 (v6 + (x29 - x35)) (v7 + (1 : Int32)) w23.2
def f_X7_findLoop_L11 (q0 : Nat) (q1 : Int32) (q2 : Int32) (q3 : Nat) : Nat → Int32 → Int32 → am_D → Option (Int32 × am_D)
  | 0, _, _, _ => none
  | n + 1, v4, v5, D =>
    if v5 < q1 then
    some (v4, D)
    else
    if (Int32.ofNat (am_ln q3)) < (3 : Int32) then
    some (v4, D)
    else
    (f_X7_unlike q0 (0 : Int32) q0 v5 q2 D).bind fun x4 =>
    (f_X7_findLoop_L37 q0 q1 q2 q3 v5 am_fu v4 x4 (0 : Int32) D).bind fun e37 =>
    f_X7_findLoop_L11 q0 q1 q2 q3 n e37.1 (v5 + (-1 : Int32)) e37.2
def f_X7_findLoop (r0 : Nat) (p1 : Int32) (p2 : Int32) (p3 : Nat) (D : am_D) : Option ((Int32 × am_D)) :=
    (f_X7_findLoop_L11 r0 p1 p2 p3 am_fu (0 : Int32) ((D.1 r0 1) - p2) D).bind fun e39 =>
    (am_zb e39.1).bind fun z40 =>
    some (e39.1, e39.2)
set_option maxRecDepth 100000 in
set_option maxHeartbeats 4000000 in
theorem l_X7_findLoop_L37 {E : am_E} (hE : am_EH E) {d mc ms : Nat} {o : am_O} {G2 : am_G} {D2 : am_D} (hdp : 3 ≤ d) {q0 : Nat} {q1 : Int32} {q2 : Int32} {q3 : Nat} {q5 : Int32} (h_q0 : am_sh am_G0 q0 = some (7, 2)) (h_q3 : am_sh am_G0 q3 = some (20, am_ln q3)) : ∀ (n : Nat) (v4 : Int32) (v6 : Int32) (v7 : Int32) (D : am_D) (ex0 : Int32 × am_D), f_X7_findLoop_L37 q0 q1 q2 q3 q5 n v4 v6 v7 D = some ex0 → (∀ ex : Int32 × am_D, ex0 = ex → am_S E mX7_findLoop d mc ms o G2 D2 0 0 139 [(0, .ref q0), (1, .int q1), (2, .int q2), (3, .ref q3), (4, .int ex.1), (5, .int q5)] [] am_G0 ex.2) → am_S E mX7_findLoop d mc ms o G2 D2 0 0 37 [(0, .ref q0), (1, .int q1), (2, .int q2), (3, .ref q3), (4, .int v4), (5, .int q5), (6, .int v6), (7, .int v7)] [] am_G0 D
  | 0, _, _, _, _, _, hf, _ => by
    unfold f_X7_findLoop_L37 at hf
    cases hf
  | n + 1, v4, v6, v7, D, ex0, hf, hk0 => by
    unfold f_X7_findLoop_L37 at hf
    refine am_iload (am_dec tmX7_findLoop_0 23 rfl) rfl ?_
    refine am_iload (am_dec tmX7_findLoop_0 24 rfl) rfl ?_
    refine am_iadd (am_dec tmX7_findLoop_0 25 rfl) ?_
    refine am_iload_n (am_dec tmX7_findLoop_0 26 rfl) rfl rfl ?_
    refine am_iadd (am_dec tmX7_findLoop_0 27 rfl) ?_
    refine am_aload_n (am_dec tmX7_findLoop_0 28 rfl) rfl rfl ?_
    refine am_getI (j := 1) hE (am_dec tmX7_findLoop_0 29 rfl) h_q0 cf7 (by decide) rfl lf_X7_25 ?_
    refine am_icmp_gt (tgt := 139) (am_dec tmX7_findLoop_0 30 rfl) (by decide) (fun c5 => ?_) (fun c5 => ?_)
    · rw [if_pos c5] at hf
      have hf := Option.some.inj hf
      subst hf
      exact am_pick [0, 1, 2, 3, 4, 5] rfl (hk0 _ rfl)
    · rw [if_neg c5] at hf
      refine am_iload (am_dec tmX7_findLoop_0 31 rfl) rfl ?_
      obtain ⟨w23, g36, hf⟩ := am_bd hf
      have key7 : am_S E mX7_findLoop d mc ms o G2 D2 0 0 85 [(0, .ref q0), (1, .int q1), (2, .int q2), (3, .ref q3), (4, .int w23.1), (5, .int q5), (6, .int v6), (7, .int v7)] [] am_G0 w23.2 := by
        refine am_iload (am_dec tmX7_findLoop_0 54 rfl) rfl ?_
        refine am_iload_n (am_dec tmX7_findLoop_0 55 rfl) rfl rfl ?_
        refine am_iadd (am_dec tmX7_findLoop_0 56 rfl) ?_
        refine am_istore (lv' := [(0, .ref q0), (1, .int q1), (2, .int q2), (3, .ref q3), (4, .int w23.1), (5, .int q5), (6, .int v6), (7, .int v7), (8, .int (v7 + q2))]) (am_dec tmX7_findLoop_0 57 rfl) (by decide) rfl ?_
        refine am_iload (am_dec tmX7_findLoop_0 58 rfl) rfl ?_
        refine am_aload_n (am_dec tmX7_findLoop_0 59 rfl) rfl rfl ?_
        refine am_iload (am_dec tmX7_findLoop_1 0 rfl) rfl ?_
        obtain ⟨x25, g24, hf⟩ := am_bd hf
        refine am_callV1 (As := [.int (v7 + q2)]) (st := [.int v6]) hE (am_dec tmX7_findLoop_1 1 rfl) ok_X7_at rfl lm_X7_35 in_X7_at se_X7_at h_q0 cf7 (c_X7_at hE h_q0 g24) rfl (Nat.lt_of_lt_of_le (by decide) hdp) (Nat.le_of_ble_eq_true rfl) (Nat.zero_le _) (Nat.zero_le _) rfl ?_
        refine am_aload_n (am_dec tmX7_findLoop_1 2 rfl) rfl rfl ?_
        refine am_iload (am_dec tmX7_findLoop_1 3 rfl) rfl ?_
        refine am_iload (am_dec tmX7_findLoop_1 4 rfl) rfl ?_
        refine am_iadd (am_dec tmX7_findLoop_1 5 rfl) ?_
        obtain ⟨x27, g26, hf⟩ := am_bd hf
        refine am_callV1 (As := [.int ((v7 + q2) + q5)]) (st := [.int x25, .int v6]) hE (am_dec tmX7_findLoop_1 6 rfl) ok_X7_at rfl lm_X7_35 in_X7_at se_X7_at h_q0 cf7 (c_X7_at hE h_q0 g26) rfl (Nat.lt_of_lt_of_le (by decide) hdp) (Nat.le_of_ble_eq_true rfl) (Nat.zero_le _) (Nat.zero_le _) rfl ?_
        obtain ⟨x29, g28, hf⟩ := am_bd hf
        refine am_callSN1 (As := [.int x25, .int x27]) (st := [.int v6]) hE (am_dec tmX7_findLoop_1 7 rfl) ok_X11_far rfl lm_X7_51 st_X11_far (c_X11_far hE g28) rfl (Nat.lt_of_lt_of_le (by decide) hdp) (Nat.le_of_ble_eq_true rfl) (Nat.zero_le _) (Nat.zero_le _) rfl ?_
        refine am_aload_n (am_dec tmX7_findLoop_1 8 rfl) rfl rfl ?_
        refine am_iload (am_dec tmX7_findLoop_1 9 rfl) rfl ?_
        obtain ⟨x31, g30, hf⟩ := am_bd hf
        refine am_callV1 (As := [.int v7]) (st := [.int x29, .int v6]) hE (am_dec tmX7_findLoop_1 10 rfl) ok_X7_at rfl lm_X7_35 in_X7_at se_X7_at h_q0 cf7 (c_X7_at hE h_q0 g30) rfl (Nat.lt_of_lt_of_le (by decide) hdp) (Nat.le_of_ble_eq_true rfl) (Nat.zero_le _) (Nat.zero_le _) rfl ?_
        refine am_aload_n (am_dec tmX7_findLoop_1 11 rfl) rfl rfl ?_
        refine am_iload (am_dec tmX7_findLoop_1 12 rfl) rfl ?_
        refine am_iload (am_dec tmX7_findLoop_1 13 rfl) rfl ?_
        refine am_iadd (am_dec tmX7_findLoop_1 14 rfl) ?_
        obtain ⟨x33, g32, hf⟩ := am_bd hf
        refine am_callV1 (As := [.int (v7 + q5)]) (st := [.int x31, .int x29, .int v6]) hE (am_dec tmX7_findLoop_1 15 rfl) ok_X7_at rfl lm_X7_35 in_X7_at se_X7_at h_q0 cf7 (c_X7_at hE h_q0 g32) rfl (Nat.lt_of_lt_of_le (by decide) hdp) (Nat.le_of_ble_eq_true rfl) (Nat.zero_le _) (Nat.zero_le _) rfl ?_
        obtain ⟨x35, g34, hf⟩ := am_bd hf
        refine am_callSN1 (As := [.int x31, .int x33]) (st := [.int x29, .int v6]) hE (am_dec tmX7_findLoop_1 16 rfl) ok_X11_far rfl lm_X7_51 st_X11_far (c_X11_far hE g34) rfl (Nat.lt_of_lt_of_le (by decide) hdp) (Nat.le_of_ble_eq_true rfl) (Nat.zero_le _) (Nat.zero_le _) rfl ?_
        refine am_isub (am_dec tmX7_findLoop_1 17 rfl) ?_
        refine am_iadd (am_dec tmX7_findLoop_1 18 rfl) ?_
        refine am_istore (lv' := [(0, .ref q0), (1, .int q1), (2, .int q2), (3, .ref q3), (4, .int w23.1), (5, .int q5), (6, .int (v6 + (x29 - x35))), (7, .int v7), (8, .int (v7 + q2))]) (am_dec tmX7_findLoop_1 19 rfl) (by decide) rfl ?_
        refine am_iinc (v := (1 : Int32)) (lv' := [(0, .ref q0), (1, .int q1), (2, .int q2), (3, .ref q3), (4, .int w23.1), (5, .int q5), (6, .int (v6 + (x29 - x35))), (7, .int (v7 + (1 : Int32))), (8, .int (v7 + q2))]) (am_dec tmX7_findLoop_1 20 rfl) rfl (by decide) (by decide) rfl ?_
        refine am_goto (tgt := 37) (am_dec tmX7_findLoop_1 21 rfl) (by decide) ?_
        exact am_pick [0, 1, 2, 3, 4, 5, 6, 7] rfl (l_X7_findLoop_L37 hE hdp h_q0 h_q3 n w23.1 (v6 + (x29 - x35)) (v7 + (1 : Int32)) w23.2 ex0 hf hk0)
      replace hf := g36
      refine am_if_eq (tgt := 64) (am_dec tmX7_findLoop_0 32 rfl) (by decide) (fun c6 => ?_) (fun c6 => ?_)
      · rw [if_pos c6] at hf
        refine am_iconst (v := (1 : Int32)) (am_dec tmX7_findLoop_0 38 rfl) (by decide) ?_
        refine am_istore (lv' := [(0, .ref q0), (1, .int q1), (2, .int q2), (3, .ref q3), (4, .int (1 : Int32)), (5, .int q5), (6, .int v6), (7, .int v7)]) (am_dec tmX7_findLoop_0 39 rfl) (by decide) rfl ?_
        refine am_aload_n (am_dec tmX7_findLoop_0 40 rfl) rfl rfl ?_
        refine am_iconst (v := (0 : Int32)) (am_dec tmX7_findLoop_0 41 rfl) (by decide) ?_
        refine am_iload (am_dec tmX7_findLoop_0 42 rfl) rfl ?_
        obtain ⟨D8, g9, hf⟩ := am_bd hf
        refine am_iast2 hE (am_dec tmX7_findLoop_0 43 rfl) h_q3 g9 ?_
        refine am_aload_n (am_dec tmX7_findLoop_0 44 rfl) rfl rfl ?_
        refine am_iconst (v := (1 : Int32)) (am_dec tmX7_findLoop_0 45 rfl) (by decide) ?_
        refine am_iload (am_dec tmX7_findLoop_0 46 rfl) rfl ?_
        refine am_iload (am_dec tmX7_findLoop_0 47 rfl) rfl ?_
        refine am_iadd (am_dec tmX7_findLoop_0 48 rfl) ?_
        obtain ⟨D10, g11, hf⟩ := am_bd hf
        refine am_iast2 hE (am_dec tmX7_findLoop_0 49 rfl) h_q3 g11 ?_
        refine am_aload_n (am_dec tmX7_findLoop_0 50 rfl) rfl rfl ?_
        refine am_iconst (v := (2 : Int32)) (am_dec tmX7_findLoop_0 51 rfl) (by decide) ?_
        refine am_iload (am_dec tmX7_findLoop_0 52 rfl) rfl ?_
        obtain ⟨D12, g13, hf⟩ := am_bd hf
        refine am_iast2 hE (am_dec tmX7_findLoop_0 53 rfl) h_q3 g13 ?_
        have hf := Option.some.inj hf
        subst hf
        exact am_pick [0, 1, 2, 3, 4, 5, 6, 7] rfl key7
      · rw [if_neg c6] at hf
        refine am_iload (am_dec tmX7_findLoop_0 33 rfl) rfl ?_
        refine am_aload_n (am_dec tmX7_findLoop_0 34 rfl) rfl rfl ?_
        refine am_iconst (v := (2 : Int32)) (am_dec tmX7_findLoop_0 35 rfl) (by decide) ?_
        obtain ⟨x14, g15, hf⟩ := am_bd hf
        refine am_iald2 hE (am_dec tmX7_findLoop_0 36 rfl) h_q3 g15 ?_
        refine am_icmp_ge (tgt := 85) (am_dec tmX7_findLoop_0 37 rfl) (by decide) (fun c16 => ?_) (fun c16 => ?_)
        · rw [if_pos c16] at hf
          have hf := Option.some.inj hf
          subst hf
          exact am_pick [0, 1, 2, 3, 4, 5, 6, 7] rfl key7
        · rw [if_neg c16] at hf
          refine am_iconst (v := (1 : Int32)) (am_dec tmX7_findLoop_0 38 rfl) (by decide) ?_
          refine am_istore (lv' := [(0, .ref q0), (1, .int q1), (2, .int q2), (3, .ref q3), (4, .int (1 : Int32)), (5, .int q5), (6, .int v6), (7, .int v7)]) (am_dec tmX7_findLoop_0 39 rfl) (by decide) rfl ?_
          refine am_aload_n (am_dec tmX7_findLoop_0 40 rfl) rfl rfl ?_
          refine am_iconst (v := (0 : Int32)) (am_dec tmX7_findLoop_0 41 rfl) (by decide) ?_
          refine am_iload (am_dec tmX7_findLoop_0 42 rfl) rfl ?_
          obtain ⟨D17, g18, hf⟩ := am_bd hf
          refine am_iast2 hE (am_dec tmX7_findLoop_0 43 rfl) h_q3 g18 ?_
          refine am_aload_n (am_dec tmX7_findLoop_0 44 rfl) rfl rfl ?_
          refine am_iconst (v := (1 : Int32)) (am_dec tmX7_findLoop_0 45 rfl) (by decide) ?_
          refine am_iload (am_dec tmX7_findLoop_0 46 rfl) rfl ?_
          refine am_iload (am_dec tmX7_findLoop_0 47 rfl) rfl ?_
          refine am_iadd (am_dec tmX7_findLoop_0 48 rfl) ?_
          obtain ⟨D19, g20, hf⟩ := am_bd hf
          refine am_iast2 hE (am_dec tmX7_findLoop_0 49 rfl) h_q3 g20 ?_
          refine am_aload_n (am_dec tmX7_findLoop_0 50 rfl) rfl rfl ?_
          refine am_iconst (v := (2 : Int32)) (am_dec tmX7_findLoop_0 51 rfl) (by decide) ?_
          refine am_iload (am_dec tmX7_findLoop_0 52 rfl) rfl ?_
          obtain ⟨D21, g22, hf⟩ := am_bd hf
          refine am_iast2 hE (am_dec tmX7_findLoop_0 53 rfl) h_q3 g22 ?_
          have hf := Option.some.inj hf
          subst hf
          exact am_pick [0, 1, 2, 3, 4, 5, 6, 7] rfl key7
set_option maxRecDepth 100000 in
set_option maxHeartbeats 4000000 in
theorem l_X7_findLoop_L11 {E : am_E} (hE : am_EH E) {d mc ms : Nat} {o : am_O} {G2 : am_G} {D2 : am_D} (hdp : 3 ≤ d) {q0 : Nat} {q1 : Int32} {q2 : Int32} {q3 : Nat} (h_q0 : am_sh am_G0 q0 = some (7, 2)) (h_q3 : am_sh am_G0 q3 = some (20, am_ln q3)) : ∀ (n : Nat) (v4 : Int32) (v5 : Int32) (D : am_D) (ex0 : Int32 × am_D), f_X7_findLoop_L11 q0 q1 q2 q3 n v4 v5 D = some ex0 → (∀ ex : Int32 × am_D, ex0 = ex → am_S E mX7_findLoop d mc ms o G2 D2 0 0 145 [(4, .int ex.1)] [] am_G0 ex.2) → am_S E mX7_findLoop d mc ms o G2 D2 0 0 11 [(0, .ref q0), (1, .int q1), (2, .int q2), (3, .ref q3), (4, .int v4), (5, .int v5)] [] am_G0 D
  | 0, _, _, _, _, hf, _ => by
    unfold f_X7_findLoop_L11 at hf
    cases hf
  | n + 1, v4, v5, D, ex0, hf, hk0 => by
    unfold f_X7_findLoop_L11 at hf
    refine am_iload (am_dec tmX7_findLoop_0 7 rfl) rfl ?_
    refine am_iload_n (am_dec tmX7_findLoop_0 8 rfl) rfl rfl ?_
    refine am_icmp_lt (tgt := 145) (am_dec tmX7_findLoop_0 9 rfl) (by decide) (fun c1 => ?_) (fun c1 => ?_)
    · rw [if_pos c1] at hf
      have hf := Option.some.inj hf
      subst hf
      exact am_pick [4] rfl (hk0 _ rfl)
    · rw [if_neg c1] at hf
      refine am_aload_n (am_dec tmX7_findLoop_0 10 rfl) rfl rfl ?_
      refine am_alen (t := 0) (v := (Int32.ofNat (am_ln q3))) hE (am_dec tmX7_findLoop_0 11 rfl) h_q3 (by decide) rfl ?_
      refine am_iconst (v := (3 : Int32)) (am_dec tmX7_findLoop_0 12 rfl) (by decide) ?_
      refine am_icmp_lt (tgt := 145) (am_dec tmX7_findLoop_0 13 rfl) (by decide) (fun c2 => ?_) (fun c2 => ?_)
      · rw [if_pos c2] at hf
        have hf := Option.some.inj hf
        subst hf
        exact am_pick [4] rfl (hk0 _ rfl)
      · rw [if_neg c2] at hf
        refine am_aload_n (am_dec tmX7_findLoop_0 14 rfl) rfl rfl ?_
        refine am_iconst (v := (0 : Int32)) (am_dec tmX7_findLoop_0 15 rfl) (by decide) ?_
        refine am_aload_n (am_dec tmX7_findLoop_0 16 rfl) rfl rfl ?_
        refine am_iload (am_dec tmX7_findLoop_0 17 rfl) rfl ?_
        refine am_iload_n (am_dec tmX7_findLoop_0 18 rfl) rfl rfl ?_
        obtain ⟨x4, g3, hf⟩ := am_bd hf
        refine am_callV1 (As := [.int (0 : Int32), .ref q0, .int v5, .int q2]) (st := []) hE (am_dec tmX7_findLoop_0 19 rfl) ok_X7_unlike rfl lm_X7_72 in_X7_unlike se_X7_unlike h_q0 cf7 (c_X7_unlike hE h_q0 h_q0 g3) rfl (Nat.lt_of_lt_of_le (by decide) hdp) (Nat.le_of_ble_eq_true rfl) (Nat.zero_le _) (Nat.zero_le _) rfl ?_
        refine am_istore (lv' := [(0, .ref q0), (1, .int q1), (2, .int q2), (3, .ref q3), (4, .int v4), (5, .int v5), (6, .int x4)]) (am_dec tmX7_findLoop_0 20 rfl) (by decide) rfl ?_
        refine am_iconst (v := (0 : Int32)) (am_dec tmX7_findLoop_0 21 rfl) (by decide) ?_
        refine am_istore (lv' := [(0, .ref q0), (1, .int q1), (2, .int q2), (3, .ref q3), (4, .int v4), (5, .int v5), (6, .int x4), (7, .int (0 : Int32))]) (am_dec tmX7_findLoop_0 22 rfl) (by decide) rfl ?_
        obtain ⟨e37, g38, hf⟩ := am_bd hf
        refine am_pick [0, 1, 2, 3, 4, 5, 6, 7] rfl (l_X7_findLoop_L37 hE hdp h_q0 h_q3 am_fu _ _ _ _ _ g38 (fun ex he => ?_))
        subst he
        refine am_iinc (v := (-1 : Int32)) (lv' := [(0, .ref q0), (1, .int q1), (2, .int q2), (3, .ref q3), (4, .int e37.1), (5, .int (v5 + (-1 : Int32)))]) (am_dec tmX7_findLoop_1 22 rfl) rfl (by decide) (by decide) rfl ?_
        refine am_goto (tgt := 11) (am_dec tmX7_findLoop_1 23 rfl) (by decide) ?_
        exact am_pick [0, 1, 2, 3, 4, 5] rfl (l_X7_findLoop_L11 hE hdp h_q0 h_q3 n e37.1 (v5 + (-1 : Int32)) e37.2 ex0 hf hk0)
set_option maxRecDepth 100000 in
set_option maxHeartbeats 4000000 in
theorem c_X7_findLoop {E : am_E} (hE : am_EH E) {r0 : Nat} {p1 : Int32} {p2 : Int32} {p3 : Nat} {D : am_D} {r : (Int32 × am_D)} (h_r0 : am_sh am_G0 r0 = some (7, 2)) (h_p3 : am_sh am_G0 p3 = some (20, am_ln p3)) (hf : f_X7_findLoop r0 p1 p2 p3 D = some r) : am_C E mX7_findLoop 3 0 0 [.ref r0, .int p1, .int p2, .ref p3] am_G0 D (.inl (some (.int r.1))) am_G0 r.2 := by
  refine am_C_of (by decide +kernel) (Nat.le_of_ble_eq_true rfl) ?_
  change am_S E mX7_findLoop 3 0 0 (.inl (some (.int r.1))) am_G0 r.2 0 0 0 [(0, .ref r0), (1, .int p1), (2, .int p2), (3, .ref p3)] [] am_G0 D
  unfold f_X7_findLoop at hf
  refine am_iconst (v := (0 : Int32)) (am_dec tmX7_findLoop_0 0 rfl) (by decide) ?_
  refine am_istore (lv' := [(0, .ref r0), (1, .int p1), (2, .int p2), (3, .ref p3), (4, .int (0 : Int32))]) (am_dec tmX7_findLoop_0 1 rfl) (by decide) rfl ?_
  refine am_aload_n (am_dec tmX7_findLoop_0 2 rfl) rfl rfl ?_
  refine am_getI (j := 1) hE (am_dec tmX7_findLoop_0 3 rfl) h_r0 cf7 (by decide) rfl lf_X7_25 ?_
  refine am_iload_n (am_dec tmX7_findLoop_0 4 rfl) rfl rfl ?_
  refine am_isub (am_dec tmX7_findLoop_0 5 rfl) ?_
  refine am_istore (lv' := [(0, .ref r0), (1, .int p1), (2, .int p2), (3, .ref p3), (4, .int (0 : Int32)), (5, .int ((D.1 r0 1) - p2))]) (am_dec tmX7_findLoop_0 6 rfl) (by decide) rfl ?_
  obtain ⟨e39, g42, hf⟩ := am_bd hf
  refine am_pick [0, 1, 2, 3, 4, 5] rfl (l_X7_findLoop_L11 hE (Nat.le_refl _) h_r0 h_p3 am_fu _ _ _ _ g42 (fun ex he => ?_))
  subst he
  refine am_iload (am_dec tmX7_findLoop_1 24 rfl) rfl ?_
  obtain ⟨z40, g41, hf⟩ := am_bd hf
  have hf := Option.some.inj hf
  subst hf
  exact am_zret (am_dec tmX7_findLoop_1 25 rfl) rfl ((am_zb_eq g41).2.1) (Nat.zero_le _) (Nat.zero_le _)
theorem z_X7_findLoop {r0 : Nat} {p1 : Int32} {p2 : Int32} {p3 : Nat} {D : am_D} {r : (Int32 × am_D)} (hf : f_X7_findLoop r0 p1 p2 p3 D = some r) : narrow .boolean (.int r.1) = .int r.1 := by
  unfold f_X7_findLoop at hf
  obtain ⟨e39, g42, hf⟩ := am_bd hf
  obtain ⟨z40, g41, hf⟩ := am_bd hf
  have hf := Option.some.inj hf
  subst hf
  exact (am_zb_eq g41).2.1
def f_X7_bestJoin_L26 (q0 : Nat) (q1 : Nat) (q2 : Int32) (q3 : Int32) (q4 : Int32) (D : am_D) : Nat → Int32 → Int32 → Int32 → Option (Int32)
  | 0, _, _, _ => none
  | n + 1, v5, v6, v7 =>
    if q3 < v7 then
    some (v5)
    else
    if q4 < v7 then
    some (v5)
    else
    (f_X7_unlike q0 (q4 - v7) q1 (0 : Int32) q2 D).bind fun x6 =>
    (if v6 ≤ x6 then
    some (v5, v6)
    else
    some ((q4 - v7), x6)).bind fun w9 =>
    f_X7_bestJoin_L26 q0 q1 q2 q3 q4 D n w9.1 w9.2 (v7 + (1 : Int32))
def f_X7_bestJoin (r0 : Nat) (p1 : Nat) (p2 : Int32) (p3 : Int32) (D : am_D) : Option (Int32) :=
    (f_X7_unlike r0 ((D.1 r0 1) - p2) p1 (0 : Int32) p2 D).bind fun x2 =>
    (f_X7_bestJoin_L26 r0 p1 p2 p3 ((D.1 r0 1) - p2) D am_fu ((D.1 r0 1) - p2) x2 (1 : Int32)).bind fun e11 =>
    some e11
set_option maxRecDepth 100000 in
set_option maxHeartbeats 4000000 in
theorem l_X7_bestJoin_L26 {E : am_E} (hE : am_EH E) {d mc ms : Nat} {o : am_O} {G2 : am_G} {D2 : am_D} (hdp : 3 ≤ d) {q0 : Nat} {q1 : Nat} {q2 : Int32} {q3 : Int32} {q4 : Int32} {D : am_D} (h_q0 : am_sh am_G0 q0 = some (7, 2)) (h_q1 : am_sh am_G0 q1 = some (7, 2)) : ∀ (n : Nat) (v5 : Int32) (v6 : Int32) (v7 : Int32) (ex0 : Int32), f_X7_bestJoin_L26 q0 q1 q2 q3 q4 D n v5 v6 v7 = some ex0 → (∀ ex : Int32, ex0 = ex → am_S E mX7_bestJoin d mc ms o G2 D2 0 0 77 [(5, .int ex)] [] am_G0 D) → am_S E mX7_bestJoin d mc ms o G2 D2 0 0 26 [(0, .ref q0), (1, .ref q1), (2, .int q2), (3, .int q3), (4, .int q4), (5, .int v5), (6, .int v6), (7, .int v7)] [] am_G0 D
  | 0, _, _, _, _, hf, _ => by
    unfold f_X7_bestJoin_L26 at hf
    cases hf
  | n + 1, v5, v6, v7, ex0, hf, hk0 => by
    unfold f_X7_bestJoin_L26 at hf
    refine am_iload (am_dec tmX7_bestJoin 16 rfl) rfl ?_
    refine am_iload_n (am_dec tmX7_bestJoin 17 rfl) rfl rfl ?_
    refine am_icmp_gt (tgt := 77) (am_dec tmX7_bestJoin 18 rfl) (by decide) (fun c3 => ?_) (fun c3 => ?_)
    · rw [if_pos c3] at hf
      have hf := Option.some.inj hf
      subst hf
      exact am_pick [5] rfl (hk0 _ rfl)
    · rw [if_neg c3] at hf
      refine am_iload (am_dec tmX7_bestJoin 19 rfl) rfl ?_
      refine am_iload (am_dec tmX7_bestJoin 20 rfl) rfl ?_
      refine am_icmp_gt (tgt := 77) (am_dec tmX7_bestJoin 21 rfl) (by decide) (fun c4 => ?_) (fun c4 => ?_)
      · rw [if_pos c4] at hf
        have hf := Option.some.inj hf
        subst hf
        exact am_pick [5] rfl (hk0 _ rfl)
      · rw [if_neg c4] at hf
        refine am_aload_n (am_dec tmX7_bestJoin 22 rfl) rfl rfl ?_
        refine am_iload (am_dec tmX7_bestJoin 23 rfl) rfl ?_
        refine am_iload (am_dec tmX7_bestJoin 24 rfl) rfl ?_
        refine am_isub (am_dec tmX7_bestJoin 25 rfl) ?_
        refine am_aload_n (am_dec tmX7_bestJoin 26 rfl) rfl rfl ?_
        refine am_iconst (v := (0 : Int32)) (am_dec tmX7_bestJoin 27 rfl) (by decide) ?_
        refine am_iload_n (am_dec tmX7_bestJoin 28 rfl) rfl rfl ?_
        obtain ⟨x6, g5, hf⟩ := am_bd hf
        refine am_callV1 (As := [.int (q4 - v7), .ref q1, .int (0 : Int32), .int q2]) (st := []) hE (am_dec tmX7_bestJoin 29 rfl) ok_X7_unlike rfl lm_X7_72 in_X7_unlike se_X7_unlike h_q0 cf7 (c_X7_unlike hE h_q0 h_q1 g5) rfl (Nat.lt_of_lt_of_le (by decide) hdp) (Nat.le_of_ble_eq_true rfl) (Nat.zero_le _) (Nat.zero_le _) rfl ?_
        refine am_istore (lv' := [(0, .ref q0), (1, .ref q1), (2, .int q2), (3, .int q3), (4, .int q4), (5, .int v5), (6, .int v6), (7, .int v7), (8, .int x6)]) (am_dec tmX7_bestJoin 30 rfl) (by decide) rfl ?_
        refine am_iload (am_dec tmX7_bestJoin 31 rfl) rfl ?_
        refine am_iload (am_dec tmX7_bestJoin 32 rfl) rfl ?_
        obtain ⟨w9, g10, hf⟩ := am_bd hf
        have key8 : am_S E mX7_bestJoin d mc ms o G2 D2 0 0 71 [(0, .ref q0), (1, .ref q1), (2, .int q2), (3, .int q3), (4, .int q4), (5, .int w9.1), (6, .int w9.2), (7, .int v7)] [] am_G0 D := by
          refine am_iinc (v := (1 : Int32)) (lv' := [(0, .ref q0), (1, .ref q1), (2, .int q2), (3, .int q3), (4, .int q4), (5, .int w9.1), (6, .int w9.2), (7, .int (v7 + (1 : Int32)))]) (am_dec tmX7_bestJoin 40 rfl) rfl (by decide) (by decide) rfl ?_
          refine am_goto (tgt := 26) (am_dec tmX7_bestJoin 41 rfl) (by decide) ?_
          exact am_pick [0, 1, 2, 3, 4, 5, 6, 7] rfl (l_X7_bestJoin_L26 hE hdp h_q0 h_q1 n w9.1 w9.2 (v7 + (1 : Int32)) ex0 hf hk0)
        replace hf := g10
        refine am_icmp_ge (tgt := 71) (am_dec tmX7_bestJoin 33 rfl) (by decide) (fun c7 => ?_) (fun c7 => ?_)
        · rw [if_pos c7] at hf
          have hf := Option.some.inj hf
          subst hf
          exact am_pick [0, 1, 2, 3, 4, 5, 6, 7] rfl key8
        · rw [if_neg c7] at hf
          refine am_iload (am_dec tmX7_bestJoin 34 rfl) rfl ?_
          refine am_istore (lv' := [(0, .ref q0), (1, .ref q1), (2, .int q2), (3, .int q3), (4, .int q4), (5, .int v5), (6, .int x6), (7, .int v7), (8, .int x6)]) (am_dec tmX7_bestJoin 35 rfl) (by decide) rfl ?_
          refine am_iload (am_dec tmX7_bestJoin 36 rfl) rfl ?_
          refine am_iload (am_dec tmX7_bestJoin 37 rfl) rfl ?_
          refine am_isub (am_dec tmX7_bestJoin 38 rfl) ?_
          refine am_istore (lv' := [(0, .ref q0), (1, .ref q1), (2, .int q2), (3, .int q3), (4, .int q4), (5, .int (q4 - v7)), (6, .int x6), (7, .int v7), (8, .int x6)]) (am_dec tmX7_bestJoin 39 rfl) (by decide) rfl ?_
          have hf := Option.some.inj hf
          subst hf
          exact am_pick [0, 1, 2, 3, 4, 5, 6, 7] rfl key8
set_option maxRecDepth 100000 in
set_option maxHeartbeats 4000000 in
theorem c_X7_bestJoin {E : am_E} (hE : am_EH E) {r0 : Nat} {p1 : Nat} {p2 : Int32} {p3 : Int32} {D : am_D} {r : Int32} (h_r0 : am_sh am_G0 r0 = some (7, 2)) (h_p1 : am_sh am_G0 p1 = some (7, 2)) (hf : f_X7_bestJoin r0 p1 p2 p3 D = some r) : am_C E mX7_bestJoin 3 0 0 [.ref r0, .ref p1, .int p2, .int p3] am_G0 D (.inl (some (.int r))) am_G0 D := by
  refine am_C_of (by decide +kernel) (Nat.le_of_ble_eq_true rfl) ?_
  change am_S E mX7_bestJoin 3 0 0 (.inl (some (.int r))) am_G0 D 0 0 0 [(0, .ref r0), (1, .ref p1), (2, .int p2), (3, .int p3)] [] am_G0 D
  unfold f_X7_bestJoin at hf
  refine am_aload_n (am_dec tmX7_bestJoin 0 rfl) rfl rfl ?_
  refine am_getI (j := 1) hE (am_dec tmX7_bestJoin 1 rfl) h_r0 cf7 (by decide) rfl lf_X7_25 ?_
  refine am_iload_n (am_dec tmX7_bestJoin 2 rfl) rfl rfl ?_
  refine am_isub (am_dec tmX7_bestJoin 3 rfl) ?_
  refine am_istore (lv' := [(0, .ref r0), (1, .ref p1), (2, .int p2), (3, .int p3), (4, .int ((D.1 r0 1) - p2))]) (am_dec tmX7_bestJoin 4 rfl) (by decide) rfl ?_
  refine am_iload (am_dec tmX7_bestJoin 5 rfl) rfl ?_
  refine am_istore (lv' := [(0, .ref r0), (1, .ref p1), (2, .int p2), (3, .int p3), (4, .int ((D.1 r0 1) - p2)), (5, .int ((D.1 r0 1) - p2))]) (am_dec tmX7_bestJoin 6 rfl) (by decide) rfl ?_
  refine am_aload_n (am_dec tmX7_bestJoin 7 rfl) rfl rfl ?_
  refine am_iload (am_dec tmX7_bestJoin 8 rfl) rfl ?_
  refine am_aload_n (am_dec tmX7_bestJoin 9 rfl) rfl rfl ?_
  refine am_iconst (v := (0 : Int32)) (am_dec tmX7_bestJoin 10 rfl) (by decide) ?_
  refine am_iload_n (am_dec tmX7_bestJoin 11 rfl) rfl rfl ?_
  obtain ⟨x2, g1, hf⟩ := am_bd hf
  refine am_callV1 (As := [.int ((D.1 r0 1) - p2), .ref p1, .int (0 : Int32), .int p2]) (st := []) hE (am_dec tmX7_bestJoin 12 rfl) ok_X7_unlike rfl lm_X7_72 in_X7_unlike se_X7_unlike h_r0 cf7 (c_X7_unlike hE h_r0 h_p1 g1) rfl (by decide) (Nat.le_of_ble_eq_true rfl) (Nat.zero_le _) (Nat.zero_le _) rfl ?_
  refine am_istore (lv' := [(0, .ref r0), (1, .ref p1), (2, .int p2), (3, .int p3), (4, .int ((D.1 r0 1) - p2)), (5, .int ((D.1 r0 1) - p2)), (6, .int x2)]) (am_dec tmX7_bestJoin 13 rfl) (by decide) rfl ?_
  refine am_iconst (v := (1 : Int32)) (am_dec tmX7_bestJoin 14 rfl) (by decide) ?_
  refine am_istore (lv' := [(0, .ref r0), (1, .ref p1), (2, .int p2), (3, .int p3), (4, .int ((D.1 r0 1) - p2)), (5, .int ((D.1 r0 1) - p2)), (6, .int x2), (7, .int (1 : Int32))]) (am_dec tmX7_bestJoin 15 rfl) (by decide) rfl ?_
  obtain ⟨e11, g12, hf⟩ := am_bd hf
  refine am_pick [0, 1, 2, 3, 4, 5, 6, 7] rfl (l_X7_bestJoin_L26 hE (Nat.le_refl _) h_r0 h_p1 am_fu _ _ _ _ g12 (fun ex he => ?_))
  subst he
  refine am_iload (am_dec tmX7_bestJoin 42 rfl) rfl ?_
  have hf := Option.some.inj hf
  subst hf
  exact am_iret (am_dec tmX7_bestJoin 43 rfl) rfl (Nat.zero_le _) (Nat.zero_le _)
def f_X7_joinOf (r0 : Nat) (p1 : Nat) (p2 : Nat) (p3 : Int32) (p4 : Int32) (D : am_D) : Option (am_D) :=
    (f_X7_start r0 (p3 + (D.1 p2 1)) D).bind fun x2 =>
    (f_X7_lay r0 (0 : Int32) p1 (0 : Int32) (p3 + p4) x2).bind fun x4 =>
    (f_X7_fadeIn r0 p3 p2 (0 : Int32) p4 x4).bind fun x6 =>
    (f_X7_lay r0 (p3 + p4) p2 p4 ((x6.1 p2 1) - p4) x6).bind fun x8 =>
    some x8
set_option maxRecDepth 100000 in
set_option maxHeartbeats 4000000 in
theorem c_X7_joinOf {E : am_E} (hE : am_EH E) {r0 : Nat} {p1 : Nat} {p2 : Nat} {p3 : Int32} {p4 : Int32} {D : am_D} {r : am_D} (h_r0 : am_sh am_G0 r0 = some (7, 2)) (h_p1 : am_sh am_G0 p1 = some (7, 2)) (h_p2 : am_sh am_G0 p2 = some (7, 2)) (hf : f_X7_joinOf r0 p1 p2 p3 p4 D = some r) : am_C E mX7_joinOf 4 0 0 [.ref r0, .ref p1, .ref p2, .int p3, .int p4] am_G0 D (.inl none) am_G0 r := by
  refine am_C_of (by decide +kernel) (Nat.le_of_ble_eq_true rfl) ?_
  change am_S E mX7_joinOf 4 0 0 (.inl none) am_G0 r 0 0 0 [(0, .ref r0), (1, .ref p1), (2, .ref p2), (3, .int p3), (4, .int p4)] [] am_G0 D
  unfold f_X7_joinOf at hf
  refine am_aload_n (am_dec tmX7_joinOf 0 rfl) rfl rfl ?_
  refine am_iload_n (am_dec tmX7_joinOf 1 rfl) rfl rfl ?_
  refine am_aload_n (am_dec tmX7_joinOf 2 rfl) rfl rfl ?_
  refine am_getI (j := 1) hE (am_dec tmX7_joinOf 3 rfl) h_p2 cf7 (by decide) rfl lf_X7_25 ?_
  refine am_iadd (am_dec tmX7_joinOf 4 rfl) ?_
  obtain ⟨x2, g1, hf⟩ := am_bd hf
  refine am_callV0 (As := [.int (p3 + (D.1 p2 1))]) (st := []) hE (am_dec tmX7_joinOf 5 rfl) ok_X7_start rfl lm_X7_76 in_X7_start se_X7_start h_r0 cf7 (c_X7_start hE h_r0 g1) rfl (by decide) (Nat.le_of_ble_eq_true rfl) (Nat.zero_le _) (Nat.zero_le _) rfl ?_
  refine am_aload_n (am_dec tmX7_joinOf 6 rfl) rfl rfl ?_
  refine am_iconst (v := (0 : Int32)) (am_dec tmX7_joinOf 7 rfl) (by decide) ?_
  refine am_aload_n (am_dec tmX7_joinOf 8 rfl) rfl rfl ?_
  refine am_iconst (v := (0 : Int32)) (am_dec tmX7_joinOf 9 rfl) (by decide) ?_
  refine am_iload_n (am_dec tmX7_joinOf 10 rfl) rfl rfl ?_
  refine am_iload (am_dec tmX7_joinOf 11 rfl) rfl ?_
  refine am_iadd (am_dec tmX7_joinOf 12 rfl) ?_
  obtain ⟨x4, g3, hf⟩ := am_bd hf
  refine am_callV0 (As := [.int (0 : Int32), .ref p1, .int (0 : Int32), .int (p3 + p4)]) (st := []) hE (am_dec tmX7_joinOf 13 rfl) ok_X7_lay rfl lm_X7_79 in_X7_lay se_X7_lay h_r0 cf7 (c_X7_lay hE h_r0 h_p1 g3) rfl (by decide) (Nat.le_of_ble_eq_true rfl) (Nat.zero_le _) (Nat.zero_le _) rfl ?_
  refine am_aload_n (am_dec tmX7_joinOf 14 rfl) rfl rfl ?_
  refine am_iload_n (am_dec tmX7_joinOf 15 rfl) rfl rfl ?_
  refine am_aload_n (am_dec tmX7_joinOf 16 rfl) rfl rfl ?_
  refine am_iconst (v := (0 : Int32)) (am_dec tmX7_joinOf 17 rfl) (by decide) ?_
  refine am_iload (am_dec tmX7_joinOf 18 rfl) rfl ?_
  obtain ⟨x6, g5, hf⟩ := am_bd hf
  refine am_callV0 (As := [.int p3, .ref p2, .int (0 : Int32), .int p4]) (st := []) hE (am_dec tmX7_joinOf 19 rfl) ok_X7_fadeIn rfl lm_X7_83 in_X7_fadeIn se_X7_fadeIn h_r0 cf7 (c_X7_fadeIn hE h_r0 h_p2 g5) rfl (by decide) (Nat.le_of_ble_eq_true rfl) (Nat.zero_le _) (Nat.zero_le _) rfl ?_
  refine am_aload_n (am_dec tmX7_joinOf 20 rfl) rfl rfl ?_
  refine am_iload_n (am_dec tmX7_joinOf 21 rfl) rfl rfl ?_
  refine am_iload (am_dec tmX7_joinOf 22 rfl) rfl ?_
  refine am_iadd (am_dec tmX7_joinOf 23 rfl) ?_
  refine am_aload_n (am_dec tmX7_joinOf 24 rfl) rfl rfl ?_
  refine am_iload (am_dec tmX7_joinOf 25 rfl) rfl ?_
  refine am_aload_n (am_dec tmX7_joinOf 26 rfl) rfl rfl ?_
  refine am_getI (j := 1) hE (am_dec tmX7_joinOf 27 rfl) h_p2 cf7 (by decide) rfl lf_X7_25 ?_
  refine am_iload (am_dec tmX7_joinOf 28 rfl) rfl ?_
  refine am_isub (am_dec tmX7_joinOf 29 rfl) ?_
  obtain ⟨x8, g7, hf⟩ := am_bd hf
  refine am_callV0 (As := [.int (p3 + p4), .ref p2, .int p4, .int ((x6.1 p2 1) - p4)]) (st := []) hE (am_dec tmX7_joinOf 30 rfl) ok_X7_lay rfl lm_X7_79 in_X7_lay se_X7_lay h_r0 cf7 (c_X7_lay hE h_r0 h_p2 g7) rfl (by decide) (Nat.le_of_ble_eq_true rfl) (Nat.zero_le _) (Nat.zero_le _) rfl ?_
  have hf := Option.some.inj hf
  subst hf
  exact am_vret (am_dec tmX7_joinOf 31 rfl) rfl (Nat.zero_le _) (Nat.zero_le _)
def f_X7_resampleOf_L8 (q0 : Nat) (q1 : Nat) (q3 : Int32) (q4 : Int32) : Nat → Int32 → am_D → Option (am_D)
  | 0, _, _ => none
  | n + 1, v5, D =>
    if (D.1 q0 1) ≤ v5 then
    some (D)
    else
    (f_X11_cut (v5 * q3) q4).bind fun x5 =>
    (f_X11_left (v5 * q3) q4).bind fun x7 =>
    (f_X7_at q1 x5 D).bind fun x9 =>
    (f_X7_at q1 (x5 + (1 : Int32)) D).bind fun x11 =>
    (f_X11_cut ((x9 * (q4 - x7)) + (x11 * x7)) q4).bind fun x13 =>
    (f_X7_put q0 v5 x13 D).bind fun x15 =>
    f_X7_resampleOf_L8 q0 q1 q3 q4 n (v5 + (1 : Int32)) x15
def f_X7_resampleOf (r0 : Nat) (p1 : Nat) (p2 : Int32) (p3 : Int32) (p4 : Int32) (D : am_D) : Option (am_D) :=
    (f_X7_start r0 p2 D).bind fun x2 =>
    (f_X7_resampleOf_L8 r0 p1 p3 p4 am_fu (0 : Int32) x2).bind fun e16 =>
    some e16
set_option maxRecDepth 100000 in
set_option maxHeartbeats 4000000 in
theorem l_X7_resampleOf_L8 {E : am_E} (hE : am_EH E) {d mc ms : Nat} {o : am_O} {G2 : am_G} {D2 : am_D} (hdp : 4 ≤ d) {q0 : Nat} {q1 : Nat} {q3 : Int32} {q4 : Int32} (h_q0 : am_sh am_G0 q0 = some (7, 2)) (h_q1 : am_sh am_G0 q1 = some (7, 2)) : ∀ (n : Nat) (v5 : Int32) (D : am_D) (ex0 : am_D), f_X7_resampleOf_L8 q0 q1 q3 q4 n v5 D = some ex0 → (∀ ex : am_D, ex0 = ex → am_S E mX7_resampleOf d mc ms o G2 D2 0 0 80 [] [] am_G0 ex) → am_S E mX7_resampleOf d mc ms o G2 D2 0 0 8 [(0, .ref q0), (1, .ref q1), (3, .int q3), (4, .int q4), (5, .int v5)] [] am_G0 D
  | 0, _, _, _, hf, _ => by
    unfold f_X7_resampleOf_L8 at hf
    cases hf
  | n + 1, v5, D, ex0, hf, hk0 => by
    unfold f_X7_resampleOf_L8 at hf
    refine am_iload (am_dec tmX7_resampleOf 5 rfl) rfl ?_
    refine am_aload_n (am_dec tmX7_resampleOf 6 rfl) rfl rfl ?_
    refine am_getI (j := 1) hE (am_dec tmX7_resampleOf 7 rfl) h_q0 cf7 (by decide) rfl lf_X7_25 ?_
    refine am_icmp_ge (tgt := 80) (am_dec tmX7_resampleOf 8 rfl) (by decide) (fun c3 => ?_) (fun c3 => ?_)
    · rw [if_pos c3] at hf
      have hf := Option.some.inj hf
      subst hf
      exact am_pick [] rfl (hk0 _ rfl)
    · rw [if_neg c3] at hf
      refine am_iload (am_dec tmX7_resampleOf 9 rfl) rfl ?_
      refine am_iload_n (am_dec tmX7_resampleOf 10 rfl) rfl rfl ?_
      refine am_imul (am_dec tmX7_resampleOf 11 rfl) ?_
      refine am_iload (am_dec tmX7_resampleOf 12 rfl) rfl ?_
      obtain ⟨x5, g4, hf⟩ := am_bd hf
      refine am_callSN1 (As := [.int (v5 * q3), .int q4]) (st := []) hE (am_dec tmX7_resampleOf 13 rfl) ok_X11_cut rfl lm_X7_69 st_X11_cut (c_X11_cut hE g4) rfl (Nat.lt_of_lt_of_le (by decide) hdp) (Nat.le_of_ble_eq_true rfl) (Nat.zero_le _) (Nat.zero_le _) rfl ?_
      refine am_istore (lv' := [(0, .ref q0), (1, .ref q1), (3, .int q3), (4, .int q4), (5, .int v5), (6, .int x5)]) (am_dec tmX7_resampleOf 14 rfl) (by decide) rfl ?_
      refine am_iload (am_dec tmX7_resampleOf 15 rfl) rfl ?_
      refine am_iload_n (am_dec tmX7_resampleOf 16 rfl) rfl rfl ?_
      refine am_imul (am_dec tmX7_resampleOf 17 rfl) ?_
      refine am_iload (am_dec tmX7_resampleOf 18 rfl) rfl ?_
      obtain ⟨x7, g6, hf⟩ := am_bd hf
      refine am_callSN1 (As := [.int (v5 * q3), .int q4]) (st := []) hE (am_dec tmX7_resampleOf 19 rfl) ok_X11_left rfl lm_X7_62 st_X11_left (c_X11_left hE g6) rfl (Nat.lt_of_lt_of_le (by decide) hdp) (Nat.le_of_ble_eq_true rfl) (Nat.zero_le _) (Nat.zero_le _) rfl ?_
      refine am_istore (lv' := [(0, .ref q0), (1, .ref q1), (3, .int q3), (4, .int q4), (5, .int v5), (6, .int x5), (7, .int x7)]) (am_dec tmX7_resampleOf 20 rfl) (by decide) rfl ?_
      refine am_aload_n (am_dec tmX7_resampleOf 21 rfl) rfl rfl ?_
      refine am_iload (am_dec tmX7_resampleOf 22 rfl) rfl ?_
      refine am_aload_n (am_dec tmX7_resampleOf 23 rfl) rfl rfl ?_
      refine am_iload (am_dec tmX7_resampleOf 24 rfl) rfl ?_
      obtain ⟨x9, g8, hf⟩ := am_bd hf
      refine am_callV1 (As := [.int x5]) (st := [.int v5, .ref q0]) hE (am_dec tmX7_resampleOf 25 rfl) ok_X7_at rfl lm_X7_35 in_X7_at se_X7_at h_q1 cf7 (c_X7_at hE h_q1 g8) rfl (Nat.lt_of_lt_of_le (by decide) hdp) (Nat.le_of_ble_eq_true rfl) (Nat.zero_le _) (Nat.zero_le _) rfl ?_
      refine am_iload (am_dec tmX7_resampleOf 26 rfl) rfl ?_
      refine am_iload (am_dec tmX7_resampleOf 27 rfl) rfl ?_
      refine am_isub (am_dec tmX7_resampleOf 28 rfl) ?_
      refine am_imul (am_dec tmX7_resampleOf 29 rfl) ?_
      refine am_aload_n (am_dec tmX7_resampleOf 30 rfl) rfl rfl ?_
      refine am_iload (am_dec tmX7_resampleOf 31 rfl) rfl ?_
      refine am_iconst (v := (1 : Int32)) (am_dec tmX7_resampleOf 32 rfl) (by decide) ?_
      refine am_iadd (am_dec tmX7_resampleOf 33 rfl) ?_
      obtain ⟨x11, g10, hf⟩ := am_bd hf
      refine am_callV1 (As := [.int (x5 + (1 : Int32))]) (st := [.int (x9 * (q4 - x7)), .int v5, .ref q0]) hE (am_dec tmX7_resampleOf 34 rfl) ok_X7_at rfl lm_X7_35 in_X7_at se_X7_at h_q1 cf7 (c_X7_at hE h_q1 g10) rfl (Nat.lt_of_lt_of_le (by decide) hdp) (Nat.le_of_ble_eq_true rfl) (Nat.zero_le _) (Nat.zero_le _) rfl ?_
      refine am_iload (am_dec tmX7_resampleOf 35 rfl) rfl ?_
      refine am_imul (am_dec tmX7_resampleOf 36 rfl) ?_
      refine am_iadd (am_dec tmX7_resampleOf 37 rfl) ?_
      refine am_iload (am_dec tmX7_resampleOf 38 rfl) rfl ?_
      obtain ⟨x13, g12, hf⟩ := am_bd hf
      refine am_callSN1 (As := [.int ((x9 * (q4 - x7)) + (x11 * x7)), .int q4]) (st := [.int v5, .ref q0]) hE (am_dec tmX7_resampleOf 39 rfl) ok_X11_cut rfl lm_X7_69 st_X11_cut (c_X11_cut hE g12) rfl (Nat.lt_of_lt_of_le (by decide) hdp) (Nat.le_of_ble_eq_true rfl) (Nat.zero_le _) (Nat.zero_le _) rfl ?_
      obtain ⟨x15, g14, hf⟩ := am_bd hf
      refine am_callV0 (As := [.int v5, .int x13]) (st := []) hE (am_dec tmX7_resampleOf 40 rfl) ok_X7_put rfl lm_X7_65 in_X7_put se_X7_put h_q0 cf7 (c_X7_put hE h_q0 g14) rfl (Nat.lt_of_lt_of_le (by decide) hdp) (Nat.le_of_ble_eq_true rfl) (Nat.zero_le _) (Nat.zero_le _) rfl ?_
      refine am_iinc (v := (1 : Int32)) (lv' := [(0, .ref q0), (1, .ref q1), (3, .int q3), (4, .int q4), (5, .int (v5 + (1 : Int32))), (6, .int x5), (7, .int x7)]) (am_dec tmX7_resampleOf 41 rfl) rfl (by decide) (by decide) rfl ?_
      refine am_goto (tgt := 8) (am_dec tmX7_resampleOf 42 rfl) (by decide) ?_
      exact am_pick [0, 1, 2, 3, 4] rfl (l_X7_resampleOf_L8 hE hdp h_q0 h_q1 n (v5 + (1 : Int32)) x15 ex0 hf hk0)
set_option maxRecDepth 100000 in
set_option maxHeartbeats 4000000 in
theorem c_X7_resampleOf {E : am_E} (hE : am_EH E) {r0 : Nat} {p1 : Nat} {p2 : Int32} {p3 : Int32} {p4 : Int32} {D : am_D} {r : am_D} (h_r0 : am_sh am_G0 r0 = some (7, 2)) (h_p1 : am_sh am_G0 p1 = some (7, 2)) (hf : f_X7_resampleOf r0 p1 p2 p3 p4 D = some r) : am_C E mX7_resampleOf 4 0 0 [.ref r0, .ref p1, .int p2, .int p3, .int p4] am_G0 D (.inl none) am_G0 r := by
  refine am_C_of (by decide +kernel) (Nat.le_of_ble_eq_true rfl) ?_
  change am_S E mX7_resampleOf 4 0 0 (.inl none) am_G0 r 0 0 0 [(0, .ref r0), (1, .ref p1), (2, .int p2), (3, .int p3), (4, .int p4)] [] am_G0 D
  unfold f_X7_resampleOf at hf
  refine am_aload_n (am_dec tmX7_resampleOf 0 rfl) rfl rfl ?_
  refine am_iload_n (am_dec tmX7_resampleOf 1 rfl) rfl rfl ?_
  obtain ⟨x2, g1, hf⟩ := am_bd hf
  refine am_callV0 (As := [.int p2]) (st := []) hE (am_dec tmX7_resampleOf 2 rfl) ok_X7_start rfl lm_X7_76 in_X7_start se_X7_start h_r0 cf7 (c_X7_start hE h_r0 g1) rfl (by decide) (Nat.le_of_ble_eq_true rfl) (Nat.zero_le _) (Nat.zero_le _) rfl ?_
  refine am_iconst (v := (0 : Int32)) (am_dec tmX7_resampleOf 3 rfl) (by decide) ?_
  refine am_istore (lv' := [(0, .ref r0), (1, .ref p1), (2, .int p2), (3, .int p3), (4, .int p4), (5, .int (0 : Int32))]) (am_dec tmX7_resampleOf 4 rfl) (by decide) rfl ?_
  obtain ⟨e16, g17, hf⟩ := am_bd hf
  refine am_pick [0, 1, 3, 4, 5] rfl (l_X7_resampleOf_L8 hE (Nat.le_refl _) h_r0 h_p1 am_fu _ _ _ g17 (fun ex he => ?_))
  subst he
  have hf := Option.some.inj hf
  subst hf
  exact am_vret (am_dec tmX7_resampleOf 43 rfl) rfl (Nat.zero_le _) (Nat.zero_le _)
