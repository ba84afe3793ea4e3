def f_X12_byteAt (p1 : Int32) (D : am_D) : Option (Int32) :=
    if p1 < (D.1 117 2) then
    (am_gI D 118 300 p1).bind fun x2 =>
    some x2
    else
    some (-1 : Int32)
set_option maxRecDepth 100000 in
set_option maxHeartbeats 4000000 in
theorem c_X12_byteAt {E : am_E} (hE : am_EH E) {p1 : Int32} {D : am_D} {r : Int32}  (hf : f_X12_byteAt p1 D = some r) : am_C E mX12_byteAt 1 0 0 [.ref 117, .int p1] am_G0 D (.inl (some (.int r))) am_G0 D := by
  refine am_C_of (by decide +kernel) (Nat.le_of_ble_eq_true rfl) ?_
  change am_S E mX12_byteAt 1 0 0 (.inl (some (.int r))) am_G0 D 0 0 0 [(0, .ref 117), (1, .int p1)] [] am_G0 D
  unfold f_X12_byteAt at hf
  refine am_iload_n (am_dec tmX12_byteAt 0 rfl) rfl rfl ?_
  refine am_aload_n (am_dec tmX12_byteAt 1 rfl) rfl rfl ?_
  refine am_getI (j := 2) hE (am_dec tmX12_byteAt 2 rfl) sh_117 cf12 (by decide) rfl lf_X12_116 ?_
  refine am_icmp_lt (tgt := 12) (am_dec tmX12_byteAt 3 rfl) (by decide) (fun c1 => ?_) (fun c1 => ?_)
  · rw [if_pos c1] at hf
    refine am_aload_n (am_dec tmX12_byteAt 6 rfl) rfl rfl ?_
    refine am_getR (j := 9) hE (am_dec tmX12_byteAt 7 rfl) sh_117 cf12 (by decide) rfl lf_X12_13 rf_117_9 ?_
    refine am_iload_n (am_dec tmX12_byteAt 8 rfl) rfl rfl ?_
    obtain ⟨x2, g3, hf⟩ := am_bd hf
    refine am_iald2 hE (am_dec tmX12_byteAt 9 rfl) sh_118 g3 ?_
    have hf := Option.some.inj hf
    subst hf
    exact am_iret (am_dec tmX12_byteAt 10 rfl) rfl (Nat.zero_le _) (Nat.zero_le _)
  · rw [if_neg c1] at hf
    refine am_iconst (v := (-1 : Int32)) (am_dec tmX12_byteAt 4 rfl) (by decide) ?_
    refine am_goto (tgt := 18) (am_dec tmX12_byteAt 5 rfl) (by decide) ?_
    have hf := Option.some.inj hf
    subst hf
    exact am_iret (am_dec tmX12_byteAt 10 rfl) rfl (Nat.zero_le _) (Nat.zero_le _)
def f_X12_blanks_L0  : Nat → am_D → Option (am_D)
  | 0, _ => none
  | n + 1, D =>
    (f_X12_byteAt (D.1 117 4) D).bind fun x2 =>
    if x2 = (32 : Int32) then
    (some (am_wI D 117 4 ((D.1 117 4) + (1 : Int32)))).bind fun D4 =>
    f_X12_blanks_L0 n D4
    else
    some (D)
def f_X12_blanks (D : am_D) : Option (am_D) :=
    (f_X12_blanks_L0 am_fu D).bind fun e6 =>
    some e6
set_option maxRecDepth 100000 in
set_option maxHeartbeats 4000000 in
theorem l_X12_blanks_L0 {E : am_E} (hE : am_EH E) {d mc ms : Nat} {o : am_O} {G2 : am_G} {D2 : am_D} (hdp : 2 ≤ d)   : ∀ (n : Nat)  (D : am_D) (ex0 : am_D), f_X12_blanks_L0  n  D = some ex0 → (∀ ex : am_D, ex0 = ex → am_S E mX12_blanks d mc ms o G2 D2 0 0 26 [] [] am_G0 ex) → am_S E mX12_blanks d mc ms o G2 D2 0 0 0 [(0, .ref 117)] [] am_G0 D
  | 0, _, _, hf, _ => by
    unfold f_X12_blanks_L0 at hf
    cases hf
  | n + 1, D, ex0, hf, hk0 => by
    unfold f_X12_blanks_L0 at hf
    refine am_aload_n (am_dec tmX12_blanks 0 rfl) rfl rfl ?_
    refine am_aload_n (am_dec tmX12_blanks 1 rfl) rfl rfl ?_
    refine am_getI (j := 4) hE (am_dec tmX12_blanks 2 rfl) sh_117 cf12 (by decide) rfl lf_X12_119 ?_
    obtain ⟨x2, g1, hf⟩ := am_bd hf
    refine am_callV1 (As := [.int (D.1 117 4)]) (st := []) hE (am_dec tmX12_blanks 3 rfl) ok_X12_byteAt rfl lm_X12_122 in_X12_byteAt se_X12_byteAt sh_117 cf12 (c_X12_byteAt hE g1) rfl (Nat.lt_of_lt_of_le (by decide) hdp) (Nat.le_of_ble_eq_true rfl) (Nat.zero_le _) (Nat.zero_le _) rfl ?_
    refine am_bipush (v := (32 : Int32)) (am_dec tmX12_blanks 4 rfl) (by decide) ?_
    refine am_icmp_ne (tgt := 26) (am_dec tmX12_blanks 5 rfl) (by decide) (fun c3 => ?_) (fun c3 => ?_)
    · rw [if_neg c3] at hf
      have hf := Option.some.inj hf
      subst hf
      exact am_pick [] rfl (hk0 _ rfl)
    · rw [if_pos c3] at hf
      refine am_aload_n (am_dec tmX12_blanks 6 rfl) rfl rfl ?_
      refine am_dup (am_dec tmX12_blanks 7 rfl) rfl ?_
      refine am_getI (j := 4) hE (am_dec tmX12_blanks 8 rfl) sh_117 cf12 (by decide) rfl lf_X12_119 ?_
      refine am_iconst (v := (1 : Int32)) (am_dec tmX12_blanks 9 rfl) (by decide) ?_
      refine am_iadd (am_dec tmX12_blanks 10 rfl) ?_
      obtain ⟨D4, g5, hf⟩ := am_bd hf
      refine am_putI2 (j := 4) hE (am_dec tmX12_blanks 11 rfl) sh_117 cf12 (by decide) rfl lf_X12_119 rfl rfl rfl g5 ?_
      refine am_goto (tgt := 0) (am_dec tmX12_blanks 12 rfl) (by decide) ?_
      exact am_pick [0] rfl (l_X12_blanks_L0 hE hdp n D4 ex0 hf hk0)
set_option maxRecDepth 100000 in
set_option maxHeartbeats 4000000 in
theorem c_X12_blanks {E : am_E} (hE : am_EH E) {D : am_D} {r : am_D}  (hf : f_X12_blanks D = some r) : am_C E mX12_blanks 2 0 0 [.ref 117] am_G0 D (.inl none) am_G0 r := by
  refine am_C_of (by decide +kernel) (Nat.le_of_ble_eq_true rfl) ?_
  change am_S E mX12_blanks 2 0 0 (.inl none) am_G0 r 0 0 0 [(0, .ref 117)] [] am_G0 D
  unfold f_X12_blanks at hf
  obtain ⟨e6, g7, hf⟩ := am_bd hf
  refine am_pick [0] rfl (l_X12_blanks_L0 hE (Nat.le_refl _) am_fu _ _ g7 (fun ex he => ?_))
  subst he
  have hf := Option.some.inj hf
  subst hf
  exact am_vret (am_dec tmX12_blanks 13 rfl) rfl (Nat.zero_le _) (Nat.zero_le _)
def f_X12_wrong (p1 : Int32) (p2 : Int32) (D : am_D) : Option (am_D) :=
    if (D.1 117 5) = 0 then
    (some (am_wI D 117 5 p1)).bind fun D2 =>
    (some (am_wI D2 117 6 p2)).bind fun D4 =>
    some D4
    else
    some D
set_option maxRecDepth 100000 in
set_option maxHeartbeats 4000000 in
theorem c_X12_wrong {E : am_E} (hE : am_EH E) {p1 : Int32} {p2 : Int32} {D : am_D} {r : am_D}  (hf : f_X12_wrong p1 p2 D = some r) : am_C E mX12_wrong 1 0 0 [.ref 117, .int p1, .int p2] am_G0 D (.inl none) am_G0 r := by
  refine am_C_of (by decide +kernel) (Nat.le_of_ble_eq_true rfl) ?_
  change am_S E mX12_wrong 1 0 0 (.inl none) am_G0 r 0 0 0 [(0, .ref 117), (1, .int p1), (2, .int p2)] [] am_G0 D
  unfold f_X12_wrong at hf
  refine am_aload_n (am_dec tmX12_wrong 0 rfl) rfl rfl ?_
  refine am_getI (j := 5) hE (am_dec tmX12_wrong 1 rfl) sh_117 cf12 (by decide) rfl lf_X12_126 ?_
  refine am_if_ne (tgt := 17) (am_dec tmX12_wrong 2 rfl) (by decide) (fun c1 => ?_) (fun c1 => ?_)
  · rw [if_neg c1] at hf
    have hf := Option.some.inj hf
    subst hf
    exact am_vret (am_dec tmX12_wrong 9 rfl) rfl (Nat.zero_le _) (Nat.zero_le _)
  · rw [if_pos c1] at hf
    refine am_aload_n (am_dec tmX12_wrong 3 rfl) rfl rfl ?_
    refine am_iload_n (am_dec tmX12_wrong 4 rfl) rfl rfl ?_
    obtain ⟨D2, g3, hf⟩ := am_bd hf
    refine am_putI2 (j := 5) hE (am_dec tmX12_wrong 5 rfl) sh_117 cf12 (by decide) rfl lf_X12_126 rfl rfl rfl g3 ?_
    refine am_aload_n (am_dec tmX12_wrong 6 rfl) rfl rfl ?_
    refine am_iload_n (am_dec tmX12_wrong 7 rfl) rfl rfl ?_
    obtain ⟨D4, g5, hf⟩ := am_bd hf
    refine am_putI2 (j := 6) hE (am_dec tmX12_wrong 8 rfl) sh_117 cf12 (by decide) rfl lf_X12_129 rfl rfl rfl g5 ?_
    have hf := Option.some.inj hf
    subst hf
    exact am_vret (am_dec tmX12_wrong 9 rfl) rfl (Nat.zero_le _) (Nat.zero_le _)
def f_X12_isDigit (p0 : Int32) : Option (Int32) :=
    if p0 < (48 : Int32) then
    some (0 : Int32)
    else
    if (57 : Int32) < p0 then
    some (0 : Int32)
    else
    some (1 : Int32)
set_option maxRecDepth 100000 in
set_option maxHeartbeats 4000000 in
theorem c_X12_isDigit {E : am_E} (hE : am_EH E) {p0 : Int32} {D : am_D} {r : Int32}  (hf : f_X12_isDigit p0 = some r) : am_C E mX12_isDigit 1 0 0 [.int p0] am_G0 D (.inl (some (.int r))) am_G0 D := by
  refine am_C_of (by decide +kernel) (Nat.le_of_ble_eq_true rfl) ?_
  change am_S E mX12_isDigit 1 0 0 (.inl (some (.int r))) am_G0 D 0 0 0 [(0, .int p0)] [] am_G0 D
  unfold f_X12_isDigit at hf
  refine am_iload_n (am_dec tmX12_isDigit 0 rfl) rfl rfl ?_
  refine am_bipush (v := (48 : Int32)) (am_dec tmX12_isDigit 1 rfl) (by decide) ?_
  refine am_icmp_lt (tgt := 16) (am_dec tmX12_isDigit 2 rfl) (by decide) (fun c1 => ?_) (fun c1 => ?_)
  · rw [if_pos c1] at hf
    refine am_iconst (v := (0 : Int32)) (am_dec tmX12_isDigit 8 rfl) (by decide) ?_
    have hf := Option.some.inj hf
    subst hf
    exact am_zret (am_dec tmX12_isDigit 9 rfl) rfl am_z0 (Nat.zero_le _) (Nat.zero_le _)
  · rw [if_neg c1] at hf
    refine am_iload_n (am_dec tmX12_isDigit 3 rfl) rfl rfl ?_
    refine am_bipush (v := (57 : Int32)) (am_dec tmX12_isDigit 4 rfl) (by decide) ?_
    refine am_icmp_gt (tgt := 16) (am_dec tmX12_isDigit 5 rfl) (by decide) (fun c2 => ?_) (fun c2 => ?_)
    · rw [if_pos c2] at hf
      refine am_iconst (v := (0 : Int32)) (am_dec tmX12_isDigit 8 rfl) (by decide) ?_
      have hf := Option.some.inj hf
      subst hf
      exact am_zret (am_dec tmX12_isDigit 9 rfl) rfl am_z0 (Nat.zero_le _) (Nat.zero_le _)
    · rw [if_neg c2] at hf
      refine am_iconst (v := (1 : Int32)) (am_dec tmX12_isDigit 6 rfl) (by decide) ?_
      refine am_goto (tgt := 17) (am_dec tmX12_isDigit 7 rfl) (by decide) ?_
      have hf := Option.some.inj hf
      subst hf
      exact am_zret (am_dec tmX12_isDigit 9 rfl) rfl am_z1 (Nat.zero_le _) (Nat.zero_le _)
theorem z_X12_isDigit {p0 : Int32} {r : Int32} (hf : f_X12_isDigit p0 = some r) : narrow .boolean (.int r) = .int r := by
  unfold f_X12_isDigit at hf
  by_cases c1 : p0 < (48 : Int32)
  · rw [if_pos c1] at hf
    have hf := Option.some.inj hf
    subst hf
    exact am_z0
  · rw [if_neg c1] at hf
    by_cases c2 : (57 : Int32) < p0
    · rw [if_pos c2] at hf
      have hf := Option.some.inj hf
      subst hf
      exact am_z0
    · rw [if_neg c2] at hf
      have hf := Option.some.inj hf
      subst hf
      exact am_z1
def f_X12_number_L44 (q1 : Int32) (q2 : Int32) (q3 : Int32) : Nat → Int32 → am_D → Option (Int32 × am_D)
  | 0, _, _ => none
  | n + 1, v4, D =>
    (f_X12_byteAt (D.1 117 4) D).bind fun x14 =>
    (f_X12_isDigit x14).bind fun x16 =>
    if x16 = 0 then
    some (v4, D)
    else
    (f_X12_byteAt (D.1 117 4) D).bind fun x19 =>
    (if ((((10 : Int32) * v4) + x19) - (48 : Int32)) ≤ (100000 : Int32) then
    some (((((10 : Int32) * v4) + x19) - (48 : Int32)))
    else
    some ((100000 : Int32))).bind fun w22 =>
    (some (am_wI D 117 4 ((D.1 117 4) + (1 : Int32)))).bind fun D23 =>
    f_X12_number_L44 q1 q2 q3 n w22 D23
def f_X12_number (p1 : Int32) (p2 : Int32) (D : am_D) : Option ((Int32 × am_D)) :=
    if (D.1 117 5) = 0 then
    (f_X12_blanks D).bind fun x3 =>
    (f_X12_byteAt (x3.1 117 4) x3).bind fun x5 =>
    (f_X12_isDigit x5).bind fun x7 =>
    (if x7 = 0 then
    (f_X12_wrong (1 : Int32) (x3.1 117 4) x3).bind fun x11 =>
    some (x11)
    else
    some (x3)).bind fun w12 =>
    (f_X12_number_L44 p1 p2 (x3.1 117 4) am_fu (0 : Int32) w12).bind fun e26 =>
    (f_X12_in e26.1 p1 p2).bind fun x28 =>
    if x28 = 0 then
    (f_X12_wrong (2 : Int32) (x3.1 117 4) e26.2).bind fun x31 =>
    some (e26.1, x31)
    else
    some (e26.1, e26.2)
    else
    some ((0 : Int32), D)
set_option maxRecDepth 100000 in
set_option maxHeartbeats 4000000 in
theorem l_X12_number_L44 {E : am_E} (hE : am_EH E) {d mc ms : Nat} {o : am_O} {G2 : am_G} {D2 : am_D} (hdp : 3 ≤ d) {q1 : Int32} {q2 : Int32} {q3 : Int32}  : ∀ (n : Nat) (v4 : Int32) (D : am_D) (ex0 : Int32 × am_D), f_X12_number_L44 q1 q2 q3 n v4 D = some ex0 → (∀ ex : Int32 × am_D, ex0 = ex → am_S E mX12_number d mc ms o G2 D2 0 0 106 [(0, .ref 117), (1, .int q1), (2, .int q2), (3, .int q3), (4, .int ex.1)] [] am_G0 ex.2) → am_S E mX12_number d mc ms o G2 D2 0 0 44 [(0, .ref 117), (1, .int q1), (2, .int q2), (3, .int q3), (4, .int v4)] [] am_G0 D
  | 0, _, _, _, hf, _ => by
    unfold f_X12_number_L44 at hf
    cases hf
  | n + 1, v4, D, ex0, hf, hk0 => by
    unfold f_X12_number_L44 at hf
    refine am_aload_n (am_dec tmX12_number_0 23 rfl) rfl rfl ?_
    refine am_aload_n (am_dec tmX12_number_0 24 rfl) rfl rfl ?_
    refine am_getI (j := 4) hE (am_dec tmX12_number_0 25 rfl) sh_117 cf12 (by decide) rfl lf_X12_119 ?_
    obtain ⟨x14, g13, hf⟩ := am_bd hf
    refine am_callV1 (As := [.int (D.1 117 4)]) (st := []) hE (am_dec tmX12_number_0 26 rfl) ok_X12_byteAt rfl lm_X12_122 in_X12_byteAt se_X12_byteAt sh_117 cf12 (c_X12_byteAt hE g13) rfl (Nat.lt_of_lt_of_le (by decide) hdp) (Nat.le_of_ble_eq_true rfl) (Nat.zero_le _) (Nat.zero_le _) rfl ?_
    obtain ⟨x16, g15, hf⟩ := am_bd hf
    refine am_callS1 (As := [.int x14]) (st := []) (am_dec tmX12_number_0 27 rfl) ok_X12_isDigit rfl lm_X12_135 st_X12_isDigit (c_X12_isDigit hE g15) rfl (Nat.lt_of_lt_of_le (by decide) hdp) (Nat.le_of_ble_eq_true rfl) (Nat.zero_le _) (Nat.zero_le _) rfl ?_
    refine am_if_eq (tgt := 106) (am_dec tmX12_number_0 28 rfl) (by decide) (fun c17 => ?_) (fun c17 => ?_)
    · rw [if_pos c17] at hf
      have hf := Option.some.inj hf
      subst hf
      exact am_pick [0, 1, 2, 3, 4] rfl (hk0 _ rfl)
    · rw [if_neg c17] at hf
      refine am_bipush (v := (10 : Int32)) (am_dec tmX12_number_0 29 rfl) (by decide) ?_
      refine am_iload (am_dec tmX12_number_0 30 rfl) rfl ?_
      refine am_imul (am_dec tmX12_number_0 31 rfl) ?_
      refine am_aload_n (am_dec tmX12_number_0 32 rfl) rfl rfl ?_
      refine am_aload_n (am_dec tmX12_number_0 33 rfl) rfl rfl ?_
      refine am_getI (j := 4) hE (am_dec tmX12_number_0 34 rfl) sh_117 cf12 (by decide) rfl lf_X12_119 ?_
      obtain ⟨x19, g18, hf⟩ := am_bd hf
      refine am_callV1 (As := [.int (D.1 117 4)]) (st := [.int ((10 : Int32) * v4)]) hE (am_dec tmX12_number_0 35 rfl) ok_X12_byteAt rfl lm_X12_122 in_X12_byteAt se_X12_byteAt sh_117 cf12 (c_X12_byteAt hE g18) rfl (Nat.lt_of_lt_of_le (by decide) hdp) (Nat.le_of_ble_eq_true rfl) (Nat.zero_le _) (Nat.zero_le _) rfl ?_
      refine am_iadd (am_dec tmX12_number_0 36 rfl) ?_
      refine am_bipush (v := (48 : Int32)) (am_dec tmX12_number_0 37 rfl) (by decide) ?_
      refine am_isub (am_dec tmX12_number_0 38 rfl) ?_
      refine am_istore (lv' := [(0, .ref 117), (1, .int q1), (2, .int q2), (3, .int q3), (4, .int ((((10 : Int32) * v4) + x19) - (48 : Int32)))]) (am_dec tmX12_number_0 39 rfl) (by decide) rfl ?_
      refine am_iload (am_dec tmX12_number_0 40 rfl) rfl ?_
      refine am_ldc (v := (100000 : Int32)) (am_dec tmX12_number_0 41 rfl) lc_X12_143 ?_
      obtain ⟨w22, g25, hf⟩ := am_bd hf
      have key21 : am_S E mX12_number d mc ms o G2 D2 0 0 91 [(0, .ref 117), (1, .int q1), (2, .int q2), (3, .int q3)] [.int w22] am_G0 D := by
        refine am_istore (lv' := [(0, .ref 117), (1, .int q1), (2, .int q2), (3, .int q3), (4, .int w22)]) (am_dec tmX12_number_0 46 rfl) (by decide) rfl ?_
        refine am_aload_n (am_dec tmX12_number_0 47 rfl) rfl rfl ?_
        refine am_dup (am_dec tmX12_number_0 48 rfl) rfl ?_
        refine am_getI (j := 4) hE (am_dec tmX12_number_0 49 rfl) sh_117 cf12 (by decide) rfl lf_X12_119 ?_
        refine am_iconst (v := (1 : Int32)) (am_dec tmX12_number_0 50 rfl) (by decide) ?_
        refine am_iadd (am_dec tmX12_number_0 51 rfl) ?_
        obtain ⟨D23, g24, hf⟩ := am_bd hf
        refine am_putI2 (j := 4) hE (am_dec tmX12_number_0 52 rfl) sh_117 cf12 (by decide) rfl lf_X12_119 rfl rfl rfl g24 ?_
        refine am_goto (tgt := 44) (am_dec tmX12_number_0 53 rfl) (by decide) ?_
        exact am_pick [0, 1, 2, 3, 4] rfl (l_X12_number_L44 hE hdp n w22 D23 ex0 hf hk0)
      replace hf := g25
      refine am_icmp_le (tgt := 89) (am_dec tmX12_number_0 42 rfl) (by decide) (fun c20 => ?_) (fun c20 => ?_)
      · rw [if_pos c20] at hf
        refine am_iload (am_dec tmX12_number_0 45 rfl) rfl ?_
        have hf := Option.some.inj hf
        subst hf
        exact am_pick [0, 1, 2, 3] rfl key21
      · rw [if_neg c20] at hf
        refine am_ldc (v := (100000 : Int32)) (am_dec tmX12_number_0 43 rfl) lc_X12_143 ?_
        refine am_goto (tgt := 91) (am_dec tmX12_number_0 44 rfl) (by decide) ?_
        have hf := Option.some.inj hf
        subst hf
        exact am_pick [0, 1, 2, 3] rfl key21
set_option maxRecDepth 100000 in
set_option maxHeartbeats 4000000 in
theorem c_X12_number {E : am_E} (hE : am_EH E) {p1 : Int32} {p2 : Int32} {D : am_D} {r : (Int32 × am_D)}  (hf : f_X12_number p1 p2 D = some r) : am_C E mX12_number 3 0 0 [.ref 117, .int p1, .int p2] am_G0 D (.inl (some (.int r.1))) am_G0 r.2 := by
  refine am_C_of (by decide +kernel) (Nat.le_of_ble_eq_true rfl) ?_
  change am_S E mX12_number 3 0 0 (.inl (some (.int r.1))) am_G0 r.2 0 0 0 [(0, .ref 117), (1, .int p1), (2, .int p2)] [] am_G0 D
  unfold f_X12_number at hf
  refine am_aload_n (am_dec tmX12_number_0 0 rfl) rfl rfl ?_
  refine am_getI (j := 5) hE (am_dec tmX12_number_0 1 rfl) sh_117 cf12 (by decide) rfl lf_X12_126 ?_
  refine am_if_eq (tgt := 9) (am_dec tmX12_number_0 2 rfl) (by decide) (fun c1 => ?_) (fun c1 => ?_)
  · rw [if_pos c1] at hf
    refine am_aload_n (am_dec tmX12_number_0 5 rfl) rfl rfl ?_
    obtain ⟨x3, g2, hf⟩ := am_bd hf
    refine am_callV0 (As := []) (st := []) hE (am_dec tmX12_number_0 6 rfl) ok_X12_blanks rfl lm_X12_132 in_X12_blanks se_X12_blanks sh_117 cf12 (c_X12_blanks hE g2) rfl (by decide) (Nat.le_of_ble_eq_true rfl) (Nat.zero_le _) (Nat.zero_le _) rfl ?_
    refine am_aload_n (am_dec tmX12_number_0 7 rfl) rfl rfl ?_
    refine am_getI (j := 4) hE (am_dec tmX12_number_0 8 rfl) sh_117 cf12 (by decide) rfl lf_X12_119 ?_
    refine am_istore_n (lv' := [(0, .ref 117), (1, .int p1), (2, .int p2), (3, .int (x3.1 117 4))]) (am_dec tmX12_number_0 9 rfl) rfl (by decide) rfl ?_
    refine am_iconst (v := (0 : Int32)) (am_dec tmX12_number_0 10 rfl) (by decide) ?_
    refine am_istore (lv' := [(0, .ref 117), (1, .int p1), (2, .int p2), (3, .int (x3.1 117 4)), (4, .int (0 : Int32))]) (am_dec tmX12_number_0 11 rfl) (by decide) rfl ?_
    refine am_aload_n (am_dec tmX12_number_0 12 rfl) rfl rfl ?_
    refine am_aload_n (am_dec tmX12_number_0 13 rfl) rfl rfl ?_
    refine am_getI (j := 4) hE (am_dec tmX12_number_0 14 rfl) sh_117 cf12 (by decide) rfl lf_X12_119 ?_
    obtain ⟨x5, g4, hf⟩ := am_bd hf
    refine am_callV1 (As := [.int (x3.1 117 4)]) (st := []) hE (am_dec tmX12_number_0 15 rfl) ok_X12_byteAt rfl lm_X12_122 in_X12_byteAt se_X12_byteAt sh_117 cf12 (c_X12_byteAt hE g4) rfl (by decide) (Nat.le_of_ble_eq_true rfl) (Nat.zero_le _) (Nat.zero_le _) rfl ?_
    obtain ⟨x7, g6, hf⟩ := am_bd hf
    refine am_callS1 (As := [.int x5]) (st := []) (am_dec tmX12_number_0 16 rfl) ok_X12_isDigit rfl lm_X12_135 st_X12_isDigit (c_X12_isDigit hE g6) rfl (by decide) (Nat.le_of_ble_eq_true rfl) (Nat.zero_le _) (Nat.zero_le _) rfl ?_
    obtain ⟨w12, g33, hf⟩ := am_bd hf
    have key9 : am_S E mX12_number 3 0 0 (.inl (some (.int r.1))) am_G0 r.2 0 0 44 [(0, .ref 117), (1, .int p1), (2, .int p2), (3, .int (x3.1 117 4)), (4, .int (0 : Int32))] [] am_G0 w12 := by
      obtain ⟨e26, g32, hf⟩ := am_bd hf
      refine am_pick [0, 1, 2, 3, 4] rfl (l_X12_number_L44 hE (Nat.le_refl _) am_fu _ _ _ g32 (fun ex he => ?_))
      subst he
      refine am_iload (am_dec tmX12_number_0 54 rfl) rfl ?_
      refine am_iload_n (am_dec tmX12_number_0 55 rfl) rfl rfl ?_
      refine am_iload_n (am_dec tmX12_number_0 56 rfl) rfl rfl ?_
      obtain ⟨x28, g27, hf⟩ := am_bd hf
      refine am_callS1 (As := [.int e26.1, .int p1, .int p2]) (st := []) (am_dec tmX12_number_0 57 rfl) ok_X12_in rfl lm_X12_144 st_X12_in (c_X12_in hE g27) rfl (by decide) (Nat.le_of_ble_eq_true rfl) (Nat.zero_le _) (Nat.zero_le _) rfl ?_
      refine am_if_ne (tgt := 122) (am_dec tmX12_number_0 58 rfl) (by decide) (fun c29 => ?_) (fun c29 => ?_)
      · rw [if_neg c29] at hf
        refine am_iload (am_dec tmX12_number_1 3 rfl) rfl ?_
        have hf := Option.some.inj hf
        subst hf
        exact am_iret (am_dec tmX12_number_1 4 rfl) rfl (Nat.zero_le _) (Nat.zero_le _)
      · rw [if_pos c29] at hf
        refine am_aload_n (am_dec tmX12_number_0 59 rfl) rfl rfl ?_
        refine am_iconst (v := (2 : Int32)) (am_dec tmX12_number_1 0 rfl) (by decide) ?_
        refine am_iload_n (am_dec tmX12_number_1 1 rfl) rfl rfl ?_
        obtain ⟨x31, g30, hf⟩ := am_bd hf
        refine am_callV0 (As := [.int (2 : Int32), .int (x3.1 117 4)]) (st := []) hE (am_dec tmX12_number_1 2 rfl) ok_X12_wrong rfl lm_X12_139 in_X12_wrong se_X12_wrong sh_117 cf12 (c_X12_wrong hE g30) rfl (by decide) (Nat.le_of_ble_eq_true rfl) (Nat.zero_le _) (Nat.zero_le _) rfl ?_
        refine am_iload (am_dec tmX12_number_1 3 rfl) rfl ?_
        have hf := Option.some.inj hf
        subst hf
        exact am_iret (am_dec tmX12_number_1 4 rfl) rfl (Nat.zero_le _) (Nat.zero_le _)
    replace hf := g33
    refine am_if_ne (tgt := 44) (am_dec tmX12_number_0 17 rfl) (by decide) (fun c8 => ?_) (fun c8 => ?_)
    · rw [if_neg c8] at hf
      have hf := Option.some.inj hf
      subst hf
      exact am_pick [0, 1, 2, 3, 4] rfl key9
    · rw [if_pos c8] at hf
      refine am_aload_n (am_dec tmX12_number_0 18 rfl) rfl rfl ?_
      refine am_iconst (v := (1 : Int32)) (am_dec tmX12_number_0 19 rfl) (by decide) ?_
      refine am_aload_n (am_dec tmX12_number_0 20 rfl) rfl rfl ?_
      refine am_getI (j := 4) hE (am_dec tmX12_number_0 21 rfl) sh_117 cf12 (by decide) rfl lf_X12_119 ?_
      obtain ⟨x11, g10, hf⟩ := am_bd hf
      refine am_callV0 (As := [.int (1 : Int32), .int (x3.1 117 4)]) (st := []) hE (am_dec tmX12_number_0 22 rfl) ok_X12_wrong rfl lm_X12_139 in_X12_wrong se_X12_wrong sh_117 cf12 (c_X12_wrong hE g10) rfl (by decide) (Nat.le_of_ble_eq_true rfl) (Nat.zero_le _) (Nat.zero_le _) rfl ?_
      have hf := Option.some.inj hf
      subst hf
      exact am_pick [0, 1, 2, 3, 4] rfl key9
  · rw [if_neg c1] at hf
    refine am_iconst (v := (0 : Int32)) (am_dec tmX12_number_0 3 rfl) (by decide) ?_
    have hf := Option.some.inj hf
    subst hf
    exact am_iret (am_dec tmX12_number_0 4 rfl) rfl (Nat.zero_le _) (Nat.zero_le _)
def f_X12_manyHere (D : am_D) : Option ((Int32 × am_D)) :=
    if (D.1 117 5) = 0 then
    (f_X12_blanks D).bind fun x3 =>
    (f_X12_number (1 : Int32) (300 : Int32) x3).bind fun x5 =>
    if (x5.2.1 117 5) = 0 then
    if ((x5.2.1 117 8) + x5.1) ≤ (600 : Int32) then
    some (x5.1, x5.2)
    else
    (f_X12_wrong (3 : Int32) (x3.1 117 4) x5.2).bind fun x9 =>
    some (x5.1, x9)
    else
    some (x5.1, x5.2)
    else
    some ((0 : Int32), D)
set_option maxRecDepth 100000 in
set_option maxHeartbeats 4000000 in
theorem c_X12_manyHere {E : am_E} (hE : am_EH E) {D : am_D} {r : (Int32 × am_D)}  (hf : f_X12_manyHere D = some r) : am_C E mX12_manyHere 4 0 0 [.ref 117] am_G0 D (.inl (some (.int r.1))) am_G0 r.2 := by
  refine am_C_of (by decide +kernel) (Nat.le_of_ble_eq_true rfl) ?_
  change am_S E mX12_manyHere 4 0 0 (.inl (some (.int r.1))) am_G0 r.2 0 0 0 [(0, .ref 117)] [] am_G0 D
  unfold f_X12_manyHere at hf
  refine am_aload_n (am_dec tmX12_manyHere 0 rfl) rfl rfl ?_
  refine am_getI (j := 5) hE (am_dec tmX12_manyHere 1 rfl) sh_117 cf12 (by decide) rfl lf_X12_126 ?_
  refine am_if_eq (tgt := 9) (am_dec tmX12_manyHere 2 rfl) (by decide) (fun c1 => ?_) (fun c1 => ?_)
  · rw [if_pos c1] at hf
    refine am_aload_n (am_dec tmX12_manyHere 5 rfl) rfl rfl ?_
    obtain ⟨x3, g2, hf⟩ := am_bd hf
    refine am_callV0 (As := []) (st := []) hE (am_dec tmX12_manyHere 6 rfl) ok_X12_blanks rfl lm_X12_132 in_X12_blanks se_X12_blanks sh_117 cf12 (c_X12_blanks hE g2) rfl (by decide) (Nat.le_of_ble_eq_true rfl) (Nat.zero_le _) (Nat.zero_le _) rfl ?_
    refine am_aload_n (am_dec tmX12_manyHere 7 rfl) rfl rfl ?_
    refine am_getI (j := 4) hE (am_dec tmX12_manyHere 8 rfl) sh_117 cf12 (by decide) rfl lf_X12_119 ?_
    refine am_istore_n (lv' := [(0, .ref 117), (1, .int (x3.1 117 4))]) (am_dec tmX12_manyHere 9 rfl) rfl (by decide) rfl ?_
    refine am_aload_n (am_dec tmX12_manyHere 10 rfl) rfl rfl ?_
    refine am_iconst (v := (1 : Int32)) (am_dec tmX12_manyHere 11 rfl) (by decide) ?_
    refine am_sipush (v := (300 : Int32)) (am_dec tmX12_manyHere 12 rfl) (by decide) ?_
    obtain ⟨x5, g4, hf⟩ := am_bd hf
    refine am_callV1 (As := [.int (1 : Int32), .int (300 : Int32)]) (st := []) hE (am_dec tmX12_manyHere 13 rfl) ok_X12_number rfl lm_X12_148 in_X12_number se_X12_number sh_117 cf12 (c_X12_number hE g4) rfl (by decide) (Nat.le_of_ble_eq_true rfl) (Nat.zero_le _) (Nat.zero_le _) rfl ?_
    refine am_istore_n (lv' := [(0, .ref 117), (1, .int (x3.1 117 4)), (2, .int x5.1)]) (am_dec tmX12_manyHere 14 rfl) rfl (by decide) rfl ?_
    refine am_aload_n (am_dec tmX12_manyHere 15 rfl) rfl rfl ?_
    refine am_getI (j := 5) hE (am_dec tmX12_manyHere 16 rfl) sh_117 cf12 (by decide) rfl lf_X12_126 ?_
    refine am_if_ne (tgt := 52) (am_dec tmX12_manyHere 17 rfl) (by decide) (fun c6 => ?_) (fun c6 => ?_)
    · rw [if_neg c6] at hf
      refine am_iload_n (am_dec tmX12_manyHere 28 rfl) rfl rfl ?_
      have hf := Option.some.inj hf
      subst hf
      exact am_iret (am_dec tmX12_manyHere 29 rfl) rfl (Nat.zero_le _) (Nat.zero_le _)
    · rw [if_pos c6] at hf
      refine am_aload_n (am_dec tmX12_manyHere 18 rfl) rfl rfl ?_
      refine am_getI (j := 8) hE (am_dec tmX12_manyHere 19 rfl) sh_117 cf12 (by decide) rfl lf_X12_152 ?_
      refine am_iload_n (am_dec tmX12_manyHere 20 rfl) rfl rfl ?_
      refine am_iadd (am_dec tmX12_manyHere 21 rfl) ?_
      refine am_sipush (v := (600 : Int32)) (am_dec tmX12_manyHere 22 rfl) (by decide) ?_
      refine am_icmp_le (tgt := 52) (am_dec tmX12_manyHere 23 rfl) (by decide) (fun c7 => ?_) (fun c7 => ?_)
      · rw [if_pos c7] at hf
        refine am_iload_n (am_dec tmX12_manyHere 28 rfl) rfl rfl ?_
        have hf := Option.some.inj hf
        subst hf
        exact am_iret (am_dec tmX12_manyHere 29 rfl) rfl (Nat.zero_le _) (Nat.zero_le _)
      · rw [if_neg c7] at hf
        refine am_aload_n (am_dec tmX12_manyHere 24 rfl) rfl rfl ?_
        refine am_iconst (v := (3 : Int32)) (am_dec tmX12_manyHere 25 rfl) (by decide) ?_
        refine am_iload_n (am_dec tmX12_manyHere 26 rfl) rfl rfl ?_
        obtain ⟨x9, g8, hf⟩ := am_bd hf
        refine am_callV0 (As := [.int (3 : Int32), .int (x3.1 117 4)]) (st := []) hE (am_dec tmX12_manyHere 27 rfl) ok_X12_wrong rfl lm_X12_139 in_X12_wrong se_X12_wrong sh_117 cf12 (c_X12_wrong hE g8) rfl (by decide) (Nat.le_of_ble_eq_true rfl) (Nat.zero_le _) (Nat.zero_le _) rfl ?_
        refine am_iload_n (am_dec tmX12_manyHere 28 rfl) rfl rfl ?_
        have hf := Option.some.inj hf
        subst hf
        exact am_iret (am_dec tmX12_manyHere 29 rfl) rfl (Nat.zero_le _) (Nat.zero_le _)
  · rw [if_neg c1] at hf
    refine am_iconst (v := (0 : Int32)) (am_dec tmX12_manyHere 3 rfl) (by decide) ?_
    have hf := Option.some.inj hf
    subst hf
    exact am_iret (am_dec tmX12_manyHere 4 rfl) rfl (Nat.zero_le _) (Nat.zero_le _)
def f_X12_wordHere_L8  (D : am_D) : Nat → Int32 → Int32 → Option (Int32 × Int32)
  | 0, _, _ => none
  | n + 1, v1, v2 =>
    (f_X12_byteAt ((D.1 117 4) + v2) D).bind fun x4 =>
    if x4 < (97 : Int32) then
    some (v1, v2)
    else
    (f_X12_byteAt ((D.1 117 4) + v2) D).bind fun x7 =>
    if (122 : Int32) < x7 then
    some (v1, v2)
    else
    (if (5 : Int32) ≤ v2 then
    some (v1)
    else
    (f_X12_byteAt ((D.1 117 4) + v2) D).bind fun x12 =>
    some ((((((27 : Int32) * v1) + x12) - (97 : Int32)) + (1 : Int32)))).bind fun w13 =>
    f_X12_wordHere_L8 D n w13 (v2 + (1 : Int32))
def f_X12_wordHere (D : am_D) : Option ((Int32 × am_D)) :=
    (f_X12_blanks D).bind fun x2 =>
    (f_X12_wordHere_L8 x2 am_fu (0 : Int32) (0 : Int32)).bind fun e15 =>
    if e15.2 ≤ (5 : Int32) then
    some (e15.1, x2)
    else
    some ((-1 : Int32), x2)
set_option maxRecDepth 100000 in
set_option maxHeartbeats 4000000 in
theorem l_X12_wordHere_L8 {E : am_E} (hE : am_EH E) {d mc ms : Nat} {o : am_O} {G2 : am_G} {D2 : am_D} (hdp : 3 ≤ d)  {D : am_D}  : ∀ (n : Nat) (v1 : Int32) (v2 : Int32) (ex0 : Int32 × Int32), f_X12_wordHere_L8  D n v1 v2 = some ex0 → (∀ ex : Int32 × Int32, ex0 = ex → am_S E mX12_wordHere d mc ms o G2 D2 0 0 74 [(1, .int ex.1), (2, .int ex.2)] [] am_G0 D) → am_S E mX12_wordHere d mc ms o G2 D2 0 0 8 [(0, .ref 117), (1, .int v1), (2, .int v2)] [] am_G0 D
  | 0, _, _, _, hf, _ => by
    unfold f_X12_wordHere_L8 at hf
    cases hf
  | n + 1, v1, v2, ex0, hf, hk0 => by
    unfold f_X12_wordHere_L8 at hf
    refine am_aload_n (am_dec tmX12_wordHere 6 rfl) rfl rfl ?_
    refine am_aload_n (am_dec tmX12_wordHere 7 rfl) rfl rfl ?_
    refine am_getI (j := 4) hE (am_dec tmX12_wordHere 8 rfl) sh_117 cf12 (by decide) rfl lf_X12_119 ?_
    refine am_iload_n (am_dec tmX12_wordHere 9 rfl) rfl rfl ?_
    refine am_iadd (am_dec tmX12_wordHere 10 rfl) ?_
    obtain ⟨x4, g3, hf⟩ := am_bd hf
    refine am_callV1 (As := [.int ((D.1 117 4) + v2)]) (st := []) hE (am_dec tmX12_wordHere 11 rfl) ok_X12_byteAt rfl lm_X12_122 in_X12_byteAt se_X12_byteAt sh_117 cf12 (c_X12_byteAt hE g3) rfl (Nat.lt_of_lt_of_le (by decide) hdp) (Nat.le_of_ble_eq_true rfl) (Nat.zero_le _) (Nat.zero_le _) rfl ?_
    refine am_bipush (v := (97 : Int32)) (am_dec tmX12_wordHere 12 rfl) (by decide) ?_
    refine am_icmp_lt (tgt := 74) (am_dec tmX12_wordHere 13 rfl) (by decide) (fun c5 => ?_) (fun c5 => ?_)
    · rw [if_pos c5] at hf
      have hf := Option.some.inj hf
      subst hf
      exact am_pick [1, 2] rfl (hk0 _ rfl)
    · rw [if_neg c5] at hf
      refine am_aload_n (am_dec tmX12_wordHere 14 rfl) rfl rfl ?_
      refine am_aload_n (am_dec tmX12_wordHere 15 rfl) rfl rfl ?_
      refine am_getI (j := 4) hE (am_dec tmX12_wordHere 16 rfl) sh_117 cf12 (by decide) rfl lf_X12_119 ?_
      refine am_iload_n (am_dec tmX12_wordHere 17 rfl) rfl rfl ?_
      refine am_iadd (am_dec tmX12_wordHere 18 rfl) ?_
      obtain ⟨x7, g6, hf⟩ := am_bd hf
      refine am_callV1 (As := [.int ((D.1 117 4) + v2)]) (st := []) hE (am_dec tmX12_wordHere 19 rfl) ok_X12_byteAt rfl lm_X12_122 in_X12_byteAt se_X12_byteAt sh_117 cf12 (c_X12_byteAt hE g6) rfl (Nat.lt_of_lt_of_le (by decide) hdp) (Nat.le_of_ble_eq_true rfl) (Nat.zero_le _) (Nat.zero_le _) rfl ?_
      refine am_bipush (v := (122 : Int32)) (am_dec tmX12_wordHere 20 rfl) (by decide) ?_
      refine am_icmp_gt (tgt := 74) (am_dec tmX12_wordHere 21 rfl) (by decide) (fun c8 => ?_) (fun c8 => ?_)
      · rw [if_pos c8] at hf
        have hf := Option.some.inj hf
        subst hf
        exact am_pick [1, 2] rfl (hk0 _ rfl)
      · rw [if_neg c8] at hf
        refine am_iload_n (am_dec tmX12_wordHere 22 rfl) rfl rfl ?_
        refine am_iconst (v := (5 : Int32)) (am_dec tmX12_wordHere 23 rfl) (by decide) ?_
        obtain ⟨w13, g14, hf⟩ := am_bd hf
        have key10 : am_S E mX12_wordHere d mc ms o G2 D2 0 0 67 [(0, .ref 117), (2, .int v2)] [.int w13] am_G0 D := by
          refine am_istore_n (lv' := [(0, .ref 117), (1, .int w13), (2, .int v2)]) (am_dec tmX12_wordHere 41 rfl) rfl (by decide) rfl ?_
          refine am_iinc (v := (1 : Int32)) (lv' := [(0, .ref 117), (1, .int w13), (2, .int (v2 + (1 : Int32)))]) (am_dec tmX12_wordHere 42 rfl) rfl (by decide) (by decide) rfl ?_
          refine am_goto (tgt := 8) (am_dec tmX12_wordHere 43 rfl) (by decide) ?_
          exact am_pick [0, 1, 2] rfl (l_X12_wordHere_L8 hE hdp n w13 (v2 + (1 : Int32)) ex0 hf hk0)
        replace hf := g14
        refine am_icmp_ge (tgt := 66) (am_dec tmX12_wordHere 24 rfl) (by decide) (fun c9 => ?_) (fun c9 => ?_)
        · rw [if_pos c9] at hf
          refine am_iload_n (am_dec tmX12_wordHere 40 rfl) rfl rfl ?_
          have hf := Option.some.inj hf
          subst hf
          exact am_pick [0, 2] rfl key10
        · rw [if_neg c9] at hf
          refine am_bipush (v := (27 : Int32)) (am_dec tmX12_wordHere 25 rfl) (by decide) ?_
          refine am_iload_n (am_dec tmX12_wordHere 26 rfl) rfl rfl ?_
          refine am_imul (am_dec tmX12_wordHere 27 rfl) ?_
          refine am_aload_n (am_dec tmX12_wordHere 28 rfl) rfl rfl ?_
          refine am_aload_n (am_dec tmX12_wordHere 29 rfl) rfl rfl ?_
          refine am_getI (j := 4) hE (am_dec tmX12_wordHere 30 rfl) sh_117 cf12 (by decide) rfl lf_X12_119 ?_
          refine am_iload_n (am_dec tmX12_wordHere 31 rfl) rfl rfl ?_
          refine am_iadd (am_dec tmX12_wordHere 32 rfl) ?_
          obtain ⟨x12, g11, hf⟩ := am_bd hf
          refine am_callV1 (As := [.int ((D.1 117 4) + v2)]) (st := [.int ((27 : Int32) * v1)]) hE (am_dec tmX12_wordHere 33 rfl) ok_X12_byteAt rfl lm_X12_122 in_X12_byteAt se_X12_byteAt sh_117 cf12 (c_X12_byteAt hE g11) rfl (Nat.lt_of_lt_of_le (by decide) hdp) (Nat.le_of_ble_eq_true rfl) (Nat.zero_le _) (Nat.zero_le _) rfl ?_
          refine am_iadd (am_dec tmX12_wordHere 34 rfl) ?_
          refine am_bipush (v := (97 : Int32)) (am_dec tmX12_wordHere 35 rfl) (by decide) ?_
          refine am_isub (am_dec tmX12_wordHere 36 rfl) ?_
          refine am_iconst (v := (1 : Int32)) (am_dec tmX12_wordHere 37 rfl) (by decide) ?_
          refine am_iadd (am_dec tmX12_wordHere 38 rfl) ?_
          refine am_goto (tgt := 67) (am_dec tmX12_wordHere 39 rfl) (by decide) ?_
          have hf := Option.some.inj hf
          subst hf
          exact am_pick [0, 2] rfl key10
set_option maxRecDepth 100000 in
set_option maxHeartbeats 4000000 in
theorem c_X12_wordHere {E : am_E} (hE : am_EH E) {D : am_D} {r : (Int32 × am_D)}  (hf : f_X12_wordHere D = some r) : am_C E mX12_wordHere 3 0 0 [.ref 117] am_G0 D (.inl (some (.int r.1))) am_G0 r.2 := by
  refine am_C_of (by decide +kernel) (Nat.le_of_ble_eq_true rfl) ?_
  change am_S E mX12_wordHere 3 0 0 (.inl (some (.int r.1))) am_G0 r.2 0 0 0 [(0, .ref 117)] [] am_G0 D
  unfold f_X12_wordHere at hf
  refine am_aload_n (am_dec tmX12_wordHere 0 rfl) rfl rfl ?_
  obtain ⟨x2, g1, hf⟩ := am_bd hf
  refine am_callV0 (As := []) (st := []) hE (am_dec tmX12_wordHere 1 rfl) ok_X12_blanks rfl lm_X12_132 in_X12_blanks se_X12_blanks sh_117 cf12 (c_X12_blanks hE g1) rfl (by decide) (Nat.le_of_ble_eq_true rfl) (Nat.zero_le _) (Nat.zero_le _) rfl ?_
  refine am_iconst (v := (0 : Int32)) (am_dec tmX12_wordHere 2 rfl) (by decide) ?_
  refine am_istore_n (lv' := [(0, .ref 117), (1, .int (0 : Int32))]) (am_dec tmX12_wordHere 3 rfl) rfl (by decide) rfl ?_
  refine am_iconst (v := (0 : Int32)) (am_dec tmX12_wordHere 4 rfl) (by decide) ?_
  refine am_istore_n (lv' := [(0, .ref 117), (1, .int (0 : Int32)), (2, .int (0 : Int32))]) (am_dec tmX12_wordHere 5 rfl) rfl (by decide) rfl ?_
  obtain ⟨e15, g17, hf⟩ := am_bd hf
  refine am_pick [0, 1, 2] rfl (l_X12_wordHere_L8 hE (Nat.le_refl _) am_fu _ _ _ g17 (fun ex he => ?_))
  subst he
  refine am_iload_n (am_dec tmX12_wordHere 44 rfl) rfl rfl ?_
  refine am_iconst (v := (5 : Int32)) (am_dec tmX12_wordHere 45 rfl) (by decide) ?_
  refine am_icmp_le (tgt := 83) (am_dec tmX12_wordHere 46 rfl) (by decide) (fun c16 => ?_) (fun c16 => ?_)
  · rw [if_pos c16] at hf
    refine am_iload_n (am_dec tmX12_wordHere 49 rfl) rfl rfl ?_
    have hf := Option.some.inj hf
    subst hf
    exact am_iret (am_dec tmX12_wordHere 50 rfl) rfl (Nat.zero_le _) (Nat.zero_le _)
  · rw [if_neg c16] at hf
    refine am_iconst (v := (-1 : Int32)) (am_dec tmX12_wordHere 47 rfl) (by decide) ?_
    refine am_goto (tgt := 84) (am_dec tmX12_wordHere 48 rfl) (by decide) ?_
    have hf := Option.some.inj hf
    subst hf
    exact am_iret (am_dec tmX12_wordHere 50 rfl) rfl (Nat.zero_le _) (Nat.zero_le _)
def f_X12_word (p0 : Int32) (p1 : Int32) (p2 : Int32) (p3 : Int32) (p4 : Int32) : Option (Int32) :=
    (if p2 = 0 then
    some ((((27 : Int32) * p0) + p1))
    else
    some ((((27 : Int32) * (((27 : Int32) * p0) + p1)) + p2))).bind fun w3 =>
    (if p3 = 0 then
    some (w3)
    else
    some ((((27 : Int32) * w3) + p3))).bind fun w6 =>
    if p4 = 0 then
    some w6
    else
    some (((27 : Int32) * w6) + p4)
set_option maxRecDepth 100000 in
set_option maxHeartbeats 4000000 in
theorem c_X12_word {E : am_E} (hE : am_EH E) {p0 : Int32} {p1 : Int32} {p2 : Int32} {p3 : Int32} {p4 : Int32} {D : am_D} {r : Int32}  (hf : f_X12_word p0 p1 p2 p3 p4 = some r) : am_C E mX12_word 1 0 0 [.int p0, .int p1, .int p2, .int p3, .int p4] am_G0 D (.inl (some (.int r))) am_G0 D := by
  refine am_C_of (by decide +kernel) (Nat.le_of_ble_eq_true rfl) ?_
  change am_S E mX12_word 1 0 0 (.inl (some (.int r))) am_G0 D 0 0 0 [(0, .int p0), (1, .int p1), (2, .int p2), (3, .int p3), (4, .int p4)] [] am_G0 D
  unfold f_X12_word at hf
  refine am_bipush (v := (27 : Int32)) (am_dec tmX12_word 0 rfl) (by decide) ?_
  refine am_iload_n (am_dec tmX12_word 1 rfl) rfl rfl ?_
  refine am_imul (am_dec tmX12_word 2 rfl) ?_
  refine am_iload_n (am_dec tmX12_word 3 rfl) rfl rfl ?_
  refine am_iadd (am_dec tmX12_word 4 rfl) ?_
  refine am_istore (lv' := [(0, .int p0), (1, .int p1), (2, .int p2), (3, .int p3), (4, .int p4), (5, .int (((27 : Int32) * p0) + p1))]) (am_dec tmX12_word 5 rfl) (by decide) rfl ?_
  refine am_iload_n (am_dec tmX12_word 6 rfl) rfl rfl ?_
  obtain ⟨w3, g9, hf⟩ := am_bd hf
  have key2 : am_S E mX12_word 1 0 0 (.inl (some (.int r))) am_G0 D 0 0 24 [(3, .int p3), (4, .int p4)] [.int w3] am_G0 D := by
    refine am_istore (lv' := [(3, .int p3), (4, .int p4), (5, .int w3)]) (am_dec tmX12_word 15 rfl) (by decide) rfl ?_
    refine am_iload_n (am_dec tmX12_word 16 rfl) rfl rfl ?_
    obtain ⟨w6, g8, hf⟩ := am_bd hf
    have key5 : am_S E mX12_word 1 0 0 (.inl (some (.int r))) am_G0 D 0 0 42 [(4, .int p4)] [.int w6] am_G0 D := by
      refine am_istore (lv' := [(4, .int p4), (5, .int w6)]) (am_dec tmX12_word 25 rfl) (by decide) rfl ?_
      refine am_iload (am_dec tmX12_word 26 rfl) rfl ?_
      refine am_if_ne (tgt := 54) (am_dec tmX12_word 27 rfl) (by decide) (fun c7 => ?_) (fun c7 => ?_)
      · rw [if_neg c7] at hf
        refine am_bipush (v := (27 : Int32)) (am_dec tmX12_word 30 rfl) (by decide) ?_
        refine am_iload (am_dec tmX12_word 31 rfl) rfl ?_
        refine am_imul (am_dec tmX12_word 32 rfl) ?_
        refine am_iload (am_dec tmX12_word 33 rfl) rfl ?_
        refine am_iadd (am_dec tmX12_word 34 rfl) ?_
        have hf := Option.some.inj hf
        subst hf
        exact am_iret (am_dec tmX12_word 35 rfl) rfl (Nat.zero_le _) (Nat.zero_le _)
      · rw [if_pos c7] at hf
        refine am_iload (am_dec tmX12_word 28 rfl) rfl ?_
        refine am_goto (tgt := 62) (am_dec tmX12_word 29 rfl) (by decide) ?_
        have hf := Option.some.inj hf
        subst hf
        exact am_iret (am_dec tmX12_word 35 rfl) rfl (Nat.zero_le _) (Nat.zero_le _)
    replace hf := g8
    refine am_if_ne (tgt := 35) (am_dec tmX12_word 17 rfl) (by decide) (fun c4 => ?_) (fun c4 => ?_)
    · rw [if_neg c4] at hf
      refine am_bipush (v := (27 : Int32)) (am_dec tmX12_word 20 rfl) (by decide) ?_
      refine am_iload (am_dec tmX12_word 21 rfl) rfl ?_
      refine am_imul (am_dec tmX12_word 22 rfl) ?_
      refine am_iload_n (am_dec tmX12_word 23 rfl) rfl rfl ?_
      refine am_iadd (am_dec tmX12_word 24 rfl) ?_
      have hf := Option.some.inj hf
      subst hf
      exact am_pick [1] rfl key5
    · rw [if_pos c4] at hf
      refine am_iload (am_dec tmX12_word 18 rfl) rfl ?_
      refine am_goto (tgt := 42) (am_dec tmX12_word 19 rfl) (by decide) ?_
      have hf := Option.some.inj hf
      subst hf
      exact am_pick [1] rfl key5
  replace hf := g9
  refine am_if_ne (tgt := 17) (am_dec tmX12_word 7 rfl) (by decide) (fun c1 => ?_) (fun c1 => ?_)
  · rw [if_neg c1] at hf
    refine am_bipush (v := (27 : Int32)) (am_dec tmX12_word 10 rfl) (by decide) ?_
    refine am_iload (am_dec tmX12_word 11 rfl) rfl ?_
    refine am_imul (am_dec tmX12_word 12 rfl) ?_
    refine am_iload_n (am_dec tmX12_word 13 rfl) rfl rfl ?_
    refine am_iadd (am_dec tmX12_word 14 rfl) ?_
    have hf := Option.some.inj hf
    subst hf
    exact am_pick [3, 4] rfl key2
  · rw [if_pos c1] at hf
    refine am_iload (am_dec tmX12_word 8 rfl) rfl ?_
    refine am_goto (tgt := 24) (am_dec tmX12_word 9 rfl) (by decide) ?_
    have hf := Option.some.inj hf
    subst hf
    exact am_pick [3, 4] rfl key2
def f_X12_isWord (p1 : Int32) (p2 : Int32) (p3 : Int32) (p4 : Int32) (p5 : Int32) (D : am_D) : Option ((Int32 × am_D)) :=
    if (D.1 117 5) = 0 then
    (f_X12_wordHere D).bind fun x3 =>
    (f_X12_word p1 p2 p3 p4 p5).bind fun x5 =>
    if x3.1 = x5 then
    some ((1 : Int32), x3.2)
    else
    some ((0 : Int32), x3.2)
    else
    some ((0 : Int32), D)
set_option maxRecDepth 100000 in
set_option maxHeartbeats 4000000 in
theorem c_X12_isWord {E : am_E} (hE : am_EH E) {p1 : Int32} {p2 : Int32} {p3 : Int32} {p4 : Int32} {p5 : Int32} {D : am_D} {r : (Int32 × am_D)}  (hf : f_X12_isWord p1 p2 p3 p4 p5 D = some r) : am_C E mX12_isWord 4 0 0 [.ref 117, .int p1, .int p2, .int p3, .int p4, .int p5] am_G0 D (.inl (some (.int r.1))) am_G0 r.2 := by
  refine am_C_of (by decide +kernel) (Nat.le_of_ble_eq_true rfl) ?_
  change am_S E mX12_isWord 4 0 0 (.inl (some (.int r.1))) am_G0 r.2 0 0 0 [(0, .ref 117), (1, .int p1), (2, .int p2), (3, .int p3), (4, .int p4), (5, .int p5)] [] am_G0 D
  unfold f_X12_isWord at hf
  refine am_aload_n (am_dec tmX12_isWord 0 rfl) rfl rfl ?_
  refine am_getI (j := 5) hE (am_dec tmX12_isWord 1 rfl) sh_117 cf12 (by decide) rfl lf_X12_126 ?_
  refine am_if_ne (tgt := 28) (am_dec tmX12_isWord 2 rfl) (by decide) (fun c1 => ?_) (fun c1 => ?_)
  · rw [if_neg c1] at hf
    refine am_iconst (v := (0 : Int32)) (am_dec tmX12_isWord 14 rfl) (by decide) ?_
    have hf := Option.some.inj hf
    subst hf
    exact am_zret (am_dec tmX12_isWord 15 rfl) rfl am_z0 (Nat.zero_le _) (Nat.zero_le _)
  · rw [if_pos c1] at hf
    refine am_aload_n (am_dec tmX12_isWord 3 rfl) rfl rfl ?_
    obtain ⟨x3, g2, hf⟩ := am_bd hf
    refine am_callV1 (As := []) (st := []) hE (am_dec tmX12_isWord 4 rfl) ok_X12_wordHere rfl lm_X12_155 in_X12_wordHere se_X12_wordHere sh_117 cf12 (c_X12_wordHere hE g2) rfl (by decide) (Nat.le_of_ble_eq_true rfl) (Nat.zero_le _) (Nat.zero_le _) rfl ?_
    refine am_iload_n (am_dec tmX12_isWord 5 rfl) rfl rfl ?_
    refine am_iload_n (am_dec tmX12_isWord 6 rfl) rfl rfl ?_
    refine am_iload_n (am_dec tmX12_isWord 7 rfl) rfl rfl ?_
    refine am_iload (am_dec tmX12_isWord 8 rfl) rfl ?_
    refine am_iload (am_dec tmX12_isWord 9 rfl) rfl ?_
    obtain ⟨x5, g4, hf⟩ := am_bd hf
    refine am_callS1 (As := [.int p1, .int p2, .int p3, .int p4, .int p5]) (st := [.int x3.1]) (am_dec tmX12_isWord 10 rfl) ok_X12_word rfl lm_X12_159 st_X12_word (c_X12_word hE g4) rfl (by decide) (Nat.le_of_ble_eq_true rfl) (Nat.zero_le _) (Nat.zero_le _) rfl ?_
    refine am_icmp_ne (tgt := 28) (am_dec tmX12_isWord 11 rfl) (by decide) (fun c6 => ?_) (fun c6 => ?_)
    · rw [if_neg c6] at hf
      refine am_iconst (v := (0 : Int32)) (am_dec tmX12_isWord 14 rfl) (by decide) ?_
      have hf := Option.some.inj hf
      subst hf
      exact am_zret (am_dec tmX12_isWord 15 rfl) rfl am_z0 (Nat.zero_le _) (Nat.zero_le _)
    · rw [if_pos c6] at hf
      refine am_iconst (v := (1 : Int32)) (am_dec tmX12_isWord 12 rfl) (by decide) ?_
      refine am_goto (tgt := 29) (am_dec tmX12_isWord 13 rfl) (by decide) ?_
      have hf := Option.some.inj hf
      subst hf
      exact am_zret (am_dec tmX12_isWord 15 rfl) rfl am_z1 (Nat.zero_le _) (Nat.zero_le _)
theorem z_X12_isWord {p1 : Int32} {p2 : Int32} {p3 : Int32} {p4 : Int32} {p5 : Int32} {D : am_D} {r : (Int32 × am_D)} (hf : f_X12_isWord p1 p2 p3 p4 p5 D = some r) : narrow .boolean (.int r.1) = .int r.1 := by
  unfold f_X12_isWord at hf
  by_cases c1 : (D.1 117 5) = 0
  · rw [if_pos c1] at hf
    obtain ⟨x3, g2, hf⟩ := am_bd hf
    obtain ⟨x5, g4, hf⟩ := am_bd hf
    by_cases c6 : x3.1 = x5
    · rw [if_pos c6] at hf
      have hf := Option.some.inj hf
      subst hf
      exact am_z1
    · rw [if_neg c6] at hf
      have hf := Option.some.inj hf
      subst hf
      exact am_z0
  · rw [if_neg c1] at hf
    have hf := Option.some.inj hf
    subst hf
    exact am_z0
def f_X12_skipWord_L0  : Nat → am_D → Option (am_D)
  | 0, _ => none
  | n + 1, D =>
    (f_X12_byteAt (D.1 117 4) D).bind fun x2 =>
    if x2 < (97 : Int32) then
    some (D)
    else
    (f_X12_byteAt (D.1 117 4) D).bind fun x5 =>
    if (122 : Int32) < x5 then
    some (D)
    else
    (some (am_wI D 117 4 ((D.1 117 4) + (1 : Int32)))).bind fun D7 =>
    f_X12_skipWord_L0 n D7
def f_X12_skipWord (D : am_D) : Option (am_D) :=
    (f_X12_skipWord_L0 am_fu D).bind fun e9 =>
    some e9
set_option maxRecDepth 100000 in
set_option maxHeartbeats 4000000 in
theorem l_X12_skipWord_L0 {E : am_E} (hE : am_EH E) {d mc ms : Nat} {o : am_O} {G2 : am_G} {D2 : am_D} (hdp : 2 ≤ d)   : ∀ (n : Nat)  (D : am_D) (ex0 : am_D), f_X12_skipWord_L0  n  D = some ex0 → (∀ ex : am_D, ex0 = ex → am_S E mX12_skipWord d mc ms o G2 D2 0 0 39 [] [] am_G0 ex) → am_S E mX12_skipWord d mc ms o G2 D2 0 0 0 [(0, .ref 117)] [] am_G0 D
  | 0, _, _, hf, _ => by
    unfold f_X12_skipWord_L0 at hf
    cases hf
  | n + 1, D, ex0, hf, hk0 => by
    unfold f_X12_skipWord_L0 at hf
    refine am_aload_n (am_dec tmX12_skipWord 0 rfl) rfl rfl ?_
    refine am_aload_n (am_dec tmX12_skipWord 1 rfl) rfl rfl ?_
    refine am_getI (j := 4) hE (am_dec tmX12_skipWord 2 rfl) sh_117 cf12 (by decide) rfl lf_X12_119 ?_
    obtain ⟨x2, g1, hf⟩ := am_bd hf
    refine am_callV1 (As := [.int (D.1 117 4)]) (st := []) hE (am_dec tmX12_skipWord 3 rfl) ok_X12_byteAt rfl lm_X12_122 in_X12_byteAt se_X12_byteAt sh_117 cf12 (c_X12_byteAt hE g1) rfl (Nat.lt_of_lt_of_le (by decide) hdp) (Nat.le_of_ble_eq_true rfl) (Nat.zero_le _) (Nat.zero_le _) rfl ?_
    refine am_bipush (v := (97 : Int32)) (am_dec tmX12_skipWord 4 rfl) (by decide) ?_
    refine am_icmp_lt (tgt := 39) (am_dec tmX12_skipWord 5 rfl) (by decide) (fun c3 => ?_) (fun c3 => ?_)
    · rw [if_pos c3] at hf
      have hf := Option.some.inj hf
      subst hf
      exact am_pick [] rfl (hk0 _ rfl)
    · rw [if_neg c3] at hf
      refine am_aload_n (am_dec tmX12_skipWord 6 rfl) rfl rfl ?_
      refine am_aload_n (am_dec tmX12_skipWord 7 rfl) rfl rfl ?_
      refine am_getI (j := 4) hE (am_dec tmX12_skipWord 8 rfl) sh_117 cf12 (by decide) rfl lf_X12_119 ?_
      obtain ⟨x5, g4, hf⟩ := am_bd hf
      refine am_callV1 (As := [.int (D.1 117 4)]) (st := []) hE (am_dec tmX12_skipWord 9 rfl) ok_X12_byteAt rfl lm_X12_122 in_X12_byteAt se_X12_byteAt sh_117 cf12 (c_X12_byteAt hE g4) rfl (Nat.lt_of_lt_of_le (by decide) hdp) (Nat.le_of_ble_eq_true rfl) (Nat.zero_le _) (Nat.zero_le _) rfl ?_
      refine am_bipush (v := (122 : Int32)) (am_dec tmX12_skipWord 10 rfl) (by decide) ?_
      refine am_icmp_gt (tgt := 39) (am_dec tmX12_skipWord 11 rfl) (by decide) (fun c6 => ?_) (fun c6 => ?_)
      · rw [if_pos c6] at hf
        have hf := Option.some.inj hf
        subst hf
        exact am_pick [] rfl (hk0 _ rfl)
      · rw [if_neg c6] at hf
        refine am_aload_n (am_dec tmX12_skipWord 12 rfl) rfl rfl ?_
        refine am_dup (am_dec tmX12_skipWord 13 rfl) rfl ?_
        refine am_getI (j := 4) hE (am_dec tmX12_skipWord 14 rfl) sh_117 cf12 (by decide) rfl lf_X12_119 ?_
        refine am_iconst (v := (1 : Int32)) (am_dec tmX12_skipWord 15 rfl) (by decide) ?_
        refine am_iadd (am_dec tmX12_skipWord 16 rfl) ?_
        obtain ⟨D7, g8, hf⟩ := am_bd hf
        refine am_putI2 (j := 4) hE (am_dec tmX12_skipWord 17 rfl) sh_117 cf12 (by decide) rfl lf_X12_119 rfl rfl rfl g8 ?_
        refine am_goto (tgt := 0) (am_dec tmX12_skipWord 18 rfl) (by decide) ?_
        exact am_pick [0] rfl (l_X12_skipWord_L0 hE hdp n D7 ex0 hf hk0)
set_option maxRecDepth 100000 in
set_option maxHeartbeats 4000000 in
theorem c_X12_skipWord {E : am_E} (hE : am_EH E) {D : am_D} {r : am_D}  (hf : f_X12_skipWord D = some r) : am_C E mX12_skipWord 2 0 0 [.ref 117] am_G0 D (.inl none) am_G0 r := by
  refine am_C_of (by decide +kernel) (Nat.le_of_ble_eq_true rfl) ?_
  change am_S E mX12_skipWord 2 0 0 (.inl none) am_G0 r 0 0 0 [(0, .ref 117)] [] am_G0 D
  unfold f_X12_skipWord at hf
  obtain ⟨e9, g10, hf⟩ := am_bd hf
  refine am_pick [0] rfl (l_X12_skipWord_L0 hE (Nat.le_refl _) am_fu _ _ g10 (fun ex he => ?_))
  subst he
  have hf := Option.some.inj hf
  subst hf
  exact am_vret (am_dec tmX12_skipWord 19 rfl) rfl (Nat.zero_le _) (Nat.zero_le _)
def f_X12_sign (p1 : Int32) (D : am_D) : Option (am_D) :=
    if (D.1 117 5) = 0 then
    (f_X12_blanks D).bind fun x3 =>
    (f_X12_byteAt (x3.1 117 4) x3).bind fun x5 =>
    if x5 = p1 then
    (some (am_wI x3 117 4 ((x3.1 117 4) + (1 : Int32)))).bind fun D9 =>
    some D9
    else
    (f_X12_wrong (1 : Int32) (x3.1 117 4) x3).bind fun x8 =>
    some x8
    else
    some D
set_option maxRecDepth 100000 in
set_option maxHeartbeats 4000000 in
theorem c_X12_sign {E : am_E} (hE : am_EH E) {p1 : Int32} {D : am_D} {r : am_D}  (hf : f_X12_sign p1 D = some r) : am_C E mX12_sign 3 0 0 [.ref 117, .int p1] am_G0 D (.inl none) am_G0 r := by
  refine am_C_of (by decide +kernel) (Nat.le_of_ble_eq_true rfl) ?_
  change am_S E mX12_sign 3 0 0 (.inl none) am_G0 r 0 0 0 [(0, .ref 117), (1, .int p1)] [] am_G0 D
  unfold f_X12_sign at hf
  refine am_aload_n (am_dec tmX12_sign 0 rfl) rfl rfl ?_
  refine am_getI (j := 5) hE (am_dec tmX12_sign 1 rfl) sh_117 cf12 (by decide) rfl lf_X12_126 ?_
  refine am_if_eq (tgt := 8) (am_dec tmX12_sign 2 rfl) (by decide) (fun c1 => ?_) (fun c1 => ?_)
  · rw [if_pos c1] at hf
    refine am_aload_n (am_dec tmX12_sign 4 rfl) rfl rfl ?_
    obtain ⟨x3, g2, hf⟩ := am_bd hf
    refine am_callV0 (As := []) (st := []) hE (am_dec tmX12_sign 5 rfl) ok_X12_blanks rfl lm_X12_132 in_X12_blanks se_X12_blanks sh_117 cf12 (c_X12_blanks hE g2) rfl (by decide) (Nat.le_of_ble_eq_true rfl) (Nat.zero_le _) (Nat.zero_le _) rfl ?_
    refine am_aload_n (am_dec tmX12_sign 6 rfl) rfl rfl ?_
    refine am_aload_n (am_dec tmX12_sign 7 rfl) rfl rfl ?_
    refine am_getI (j := 4) hE (am_dec tmX12_sign 8 rfl) sh_117 cf12 (by decide) rfl lf_X12_119 ?_
    obtain ⟨x5, g4, hf⟩ := am_bd hf
    refine am_callV1 (As := [.int (x3.1 117 4)]) (st := []) hE (am_dec tmX12_sign 9 rfl) ok_X12_byteAt rfl lm_X12_122 in_X12_byteAt se_X12_byteAt sh_117 cf12 (c_X12_byteAt hE g4) rfl (by decide) (Nat.le_of_ble_eq_true rfl) (Nat.zero_le _) (Nat.zero_le _) rfl ?_
    refine am_iload_n (am_dec tmX12_sign 10 rfl) rfl rfl ?_
    refine am_icmp_ne (tgt := 37) (am_dec tmX12_sign 11 rfl) (by decide) (fun c6 => ?_) (fun c6 => ?_)
    · rw [if_neg c6] at hf
      refine am_aload_n (am_dec tmX12_sign 19 rfl) rfl rfl ?_
      refine am_iconst (v := (1 : Int32)) (am_dec tmX12_sign 20 rfl) (by decide) ?_
      refine am_aload_n (am_dec tmX12_sign 21 rfl) rfl rfl ?_
      refine am_getI (j := 4) hE (am_dec tmX12_sign 22 rfl) sh_117 cf12 (by decide) rfl lf_X12_119 ?_
      obtain ⟨x8, g7, hf⟩ := am_bd hf
      refine am_callV0 (As := [.int (1 : Int32), .int (x3.1 117 4)]) (st := []) hE (am_dec tmX12_sign 23 rfl) ok_X12_wrong rfl lm_X12_139 in_X12_wrong se_X12_wrong sh_117 cf12 (c_X12_wrong hE g7) rfl (by decide) (Nat.le_of_ble_eq_true rfl) (Nat.zero_le _) (Nat.zero_le _) rfl ?_
      have hf := Option.some.inj hf
      subst hf
      exact am_vret (am_dec tmX12_sign 24 rfl) rfl (Nat.zero_le _) (Nat.zero_le _)
    · rw [if_pos c6] at hf
      refine am_aload_n (am_dec tmX12_sign 12 rfl) rfl rfl ?_
      refine am_dup (am_dec tmX12_sign 13 rfl) rfl ?_
      refine am_getI (j := 4) hE (am_dec tmX12_sign 14 rfl) sh_117 cf12 (by decide) rfl lf_X12_119 ?_
      refine am_iconst (v := (1 : Int32)) (am_dec tmX12_sign 15 rfl) (by decide) ?_
      refine am_iadd (am_dec tmX12_sign 16 rfl) ?_
      obtain ⟨D9, g10, hf⟩ := am_bd hf
      refine am_putI2 (j := 4) hE (am_dec tmX12_sign 17 rfl) sh_117 cf12 (by decide) rfl lf_X12_119 rfl rfl rfl g10 ?_
      refine am_goto (tgt := 46) (am_dec tmX12_sign 18 rfl) (by decide) ?_
      have hf := Option.some.inj hf
      subst hf
      exact am_vret (am_dec tmX12_sign 24 rfl) rfl (Nat.zero_le _) (Nat.zero_le _)
  · rw [if_neg c1] at hf
    have hf := Option.some.inj hf
    subst hf
    exact am_vret (am_dec tmX12_sign 3 rfl) rfl (Nat.zero_le _) (Nat.zero_le _)
def f_X12_wave (p0 : Int32) (p1 : Int32) (p2 : Int32) : Option (Int32) :=
    (am_rm p0 p1).bind fun x1 =>
    if p1 ≤ ((4 : Int32) * x1) then
    if ((3 : Int32) * p1) ≤ ((4 : Int32) * x1) then
    (am_dv (p2 * (((4 : Int32) * x1) - ((4 : Int32) * p1))) p1).bind fun x5 =>
    some x5
    else
    (am_dv (p2 * (((2 : Int32) * p1) - ((4 : Int32) * x1))) p1).bind fun x7 =>
    some x7
    else
    (am_dv (p2 * ((4 : Int32) * x1)) p1).bind fun x9 =>
    some x9
set_option maxRecDepth 100000 in
set_option maxHeartbeats 4000000 in
theorem c_X12_wave {E : am_E} (hE : am_EH E) {p0 : Int32} {p1 : Int32} {p2 : Int32} {D : am_D} {r : Int32}  (hf : f_X12_wave p0 p1 p2 = some r) : am_C E mX12_wave 1 0 0 [.int p0, .int p1, .int p2] am_G0 D (.inl (some (.int r))) am_G0 D := by
  refine am_C_of (by decide +kernel) (Nat.le_of_ble_eq_true rfl) ?_
  change am_S E mX12_wave 1 0 0 (.inl (some (.int r))) am_G0 D 0 0 0 [(0, .int p0), (1, .int p1), (2, .int p2)] [] am_G0 D
  unfold f_X12_wave at hf
  refine am_iconst (v := (4 : Int32)) (am_dec tmX12_wave 0 rfl) (by decide) ?_
  refine am_iload_n (am_dec tmX12_wave 1 rfl) rfl rfl ?_
  refine am_iload_n (am_dec tmX12_wave 2 rfl) rfl rfl ?_
  obtain ⟨x1, g2, hf⟩ := am_bd hf
  refine am_irem2 (am_dec tmX12_wave 3 rfl) g2 ?_
  refine am_imul (am_dec tmX12_wave 4 rfl) ?_
  refine am_istore_n (lv' := [(0, .int p0), (1, .int p1), (2, .int p2), (3, .int ((4 : Int32) * x1))]) (am_dec tmX12_wave 5 rfl) rfl (by decide) rfl ?_
  refine am_iload_n (am_dec tmX12_wave 6 rfl) rfl rfl ?_
  refine am_iload_n (am_dec tmX12_wave 7 rfl) rfl rfl ?_
  refine am_icmp_ge (tgt := 19) (am_dec tmX12_wave 8 rfl) (by decide) (fun c3 => ?_) (fun c3 => ?_)
  · rw [if_pos c3] at hf
    refine am_iload_n (am_dec tmX12_wave 15 rfl) rfl rfl ?_
    refine am_iconst (v := (3 : Int32)) (am_dec tmX12_wave 16 rfl) (by decide) ?_
    refine am_iload_n (am_dec tmX12_wave 17 rfl) rfl rfl ?_
    refine am_imul (am_dec tmX12_wave 18 rfl) ?_
    refine am_icmp_ge (tgt := 38) (am_dec tmX12_wave 19 rfl) (by decide) (fun c4 => ?_) (fun c4 => ?_)
    · rw [if_pos c4] at hf
      refine am_iload_n (am_dec tmX12_wave 30 rfl) rfl rfl ?_
      refine am_iload_n (am_dec tmX12_wave 31 rfl) rfl rfl ?_
      refine am_iconst (v := (4 : Int32)) (am_dec tmX12_wave 32 rfl) (by decide) ?_
      refine am_iload_n (am_dec tmX12_wave 33 rfl) rfl rfl ?_
      refine am_imul (am_dec tmX12_wave 34 rfl) ?_
      refine am_isub (am_dec tmX12_wave 35 rfl) ?_
      refine am_imul (am_dec tmX12_wave 36 rfl) ?_
      refine am_iload_n (am_dec tmX12_wave 37 rfl) rfl rfl ?_
      obtain ⟨x5, g6, hf⟩ := am_bd hf
      refine am_idiv2 (am_dec tmX12_wave 38 rfl) g6 ?_
      have hf := Option.some.inj hf
      subst hf
      exact am_iret (am_dec tmX12_wave 39 rfl) rfl (Nat.zero_le _) (Nat.zero_le _)
    · rw [if_neg c4] at hf
      refine am_iload_n (am_dec tmX12_wave 20 rfl) rfl rfl ?_
      refine am_iconst (v := (2 : Int32)) (am_dec tmX12_wave 21 rfl) (by decide) ?_
      refine am_iload_n (am_dec tmX12_wave 22 rfl) rfl rfl ?_
      refine am_imul (am_dec tmX12_wave 23 rfl) ?_
      refine am_iload_n (am_dec tmX12_wave 24 rfl) rfl rfl ?_
      refine am_isub (am_dec tmX12_wave 25 rfl) ?_
      refine am_imul (am_dec tmX12_wave 26 rfl) ?_
      refine am_iload_n (am_dec tmX12_wave 27 rfl) rfl rfl ?_
      obtain ⟨x7, g8, hf⟩ := am_bd hf
      refine am_idiv2 (am_dec tmX12_wave 28 rfl) g8 ?_
      refine am_goto (tgt := 47) (am_dec tmX12_wave 29 rfl) (by decide) ?_
      have hf := Option.some.inj hf
      subst hf
      exact am_iret (am_dec tmX12_wave 39 rfl) rfl (Nat.zero_le _) (Nat.zero_le _)
  · rw [if_neg c3] at hf
    refine am_iload_n (am_dec tmX12_wave 9 rfl) rfl rfl ?_
    refine am_iload_n (am_dec tmX12_wave 10 rfl) rfl rfl ?_
    refine am_imul (am_dec tmX12_wave 11 rfl) ?_
    refine am_iload_n (am_dec tmX12_wave 12 rfl) rfl rfl ?_
    obtain ⟨x9, g10, hf⟩ := am_bd hf
    refine am_idiv2 (am_dec tmX12_wave 13 rfl) g10 ?_
    refine am_goto (tgt := 47) (am_dec tmX12_wave 14 rfl) (by decide) ?_
    have hf := Option.some.inj hf
    subst hf
    exact am_iret (am_dec tmX12_wave 39 rfl) rfl (Nat.zero_le _) (Nat.zero_le _)
def f_X12_kindHere (D : am_D) : Option ((Int32 × am_D)) :=
    (f_X12_isWord (19 : Int32) (20 : Int32) (9 : Int32) (12 : Int32) (12 : Int32) D).bind fun x2 =>
    if x2.1 = 0 then
    (f_X12_isWord (20 : Int32) (15 : Int32) (14 : Int32) (5 : Int32) (0 : Int32) x2.2).bind fun x5 =>
    if x5.1 = 0 then
    (f_X12_isWord (2 : Int32) (12 : Int32) (15 : Int32) (23 : Int32) (0 : Int32) x5.2).bind fun x8 =>
    if x8.1 = 0 then
    (f_X12_isWord (8 : Int32) (9 : Int32) (19 : Int32) (19 : Int32) (0 : Int32) x8.2).bind fun x11 =>
    if x11.1 = 0 then
    (f_X12_isWord (8 : Int32) (21 : Int32) (13 : Int32) (0 : Int32) (0 : Int32) x11.2).bind fun x14 =>
    if x14.1 = 0 then
    some ((-1 : Int32), x14.2)
    else
    some ((4 : Int32), x14.2)
    else
    some ((3 : Int32), x11.2)
    else
    some ((2 : Int32), x8.2)
    else
    some ((1 : Int32), x5.2)
    else
    some ((0 : Int32), x2.2)
set_option maxRecDepth 100000 in
set_option maxHeartbeats 4000000 in
theorem c_X12_kindHere {E : am_E} (hE : am_EH E) {D : am_D} {r : (Int32 × am_D)}  (hf : f_X12_kindHere D = some r) : am_C E mX12_kindHere 5 0 0 [.ref 117] am_G0 D (.inl (some (.int r.1))) am_G0 r.2 := by
  refine am_C_of (by decide +kernel) (Nat.le_of_ble_eq_true rfl) ?_
  change am_S E mX12_kindHere 5 0 0 (.inl (some (.int r.1))) am_G0 r.2 0 0 0 [(0, .ref 117)] [] am_G0 D
  unfold f_X12_kindHere at hf
  refine am_aload_n (am_dec tmX12_kindHere 0 rfl) rfl rfl ?_
  refine am_bipush (v := (19 : Int32)) (am_dec tmX12_kindHere 1 rfl) (by decide) ?_
  refine am_bipush (v := (20 : Int32)) (am_dec tmX12_kindHere 2 rfl) (by decide) ?_
  refine am_bipush (v := (9 : Int32)) (am_dec tmX12_kindHere 3 rfl) (by decide) ?_
  refine am_bipush (v := (12 : Int32)) (am_dec tmX12_kindHere 4 rfl) (by decide) ?_
  refine am_bipush (v := (12 : Int32)) (am_dec tmX12_kindHere 5 rfl) (by decide) ?_
  obtain ⟨x2, g1, hf⟩ := am_bd hf
  refine am_callV1 (As := [.int (19 : Int32), .int (20 : Int32), .int (9 : Int32), .int (12 : Int32), .int (12 : Int32)]) (st := []) hE (am_dec tmX12_kindHere 6 rfl) ok_X12_isWord rfl lm_X12_163 in_X12_isWord se_X12_isWord sh_117 cf12 (c_X12_isWord hE g1) rfl (by decide) (Nat.le_of_ble_eq_true rfl) (Nat.zero_le _) (Nat.zero_le _) rfl ?_
  refine am_if_eq (tgt := 19) (am_dec tmX12_kindHere 7 rfl) (by decide) (fun c3 => ?_) (fun c3 => ?_)
  · rw [if_pos c3] at hf
    refine am_aload_n (am_dec tmX12_kindHere 10 rfl) rfl rfl ?_
    refine am_bipush (v := (20 : Int32)) (am_dec tmX12_kindHere 11 rfl) (by decide) ?_
    refine am_bipush (v := (15 : Int32)) (am_dec tmX12_kindHere 12 rfl) (by decide) ?_
    refine am_bipush (v := (14 : Int32)) (am_dec tmX12_kindHere 13 rfl) (by decide) ?_
    refine am_iconst (v := (5 : Int32)) (am_dec tmX12_kindHere 14 rfl) (by decide) ?_
    refine am_iconst (v := (0 : Int32)) (am_dec tmX12_kindHere 15 rfl) (by decide) ?_
    obtain ⟨x5, g4, hf⟩ := am_bd hf
    refine am_callV1 (As := [.int (20 : Int32), .int (15 : Int32), .int (14 : Int32), .int (5 : Int32), .int (0 : Int32)]) (st := []) hE (am_dec tmX12_kindHere 16 rfl) ok_X12_isWord rfl lm_X12_163 in_X12_isWord se_X12_isWord sh_117 cf12 (c_X12_isWord hE g4) rfl (by decide) (Nat.le_of_ble_eq_true rfl) (Nat.zero_le _) (Nat.zero_le _) rfl ?_
    refine am_if_eq (tgt := 36) (am_dec tmX12_kindHere 17 rfl) (by decide) (fun c6 => ?_) (fun c6 => ?_)
    · rw [if_pos c6] at hf
      refine am_aload_n (am_dec tmX12_kindHere 20 rfl) rfl rfl ?_
      refine am_iconst (v := (2 : Int32)) (am_dec tmX12_kindHere 21 rfl) (by decide) ?_
      refine am_bipush (v := (12 : Int32)) (am_dec tmX12_kindHere 22 rfl) (by decide) ?_
      refine am_bipush (v := (15 : Int32)) (am_dec tmX12_kindHere 23 rfl) (by decide) ?_
      refine am_bipush (v := (23 : Int32)) (am_dec tmX12_kindHere 24 rfl) (by decide) ?_
      refine am_iconst (v := (0 : Int32)) (am_dec tmX12_kindHere 25 rfl) (by decide) ?_
      obtain ⟨x8, g7, hf⟩ := am_bd hf
      refine am_callV1 (As := [.int (2 : Int32), .int (12 : Int32), .int (15 : Int32), .int (23 : Int32), .int (0 : Int32)]) (st := []) hE (am_dec tmX12_kindHere 26 rfl) ok_X12_isWord rfl lm_X12_163 in_X12_isWord se_X12_isWord sh_117 cf12 (c_X12_isWord hE g7) rfl (by decide) (Nat.le_of_ble_eq_true rfl) (Nat.zero_le _) (Nat.zero_le _) rfl ?_
      refine am_if_eq (tgt := 53) (am_dec tmX12_kindHere 27 rfl) (by decide) (fun c9 => ?_) (fun c9 => ?_)
      · rw [if_pos c9] at hf
        refine am_aload_n (am_dec tmX12_kindHere 30 rfl) rfl rfl ?_
        refine am_bipush (v := (8 : Int32)) (am_dec tmX12_kindHere 31 rfl) (by decide) ?_
        refine am_bipush (v := (9 : Int32)) (am_dec tmX12_kindHere 32 rfl) (by decide) ?_
        refine am_bipush (v := (19 : Int32)) (am_dec tmX12_kindHere 33 rfl) (by decide) ?_
        refine am_bipush (v := (19 : Int32)) (am_dec tmX12_kindHere 34 rfl) (by decide) ?_
        refine am_iconst (v := (0 : Int32)) (am_dec tmX12_kindHere 35 rfl) (by decide) ?_
        obtain ⟨x11, g10, hf⟩ := am_bd hf
        refine am_callV1 (As := [.int (8 : Int32), .int (9 : Int32), .int (19 : Int32), .int (19 : Int32), .int (0 : Int32)]) (st := []) hE (am_dec tmX12_kindHere 36 rfl) ok_X12_isWord rfl lm_X12_163 in_X12_isWord se_X12_isWord sh_117 cf12 (c_X12_isWord hE g10) rfl (by decide) (Nat.le_of_ble_eq_true rfl) (Nat.zero_le _) (Nat.zero_le _) rfl ?_
        refine am_if_eq (tgt := 71) (am_dec tmX12_kindHere 37 rfl) (by decide) (fun c12 => ?_) (fun c12 => ?_)
        · rw [if_pos c12] at hf
          refine am_aload_n (am_dec tmX12_kindHere 40 rfl) rfl rfl ?_
          refine am_bipush (v := (8 : Int32)) (am_dec tmX12_kindHere 41 rfl) (by decide) ?_
          refine am_bipush (v := (21 : Int32)) (am_dec tmX12_kindHere 42 rfl) (by decide) ?_
          refine am_bipush (v := (13 : Int32)) (am_dec tmX12_kindHere 43 rfl) (by decide) ?_
          refine am_iconst (v := (0 : Int32)) (am_dec tmX12_kindHere 44 rfl) (by decide) ?_
          refine am_iconst (v := (0 : Int32)) (am_dec tmX12_kindHere 45 rfl) (by decide) ?_
          obtain ⟨x14, g13, hf⟩ := am_bd hf
          refine am_callV1 (As := [.int (8 : Int32), .int (21 : Int32), .int (13 : Int32), .int (0 : Int32), .int (0 : Int32)]) (st := []) hE (am_dec tmX12_kindHere 46 rfl) ok_X12_isWord rfl lm_X12_163 in_X12_isWord se_X12_isWord sh_117 cf12 (c_X12_isWord hE g13) rfl (by decide) (Nat.le_of_ble_eq_true rfl) (Nat.zero_le _) (Nat.zero_le _) rfl ?_
          refine am_if_eq (tgt := 90) (am_dec tmX12_kindHere 47 rfl) (by decide) (fun c15 => ?_) (fun c15 => ?_)
          · rw [if_pos c15] at hf
            refine am_iconst (v := (-1 : Int32)) (am_dec tmX12_kindHere 50 rfl) (by decide) ?_
            have hf := Option.some.inj hf
            subst hf
            exact am_iret (am_dec tmX12_kindHere 51 rfl) rfl (Nat.zero_le _) (Nat.zero_le _)
          · rw [if_neg c15] at hf
            refine am_iconst (v := (4 : Int32)) (am_dec tmX12_kindHere 48 rfl) (by decide) ?_
            refine am_goto (tgt := 91) (am_dec tmX12_kindHere 49 rfl) (by decide) ?_
            have hf := Option.some.inj hf
            subst hf
            exact am_iret (am_dec tmX12_kindHere 51 rfl) rfl (Nat.zero_le _) (Nat.zero_le _)
        · rw [if_neg c12] at hf
          refine am_iconst (v := (3 : Int32)) (am_dec tmX12_kindHere 38 rfl) (by decide) ?_
          have hf := Option.some.inj hf
          subst hf
          exact am_iret (am_dec tmX12_kindHere 39 rfl) rfl (Nat.zero_le _) (Nat.zero_le _)
      · rw [if_neg c9] at hf
        refine am_iconst (v := (2 : Int32)) (am_dec tmX12_kindHere 28 rfl) (by decide) ?_
        have hf := Option.some.inj hf
        subst hf
        exact am_iret (am_dec tmX12_kindHere 29 rfl) rfl (Nat.zero_le _) (Nat.zero_le _)
    · rw [if_neg c6] at hf
      refine am_iconst (v := (1 : Int32)) (am_dec tmX12_kindHere 18 rfl) (by decide) ?_
      have hf := Option.some.inj hf
      subst hf
      exact am_iret (am_dec tmX12_kindHere 19 rfl) rfl (Nat.zero_le _) (Nat.zero_le _)
  · rw [if_neg c3] at hf
    refine am_iconst (v := (0 : Int32)) (am_dec tmX12_kindHere 8 rfl) (by decide) ?_
    have hf := Option.some.inj hf
    subst hf
    exact am_iret (am_dec tmX12_kindHere 9 rfl) rfl (Nat.zero_le _) (Nat.zero_le _)
def f_X12_clause_L157 (q1 : Int32) (q2 : Int32) (q3 : Int32) (q4 : Int32) (q5 : Int32) : Nat → Int32 → am_D → Option (am_D)
  | 0, _, _ => none
  | n + 1, v6, D =>
    if (D.1 117 8) ≤ v6 then
    some (D)
    else
    (am_gI D 119 600 v6).bind fun x45 =>
    (f_X12_wave v6 q2 q3).bind fun x48 =>
    (f_X12_within (x45 + x48) (-2047 : Int32) (2047 : Int32)).bind fun x50 =>
    (am_pI D 119 600 v6 x50).bind fun D51 =>
    f_X12_clause_L157 q1 q2 q3 q4 q5 n (v6 + (1 : Int32)) D51
def f_X12_clause_L206 (q1 : Int32) (q2 : Int32) (q3 : Int32) (q4 : Int32) : Nat → Int32 → Int32 → am_D → Option (am_D)
  | 0, _, _, _ => none
  | n + 1, v5, v6, D =>
    if q4 ≤ v6 then
    some (D)
    else
    (if v6 ≤ (61 : Int32) then
    some ((q3 >>> ((v6 / (2 : Int32)) &&& 31)))
    else
    some ((0 : Int32))).bind fun w59 =>
    (if q1 = 0 then
    some ((0 : Int32))
    else
    if q1 = (1 : Int32) then
    (f_X12_wave v6 q2 q3).bind fun x70 =>
    some (x70)
    else
    if q1 = (2 : Int32) then
    (am_rm v6 (2 : Int32)).bind fun x66 =>
    if x66 = 0 then
    some (w59)
    else
    some ((-w59))
    else
    (am_rm ((((v5 * (1103515245 : Int32)) + (12345 : Int32)) >>> ((16 : Int32) &&& 31)) &&& (32767 : Int32)) (((2 : Int32) * q3) + (1 : Int32))).bind fun x64 =>
    some ((x64 - q3))).bind fun w71 =>
    (am_pI D 119 600 (D.1 117 8) w71).bind fun D72 =>
    (some (am_wI D72 117 8 ((D72.1 117 8) + (1 : Int32)))).bind fun D74 =>
    f_X12_clause_L206 q1 q2 q3 q4 n ((v5 * (1103515245 : Int32)) + (12345 : Int32)) (v6 + (1 : Int32)) D74
def f_X12_clause (D : am_D) : Option (am_D) :=
    (f_X12_kindHere D).bind fun x2 =>
    (if x2.1 = (-1 : Int32) then
    (f_X12_wrong (1 : Int32) (x2.2.1 117 4) x2.2).bind fun x9 =>
    some (x9)
    else
    if (x2.2.1 117 7) = (16 : Int32) then
    (f_X12_wrong (3 : Int32) (x2.2.1 117 4) x2.2).bind fun x7 =>
    some (x7)
    else
    some (x2.2)).bind fun w10 =>
    if (w10.1 117 5) = 0 then
    (f_X12_skipWord w10).bind fun x13 =>
    (if x2.1 = (1 : Int32) then
    (f_X12_number (4 : Int32) (60 : Int32) x13).bind fun x17 =>
    some (x17.1, x17.2)
    else
    if x2.1 = (4 : Int32) then
    (f_X12_number (4 : Int32) (60 : Int32) x13).bind fun x20 =>
    some (x20.1, x20.2)
    else
    some ((0 : Int32), x13)).bind fun w21 =>
    (if x2.1 ≤ 0 then
    some ((0 : Int32), w21.2)
    else
    (f_X12_number (1 : Int32) (2000 : Int32) w21.2).bind fun x25 =>
    some (x25.1, x25.2)).bind fun w26 =>
    (if (4 : Int32) ≤ x2.1 then
    some ((0 : Int32), w26.2)
    else
    (f_X12_manyHere w26.2).bind fun x30 =>
    some (x30.1, x30.2)).bind fun w31 =>
    (if x2.1 = (3 : Int32) then
    (f_X12_number (0 : Int32) (9999 : Int32) w31.2).bind fun x35 =>
    some (x35.1, x35.2)
    else
    some ((0 : Int32), w31.2)).bind fun w36 =>
    (f_X12_sign (59 : Int32) w36.2).bind fun x38 =>
    (some (am_wI x38 117 7 ((x38.1 117 7) + (1 : Int32)))).bind fun D39 =>
    if (D39.1 117 5) = 0 then
    (if x2.1 = (4 : Int32) then
    (f_X12_clause_L157 x2.1 w21.1 w26.1 w31.1 w36.1 am_fu (0 : Int32) D39).bind fun e53 =>
    some (e53)
    else
    some (D39)).bind fun w55 =>
    (f_X12_clause_L206 x2.1 w21.1 w26.1 w31.1 am_fu w36.1 (0 : Int32) w55).bind fun e78 =>
    some e78
    else
    some D39
    else
    some w10
set_option maxRecDepth 100000 in
set_option maxHeartbeats 4000000 in
theorem l_X12_clause_L157 {E : am_E} (hE : am_EH E) {d mc ms : Nat} {o : am_O} {G2 : am_G} {D2 : am_D} (hdp : 6 ≤ d) {q1 : Int32} {q2 : Int32} {q3 : Int32} {q4 : Int32} {q5 : Int32}  : ∀ (n : Nat) (v6 : Int32) (D : am_D) (ex0 : am_D), f_X12_clause_L157 q1 q2 q3 q4 q5 n v6 D = some ex0 → (∀ ex : am_D, ex0 = ex → am_S E mX12_clause d mc ms o G2 D2 0 0 203 [(0, .ref 117), (1, .int q1), (2, .int q2), (3, .int q3), (4, .int q4), (5, .int q5)] [] am_G0 ex) → am_S E mX12_clause d mc ms o G2 D2 0 0 157 [(0, .ref 117), (1, .int q1), (2, .int q2), (3, .int q3), (4, .int q4), (5, .int q5), (6, .int v6)] [] am_G0 D
  | 0, _, _, _, hf, _ => by
    unfold f_X12_clause_L157 at hf
    cases hf
  | n + 1, v6, D, ex0, hf, hk0 => by
    unfold f_X12_clause_L157 at hf
    refine am_iload (am_dec tmX12_clause_1 25 rfl) rfl ?_
    refine am_aload_n (am_dec tmX12_clause_1 26 rfl) rfl rfl ?_
    refine am_getI (j := 8) hE (am_dec tmX12_clause_1 27 rfl) sh_117 cf12 (by decide) rfl lf_X12_152 ?_
    refine am_icmp_ge (tgt := 203) (am_dec tmX12_clause_1 28 rfl) (by decide) (fun c44 => ?_) (fun c44 => ?_)
    · rw [if_pos c44] at hf
      have hf := Option.some.inj hf
      subst hf
      exact am_pick [0, 1, 2, 3, 4, 5] rfl (hk0 _ rfl)
    · rw [if_neg c44] at hf
      refine am_aload_n (am_dec tmX12_clause_1 29 rfl) rfl rfl ?_
      refine am_getR (j := 10) hE (am_dec tmX12_clause_1 30 rfl) sh_117 cf12 (by decide) rfl lf_X12_17 rf_117_10 ?_
      refine am_iload (am_dec tmX12_clause_1 31 rfl) rfl ?_
      refine am_aload_n (am_dec tmX12_clause_1 32 rfl) rfl rfl ?_
      refine am_getR (j := 10) hE (am_dec tmX12_clause_1 33 rfl) sh_117 cf12 (by decide) rfl lf_X12_17 rf_117_10 ?_
      refine am_iload (am_dec tmX12_clause_1 34 rfl) rfl ?_
      obtain ⟨x45, g46, hf⟩ := am_bd hf
      refine am_iald2 hE (am_dec tmX12_clause_1 35 rfl) sh_119 g46 ?_
      refine am_iload (am_dec tmX12_clause_1 36 rfl) rfl ?_
      refine am_iload_n (am_dec tmX12_clause_1 37 rfl) rfl rfl ?_
      refine am_iload_n (am_dec tmX12_clause_1 38 rfl) rfl rfl ?_
      obtain ⟨x48, g47, hf⟩ := am_bd hf
      refine am_callS1 (As := [.int v6, .int q2, .int q3]) (st := [.int x45, .int v6, .ref 119]) (am_dec tmX12_clause_1 39 rfl) ok_X12_wave rfl lm_X12_183 st_X12_wave (c_X12_wave hE g47) rfl (Nat.lt_of_lt_of_le (by decide) hdp) (Nat.le_of_ble_eq_true rfl) (Nat.zero_le _) (Nat.zero_le _) rfl ?_
      refine am_iadd (am_dec tmX12_clause_1 40 rfl) ?_
      refine am_sipush (v := (-2047 : Int32)) (am_dec tmX12_clause_1 41 rfl) (by decide) ?_
      refine am_sipush (v := (2047 : Int32)) (am_dec tmX12_clause_1 42 rfl) (by decide) ?_
      obtain ⟨x50, g49, hf⟩ := am_bd hf
      refine am_callS1 (As := [.int (x45 + x48), .int (-2047 : Int32), .int (2047 : Int32)]) (st := [.int v6, .ref 119]) (am_dec tmX12_clause_1 43 rfl) ok_X12_within rfl lm_X12_187 st_X12_within (c_X12_within hE g49) rfl (Nat.lt_of_lt_of_le (by decide) hdp) (Nat.le_of_ble_eq_true rfl) (Nat.zero_le _) (Nat.zero_le _) rfl ?_
      obtain ⟨D51, g52, hf⟩ := am_bd hf
      refine am_iast2 hE (am_dec tmX12_clause_1 44 rfl) sh_119 g52 ?_
      refine am_iinc (v := (1 : Int32)) (lv' := [(0, .ref 117), (1, .int q1), (2, .int q2), (3, .int q3), (4, .int q4), (5, .int q5), (6, .int (v6 + (1 : Int32)))]) (am_dec tmX12_clause_1 45 rfl) rfl (by decide) (by decide) rfl ?_
      refine am_goto (tgt := 157) (am_dec tmX12_clause_1 46 rfl) (by decide) ?_
      exact am_pick [0, 1, 2, 3, 4, 5, 6] rfl (l_X12_clause_L157 hE hdp n (v6 + (1 : Int32)) D51 ex0 hf hk0)
set_option maxRecDepth 100000 in
set_option maxHeartbeats 4000000 in
theorem l_X12_clause_L206 {E : am_E} (hE : am_EH E) {d mc ms : Nat} {o : am_O} {G2 : am_G} {D2 : am_D} (hdp : 6 ≤ d) {q1 : Int32} {q2 : Int32} {q3 : Int32} {q4 : Int32}  : ∀ (n : Nat) (v5 : Int32) (v6 : Int32) (D : am_D) (ex0 : am_D), f_X12_clause_L206 q1 q2 q3 q4 n v5 v6 D = some ex0 → (∀ ex : am_D, ex0 = ex → am_S E mX12_clause d mc ms o G2 D2 0 0 331 [] [] am_G0 ex) → am_S E mX12_clause d mc ms o G2 D2 0 0 206 [(0, .ref 117), (1, .int q1), (2, .int q2), (3, .int q3), (4, .int q4), (5, .int v5), (6, .int v6)] [] am_G0 D
  | 0, _, _, _, _, hf, _ => by
    unfold f_X12_clause_L206 at hf
    cases hf
  | n + 1, v5, v6, D, ex0, hf, hk0 => by
    unfold f_X12_clause_L206 at hf
    refine am_iload (am_dec tmX12_clause_1 49 rfl) rfl ?_
    refine am_iload (am_dec tmX12_clause_1 50 rfl) rfl ?_
    refine am_icmp_ge (tgt := 331) (am_dec tmX12_clause_1 51 rfl) (by decide) (fun c56 => ?_) (fun c56 => ?_)
    · rw [if_pos c56] at hf
      have hf := Option.some.inj hf
      subst hf
      exact am_pick [] rfl (hk0 _ rfl)
    · rw [if_neg c56] at hf
      refine am_iload (am_dec tmX12_clause_1 52 rfl) rfl ?_
      refine am_ldc (v := (1103515245 : Int32)) (am_dec tmX12_clause_1 53 rfl) lc_X12_190 ?_
      refine am_imul (am_dec tmX12_clause_1 54 rfl) ?_
      refine am_sipush (v := (12345 : Int32)) (am_dec tmX12_clause_1 55 rfl) (by decide) ?_
      refine am_iadd (am_dec tmX12_clause_1 56 rfl) ?_
      refine am_istore (lv' := [(0, .ref 117), (1, .int q1), (2, .int q2), (3, .int q3), (4, .int q4), (5, .int ((v5 * (1103515245 : Int32)) + (12345 : Int32))), (6, .int v6)]) (am_dec tmX12_clause_1 57 rfl) (by decide) rfl ?_
      refine am_iload (am_dec tmX12_clause_1 58 rfl) rfl ?_
      refine am_bipush (v := (61 : Int32)) (am_dec tmX12_clause_1 59 rfl) (by decide) ?_
      obtain ⟨w59, g77, hf⟩ := am_bd hf
      have key58 : am_S E mX12_clause d mc ms o G2 D2 0 0 241 [(0, .ref 117), (1, .int q1), (2, .int q2), (3, .int q3), (4, .int q4), (5, .int ((v5 * (1103515245 : Int32)) + (12345 : Int32))), (6, .int v6)] [.int w59] am_G0 D := by
        refine am_istore (lv' := [(0, .ref 117), (1, .int q1), (2, .int q2), (3, .int q3), (4, .int q4), (5, .int ((v5 * (1103515245 : Int32)) + (12345 : Int32))), (6, .int v6), (7, .int w59)]) (am_dec tmX12_clause_2 8 rfl) (by decide) rfl ?_
        refine am_aload_n (am_dec tmX12_clause_2 9 rfl) rfl rfl ?_
        refine am_getR (j := 10) hE (am_dec tmX12_clause_2 10 rfl) sh_117 cf12 (by decide) rfl lf_X12_17 rf_117_10 ?_
        refine am_aload_n (am_dec tmX12_clause_2 11 rfl) rfl rfl ?_
        refine am_getI (j := 8) hE (am_dec tmX12_clause_2 12 rfl) sh_117 cf12 (by decide) rfl lf_X12_152 ?_
        refine am_iload_n (am_dec tmX12_clause_2 13 rfl) rfl rfl ?_
        obtain ⟨w71, g76, hf⟩ := am_bd hf
        have key61 : am_S E mX12_clause d mc ms o G2 D2 0 0 314 [(0, .ref 117), (1, .int q1), (2, .int q2), (3, .int q3), (4, .int q4), (5, .int ((v5 * (1103515245 : Int32)) + (12345 : Int32))), (6, .int v6)] [.int w71, .int (D.1 117 8), .ref 119] am_G0 D := by
          obtain ⟨D72, g73, hf⟩ := am_bd hf
          refine am_iast2 hE (am_dec tmX12_clause_2 50 rfl) sh_119 g73 ?_
          refine am_aload_n (am_dec tmX12_clause_2 51 rfl) rfl rfl ?_
          refine am_dup (am_dec tmX12_clause_2 52 rfl) rfl ?_
          refine am_getI (j := 8) hE (am_dec tmX12_clause_2 53 rfl) sh_117 cf12 (by decide) rfl lf_X12_152 ?_
          refine am_iconst (v := (1 : Int32)) (am_dec tmX12_clause_2 54 rfl) (by decide) ?_
          refine am_iadd (am_dec tmX12_clause_2 55 rfl) ?_
          obtain ⟨D74, g75, hf⟩ := am_bd hf
          refine am_putI2 (j := 8) hE (am_dec tmX12_clause_2 56 rfl) sh_117 cf12 (by decide) rfl lf_X12_152 rfl rfl rfl g75 ?_
          refine am_iinc (v := (1 : Int32)) (lv' := [(0, .ref 117), (1, .int q1), (2, .int q2), (3, .int q3), (4, .int q4), (5, .int ((v5 * (1103515245 : Int32)) + (12345 : Int32))), (6, .int (v6 + (1 : Int32)))]) (am_dec tmX12_clause_2 57 rfl) rfl (by decide) (by decide) rfl ?_
          refine am_goto (tgt := 206) (am_dec tmX12_clause_2 58 rfl) (by decide) ?_
          exact am_pick [0, 1, 2, 3, 4, 5, 6] rfl (l_X12_clause_L206 hE hdp n ((v5 * (1103515245 : Int32)) + (12345 : Int32)) (v6 + (1 : Int32)) D74 ex0 hf hk0)
        replace hf := g76
        refine am_if_ne (tgt := 259) (am_dec tmX12_clause_2 14 rfl) (by decide) (fun c60 => ?_) (fun c60 => ?_)
        · rw [if_neg c60] at hf
          refine am_iload_n (am_dec tmX12_clause_2 17 rfl) rfl rfl ?_
          refine am_iconst (v := (1 : Int32)) (am_dec tmX12_clause_2 18 rfl) (by decide) ?_
          refine am_icmp_ne (tgt := 274) (am_dec tmX12_clause_2 19 rfl) (by decide) (fun c62 => ?_) (fun c62 => ?_)
          · rw [if_neg c62] at hf
            refine am_iload_n (am_dec tmX12_clause_2 25 rfl) rfl rfl ?_
            refine am_iconst (v := (2 : Int32)) (am_dec tmX12_clause_2 26 rfl) (by decide) ?_
            refine am_icmp_ne (tgt := 297) (am_dec tmX12_clause_2 27 rfl) (by decide) (fun c63 => ?_) (fun c63 => ?_)
            · rw [if_neg c63] at hf
              refine am_iload (am_dec tmX12_clause_2 37 rfl) rfl ?_
              refine am_bipush (v := (16 : Int32)) (am_dec tmX12_clause_2 38 rfl) (by decide) ?_
              refine am_ishr (am_dec tmX12_clause_2 39 rfl) ?_
              refine am_sipush (v := (32767 : Int32)) (am_dec tmX12_clause_2 40 rfl) (by decide) ?_
              refine am_iand (am_dec tmX12_clause_2 41 rfl) ?_
              refine am_iconst (v := (2 : Int32)) (am_dec tmX12_clause_2 42 rfl) (by decide) ?_
              refine am_iload_n (am_dec tmX12_clause_2 43 rfl) rfl rfl ?_
              refine am_imul (am_dec tmX12_clause_2 44 rfl) ?_
              refine am_iconst (v := (1 : Int32)) (am_dec tmX12_clause_2 45 rfl) (by decide) ?_
              refine am_iadd (am_dec tmX12_clause_2 46 rfl) ?_
              obtain ⟨x64, g65, hf⟩ := am_bd hf
              refine am_irem2 (am_dec tmX12_clause_2 47 rfl) g65 ?_
              refine am_iload_n (am_dec tmX12_clause_2 48 rfl) rfl rfl ?_
              refine am_isub (am_dec tmX12_clause_2 49 rfl) ?_
              have hf := Option.some.inj hf
              subst hf
              exact am_pick [0, 1, 2, 3, 4, 5, 6] rfl key61
            · rw [if_pos c63] at hf
              refine am_iload (am_dec tmX12_clause_2 28 rfl) rfl ?_
              refine am_iconst (v := (2 : Int32)) (am_dec tmX12_clause_2 29 rfl) (by decide) ?_
              obtain ⟨x66, g67, hf⟩ := am_bd hf
              refine am_irem2 (am_dec tmX12_clause_2 30 rfl) g67 ?_
              refine am_if_ne (tgt := 291) (am_dec tmX12_clause_2 31 rfl) (by decide) (fun c68 => ?_) (fun c68 => ?_)
              · rw [if_neg c68] at hf
                refine am_iload (am_dec tmX12_clause_2 34 rfl) rfl ?_
                refine am_ineg (am_dec tmX12_clause_2 35 rfl) ?_
                refine am_goto (tgt := 314) (am_dec tmX12_clause_2 36 rfl) (by decide) ?_
                have hf := Option.some.inj hf
                subst hf
                exact am_pick [0, 1, 2, 3, 4, 5, 6] rfl key61
              · rw [if_pos c68] at hf
                refine am_iload (am_dec tmX12_clause_2 32 rfl) rfl ?_
                refine am_goto (tgt := 314) (am_dec tmX12_clause_2 33 rfl) (by decide) ?_
                have hf := Option.some.inj hf
                subst hf
                exact am_pick [0, 1, 2, 3, 4, 5, 6] rfl key61
          · rw [if_pos c62] at hf
            refine am_iload (am_dec tmX12_clause_2 20 rfl) rfl ?_
            refine am_iload_n (am_dec tmX12_clause_2 21 rfl) rfl rfl ?_
            refine am_iload_n (am_dec tmX12_clause_2 22 rfl) rfl rfl ?_
            obtain ⟨x70, g69, hf⟩ := am_bd hf
            refine am_callS1 (As := [.int v6, .int q2, .int q3]) (st := [.int (D.1 117 8), .ref 119]) (am_dec tmX12_clause_2 23 rfl) ok_X12_wave rfl lm_X12_183 st_X12_wave (c_X12_wave hE g69) rfl (Nat.lt_of_lt_of_le (by decide) hdp) (Nat.le_of_ble_eq_true rfl) (Nat.zero_le _) (Nat.zero_le _) rfl ?_
            refine am_goto (tgt := 314) (am_dec tmX12_clause_2 24 rfl) (by decide) ?_
            have hf := Option.some.inj hf
            subst hf
            exact am_pick [0, 1, 2, 3, 4, 5, 6] rfl key61
        · rw [if_pos c60] at hf
          refine am_iconst (v := (0 : Int32)) (am_dec tmX12_clause_2 15 rfl) (by decide) ?_
          refine am_goto (tgt := 314) (am_dec tmX12_clause_2 16 rfl) (by decide) ?_
          have hf := Option.some.inj hf
          subst hf
          exact am_pick [0, 1, 2, 3, 4, 5, 6] rfl key61
      replace hf := g77
      refine am_icmp_le (tgt := 235) (am_dec tmX12_clause_2 0 rfl) (by decide) (fun c57 => ?_) (fun c57 => ?_)
      · rw [if_pos c57] at hf
        refine am_iload_n (am_dec tmX12_clause_2 3 rfl) rfl rfl ?_
        refine am_iload (am_dec tmX12_clause_2 4 rfl) rfl ?_
        refine am_iconst (v := (2 : Int32)) (am_dec tmX12_clause_2 5 rfl) (by decide) ?_
        refine am_idiv (am_dec tmX12_clause_2 6 rfl) (by decide) ?_
        refine am_ishr (am_dec tmX12_clause_2 7 rfl) ?_
        have hf := Option.some.inj hf
        subst hf
        exact am_pick [0, 1, 2, 3, 4, 5, 6] rfl key58
      · rw [if_neg c57] at hf
        refine am_iconst (v := (0 : Int32)) (am_dec tmX12_clause_2 1 rfl) (by decide) ?_
        refine am_goto (tgt := 241) (am_dec tmX12_clause_2 2 rfl) (by decide) ?_
        have hf := Option.some.inj hf
        subst hf
        exact am_pick [0, 1, 2, 3, 4, 5, 6] rfl key58
set_option maxRecDepth 100000 in
set_option maxHeartbeats 4000000 in
theorem c_X12_clause {E : am_E} (hE : am_EH E) {D : am_D} {r : am_D}  (hf : f_X12_clause D = some r) : am_C E mX12_clause 6 0 0 [.ref 117] am_G0 D (.inl none) am_G0 r := by
  refine am_C_of (by decide +kernel) (Nat.le_of_ble_eq_true rfl) ?_
  change am_S E mX12_clause 6 0 0 (.inl none) am_G0 r 0 0 0 [(0, .ref 117)] [] am_G0 D
  unfold f_X12_clause at hf
  refine am_aload_n (am_dec tmX12_clause_0 0 rfl) rfl rfl ?_
  obtain ⟨x2, g1, hf⟩ := am_bd hf
  refine am_callV1 (As := []) (st := []) hE (am_dec tmX12_clause_0 1 rfl) ok_X12_kindHere rfl lm_X12_167 in_X12_kindHere se_X12_kindHere sh_117 cf12 (c_X12_kindHere hE g1) rfl (by decide) (Nat.le_of_ble_eq_true rfl) (Nat.zero_le _) (Nat.zero_le _) rfl ?_
  refine am_istore_n (lv' := [(0, .ref 117), (1, .int x2.1)]) (am_dec tmX12_clause_0 2 rfl) rfl (by decide) rfl ?_
  refine am_iload_n (am_dec tmX12_clause_0 3 rfl) rfl rfl ?_
  refine am_iconst (v := (-1 : Int32)) (am_dec tmX12_clause_0 4 rfl) (by decide) ?_
  obtain ⟨w10, g85, hf⟩ := am_bd hf
  have key4 : am_S E mX12_clause 6 0 0 (.inl none) am_G0 r 0 0 40 [(0, .ref 117), (1, .int x2.1)] [] am_G0 w10 := by
    refine am_aload_n (am_dec tmX12_clause_0 21 rfl) rfl rfl ?_
    refine am_getI (j := 5) hE (am_dec tmX12_clause_0 22 rfl) sh_117 cf12 (by decide) rfl lf_X12_126 ?_
    refine am_if_eq (tgt := 48) (am_dec tmX12_clause_0 23 rfl) (by decide) (fun c11 => ?_) (fun c11 => ?_)
    · rw [if_pos c11] at hf
      refine am_aload_n (am_dec tmX12_clause_0 25 rfl) rfl rfl ?_
      obtain ⟨x13, g12, hf⟩ := am_bd hf
      refine am_callV0 (As := []) (st := []) hE (am_dec tmX12_clause_0 26 rfl) ok_X12_skipWord rfl lm_X12_173 in_X12_skipWord se_X12_skipWord sh_117 cf12 (c_X12_skipWord hE g12) rfl (by decide) (Nat.le_of_ble_eq_true rfl) (Nat.zero_le _) (Nat.zero_le _) rfl ?_
      refine am_iload_n (am_dec tmX12_clause_0 27 rfl) rfl rfl ?_
      refine am_iconst (v := (1 : Int32)) (am_dec tmX12_clause_0 28 rfl) (by decide) ?_
      obtain ⟨w21, g84, hf⟩ := am_bd hf
      have key15 : am_S E mX12_clause 6 0 0 (.inl none) am_G0 r 0 0 73 [(0, .ref 117), (1, .int x2.1)] [.int w21.1] am_G0 w21.2 := by
        refine am_istore_n (lv' := [(0, .ref 117), (1, .int x2.1), (2, .int w21.1)]) (am_dec tmX12_clause_0 39 rfl) rfl (by decide) rfl ?_
        refine am_iload_n (am_dec tmX12_clause_0 40 rfl) rfl rfl ?_
        obtain ⟨w26, g83, hf⟩ := am_bd hf
        have key23 : am_S E mX12_clause 6 0 0 (.inl none) am_G0 r 0 0 90 [(0, .ref 117), (1, .int x2.1), (2, .int w21.1)] [.int w26.1] am_G0 w26.2 := by
          refine am_istore_n (lv' := [(0, .ref 117), (1, .int x2.1), (2, .int w21.1), (3, .int w26.1)]) (am_dec tmX12_clause_0 48 rfl) rfl (by decide) rfl ?_
          refine am_iload_n (am_dec tmX12_clause_0 49 rfl) rfl rfl ?_
          refine am_iconst (v := (4 : Int32)) (am_dec tmX12_clause_0 50 rfl) (by decide) ?_
          obtain ⟨w31, g82, hf⟩ := am_bd hf
          have key28 : am_S E mX12_clause 6 0 0 (.inl none) am_G0 r 0 0 104 [(0, .ref 117), (1, .int x2.1), (2, .int w21.1), (3, .int w26.1)] [.int w31.1] am_G0 w31.2 := by
            refine am_istore (lv' := [(0, .ref 117), (1, .int x2.1), (2, .int w21.1), (3, .int w26.1), (4, .int w31.1)]) (am_dec tmX12_clause_0 56 rfl) (by decide) rfl ?_
            refine am_iload_n (am_dec tmX12_clause_0 57 rfl) rfl rfl ?_
            refine am_iconst (v := (3 : Int32)) (am_dec tmX12_clause_0 58 rfl) (by decide) ?_
            obtain ⟨w36, g81, hf⟩ := am_bd hf
            have key33 : am_S E mX12_clause 6 0 0 (.inl none) am_G0 r 0 0 123 [(0, .ref 117), (1, .int x2.1), (2, .int w21.1), (3, .int w26.1), (4, .int w31.1)] [.int w36.1] am_G0 w36.2 := by
              refine am_istore (lv' := [(0, .ref 117), (1, .int x2.1), (2, .int w21.1), (3, .int w26.1), (4, .int w31.1), (5, .int w36.1)]) (am_dec tmX12_clause_1 6 rfl) (by decide) rfl ?_
              refine am_aload_n (am_dec tmX12_clause_1 7 rfl) rfl rfl ?_
              refine am_bipush (v := (59 : Int32)) (am_dec tmX12_clause_1 8 rfl) (by decide) ?_
              obtain ⟨x38, g37, hf⟩ := am_bd hf
              refine am_callV0 (As := [.int (59 : Int32)]) (st := []) hE (am_dec tmX12_clause_1 9 rfl) ok_X12_sign rfl lm_X12_179 in_X12_sign se_X12_sign sh_117 cf12 (c_X12_sign hE g37) rfl (by decide) (Nat.le_of_ble_eq_true rfl) (Nat.zero_le _) (Nat.zero_le _) rfl ?_
              refine am_aload_n (am_dec tmX12_clause_1 10 rfl) rfl rfl ?_
              refine am_dup (am_dec tmX12_clause_1 11 rfl) rfl ?_
              refine am_getI (j := 7) hE (am_dec tmX12_clause_1 12 rfl) sh_117 cf12 (by decide) rfl lf_X12_170 ?_
              refine am_iconst (v := (1 : Int32)) (am_dec tmX12_clause_1 13 rfl) (by decide) ?_
              refine am_iadd (am_dec tmX12_clause_1 14 rfl) ?_
              obtain ⟨D39, g40, hf⟩ := am_bd hf
              refine am_putI2 (j := 7) hE (am_dec tmX12_clause_1 15 rfl) sh_117 cf12 (by decide) rfl lf_X12_170 rfl rfl rfl g40 ?_
              refine am_aload_n (am_dec tmX12_clause_1 16 rfl) rfl rfl ?_
              refine am_getI (j := 5) hE (am_dec tmX12_clause_1 17 rfl) sh_117 cf12 (by decide) rfl lf_X12_126 ?_
              refine am_if_eq (tgt := 149) (am_dec tmX12_clause_1 18 rfl) (by decide) (fun c41 => ?_) (fun c41 => ?_)
              · rw [if_pos c41] at hf
                refine am_iload_n (am_dec tmX12_clause_1 20 rfl) rfl rfl ?_
                refine am_iconst (v := (4 : Int32)) (am_dec tmX12_clause_1 21 rfl) (by decide) ?_
                obtain ⟨w55, g80, hf⟩ := am_bd hf
                have key43 : am_S E mX12_clause 6 0 0 (.inl none) am_G0 r 0 0 203 [(0, .ref 117), (1, .int x2.1), (2, .int w21.1), (3, .int w26.1), (4, .int w31.1), (5, .int w36.1)] [] am_G0 w55 := by
                  refine am_iconst (v := (0 : Int32)) (am_dec tmX12_clause_1 47 rfl) (by decide) ?_
                  refine am_istore (lv' := [(0, .ref 117), (1, .int x2.1), (2, .int w21.1), (3, .int w26.1), (4, .int w31.1), (5, .int w36.1), (6, .int (0 : Int32))]) (am_dec tmX12_clause_1 48 rfl) (by decide) rfl ?_
                  obtain ⟨e78, g79, hf⟩ := am_bd hf
                  refine am_pick [0, 1, 2, 3, 4, 5, 6] rfl (l_X12_clause_L206 hE (Nat.le_refl _) am_fu _ _ _ _ g79 (fun ex he => ?_))
                  subst he
                  have hf := Option.some.inj hf
                  subst hf
                  exact am_vret (am_dec tmX12_clause_2 59 rfl) rfl (Nat.zero_le _) (Nat.zero_le _)
                replace hf := g80
                refine am_icmp_ne (tgt := 203) (am_dec tmX12_clause_1 22 rfl) (by decide) (fun c42 => ?_) (fun c42 => ?_)
                · rw [if_neg c42] at hf
                  have hf := Option.some.inj hf
                  subst hf
                  exact am_pick [0, 1, 2, 3, 4, 5] rfl key43
                · rw [if_pos c42] at hf
                  refine am_iconst (v := (0 : Int32)) (am_dec tmX12_clause_1 23 rfl) (by decide) ?_
                  refine am_istore (lv' := [(0, .ref 117), (1, .int x2.1), (2, .int w21.1), (3, .int w26.1), (4, .int w31.1), (5, .int w36.1), (6, .int (0 : Int32))]) (am_dec tmX12_clause_1 24 rfl) (by decide) rfl ?_
                  obtain ⟨e53, g54, hf⟩ := am_bd hf
                  refine am_pick [0, 1, 2, 3, 4, 5, 6] rfl (l_X12_clause_L157 hE (Nat.le_refl _) am_fu _ _ _ g54 (fun ex he => ?_))
                  subst he
                  have hf := Option.some.inj hf
                  subst hf
                  exact am_pick [0, 1, 2, 3, 4, 5] rfl key43
              · rw [if_neg c41] at hf
                have hf := Option.some.inj hf
                subst hf
                exact am_vret (am_dec tmX12_clause_1 19 rfl) rfl (Nat.zero_le _) (Nat.zero_le _)
            replace hf := g81
            refine am_icmp_ne (tgt := 122) (am_dec tmX12_clause_0 59 rfl) (by decide) (fun c32 => ?_) (fun c32 => ?_)
            · rw [if_neg c32] at hf
              refine am_iconst (v := (0 : Int32)) (am_dec tmX12_clause_1 5 rfl) (by decide) ?_
              have hf := Option.some.inj hf
              subst hf
              exact am_pick [0, 1, 2, 3, 4] rfl key33
            · rw [if_pos c32] at hf
              refine am_aload_n (am_dec tmX12_clause_1 0 rfl) rfl rfl ?_
              refine am_iconst (v := (0 : Int32)) (am_dec tmX12_clause_1 1 rfl) (by decide) ?_
              refine am_sipush (v := (9999 : Int32)) (am_dec tmX12_clause_1 2 rfl) (by decide) ?_
              obtain ⟨x35, g34, hf⟩ := am_bd hf
              refine am_callV1 (As := [.int (0 : Int32), .int (9999 : Int32)]) (st := []) hE (am_dec tmX12_clause_1 3 rfl) ok_X12_number rfl lm_X12_148 in_X12_number se_X12_number sh_117 cf12 (c_X12_number hE g34) rfl (by decide) (Nat.le_of_ble_eq_true rfl) (Nat.zero_le _) (Nat.zero_le _) rfl ?_
              refine am_goto (tgt := 123) (am_dec tmX12_clause_1 4 rfl) (by decide) ?_
              have hf := Option.some.inj hf
              subst hf
              exact am_pick [0, 1, 2, 3, 4] rfl key33
          replace hf := g82
          refine am_icmp_ge (tgt := 103) (am_dec tmX12_clause_0 51 rfl) (by decide) (fun c27 => ?_) (fun c27 => ?_)
          · rw [if_pos c27] at hf
            refine am_iconst (v := (0 : Int32)) (am_dec tmX12_clause_0 55 rfl) (by decide) ?_
            have hf := Option.some.inj hf
            subst hf
            exact am_pick [0, 1, 2, 3] rfl key28
          · rw [if_neg c27] at hf
            refine am_aload_n (am_dec tmX12_clause_0 52 rfl) rfl rfl ?_
            obtain ⟨x30, g29, hf⟩ := am_bd hf
            refine am_callV1 (As := []) (st := []) hE (am_dec tmX12_clause_0 53 rfl) ok_X12_manyHere rfl lm_X12_176 in_X12_manyHere se_X12_manyHere sh_117 cf12 (c_X12_manyHere hE g29) rfl (by decide) (Nat.le_of_ble_eq_true rfl) (Nat.zero_le _) (Nat.zero_le _) rfl ?_
            refine am_goto (tgt := 104) (am_dec tmX12_clause_0 54 rfl) (by decide) ?_
            have hf := Option.some.inj hf
            subst hf
            exact am_pick [0, 1, 2, 3] rfl key28
        replace hf := g83
        refine am_if_le (tgt := 89) (am_dec tmX12_clause_0 41 rfl) (by decide) (fun c22 => ?_) (fun c22 => ?_)
        · rw [if_pos c22] at hf
          refine am_iconst (v := (0 : Int32)) (am_dec tmX12_clause_0 47 rfl) (by decide) ?_
          have hf := Option.some.inj hf
          subst hf
          exact am_pick [0, 1, 2] rfl key23
        · rw [if_neg c22] at hf
          refine am_aload_n (am_dec tmX12_clause_0 42 rfl) rfl rfl ?_
          refine am_iconst (v := (1 : Int32)) (am_dec tmX12_clause_0 43 rfl) (by decide) ?_
          refine am_sipush (v := (2000 : Int32)) (am_dec tmX12_clause_0 44 rfl) (by decide) ?_
          obtain ⟨x25, g24, hf⟩ := am_bd hf
          refine am_callV1 (As := [.int (1 : Int32), .int (2000 : Int32)]) (st := []) hE (am_dec tmX12_clause_0 45 rfl) ok_X12_number rfl lm_X12_148 in_X12_number se_X12_number sh_117 cf12 (c_X12_number hE g24) rfl (by decide) (Nat.le_of_ble_eq_true rfl) (Nat.zero_le _) (Nat.zero_le _) rfl ?_
          refine am_goto (tgt := 90) (am_dec tmX12_clause_0 46 rfl) (by decide) ?_
          have hf := Option.some.inj hf
          subst hf
          exact am_pick [0, 1, 2] rfl key23
      replace hf := g84
      refine am_icmp_eq (tgt := 62) (am_dec tmX12_clause_0 29 rfl) (by decide) (fun c14 => ?_) (fun c14 => ?_)
      · rw [if_pos c14] at hf
        refine am_aload_n (am_dec tmX12_clause_0 33 rfl) rfl rfl ?_
        refine am_iconst (v := (4 : Int32)) (am_dec tmX12_clause_0 34 rfl) (by decide) ?_
        refine am_bipush (v := (60 : Int32)) (am_dec tmX12_clause_0 35 rfl) (by decide) ?_
        obtain ⟨x17, g16, hf⟩ := am_bd hf
        refine am_callV1 (As := [.int (4 : Int32), .int (60 : Int32)]) (st := []) hE (am_dec tmX12_clause_0 36 rfl) ok_X12_number rfl lm_X12_148 in_X12_number se_X12_number sh_117 cf12 (c_X12_number hE g16) rfl (by decide) (Nat.le_of_ble_eq_true rfl) (Nat.zero_le _) (Nat.zero_le _) rfl ?_
        refine am_goto (tgt := 73) (am_dec tmX12_clause_0 37 rfl) (by decide) ?_
        have hf := Option.some.inj hf
        subst hf
        exact am_pick [0, 1] rfl key15
      · rw [if_neg c14] at hf
        refine am_iload_n (am_dec tmX12_clause_0 30 rfl) rfl rfl ?_
        refine am_iconst (v := (4 : Int32)) (am_dec tmX12_clause_0 31 rfl) (by decide) ?_
        refine am_icmp_ne (tgt := 72) (am_dec tmX12_clause_0 32 rfl) (by decide) (fun c18 => ?_) (fun c18 => ?_)
        · rw [if_neg c18] at hf
          refine am_iconst (v := (0 : Int32)) (am_dec tmX12_clause_0 38 rfl) (by decide) ?_
          have hf := Option.some.inj hf
          subst hf
          exact am_pick [0, 1] rfl key15
        · rw [if_pos c18] at hf
          refine am_aload_n (am_dec tmX12_clause_0 33 rfl) rfl rfl ?_
          refine am_iconst (v := (4 : Int32)) (am_dec tmX12_clause_0 34 rfl) (by decide) ?_
          refine am_bipush (v := (60 : Int32)) (am_dec tmX12_clause_0 35 rfl) (by decide) ?_
          obtain ⟨x20, g19, hf⟩ := am_bd hf
          refine am_callV1 (As := [.int (4 : Int32), .int (60 : Int32)]) (st := []) hE (am_dec tmX12_clause_0 36 rfl) ok_X12_number rfl lm_X12_148 in_X12_number se_X12_number sh_117 cf12 (c_X12_number hE g19) rfl (by decide) (Nat.le_of_ble_eq_true rfl) (Nat.zero_le _) (Nat.zero_le _) rfl ?_
          refine am_goto (tgt := 73) (am_dec tmX12_clause_0 37 rfl) (by decide) ?_
          have hf := Option.some.inj hf
          subst hf
          exact am_pick [0, 1] rfl key15
    · rw [if_neg c11] at hf
      have hf := Option.some.inj hf
      subst hf
      exact am_vret (am_dec tmX12_clause_0 24 rfl) rfl (Nat.zero_le _) (Nat.zero_le _)
  replace hf := g85
  refine am_icmp_ne (tgt := 22) (am_dec tmX12_clause_0 5 rfl) (by decide) (fun c3 => ?_) (fun c3 => ?_)
  · rw [if_neg c3] at hf
    refine am_aload_n (am_dec tmX12_clause_0 12 rfl) rfl rfl ?_
    refine am_getI (j := 7) hE (am_dec tmX12_clause_0 13 rfl) sh_117 cf12 (by decide) rfl lf_X12_170 ?_
    refine am_bipush (v := (16 : Int32)) (am_dec tmX12_clause_0 14 rfl) (by decide) ?_
    refine am_icmp_ne (tgt := 40) (am_dec tmX12_clause_0 15 rfl) (by decide) (fun c5 => ?_) (fun c5 => ?_)
    · rw [if_neg c5] at hf
      have hf := Option.some.inj hf
      subst hf
      exact am_pick [0, 1] rfl key4
    · rw [if_pos c5] at hf
      refine am_aload_n (am_dec tmX12_clause_0 16 rfl) rfl rfl ?_
      refine am_iconst (v := (3 : Int32)) (am_dec tmX12_clause_0 17 rfl) (by decide) ?_
      refine am_aload_n (am_dec tmX12_clause_0 18 rfl) rfl rfl ?_
      refine am_getI (j := 4) hE (am_dec tmX12_clause_0 19 rfl) sh_117 cf12 (by decide) rfl lf_X12_119 ?_
      obtain ⟨x7, g6, hf⟩ := am_bd hf
      refine am_callV0 (As := [.int (3 : Int32), .int (x2.2.1 117 4)]) (st := []) hE (am_dec tmX12_clause_0 20 rfl) ok_X12_wrong rfl lm_X12_139 in_X12_wrong se_X12_wrong sh_117 cf12 (c_X12_wrong hE g6) rfl (by decide) (Nat.le_of_ble_eq_true rfl) (Nat.zero_le _) (Nat.zero_le _) rfl ?_
      have hf := Option.some.inj hf
      subst hf
      exact am_pick [0, 1] rfl key4
  · rw [if_pos c3] at hf
    refine am_aload_n (am_dec tmX12_clause_0 6 rfl) rfl rfl ?_
    refine am_iconst (v := (1 : Int32)) (am_dec tmX12_clause_0 7 rfl) (by decide) ?_
    refine am_aload_n (am_dec tmX12_clause_0 8 rfl) rfl rfl ?_
    refine am_getI (j := 4) hE (am_dec tmX12_clause_0 9 rfl) sh_117 cf12 (by decide) rfl lf_X12_119 ?_
    obtain ⟨x9, g8, hf⟩ := am_bd hf
    refine am_callV0 (As := [.int (1 : Int32), .int (x2.2.1 117 4)]) (st := []) hE (am_dec tmX12_clause_0 10 rfl) ok_X12_wrong rfl lm_X12_139 in_X12_wrong se_X12_wrong sh_117 cf12 (c_X12_wrong hE g8) rfl (by decide) (Nat.le_of_ble_eq_true rfl) (Nat.zero_le _) (Nat.zero_le _) rfl ?_
    refine am_goto (tgt := 40) (am_dec tmX12_clause_0 11 rfl) (by decide) ?_
    have hf := Option.some.inj hf
    subst hf
    exact am_pick [0, 1] rfl key4
def f_X12_begins (p1 : Int32) (D : am_D) : Option (am_D) :=
    (some (am_wI D 117 2 p1)).bind fun D1 =>
    (some (am_wI D1 117 4 (0 : Int32))).bind fun D3 =>
    (some (am_wI D3 117 5 (0 : Int32))).bind fun D5 =>
    (some (am_wI D5 117 6 (-1 : Int32))).bind fun D7 =>
    (some (am_wI D7 117 7 (0 : Int32))).bind fun D9 =>
    (some (am_wI D9 117 8 (0 : Int32))).bind fun D11 =>
    (f_X12_blanks D11).bind fun x14 =>
    some x14
set_option maxRecDepth 100000 in
set_option maxHeartbeats 4000000 in
theorem c_X12_begins {E : am_E} (hE : am_EH E) {p1 : Int32} {D : am_D} {r : am_D}  (hf : f_X12_begins p1 D = some r) : am_C E mX12_begins 3 0 0 [.ref 117, .int p1] am_G0 D (.inl none) am_G0 r := by
  refine am_C_of (by decide +kernel) (Nat.le_of_ble_eq_true rfl) ?_
  change am_S E mX12_begins 3 0 0 (.inl none) am_G0 r 0 0 0 [(0, .ref 117), (1, .int p1)] [] am_G0 D
  unfold f_X12_begins at hf
  refine am_aload_n (am_dec tmX12_begins 0 rfl) rfl rfl ?_
  refine am_iload_n (am_dec tmX12_begins 1 rfl) rfl rfl ?_
  obtain ⟨D1, g2, hf⟩ := am_bd hf
  refine am_putI2 (j := 2) hE (am_dec tmX12_begins 2 rfl) sh_117 cf12 (by decide) rfl lf_X12_116 rfl rfl rfl g2 ?_
  refine am_aload_n (am_dec tmX12_begins 3 rfl) rfl rfl ?_
  refine am_iconst (v := (0 : Int32)) (am_dec tmX12_begins 4 rfl) (by decide) ?_
  obtain ⟨D3, g4, hf⟩ := am_bd hf
  refine am_putI2 (j := 4) hE (am_dec tmX12_begins 5 rfl) sh_117 cf12 (by decide) rfl lf_X12_119 rfl rfl rfl g4 ?_
  refine am_aload_n (am_dec tmX12_begins 6 rfl) rfl rfl ?_
  refine am_iconst (v := (0 : Int32)) (am_dec tmX12_begins 7 rfl) (by decide) ?_
  obtain ⟨D5, g6, hf⟩ := am_bd hf
  refine am_putI2 (j := 5) hE (am_dec tmX12_begins 8 rfl) sh_117 cf12 (by decide) rfl lf_X12_126 rfl rfl rfl g6 ?_
  refine am_aload_n (am_dec tmX12_begins 9 rfl) rfl rfl ?_
  refine am_iconst (v := (-1 : Int32)) (am_dec tmX12_begins 10 rfl) (by decide) ?_
  obtain ⟨D7, g8, hf⟩ := am_bd hf
  refine am_putI2 (j := 6) hE (am_dec tmX12_begins 11 rfl) sh_117 cf12 (by decide) rfl lf_X12_129 rfl rfl rfl g8 ?_
  refine am_aload_n (am_dec tmX12_begins 12 rfl) rfl rfl ?_
  refine am_iconst (v := (0 : Int32)) (am_dec tmX12_begins 13 rfl) (by decide) ?_
  obtain ⟨D9, g10, hf⟩ := am_bd hf
  refine am_putI2 (j := 7) hE (am_dec tmX12_begins 14 rfl) sh_117 cf12 (by decide) rfl lf_X12_170 rfl rfl rfl g10 ?_
  refine am_aload_n (am_dec tmX12_begins 15 rfl) rfl rfl ?_
  refine am_iconst (v := (0 : Int32)) (am_dec tmX12_begins 16 rfl) (by decide) ?_
  obtain ⟨D11, g12, hf⟩ := am_bd hf
  refine am_putI2 (j := 8) hE (am_dec tmX12_begins 17 rfl) sh_117 cf12 (by decide) rfl lf_X12_152 rfl rfl rfl g12 ?_
  refine am_aload_n (am_dec tmX12_begins 18 rfl) rfl rfl ?_
  obtain ⟨x14, g13, hf⟩ := am_bd hf
  refine am_callV0 (As := []) (st := []) hE (am_dec tmX12_begins 19 rfl) ok_X12_blanks rfl lm_X12_132 in_X12_blanks se_X12_blanks sh_117 cf12 (c_X12_blanks hE g13) rfl (by decide) (Nat.le_of_ble_eq_true rfl) (Nat.zero_le _) (Nat.zero_le _) rfl ?_
  have hf := Option.some.inj hf
  subst hf
  exact am_vret (am_dec tmX12_begins 20 rfl) rfl (Nat.zero_le _) (Nat.zero_le _)
def f_X12_keeps_L2 (q1 : Nat) (q2 : Int32) : Nat → Int32 → am_D → Option (am_D)
  | 0, _, _ => none
  | n + 1, v3, D =>
    if q2 ≤ v3 then
    some (D)
    else
    (am_gA 5 (D.1 117 12)).bind fun j2 =>
    (am_gI D q1 (am_ln q1) v3).bind fun x4 =>
    (am_pI D (134 + j2) 600 v3 x4).bind fun D6 =>
    f_X12_keeps_L2 q1 q2 n (v3 + (1 : Int32)) D6
def f_X12_keeps (p1 : Nat) (p2 : Int32) (D : am_D) : Option ((Int32 × am_D)) :=
    (f_X12_keeps_L2 p1 p2 am_fu (0 : Int32) D).bind fun e8 =>
    (am_pI e8 139 5 (e8.1 117 12) p2).bind fun D9 =>
    (some (am_wI D9 117 12 ((D9.1 117 12) + (1 : Int32)))).bind fun D11 =>
    some (((D11.1 117 12) - (1 : Int32)), D11)
set_option maxRecDepth 100000 in
set_option maxHeartbeats 4000000 in
theorem l_X12_keeps_L2 {E : am_E} (hE : am_EH E) {d mc ms : Nat} {o : am_O} {G2 : am_G} {D2 : am_D} (hdp : 1 ≤ d) {q1 : Nat} {q2 : Int32} (h_q1 : am_sh am_G0 q1 = some (20, am_ln q1)) : ∀ (n : Nat) (v3 : Int32) (D : am_D) (ex0 : am_D), f_X12_keeps_L2 q1 q2 n v3 D = some ex0 → (∀ ex : am_D, ex0 = ex → am_S E mX12_keeps d mc ms o G2 D2 0 0 27 [(0, .ref 117), (2, .int q2)] [] am_G0 ex) → am_S E mX12_keeps d mc ms o G2 D2 0 0 2 [(0, .ref 117), (1, .ref q1), (2, .int q2), (3, .int v3)] [] am_G0 D
  | 0, _, _, _, hf, _ => by
    unfold f_X12_keeps_L2 at hf
    cases hf
  | n + 1, v3, D, ex0, hf, hk0 => by
    unfold f_X12_keeps_L2 at hf
    refine am_iload_n (am_dec tmX12_keeps 2 rfl) rfl rfl ?_
    refine am_iload_n (am_dec tmX12_keeps 3 rfl) rfl rfl ?_
    refine am_icmp_ge (tgt := 27) (am_dec tmX12_keeps 4 rfl) (by decide) (fun c1 => ?_) (fun c1 => ?_)
    · rw [if_pos c1] at hf
      have hf := Option.some.inj hf
      subst hf
      exact am_pick [0, 2] rfl (hk0 _ rfl)
    · rw [if_neg c1] at hf
      refine am_aload_n (am_dec tmX12_keeps 5 rfl) rfl rfl ?_
      refine am_getR (j := 24) hE (am_dec tmX12_keeps 6 rfl) sh_117 cf12 (by decide) rfl lf_X12_43 rf_117_24 ?_
      refine am_aload_n (am_dec tmX12_keeps 7 rfl) rfl rfl ?_
      refine am_getI (j := 12) hE (am_dec tmX12_keeps 8 rfl) sh_117 cf12 (by decide) rfl lf_X12_195 ?_
      obtain ⟨j2, g3, hf⟩ := am_bd hf
      have hj_j2 := (am_gA_lt g3).1
      refine am_aald2 (t := 6) hE (am_dec tmX12_keeps 9 rfl) sh_133 (by decide) rfl rfl g3 (rr_133 hj_j2) ?_
      refine am_iload_n (am_dec tmX12_keeps 10 rfl) rfl rfl ?_
      refine am_aload_n (am_dec tmX12_keeps 11 rfl) rfl rfl ?_
      refine am_iload_n (am_dec tmX12_keeps 12 rfl) rfl rfl ?_
      obtain ⟨x4, g5, hf⟩ := am_bd hf
      refine am_iald2 hE (am_dec tmX12_keeps 13 rfl) h_q1 g5 ?_
      obtain ⟨D6, g7, hf⟩ := am_bd hf
      refine am_iast2 hE (am_dec tmX12_keeps 14 rfl) (sa_133_0 hj_j2) g7 ?_
      refine am_iinc (v := (1 : Int32)) (lv' := [(0, .ref 117), (1, .ref q1), (2, .int q2), (3, .int (v3 + (1 : Int32)))]) (am_dec tmX12_keeps 15 rfl) rfl (by decide) (by decide) rfl ?_
      refine am_goto (tgt := 2) (am_dec tmX12_keeps 16 rfl) (by decide) ?_
      exact am_pick [0, 1, 2, 3] rfl (l_X12_keeps_L2 hE hdp h_q1 n (v3 + (1 : Int32)) D6 ex0 hf hk0)
set_option maxRecDepth 100000 in
set_option maxHeartbeats 4000000 in
theorem c_X12_keeps {E : am_E} (hE : am_EH E) {p1 : Nat} {p2 : Int32} {D : am_D} {r : (Int32 × am_D)} (h_p1 : am_sh am_G0 p1 = some (20, am_ln p1)) (hf : f_X12_keeps p1 p2 D = some r) : am_C E mX12_keeps 1 0 0 [.ref 117, .ref p1, .int p2] am_G0 D (.inl (some (.int r.1))) am_G0 r.2 := by
  refine am_C_of (by decide +kernel) (Nat.le_of_ble_eq_true rfl) ?_
  change am_S E mX12_keeps 1 0 0 (.inl (some (.int r.1))) am_G0 r.2 0 0 0 [(0, .ref 117), (1, .ref p1), (2, .int p2)] [] am_G0 D
  unfold f_X12_keeps at hf
  refine am_iconst (v := (0 : Int32)) (am_dec tmX12_keeps 0 rfl) (by decide) ?_
  refine am_istore_n (lv' := [(0, .ref 117), (1, .ref p1), (2, .int p2), (3, .int (0 : Int32))]) (am_dec tmX12_keeps 1 rfl) rfl (by decide) rfl ?_
  obtain ⟨e8, g13, hf⟩ := am_bd hf
  refine am_pick [0, 1, 2, 3] rfl (l_X12_keeps_L2 hE (Nat.le_refl _) h_p1 am_fu _ _ _ g13 (fun ex he => ?_))
  subst he
  refine am_aload_n (am_dec tmX12_keeps 17 rfl) rfl rfl ?_
  refine am_getR (j := 25) hE (am_dec tmX12_keeps 18 rfl) sh_117 cf12 (by decide) rfl lf_X12_46 rf_117_25 ?_
  refine am_aload_n (am_dec tmX12_keeps 19 rfl) rfl rfl ?_
  refine am_getI (j := 12) hE (am_dec tmX12_keeps 20 rfl) sh_117 cf12 (by decide) rfl lf_X12_195 ?_
  refine am_iload_n (am_dec tmX12_keeps 21 rfl) rfl rfl ?_
  obtain ⟨D9, g10, hf⟩ := am_bd hf
  refine am_iast2 hE (am_dec tmX12_keeps 22 rfl) sh_139 g10 ?_
  refine am_aload_n (am_dec tmX12_keeps 23 rfl) rfl rfl ?_
  refine am_dup (am_dec tmX12_keeps 24 rfl) rfl ?_
  refine am_getI (j := 12) hE (am_dec tmX12_keeps 25 rfl) sh_117 cf12 (by decide) rfl lf_X12_195 ?_
  refine am_iconst (v := (1 : Int32)) (am_dec tmX12_keeps 26 rfl) (by decide) ?_
  refine am_iadd (am_dec tmX12_keeps 27 rfl) ?_
  obtain ⟨D11, g12, hf⟩ := am_bd hf
  refine am_putI2 (j := 12) hE (am_dec tmX12_keeps 28 rfl) sh_117 cf12 (by decide) rfl lf_X12_195 rfl rfl rfl g12 ?_
  refine am_aload_n (am_dec tmX12_keeps 29 rfl) rfl rfl ?_
  refine am_getI (j := 12) hE (am_dec tmX12_keeps 30 rfl) sh_117 cf12 (by decide) rfl lf_X12_195 ?_
  refine am_iconst (v := (1 : Int32)) (am_dec tmX12_keeps 31 rfl) (by decide) ?_
  refine am_isub (am_dec tmX12_keeps 32 rfl) ?_
  have hf := Option.some.inj hf
  subst hf
  exact am_iret (am_dec tmX12_keeps 33 rfl) rfl (Nat.zero_le _) (Nat.zero_le _)
def f_X12_sound_L57  : Nat → am_D → Option (am_D)
  | 0, _ => none
  | n + 1, D =>
    if (D.1 117 5) = 0 then
    if (D.1 117 2) ≤ (D.1 117 4) then
    some (D)
    else
    (f_X12_clause D).bind fun x21 =>
    (f_X12_blanks x21).bind fun x23 =>
    f_X12_sound_L57 n x23
    else
    some (D)
def f_X12_sound (p1 : Int32) (D : am_D) : Option ((Int32 × am_D)) :=
    (some (am_wI D 117 0 (0 : Int32))).bind fun D1 =>
    (f_X12_in p1 (0 : Int32) (D1.1 117 1)).bind fun x4 =>
    (if x4 = 0 then
    some ((1 : Int32))
    else
    some ((0 : Int32))).bind fun w7 =>
    (f_X12_bad w7 (1 : Int32) D1).bind fun x9 =>
    if x9.1 = 0 then
    (some (am_wI x9.2 117 1 (0 : Int32))).bind fun D11 =>
    (some (am_wI D11 117 3 (-1 : Int32))).bind fun D13 =>
    if (D13.1 117 12) = (5 : Int32) then
    some ((-1 : Int32), D13)
    else
    (f_X12_begins p1 D13).bind fun x17 =>
    (f_X12_sound_L57 am_fu x17).bind fun e24 =>
    (if (e24.1 117 5) = 0 then
    if (e24.1 117 8) = 0 then
    (f_X12_wrong (4 : Int32) (e24.1 117 2) e24).bind fun x29 =>
    some (x29)
    else
    some (e24)
    else
    some (e24)).bind fun w30 =>
    (some (am_wI w30 117 3 (w30.1 117 6))).bind fun D31 =>
    if (D31.1 117 5) = 0 then
    (f_X12_keeps 119 (D31.1 117 8) D31).bind fun x35 =>
    some (x35.1, x35.2)
    else
    some (((D31.1 117 5) - (10 : Int32)), D31)
    else
    some ((0 : Int32), x9.2)
set_option maxRecDepth 100000 in
set_option maxHeartbeats 4000000 in
theorem l_X12_sound_L57 {E : am_E} (hE : am_EH E) {d mc ms : Nat} {o : am_O} {G2 : am_G} {D2 : am_D} (hdp : 7 ≤ d)   : ∀ (n : Nat)  (D : am_D) (ex0 : am_D), f_X12_sound_L57  n  D = some ex0 → (∀ ex : am_D, ex0 = ex → am_S E mX12_sound d mc ms o G2 D2 0 0 86 [(0, .ref 117)] [] am_G0 ex) → am_S E mX12_sound d mc ms o G2 D2 0 0 57 [(0, .ref 117)] [] am_G0 D
  | 0, _, _, hf, _ => by
    unfold f_X12_sound_L57 at hf
    cases hf
  | n + 1, D, ex0, hf, hk0 => by
    unfold f_X12_sound_L57 at hf
    refine am_aload_n (am_dec tmX12_sound_0 33 rfl) rfl rfl ?_
    refine am_getI (j := 5) hE (am_dec tmX12_sound_0 34 rfl) sh_117 cf12 (by decide) rfl lf_X12_126 ?_
    refine am_if_ne (tgt := 86) (am_dec tmX12_sound_0 35 rfl) (by decide) (fun c18 => ?_) (fun c18 => ?_)
    · rw [if_neg c18] at hf
      have hf := Option.some.inj hf
      subst hf
      exact am_pick [0] rfl (hk0 _ rfl)
    · rw [if_pos c18] at hf
      refine am_aload_n (am_dec tmX12_sound_0 36 rfl) rfl rfl ?_
      refine am_getI (j := 4) hE (am_dec tmX12_sound_0 37 rfl) sh_117 cf12 (by decide) rfl lf_X12_119 ?_
      refine am_aload_n (am_dec tmX12_sound_0 38 rfl) rfl rfl ?_
      refine am_getI (j := 2) hE (am_dec tmX12_sound_0 39 rfl) sh_117 cf12 (by decide) rfl lf_X12_116 ?_
      refine am_icmp_ge (tgt := 86) (am_dec tmX12_sound_0 40 rfl) (by decide) (fun c19 => ?_) (fun c19 => ?_)
      · rw [if_pos c19] at hf
        have hf := Option.some.inj hf
        subst hf
        exact am_pick [0] rfl (hk0 _ rfl)
      · rw [if_neg c19] at hf
        refine am_aload_n (am_dec tmX12_sound_0 41 rfl) rfl rfl ?_
        obtain ⟨x21, g20, hf⟩ := am_bd hf
        refine am_callV0 (As := []) (st := []) hE (am_dec tmX12_sound_0 42 rfl) ok_X12_clause rfl lm_X12_201 in_X12_clause se_X12_clause sh_117 cf12 (c_X12_clause hE g20) rfl (Nat.lt_of_lt_of_le (by decide) hdp) (Nat.le_of_ble_eq_true rfl) (Nat.zero_le _) (Nat.zero_le _) rfl ?_
        refine am_aload_n (am_dec tmX12_sound_0 43 rfl) rfl rfl ?_
        obtain ⟨x23, g22, hf⟩ := am_bd hf
        refine am_callV0 (As := []) (st := []) hE (am_dec tmX12_sound_0 44 rfl) ok_X12_blanks rfl lm_X12_132 in_X12_blanks se_X12_blanks sh_117 cf12 (c_X12_blanks hE g22) rfl (Nat.lt_of_lt_of_le (by decide) hdp) (Nat.le_of_ble_eq_true rfl) (Nat.zero_le _) (Nat.zero_le _) rfl ?_
        refine am_goto (tgt := 57) (am_dec tmX12_sound_0 45 rfl) (by decide) ?_
        exact am_pick [0] rfl (l_X12_sound_L57 hE hdp n x23 ex0 hf hk0)
set_option maxRecDepth 100000 in
set_option maxHeartbeats 4000000 in
theorem c_X12_sound {E : am_E} (hE : am_EH E) {p1 : Int32} {D : am_D} {r : (Int32 × am_D)}  (hf : f_X12_sound p1 D = some r) : am_C E mX12_sound 7 0 0 [.ref 117, .int p1] am_G0 D (.inl (some (.int r.1))) am_G0 r.2 := by
  refine am_C_of (by decide +kernel) (Nat.le_of_ble_eq_true rfl) ?_
  change am_S E mX12_sound 7 0 0 (.inl (some (.int r.1))) am_G0 r.2 0 0 0 [(0, .ref 117), (1, .int p1)] [] am_G0 D
  unfold f_X12_sound at hf
  refine am_aload_n (am_dec tmX12_sound_0 0 rfl) rfl rfl ?_
  refine am_iconst (v := (0 : Int32)) (am_dec tmX12_sound_0 1 rfl) (by decide) ?_
  obtain ⟨D1, g2, hf⟩ := am_bd hf
  refine am_putI2 (j := 0) hE (am_dec tmX12_sound_0 2 rfl) sh_117 cf12 (by decide) rfl lf_X12_110 rfl rfl rfl g2 ?_
  refine am_aload_n (am_dec tmX12_sound_0 3 rfl) rfl rfl ?_
  refine am_iload_n (am_dec tmX12_sound_0 4 rfl) rfl rfl ?_
  refine am_iconst (v := (0 : Int32)) (am_dec tmX12_sound_0 5 rfl) (by decide) ?_
  refine am_aload_n (am_dec tmX12_sound_0 6 rfl) rfl rfl ?_
  refine am_getI (j := 1) hE (am_dec tmX12_sound_0 7 rfl) sh_117 cf12 (by decide) rfl lf_X12_113 ?_
  obtain ⟨x4, g3, hf⟩ := am_bd hf
  refine am_callS1 (As := [.int p1, .int (0 : Int32), .int (D1.1 117 1)]) (st := [.ref 117]) (am_dec tmX12_sound_0 8 rfl) ok_X12_in rfl lm_X12_144 st_X12_in (c_X12_in hE g3) rfl (by decide) (Nat.le_of_ble_eq_true rfl) (Nat.zero_le _) (Nat.zero_le _) rfl ?_
  obtain ⟨w7, g38, hf⟩ := am_bd hf
  have key6 : am_S E mX12_sound 7 0 0 (.inl (some (.int r.1))) am_G0 r.2 0 0 23 [(0, .ref 117), (1, .int p1)] [.int w7, .ref 117] am_G0 D1 := by
    refine am_iconst (v := (1 : Int32)) (am_dec tmX12_sound_0 13 rfl) (by decide) ?_
    obtain ⟨x9, g8, hf⟩ := am_bd hf
    refine am_callV1 (As := [.int w7, .int (1 : Int32)]) (st := []) hE (am_dec tmX12_sound_0 14 rfl) ok_X12_bad rfl lm_X12_191 in_X12_bad se_X12_bad sh_117 cf12 (c_X12_bad hE g8) rfl (by decide) (Nat.le_of_ble_eq_true rfl) (Nat.zero_le _) (Nat.zero_le _) rfl ?_
    refine am_if_eq (tgt := 32) (am_dec tmX12_sound_0 15 rfl) (by decide) (fun c10 => ?_) (fun c10 => ?_)
    · rw [if_pos c10] at hf
      refine am_aload_n (am_dec tmX12_sound_0 18 rfl) rfl rfl ?_
      refine am_iconst (v := (0 : Int32)) (am_dec tmX12_sound_0 19 rfl) (by decide) ?_
      obtain ⟨D11, g12, hf⟩ := am_bd hf
      refine am_putI2 (j := 1) hE (am_dec tmX12_sound_0 20 rfl) sh_117 cf12 (by decide) rfl lf_X12_113 rfl rfl rfl g12 ?_
      refine am_aload_n (am_dec tmX12_sound_0 21 rfl) rfl rfl ?_
      refine am_iconst (v := (-1 : Int32)) (am_dec tmX12_sound_0 22 rfl) (by decide) ?_
      obtain ⟨D13, g14, hf⟩ := am_bd hf
      refine am_putI2 (j := 3) hE (am_dec tmX12_sound_0 23 rfl) sh_117 cf12 (by decide) rfl lf_X12_9 rfl rfl rfl g14 ?_
      refine am_aload_n (am_dec tmX12_sound_0 24 rfl) rfl rfl ?_
      refine am_getI (j := 12) hE (am_dec tmX12_sound_0 25 rfl) sh_117 cf12 (by decide) rfl lf_X12_195 ?_
      refine am_iconst (v := (5 : Int32)) (am_dec tmX12_sound_0 26 rfl) (by decide) ?_
      refine am_icmp_ne (tgt := 52) (am_dec tmX12_sound_0 27 rfl) (by decide) (fun c15 => ?_) (fun c15 => ?_)
      · rw [if_neg c15] at hf
        refine am_aload_n (am_dec tmX12_sound_0 30 rfl) rfl rfl ?_
        refine am_iload_n (am_dec tmX12_sound_0 31 rfl) rfl rfl ?_
        obtain ⟨x17, g16, hf⟩ := am_bd hf
        refine am_callV0 (As := [.int p1]) (st := []) hE (am_dec tmX12_sound_0 32 rfl) ok_X12_begins rfl lm_X12_198 in_X12_begins se_X12_begins sh_117 cf12 (c_X12_begins hE g16) rfl (by decide) (Nat.le_of_ble_eq_true rfl) (Nat.zero_le _) (Nat.zero_le _) rfl ?_
        obtain ⟨e24, g37, hf⟩ := am_bd hf
        refine am_pick [0] rfl (l_X12_sound_L57 hE (Nat.le_refl _) am_fu _ _ g37 (fun ex he => ?_))
        subst he
        refine am_aload_n (am_dec tmX12_sound_0 46 rfl) rfl rfl ?_
        refine am_getI (j := 5) hE (am_dec tmX12_sound_0 47 rfl) sh_117 cf12 (by decide) rfl lf_X12_126 ?_
        obtain ⟨w30, g36, hf⟩ := am_bd hf
        have key26 : am_S E mX12_sound 7 0 0 (.inl (some (.int r.1))) am_G0 r.2 0 0 109 [(0, .ref 117)] [] am_G0 w30 := by
          refine am_aload_n (am_dec tmX12_sound_0 57 rfl) rfl rfl ?_
          refine am_aload_n (am_dec tmX12_sound_0 58 rfl) rfl rfl ?_
          refine am_getI (j := 6) hE (am_dec tmX12_sound_0 59 rfl) sh_117 cf12 (by decide) rfl lf_X12_129 ?_
          obtain ⟨D31, g32, hf⟩ := am_bd hf
          refine am_putI2 (j := 3) hE (am_dec tmX12_sound_1 0 rfl) sh_117 cf12 (by decide) rfl lf_X12_9 rfl rfl rfl g32 ?_
          refine am_aload_n (am_dec tmX12_sound_1 1 rfl) rfl rfl ?_
          refine am_getI (j := 5) hE (am_dec tmX12_sound_1 2 rfl) sh_117 cf12 (by decide) rfl lf_X12_126 ?_
          refine am_if_eq (tgt := 134) (am_dec tmX12_sound_1 3 rfl) (by decide) (fun c33 => ?_) (fun c33 => ?_)
          · rw [if_pos c33] at hf
            refine am_aload_n (am_dec tmX12_sound_1 9 rfl) rfl rfl ?_
            refine am_aload_n (am_dec tmX12_sound_1 10 rfl) rfl rfl ?_
            refine am_getR (j := 10) hE (am_dec tmX12_sound_1 11 rfl) sh_117 cf12 (by decide) rfl lf_X12_17 rf_117_10 ?_
            refine am_aload_n (am_dec tmX12_sound_1 12 rfl) rfl rfl ?_
            refine am_getI (j := 8) hE (am_dec tmX12_sound_1 13 rfl) sh_117 cf12 (by decide) rfl lf_X12_152 ?_
            obtain ⟨x35, g34, hf⟩ := am_bd hf
            refine am_callV1 (As := [.ref 119, .int (D31.1 117 8)]) (st := []) hE (am_dec tmX12_sound_1 14 rfl) ok_X12_keeps rfl lm_X12_204 in_X12_keeps se_X12_keeps sh_117 cf12 (c_X12_keeps hE (am_shl sh_119) g34) rfl (by decide) (Nat.le_of_ble_eq_true rfl) (Nat.zero_le _) (Nat.zero_le _) rfl ?_
            have hf := Option.some.inj hf
            subst hf
            exact am_iret (am_dec tmX12_sound_1 15 rfl) rfl (Nat.zero_le _) (Nat.zero_le _)
          · rw [if_neg c33] at hf
            refine am_aload_n (am_dec tmX12_sound_1 4 rfl) rfl rfl ?_
            refine am_getI (j := 5) hE (am_dec tmX12_sound_1 5 rfl) sh_117 cf12 (by decide) rfl lf_X12_126 ?_
            refine am_bipush (v := (10 : Int32)) (am_dec tmX12_sound_1 6 rfl) (by decide) ?_
            refine am_isub (am_dec tmX12_sound_1 7 rfl) ?_
            refine am_goto (tgt := 146) (am_dec tmX12_sound_1 8 rfl) (by decide) ?_
            have hf := Option.some.inj hf
            subst hf
            exact am_iret (am_dec tmX12_sound_1 15 rfl) rfl (Nat.zero_le _) (Nat.zero_le _)
        replace hf := g36
        refine am_if_ne (tgt := 109) (am_dec tmX12_sound_0 48 rfl) (by decide) (fun c25 => ?_) (fun c25 => ?_)
        · rw [if_neg c25] at hf
          have hf := Option.some.inj hf
          subst hf
          exact am_pick [0] rfl key26
        · rw [if_pos c25] at hf
          refine am_aload_n (am_dec tmX12_sound_0 49 rfl) rfl rfl ?_
          refine am_getI (j := 8) hE (am_dec tmX12_sound_0 50 rfl) sh_117 cf12 (by decide) rfl lf_X12_152 ?_
          refine am_if_ne (tgt := 109) (am_dec tmX12_sound_0 51 rfl) (by decide) (fun c27 => ?_) (fun c27 => ?_)
          · rw [if_neg c27] at hf
            have hf := Option.some.inj hf
            subst hf
            exact am_pick [0] rfl key26
          · rw [if_pos c27] at hf
            refine am_aload_n (am_dec tmX12_sound_0 52 rfl) rfl rfl ?_
            refine am_iconst (v := (4 : Int32)) (am_dec tmX12_sound_0 53 rfl) (by decide) ?_
            refine am_aload_n (am_dec tmX12_sound_0 54 rfl) rfl rfl ?_
            refine am_getI (j := 2) hE (am_dec tmX12_sound_0 55 rfl) sh_117 cf12 (by decide) rfl lf_X12_116 ?_
            obtain ⟨x29, g28, hf⟩ := am_bd hf
            refine am_callV0 (As := [.int (4 : Int32), .int (e24.1 117 2)]) (st := []) hE (am_dec tmX12_sound_0 56 rfl) ok_X12_wrong rfl lm_X12_139 in_X12_wrong se_X12_wrong sh_117 cf12 (c_X12_wrong hE g28) rfl (by decide) (Nat.le_of_ble_eq_true rfl) (Nat.zero_le _) (Nat.zero_le _) rfl ?_
            have hf := Option.some.inj hf
            subst hf
            exact am_pick [0] rfl key26
      · rw [if_pos c15] at hf
        refine am_iconst (v := (-1 : Int32)) (am_dec tmX12_sound_0 28 rfl) (by decide) ?_
        have hf := Option.some.inj hf
        subst hf
        exact am_iret (am_dec tmX12_sound_0 29 rfl) rfl (Nat.zero_le _) (Nat.zero_le _)
    · rw [if_neg c10] at hf
      refine am_iconst (v := (0 : Int32)) (am_dec tmX12_sound_0 16 rfl) (by decide) ?_
      have hf := Option.some.inj hf
      subst hf
      exact am_iret (am_dec tmX12_sound_0 17 rfl) rfl (Nat.zero_le _) (Nat.zero_le _)
  replace hf := g38
  refine am_if_ne (tgt := 22) (am_dec tmX12_sound_0 9 rfl) (by decide) (fun c5 => ?_) (fun c5 => ?_)
  · rw [if_neg c5] at hf
    refine am_iconst (v := (0 : Int32)) (am_dec tmX12_sound_0 12 rfl) (by decide) ?_
    have hf := Option.some.inj hf
    subst hf
    exact am_pick [0, 1] rfl key6
  · rw [if_pos c5] at hf
    refine am_iconst (v := (1 : Int32)) (am_dec tmX12_sound_0 10 rfl) (by decide) ?_
    refine am_goto (tgt := 23) (am_dec tmX12_sound_0 11 rfl) (by decide) ?_
    have hf := Option.some.inj hf
    subst hf
    exact am_pick [0, 1] rfl key6
def f_X12_mark (D : am_D) : Option (am_D) :=
    (f_X12_isWord (13 : Int32) (1 : Int32) (18 : Int32) (11 : Int32) (0 : Int32) D).bind fun x2 =>
    (if x2.1 = 0 then
    (f_X12_wrong (1 : Int32) (x2.2.1 117 4) x2.2).bind fun x9 =>
    some (x9)
    else
    if (x2.2.1 117 8) = (12 : Int32) then
    (f_X12_wrong (3 : Int32) (x2.2.1 117 4) x2.2).bind fun x7 =>
    some (x7)
    else
    some (x2.2)).bind fun w10 =>
    if (w10.1 117 5) = 0 then
    (f_X12_skipWord w10).bind fun x13 =>
    (if (x13.1 117 8) = 0 then
    some ((1 : Int32))
    else
    (am_gA 12 ((x13.1 117 8) - (1 : Int32))).bind fun j16 =>
    (am_gI x13 (121 + j16) 2 (0 : Int32)).bind fun x18 =>
    some ((x18 + (1 : Int32)))).bind fun w20 =>
    (f_X12_number w20 (600 : Int32) x13).bind fun x22 =>
    (if (x22.2.1 117 8) = 0 then
    some ((1 : Int32))
    else
    (am_gA 12 ((x22.2.1 117 8) - (1 : Int32))).bind fun j25 =>
    (am_gI x22.2 (121 + j25) 2 (1 : Int32)).bind fun x27 =>
    some ((x27 + (1 : Int32)))).bind fun w29 =>
    (f_X12_number w29 (1200 : Int32) x22.2).bind fun x31 =>
    (f_X12_sign (59 : Int32) x31.2).bind fun x33 =>
    if (x33.1 117 5) = 0 then
    (am_gA 12 (x33.1 117 8)).bind fun j35 =>
    (am_pI x33 (121 + j35) 2 (0 : Int32) x22.1).bind fun D37 =>
    (am_gA 12 (D37.1 117 8)).bind fun j39 =>
    (am_pI D37 (121 + j39) 2 (1 : Int32) x31.1).bind fun D41 =>
    (some (am_wI D41 117 8 ((D41.1 117 8) + (1 : Int32)))).bind fun D43 =>
    some D43
    else
    some x33
    else
    some w10
set_option maxRecDepth 100000 in
set_option maxHeartbeats 4000000 in
theorem c_X12_mark {E : am_E} (hE : am_EH E) {D : am_D} {r : am_D}  (hf : f_X12_mark D = some r) : am_C E mX12_mark 5 0 0 [.ref 117] am_G0 D (.inl none) am_G0 r := by
  refine am_C_of (by decide +kernel) (Nat.le_of_ble_eq_true rfl) ?_
  change am_S E mX12_mark 5 0 0 (.inl none) am_G0 r 0 0 0 [(0, .ref 117)] [] am_G0 D
  unfold f_X12_mark at hf
  refine am_aload_n (am_dec tmX12_mark_0 0 rfl) rfl rfl ?_
  refine am_bipush (v := (13 : Int32)) (am_dec tmX12_mark_0 1 rfl) (by decide) ?_
  refine am_iconst (v := (1 : Int32)) (am_dec tmX12_mark_0 2 rfl) (by decide) ?_
  refine am_bipush (v := (18 : Int32)) (am_dec tmX12_mark_0 3 rfl) (by decide) ?_
  refine am_bipush (v := (11 : Int32)) (am_dec tmX12_mark_0 4 rfl) (by decide) ?_
  refine am_iconst (v := (0 : Int32)) (am_dec tmX12_mark_0 5 rfl) (by decide) ?_
  obtain ⟨x2, g1, hf⟩ := am_bd hf
  refine am_callV1 (As := [.int (13 : Int32), .int (1 : Int32), .int (18 : Int32), .int (11 : Int32), .int (0 : Int32)]) (st := []) hE (am_dec tmX12_mark_0 6 rfl) ok_X12_isWord rfl lm_X12_163 in_X12_isWord se_X12_isWord sh_117 cf12 (c_X12_isWord hE g1) rfl (by decide) (Nat.le_of_ble_eq_true rfl) (Nat.zero_le _) (Nat.zero_le _) rfl ?_
  obtain ⟨w10, g47, hf⟩ := am_bd hf
  have key4 : am_S E mX12_mark 5 0 0 (.inl none) am_G0 r 0 0 45 [(0, .ref 117)] [] am_G0 w10 := by
    refine am_aload_n (am_dec tmX12_mark_0 23 rfl) rfl rfl ?_
    refine am_getI (j := 5) hE (am_dec tmX12_mark_0 24 rfl) sh_117 cf12 (by decide) rfl lf_X12_126 ?_
    refine am_if_eq (tgt := 53) (am_dec tmX12_mark_0 25 rfl) (by decide) (fun c11 => ?_) (fun c11 => ?_)
    · rw [if_pos c11] at hf
      refine am_aload_n (am_dec tmX12_mark_0 27 rfl) rfl rfl ?_
      obtain ⟨x13, g12, hf⟩ := am_bd hf
      refine am_callV0 (As := []) (st := []) hE (am_dec tmX12_mark_0 28 rfl) ok_X12_skipWord rfl lm_X12_173 in_X12_skipWord se_X12_skipWord sh_117 cf12 (c_X12_skipWord hE g12) rfl (by decide) (Nat.le_of_ble_eq_true rfl) (Nat.zero_le _) (Nat.zero_le _) rfl ?_
      refine am_aload_n (am_dec tmX12_mark_0 29 rfl) rfl rfl ?_
      refine am_aload_n (am_dec tmX12_mark_0 30 rfl) rfl rfl ?_
      refine am_getI (j := 8) hE (am_dec tmX12_mark_0 31 rfl) sh_117 cf12 (by decide) rfl lf_X12_152 ?_
      obtain ⟨w20, g46, hf⟩ := am_bd hf
      have key15 : am_S E mX12_mark 5 0 0 (.inl none) am_G0 r 0 0 84 [(0, .ref 117)] [.int w20, .ref 117] am_G0 x13 := by
        refine am_sipush (v := (600 : Int32)) (am_dec tmX12_mark_0 46 rfl) (by decide) ?_
        obtain ⟨x22, g21, hf⟩ := am_bd hf
        refine am_callV1 (As := [.int w20, .int (600 : Int32)]) (st := []) hE (am_dec tmX12_mark_0 47 rfl) ok_X12_number rfl lm_X12_148 in_X12_number se_X12_number sh_117 cf12 (c_X12_number hE g21) rfl (by decide) (Nat.le_of_ble_eq_true rfl) (Nat.zero_le _) (Nat.zero_le _) rfl ?_
        refine am_istore_n (lv' := [(0, .ref 117), (1, .int x22.1)]) (am_dec tmX12_mark_0 48 rfl) rfl (by decide) rfl ?_
        refine am_aload_n (am_dec tmX12_mark_0 49 rfl) rfl rfl ?_
        refine am_aload_n (am_dec tmX12_mark_0 50 rfl) rfl rfl ?_
        refine am_getI (j := 8) hE (am_dec tmX12_mark_0 51 rfl) sh_117 cf12 (by decide) rfl lf_X12_152 ?_
        obtain ⟨w29, g45, hf⟩ := am_bd hf
        have key24 : am_S E mX12_mark 5 0 0 (.inl none) am_G0 r 0 0 118 [(0, .ref 117), (1, .int x22.1)] [.int w29, .ref 117] am_G0 x22.2 := by
          refine am_sipush (v := (1200 : Int32)) (am_dec tmX12_mark_1 6 rfl) (by decide) ?_
          obtain ⟨x31, g30, hf⟩ := am_bd hf
          refine am_callV1 (As := [.int w29, .int (1200 : Int32)]) (st := []) hE (am_dec tmX12_mark_1 7 rfl) ok_X12_number rfl lm_X12_148 in_X12_number se_X12_number sh_117 cf12 (c_X12_number hE g30) rfl (by decide) (Nat.le_of_ble_eq_true rfl) (Nat.zero_le _) (Nat.zero_le _) rfl ?_
          refine am_istore_n (lv' := [(0, .ref 117), (1, .int x22.1), (2, .int x31.1)]) (am_dec tmX12_mark_1 8 rfl) rfl (by decide) rfl ?_
          refine am_aload_n (am_dec tmX12_mark_1 9 rfl) rfl rfl ?_
          refine am_bipush (v := (59 : Int32)) (am_dec tmX12_mark_1 10 rfl) (by decide) ?_
          obtain ⟨x33, g32, hf⟩ := am_bd hf
          refine am_callV0 (As := [.int (59 : Int32)]) (st := []) hE (am_dec tmX12_mark_1 11 rfl) ok_X12_sign rfl lm_X12_179 in_X12_sign se_X12_sign sh_117 cf12 (c_X12_sign hE g32) rfl (by decide) (Nat.le_of_ble_eq_true rfl) (Nat.zero_le _) (Nat.zero_le _) rfl ?_
          refine am_aload_n (am_dec tmX12_mark_1 12 rfl) rfl rfl ?_
          refine am_getI (j := 5) hE (am_dec tmX12_mark_1 13 rfl) sh_117 cf12 (by decide) rfl lf_X12_126 ?_
          refine am_if_eq (tgt := 139) (am_dec tmX12_mark_1 14 rfl) (by decide) (fun c34 => ?_) (fun c34 => ?_)
          · rw [if_pos c34] at hf
            refine am_aload_n (am_dec tmX12_mark_1 16 rfl) rfl rfl ?_
            refine am_getR (j := 11) hE (am_dec tmX12_mark_1 17 rfl) sh_117 cf12 (by decide) rfl lf_X12_22 rf_117_11 ?_
            refine am_aload_n (am_dec tmX12_mark_1 18 rfl) rfl rfl ?_
            refine am_getI (j := 8) hE (am_dec tmX12_mark_1 19 rfl) sh_117 cf12 (by decide) rfl lf_X12_152 ?_
            obtain ⟨j35, g36, hf⟩ := am_bd hf
            have hj_j35 := (am_gA_lt g36).1
            refine am_aald2 (t := 6) hE (am_dec tmX12_mark_1 20 rfl) sh_120 (by decide) rfl rfl g36 (rr_120 hj_j35) ?_
            refine am_iconst (v := (0 : Int32)) (am_dec tmX12_mark_1 21 rfl) (by decide) ?_
            refine am_iload_n (am_dec tmX12_mark_1 22 rfl) rfl rfl ?_
            obtain ⟨D37, g38, hf⟩ := am_bd hf
            refine am_iast2 hE (am_dec tmX12_mark_1 23 rfl) (sa_120_0 hj_j35) g38 ?_
            refine am_aload_n (am_dec tmX12_mark_1 24 rfl) rfl rfl ?_
            refine am_getR (j := 11) hE (am_dec tmX12_mark_1 25 rfl) sh_117 cf12 (by decide) rfl lf_X12_22 rf_117_11 ?_
            refine am_aload_n (am_dec tmX12_mark_1 26 rfl) rfl rfl ?_
            refine am_getI (j := 8) hE (am_dec tmX12_mark_1 27 rfl) sh_117 cf12 (by decide) rfl lf_X12_152 ?_
            obtain ⟨j39, g40, hf⟩ := am_bd hf
            have hj_j39 := (am_gA_lt g40).1
            refine am_aald2 (t := 6) hE (am_dec tmX12_mark_1 28 rfl) sh_120 (by decide) rfl rfl g40 (rr_120 hj_j39) ?_
            refine am_iconst (v := (1 : Int32)) (am_dec tmX12_mark_1 29 rfl) (by decide) ?_
            refine am_iload_n (am_dec tmX12_mark_1 30 rfl) rfl rfl ?_
            obtain ⟨D41, g42, hf⟩ := am_bd hf
            refine am_iast2 hE (am_dec tmX12_mark_1 31 rfl) (sa_120_0 hj_j39) g42 ?_
            refine am_aload_n (am_dec tmX12_mark_1 32 rfl) rfl rfl ?_
            refine am_dup (am_dec tmX12_mark_1 33 rfl) rfl ?_
            refine am_getI (j := 8) hE (am_dec tmX12_mark_1 34 rfl) sh_117 cf12 (by decide) rfl lf_X12_152 ?_
            refine am_iconst (v := (1 : Int32)) (am_dec tmX12_mark_1 35 rfl) (by decide) ?_
            refine am_iadd (am_dec tmX12_mark_1 36 rfl) ?_
            obtain ⟨D43, g44, hf⟩ := am_bd hf
            refine am_putI2 (j := 8) hE (am_dec tmX12_mark_1 37 rfl) sh_117 cf12 (by decide) rfl lf_X12_152 rfl rfl rfl g44 ?_
            have hf := Option.some.inj hf
            subst hf
            exact am_vret (am_dec tmX12_mark_1 38 rfl) rfl (Nat.zero_le _) (Nat.zero_le _)
          · rw [if_neg c34] at hf
            have hf := Option.some.inj hf
            subst hf
            exact am_vret (am_dec tmX12_mark_1 15 rfl) rfl (Nat.zero_le _) (Nat.zero_le _)
        replace hf := g45
        refine am_if_ne (tgt := 103) (am_dec tmX12_mark_0 52 rfl) (by decide) (fun c23 => ?_) (fun c23 => ?_)
        · rw [if_neg c23] at hf
          refine am_aload_n (am_dec tmX12_mark_0 55 rfl) rfl rfl ?_
          refine am_getR (j := 11) hE (am_dec tmX12_mark_0 56 rfl) sh_117 cf12 (by decide) rfl lf_X12_22 rf_117_11 ?_
          refine am_aload_n (am_dec tmX12_mark_0 57 rfl) rfl rfl ?_
          refine am_getI (j := 8) hE (am_dec tmX12_mark_0 58 rfl) sh_117 cf12 (by decide) rfl lf_X12_152 ?_
          refine am_iconst (v := (1 : Int32)) (am_dec tmX12_mark_0 59 rfl) (by decide) ?_
          refine am_isub (am_dec tmX12_mark_1 0 rfl) ?_
          obtain ⟨j25, g26, hf⟩ := am_bd hf
          have hj_j25 := (am_gA_lt g26).1
          refine am_aald2 (t := 6) hE (am_dec tmX12_mark_1 1 rfl) sh_120 (by decide) rfl rfl g26 (rr_120 hj_j25) ?_
          refine am_iconst (v := (1 : Int32)) (am_dec tmX12_mark_1 2 rfl) (by decide) ?_
          obtain ⟨x27, g28, hf⟩ := am_bd hf
          refine am_iald2 hE (am_dec tmX12_mark_1 3 rfl) (sa_120_0 hj_j25) g28 ?_
          refine am_iconst (v := (1 : Int32)) (am_dec tmX12_mark_1 4 rfl) (by decide) ?_
          refine am_iadd (am_dec tmX12_mark_1 5 rfl) ?_
          have hf := Option.some.inj hf
          subst hf
          exact am_pick [0, 1] rfl key24
        · rw [if_pos c23] at hf
          refine am_iconst (v := (1 : Int32)) (am_dec tmX12_mark_0 53 rfl) (by decide) ?_
          refine am_goto (tgt := 118) (am_dec tmX12_mark_0 54 rfl) (by decide) ?_
          have hf := Option.some.inj hf
          subst hf
          exact am_pick [0, 1] rfl key24
      replace hf := g46
      refine am_if_ne (tgt := 69) (am_dec tmX12_mark_0 32 rfl) (by decide) (fun c14 => ?_) (fun c14 => ?_)
      · rw [if_neg c14] at hf
        refine am_aload_n (am_dec tmX12_mark_0 35 rfl) rfl rfl ?_
        refine am_getR (j := 11) hE (am_dec tmX12_mark_0 36 rfl) sh_117 cf12 (by decide) rfl lf_X12_22 rf_117_11 ?_
        refine am_aload_n (am_dec tmX12_mark_0 37 rfl) rfl rfl ?_
        refine am_getI (j := 8) hE (am_dec tmX12_mark_0 38 rfl) sh_117 cf12 (by decide) rfl lf_X12_152 ?_
        refine am_iconst (v := (1 : Int32)) (am_dec tmX12_mark_0 39 rfl) (by decide) ?_
        refine am_isub (am_dec tmX12_mark_0 40 rfl) ?_
        obtain ⟨j16, g17, hf⟩ := am_bd hf
        have hj_j16 := (am_gA_lt g17).1
        refine am_aald2 (t := 6) hE (am_dec tmX12_mark_0 41 rfl) sh_120 (by decide) rfl rfl g17 (rr_120 hj_j16) ?_
        refine am_iconst (v := (0 : Int32)) (am_dec tmX12_mark_0 42 rfl) (by decide) ?_
        obtain ⟨x18, g19, hf⟩ := am_bd hf
        refine am_iald2 hE (am_dec tmX12_mark_0 43 rfl) (sa_120_0 hj_j16) g19 ?_
        refine am_iconst (v := (1 : Int32)) (am_dec tmX12_mark_0 44 rfl) (by decide) ?_
        refine am_iadd (am_dec tmX12_mark_0 45 rfl) ?_
        have hf := Option.some.inj hf
        subst hf
        exact am_pick [0] rfl key15
      · rw [if_pos c14] at hf
        refine am_iconst (v := (1 : Int32)) (am_dec tmX12_mark_0 33 rfl) (by decide) ?_
        refine am_goto (tgt := 84) (am_dec tmX12_mark_0 34 rfl) (by decide) ?_
        have hf := Option.some.inj hf
        subst hf
        exact am_pick [0] rfl key15
    · rw [if_neg c11] at hf
      have hf := Option.some.inj hf
      subst hf
      exact am_vret (am_dec tmX12_mark_0 26 rfl) rfl (Nat.zero_le _) (Nat.zero_le _)
  replace hf := g47
  refine am_if_ne (tgt := 27) (am_dec tmX12_mark_0 7 rfl) (by decide) (fun c3 => ?_) (fun c3 => ?_)
  · rw [if_neg c3] at hf
    refine am_aload_n (am_dec tmX12_mark_0 14 rfl) rfl rfl ?_
    refine am_getI (j := 8) hE (am_dec tmX12_mark_0 15 rfl) sh_117 cf12 (by decide) rfl lf_X12_152 ?_
    refine am_bipush (v := (12 : Int32)) (am_dec tmX12_mark_0 16 rfl) (by decide) ?_
    refine am_icmp_ne (tgt := 45) (am_dec tmX12_mark_0 17 rfl) (by decide) (fun c5 => ?_) (fun c5 => ?_)
    · rw [if_neg c5] at hf
      have hf := Option.some.inj hf
      subst hf
      exact am_pick [0] rfl key4
    · rw [if_pos c5] at hf
      refine am_aload_n (am_dec tmX12_mark_0 18 rfl) rfl rfl ?_
      refine am_iconst (v := (3 : Int32)) (am_dec tmX12_mark_0 19 rfl) (by decide) ?_
      refine am_aload_n (am_dec tmX12_mark_0 20 rfl) rfl rfl ?_
      refine am_getI (j := 4) hE (am_dec tmX12_mark_0 21 rfl) sh_117 cf12 (by decide) rfl lf_X12_119 ?_
      obtain ⟨x7, g6, hf⟩ := am_bd hf
      refine am_callV0 (As := [.int (3 : Int32), .int (x2.2.1 117 4)]) (st := []) hE (am_dec tmX12_mark_0 22 rfl) ok_X12_wrong rfl lm_X12_139 in_X12_wrong se_X12_wrong sh_117 cf12 (c_X12_wrong hE g6) rfl (by decide) (Nat.le_of_ble_eq_true rfl) (Nat.zero_le _) (Nat.zero_le _) rfl ?_
      have hf := Option.some.inj hf
      subst hf
      exact am_pick [0] rfl key4
  · rw [if_pos c3] at hf
    refine am_aload_n (am_dec tmX12_mark_0 8 rfl) rfl rfl ?_
    refine am_iconst (v := (1 : Int32)) (am_dec tmX12_mark_0 9 rfl) (by decide) ?_
    refine am_aload_n (am_dec tmX12_mark_0 10 rfl) rfl rfl ?_
    refine am_getI (j := 4) hE (am_dec tmX12_mark_0 11 rfl) sh_117 cf12 (by decide) rfl lf_X12_119 ?_
    obtain ⟨x9, g8, hf⟩ := am_bd hf
    refine am_callV0 (As := [.int (1 : Int32), .int (x2.2.1 117 4)]) (st := []) hE (am_dec tmX12_mark_0 12 rfl) ok_X12_wrong rfl lm_X12_139 in_X12_wrong se_X12_wrong sh_117 cf12 (c_X12_wrong hE g8) rfl (by decide) (Nat.le_of_ble_eq_true rfl) (Nat.zero_le _) (Nat.zero_le _) rfl ?_
    refine am_goto (tgt := 45) (am_dec tmX12_mark_0 13 rfl) (by decide) ?_
    have hf := Option.some.inj hf
    subst hf
    exact am_pick [0] rfl key4
def f_X12_keepsMap_L2 (q1 : Int32) : Nat → Int32 → am_D → Option (am_D)
  | 0, _, _ => none
  | n + 1, v2, D =>
    if q1 ≤ v2 then
    some (D)
    else
    (am_gA 60 (((12 : Int32) * (D.1 117 13)) + v2)).bind fun j2 =>
    (am_gA 12 v2).bind fun j4 =>
    (am_gI D (121 + j4) 2 (0 : Int32)).bind fun x6 =>
    (am_pI D (141 + j2) 2 (0 : Int32) x6).bind fun D8 =>
    (am_gA 60 (((12 : Int32) * (D8.1 117 13)) + v2)).bind fun j10 =>
    (am_gA 12 v2).bind fun j12 =>
    (am_gI D8 (121 + j12) 2 (1 : Int32)).bind fun x14 =>
    (am_pI D8 (141 + j10) 2 (1 : Int32) x14).bind fun D16 =>
    f_X12_keepsMap_L2 q1 n (v2 + (1 : Int32)) D16
def f_X12_keepsMap (p1 : Int32) (D : am_D) : Option ((Int32 × am_D)) :=
    (f_X12_keepsMap_L2 p1 am_fu (0 : Int32) D).bind fun e18 =>
    (am_pI e18 201 5 (e18.1 117 13) p1).bind fun D19 =>
    (some (am_wI D19 117 13 ((D19.1 117 13) + (1 : Int32)))).bind fun D21 =>
    some (((D21.1 117 13) - (1 : Int32)), D21)
set_option maxRecDepth 100000 in
set_option maxHeartbeats 4000000 in
theorem l_X12_keepsMap_L2 {E : am_E} (hE : am_EH E) {d mc ms : Nat} {o : am_O} {G2 : am_G} {D2 : am_D} (hdp : 1 ≤ d) {q1 : Int32}  : ∀ (n : Nat) (v2 : Int32) (D : am_D) (ex0 : am_D), f_X12_keepsMap_L2 q1 n v2 D = some ex0 → (∀ ex : am_D, ex0 = ex → am_S E mX12_keepsMap d mc ms o G2 D2 0 0 61 [(0, .ref 117), (1, .int q1)] [] am_G0 ex) → am_S E mX12_keepsMap d mc ms o G2 D2 0 0 2 [(0, .ref 117), (1, .int q1), (2, .int v2)] [] am_G0 D
  | 0, _, _, _, hf, _ => by
    unfold f_X12_keepsMap_L2 at hf
    cases hf
  | n + 1, v2, D, ex0, hf, hk0 => by
    unfold f_X12_keepsMap_L2 at hf
    refine am_iload_n (am_dec tmX12_keepsMap 2 rfl) rfl rfl ?_
    refine am_iload_n (am_dec tmX12_keepsMap 3 rfl) rfl rfl ?_
    refine am_icmp_ge (tgt := 61) (am_dec tmX12_keepsMap 4 rfl) (by decide) (fun c1 => ?_) (fun c1 => ?_)
    · rw [if_pos c1] at hf
      have hf := Option.some.inj hf
      subst hf
      exact am_pick [0, 1] rfl (hk0 _ rfl)
    · rw [if_neg c1] at hf
      refine am_aload_n (am_dec tmX12_keepsMap 5 rfl) rfl rfl ?_
      refine am_getR (j := 26) hE (am_dec tmX12_keepsMap 6 rfl) sh_117 cf12 (by decide) rfl lf_X12_49 rf_117_26 ?_
      refine am_bipush (v := (12 : Int32)) (am_dec tmX12_keepsMap 7 rfl) (by decide) ?_
      refine am_aload_n (am_dec tmX12_keepsMap 8 rfl) rfl rfl ?_
      refine am_getI (j := 13) hE (am_dec tmX12_keepsMap 9 rfl) sh_117 cf12 (by decide) rfl lf_X12_208 ?_
      refine am_imul (am_dec tmX12_keepsMap 10 rfl) ?_
      refine am_iload_n (am_dec tmX12_keepsMap 11 rfl) rfl rfl ?_
      refine am_iadd (am_dec tmX12_keepsMap 12 rfl) ?_
      obtain ⟨j2, g3, hf⟩ := am_bd hf
      have hj_j2 := (am_gA_lt g3).1
      refine am_aald2 (t := 6) hE (am_dec tmX12_keepsMap 13 rfl) sh_140 (by decide) rfl rfl g3 (rr_140 hj_j2) ?_
      refine am_iconst (v := (0 : Int32)) (am_dec tmX12_keepsMap 14 rfl) (by decide) ?_
      refine am_aload_n (am_dec tmX12_keepsMap 15 rfl) rfl rfl ?_
      refine am_getR (j := 11) hE (am_dec tmX12_keepsMap 16 rfl) sh_117 cf12 (by decide) rfl lf_X12_22 rf_117_11 ?_
      refine am_iload_n (am_dec tmX12_keepsMap 17 rfl) rfl rfl ?_
      obtain ⟨j4, g5, hf⟩ := am_bd hf
      have hj_j4 := (am_gA_lt g5).1
      refine am_aald2 (t := 6) hE (am_dec tmX12_keepsMap 18 rfl) sh_120 (by decide) rfl rfl g5 (rr_120 hj_j4) ?_
      refine am_iconst (v := (0 : Int32)) (am_dec tmX12_keepsMap 19 rfl) (by decide) ?_
      obtain ⟨x6, g7, hf⟩ := am_bd hf
      refine am_iald2 hE (am_dec tmX12_keepsMap 20 rfl) (sa_120_0 hj_j4) g7 ?_
      obtain ⟨D8, g9, hf⟩ := am_bd hf
      refine am_iast2 hE (am_dec tmX12_keepsMap 21 rfl) (sa_140_0 hj_j2) g9 ?_
      refine am_aload_n (am_dec tmX12_keepsMap 22 rfl) rfl rfl ?_
      refine am_getR (j := 26) hE (am_dec tmX12_keepsMap 23 rfl) sh_117 cf12 (by decide) rfl lf_X12_49 rf_117_26 ?_
      refine am_bipush (v := (12 : Int32)) (am_dec tmX12_keepsMap 24 rfl) (by decide) ?_
      refine am_aload_n (am_dec tmX12_keepsMap 25 rfl) rfl rfl ?_
      refine am_getI (j := 13) hE (am_dec tmX12_keepsMap 26 rfl) sh_117 cf12 (by decide) rfl lf_X12_208 ?_
      refine am_imul (am_dec tmX12_keepsMap 27 rfl) ?_
      refine am_iload_n (am_dec tmX12_keepsMap 28 rfl) rfl rfl ?_
      refine am_iadd (am_dec tmX12_keepsMap 29 rfl) ?_
      obtain ⟨j10, g11, hf⟩ := am_bd hf
      have hj_j10 := (am_gA_lt g11).1
      refine am_aald2 (t := 6) hE (am_dec tmX12_keepsMap 30 rfl) sh_140 (by decide) rfl rfl g11 (rr_140 hj_j10) ?_
      refine am_iconst (v := (1 : Int32)) (am_dec tmX12_keepsMap 31 rfl) (by decide) ?_
      refine am_aload_n (am_dec tmX12_keepsMap 32 rfl) rfl rfl ?_
      refine am_getR (j := 11) hE (am_dec tmX12_keepsMap 33 rfl) sh_117 cf12 (by decide) rfl lf_X12_22 rf_117_11 ?_
      refine am_iload_n (am_dec tmX12_keepsMap 34 rfl) rfl rfl ?_
      obtain ⟨j12, g13, hf⟩ := am_bd hf
      have hj_j12 := (am_gA_lt g13).1
      refine am_aald2 (t := 6) hE (am_dec tmX12_keepsMap 35 rfl) sh_120 (by decide) rfl rfl g13 (rr_120 hj_j12) ?_
      refine am_iconst (v := (1 : Int32)) (am_dec tmX12_keepsMap 36 rfl) (by decide) ?_
      obtain ⟨x14, g15, hf⟩ := am_bd hf
      refine am_iald2 hE (am_dec tmX12_keepsMap 37 rfl) (sa_120_0 hj_j12) g15 ?_
      obtain ⟨D16, g17, hf⟩ := am_bd hf
      refine am_iast2 hE (am_dec tmX12_keepsMap 38 rfl) (sa_140_0 hj_j10) g17 ?_
      refine am_iinc (v := (1 : Int32)) (lv' := [(0, .ref 117), (1, .int q1), (2, .int (v2 + (1 : Int32)))]) (am_dec tmX12_keepsMap 39 rfl) rfl (by decide) (by decide) rfl ?_
      refine am_goto (tgt := 2) (am_dec tmX12_keepsMap 40 rfl) (by decide) ?_
      exact am_pick [0, 1, 2] rfl (l_X12_keepsMap_L2 hE hdp n (v2 + (1 : Int32)) D16 ex0 hf hk0)
set_option maxRecDepth 100000 in
set_option maxHeartbeats 4000000 in
theorem c_X12_keepsMap {E : am_E} (hE : am_EH E) {p1 : Int32} {D : am_D} {r : (Int32 × am_D)}  (hf : f_X12_keepsMap p1 D = some r) : am_C E mX12_keepsMap 1 0 0 [.ref 117, .int p1] am_G0 D (.inl (some (.int r.1))) am_G0 r.2 := by
  refine am_C_of (by decide +kernel) (Nat.le_of_ble_eq_true rfl) ?_
  change am_S E mX12_keepsMap 1 0 0 (.inl (some (.int r.1))) am_G0 r.2 0 0 0 [(0, .ref 117), (1, .int p1)] [] am_G0 D
  unfold f_X12_keepsMap at hf
  refine am_iconst (v := (0 : Int32)) (am_dec tmX12_keepsMap 0 rfl) (by decide) ?_
  refine am_istore_n (lv' := [(0, .ref 117), (1, .int p1), (2, .int (0 : Int32))]) (am_dec tmX12_keepsMap 1 rfl) rfl (by decide) rfl ?_
  obtain ⟨e18, g23, hf⟩ := am_bd hf
  refine am_pick [0, 1, 2] rfl (l_X12_keepsMap_L2 hE (Nat.le_refl _) am_fu _ _ _ g23 (fun ex he => ?_))
  subst he
  refine am_aload_n (am_dec tmX12_keepsMap 41 rfl) rfl rfl ?_
  refine am_getR (j := 27) hE (am_dec tmX12_keepsMap 42 rfl) sh_117 cf12 (by decide) rfl lf_X12_52 rf_117_27 ?_
  refine am_aload_n (am_dec tmX12_keepsMap 43 rfl) rfl rfl ?_
  refine am_getI (j := 13) hE (am_dec tmX12_keepsMap 44 rfl) sh_117 cf12 (by decide) rfl lf_X12_208 ?_
  refine am_iload_n (am_dec tmX12_keepsMap 45 rfl) rfl rfl ?_
  obtain ⟨D19, g20, hf⟩ := am_bd hf
  refine am_iast2 hE (am_dec tmX12_keepsMap 46 rfl) sh_201 g20 ?_
  refine am_aload_n (am_dec tmX12_keepsMap 47 rfl) rfl rfl ?_
  refine am_dup (am_dec tmX12_keepsMap 48 rfl) rfl ?_
  refine am_getI (j := 13) hE (am_dec tmX12_keepsMap 49 rfl) sh_117 cf12 (by decide) rfl lf_X12_208 ?_
  refine am_iconst (v := (1 : Int32)) (am_dec tmX12_keepsMap 50 rfl) (by decide) ?_
  refine am_iadd (am_dec tmX12_keepsMap 51 rfl) ?_
  obtain ⟨D21, g22, hf⟩ := am_bd hf
  refine am_putI2 (j := 13) hE (am_dec tmX12_keepsMap 52 rfl) sh_117 cf12 (by decide) rfl lf_X12_208 rfl rfl rfl g22 ?_
  refine am_aload_n (am_dec tmX12_keepsMap 53 rfl) rfl rfl ?_
  refine am_getI (j := 13) hE (am_dec tmX12_keepsMap 54 rfl) sh_117 cf12 (by decide) rfl lf_X12_208 ?_
  refine am_iconst (v := (1 : Int32)) (am_dec tmX12_keepsMap 55 rfl) (by decide) ?_
  refine am_isub (am_dec tmX12_keepsMap 56 rfl) ?_
  have hf := Option.some.inj hf
  subst hf
  exact am_iret (am_dec tmX12_keepsMap 57 rfl) rfl (Nat.zero_le _) (Nat.zero_le _)
def f_X12_map_L57  : Nat → am_D → Option (am_D)
  | 0, _ => none
  | n + 1, D =>
    if (D.1 117 5) = 0 then
    if (D.1 117 2) ≤ (D.1 117 4) then
    some (D)
    else
    (f_X12_mark D).bind fun x21 =>
    (f_X12_blanks x21).bind fun x23 =>
    f_X12_map_L57 n x23
    else
    some (D)
def f_X12_map (p1 : Int32) (D : am_D) : Option ((Int32 × am_D)) :=
    (some (am_wI D 117 0 (0 : Int32))).bind fun D1 =>
    (f_X12_in p1 (0 : Int32) (D1.1 117 1)).bind fun x4 =>
    (if x4 = 0 then
    some ((1 : Int32))
    else
    some ((0 : Int32))).bind fun w7 =>
    (f_X12_bad w7 (1 : Int32) D1).bind fun x9 =>
    if x9.1 = 0 then
    (some (am_wI x9.2 117 1 (0 : Int32))).bind fun D11 =>
    (some (am_wI D11 117 3 (-1 : Int32))).bind fun D13 =>
    if (D13.1 117 13) = (5 : Int32) then
    some ((-1 : Int32), D13)
    else
    (f_X12_begins p1 D13).bind fun x17 =>
    (f_X12_map_L57 am_fu x17).bind fun e24 =>
    (if (e24.1 117 5) = 0 then
    if (e24.1 117 8) = 0 then
    (f_X12_wrong (4 : Int32) (e24.1 117 2) e24).bind fun x29 =>
    some (x29)
    else
    some (e24)
    else
    some (e24)).bind fun w30 =>
    (some (am_wI w30 117 3 (w30.1 117 6))).bind fun D31 =>
    if (D31.1 117 5) = 0 then
    (f_X12_keepsMap (D31.1 117 8) D31).bind fun x35 =>
    some (x35.1, x35.2)
    else
    some (((D31.1 117 5) - (10 : Int32)), D31)
    else
    some ((0 : Int32), x9.2)
set_option maxRecDepth 100000 in
set_option maxHeartbeats 4000000 in
theorem l_X12_map_L57 {E : am_E} (hE : am_EH E) {d mc ms : Nat} {o : am_O} {G2 : am_G} {D2 : am_D} (hdp : 6 ≤ d)   : ∀ (n : Nat)  (D : am_D) (ex0 : am_D), f_X12_map_L57  n  D = some ex0 → (∀ ex : am_D, ex0 = ex → am_S E mX12_map d mc ms o G2 D2 0 0 86 [(0, .ref 117)] [] am_G0 ex) → am_S E mX12_map d mc ms o G2 D2 0 0 57 [(0, .ref 117)] [] am_G0 D
  | 0, _, _, hf, _ => by
    unfold f_X12_map_L57 at hf
    cases hf
  | n + 1, D, ex0, hf, hk0 => by
    unfold f_X12_map_L57 at hf
    refine am_aload_n (am_dec tmX12_map_0 33 rfl) rfl rfl ?_
    refine am_getI (j := 5) hE (am_dec tmX12_map_0 34 rfl) sh_117 cf12 (by decide) rfl lf_X12_126 ?_
    refine am_if_ne (tgt := 86) (am_dec tmX12_map_0 35 rfl) (by decide) (fun c18 => ?_) (fun c18 => ?_)
    · rw [if_neg c18] at hf
      have hf := Option.some.inj hf
      subst hf
      exact am_pick [0] rfl (hk0 _ rfl)
    · rw [if_pos c18] at hf
      refine am_aload_n (am_dec tmX12_map_0 36 rfl) rfl rfl ?_
      refine am_getI (j := 4) hE (am_dec tmX12_map_0 37 rfl) sh_117 cf12 (by decide) rfl lf_X12_119 ?_
      refine am_aload_n (am_dec tmX12_map_0 38 rfl) rfl rfl ?_
      refine am_getI (j := 2) hE (am_dec tmX12_map_0 39 rfl) sh_117 cf12 (by decide) rfl lf_X12_116 ?_
      refine am_icmp_ge (tgt := 86) (am_dec tmX12_map_0 40 rfl) (by decide) (fun c19 => ?_) (fun c19 => ?_)
      · rw [if_pos c19] at hf
        have hf := Option.some.inj hf
        subst hf
        exact am_pick [0] rfl (hk0 _ rfl)
      · rw [if_neg c19] at hf
        refine am_aload_n (am_dec tmX12_map_0 41 rfl) rfl rfl ?_
        obtain ⟨x21, g20, hf⟩ := am_bd hf
        refine am_callV0 (As := []) (st := []) hE (am_dec tmX12_map_0 42 rfl) ok_X12_mark rfl lm_X12_211 in_X12_mark se_X12_mark sh_117 cf12 (c_X12_mark hE g20) rfl (Nat.lt_of_lt_of_le (by decide) hdp) (Nat.le_of_ble_eq_true rfl) (Nat.zero_le _) (Nat.zero_le _) rfl ?_
        refine am_aload_n (am_dec tmX12_map_0 43 rfl) rfl rfl ?_
        obtain ⟨x23, g22, hf⟩ := am_bd hf
        refine am_callV0 (As := []) (st := []) hE (am_dec tmX12_map_0 44 rfl) ok_X12_blanks rfl lm_X12_132 in_X12_blanks se_X12_blanks sh_117 cf12 (c_X12_blanks hE g22) rfl (Nat.lt_of_lt_of_le (by decide) hdp) (Nat.le_of_ble_eq_true rfl) (Nat.zero_le _) (Nat.zero_le _) rfl ?_
        refine am_goto (tgt := 57) (am_dec tmX12_map_0 45 rfl) (by decide) ?_
        exact am_pick [0] rfl (l_X12_map_L57 hE hdp n x23 ex0 hf hk0)
set_option maxRecDepth 100000 in
set_option maxHeartbeats 4000000 in
theorem c_X12_map {E : am_E} (hE : am_EH E) {p1 : Int32} {D : am_D} {r : (Int32 × am_D)}  (hf : f_X12_map p1 D = some r) : am_C E mX12_map 6 0 0 [.ref 117, .int p1] am_G0 D (.inl (some (.int r.1))) am_G0 r.2 := by
  refine am_C_of (by decide +kernel) (Nat.le_of_ble_eq_true rfl) ?_
  change am_S E mX12_map 6 0 0 (.inl (some (.int r.1))) am_G0 r.2 0 0 0 [(0, .ref 117), (1, .int p1)] [] am_G0 D
  unfold f_X12_map at hf
  refine am_aload_n (am_dec tmX12_map_0 0 rfl) rfl rfl ?_
  refine am_iconst (v := (0 : Int32)) (am_dec tmX12_map_0 1 rfl) (by decide) ?_
  obtain ⟨D1, g2, hf⟩ := am_bd hf
  refine am_putI2 (j := 0) hE (am_dec tmX12_map_0 2 rfl) sh_117 cf12 (by decide) rfl lf_X12_110 rfl rfl rfl g2 ?_
  refine am_aload_n (am_dec tmX12_map_0 3 rfl) rfl rfl ?_
  refine am_iload_n (am_dec tmX12_map_0 4 rfl) rfl rfl ?_
  refine am_iconst (v := (0 : Int32)) (am_dec tmX12_map_0 5 rfl) (by decide) ?_
  refine am_aload_n (am_dec tmX12_map_0 6 rfl) rfl rfl ?_
  refine am_getI (j := 1) hE (am_dec tmX12_map_0 7 rfl) sh_117 cf12 (by decide) rfl lf_X12_113 ?_
  obtain ⟨x4, g3, hf⟩ := am_bd hf
  refine am_callS1 (As := [.int p1, .int (0 : Int32), .int (D1.1 117 1)]) (st := [.ref 117]) (am_dec tmX12_map_0 8 rfl) ok_X12_in rfl lm_X12_144 st_X12_in (c_X12_in hE g3) rfl (by decide) (Nat.le_of_ble_eq_true rfl) (Nat.zero_le _) (Nat.zero_le _) rfl ?_
  obtain ⟨w7, g38, hf⟩ := am_bd hf
  have key6 : am_S E mX12_map 6 0 0 (.inl (some (.int r.1))) am_G0 r.2 0 0 23 [(0, .ref 117), (1, .int p1)] [.int w7, .ref 117] am_G0 D1 := by
    refine am_iconst (v := (1 : Int32)) (am_dec tmX12_map_0 13 rfl) (by decide) ?_
    obtain ⟨x9, g8, hf⟩ := am_bd hf
    refine am_callV1 (As := [.int w7, .int (1 : Int32)]) (st := []) hE (am_dec tmX12_map_0 14 rfl) ok_X12_bad rfl lm_X12_191 in_X12_bad se_X12_bad sh_117 cf12 (c_X12_bad hE g8) rfl (by decide) (Nat.le_of_ble_eq_true rfl) (Nat.zero_le _) (Nat.zero_le _) rfl ?_
    refine am_if_eq (tgt := 32) (am_dec tmX12_map_0 15 rfl) (by decide) (fun c10 => ?_) (fun c10 => ?_)
    · rw [if_pos c10] at hf
      refine am_aload_n (am_dec tmX12_map_0 18 rfl) rfl rfl ?_
      refine am_iconst (v := (0 : Int32)) (am_dec tmX12_map_0 19 rfl) (by decide) ?_
      obtain ⟨D11, g12, hf⟩ := am_bd hf
      refine am_putI2 (j := 1) hE (am_dec tmX12_map_0 20 rfl) sh_117 cf12 (by decide) rfl lf_X12_113 rfl rfl rfl g12 ?_
      refine am_aload_n (am_dec tmX12_map_0 21 rfl) rfl rfl ?_
      refine am_iconst (v := (-1 : Int32)) (am_dec tmX12_map_0 22 rfl) (by decide) ?_
      obtain ⟨D13, g14, hf⟩ := am_bd hf
      refine am_putI2 (j := 3) hE (am_dec tmX12_map_0 23 rfl) sh_117 cf12 (by decide) rfl lf_X12_9 rfl rfl rfl g14 ?_
      refine am_aload_n (am_dec tmX12_map_0 24 rfl) rfl rfl ?_
      refine am_getI (j := 13) hE (am_dec tmX12_map_0 25 rfl) sh_117 cf12 (by decide) rfl lf_X12_208 ?_
      refine am_iconst (v := (5 : Int32)) (am_dec tmX12_map_0 26 rfl) (by decide) ?_
      refine am_icmp_ne (tgt := 52) (am_dec tmX12_map_0 27 rfl) (by decide) (fun c15 => ?_) (fun c15 => ?_)
      · rw [if_neg c15] at hf
        refine am_aload_n (am_dec tmX12_map_0 30 rfl) rfl rfl ?_
        refine am_iload_n (am_dec tmX12_map_0 31 rfl) rfl rfl ?_
        obtain ⟨x17, g16, hf⟩ := am_bd hf
        refine am_callV0 (As := [.int p1]) (st := []) hE (am_dec tmX12_map_0 32 rfl) ok_X12_begins rfl lm_X12_198 in_X12_begins se_X12_begins sh_117 cf12 (c_X12_begins hE g16) rfl (by decide) (Nat.le_of_ble_eq_true rfl) (Nat.zero_le _) (Nat.zero_le _) rfl ?_
        obtain ⟨e24, g37, hf⟩ := am_bd hf
        refine am_pick [0] rfl (l_X12_map_L57 hE (Nat.le_refl _) am_fu _ _ g37 (fun ex he => ?_))
        subst he
        refine am_aload_n (am_dec tmX12_map_0 46 rfl) rfl rfl ?_
        refine am_getI (j := 5) hE (am_dec tmX12_map_0 47 rfl) sh_117 cf12 (by decide) rfl lf_X12_126 ?_
        obtain ⟨w30, g36, hf⟩ := am_bd hf
        have key26 : am_S E mX12_map 6 0 0 (.inl (some (.int r.1))) am_G0 r.2 0 0 109 [(0, .ref 117)] [] am_G0 w30 := by
          refine am_aload_n (am_dec tmX12_map_0 57 rfl) rfl rfl ?_
          refine am_aload_n (am_dec tmX12_map_0 58 rfl) rfl rfl ?_
          refine am_getI (j := 6) hE (am_dec tmX12_map_0 59 rfl) sh_117 cf12 (by decide) rfl lf_X12_129 ?_
          obtain ⟨D31, g32, hf⟩ := am_bd hf
          refine am_putI2 (j := 3) hE (am_dec tmX12_map_1 0 rfl) sh_117 cf12 (by decide) rfl lf_X12_9 rfl rfl rfl g32 ?_
          refine am_aload_n (am_dec tmX12_map_1 1 rfl) rfl rfl ?_
          refine am_getI (j := 5) hE (am_dec tmX12_map_1 2 rfl) sh_117 cf12 (by decide) rfl lf_X12_126 ?_
          refine am_if_eq (tgt := 134) (am_dec tmX12_map_1 3 rfl) (by decide) (fun c33 => ?_) (fun c33 => ?_)
          · rw [if_pos c33] at hf
            refine am_aload_n (am_dec tmX12_map_1 9 rfl) rfl rfl ?_
            refine am_aload_n (am_dec tmX12_map_1 10 rfl) rfl rfl ?_
            refine am_getI (j := 8) hE (am_dec tmX12_map_1 11 rfl) sh_117 cf12 (by decide) rfl lf_X12_152 ?_
            obtain ⟨x35, g34, hf⟩ := am_bd hf
            refine am_callV1 (As := [.int (D31.1 117 8)]) (st := []) hE (am_dec tmX12_map_1 12 rfl) ok_X12_keepsMap rfl lm_X12_214 in_X12_keepsMap se_X12_keepsMap sh_117 cf12 (c_X12_keepsMap hE g34) rfl (by decide) (Nat.le_of_ble_eq_true rfl) (Nat.zero_le _) (Nat.zero_le _) rfl ?_
            have hf := Option.some.inj hf
            subst hf
            exact am_iret (am_dec tmX12_map_1 13 rfl) rfl (Nat.zero_le _) (Nat.zero_le _)
          · rw [if_neg c33] at hf
            refine am_aload_n (am_dec tmX12_map_1 4 rfl) rfl rfl ?_
            refine am_getI (j := 5) hE (am_dec tmX12_map_1 5 rfl) sh_117 cf12 (by decide) rfl lf_X12_126 ?_
            refine am_bipush (v := (10 : Int32)) (am_dec tmX12_map_1 6 rfl) (by decide) ?_
            refine am_isub (am_dec tmX12_map_1 7 rfl) ?_
            refine am_goto (tgt := 142) (am_dec tmX12_map_1 8 rfl) (by decide) ?_
            have hf := Option.some.inj hf
            subst hf
            exact am_iret (am_dec tmX12_map_1 13 rfl) rfl (Nat.zero_le _) (Nat.zero_le _)
        replace hf := g36
        refine am_if_ne (tgt := 109) (am_dec tmX12_map_0 48 rfl) (by decide) (fun c25 => ?_) (fun c25 => ?_)
        · rw [if_neg c25] at hf
          have hf := Option.some.inj hf
          subst hf
          exact am_pick [0] rfl key26
        · rw [if_pos c25] at hf
          refine am_aload_n (am_dec tmX12_map_0 49 rfl) rfl rfl ?_
          refine am_getI (j := 8) hE (am_dec tmX12_map_0 50 rfl) sh_117 cf12 (by decide) rfl lf_X12_152 ?_
          refine am_if_ne (tgt := 109) (am_dec tmX12_map_0 51 rfl) (by decide) (fun c27 => ?_) (fun c27 => ?_)
          · rw [if_neg c27] at hf
            have hf := Option.some.inj hf
            subst hf
            exact am_pick [0] rfl key26
          · rw [if_pos c27] at hf
            refine am_aload_n (am_dec tmX12_map_0 52 rfl) rfl rfl ?_
            refine am_iconst (v := (4 : Int32)) (am_dec tmX12_map_0 53 rfl) (by decide) ?_
            refine am_aload_n (am_dec tmX12_map_0 54 rfl) rfl rfl ?_
            refine am_getI (j := 2) hE (am_dec tmX12_map_0 55 rfl) sh_117 cf12 (by decide) rfl lf_X12_116 ?_
            obtain ⟨x29, g28, hf⟩ := am_bd hf
            refine am_callV0 (As := [.int (4 : Int32), .int (e24.1 117 2)]) (st := []) hE (am_dec tmX12_map_0 56 rfl) ok_X12_wrong rfl lm_X12_139 in_X12_wrong se_X12_wrong sh_117 cf12 (c_X12_wrong hE g28) rfl (by decide) (Nat.le_of_ble_eq_true rfl) (Nat.zero_le _) (Nat.zero_le _) rfl ?_
            have hf := Option.some.inj hf
            subst hf
            exact am_pick [0] rfl key26
      · rw [if_pos c15] at hf
        refine am_iconst (v := (-1 : Int32)) (am_dec tmX12_map_0 28 rfl) (by decide) ?_
        have hf := Option.some.inj hf
        subst hf
        exact am_iret (am_dec tmX12_map_0 29 rfl) rfl (Nat.zero_le _) (Nat.zero_le _)
    · rw [if_neg c10] at hf
      refine am_iconst (v := (0 : Int32)) (am_dec tmX12_map_0 16 rfl) (by decide) ?_
      have hf := Option.some.inj hf
      subst hf
      exact am_iret (am_dec tmX12_map_0 17 rfl) rfl (Nat.zero_le _) (Nat.zero_le _)
  replace hf := g38
  refine am_if_ne (tgt := 22) (am_dec tmX12_map_0 9 rfl) (by decide) (fun c5 => ?_) (fun c5 => ?_)
  · rw [if_neg c5] at hf
    refine am_iconst (v := (0 : Int32)) (am_dec tmX12_map_0 12 rfl) (by decide) ?_
    have hf := Option.some.inj hf
    subst hf
    exact am_pick [0, 1] rfl key6
  · rw [if_pos c5] at hf
    refine am_iconst (v := (1 : Int32)) (am_dec tmX12_map_0 10 rfl) (by decide) ?_
    refine am_goto (tgt := 23) (am_dec tmX12_map_0 11 rfl) (by decide) ?_
    have hf := Option.some.inj hf
    subst hf
    exact am_pick [0, 1] rfl key6
