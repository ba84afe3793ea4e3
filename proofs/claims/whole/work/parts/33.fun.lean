def f_X8_addNumber_L3 (q1 : Int32) : Nat → Int32 → am_D → Option (am_D)
  | 0, _, _ => none
  | n + 1, v2, D =>
    if v2 < 0 then
    some (D)
    else
    (if (D.1 69 1) < 0 then
    some (D)
    else
    if (300 : Int32) ≤ (D.1 69 1) then
    some (D)
    else
    (am_pI D 70 300 (D.1 69 1) (((q1.toUInt32 >>> (v2.toUInt32 &&& Int32.toUInt32 31)).toInt32) &&& (255 : Int32))).bind fun D5 =>
    (some (am_wI D5 69 1 ((D5.1 69 1) + (1 : Int32)))).bind fun D7 =>
    some (D7)).bind fun w9 =>
    f_X8_addNumber_L3 q1 n (v2 + (-8 : Int32)) w9
def f_X8_addNumber (p1 : Int32) (D : am_D) : Option (am_D) :=
    (f_X8_addNumber_L3 p1 am_fu (24 : Int32) D).bind fun e11 =>
    some e11
set_option maxRecDepth 100000 in
set_option maxHeartbeats 4000000 in
theorem l_X8_addNumber_L3 {E : am_E} (hE : am_EH E) {d mc ms : Nat} {o : am_O} {G2 : am_G} {D2 : am_D} (hdp : 1 ≤ d) {q1 : Int32}  : ∀ (n : Nat) (v2 : Int32) (D : am_D) (ex0 : am_D), f_X8_addNumber_L3 q1 n v2 D = some ex0 → (∀ ex : am_D, ex0 = ex → am_S E mX8_addNumber d mc ms o G2 D2 0 0 56 [] [] am_G0 ex) → am_S E mX8_addNumber d mc ms o G2 D2 0 0 3 [(0, .ref 69), (1, .int q1), (2, .int v2)] [] am_G0 D
  | 0, _, _, _, hf, _ => by
    unfold f_X8_addNumber_L3 at hf
    cases hf
  | n + 1, v2, D, ex0, hf, hk0 => by
    unfold f_X8_addNumber_L3 at hf
    refine am_iload_n (am_dec tmX8_addNumber 2 rfl) rfl rfl ?_
    refine am_if_lt (tgt := 56) (am_dec tmX8_addNumber 3 rfl) (by decide) (fun c1 => ?_) (fun c1 => ?_)
    · rw [if_pos c1] at hf
      have hf := Option.some.inj hf
      subst hf
      exact am_pick [] rfl (hk0 _ rfl)
    · rw [if_neg c1] at hf
      refine am_aload_n (am_dec tmX8_addNumber 4 rfl) rfl rfl ?_
      refine am_getI (j := 1) hE (am_dec tmX8_addNumber 5 rfl) sh_69 cf8 (by decide) rfl lf_X8_15 ?_
      obtain ⟨w9, g10, hf⟩ := am_bd hf
      have key3 : am_S E mX8_addNumber d mc ms o G2 D2 0 0 50 [(0, .ref 69), (1, .int q1), (2, .int v2)] [] am_G0 w9 := by
        refine am_iinc (v := (-8 : Int32)) (lv' := [(0, .ref 69), (1, .int q1), (2, .int (v2 + (-8 : Int32)))]) (am_dec tmX8_addNumber 27 rfl) rfl (by decide) (by decide) rfl ?_
        refine am_goto (tgt := 3) (am_dec tmX8_addNumber 28 rfl) (by decide) ?_
        exact am_pick [0, 1, 2] rfl (l_X8_addNumber_L3 hE hdp n (v2 + (-8 : Int32)) w9 ex0 hf hk0)
      replace hf := g10
      refine am_if_lt (tgt := 50) (am_dec tmX8_addNumber 6 rfl) (by decide) (fun c2 => ?_) (fun c2 => ?_)
      · rw [if_pos c2] at hf
        have hf := Option.some.inj hf
        subst hf
        exact am_pick [0, 1, 2] rfl key3
      · rw [if_neg c2] at hf
        refine am_aload_n (am_dec tmX8_addNumber 7 rfl) rfl rfl ?_
        refine am_getI (j := 1) hE (am_dec tmX8_addNumber 8 rfl) sh_69 cf8 (by decide) rfl lf_X8_15 ?_
        refine am_sipush (v := (300 : Int32)) (am_dec tmX8_addNumber 9 rfl) (by decide) ?_
        refine am_icmp_ge (tgt := 50) (am_dec tmX8_addNumber 10 rfl) (by decide) (fun c4 => ?_) (fun c4 => ?_)
        · rw [if_pos c4] at hf
          have hf := Option.some.inj hf
          subst hf
          exact am_pick [0, 1, 2] rfl key3
        · rw [if_neg c4] at hf
          refine am_aload_n (am_dec tmX8_addNumber 11 rfl) rfl rfl ?_
          refine am_getR (j := 0) hE (am_dec tmX8_addNumber 12 rfl) sh_69 cf8 (by decide) rfl lf_X8_11 rf_69_0 ?_
          refine am_aload_n (am_dec tmX8_addNumber 13 rfl) rfl rfl ?_
          refine am_getI (j := 1) hE (am_dec tmX8_addNumber 14 rfl) sh_69 cf8 (by decide) rfl lf_X8_15 ?_
          refine am_iload_n (am_dec tmX8_addNumber 15 rfl) rfl rfl ?_
          refine am_iload_n (am_dec tmX8_addNumber 16 rfl) rfl rfl ?_
          refine am_iushr (am_dec tmX8_addNumber 17 rfl) ?_
          refine am_sipush (v := (255 : Int32)) (am_dec tmX8_addNumber 18 rfl) (by decide) ?_
          refine am_iand (am_dec tmX8_addNumber 19 rfl) ?_
          obtain ⟨D5, g6, hf⟩ := am_bd hf
          refine am_iast2 hE (am_dec tmX8_addNumber 20 rfl) sh_70 g6 ?_
          refine am_aload_n (am_dec tmX8_addNumber 21 rfl) rfl rfl ?_
          refine am_dup (am_dec tmX8_addNumber 22 rfl) rfl ?_
          refine am_getI (j := 1) hE (am_dec tmX8_addNumber 23 rfl) sh_69 cf8 (by decide) rfl lf_X8_15 ?_
          refine am_iconst (v := (1 : Int32)) (am_dec tmX8_addNumber 24 rfl) (by decide) ?_
          refine am_iadd (am_dec tmX8_addNumber 25 rfl) ?_
          obtain ⟨D7, g8, hf⟩ := am_bd hf
          refine am_putI2 (j := 1) hE (am_dec tmX8_addNumber 26 rfl) sh_69 cf8 (by decide) rfl lf_X8_15 rfl rfl rfl g8 ?_
          have hf := Option.some.inj hf
          subst hf
          exact am_pick [0, 1, 2] rfl key3
set_option maxRecDepth 100000 in
set_option maxHeartbeats 4000000 in
theorem c_X8_addNumber {E : am_E} (hE : am_EH E) {p1 : Int32} {D : am_D} {r : am_D}  (hf : f_X8_addNumber p1 D = some r) : am_C E mX8_addNumber 1 0 0 [.ref 69, .int p1] am_G0 D (.inl none) am_G0 r := by
  refine am_C_of (by decide +kernel) (Nat.le_of_ble_eq_true rfl) ?_
  change am_S E mX8_addNumber 1 0 0 (.inl none) am_G0 r 0 0 0 [(0, .ref 69), (1, .int p1)] [] am_G0 D
  unfold f_X8_addNumber at hf
  refine am_bipush (v := (24 : Int32)) (am_dec tmX8_addNumber 0 rfl) (by decide) ?_
  refine am_istore_n (lv' := [(0, .ref 69), (1, .int p1), (2, .int (24 : Int32))]) (am_dec tmX8_addNumber 1 rfl) rfl (by decide) rfl ?_
  obtain ⟨e11, g12, hf⟩ := am_bd hf
  refine am_pick [0, 1, 2] rfl (l_X8_addNumber_L3 hE (Nat.le_refl _) am_fu _ _ _ g12 (fun ex he => ?_))
  subst he
  have hf := Option.some.inj hf
  subst hf
  exact am_vret (am_dec tmX8_addNumber 29 rfl) rfl (Nat.zero_le _) (Nat.zero_le _)
def f_X8_takeText (p1 : Int32) (D : am_D) : Option (am_D) :=
    (some (am_wI D 69 1 (0 : Int32))).bind fun D1 =>
    (some (am_wI D1 69 4 (0 : Int32))).bind fun D3 =>
    (f_X11_bounded p1 (0 : Int32) (300 : Int32)).bind fun x6 =>
    (some (am_wI D3 69 5 x6)).bind fun D7 =>
    (some (am_wI D7 69 2 (0 : Int32))).bind fun D9 =>
    (some (am_wI D9 69 3 (0 : Int32))).bind fun D11 =>
    some D11
set_option maxRecDepth 100000 in
set_option maxHeartbeats 4000000 in
theorem c_X8_takeText {E : am_E} (hE : am_EH E) {p1 : Int32} {D : am_D} {r : am_D}  (hf : f_X8_takeText p1 D = some r) : am_C E mX8_takeText 2 0 0 [.ref 69, .int p1] am_G0 D (.inl none) am_G0 r := by
  refine am_C_of (by decide +kernel) (Nat.le_of_ble_eq_true rfl) ?_
  change am_S E mX8_takeText 2 0 0 (.inl none) am_G0 r 0 0 0 [(0, .ref 69), (1, .int p1)] [] am_G0 D
  unfold f_X8_takeText at hf
  refine am_aload_n (am_dec tmX8_takeText 0 rfl) rfl rfl ?_
  refine am_iconst (v := (0 : Int32)) (am_dec tmX8_takeText 1 rfl) (by decide) ?_
  obtain ⟨D1, g2, hf⟩ := am_bd hf
  refine am_putI2 (j := 1) hE (am_dec tmX8_takeText 2 rfl) sh_69 cf8 (by decide) rfl lf_X8_15 rfl rfl rfl g2 ?_
  refine am_aload_n (am_dec tmX8_takeText 3 rfl) rfl rfl ?_
  refine am_iconst (v := (0 : Int32)) (am_dec tmX8_takeText 4 rfl) (by decide) ?_
  obtain ⟨D3, g4, hf⟩ := am_bd hf
  refine am_putI2 (j := 4) hE (am_dec tmX8_takeText 5 rfl) sh_69 cf8 (by decide) rfl lf_X8_19 rfl rfl rfl g4 ?_
  refine am_aload_n (am_dec tmX8_takeText 6 rfl) rfl rfl ?_
  refine am_iload_n (am_dec tmX8_takeText 7 rfl) rfl rfl ?_
  refine am_iconst (v := (0 : Int32)) (am_dec tmX8_takeText 8 rfl) (by decide) ?_
  refine am_sipush (v := (300 : Int32)) (am_dec tmX8_takeText 9 rfl) (by decide) ?_
  obtain ⟨x6, g5, hf⟩ := am_bd hf
  refine am_callSN1 (As := [.int p1, .int (0 : Int32), .int (300 : Int32)]) (st := [.ref 69]) hE (am_dec tmX8_takeText 10 rfl) ok_X11_bounded rfl lm_X8_22 st_X11_bounded (c_X11_bounded hE g5) rfl (by decide) (Nat.le_of_ble_eq_true rfl) (Nat.zero_le _) (Nat.zero_le _) rfl ?_
  obtain ⟨D7, g8, hf⟩ := am_bd hf
  refine am_putI2 (j := 5) hE (am_dec tmX8_takeText 11 rfl) sh_69 cf8 (by decide) rfl lf_X8_26 rfl rfl rfl g8 ?_
  refine am_aload_n (am_dec tmX8_takeText 12 rfl) rfl rfl ?_
  refine am_iconst (v := (0 : Int32)) (am_dec tmX8_takeText 13 rfl) (by decide) ?_
  obtain ⟨D9, g10, hf⟩ := am_bd hf
  refine am_putI2 (j := 2) hE (am_dec tmX8_takeText 14 rfl) sh_69 cf8 (by decide) rfl lf_X8_29 rfl rfl rfl g10 ?_
  refine am_aload_n (am_dec tmX8_takeText 15 rfl) rfl rfl ?_
  refine am_iconst (v := (0 : Int32)) (am_dec tmX8_takeText 16 rfl) (by decide) ?_
  obtain ⟨D11, g12, hf⟩ := am_bd hf
  refine am_putI2 (j := 3) hE (am_dec tmX8_takeText 17 rfl) sh_69 cf8 (by decide) rfl lf_X8_32 rfl rfl rfl g12 ?_
  have hf := Option.some.inj hf
  subst hf
  exact am_vret (am_dec tmX8_takeText 18 rfl) rfl (Nat.zero_le _) (Nat.zero_le _)
def f_X8_fail (p1 : Int32) (p2 : Int32) (D : am_D) : Option (am_D) :=
    if (D.1 69 2) = 0 then
    (some (am_wI D 69 2 p1)).bind fun D2 =>
    (some (am_wI D2 69 3 p2)).bind fun D4 =>
    some D4
    else
    some D
set_option maxRecDepth 100000 in
set_option maxHeartbeats 4000000 in
theorem c_X8_fail {E : am_E} (hE : am_EH E) {p1 : Int32} {p2 : Int32} {D : am_D} {r : am_D}  (hf : f_X8_fail p1 p2 D = some r) : am_C E mX8_fail 1 0 0 [.ref 69, .int p1, .int p2] am_G0 D (.inl none) am_G0 r := by
  refine am_C_of (by decide +kernel) (Nat.le_of_ble_eq_true rfl) ?_
  change am_S E mX8_fail 1 0 0 (.inl none) am_G0 r 0 0 0 [(0, .ref 69), (1, .int p1), (2, .int p2)] [] am_G0 D
  unfold f_X8_fail at hf
  refine am_aload_n (am_dec tmX8_fail 0 rfl) rfl rfl ?_
  refine am_getI (j := 2) hE (am_dec tmX8_fail 1 rfl) sh_69 cf8 (by decide) rfl lf_X8_29 ?_
  refine am_if_ne (tgt := 17) (am_dec tmX8_fail 2 rfl) (by decide) (fun c1 => ?_) (fun c1 => ?_)
  · rw [if_neg c1] at hf
    have hf := Option.some.inj hf
    subst hf
    exact am_vret (am_dec tmX8_fail 9 rfl) rfl (Nat.zero_le _) (Nat.zero_le _)
  · rw [if_pos c1] at hf
    refine am_aload_n (am_dec tmX8_fail 3 rfl) rfl rfl ?_
    refine am_iload_n (am_dec tmX8_fail 4 rfl) rfl rfl ?_
    obtain ⟨D2, g3, hf⟩ := am_bd hf
    refine am_putI2 (j := 2) hE (am_dec tmX8_fail 5 rfl) sh_69 cf8 (by decide) rfl lf_X8_29 rfl rfl rfl g3 ?_
    refine am_aload_n (am_dec tmX8_fail 6 rfl) rfl rfl ?_
    refine am_iload_n (am_dec tmX8_fail 7 rfl) rfl rfl ?_
    obtain ⟨D4, g5, hf⟩ := am_bd hf
    refine am_putI2 (j := 3) hE (am_dec tmX8_fail 8 rfl) sh_69 cf8 (by decide) rfl lf_X8_32 rfl rfl rfl g5 ?_
    have hf := Option.some.inj hf
    subst hf
    exact am_vret (am_dec tmX8_fail 9 rfl) rfl (Nat.zero_le _) (Nat.zero_le _)
def f_X8_byteAt (p1 : Int32) (D : am_D) : Option (Int32) :=
    if p1 < 0 then
    some (-1 : Int32)
    else
    if (D.1 69 5) ≤ p1 then
    some (-1 : Int32)
    else
    if (300 : Int32) ≤ p1 then
    some (-1 : Int32)
    else
    (am_gI D 70 300 p1).bind fun x4 =>
    some x4
set_option maxRecDepth 100000 in
set_option maxHeartbeats 4000000 in
theorem c_X8_byteAt {E : am_E} (hE : am_EH E) {p1 : Int32} {D : am_D} {r : Int32}  (hf : f_X8_byteAt p1 D = some r) : am_C E mX8_byteAt 1 0 0 [.ref 69, .int p1] am_G0 D (.inl (some (.int r))) am_G0 D := by
  refine am_C_of (by decide +kernel) (Nat.le_of_ble_eq_true rfl) ?_
  change am_S E mX8_byteAt 1 0 0 (.inl (some (.int r))) am_G0 D 0 0 0 [(0, .ref 69), (1, .int p1)] [] am_G0 D
  unfold f_X8_byteAt at hf
  refine am_iload_n (am_dec tmX8_byteAt 0 rfl) rfl rfl ?_
  refine am_if_lt (tgt := 28) (am_dec tmX8_byteAt 1 rfl) (by decide) (fun c1 => ?_) (fun c1 => ?_)
  · rw [if_pos c1] at hf
    refine am_iconst (v := (-1 : Int32)) (am_dec tmX8_byteAt 14 rfl) (by decide) ?_
    have hf := Option.some.inj hf
    subst hf
    exact am_iret (am_dec tmX8_byteAt 15 rfl) rfl (Nat.zero_le _) (Nat.zero_le _)
  · rw [if_neg c1] at hf
    refine am_iload_n (am_dec tmX8_byteAt 2 rfl) rfl rfl ?_
    refine am_aload_n (am_dec tmX8_byteAt 3 rfl) rfl rfl ?_
    refine am_getI (j := 5) hE (am_dec tmX8_byteAt 4 rfl) sh_69 cf8 (by decide) rfl lf_X8_26 ?_
    refine am_icmp_ge (tgt := 28) (am_dec tmX8_byteAt 5 rfl) (by decide) (fun c2 => ?_) (fun c2 => ?_)
    · rw [if_pos c2] at hf
      refine am_iconst (v := (-1 : Int32)) (am_dec tmX8_byteAt 14 rfl) (by decide) ?_
      have hf := Option.some.inj hf
      subst hf
      exact am_iret (am_dec tmX8_byteAt 15 rfl) rfl (Nat.zero_le _) (Nat.zero_le _)
    · rw [if_neg c2] at hf
      refine am_iload_n (am_dec tmX8_byteAt 6 rfl) rfl rfl ?_
      refine am_sipush (v := (300 : Int32)) (am_dec tmX8_byteAt 7 rfl) (by decide) ?_
      refine am_icmp_ge (tgt := 28) (am_dec tmX8_byteAt 8 rfl) (by decide) (fun c3 => ?_) (fun c3 => ?_)
      · rw [if_pos c3] at hf
        refine am_iconst (v := (-1 : Int32)) (am_dec tmX8_byteAt 14 rfl) (by decide) ?_
        have hf := Option.some.inj hf
        subst hf
        exact am_iret (am_dec tmX8_byteAt 15 rfl) rfl (Nat.zero_le _) (Nat.zero_le _)
      · rw [if_neg c3] at hf
        refine am_aload_n (am_dec tmX8_byteAt 9 rfl) rfl rfl ?_
        refine am_getR (j := 0) hE (am_dec tmX8_byteAt 10 rfl) sh_69 cf8 (by decide) rfl lf_X8_11 rf_69_0 ?_
        refine am_iload_n (am_dec tmX8_byteAt 11 rfl) rfl rfl ?_
        obtain ⟨x4, g5, hf⟩ := am_bd hf
        refine am_iald2 hE (am_dec tmX8_byteAt 12 rfl) sh_70 g5 ?_
        refine am_goto (tgt := 29) (am_dec tmX8_byteAt 13 rfl) (by decide) ?_
        have hf := Option.some.inj hf
        subst hf
        exact am_iret (am_dec tmX8_byteAt 15 rfl) rfl (Nat.zero_le _) (Nat.zero_le _)
def f_X8_skipBlanks_L0  : Nat → am_D → Option (am_D)
  | 0, _ => none
  | n + 1, D =>
    if (D.1 69 5) ≤ (D.1 69 4) then
    some (D)
    else
    (f_X8_byteAt (D.1 69 4) D).bind fun x3 =>
    if x3 = (32 : Int32) then
    (some (am_wI D 69 4 ((D.1 69 4) + (1 : Int32)))).bind fun D5 =>
    f_X8_skipBlanks_L0 n D5
    else
    some (D)
def f_X8_skipBlanks (D : am_D) : Option (am_D) :=
    (f_X8_skipBlanks_L0 am_fu D).bind fun e7 =>
    some e7
set_option maxRecDepth 100000 in
set_option maxHeartbeats 4000000 in
theorem l_X8_skipBlanks_L0 {E : am_E} (hE : am_EH E) {d mc ms : Nat} {o : am_O} {G2 : am_G} {D2 : am_D} (hdp : 2 ≤ d)   : ∀ (n : Nat)  (D : am_D) (ex0 : am_D), f_X8_skipBlanks_L0  n  D = some ex0 → (∀ ex : am_D, ex0 = ex → am_S E mX8_skipBlanks d mc ms o G2 D2 0 0 37 [] [] am_G0 ex) → am_S E mX8_skipBlanks d mc ms o G2 D2 0 0 0 [(0, .ref 69)] [] am_G0 D
  | 0, _, _, hf, _ => by
    unfold f_X8_skipBlanks_L0 at hf
    cases hf
  | n + 1, D, ex0, hf, hk0 => by
    unfold f_X8_skipBlanks_L0 at hf
    refine am_aload_n (am_dec tmX8_skipBlanks 0 rfl) rfl rfl ?_
    refine am_getI (j := 4) hE (am_dec tmX8_skipBlanks 1 rfl) sh_69 cf8 (by decide) rfl lf_X8_19 ?_
    refine am_aload_n (am_dec tmX8_skipBlanks 2 rfl) rfl rfl ?_
    refine am_getI (j := 5) hE (am_dec tmX8_skipBlanks 3 rfl) sh_69 cf8 (by decide) rfl lf_X8_26 ?_
    refine am_icmp_ge (tgt := 37) (am_dec tmX8_skipBlanks 4 rfl) (by decide) (fun c1 => ?_) (fun c1 => ?_)
    · rw [if_pos c1] at hf
      have hf := Option.some.inj hf
      subst hf
      exact am_pick [] rfl (hk0 _ rfl)
    · rw [if_neg c1] at hf
      refine am_aload_n (am_dec tmX8_skipBlanks 5 rfl) rfl rfl ?_
      refine am_aload_n (am_dec tmX8_skipBlanks 6 rfl) rfl rfl ?_
      refine am_getI (j := 4) hE (am_dec tmX8_skipBlanks 7 rfl) sh_69 cf8 (by decide) rfl lf_X8_19 ?_
      obtain ⟨x3, g2, hf⟩ := am_bd hf
      refine am_callV1 (As := [.int (D.1 69 4)]) (st := []) hE (am_dec tmX8_skipBlanks 8 rfl) ok_X8_byteAt rfl lm_X8_122 in_X8_byteAt se_X8_byteAt sh_69 cf8 (c_X8_byteAt hE g2) rfl (Nat.lt_of_lt_of_le (by decide) hdp) (Nat.le_of_ble_eq_true rfl) (Nat.zero_le _) (Nat.zero_le _) rfl ?_
      refine am_bipush (v := (32 : Int32)) (am_dec tmX8_skipBlanks 9 rfl) (by decide) ?_
      refine am_icmp_ne (tgt := 37) (am_dec tmX8_skipBlanks 10 rfl) (by decide) (fun c4 => ?_) (fun c4 => ?_)
      · rw [if_neg c4] at hf
        have hf := Option.some.inj hf
        subst hf
        exact am_pick [] rfl (hk0 _ rfl)
      · rw [if_pos c4] at hf
        refine am_aload_n (am_dec tmX8_skipBlanks 11 rfl) rfl rfl ?_
        refine am_dup (am_dec tmX8_skipBlanks 12 rfl) rfl ?_
        refine am_getI (j := 4) hE (am_dec tmX8_skipBlanks 13 rfl) sh_69 cf8 (by decide) rfl lf_X8_19 ?_
        refine am_iconst (v := (1 : Int32)) (am_dec tmX8_skipBlanks 14 rfl) (by decide) ?_
        refine am_iadd (am_dec tmX8_skipBlanks 15 rfl) ?_
        obtain ⟨D5, g6, hf⟩ := am_bd hf
        refine am_putI2 (j := 4) hE (am_dec tmX8_skipBlanks 16 rfl) sh_69 cf8 (by decide) rfl lf_X8_19 rfl rfl rfl g6 ?_
        refine am_goto (tgt := 0) (am_dec tmX8_skipBlanks 17 rfl) (by decide) ?_
        exact am_pick [0] rfl (l_X8_skipBlanks_L0 hE hdp n D5 ex0 hf hk0)
set_option maxRecDepth 100000 in
set_option maxHeartbeats 4000000 in
theorem c_X8_skipBlanks {E : am_E} (hE : am_EH E) {D : am_D} {r : am_D}  (hf : f_X8_skipBlanks D = some r) : am_C E mX8_skipBlanks 2 0 0 [.ref 69] am_G0 D (.inl none) am_G0 r := by
  refine am_C_of (by decide +kernel) (Nat.le_of_ble_eq_true rfl) ?_
  change am_S E mX8_skipBlanks 2 0 0 (.inl none) am_G0 r 0 0 0 [(0, .ref 69)] [] am_G0 D
  unfold f_X8_skipBlanks at hf
  obtain ⟨e7, g8, hf⟩ := am_bd hf
  refine am_pick [0] rfl (l_X8_skipBlanks_L0 hE (Nat.le_refl _) am_fu _ _ g8 (fun ex he => ?_))
  subst he
  have hf := Option.some.inj hf
  subst hf
  exact am_vret (am_dec tmX8_skipBlanks 18 rfl) rfl (Nat.zero_le _) (Nat.zero_le _)
def f_X8_moreComes (D : am_D) : Option ((Int32 × am_D)) :=
    (f_X8_skipBlanks D).bind fun x2 =>
    if (x2.1 69 2) = 0 then
    if (x2.1 69 5) ≤ (x2.1 69 4) then
    some ((0 : Int32), x2)
    else
    some ((1 : Int32), x2)
    else
    some ((0 : Int32), x2)
set_option maxRecDepth 100000 in
set_option maxHeartbeats 4000000 in
theorem c_X8_moreComes {E : am_E} (hE : am_EH E) {D : am_D} {r : (Int32 × am_D)}  (hf : f_X8_moreComes D = some r) : am_C E mX8_moreComes 3 0 0 [.ref 69] am_G0 D (.inl (some (.int r.1))) am_G0 r.2 := by
  refine am_C_of (by decide +kernel) (Nat.le_of_ble_eq_true rfl) ?_
  change am_S E mX8_moreComes 3 0 0 (.inl (some (.int r.1))) am_G0 r.2 0 0 0 [(0, .ref 69)] [] am_G0 D
  unfold f_X8_moreComes at hf
  refine am_aload_n (am_dec tmX8_moreComes 0 rfl) rfl rfl ?_
  obtain ⟨x2, g1, hf⟩ := am_bd hf
  refine am_callV0 (As := []) (st := []) hE (am_dec tmX8_moreComes 1 rfl) ok_X8_skipBlanks rfl lm_X8_130 in_X8_skipBlanks se_X8_skipBlanks sh_69 cf8 (c_X8_skipBlanks hE g1) rfl (by decide) (Nat.le_of_ble_eq_true rfl) (Nat.zero_le _) (Nat.zero_le _) rfl ?_
  refine am_aload_n (am_dec tmX8_moreComes 2 rfl) rfl rfl ?_
  refine am_getI (j := 2) hE (am_dec tmX8_moreComes 3 rfl) sh_69 cf8 (by decide) rfl lf_X8_29 ?_
  refine am_if_ne (tgt := 26) (am_dec tmX8_moreComes 4 rfl) (by decide) (fun c3 => ?_) (fun c3 => ?_)
  · rw [if_neg c3] at hf
    refine am_iconst (v := (0 : Int32)) (am_dec tmX8_moreComes 12 rfl) (by decide) ?_
    have hf := Option.some.inj hf
    subst hf
    exact am_zret (am_dec tmX8_moreComes 13 rfl) rfl am_z0 (Nat.zero_le _) (Nat.zero_le _)
  · rw [if_pos c3] at hf
    refine am_aload_n (am_dec tmX8_moreComes 5 rfl) rfl rfl ?_
    refine am_getI (j := 4) hE (am_dec tmX8_moreComes 6 rfl) sh_69 cf8 (by decide) rfl lf_X8_19 ?_
    refine am_aload_n (am_dec tmX8_moreComes 7 rfl) rfl rfl ?_
    refine am_getI (j := 5) hE (am_dec tmX8_moreComes 8 rfl) sh_69 cf8 (by decide) rfl lf_X8_26 ?_
    refine am_icmp_ge (tgt := 26) (am_dec tmX8_moreComes 9 rfl) (by decide) (fun c4 => ?_) (fun c4 => ?_)
    · rw [if_pos c4] at hf
      refine am_iconst (v := (0 : Int32)) (am_dec tmX8_moreComes 12 rfl) (by decide) ?_
      have hf := Option.some.inj hf
      subst hf
      exact am_zret (am_dec tmX8_moreComes 13 rfl) rfl am_z0 (Nat.zero_le _) (Nat.zero_le _)
    · rw [if_neg c4] at hf
      refine am_iconst (v := (1 : Int32)) (am_dec tmX8_moreComes 10 rfl) (by decide) ?_
      refine am_goto (tgt := 27) (am_dec tmX8_moreComes 11 rfl) (by decide) ?_
      have hf := Option.some.inj hf
      subst hf
      exact am_zret (am_dec tmX8_moreComes 13 rfl) rfl am_z1 (Nat.zero_le _) (Nat.zero_le _)
theorem z_X8_moreComes {D : am_D} {r : (Int32 × am_D)} (hf : f_X8_moreComes D = some r) : narrow .boolean (.int r.1) = .int r.1 := by
  unfold f_X8_moreComes at hf
  obtain ⟨x2, g1, hf⟩ := am_bd hf
  by_cases c3 : (x2.1 69 2) = 0
  · rw [if_pos c3] at hf
    by_cases c4 : (x2.1 69 5) ≤ (x2.1 69 4)
    · rw [if_pos c4] at hf
      have hf := Option.some.inj hf
      subst hf
      exact am_z0
    · rw [if_neg c4] at hf
      have hf := Option.some.inj hf
      subst hf
      exact am_z1
  · rw [if_neg c3] at hf
    have hf := Option.some.inj hf
    subst hf
    exact am_z0
def f_X8_isWord_L20 (q1 : Nat) (D : am_D) : Nat → Int32 → Option (Unit ⊕ Unit)
  | 0, _ => none
  | n + 1, v2 =>
    if (am_wl q1) ≤ v2 then
    some (.inr ())
    else
    (f_X8_byteAt ((D.1 69 6) + v2) D).bind fun x4 =>
    (am_wc q1 v2).bind fun x5 =>
    if x4 = x5 then
    f_X8_isWord_L20 q1 D n (v2 + (1 : Int32))
    else
    some (.inl ())
def f_X8_isWord (p1 : Nat) (D : am_D) : Option (Int32) :=
    if ((D.1 69 4) - (D.1 69 6)) = (am_wl p1) then
    am_b2 (f_X8_isWord_L20 p1 D am_fu (0 : Int32))
    (fun e8 =>
    some (0 : Int32))
    (fun e9 =>
    some (1 : Int32))
    else
    some (0 : Int32)
set_option maxRecDepth 100000 in
set_option maxHeartbeats 4000000 in
theorem l_X8_isWord_L20 {E : am_E} (hE : am_EH E) {d mc ms : Nat} {o : am_O} {G2 : am_G} {D2 : am_D} (hdp : 7 ≤ d) {q1 : Nat} {D : am_D} (h_q1 : 1 ≤ q1 ∧ q1 ≤ 6) : ∀ (n : Nat) (v2 : Int32) (ex0 : Unit ⊕ Unit), f_X8_isWord_L20 q1 D n v2 = some ex0 → (∀ ex : Unit, ex0 = .inl ex → am_S E mX8_isWord d mc ms o G2 D2 0 0 46 [] [] am_G0 D) → (∀ ex : Unit, ex0 = .inr ex → am_S E mX8_isWord d mc ms o G2 D2 0 0 54 [] [] am_G0 D) → am_S E mX8_isWord d mc ms o G2 D2 0 0 20 [(0, .ref 69), (1, .ref q1), (2, .int v2)] [] am_G0 D
  | 0, _, _, hf, _, _ => by
    unfold f_X8_isWord_L20 at hf
    cases hf
  | n + 1, v2, ex0, hf, hk0, hk1 => by
    unfold f_X8_isWord_L20 at hf
    refine am_iload_n (am_dec tmX8_isWord 12 rfl) rfl rfl ?_
    refine am_aload_n (am_dec tmX8_isWord 13 rfl) rfl rfl ?_
    refine am_strlen hE (am_dec tmX8_isWord 14 rfl) lm_X8_137 h_q1 (Nat.le_trans (by decide : 6 ≤ _) hdp) (Nat.le_of_ble_eq_true rfl) (Nat.zero_le _) (Nat.zero_le _) ?_
    refine am_icmp_ge (tgt := 54) (am_dec tmX8_isWord 15 rfl) (by decide) (fun c2 => ?_) (fun c2 => ?_)
    · rw [if_pos c2] at hf
      have hf := Option.some.inj hf
      subst hf
      exact am_pick [] rfl (hk1 _ rfl)
    · rw [if_neg c2] at hf
      refine am_aload_n (am_dec tmX8_isWord 16 rfl) rfl rfl ?_
      refine am_aload_n (am_dec tmX8_isWord 17 rfl) rfl rfl ?_
      refine am_getI (j := 6) hE (am_dec tmX8_isWord 18 rfl) sh_69 cf8 (by decide) rfl lf_X8_71 ?_
      refine am_iload_n (am_dec tmX8_isWord 19 rfl) rfl rfl ?_
      refine am_iadd (am_dec tmX8_isWord 20 rfl) ?_
      obtain ⟨x4, g3, hf⟩ := am_bd hf
      refine am_callV1 (As := [.int ((D.1 69 6) + v2)]) (st := []) hE (am_dec tmX8_isWord 21 rfl) ok_X8_byteAt rfl lm_X8_122 in_X8_byteAt se_X8_byteAt sh_69 cf8 (c_X8_byteAt hE g3) rfl (Nat.lt_of_lt_of_le (by decide) hdp) (Nat.le_of_ble_eq_true rfl) (Nat.zero_le _) (Nat.zero_le _) rfl ?_
      refine am_aload_n (am_dec tmX8_isWord 22 rfl) rfl rfl ?_
      refine am_iload_n (am_dec tmX8_isWord 23 rfl) rfl rfl ?_
      obtain ⟨x5, g6, hf⟩ := am_bd hf
      refine am_charAt hE (am_dec tmX8_isWord 24 rfl) lm_X8_142 h_q1 g6 (Nat.le_trans (by decide : 6 ≤ _) hdp) (Nat.le_of_ble_eq_true rfl) (Nat.zero_le _) (Nat.zero_le _) ?_
      refine am_icmp_eq (tgt := 48) (am_dec tmX8_isWord 25 rfl) (by decide) (fun c7 => ?_) (fun c7 => ?_)
      · rw [if_pos c7] at hf
        refine am_iinc (v := (1 : Int32)) (lv' := [(0, .ref 69), (1, .ref q1), (2, .int (v2 + (1 : Int32)))]) (am_dec tmX8_isWord 28 rfl) rfl (by decide) (by decide) rfl ?_
        refine am_goto (tgt := 20) (am_dec tmX8_isWord 29 rfl) (by decide) ?_
        exact am_pick [0, 1, 2] rfl (l_X8_isWord_L20 hE hdp h_q1 n (v2 + (1 : Int32)) ex0 hf hk0 hk1)
      · rw [if_neg c7] at hf
        have hf := Option.some.inj hf
        subst hf
        exact am_pick [] rfl (hk0 _ rfl)
set_option maxRecDepth 100000 in
set_option maxHeartbeats 4000000 in
theorem c_X8_isWord {E : am_E} (hE : am_EH E) {p1 : Nat} {D : am_D} {r : Int32} (h_p1 : 1 ≤ p1 ∧ p1 ≤ 6) (hf : f_X8_isWord p1 D = some r) : am_C E mX8_isWord 7 0 0 [.ref 69, .ref p1] am_G0 D (.inl (some (.int r))) am_G0 D := by
  refine am_C_of (by decide +kernel) (Nat.le_of_ble_eq_true rfl) ?_
  change am_S E mX8_isWord 7 0 0 (.inl (some (.int r))) am_G0 D 0 0 0 [(0, .ref 69), (1, .ref p1)] [] am_G0 D
  unfold f_X8_isWord at hf
  refine am_aload_n (am_dec tmX8_isWord 0 rfl) rfl rfl ?_
  refine am_getI (j := 4) hE (am_dec tmX8_isWord 1 rfl) sh_69 cf8 (by decide) rfl lf_X8_19 ?_
  refine am_aload_n (am_dec tmX8_isWord 2 rfl) rfl rfl ?_
  refine am_getI (j := 6) hE (am_dec tmX8_isWord 3 rfl) sh_69 cf8 (by decide) rfl lf_X8_71 ?_
  refine am_isub (am_dec tmX8_isWord 4 rfl) ?_
  refine am_aload_n (am_dec tmX8_isWord 5 rfl) rfl rfl ?_
  refine am_strlen hE (am_dec tmX8_isWord 6 rfl) lm_X8_137 h_p1 (by decide) (Nat.le_of_ble_eq_true rfl) (Nat.zero_le _) (Nat.zero_le _) ?_
  refine am_icmp_eq (tgt := 18) (am_dec tmX8_isWord 7 rfl) (by decide) (fun c1 => ?_) (fun c1 => ?_)
  · rw [if_pos c1] at hf
    refine am_iconst (v := (0 : Int32)) (am_dec tmX8_isWord 10 rfl) (by decide) ?_
    refine am_istore_n (lv' := [(0, .ref 69), (1, .ref p1), (2, .int (0 : Int32))]) (am_dec tmX8_isWord 11 rfl) rfl (by decide) rfl ?_
    rcases am_b2d hf with ⟨e8, g10, hf⟩ | ⟨e9, g10, hf⟩
    · refine am_pick [0, 1, 2] rfl (l_X8_isWord_L20 hE (Nat.le_refl _) h_p1 am_fu _ _ g10 (fun ex he => ?_) (fun ex he => by cases he))
      cases he
      refine am_iconst (v := (0 : Int32)) (am_dec tmX8_isWord 26 rfl) (by decide) ?_
      have hf := Option.some.inj hf
      subst hf
      exact am_zret (am_dec tmX8_isWord 27 rfl) rfl am_z0 (Nat.zero_le _) (Nat.zero_le _)
    · refine am_pick [0, 1, 2] rfl (l_X8_isWord_L20 hE (Nat.le_refl _) h_p1 am_fu _ _ g10 (fun ex he => by cases he) (fun ex he => ?_))
      cases he
      refine am_iconst (v := (1 : Int32)) (am_dec tmX8_isWord 30 rfl) (by decide) ?_
      have hf := Option.some.inj hf
      subst hf
      exact am_zret (am_dec tmX8_isWord 31 rfl) rfl am_z1 (Nat.zero_le _) (Nat.zero_le _)
  · rw [if_neg c1] at hf
    refine am_iconst (v := (0 : Int32)) (am_dec tmX8_isWord 8 rfl) (by decide) ?_
    have hf := Option.some.inj hf
    subst hf
    exact am_zret (am_dec tmX8_isWord 9 rfl) rfl am_z0 (Nat.zero_le _) (Nat.zero_le _)
theorem z_X8_isWord {p1 : Nat} {D : am_D} {r : Int32} (hf : f_X8_isWord p1 D = some r) : narrow .boolean (.int r) = .int r := by
  unfold f_X8_isWord at hf
  by_cases c1 : ((D.1 69 4) - (D.1 69 6)) = (am_wl p1)
  · rw [if_pos c1] at hf
    rcases am_b2d hf with ⟨e8, g10, hf⟩ | ⟨e9, g10, hf⟩
    · have hf := Option.some.inj hf
      subst hf
      exact am_z0
    · have hf := Option.some.inj hf
      subst hf
      exact am_z1
  · rw [if_neg c1] at hf
    have hf := Option.some.inj hf
    subst hf
    exact am_z0
def f_X8_isDigit (p1 : Int32) (D : am_D) : Option (Int32) :=
    (f_X8_byteAt p1 D).bind fun x2 =>
    (f_X11_within x2 (48 : Int32) (57 : Int32)).bind fun x4 =>
    some x4
set_option maxRecDepth 100000 in
set_option maxHeartbeats 4000000 in
theorem c_X8_isDigit {E : am_E} (hE : am_EH E) {p1 : Int32} {D : am_D} {r : Int32}  (hf : f_X8_isDigit p1 D = some r) : am_C E mX8_isDigit 2 0 0 [.ref 69, .int p1] am_G0 D (.inl (some (.int r))) am_G0 D := by
  refine am_C_of (by decide +kernel) (Nat.le_of_ble_eq_true rfl) ?_
  change am_S E mX8_isDigit 2 0 0 (.inl (some (.int r))) am_G0 D 0 0 0 [(0, .ref 69), (1, .int p1)] [] am_G0 D
  unfold f_X8_isDigit at hf
  refine am_aload_n (am_dec tmX8_isDigit 0 rfl) rfl rfl ?_
  refine am_iload_n (am_dec tmX8_isDigit 1 rfl) rfl rfl ?_
  obtain ⟨x2, g1, hf⟩ := am_bd hf
  refine am_callV1 (As := [.int p1]) (st := []) hE (am_dec tmX8_isDigit 2 rfl) ok_X8_byteAt rfl lm_X8_122 in_X8_byteAt se_X8_byteAt sh_69 cf8 (c_X8_byteAt hE g1) rfl (by decide) (Nat.le_of_ble_eq_true rfl) (Nat.zero_le _) (Nat.zero_le _) rfl ?_
  refine am_bipush (v := (48 : Int32)) (am_dec tmX8_isDigit 3 rfl) (by decide) ?_
  refine am_bipush (v := (57 : Int32)) (am_dec tmX8_isDigit 4 rfl) (by decide) ?_
  obtain ⟨x4, g3, hf⟩ := am_bd hf
  refine am_callSN1 (As := [.int x2, .int (48 : Int32), .int (57 : Int32)]) (st := []) hE (am_dec tmX8_isDigit 5 rfl) ok_X11_within rfl lm_X8_126 st_X11_within (c_X11_within hE g3) rfl (by decide) (Nat.le_of_ble_eq_true rfl) (Nat.zero_le _) (Nat.zero_le _) rfl ?_
  have hf := Option.some.inj hf
  subst hf
  exact am_zret (am_dec tmX8_isDigit 6 rfl) rfl (z_X11_within g3) (Nat.zero_le _) (Nat.zero_le _)
theorem z_X8_isDigit {p1 : Int32} {D : am_D} {r : Int32} (hf : f_X8_isDigit p1 D = some r) : narrow .boolean (.int r) = .int r := by
  unfold f_X8_isDigit at hf
  obtain ⟨x2, g1, hf⟩ := am_bd hf
  obtain ⟨x4, g3, hf⟩ := am_bd hf
  have hf := Option.some.inj hf
  subst hf
  exact z_X11_within g3
def f_X8_readNumber_L23 (q1 : Int32) (q2 : Int32) : Nat → Int32 → am_D → Option (Int32 × am_D)
  | 0, _, _ => none
  | n + 1, v3, D =>
    if (D.1 69 5) ≤ (D.1 69 4) then
    some (v3, D)
    else
    (f_X8_isDigit (D.1 69 4) D).bind fun x8 =>
    if x8 = 0 then
    some (v3, D)
    else
    (f_X8_byteAt (D.1 69 4) D).bind fun x11 =>
    (some (am_wI D 69 4 ((D.1 69 4) + (1 : Int32)))).bind fun D12 =>
    f_X8_readNumber_L23 q1 q2 n (am_mn (100000 : Int32) (((v3 * (10 : Int32)) + x11) - (48 : Int32))) D12
def f_X8_readNumber (p1 : Int32) (p2 : Int32) (D : am_D) : Option ((Int32 × am_D)) :=
    if (D.1 69 2) = 0 then
    (f_X8_skipBlanks D).bind fun x3 =>
    (some (am_wI x3 69 7 (x3.1 69 4))).bind fun D4 =>
    (f_X8_readNumber_L23 p1 p2 am_fu (0 : Int32) D4).bind fun e14 =>
    if (e14.2.1 69 4) = (e14.2.1 69 7) then
    (f_X8_fail (1 : Int32) (e14.2.1 69 4) e14.2).bind fun x22 =>
    some (e14.1, x22)
    else
    (f_X11_within e14.1 p1 p2).bind fun x17 =>
    if x17 = 0 then
    (f_X8_fail (2 : Int32) (e14.2.1 69 7) e14.2).bind fun x20 =>
    some (e14.1, x20)
    else
    some (e14.1, e14.2)
    else
    some ((0 : Int32), D)
set_option maxRecDepth 100000 in
set_option maxHeartbeats 4000000 in
theorem l_X8_readNumber_L23 {E : am_E} (hE : am_EH E) {d mc ms : Nat} {o : am_O} {G2 : am_G} {D2 : am_D} (hdp : 3 ≤ d) {q1 : Int32} {q2 : Int32}  : ∀ (n : Nat) (v3 : Int32) (D : am_D) (ex0 : Int32 × am_D), f_X8_readNumber_L23 q1 q2 n v3 D = some ex0 → (∀ ex : Int32 × am_D, ex0 = ex → am_S E mX8_readNumber d mc ms o G2 D2 0 0 80 [(0, .ref 69), (1, .int q1), (2, .int q2), (3, .int ex.1)] [] am_G0 ex.2) → am_S E mX8_readNumber d mc ms o G2 D2 0 0 23 [(0, .ref 69), (1, .int q1), (2, .int q2), (3, .int v3)] [] am_G0 D
  | 0, _, _, _, hf, _ => by
    unfold f_X8_readNumber_L23 at hf
    cases hf
  | n + 1, v3, D, ex0, hf, hk0 => by
    unfold f_X8_readNumber_L23 at hf
    refine am_aload_n (am_dec tmX8_readNumber_0 13 rfl) rfl rfl ?_
    refine am_getI (j := 4) hE (am_dec tmX8_readNumber_0 14 rfl) sh_69 cf8 (by decide) rfl lf_X8_19 ?_
    refine am_aload_n (am_dec tmX8_readNumber_0 15 rfl) rfl rfl ?_
    refine am_getI (j := 5) hE (am_dec tmX8_readNumber_0 16 rfl) sh_69 cf8 (by decide) rfl lf_X8_26 ?_
    refine am_icmp_ge (tgt := 80) (am_dec tmX8_readNumber_0 17 rfl) (by decide) (fun c6 => ?_) (fun c6 => ?_)
    · rw [if_pos c6] at hf
      have hf := Option.some.inj hf
      subst hf
      exact am_pick [0, 1, 2, 3] rfl (hk0 _ rfl)
    · rw [if_neg c6] at hf
      refine am_aload_n (am_dec tmX8_readNumber_0 18 rfl) rfl rfl ?_
      refine am_aload_n (am_dec tmX8_readNumber_0 19 rfl) rfl rfl ?_
      refine am_getI (j := 4) hE (am_dec tmX8_readNumber_0 20 rfl) sh_69 cf8 (by decide) rfl lf_X8_19 ?_
      obtain ⟨x8, g7, hf⟩ := am_bd hf
      refine am_callV1 (As := [.int (D.1 69 4)]) (st := []) hE (am_dec tmX8_readNumber_0 21 rfl) ok_X8_isDigit rfl lm_X8_146 in_X8_isDigit se_X8_isDigit sh_69 cf8 (c_X8_isDigit hE g7) rfl (Nat.lt_of_lt_of_le (by decide) hdp) (Nat.le_of_ble_eq_true rfl) (Nat.zero_le _) (Nat.zero_le _) rfl ?_
      refine am_if_eq (tgt := 80) (am_dec tmX8_readNumber_0 22 rfl) (by decide) (fun c9 => ?_) (fun c9 => ?_)
      · rw [if_pos c9] at hf
        have hf := Option.some.inj hf
        subst hf
        exact am_pick [0, 1, 2, 3] rfl (hk0 _ rfl)
      · rw [if_neg c9] at hf
        refine am_ldc (v := (100000 : Int32)) (am_dec tmX8_readNumber_0 23 rfl) lc_X8_149 ?_
        refine am_iload_n (am_dec tmX8_readNumber_0 24 rfl) rfl rfl ?_
        refine am_bipush (v := (10 : Int32)) (am_dec tmX8_readNumber_0 25 rfl) (by decide) ?_
        refine am_imul (am_dec tmX8_readNumber_0 26 rfl) ?_
        refine am_aload_n (am_dec tmX8_readNumber_0 27 rfl) rfl rfl ?_
        refine am_aload_n (am_dec tmX8_readNumber_0 28 rfl) rfl rfl ?_
        refine am_getI (j := 4) hE (am_dec tmX8_readNumber_0 29 rfl) sh_69 cf8 (by decide) rfl lf_X8_19 ?_
        obtain ⟨x11, g10, hf⟩ := am_bd hf
        refine am_callV1 (As := [.int (D.1 69 4)]) (st := [.int (v3 * (10 : Int32)), .int (100000 : Int32)]) hE (am_dec tmX8_readNumber_0 30 rfl) ok_X8_byteAt rfl lm_X8_122 in_X8_byteAt se_X8_byteAt sh_69 cf8 (c_X8_byteAt hE g10) rfl (Nat.lt_of_lt_of_le (by decide) hdp) (Nat.le_of_ble_eq_true rfl) (Nat.zero_le _) (Nat.zero_le _) rfl ?_
        refine am_iadd (am_dec tmX8_readNumber_0 31 rfl) ?_
        refine am_bipush (v := (48 : Int32)) (am_dec tmX8_readNumber_0 32 rfl) (by decide) ?_
        refine am_isub (am_dec tmX8_readNumber_0 33 rfl) ?_
        refine am_mmin2 (am_dec tmX8_readNumber_0 34 rfl) lm_X8_150 (Nat.le_of_ble_eq_true rfl) (Nat.zero_le _) (Nat.zero_le _) ?_
        refine am_istore_n (lv' := [(0, .ref 69), (1, .int q1), (2, .int q2), (3, .int (am_mn (100000 : Int32) (((v3 * (10 : Int32)) + x11) - (48 : Int32))))]) (am_dec tmX8_readNumber_0 35 rfl) rfl (by decide) rfl ?_
        refine am_aload_n (am_dec tmX8_readNumber_0 36 rfl) rfl rfl ?_
        refine am_dup (am_dec tmX8_readNumber_0 37 rfl) rfl ?_
        refine am_getI (j := 4) hE (am_dec tmX8_readNumber_0 38 rfl) sh_69 cf8 (by decide) rfl lf_X8_19 ?_
        refine am_iconst (v := (1 : Int32)) (am_dec tmX8_readNumber_0 39 rfl) (by decide) ?_
        refine am_iadd (am_dec tmX8_readNumber_0 40 rfl) ?_
        obtain ⟨D12, g13, hf⟩ := am_bd hf
        refine am_putI2 (j := 4) hE (am_dec tmX8_readNumber_0 41 rfl) sh_69 cf8 (by decide) rfl lf_X8_19 rfl rfl rfl g13 ?_
        refine am_goto (tgt := 23) (am_dec tmX8_readNumber_0 42 rfl) (by decide) ?_
        exact am_pick [0, 1, 2, 3] rfl (l_X8_readNumber_L23 hE hdp n (am_mn (100000 : Int32) (((v3 * (10 : Int32)) + x11) - (48 : Int32))) D12 ex0 hf hk0)
set_option maxRecDepth 100000 in
set_option maxHeartbeats 4000000 in
theorem c_X8_readNumber {E : am_E} (hE : am_EH E) {p1 : Int32} {p2 : Int32} {D : am_D} {r : (Int32 × am_D)}  (hf : f_X8_readNumber p1 p2 D = some r) : am_C E mX8_readNumber 3 0 0 [.ref 69, .int p1, .int p2] am_G0 D (.inl (some (.int r.1))) am_G0 r.2 := by
  refine am_C_of (by decide +kernel) (Nat.le_of_ble_eq_true rfl) ?_
  change am_S E mX8_readNumber 3 0 0 (.inl (some (.int r.1))) am_G0 r.2 0 0 0 [(0, .ref 69), (1, .int p1), (2, .int p2)] [] am_G0 D
  unfold f_X8_readNumber at hf
  refine am_aload_n (am_dec tmX8_readNumber_0 0 rfl) rfl rfl ?_
  refine am_getI (j := 2) hE (am_dec tmX8_readNumber_0 1 rfl) sh_69 cf8 (by decide) rfl lf_X8_29 ?_
  refine am_if_eq (tgt := 9) (am_dec tmX8_readNumber_0 2 rfl) (by decide) (fun c1 => ?_) (fun c1 => ?_)
  · rw [if_pos c1] at hf
    refine am_aload_n (am_dec tmX8_readNumber_0 5 rfl) rfl rfl ?_
    obtain ⟨x3, g2, hf⟩ := am_bd hf
    refine am_callV0 (As := []) (st := []) hE (am_dec tmX8_readNumber_0 6 rfl) ok_X8_skipBlanks rfl lm_X8_130 in_X8_skipBlanks se_X8_skipBlanks sh_69 cf8 (c_X8_skipBlanks hE g2) rfl (by decide) (Nat.le_of_ble_eq_true rfl) (Nat.zero_le _) (Nat.zero_le _) rfl ?_
    refine am_aload_n (am_dec tmX8_readNumber_0 7 rfl) rfl rfl ?_
    refine am_aload_n (am_dec tmX8_readNumber_0 8 rfl) rfl rfl ?_
    refine am_getI (j := 4) hE (am_dec tmX8_readNumber_0 9 rfl) sh_69 cf8 (by decide) rfl lf_X8_19 ?_
    obtain ⟨D4, g5, hf⟩ := am_bd hf
    refine am_putI2 (j := 7) hE (am_dec tmX8_readNumber_0 10 rfl) sh_69 cf8 (by decide) rfl lf_X8_119 rfl rfl rfl g5 ?_
    refine am_iconst (v := (0 : Int32)) (am_dec tmX8_readNumber_0 11 rfl) (by decide) ?_
    refine am_istore_n (lv' := [(0, .ref 69), (1, .int p1), (2, .int p2), (3, .int (0 : Int32))]) (am_dec tmX8_readNumber_0 12 rfl) rfl (by decide) rfl ?_
    obtain ⟨e14, g23, hf⟩ := am_bd hf
    refine am_pick [0, 1, 2, 3] rfl (l_X8_readNumber_L23 hE (Nat.le_refl _) am_fu _ _ _ g23 (fun ex he => ?_))
    subst he
    refine am_aload_n (am_dec tmX8_readNumber_0 43 rfl) rfl rfl ?_
    refine am_getI (j := 4) hE (am_dec tmX8_readNumber_0 44 rfl) sh_69 cf8 (by decide) rfl lf_X8_19 ?_
    refine am_aload_n (am_dec tmX8_readNumber_0 45 rfl) rfl rfl ?_
    refine am_getI (j := 7) hE (am_dec tmX8_readNumber_0 46 rfl) sh_69 cf8 (by decide) rfl lf_X8_119 ?_
    refine am_icmp_ne (tgt := 103) (am_dec tmX8_readNumber_0 47 rfl) (by decide) (fun c15 => ?_) (fun c15 => ?_)
    · rw [if_neg c15] at hf
      refine am_iload_n (am_dec tmX8_readNumber_0 54 rfl) rfl rfl ?_
      refine am_iload_n (am_dec tmX8_readNumber_0 55 rfl) rfl rfl ?_
      refine am_iload_n (am_dec tmX8_readNumber_0 56 rfl) rfl rfl ?_
      obtain ⟨x17, g16, hf⟩ := am_bd hf
      refine am_callSN1 (As := [.int e14.1, .int p1, .int p2]) (st := []) hE (am_dec tmX8_readNumber_0 57 rfl) ok_X11_within rfl lm_X8_126 st_X11_within (c_X11_within hE g16) rfl (by decide) (Nat.le_of_ble_eq_true rfl) (Nat.zero_le _) (Nat.zero_le _) rfl ?_
      refine am_if_ne (tgt := 121) (am_dec tmX8_readNumber_0 58 rfl) (by decide) (fun c18 => ?_) (fun c18 => ?_)
      · rw [if_neg c18] at hf
        refine am_iload_n (am_dec tmX8_readNumber_1 4 rfl) rfl rfl ?_
        have hf := Option.some.inj hf
        subst hf
        exact am_iret (am_dec tmX8_readNumber_1 5 rfl) rfl (Nat.zero_le _) (Nat.zero_le _)
      · rw [if_pos c18] at hf
        refine am_aload_n (am_dec tmX8_readNumber_0 59 rfl) rfl rfl ?_
        refine am_iconst (v := (2 : Int32)) (am_dec tmX8_readNumber_1 0 rfl) (by decide) ?_
        refine am_aload_n (am_dec tmX8_readNumber_1 1 rfl) rfl rfl ?_
        refine am_getI (j := 7) hE (am_dec tmX8_readNumber_1 2 rfl) sh_69 cf8 (by decide) rfl lf_X8_119 ?_
        obtain ⟨x20, g19, hf⟩ := am_bd hf
        refine am_callV0 (As := [.int (2 : Int32), .int (e14.2.1 69 7)]) (st := []) hE (am_dec tmX8_readNumber_1 3 rfl) ok_X8_fail rfl lm_X8_56 in_X8_fail se_X8_fail sh_69 cf8 (c_X8_fail hE g19) rfl (by decide) (Nat.le_of_ble_eq_true rfl) (Nat.zero_le _) (Nat.zero_le _) rfl ?_
        refine am_iload_n (am_dec tmX8_readNumber_1 4 rfl) rfl rfl ?_
        have hf := Option.some.inj hf
        subst hf
        exact am_iret (am_dec tmX8_readNumber_1 5 rfl) rfl (Nat.zero_le _) (Nat.zero_le _)
    · rw [if_pos c15] at hf
      refine am_aload_n (am_dec tmX8_readNumber_0 48 rfl) rfl rfl ?_
      refine am_iconst (v := (1 : Int32)) (am_dec tmX8_readNumber_0 49 rfl) (by decide) ?_
      refine am_aload_n (am_dec tmX8_readNumber_0 50 rfl) rfl rfl ?_
      refine am_getI (j := 4) hE (am_dec tmX8_readNumber_0 51 rfl) sh_69 cf8 (by decide) rfl lf_X8_19 ?_
      obtain ⟨x22, g21, hf⟩ := am_bd hf
      refine am_callV0 (As := [.int (1 : Int32), .int (e14.2.1 69 4)]) (st := []) hE (am_dec tmX8_readNumber_0 52 rfl) ok_X8_fail rfl lm_X8_56 in_X8_fail se_X8_fail sh_69 cf8 (c_X8_fail hE g21) rfl (by decide) (Nat.le_of_ble_eq_true rfl) (Nat.zero_le _) (Nat.zero_le _) rfl ?_
      refine am_goto (tgt := 121) (am_dec tmX8_readNumber_0 53 rfl) (by decide) ?_
      refine am_iload_n (am_dec tmX8_readNumber_1 4 rfl) rfl rfl ?_
      have hf := Option.some.inj hf
      subst hf
      exact am_iret (am_dec tmX8_readNumber_1 5 rfl) rfl (Nat.zero_le _) (Nat.zero_le _)
  · rw [if_neg c1] at hf
    refine am_iconst (v := (0 : Int32)) (am_dec tmX8_readNumber_0 3 rfl) (by decide) ?_
    have hf := Option.some.inj hf
    subst hf
    exact am_iret (am_dec tmX8_readNumber_0 4 rfl) rfl (Nat.zero_le _) (Nat.zero_le _)
def f_X8_readMany (p1 : Nat) (D : am_D) : Option ((Int32 × am_D)) :=
    (f_X8_readNumber (1 : Int32) (300 : Int32) D).bind fun x2 =>
    if ((x2.2.1 p1 1) + x2.1) ≤ (600 : Int32) then
    some (x2.1, x2.2)
    else
    (f_X8_fail (3 : Int32) (x2.2.1 69 7) x2.2).bind fun x5 =>
    some (x2.1, x5)
set_option maxRecDepth 100000 in
set_option maxHeartbeats 4000000 in
theorem c_X8_readMany {E : am_E} (hE : am_EH E) {p1 : Nat} {D : am_D} {r : (Int32 × am_D)} (h_p1 : am_sh am_G0 p1 = some (7, 2)) (hf : f_X8_readMany p1 D = some r) : am_C E mX8_readMany 4 0 0 [.ref 69, .ref p1] am_G0 D (.inl (some (.int r.1))) am_G0 r.2 := by
  refine am_C_of (by decide +kernel) (Nat.le_of_ble_eq_true rfl) ?_
  change am_S E mX8_readMany 4 0 0 (.inl (some (.int r.1))) am_G0 r.2 0 0 0 [(0, .ref 69), (1, .ref p1)] [] am_G0 D
  unfold f_X8_readMany at hf
  refine am_aload_n (am_dec tmX8_readMany 0 rfl) rfl rfl ?_
  refine am_iconst (v := (1 : Int32)) (am_dec tmX8_readMany 1 rfl) (by decide) ?_
  refine am_sipush (v := (300 : Int32)) (am_dec tmX8_readMany 2 rfl) (by decide) ?_
  obtain ⟨x2, g1, hf⟩ := am_bd hf
  refine am_callV1 (As := [.int (1 : Int32), .int (300 : Int32)]) (st := []) hE (am_dec tmX8_readMany 3 rfl) ok_X8_readNumber rfl lm_X8_78 in_X8_readNumber se_X8_readNumber sh_69 cf8 (c_X8_readNumber hE g1) rfl (by decide) (Nat.le_of_ble_eq_true rfl) (Nat.zero_le _) (Nat.zero_le _) rfl ?_
  refine am_istore_n (lv' := [(0, .ref 69), (1, .ref p1), (2, .int x2.1)]) (am_dec tmX8_readMany 4 rfl) rfl (by decide) rfl ?_
  refine am_aload_n (am_dec tmX8_readMany 5 rfl) rfl rfl ?_
  refine am_getI (j := 1) hE (am_dec tmX8_readMany 6 rfl) h_p1 cf7 (by decide) rfl lf_X8_55 ?_
  refine am_iload_n (am_dec tmX8_readMany 7 rfl) rfl rfl ?_
  refine am_iadd (am_dec tmX8_readMany 8 rfl) ?_
  refine am_sipush (v := (600 : Int32)) (am_dec tmX8_readMany 9 rfl) (by decide) ?_
  refine am_icmp_le (tgt := 30) (am_dec tmX8_readMany 10 rfl) (by decide) (fun c3 => ?_) (fun c3 => ?_)
  · rw [if_pos c3] at hf
    refine am_iload_n (am_dec tmX8_readMany 16 rfl) rfl rfl ?_
    have hf := Option.some.inj hf
    subst hf
    exact am_iret (am_dec tmX8_readMany 17 rfl) rfl (Nat.zero_le _) (Nat.zero_le _)
  · rw [if_neg c3] at hf
    refine am_aload_n (am_dec tmX8_readMany 11 rfl) rfl rfl ?_
    refine am_iconst (v := (3 : Int32)) (am_dec tmX8_readMany 12 rfl) (by decide) ?_
    refine am_aload_n (am_dec tmX8_readMany 13 rfl) rfl rfl ?_
    refine am_getI (j := 7) hE (am_dec tmX8_readMany 14 rfl) sh_69 cf8 (by decide) rfl lf_X8_119 ?_
    obtain ⟨x5, g4, hf⟩ := am_bd hf
    refine am_callV0 (As := [.int (3 : Int32), .int (x2.2.1 69 7)]) (st := []) hE (am_dec tmX8_readMany 15 rfl) ok_X8_fail rfl lm_X8_56 in_X8_fail se_X8_fail sh_69 cf8 (c_X8_fail hE g4) rfl (by decide) (Nat.le_of_ble_eq_true rfl) (Nat.zero_le _) (Nat.zero_le _) rfl ?_
    refine am_iload_n (am_dec tmX8_readMany 16 rfl) rfl rfl ?_
    have hf := Option.some.inj hf
    subst hf
    exact am_iret (am_dec tmX8_readMany 17 rfl) rfl (Nat.zero_le _) (Nat.zero_le _)
def f_X8_readClause (p1 : Nat) (p2 : Int32) (D : am_D) : Option (am_D) :=
    (f_X8_isWord 1 D).bind fun x2 =>
    (f_X8_isWord 2 D).bind fun x4 =>
    (f_X8_isWord 3 D).bind fun x6 =>
    (f_X8_isWord 4 D).bind fun x8 =>
    (f_X8_isWord 5 D).bind fun x10 =>
    (if x2 = 0 then
    if x4 = 0 then
    if x6 = 0 then
    if x8 = 0 then
    if x10 = 0 then
    (f_X8_fail (1 : Int32) (D.1 69 6) D).bind fun x33 =>
    some (x33)
    else
    if p2 < (16 : Int32) then
    some (D)
    else
    (f_X8_fail (3 : Int32) (D.1 69 6) D).bind fun x31 =>
    some (x31)
    else
    if p2 < (16 : Int32) then
    some (D)
    else
    (f_X8_fail (3 : Int32) (D.1 69 6) D).bind fun x27 =>
    some (x27)
    else
    if p2 < (16 : Int32) then
    some (D)
    else
    (f_X8_fail (3 : Int32) (D.1 69 6) D).bind fun x23 =>
    some (x23)
    else
    if p2 < (16 : Int32) then
    some (D)
    else
    (f_X8_fail (3 : Int32) (D.1 69 6) D).bind fun x19 =>
    some (x19)
    else
    if p2 < (16 : Int32) then
    some (D)
    else
    (f_X8_fail (3 : Int32) (D.1 69 6) D).bind fun x15 =>
    some (x15)).bind fun w34 =>
    (if x4 = 0 then
    if x10 = 0 then
    some ((0 : Int32), w34)
    else
    (f_X8_readNumber (4 : Int32) (60 : Int32) w34).bind fun x41 =>
    some (x41.1, x41.2)
    else
    (f_X8_readNumber (4 : Int32) (60 : Int32) w34).bind fun x38 =>
    some (x38.1, x38.2)).bind fun w42 =>
    (if x2 = 0 then
    (f_X8_readNumber (1 : Int32) (2000 : Int32) w42.2).bind fun x46 =>
    some (x46.1, x46.2)
    else
    some ((0 : Int32), w42.2)).bind fun w47 =>
    (if x10 = 0 then
    (f_X8_readMany p1 w47.2).bind fun x51 =>
    some (x51.1, x51.2)
    else
    some ((0 : Int32), w47.2)).bind fun w52 =>
    (if x8 = 0 then
    some ((0 : Int32), w52.2)
    else
    (f_X8_readNumber (0 : Int32) (9999 : Int32) w52.2).bind fun x56 =>
    some (x56.1, x56.2)).bind fun w57 =>
    if (w57.2.1 69 2) = 0 then
    if x10 = 0 then
    if x8 = 0 then
    if x6 = 0 then
    if x4 = 0 then
    (f_X7_addStill p1 w52.1 w57.2).bind fun x64 =>
    some x64
    else
    (f_X7_addWave p1 w42.1 w47.1 w52.1 w57.2).bind fun x66 =>
    some x66
    else
    (f_X7_addBlow p1 w47.1 w52.1 w57.2).bind fun x68 =>
    some x68
    else
    (f_X7_addHiss p1 w47.1 w52.1 w57.1 w57.2).bind fun x70 =>
    some x70
    else
    (f_X7_layHum p1 w42.1 w47.1 w57.2).bind fun x72 =>
    some x72
    else
    some w57.2
set_option maxRecDepth 100000 in
set_option maxHeartbeats 4000000 in
theorem c_X8_readClause {E : am_E} (hE : am_EH E) {p1 : Nat} {p2 : Int32} {D : am_D} {r : am_D} (h_p1 : am_sh am_G0 p1 = some (7, 2)) (hf : f_X8_readClause p1 p2 D = some r) : am_C E mX8_readClause 8 0 0 [.ref 69, .ref p1, .int p2] am_G0 D (.inl none) am_G0 r := by
  refine am_C_of (by decide +kernel) (Nat.le_of_ble_eq_true rfl) ?_
  change am_S E mX8_readClause 8 0 0 (.inl none) am_G0 r 0 0 0 [(0, .ref 69), (1, .ref p1), (2, .int p2)] [] am_G0 D
  unfold f_X8_readClause at hf
  refine am_aload_n (am_dec tmX8_readClause_0 0 rfl) rfl rfl ?_
  refine am_ldcs hE 1 (am_dec tmX8_readClause_0 1 rfl) (by decide) rfl ?_
  obtain ⟨x2, g1, hf⟩ := am_bd hf
  refine am_callV1 (As := [.ref 1]) (st := []) hE (am_dec tmX8_readClause_0 2 rfl) ok_X8_isWord rfl lm_X8_67 in_X8_isWord se_X8_isWord sh_69 cf8 (c_X8_isWord hE ⟨by decide, by decide⟩ g1) rfl (by decide) (Nat.le_of_ble_eq_true rfl) (Nat.zero_le _) (Nat.zero_le _) rfl ?_
  refine am_istore_n (lv' := [(0, .ref 69), (1, .ref p1), (2, .int p2), (3, .int x2)]) (am_dec tmX8_readClause_0 3 rfl) rfl (by decide) rfl ?_
  refine am_aload_n (am_dec tmX8_readClause_0 4 rfl) rfl rfl ?_
  refine am_ldcs hE 2 (am_dec tmX8_readClause_0 5 rfl) (by decide) rfl ?_
  obtain ⟨x4, g3, hf⟩ := am_bd hf
  refine am_callV1 (As := [.ref 2]) (st := []) hE (am_dec tmX8_readClause_0 6 rfl) ok_X8_isWord rfl lm_X8_67 in_X8_isWord se_X8_isWord sh_69 cf8 (c_X8_isWord hE ⟨by decide, by decide⟩ g3) rfl (by decide) (Nat.le_of_ble_eq_true rfl) (Nat.zero_le _) (Nat.zero_le _) rfl ?_
  refine am_istore (lv' := [(0, .ref 69), (1, .ref p1), (2, .int p2), (3, .int x2), (4, .int x4)]) (am_dec tmX8_readClause_0 7 rfl) (by decide) rfl ?_
  refine am_aload_n (am_dec tmX8_readClause_0 8 rfl) rfl rfl ?_
  refine am_ldcs hE 3 (am_dec tmX8_readClause_0 9 rfl) (by decide) rfl ?_
  obtain ⟨x6, g5, hf⟩ := am_bd hf
  refine am_callV1 (As := [.ref 3]) (st := []) hE (am_dec tmX8_readClause_0 10 rfl) ok_X8_isWord rfl lm_X8_67 in_X8_isWord se_X8_isWord sh_69 cf8 (c_X8_isWord hE ⟨by decide, by decide⟩ g5) rfl (by decide) (Nat.le_of_ble_eq_true rfl) (Nat.zero_le _) (Nat.zero_le _) rfl ?_
  refine am_istore (lv' := [(0, .ref 69), (1, .ref p1), (2, .int p2), (3, .int x2), (4, .int x4), (5, .int x6)]) (am_dec tmX8_readClause_0 11 rfl) (by decide) rfl ?_
  refine am_aload_n (am_dec tmX8_readClause_0 12 rfl) rfl rfl ?_
  refine am_ldcs hE 4 (am_dec tmX8_readClause_0 13 rfl) (by decide) rfl ?_
  obtain ⟨x8, g7, hf⟩ := am_bd hf
  refine am_callV1 (As := [.ref 4]) (st := []) hE (am_dec tmX8_readClause_0 14 rfl) ok_X8_isWord rfl lm_X8_67 in_X8_isWord se_X8_isWord sh_69 cf8 (c_X8_isWord hE ⟨by decide, by decide⟩ g7) rfl (by decide) (Nat.le_of_ble_eq_true rfl) (Nat.zero_le _) (Nat.zero_le _) rfl ?_
  refine am_istore (lv' := [(0, .ref 69), (1, .ref p1), (2, .int p2), (3, .int x2), (4, .int x4), (5, .int x6), (6, .int x8)]) (am_dec tmX8_readClause_0 15 rfl) (by decide) rfl ?_
  refine am_aload_n (am_dec tmX8_readClause_0 16 rfl) rfl rfl ?_
  refine am_ldcs hE 5 (am_dec tmX8_readClause_0 17 rfl) (by decide) rfl ?_
  obtain ⟨x10, g9, hf⟩ := am_bd hf
  refine am_callV1 (As := [.ref 5]) (st := []) hE (am_dec tmX8_readClause_0 18 rfl) ok_X8_isWord rfl lm_X8_67 in_X8_isWord se_X8_isWord sh_69 cf8 (c_X8_isWord hE ⟨by decide, by decide⟩ g9) rfl (by decide) (Nat.le_of_ble_eq_true rfl) (Nat.zero_le _) (Nat.zero_le _) rfl ?_
  refine am_istore (lv' := [(0, .ref 69), (1, .ref p1), (2, .int p2), (3, .int x2), (4, .int x4), (5, .int x6), (6, .int x8), (7, .int x10)]) (am_dec tmX8_readClause_0 19 rfl) (by decide) rfl ?_
  refine am_iload_n (am_dec tmX8_readClause_0 20 rfl) rfl rfl ?_
  obtain ⟨w34, g77, hf⟩ := am_bd hf
  have key12 : am_S E mX8_readClause 8 0 0 (.inl none) am_G0 r 0 0 90 [(0, .ref 69), (1, .ref p1), (3, .int x2), (4, .int x4), (5, .int x6), (6, .int x8), (7, .int x10)] [] am_G0 w34 := by
    refine am_iload (am_dec tmX8_readClause_0 44 rfl) rfl ?_
    obtain ⟨w42, g76, hf⟩ := am_bd hf
    have key36 : am_S E mX8_readClause 8 0 0 (.inl none) am_G0 r 0 0 111 [(0, .ref 69), (1, .ref p1), (3, .int x2), (4, .int x4), (5, .int x6), (6, .int x8), (7, .int x10)] [.int w42.1] am_G0 w42.2 := by
      refine am_istore (lv' := [(0, .ref 69), (1, .ref p1), (3, .int x2), (4, .int x4), (5, .int x6), (6, .int x8), (7, .int x10), (8, .int w42.1)]) (am_dec tmX8_readClause_0 54 rfl) (by decide) rfl ?_
      refine am_iload_n (am_dec tmX8_readClause_0 55 rfl) rfl rfl ?_
      obtain ⟨w47, g75, hf⟩ := am_bd hf
      have key44 : am_S E mX8_readClause 8 0 0 (.inl none) am_G0 r 0 0 129 [(0, .ref 69), (1, .ref p1), (4, .int x4), (5, .int x6), (6, .int x8), (7, .int x10), (8, .int w42.1)] [.int w47.1] am_G0 w47.2 := by
        refine am_istore (lv' := [(0, .ref 69), (1, .ref p1), (4, .int x4), (5, .int x6), (6, .int x8), (7, .int x10), (8, .int w42.1), (9, .int w47.1)]) (am_dec tmX8_readClause_1 3 rfl) (by decide) rfl ?_
        refine am_iload (am_dec tmX8_readClause_1 4 rfl) rfl ?_
        obtain ⟨w52, g74, hf⟩ := am_bd hf
        have key49 : am_S E mX8_readClause 8 0 0 (.inl none) am_G0 r 0 0 145 [(0, .ref 69), (1, .ref p1), (4, .int x4), (5, .int x6), (6, .int x8), (7, .int x10), (8, .int w42.1), (9, .int w47.1)] [.int w52.1] am_G0 w52.2 := by
          refine am_istore (lv' := [(0, .ref 69), (1, .ref p1), (4, .int x4), (5, .int x6), (6, .int x8), (7, .int x10), (8, .int w42.1), (9, .int w47.1), (10, .int w52.1)]) (am_dec tmX8_readClause_1 11 rfl) (by decide) rfl ?_
          refine am_iload (am_dec tmX8_readClause_1 12 rfl) rfl ?_
          obtain ⟨w57, g73, hf⟩ := am_bd hf
          have key54 : am_S E mX8_readClause 8 0 0 (.inl none) am_G0 r 0 0 164 [(0, .ref 69), (1, .ref p1), (4, .int x4), (5, .int x6), (6, .int x8), (7, .int x10), (8, .int w42.1), (9, .int w47.1), (10, .int w52.1)] [.int w57.1] am_G0 w57.2 := by
            refine am_istore (lv' := [(0, .ref 69), (1, .ref p1), (4, .int x4), (5, .int x6), (6, .int x8), (7, .int x10), (8, .int w42.1), (9, .int w47.1), (10, .int w52.1), (11, .int w57.1)]) (am_dec tmX8_readClause_1 20 rfl) (by decide) rfl ?_
            refine am_aload_n (am_dec tmX8_readClause_1 21 rfl) rfl rfl ?_
            refine am_getI (j := 2) hE (am_dec tmX8_readClause_1 22 rfl) sh_69 cf8 (by decide) rfl lf_X8_29 ?_
            refine am_if_eq (tgt := 174) (am_dec tmX8_readClause_1 23 rfl) (by decide) (fun c58 => ?_) (fun c58 => ?_)
            · rw [if_pos c58] at hf
              refine am_iload (am_dec tmX8_readClause_1 25 rfl) rfl ?_
              refine am_if_eq (tgt := 190) (am_dec tmX8_readClause_1 26 rfl) (by decide) (fun c59 => ?_) (fun c59 => ?_)
              · rw [if_pos c59] at hf
                refine am_iload (am_dec tmX8_readClause_1 32 rfl) rfl ?_
                refine am_if_eq (tgt := 208) (am_dec tmX8_readClause_1 33 rfl) (by decide) (fun c60 => ?_) (fun c60 => ?_)
                · rw [if_pos c60] at hf
                  refine am_iload (am_dec tmX8_readClause_1 40 rfl) rfl ?_
                  refine am_if_eq (tgt := 224) (am_dec tmX8_readClause_1 41 rfl) (by decide) (fun c61 => ?_) (fun c61 => ?_)
                  · rw [if_pos c61] at hf
                    refine am_iload (am_dec tmX8_readClause_1 47 rfl) rfl ?_
                    refine am_if_eq (tgt := 242) (am_dec tmX8_readClause_1 48 rfl) (by decide) (fun c62 => ?_) (fun c62 => ?_)
                    · rw [if_pos c62] at hf
                      refine am_aload_n (am_dec tmX8_readClause_1 55 rfl) rfl rfl ?_
                      refine am_iload (am_dec tmX8_readClause_1 56 rfl) rfl ?_
                      obtain ⟨x64, g63, hf⟩ := am_bd hf
                      refine am_callV0 (As := [.int w52.1]) (st := []) hE (am_dec tmX8_readClause_1 57 rfl) ok_X7_addStill rfl lm_X8_116 in_X7_addStill se_X7_addStill h_p1 cf7 (c_X7_addStill hE h_p1 g63) rfl (by decide) (Nat.le_of_ble_eq_true rfl) (Nat.zero_le _) (Nat.zero_le _) rfl ?_
                      have hf := Option.some.inj hf
                      subst hf
                      exact am_vret (am_dec tmX8_readClause_1 58 rfl) rfl (Nat.zero_le _) (Nat.zero_le _)
                    · rw [if_neg c62] at hf
                      refine am_aload_n (am_dec tmX8_readClause_1 49 rfl) rfl rfl ?_
                      refine am_iload (am_dec tmX8_readClause_1 50 rfl) rfl ?_
                      refine am_iload (am_dec tmX8_readClause_1 51 rfl) rfl ?_
                      refine am_iload (am_dec tmX8_readClause_1 52 rfl) rfl ?_
                      obtain ⟨x66, g65, hf⟩ := am_bd hf
                      refine am_callV0 (As := [.int w42.1, .int w47.1, .int w52.1]) (st := []) hE (am_dec tmX8_readClause_1 53 rfl) ok_X7_addWave rfl lm_X8_113 in_X7_addWave se_X7_addWave h_p1 cf7 (c_X7_addWave hE h_p1 g65) rfl (by decide) (Nat.le_of_ble_eq_true rfl) (Nat.zero_le _) (Nat.zero_le _) rfl ?_
                      refine am_goto (tgt := 248) (am_dec tmX8_readClause_1 54 rfl) (by decide) ?_
                      have hf := Option.some.inj hf
                      subst hf
                      exact am_vret (am_dec tmX8_readClause_1 58 rfl) rfl (Nat.zero_le _) (Nat.zero_le _)
                  · rw [if_neg c61] at hf
                    refine am_aload_n (am_dec tmX8_readClause_1 42 rfl) rfl rfl ?_
                    refine am_iload (am_dec tmX8_readClause_1 43 rfl) rfl ?_
                    refine am_iload (am_dec tmX8_readClause_1 44 rfl) rfl ?_
                    obtain ⟨x68, g67, hf⟩ := am_bd hf
                    refine am_callV0 (As := [.int w47.1, .int w52.1]) (st := []) hE (am_dec tmX8_readClause_1 45 rfl) ok_X7_addBlow rfl lm_X8_110 in_X7_addBlow se_X7_addBlow h_p1 cf7 (c_X7_addBlow hE h_p1 g67) rfl (by decide) (Nat.le_of_ble_eq_true rfl) (Nat.zero_le _) (Nat.zero_le _) rfl ?_
                    refine am_goto (tgt := 248) (am_dec tmX8_readClause_1 46 rfl) (by decide) ?_
                    have hf := Option.some.inj hf
                    subst hf
                    exact am_vret (am_dec tmX8_readClause_1 58 rfl) rfl (Nat.zero_le _) (Nat.zero_le _)
                · rw [if_neg c60] at hf
                  refine am_aload_n (am_dec tmX8_readClause_1 34 rfl) rfl rfl ?_
                  refine am_iload (am_dec tmX8_readClause_1 35 rfl) rfl ?_
                  refine am_iload (am_dec tmX8_readClause_1 36 rfl) rfl ?_
                  refine am_iload (am_dec tmX8_readClause_1 37 rfl) rfl ?_
                  obtain ⟨x70, g69, hf⟩ := am_bd hf
                  refine am_callV0 (As := [.int w47.1, .int w52.1, .int w57.1]) (st := []) hE (am_dec tmX8_readClause_1 38 rfl) ok_X7_addHiss rfl lm_X8_106 in_X7_addHiss se_X7_addHiss h_p1 cf7 (c_X7_addHiss hE h_p1 g69) rfl (by decide) (Nat.le_of_ble_eq_true rfl) (Nat.zero_le _) (Nat.zero_le _) rfl ?_
                  refine am_goto (tgt := 248) (am_dec tmX8_readClause_1 39 rfl) (by decide) ?_
                  have hf := Option.some.inj hf
                  subst hf
                  exact am_vret (am_dec tmX8_readClause_1 58 rfl) rfl (Nat.zero_le _) (Nat.zero_le _)
              · rw [if_neg c59] at hf
                refine am_aload_n (am_dec tmX8_readClause_1 27 rfl) rfl rfl ?_
                refine am_iload (am_dec tmX8_readClause_1 28 rfl) rfl ?_
                refine am_iload (am_dec tmX8_readClause_1 29 rfl) rfl ?_
                obtain ⟨x72, g71, hf⟩ := am_bd hf
                refine am_callV0 (As := [.int w42.1, .int w47.1]) (st := []) hE (am_dec tmX8_readClause_1 30 rfl) ok_X7_layHum rfl lm_X8_103 in_X7_layHum se_X7_layHum h_p1 cf7 (c_X7_layHum hE h_p1 g71) rfl (by decide) (Nat.le_of_ble_eq_true rfl) (Nat.zero_le _) (Nat.zero_le _) rfl ?_
                refine am_goto (tgt := 248) (am_dec tmX8_readClause_1 31 rfl) (by decide) ?_
                have hf := Option.some.inj hf
                subst hf
                exact am_vret (am_dec tmX8_readClause_1 58 rfl) rfl (Nat.zero_le _) (Nat.zero_le _)
            · rw [if_neg c58] at hf
              have hf := Option.some.inj hf
              subst hf
              exact am_vret (am_dec tmX8_readClause_1 24 rfl) rfl (Nat.zero_le _) (Nat.zero_le _)
          replace hf := g73
          refine am_if_eq (tgt := 163) (am_dec tmX8_readClause_1 13 rfl) (by decide) (fun c53 => ?_) (fun c53 => ?_)
          · rw [if_pos c53] at hf
            refine am_iconst (v := (0 : Int32)) (am_dec tmX8_readClause_1 19 rfl) (by decide) ?_
            have hf := Option.some.inj hf
            subst hf
            exact am_pick [0, 1, 2, 3, 4, 5, 6, 7, 8] rfl key54
          · rw [if_neg c53] at hf
            refine am_aload_n (am_dec tmX8_readClause_1 14 rfl) rfl rfl ?_
            refine am_iconst (v := (0 : Int32)) (am_dec tmX8_readClause_1 15 rfl) (by decide) ?_
            refine am_sipush (v := (9999 : Int32)) (am_dec tmX8_readClause_1 16 rfl) (by decide) ?_
            obtain ⟨x56, g55, hf⟩ := am_bd hf
            refine am_callV1 (As := [.int (0 : Int32), .int (9999 : Int32)]) (st := []) hE (am_dec tmX8_readClause_1 17 rfl) ok_X8_readNumber rfl lm_X8_78 in_X8_readNumber se_X8_readNumber sh_69 cf8 (c_X8_readNumber hE g55) rfl (by decide) (Nat.le_of_ble_eq_true rfl) (Nat.zero_le _) (Nat.zero_le _) rfl ?_
            refine am_goto (tgt := 164) (am_dec tmX8_readClause_1 18 rfl) (by decide) ?_
            have hf := Option.some.inj hf
            subst hf
            exact am_pick [0, 1, 2, 3, 4, 5, 6, 7, 8] rfl key54
        replace hf := g74
        refine am_if_eq (tgt := 140) (am_dec tmX8_readClause_1 5 rfl) (by decide) (fun c48 => ?_) (fun c48 => ?_)
        · rw [if_pos c48] at hf
          refine am_aload_n (am_dec tmX8_readClause_1 8 rfl) rfl rfl ?_
          refine am_aload_n (am_dec tmX8_readClause_1 9 rfl) rfl rfl ?_
          obtain ⟨x51, g50, hf⟩ := am_bd hf
          refine am_callV1 (As := [.ref p1]) (st := []) hE (am_dec tmX8_readClause_1 10 rfl) ok_X8_readMany rfl lm_X8_99 in_X8_readMany se_X8_readMany sh_69 cf8 (c_X8_readMany hE h_p1 g50) rfl (by decide) (Nat.le_of_ble_eq_true rfl) (Nat.zero_le _) (Nat.zero_le _) rfl ?_
          have hf := Option.some.inj hf
          subst hf
          exact am_pick [0, 1, 2, 3, 4, 5, 6, 7] rfl key49
        · rw [if_neg c48] at hf
          refine am_iconst (v := (0 : Int32)) (am_dec tmX8_readClause_1 6 rfl) (by decide) ?_
          refine am_goto (tgt := 145) (am_dec tmX8_readClause_1 7 rfl) (by decide) ?_
          have hf := Option.some.inj hf
          subst hf
          exact am_pick [0, 1, 2, 3, 4, 5, 6, 7] rfl key49
      replace hf := g75
      refine am_if_eq (tgt := 121) (am_dec tmX8_readClause_0 56 rfl) (by decide) (fun c43 => ?_) (fun c43 => ?_)
      · rw [if_pos c43] at hf
        refine am_aload_n (am_dec tmX8_readClause_0 59 rfl) rfl rfl ?_
        refine am_iconst (v := (1 : Int32)) (am_dec tmX8_readClause_1 0 rfl) (by decide) ?_
        refine am_sipush (v := (2000 : Int32)) (am_dec tmX8_readClause_1 1 rfl) (by decide) ?_
        obtain ⟨x46, g45, hf⟩ := am_bd hf
        refine am_callV1 (As := [.int (1 : Int32), .int (2000 : Int32)]) (st := []) hE (am_dec tmX8_readClause_1 2 rfl) ok_X8_readNumber rfl lm_X8_78 in_X8_readNumber se_X8_readNumber sh_69 cf8 (c_X8_readNumber hE g45) rfl (by decide) (Nat.le_of_ble_eq_true rfl) (Nat.zero_le _) (Nat.zero_le _) rfl ?_
        have hf := Option.some.inj hf
        subst hf
        exact am_pick [0, 1, 3, 4, 5, 6, 7] rfl key44
      · rw [if_neg c43] at hf
        refine am_iconst (v := (0 : Int32)) (am_dec tmX8_readClause_0 57 rfl) (by decide) ?_
        refine am_goto (tgt := 129) (am_dec tmX8_readClause_0 58 rfl) (by decide) ?_
        have hf := Option.some.inj hf
        subst hf
        exact am_pick [0, 1, 3, 4, 5, 6, 7] rfl key44
    replace hf := g76
    refine am_if_ne (tgt := 100) (am_dec tmX8_readClause_0 45 rfl) (by decide) (fun c35 => ?_) (fun c35 => ?_)
    · rw [if_neg c35] at hf
      refine am_aload_n (am_dec tmX8_readClause_0 48 rfl) rfl rfl ?_
      refine am_iconst (v := (4 : Int32)) (am_dec tmX8_readClause_0 49 rfl) (by decide) ?_
      refine am_bipush (v := (60 : Int32)) (am_dec tmX8_readClause_0 50 rfl) (by decide) ?_
      obtain ⟨x38, g37, hf⟩ := am_bd hf
      refine am_callV1 (As := [.int (4 : Int32), .int (60 : Int32)]) (st := []) hE (am_dec tmX8_readClause_0 51 rfl) ok_X8_readNumber rfl lm_X8_78 in_X8_readNumber se_X8_readNumber sh_69 cf8 (c_X8_readNumber hE g37) rfl (by decide) (Nat.le_of_ble_eq_true rfl) (Nat.zero_le _) (Nat.zero_le _) rfl ?_
      refine am_goto (tgt := 111) (am_dec tmX8_readClause_0 52 rfl) (by decide) ?_
      have hf := Option.some.inj hf
      subst hf
      exact am_pick [0, 1, 2, 3, 4, 5, 6] rfl key36
    · rw [if_pos c35] at hf
      refine am_iload (am_dec tmX8_readClause_0 46 rfl) rfl ?_
      refine am_if_eq (tgt := 110) (am_dec tmX8_readClause_0 47 rfl) (by decide) (fun c39 => ?_) (fun c39 => ?_)
      · rw [if_pos c39] at hf
        refine am_iconst (v := (0 : Int32)) (am_dec tmX8_readClause_0 53 rfl) (by decide) ?_
        have hf := Option.some.inj hf
        subst hf
        exact am_pick [0, 1, 2, 3, 4, 5, 6] rfl key36
      · rw [if_neg c39] at hf
        refine am_aload_n (am_dec tmX8_readClause_0 48 rfl) rfl rfl ?_
        refine am_iconst (v := (4 : Int32)) (am_dec tmX8_readClause_0 49 rfl) (by decide) ?_
        refine am_bipush (v := (60 : Int32)) (am_dec tmX8_readClause_0 50 rfl) (by decide) ?_
        obtain ⟨x41, g40, hf⟩ := am_bd hf
        refine am_callV1 (As := [.int (4 : Int32), .int (60 : Int32)]) (st := []) hE (am_dec tmX8_readClause_0 51 rfl) ok_X8_readNumber rfl lm_X8_78 in_X8_readNumber se_X8_readNumber sh_69 cf8 (c_X8_readNumber hE g40) rfl (by decide) (Nat.le_of_ble_eq_true rfl) (Nat.zero_le _) (Nat.zero_le _) rfl ?_
        refine am_goto (tgt := 111) (am_dec tmX8_readClause_0 52 rfl) (by decide) ?_
        have hf := Option.some.inj hf
        subst hf
        exact am_pick [0, 1, 2, 3, 4, 5, 6] rfl key36
  replace hf := g77
  refine am_if_ne (tgt := 75) (am_dec tmX8_readClause_0 21 rfl) (by decide) (fun c11 => ?_) (fun c11 => ?_)
  · rw [if_neg c11] at hf
    refine am_iload_n (am_dec tmX8_readClause_0 36 rfl) rfl rfl ?_
    refine am_bipush (v := (16 : Int32)) (am_dec tmX8_readClause_0 37 rfl) (by decide) ?_
    refine am_icmp_lt (tgt := 90) (am_dec tmX8_readClause_0 38 rfl) (by decide) (fun c13 => ?_) (fun c13 => ?_)
    · rw [if_pos c13] at hf
      have hf := Option.some.inj hf
      subst hf
      exact am_pick [0, 1, 3, 4, 5, 6, 7] rfl key12
    · rw [if_neg c13] at hf
      refine am_aload_n (am_dec tmX8_readClause_0 39 rfl) rfl rfl ?_
      refine am_iconst (v := (3 : Int32)) (am_dec tmX8_readClause_0 40 rfl) (by decide) ?_
      refine am_aload_n (am_dec tmX8_readClause_0 41 rfl) rfl rfl ?_
      refine am_getI (j := 6) hE (am_dec tmX8_readClause_0 42 rfl) sh_69 cf8 (by decide) rfl lf_X8_71 ?_
      obtain ⟨x15, g14, hf⟩ := am_bd hf
      refine am_callV0 (As := [.int (3 : Int32), .int (D.1 69 6)]) (st := []) hE (am_dec tmX8_readClause_0 43 rfl) ok_X8_fail rfl lm_X8_56 in_X8_fail se_X8_fail sh_69 cf8 (c_X8_fail hE g14) rfl (by decide) (Nat.le_of_ble_eq_true rfl) (Nat.zero_le _) (Nat.zero_le _) rfl ?_
      have hf := Option.some.inj hf
      subst hf
      exact am_pick [0, 1, 3, 4, 5, 6, 7] rfl key12
  · rw [if_pos c11] at hf
    refine am_iload (am_dec tmX8_readClause_0 22 rfl) rfl ?_
    refine am_if_ne (tgt := 75) (am_dec tmX8_readClause_0 23 rfl) (by decide) (fun c16 => ?_) (fun c16 => ?_)
    · rw [if_neg c16] at hf
      refine am_iload_n (am_dec tmX8_readClause_0 36 rfl) rfl rfl ?_
      refine am_bipush (v := (16 : Int32)) (am_dec tmX8_readClause_0 37 rfl) (by decide) ?_
      refine am_icmp_lt (tgt := 90) (am_dec tmX8_readClause_0 38 rfl) (by decide) (fun c17 => ?_) (fun c17 => ?_)
      · rw [if_pos c17] at hf
        have hf := Option.some.inj hf
        subst hf
        exact am_pick [0, 1, 3, 4, 5, 6, 7] rfl key12
      · rw [if_neg c17] at hf
        refine am_aload_n (am_dec tmX8_readClause_0 39 rfl) rfl rfl ?_
        refine am_iconst (v := (3 : Int32)) (am_dec tmX8_readClause_0 40 rfl) (by decide) ?_
        refine am_aload_n (am_dec tmX8_readClause_0 41 rfl) rfl rfl ?_
        refine am_getI (j := 6) hE (am_dec tmX8_readClause_0 42 rfl) sh_69 cf8 (by decide) rfl lf_X8_71 ?_
        obtain ⟨x19, g18, hf⟩ := am_bd hf
        refine am_callV0 (As := [.int (3 : Int32), .int (D.1 69 6)]) (st := []) hE (am_dec tmX8_readClause_0 43 rfl) ok_X8_fail rfl lm_X8_56 in_X8_fail se_X8_fail sh_69 cf8 (c_X8_fail hE g18) rfl (by decide) (Nat.le_of_ble_eq_true rfl) (Nat.zero_le _) (Nat.zero_le _) rfl ?_
        have hf := Option.some.inj hf
        subst hf
        exact am_pick [0, 1, 3, 4, 5, 6, 7] rfl key12
    · rw [if_pos c16] at hf
      refine am_iload (am_dec tmX8_readClause_0 24 rfl) rfl ?_
      refine am_if_ne (tgt := 75) (am_dec tmX8_readClause_0 25 rfl) (by decide) (fun c20 => ?_) (fun c20 => ?_)
      · rw [if_neg c20] at hf
        refine am_iload_n (am_dec tmX8_readClause_0 36 rfl) rfl rfl ?_
        refine am_bipush (v := (16 : Int32)) (am_dec tmX8_readClause_0 37 rfl) (by decide) ?_
        refine am_icmp_lt (tgt := 90) (am_dec tmX8_readClause_0 38 rfl) (by decide) (fun c21 => ?_) (fun c21 => ?_)
        · rw [if_pos c21] at hf
          have hf := Option.some.inj hf
          subst hf
          exact am_pick [0, 1, 3, 4, 5, 6, 7] rfl key12
        · rw [if_neg c21] at hf
          refine am_aload_n (am_dec tmX8_readClause_0 39 rfl) rfl rfl ?_
          refine am_iconst (v := (3 : Int32)) (am_dec tmX8_readClause_0 40 rfl) (by decide) ?_
          refine am_aload_n (am_dec tmX8_readClause_0 41 rfl) rfl rfl ?_
          refine am_getI (j := 6) hE (am_dec tmX8_readClause_0 42 rfl) sh_69 cf8 (by decide) rfl lf_X8_71 ?_
          obtain ⟨x23, g22, hf⟩ := am_bd hf
          refine am_callV0 (As := [.int (3 : Int32), .int (D.1 69 6)]) (st := []) hE (am_dec tmX8_readClause_0 43 rfl) ok_X8_fail rfl lm_X8_56 in_X8_fail se_X8_fail sh_69 cf8 (c_X8_fail hE g22) rfl (by decide) (Nat.le_of_ble_eq_true rfl) (Nat.zero_le _) (Nat.zero_le _) rfl ?_
          have hf := Option.some.inj hf
          subst hf
          exact am_pick [0, 1, 3, 4, 5, 6, 7] rfl key12
      · rw [if_pos c20] at hf
        refine am_iload (am_dec tmX8_readClause_0 26 rfl) rfl ?_
        refine am_if_ne (tgt := 75) (am_dec tmX8_readClause_0 27 rfl) (by decide) (fun c24 => ?_) (fun c24 => ?_)
        · rw [if_neg c24] at hf
          refine am_iload_n (am_dec tmX8_readClause_0 36 rfl) rfl rfl ?_
          refine am_bipush (v := (16 : Int32)) (am_dec tmX8_readClause_0 37 rfl) (by decide) ?_
          refine am_icmp_lt (tgt := 90) (am_dec tmX8_readClause_0 38 rfl) (by decide) (fun c25 => ?_) (fun c25 => ?_)
          · rw [if_pos c25] at hf
            have hf := Option.some.inj hf
            subst hf
            exact am_pick [0, 1, 3, 4, 5, 6, 7] rfl key12
          · rw [if_neg c25] at hf
            refine am_aload_n (am_dec tmX8_readClause_0 39 rfl) rfl rfl ?_
            refine am_iconst (v := (3 : Int32)) (am_dec tmX8_readClause_0 40 rfl) (by decide) ?_
            refine am_aload_n (am_dec tmX8_readClause_0 41 rfl) rfl rfl ?_
            refine am_getI (j := 6) hE (am_dec tmX8_readClause_0 42 rfl) sh_69 cf8 (by decide) rfl lf_X8_71 ?_
            obtain ⟨x27, g26, hf⟩ := am_bd hf
            refine am_callV0 (As := [.int (3 : Int32), .int (D.1 69 6)]) (st := []) hE (am_dec tmX8_readClause_0 43 rfl) ok_X8_fail rfl lm_X8_56 in_X8_fail se_X8_fail sh_69 cf8 (c_X8_fail hE g26) rfl (by decide) (Nat.le_of_ble_eq_true rfl) (Nat.zero_le _) (Nat.zero_le _) rfl ?_
            have hf := Option.some.inj hf
            subst hf
            exact am_pick [0, 1, 3, 4, 5, 6, 7] rfl key12
        · rw [if_pos c24] at hf
          refine am_iload (am_dec tmX8_readClause_0 28 rfl) rfl ?_
          refine am_if_ne (tgt := 75) (am_dec tmX8_readClause_0 29 rfl) (by decide) (fun c28 => ?_) (fun c28 => ?_)
          · rw [if_neg c28] at hf
            refine am_iload_n (am_dec tmX8_readClause_0 36 rfl) rfl rfl ?_
            refine am_bipush (v := (16 : Int32)) (am_dec tmX8_readClause_0 37 rfl) (by decide) ?_
            refine am_icmp_lt (tgt := 90) (am_dec tmX8_readClause_0 38 rfl) (by decide) (fun c29 => ?_) (fun c29 => ?_)
            · rw [if_pos c29] at hf
              have hf := Option.some.inj hf
              subst hf
              exact am_pick [0, 1, 3, 4, 5, 6, 7] rfl key12
            · rw [if_neg c29] at hf
              refine am_aload_n (am_dec tmX8_readClause_0 39 rfl) rfl rfl ?_
              refine am_iconst (v := (3 : Int32)) (am_dec tmX8_readClause_0 40 rfl) (by decide) ?_
              refine am_aload_n (am_dec tmX8_readClause_0 41 rfl) rfl rfl ?_
              refine am_getI (j := 6) hE (am_dec tmX8_readClause_0 42 rfl) sh_69 cf8 (by decide) rfl lf_X8_71 ?_
              obtain ⟨x31, g30, hf⟩ := am_bd hf
              refine am_callV0 (As := [.int (3 : Int32), .int (D.1 69 6)]) (st := []) hE (am_dec tmX8_readClause_0 43 rfl) ok_X8_fail rfl lm_X8_56 in_X8_fail se_X8_fail sh_69 cf8 (c_X8_fail hE g30) rfl (by decide) (Nat.le_of_ble_eq_true rfl) (Nat.zero_le _) (Nat.zero_le _) rfl ?_
              have hf := Option.some.inj hf
              subst hf
              exact am_pick [0, 1, 3, 4, 5, 6, 7] rfl key12
          · rw [if_pos c28] at hf
            refine am_aload_n (am_dec tmX8_readClause_0 30 rfl) rfl rfl ?_
            refine am_iconst (v := (1 : Int32)) (am_dec tmX8_readClause_0 31 rfl) (by decide) ?_
            refine am_aload_n (am_dec tmX8_readClause_0 32 rfl) rfl rfl ?_
            refine am_getI (j := 6) hE (am_dec tmX8_readClause_0 33 rfl) sh_69 cf8 (by decide) rfl lf_X8_71 ?_
            obtain ⟨x33, g32, hf⟩ := am_bd hf
            refine am_callV0 (As := [.int (1 : Int32), .int (D.1 69 6)]) (st := []) hE (am_dec tmX8_readClause_0 34 rfl) ok_X8_fail rfl lm_X8_56 in_X8_fail se_X8_fail sh_69 cf8 (c_X8_fail hE g32) rfl (by decide) (Nat.le_of_ble_eq_true rfl) (Nat.zero_le _) (Nat.zero_le _) rfl ?_
            refine am_goto (tgt := 90) (am_dec tmX8_readClause_0 35 rfl) (by decide) ?_
            have hf := Option.some.inj hf
            subst hf
            exact am_pick [0, 1, 3, 4, 5, 6, 7] rfl key12
def f_X8_readEnd (D : am_D) : Option (am_D) :=
    if (D.1 69 2) = 0 then
    (f_X8_skipBlanks D).bind fun x3 =>
    (f_X8_byteAt (x3.1 69 4) x3).bind fun x5 =>
    if x5 = (59 : Int32) then
    (some (am_wI x3 69 4 ((x3.1 69 4) + (1 : Int32)))).bind fun D9 =>
    some D9
    else
    (f_X8_fail (1 : Int32) (x3.1 69 4) x3).bind fun x8 =>
    some x8
    else
    some D
set_option maxRecDepth 100000 in
set_option maxHeartbeats 4000000 in
theorem c_X8_readEnd {E : am_E} (hE : am_EH E) {D : am_D} {r : am_D}  (hf : f_X8_readEnd D = some r) : am_C E mX8_readEnd 3 0 0 [.ref 69] am_G0 D (.inl none) am_G0 r := by
  refine am_C_of (by decide +kernel) (Nat.le_of_ble_eq_true rfl) ?_
  change am_S E mX8_readEnd 3 0 0 (.inl none) am_G0 r 0 0 0 [(0, .ref 69)] [] am_G0 D
  unfold f_X8_readEnd at hf
  refine am_aload_n (am_dec tmX8_readEnd 0 rfl) rfl rfl ?_
  refine am_getI (j := 2) hE (am_dec tmX8_readEnd 1 rfl) sh_69 cf8 (by decide) rfl lf_X8_29 ?_
  refine am_if_eq (tgt := 8) (am_dec tmX8_readEnd 2 rfl) (by decide) (fun c1 => ?_) (fun c1 => ?_)
  · rw [if_pos c1] at hf
    refine am_aload_n (am_dec tmX8_readEnd 4 rfl) rfl rfl ?_
    obtain ⟨x3, g2, hf⟩ := am_bd hf
    refine am_callV0 (As := []) (st := []) hE (am_dec tmX8_readEnd 5 rfl) ok_X8_skipBlanks rfl lm_X8_130 in_X8_skipBlanks se_X8_skipBlanks sh_69 cf8 (c_X8_skipBlanks hE g2) rfl (by decide) (Nat.le_of_ble_eq_true rfl) (Nat.zero_le _) (Nat.zero_le _) rfl ?_
    refine am_aload_n (am_dec tmX8_readEnd 6 rfl) rfl rfl ?_
    refine am_aload_n (am_dec tmX8_readEnd 7 rfl) rfl rfl ?_
    refine am_getI (j := 4) hE (am_dec tmX8_readEnd 8 rfl) sh_69 cf8 (by decide) rfl lf_X8_19 ?_
    obtain ⟨x5, g4, hf⟩ := am_bd hf
    refine am_callV1 (As := [.int (x3.1 69 4)]) (st := []) hE (am_dec tmX8_readEnd 9 rfl) ok_X8_byteAt rfl lm_X8_122 in_X8_byteAt se_X8_byteAt sh_69 cf8 (c_X8_byteAt hE g4) rfl (by decide) (Nat.le_of_ble_eq_true rfl) (Nat.zero_le _) (Nat.zero_le _) rfl ?_
    refine am_bipush (v := (59 : Int32)) (am_dec tmX8_readEnd 10 rfl) (by decide) ?_
    refine am_icmp_ne (tgt := 38) (am_dec tmX8_readEnd 11 rfl) (by decide) (fun c6 => ?_) (fun c6 => ?_)
    · rw [if_neg c6] at hf
      refine am_aload_n (am_dec tmX8_readEnd 19 rfl) rfl rfl ?_
      refine am_iconst (v := (1 : Int32)) (am_dec tmX8_readEnd 20 rfl) (by decide) ?_
      refine am_aload_n (am_dec tmX8_readEnd 21 rfl) rfl rfl ?_
      refine am_getI (j := 4) hE (am_dec tmX8_readEnd 22 rfl) sh_69 cf8 (by decide) rfl lf_X8_19 ?_
      obtain ⟨x8, g7, hf⟩ := am_bd hf
      refine am_callV0 (As := [.int (1 : Int32), .int (x3.1 69 4)]) (st := []) hE (am_dec tmX8_readEnd 23 rfl) ok_X8_fail rfl lm_X8_56 in_X8_fail se_X8_fail sh_69 cf8 (c_X8_fail hE g7) rfl (by decide) (Nat.le_of_ble_eq_true rfl) (Nat.zero_le _) (Nat.zero_le _) rfl ?_
      have hf := Option.some.inj hf
      subst hf
      exact am_vret (am_dec tmX8_readEnd 24 rfl) rfl (Nat.zero_le _) (Nat.zero_le _)
    · rw [if_pos c6] at hf
      refine am_aload_n (am_dec tmX8_readEnd 12 rfl) rfl rfl ?_
      refine am_dup (am_dec tmX8_readEnd 13 rfl) rfl ?_
      refine am_getI (j := 4) hE (am_dec tmX8_readEnd 14 rfl) sh_69 cf8 (by decide) rfl lf_X8_19 ?_
      refine am_iconst (v := (1 : Int32)) (am_dec tmX8_readEnd 15 rfl) (by decide) ?_
      refine am_iadd (am_dec tmX8_readEnd 16 rfl) ?_
      obtain ⟨D9, g10, hf⟩ := am_bd hf
      refine am_putI2 (j := 4) hE (am_dec tmX8_readEnd 17 rfl) sh_69 cf8 (by decide) rfl lf_X8_19 rfl rfl rfl g10 ?_
      refine am_goto (tgt := 47) (am_dec tmX8_readEnd 18 rfl) (by decide) ?_
      have hf := Option.some.inj hf
      subst hf
      exact am_vret (am_dec tmX8_readEnd 24 rfl) rfl (Nat.zero_le _) (Nat.zero_le _)
  · rw [if_neg c1] at hf
    have hf := Option.some.inj hf
    subst hf
    exact am_vret (am_dec tmX8_readEnd 3 rfl) rfl (Nat.zero_le _) (Nat.zero_le _)
def f_X8_isLetter (p1 : Int32) (D : am_D) : Option (Int32) :=
    (f_X8_byteAt p1 D).bind fun x2 =>
    (f_X11_within x2 (97 : Int32) (122 : Int32)).bind fun x4 =>
    some x4
set_option maxRecDepth 100000 in
set_option maxHeartbeats 4000000 in
theorem c_X8_isLetter {E : am_E} (hE : am_EH E) {p1 : Int32} {D : am_D} {r : Int32}  (hf : f_X8_isLetter p1 D = some r) : am_C E mX8_isLetter 2 0 0 [.ref 69, .int p1] am_G0 D (.inl (some (.int r))) am_G0 D := by
  refine am_C_of (by decide +kernel) (Nat.le_of_ble_eq_true rfl) ?_
  change am_S E mX8_isLetter 2 0 0 (.inl (some (.int r))) am_G0 D 0 0 0 [(0, .ref 69), (1, .int p1)] [] am_G0 D
  unfold f_X8_isLetter at hf
  refine am_aload_n (am_dec tmX8_isLetter 0 rfl) rfl rfl ?_
  refine am_iload_n (am_dec tmX8_isLetter 1 rfl) rfl rfl ?_
  obtain ⟨x2, g1, hf⟩ := am_bd hf
  refine am_callV1 (As := [.int p1]) (st := []) hE (am_dec tmX8_isLetter 2 rfl) ok_X8_byteAt rfl lm_X8_122 in_X8_byteAt se_X8_byteAt sh_69 cf8 (c_X8_byteAt hE g1) rfl (by decide) (Nat.le_of_ble_eq_true rfl) (Nat.zero_le _) (Nat.zero_le _) rfl ?_
  refine am_bipush (v := (97 : Int32)) (am_dec tmX8_isLetter 3 rfl) (by decide) ?_
  refine am_bipush (v := (122 : Int32)) (am_dec tmX8_isLetter 4 rfl) (by decide) ?_
  obtain ⟨x4, g3, hf⟩ := am_bd hf
  refine am_callSN1 (As := [.int x2, .int (97 : Int32), .int (122 : Int32)]) (st := []) hE (am_dec tmX8_isLetter 5 rfl) ok_X11_within rfl lm_X8_126 st_X11_within (c_X11_within hE g3) rfl (by decide) (Nat.le_of_ble_eq_true rfl) (Nat.zero_le _) (Nat.zero_le _) rfl ?_
  have hf := Option.some.inj hf
  subst hf
  exact am_zret (am_dec tmX8_isLetter 6 rfl) rfl (z_X11_within g3) (Nat.zero_le _) (Nat.zero_le _)
theorem z_X8_isLetter {p1 : Int32} {D : am_D} {r : Int32} (hf : f_X8_isLetter p1 D = some r) : narrow .boolean (.int r) = .int r := by
  unfold f_X8_isLetter at hf
  obtain ⟨x2, g1, hf⟩ := am_bd hf
  obtain ⟨x4, g3, hf⟩ := am_bd hf
  have hf := Option.some.inj hf
  subst hf
  exact z_X11_within g3
def f_X8_readWord_L12  : Nat → am_D → Option (am_D)
  | 0, _ => none
  | n + 1, D =>
    if (D.1 69 5) ≤ (D.1 69 4) then
    some (D)
    else
    (f_X8_isLetter (D.1 69 4) D).bind fun x7 =>
    if x7 = 0 then
    some (D)
    else
    (some (am_wI D 69 4 ((D.1 69 4) + (1 : Int32)))).bind fun D9 =>
    f_X8_readWord_L12 n D9
def f_X8_readWord (D : am_D) : Option (am_D) :=
    (f_X8_skipBlanks D).bind fun x2 =>
    (some (am_wI x2 69 6 (x2.1 69 4))).bind fun D3 =>
    (f_X8_readWord_L12 am_fu D3).bind fun e11 =>
    some e11
set_option maxRecDepth 100000 in
set_option maxHeartbeats 4000000 in
theorem l_X8_readWord_L12 {E : am_E} (hE : am_EH E) {d mc ms : Nat} {o : am_O} {G2 : am_G} {D2 : am_D} (hdp : 3 ≤ d)   : ∀ (n : Nat)  (D : am_D) (ex0 : am_D), f_X8_readWord_L12  n  D = some ex0 → (∀ ex : am_D, ex0 = ex → am_S E mX8_readWord d mc ms o G2 D2 0 0 47 [] [] am_G0 ex) → am_S E mX8_readWord d mc ms o G2 D2 0 0 12 [(0, .ref 69)] [] am_G0 D
  | 0, _, _, hf, _ => by
    unfold f_X8_readWord_L12 at hf
    cases hf
  | n + 1, D, ex0, hf, hk0 => by
    unfold f_X8_readWord_L12 at hf
    refine am_aload_n (am_dec tmX8_readWord 6 rfl) rfl rfl ?_
    refine am_getI (j := 4) hE (am_dec tmX8_readWord 7 rfl) sh_69 cf8 (by decide) rfl lf_X8_19 ?_
    refine am_aload_n (am_dec tmX8_readWord 8 rfl) rfl rfl ?_
    refine am_getI (j := 5) hE (am_dec tmX8_readWord 9 rfl) sh_69 cf8 (by decide) rfl lf_X8_26 ?_
    refine am_icmp_ge (tgt := 47) (am_dec tmX8_readWord 10 rfl) (by decide) (fun c5 => ?_) (fun c5 => ?_)
    · rw [if_pos c5] at hf
      have hf := Option.some.inj hf
      subst hf
      exact am_pick [] rfl (hk0 _ rfl)
    · rw [if_neg c5] at hf
      refine am_aload_n (am_dec tmX8_readWord 11 rfl) rfl rfl ?_
      refine am_aload_n (am_dec tmX8_readWord 12 rfl) rfl rfl ?_
      refine am_getI (j := 4) hE (am_dec tmX8_readWord 13 rfl) sh_69 cf8 (by decide) rfl lf_X8_19 ?_
      obtain ⟨x7, g6, hf⟩ := am_bd hf
      refine am_callV1 (As := [.int (D.1 69 4)]) (st := []) hE (am_dec tmX8_readWord 14 rfl) ok_X8_isLetter rfl lm_X8_133 in_X8_isLetter se_X8_isLetter sh_69 cf8 (c_X8_isLetter hE g6) rfl (Nat.lt_of_lt_of_le (by decide) hdp) (Nat.le_of_ble_eq_true rfl) (Nat.zero_le _) (Nat.zero_le _) rfl ?_
      refine am_if_eq (tgt := 47) (am_dec tmX8_readWord 15 rfl) (by decide) (fun c8 => ?_) (fun c8 => ?_)
      · rw [if_pos c8] at hf
        have hf := Option.some.inj hf
        subst hf
        exact am_pick [] rfl (hk0 _ rfl)
      · rw [if_neg c8] at hf
        refine am_aload_n (am_dec tmX8_readWord 16 rfl) rfl rfl ?_
        refine am_dup (am_dec tmX8_readWord 17 rfl) rfl ?_
        refine am_getI (j := 4) hE (am_dec tmX8_readWord 18 rfl) sh_69 cf8 (by decide) rfl lf_X8_19 ?_
        refine am_iconst (v := (1 : Int32)) (am_dec tmX8_readWord 19 rfl) (by decide) ?_
        refine am_iadd (am_dec tmX8_readWord 20 rfl) ?_
        obtain ⟨D9, g10, hf⟩ := am_bd hf
        refine am_putI2 (j := 4) hE (am_dec tmX8_readWord 21 rfl) sh_69 cf8 (by decide) rfl lf_X8_19 rfl rfl rfl g10 ?_
        refine am_goto (tgt := 12) (am_dec tmX8_readWord 22 rfl) (by decide) ?_
        exact am_pick [0] rfl (l_X8_readWord_L12 hE hdp n D9 ex0 hf hk0)
set_option maxRecDepth 100000 in
set_option maxHeartbeats 4000000 in
theorem c_X8_readWord {E : am_E} (hE : am_EH E) {D : am_D} {r : am_D}  (hf : f_X8_readWord D = some r) : am_C E mX8_readWord 3 0 0 [.ref 69] am_G0 D (.inl none) am_G0 r := by
  refine am_C_of (by decide +kernel) (Nat.le_of_ble_eq_true rfl) ?_
  change am_S E mX8_readWord 3 0 0 (.inl none) am_G0 r 0 0 0 [(0, .ref 69)] [] am_G0 D
  unfold f_X8_readWord at hf
  refine am_aload_n (am_dec tmX8_readWord 0 rfl) rfl rfl ?_
  obtain ⟨x2, g1, hf⟩ := am_bd hf
  refine am_callV0 (As := []) (st := []) hE (am_dec tmX8_readWord 1 rfl) ok_X8_skipBlanks rfl lm_X8_130 in_X8_skipBlanks se_X8_skipBlanks sh_69 cf8 (c_X8_skipBlanks hE g1) rfl (by decide) (Nat.le_of_ble_eq_true rfl) (Nat.zero_le _) (Nat.zero_le _) rfl ?_
  refine am_aload_n (am_dec tmX8_readWord 2 rfl) rfl rfl ?_
  refine am_aload_n (am_dec tmX8_readWord 3 rfl) rfl rfl ?_
  refine am_getI (j := 4) hE (am_dec tmX8_readWord 4 rfl) sh_69 cf8 (by decide) rfl lf_X8_19 ?_
  obtain ⟨D3, g4, hf⟩ := am_bd hf
  refine am_putI2 (j := 6) hE (am_dec tmX8_readWord 5 rfl) sh_69 cf8 (by decide) rfl lf_X8_71 rfl rfl rfl g4 ?_
  obtain ⟨e11, g12, hf⟩ := am_bd hf
  refine am_pick [0] rfl (l_X8_readWord_L12 hE (Nat.le_refl _) am_fu _ _ g12 (fun ex he => ?_))
  subst he
  have hf := Option.some.inj hf
  subst hf
  exact am_vret (am_dec tmX8_readWord 23 rfl) rfl (Nat.zero_le _) (Nat.zero_le _)
def f_X8_readSound_L7 (q1 : Nat) : Nat → Int32 → am_D → Option (am_D)
  | 0, _, _ => none
  | n + 1, v2, D =>
    if (16 : Int32) < v2 then
    some (D)
    else
    (f_X8_moreComes D).bind fun x5 =>
    if x5.1 = 0 then
    some (x5.2)
    else
    (f_X8_readWord x5.2).bind fun x8 =>
    (f_X8_readClause q1 v2 x8).bind fun x10 =>
    (f_X8_readEnd x10).bind fun x12 =>
    f_X8_readSound_L7 q1 n (v2 + (1 : Int32)) x12
def f_X8_readSound (p1 : Nat) (D : am_D) : Option (am_D) :=
    (f_X7_start p1 (0 : Int32) D).bind fun x2 =>
    (f_X8_readSound_L7 p1 am_fu (0 : Int32) x2).bind fun e13 =>
    if (e13.1 p1 1) = 0 then
    (f_X8_fail (4 : Int32) (e13.1 69 5) e13).bind fun x16 =>
    some x16
    else
    some e13
set_option maxRecDepth 100000 in
set_option maxHeartbeats 4000000 in
theorem l_X8_readSound_L7 {E : am_E} (hE : am_EH E) {d mc ms : Nat} {o : am_O} {G2 : am_G} {D2 : am_D} (hdp : 9 ≤ d) {q1 : Nat} (h_q1 : am_sh am_G0 q1 = some (7, 2)) : ∀ (n : Nat) (v2 : Int32) (D : am_D) (ex0 : am_D), f_X8_readSound_L7 q1 n v2 D = some ex0 → (∀ ex : am_D, ex0 = ex → am_S E mX8_readSound d mc ms o G2 D2 0 0 40 [(0, .ref 69), (1, .ref q1)] [] am_G0 ex) → am_S E mX8_readSound d mc ms o G2 D2 0 0 7 [(0, .ref 69), (1, .ref q1), (2, .int v2)] [] am_G0 D
  | 0, _, _, _, hf, _ => by
    unfold f_X8_readSound_L7 at hf
    cases hf
  | n + 1, v2, D, ex0, hf, hk0 => by
    unfold f_X8_readSound_L7 at hf
    refine am_iload_n (am_dec tmX8_readSound 5 rfl) rfl rfl ?_
    refine am_bipush (v := (16 : Int32)) (am_dec tmX8_readSound 6 rfl) (by decide) ?_
    refine am_icmp_gt (tgt := 40) (am_dec tmX8_readSound 7 rfl) (by decide) (fun c3 => ?_) (fun c3 => ?_)
    · rw [if_pos c3] at hf
      have hf := Option.some.inj hf
      subst hf
      exact am_pick [0, 1] rfl (hk0 _ rfl)
    · rw [if_neg c3] at hf
      refine am_aload_n (am_dec tmX8_readSound 8 rfl) rfl rfl ?_
      obtain ⟨x5, g4, hf⟩ := am_bd hf
      refine am_callV1 (As := []) (st := []) hE (am_dec tmX8_readSound 9 rfl) ok_X8_moreComes rfl lm_X8_41 in_X8_moreComes se_X8_moreComes sh_69 cf8 (c_X8_moreComes hE g4) rfl (Nat.lt_of_lt_of_le (by decide) hdp) (Nat.le_of_ble_eq_true rfl) (Nat.zero_le _) (Nat.zero_le _) rfl ?_
      refine am_if_eq (tgt := 40) (am_dec tmX8_readSound 10 rfl) (by decide) (fun c6 => ?_) (fun c6 => ?_)
      · rw [if_pos c6] at hf
        have hf := Option.some.inj hf
        subst hf
        exact am_pick [0, 1] rfl (hk0 _ rfl)
      · rw [if_neg c6] at hf
        refine am_aload_n (am_dec tmX8_readSound 11 rfl) rfl rfl ?_
        obtain ⟨x8, g7, hf⟩ := am_bd hf
        refine am_callV0 (As := []) (st := []) hE (am_dec tmX8_readSound 12 rfl) ok_X8_readWord rfl lm_X8_45 in_X8_readWord se_X8_readWord sh_69 cf8 (c_X8_readWord hE g7) rfl (Nat.lt_of_lt_of_le (by decide) hdp) (Nat.le_of_ble_eq_true rfl) (Nat.zero_le _) (Nat.zero_le _) rfl ?_
        refine am_aload_n (am_dec tmX8_readSound 13 rfl) rfl rfl ?_
        refine am_aload_n (am_dec tmX8_readSound 14 rfl) rfl rfl ?_
        refine am_iload_n (am_dec tmX8_readSound 15 rfl) rfl rfl ?_
        obtain ⟨x10, g9, hf⟩ := am_bd hf
        refine am_callV0 (As := [.ref q1, .int v2]) (st := []) hE (am_dec tmX8_readSound 16 rfl) ok_X8_readClause rfl lm_X8_48 in_X8_readClause se_X8_readClause sh_69 cf8 (c_X8_readClause hE h_q1 g9) rfl (Nat.lt_of_lt_of_le (by decide) hdp) (Nat.le_of_ble_eq_true rfl) (Nat.zero_le _) (Nat.zero_le _) rfl ?_
        refine am_aload_n (am_dec tmX8_readSound 17 rfl) rfl rfl ?_
        obtain ⟨x12, g11, hf⟩ := am_bd hf
        refine am_callV0 (As := []) (st := []) hE (am_dec tmX8_readSound 18 rfl) ok_X8_readEnd rfl lm_X8_52 in_X8_readEnd se_X8_readEnd sh_69 cf8 (c_X8_readEnd hE g11) rfl (Nat.lt_of_lt_of_le (by decide) hdp) (Nat.le_of_ble_eq_true rfl) (Nat.zero_le _) (Nat.zero_le _) rfl ?_
        refine am_iinc (v := (1 : Int32)) (lv' := [(0, .ref 69), (1, .ref q1), (2, .int (v2 + (1 : Int32)))]) (am_dec tmX8_readSound 19 rfl) rfl (by decide) (by decide) rfl ?_
        refine am_goto (tgt := 7) (am_dec tmX8_readSound 20 rfl) (by decide) ?_
        exact am_pick [0, 1, 2] rfl (l_X8_readSound_L7 hE hdp h_q1 n (v2 + (1 : Int32)) x12 ex0 hf hk0)
set_option maxRecDepth 100000 in
set_option maxHeartbeats 4000000 in
theorem c_X8_readSound {E : am_E} (hE : am_EH E) {p1 : Nat} {D : am_D} {r : am_D} (h_p1 : am_sh am_G0 p1 = some (7, 2)) (hf : f_X8_readSound p1 D = some r) : am_C E mX8_readSound 9 0 0 [.ref 69, .ref p1] am_G0 D (.inl none) am_G0 r := by
  refine am_C_of (by decide +kernel) (Nat.le_of_ble_eq_true rfl) ?_
  change am_S E mX8_readSound 9 0 0 (.inl none) am_G0 r 0 0 0 [(0, .ref 69), (1, .ref p1)] [] am_G0 D
  unfold f_X8_readSound at hf
  refine am_aload_n (am_dec tmX8_readSound 0 rfl) rfl rfl ?_
  refine am_iconst (v := (0 : Int32)) (am_dec tmX8_readSound 1 rfl) (by decide) ?_
  obtain ⟨x2, g1, hf⟩ := am_bd hf
  refine am_callV0 (As := [.int (0 : Int32)]) (st := []) hE (am_dec tmX8_readSound 2 rfl) ok_X7_start rfl lm_X8_35 in_X7_start se_X7_start h_p1 cf7 (c_X7_start hE h_p1 g1) rfl (by decide) (Nat.le_of_ble_eq_true rfl) (Nat.zero_le _) (Nat.zero_le _) rfl ?_
  refine am_iconst (v := (0 : Int32)) (am_dec tmX8_readSound 3 rfl) (by decide) ?_
  refine am_istore_n (lv' := [(0, .ref 69), (1, .ref p1), (2, .int (0 : Int32))]) (am_dec tmX8_readSound 4 rfl) rfl (by decide) rfl ?_
  obtain ⟨e13, g17, hf⟩ := am_bd hf
  refine am_pick [0, 1, 2] rfl (l_X8_readSound_L7 hE (Nat.le_refl _) h_p1 am_fu _ _ _ g17 (fun ex he => ?_))
  subst he
  refine am_aload_n (am_dec tmX8_readSound 21 rfl) rfl rfl ?_
  refine am_getI (j := 1) hE (am_dec tmX8_readSound 22 rfl) h_p1 cf7 (by decide) rfl lf_X8_55 ?_
  refine am_if_ne (tgt := 56) (am_dec tmX8_readSound 23 rfl) (by decide) (fun c14 => ?_) (fun c14 => ?_)
  · rw [if_neg c14] at hf
    have hf := Option.some.inj hf
    subst hf
    exact am_vret (am_dec tmX8_readSound 29 rfl) rfl (Nat.zero_le _) (Nat.zero_le _)
  · rw [if_pos c14] at hf
    refine am_aload_n (am_dec tmX8_readSound 24 rfl) rfl rfl ?_
    refine am_iconst (v := (4 : Int32)) (am_dec tmX8_readSound 25 rfl) (by decide) ?_
    refine am_aload_n (am_dec tmX8_readSound 26 rfl) rfl rfl ?_
    refine am_getI (j := 5) hE (am_dec tmX8_readSound 27 rfl) sh_69 cf8 (by decide) rfl lf_X8_26 ?_
    obtain ⟨x16, g15, hf⟩ := am_bd hf
    refine am_callV0 (As := [.int (4 : Int32), .int (e13.1 69 5)]) (st := []) hE (am_dec tmX8_readSound 28 rfl) ok_X8_fail rfl lm_X8_56 in_X8_fail se_X8_fail sh_69 cf8 (c_X8_fail hE g15) rfl (by decide) (Nat.le_of_ble_eq_true rfl) (Nat.zero_le _) (Nat.zero_le _) rfl ?_
    have hf := Option.some.inj hf
    subst hf
    exact am_vret (am_dec tmX8_readSound 29 rfl) rfl (Nat.zero_le _) (Nat.zero_le _)
def f_X8_readMap_L6 (q1 : Nat) : Nat → Int32 → am_D → Option (am_D)
  | 0, _, _ => none
  | n + 1, v2, D =>
    if (12 : Int32) < v2 then
    some (D)
    else
    (f_X8_moreComes D).bind fun x5 =>
    if x5.1 = 0 then
    some (x5.2)
    else
    (f_X8_readWord x5.2).bind fun x8 =>
    (f_X8_isWord 6 x8).bind fun x10 =>
    (if x10 = 0 then
    (f_X8_fail (1 : Int32) (x8.1 69 6) x8).bind fun x17 =>
    some (x17)
    else
    if v2 = (12 : Int32) then
    (f_X8_fail (3 : Int32) (x8.1 69 6) x8).bind fun x15 =>
    some (x15)
    else
    some (x8)).bind fun w18 =>
    (f_X9_lastFrom q1 w18).bind fun x20 =>
    (f_X8_readNumber (x20 + (1 : Int32)) (600 : Int32) w18).bind fun x22 =>
    (f_X9_lastTo q1 x22.2).bind fun x24 =>
    (f_X8_readNumber (x24 + (1 : Int32)) (1200 : Int32) x22.2).bind fun x26 =>
    (f_X8_readEnd x26.2).bind fun x28 =>
    (if (x28.1 69 2) = 0 then
    (f_X9_add q1 x22.1 x26.1 x28).bind fun x32 =>
    some (x32)
    else
    some (x28)).bind fun w33 =>
    f_X8_readMap_L6 q1 n (v2 + (1 : Int32)) w33
def f_X8_readMap (p1 : Nat) (D : am_D) : Option (am_D) :=
    (f_X9_clear p1 D).bind fun x2 =>
    (f_X8_readMap_L6 p1 am_fu (0 : Int32) x2).bind fun e36 =>
    if (e36.1 p1 2) = 0 then
    (f_X8_fail (4 : Int32) (e36.1 69 5) e36).bind fun x39 =>
    some x39
    else
    some e36
set_option maxRecDepth 100000 in
set_option maxHeartbeats 4000000 in
theorem l_X8_readMap_L6 {E : am_E} (hE : am_EH E) {d mc ms : Nat} {o : am_O} {G2 : am_G} {D2 : am_D} (hdp : 8 ≤ d) {q1 : Nat} (h_q1 : am_sh am_G0 q1 = some (9, 3)) : ∀ (n : Nat) (v2 : Int32) (D : am_D) (ex0 : am_D), f_X8_readMap_L6 q1 n v2 D = some ex0 → (∀ ex : am_D, ex0 = ex → am_S E mX8_readMap d mc ms o G2 D2 0 0 112 [(0, .ref 69), (1, .ref q1)] [] am_G0 ex) → am_S E mX8_readMap d mc ms o G2 D2 0 0 6 [(0, .ref 69), (1, .ref q1), (2, .int v2)] [] am_G0 D
  | 0, _, _, _, hf, _ => by
    unfold f_X8_readMap_L6 at hf
    cases hf
  | n + 1, v2, D, ex0, hf, hk0 => by
    unfold f_X8_readMap_L6 at hf
    refine am_iload_n (am_dec tmX8_readMap_0 4 rfl) rfl rfl ?_
    refine am_bipush (v := (12 : Int32)) (am_dec tmX8_readMap_0 5 rfl) (by decide) ?_
    refine am_icmp_gt (tgt := 112) (am_dec tmX8_readMap_0 6 rfl) (by decide) (fun c3 => ?_) (fun c3 => ?_)
    · rw [if_pos c3] at hf
      have hf := Option.some.inj hf
      subst hf
      exact am_pick [0, 1] rfl (hk0 _ rfl)
    · rw [if_neg c3] at hf
      refine am_aload_n (am_dec tmX8_readMap_0 7 rfl) rfl rfl ?_
      obtain ⟨x5, g4, hf⟩ := am_bd hf
      refine am_callV1 (As := []) (st := []) hE (am_dec tmX8_readMap_0 8 rfl) ok_X8_moreComes rfl lm_X8_41 in_X8_moreComes se_X8_moreComes sh_69 cf8 (c_X8_moreComes hE g4) rfl (Nat.lt_of_lt_of_le (by decide) hdp) (Nat.le_of_ble_eq_true rfl) (Nat.zero_le _) (Nat.zero_le _) rfl ?_
      refine am_if_eq (tgt := 112) (am_dec tmX8_readMap_0 9 rfl) (by decide) (fun c6 => ?_) (fun c6 => ?_)
      · rw [if_pos c6] at hf
        have hf := Option.some.inj hf
        subst hf
        exact am_pick [0, 1] rfl (hk0 _ rfl)
      · rw [if_neg c6] at hf
        refine am_aload_n (am_dec tmX8_readMap_0 10 rfl) rfl rfl ?_
        obtain ⟨x8, g7, hf⟩ := am_bd hf
        refine am_callV0 (As := []) (st := []) hE (am_dec tmX8_readMap_0 11 rfl) ok_X8_readWord rfl lm_X8_45 in_X8_readWord se_X8_readWord sh_69 cf8 (c_X8_readWord hE g7) rfl (Nat.lt_of_lt_of_le (by decide) hdp) (Nat.le_of_ble_eq_true rfl) (Nat.zero_le _) (Nat.zero_le _) rfl ?_
        refine am_aload_n (am_dec tmX8_readMap_0 12 rfl) rfl rfl ?_
        refine am_ldcs hE 6 (am_dec tmX8_readMap_0 13 rfl) (by decide) rfl ?_
        obtain ⟨x10, g9, hf⟩ := am_bd hf
        refine am_callV1 (As := [.ref 6]) (st := []) hE (am_dec tmX8_readMap_0 14 rfl) ok_X8_isWord rfl lm_X8_67 in_X8_isWord se_X8_isWord sh_69 cf8 (c_X8_isWord hE ⟨by decide, by decide⟩ g9) rfl (Nat.lt_of_lt_of_le (by decide) hdp) (Nat.le_of_ble_eq_true rfl) (Nat.zero_le _) (Nat.zero_le _) rfl ?_
        obtain ⟨w18, g35, hf⟩ := am_bd hf
        have key12 : am_S E mX8_readMap d mc ms o G2 D2 0 0 59 [(0, .ref 69), (1, .ref q1), (2, .int v2)] [] am_G0 w18 := by
          refine am_aload_n (am_dec tmX8_readMap_0 30 rfl) rfl rfl ?_
          refine am_aload_n (am_dec tmX8_readMap_0 31 rfl) rfl rfl ?_
          obtain ⟨x20, g19, hf⟩ := am_bd hf
          refine am_callV1 (As := []) (st := [.ref 69]) hE (am_dec tmX8_readMap_0 32 rfl) ok_X9_lastFrom rfl lm_X8_74 in_X9_lastFrom se_X9_lastFrom h_q1 cf9 (c_X9_lastFrom hE h_q1 g19) rfl (Nat.lt_of_lt_of_le (by decide) hdp) (Nat.le_of_ble_eq_true rfl) (Nat.zero_le _) (Nat.zero_le _) rfl ?_
          refine am_iconst (v := (1 : Int32)) (am_dec tmX8_readMap_0 33 rfl) (by decide) ?_
          refine am_iadd (am_dec tmX8_readMap_0 34 rfl) ?_
          refine am_sipush (v := (600 : Int32)) (am_dec tmX8_readMap_0 35 rfl) (by decide) ?_
          obtain ⟨x22, g21, hf⟩ := am_bd hf
          refine am_callV1 (As := [.int (x20 + (1 : Int32)), .int (600 : Int32)]) (st := []) hE (am_dec tmX8_readMap_0 36 rfl) ok_X8_readNumber rfl lm_X8_78 in_X8_readNumber se_X8_readNumber sh_69 cf8 (c_X8_readNumber hE g21) rfl (Nat.lt_of_lt_of_le (by decide) hdp) (Nat.le_of_ble_eq_true rfl) (Nat.zero_le _) (Nat.zero_le _) rfl ?_
          refine am_istore_n (lv' := [(0, .ref 69), (1, .ref q1), (2, .int v2), (3, .int x22.1)]) (am_dec tmX8_readMap_0 37 rfl) rfl (by decide) rfl ?_
          refine am_aload_n (am_dec tmX8_readMap_0 38 rfl) rfl rfl ?_
          refine am_aload_n (am_dec tmX8_readMap_0 39 rfl) rfl rfl ?_
          obtain ⟨x24, g23, hf⟩ := am_bd hf
          refine am_callV1 (As := []) (st := [.ref 69]) hE (am_dec tmX8_readMap_0 40 rfl) ok_X9_lastTo rfl lm_X8_82 in_X9_lastTo se_X9_lastTo h_q1 cf9 (c_X9_lastTo hE h_q1 g23) rfl (Nat.lt_of_lt_of_le (by decide) hdp) (Nat.le_of_ble_eq_true rfl) (Nat.zero_le _) (Nat.zero_le _) rfl ?_
          refine am_iconst (v := (1 : Int32)) (am_dec tmX8_readMap_0 41 rfl) (by decide) ?_
          refine am_iadd (am_dec tmX8_readMap_0 42 rfl) ?_
          refine am_sipush (v := (1200 : Int32)) (am_dec tmX8_readMap_0 43 rfl) (by decide) ?_
          obtain ⟨x26, g25, hf⟩ := am_bd hf
          refine am_callV1 (As := [.int (x24 + (1 : Int32)), .int (1200 : Int32)]) (st := []) hE (am_dec tmX8_readMap_0 44 rfl) ok_X8_readNumber rfl lm_X8_78 in_X8_readNumber se_X8_readNumber sh_69 cf8 (c_X8_readNumber hE g25) rfl (Nat.lt_of_lt_of_le (by decide) hdp) (Nat.le_of_ble_eq_true rfl) (Nat.zero_le _) (Nat.zero_le _) rfl ?_
          refine am_istore (lv' := [(0, .ref 69), (1, .ref q1), (2, .int v2), (3, .int x22.1), (4, .int x26.1)]) (am_dec tmX8_readMap_0 45 rfl) (by decide) rfl ?_
          refine am_aload_n (am_dec tmX8_readMap_0 46 rfl) rfl rfl ?_
          obtain ⟨x28, g27, hf⟩ := am_bd hf
          refine am_callV0 (As := []) (st := []) hE (am_dec tmX8_readMap_0 47 rfl) ok_X8_readEnd rfl lm_X8_52 in_X8_readEnd se_X8_readEnd sh_69 cf8 (c_X8_readEnd hE g27) rfl (Nat.lt_of_lt_of_le (by decide) hdp) (Nat.le_of_ble_eq_true rfl) (Nat.zero_le _) (Nat.zero_le _) rfl ?_
          refine am_aload_n (am_dec tmX8_readMap_0 48 rfl) rfl rfl ?_
          refine am_getI (j := 2) hE (am_dec tmX8_readMap_0 49 rfl) sh_69 cf8 (by decide) rfl lf_X8_29 ?_
          obtain ⟨w33, g34, hf⟩ := am_bd hf
          have key30 : am_S E mX8_readMap d mc ms o G2 D2 0 0 106 [(0, .ref 69), (1, .ref q1), (2, .int v2)] [] am_G0 w33 := by
            refine am_iinc (v := (1 : Int32)) (lv' := [(0, .ref 69), (1, .ref q1), (2, .int (v2 + (1 : Int32)))]) (am_dec tmX8_readMap_0 55 rfl) rfl (by decide) (by decide) rfl ?_
            refine am_goto (tgt := 6) (am_dec tmX8_readMap_0 56 rfl) (by decide) ?_
            exact am_pick [0, 1, 2] rfl (l_X8_readMap_L6 hE hdp h_q1 n (v2 + (1 : Int32)) w33 ex0 hf hk0)
          replace hf := g34
          refine am_if_ne (tgt := 106) (am_dec tmX8_readMap_0 50 rfl) (by decide) (fun c29 => ?_) (fun c29 => ?_)
          · rw [if_neg c29] at hf
            have hf := Option.some.inj hf
            subst hf
            exact am_pick [0, 1, 2] rfl key30
          · rw [if_pos c29] at hf
            refine am_aload_n (am_dec tmX8_readMap_0 51 rfl) rfl rfl ?_
            refine am_iload_n (am_dec tmX8_readMap_0 52 rfl) rfl rfl ?_
            refine am_iload (am_dec tmX8_readMap_0 53 rfl) rfl ?_
            obtain ⟨x32, g31, hf⟩ := am_bd hf
            refine am_callV0 (As := [.int x22.1, .int x26.1]) (st := []) hE (am_dec tmX8_readMap_0 54 rfl) ok_X9_add rfl lm_X8_85 in_X9_add se_X9_add h_q1 cf9 (c_X9_add hE h_q1 g31) rfl (Nat.lt_of_lt_of_le (by decide) hdp) (Nat.le_of_ble_eq_true rfl) (Nat.zero_le _) (Nat.zero_le _) rfl ?_
            have hf := Option.some.inj hf
            subst hf
            exact am_pick [0, 1, 2] rfl key30
        replace hf := g35
        refine am_if_ne (tgt := 44) (am_dec tmX8_readMap_0 15 rfl) (by decide) (fun c11 => ?_) (fun c11 => ?_)
        · rw [if_neg c11] at hf
          refine am_iload_n (am_dec tmX8_readMap_0 22 rfl) rfl rfl ?_
          refine am_bipush (v := (12 : Int32)) (am_dec tmX8_readMap_0 23 rfl) (by decide) ?_
          refine am_icmp_ne (tgt := 59) (am_dec tmX8_readMap_0 24 rfl) (by decide) (fun c13 => ?_) (fun c13 => ?_)
          · rw [if_neg c13] at hf
            have hf := Option.some.inj hf
            subst hf
            exact am_pick [0, 1, 2] rfl key12
          · rw [if_pos c13] at hf
            refine am_aload_n (am_dec tmX8_readMap_0 25 rfl) rfl rfl ?_
            refine am_iconst (v := (3 : Int32)) (am_dec tmX8_readMap_0 26 rfl) (by decide) ?_
            refine am_aload_n (am_dec tmX8_readMap_0 27 rfl) rfl rfl ?_
            refine am_getI (j := 6) hE (am_dec tmX8_readMap_0 28 rfl) sh_69 cf8 (by decide) rfl lf_X8_71 ?_
            obtain ⟨x15, g14, hf⟩ := am_bd hf
            refine am_callV0 (As := [.int (3 : Int32), .int (x8.1 69 6)]) (st := []) hE (am_dec tmX8_readMap_0 29 rfl) ok_X8_fail rfl lm_X8_56 in_X8_fail se_X8_fail sh_69 cf8 (c_X8_fail hE g14) rfl (Nat.lt_of_lt_of_le (by decide) hdp) (Nat.le_of_ble_eq_true rfl) (Nat.zero_le _) (Nat.zero_le _) rfl ?_
            have hf := Option.some.inj hf
            subst hf
            exact am_pick [0, 1, 2] rfl key12
        · rw [if_pos c11] at hf
          refine am_aload_n (am_dec tmX8_readMap_0 16 rfl) rfl rfl ?_
          refine am_iconst (v := (1 : Int32)) (am_dec tmX8_readMap_0 17 rfl) (by decide) ?_
          refine am_aload_n (am_dec tmX8_readMap_0 18 rfl) rfl rfl ?_
          refine am_getI (j := 6) hE (am_dec tmX8_readMap_0 19 rfl) sh_69 cf8 (by decide) rfl lf_X8_71 ?_
          obtain ⟨x17, g16, hf⟩ := am_bd hf
          refine am_callV0 (As := [.int (1 : Int32), .int (x8.1 69 6)]) (st := []) hE (am_dec tmX8_readMap_0 20 rfl) ok_X8_fail rfl lm_X8_56 in_X8_fail se_X8_fail sh_69 cf8 (c_X8_fail hE g16) rfl (Nat.lt_of_lt_of_le (by decide) hdp) (Nat.le_of_ble_eq_true rfl) (Nat.zero_le _) (Nat.zero_le _) rfl ?_
          refine am_goto (tgt := 59) (am_dec tmX8_readMap_0 21 rfl) (by decide) ?_
          have hf := Option.some.inj hf
          subst hf
          exact am_pick [0, 1, 2] rfl key12
set_option maxRecDepth 100000 in
set_option maxHeartbeats 4000000 in
theorem c_X8_readMap {E : am_E} (hE : am_EH E) {p1 : Nat} {D : am_D} {r : am_D} (h_p1 : am_sh am_G0 p1 = some (9, 3)) (hf : f_X8_readMap p1 D = some r) : am_C E mX8_readMap 8 0 0 [.ref 69, .ref p1] am_G0 D (.inl none) am_G0 r := by
  refine am_C_of (by decide +kernel) (Nat.le_of_ble_eq_true rfl) ?_
  change am_S E mX8_readMap 8 0 0 (.inl none) am_G0 r 0 0 0 [(0, .ref 69), (1, .ref p1)] [] am_G0 D
  unfold f_X8_readMap at hf
  refine am_aload_n (am_dec tmX8_readMap_0 0 rfl) rfl rfl ?_
  obtain ⟨x2, g1, hf⟩ := am_bd hf
  refine am_callV0 (As := []) (st := []) hE (am_dec tmX8_readMap_0 1 rfl) ok_X9_clear rfl lm_X8_60 in_X9_clear se_X9_clear h_p1 cf9 (c_X9_clear hE h_p1 g1) rfl (by decide) (Nat.le_of_ble_eq_true rfl) (Nat.zero_le _) (Nat.zero_le _) rfl ?_
  refine am_iconst (v := (0 : Int32)) (am_dec tmX8_readMap_0 2 rfl) (by decide) ?_
  refine am_istore_n (lv' := [(0, .ref 69), (1, .ref p1), (2, .int (0 : Int32))]) (am_dec tmX8_readMap_0 3 rfl) rfl (by decide) rfl ?_
  obtain ⟨e36, g40, hf⟩ := am_bd hf
  refine am_pick [0, 1, 2] rfl (l_X8_readMap_L6 hE (Nat.le_refl _) h_p1 am_fu _ _ _ g40 (fun ex he => ?_))
  subst he
  refine am_aload_n (am_dec tmX8_readMap_0 57 rfl) rfl rfl ?_
  refine am_getI (j := 2) hE (am_dec tmX8_readMap_0 58 rfl) h_p1 cf9 (by decide) rfl lf_X8_88 ?_
  refine am_if_ne (tgt := 128) (am_dec tmX8_readMap_0 59 rfl) (by decide) (fun c37 => ?_) (fun c37 => ?_)
  · rw [if_neg c37] at hf
    have hf := Option.some.inj hf
    subst hf
    exact am_vret (am_dec tmX8_readMap_1 5 rfl) rfl (Nat.zero_le _) (Nat.zero_le _)
  · rw [if_pos c37] at hf
    refine am_aload_n (am_dec tmX8_readMap_1 0 rfl) rfl rfl ?_
    refine am_iconst (v := (4 : Int32)) (am_dec tmX8_readMap_1 1 rfl) (by decide) ?_
    refine am_aload_n (am_dec tmX8_readMap_1 2 rfl) rfl rfl ?_
    refine am_getI (j := 5) hE (am_dec tmX8_readMap_1 3 rfl) sh_69 cf8 (by decide) rfl lf_X8_26 ?_
    obtain ⟨x39, g38, hf⟩ := am_bd hf
    refine am_callV0 (As := [.int (4 : Int32), .int (e36.1 69 5)]) (st := []) hE (am_dec tmX8_readMap_1 4 rfl) ok_X8_fail rfl lm_X8_56 in_X8_fail se_X8_fail sh_69 cf8 (c_X8_fail hE g38) rfl (by decide) (Nat.le_of_ble_eq_true rfl) (Nat.zero_le _) (Nat.zero_le _) rfl ?_
    have hf := Option.some.inj hf
    subst hf
    exact am_vret (am_dec tmX8_readMap_1 5 rfl) rfl (Nat.zero_le _) (Nat.zero_le _)
def f_X9_addRest (r0 : Nat) (p1 : Int32) (D : am_D) : Option (am_D) :=
    (f_X9_lastTo r0 D).bind fun x2 =>
    (f_X9_lastFrom r0 D).bind fun x4 =>
    (f_X9_add r0 p1 ((x2 + p1) - x4) D).bind fun x6 =>
    some x6
set_option maxRecDepth 100000 in
set_option maxHeartbeats 4000000 in
theorem c_X9_addRest {E : am_E} (hE : am_EH E) {r0 : Nat} {p1 : Int32} {D : am_D} {r : am_D} (h_r0 : am_sh am_G0 r0 = some (9, 3)) (hf : f_X9_addRest r0 p1 D = some r) : am_C E mX9_addRest 3 0 0 [.ref r0, .int p1] am_G0 D (.inl none) am_G0 r := by
  refine am_C_of (by decide +kernel) (Nat.le_of_ble_eq_true rfl) ?_
  change am_S E mX9_addRest 3 0 0 (.inl none) am_G0 r 0 0 0 [(0, .ref r0), (1, .int p1)] [] am_G0 D
  unfold f_X9_addRest at hf
  refine am_aload_n (am_dec tmX9_addRest 0 rfl) rfl rfl ?_
  refine am_iload_n (am_dec tmX9_addRest 1 rfl) rfl rfl ?_
  refine am_aload_n (am_dec tmX9_addRest 2 rfl) rfl rfl ?_
  obtain ⟨x2, g1, hf⟩ := am_bd hf
  refine am_callV1 (As := []) (st := [.int p1, .ref r0]) hE (am_dec tmX9_addRest 3 rfl) ok_X9_lastTo rfl lm_X9_22 in_X9_lastTo se_X9_lastTo h_r0 cf9 (c_X9_lastTo hE h_r0 g1) rfl (by decide) (Nat.le_of_ble_eq_true rfl) (Nat.zero_le _) (Nat.zero_le _) rfl ?_
  refine am_iload_n (am_dec tmX9_addRest 4 rfl) rfl rfl ?_
  refine am_iadd (am_dec tmX9_addRest 5 rfl) ?_
  refine am_aload_n (am_dec tmX9_addRest 6 rfl) rfl rfl ?_
  obtain ⟨x4, g3, hf⟩ := am_bd hf
  refine am_callV1 (As := []) (st := [.int (x2 + p1), .int p1, .ref r0]) hE (am_dec tmX9_addRest 7 rfl) ok_X9_lastFrom rfl lm_X9_26 in_X9_lastFrom se_X9_lastFrom h_r0 cf9 (c_X9_lastFrom hE h_r0 g3) rfl (by decide) (Nat.le_of_ble_eq_true rfl) (Nat.zero_le _) (Nat.zero_le _) rfl ?_
  refine am_isub (am_dec tmX9_addRest 8 rfl) ?_
  obtain ⟨x6, g5, hf⟩ := am_bd hf
  refine am_callV0 (As := [.int p1, .int ((x2 + p1) - x4)]) (st := []) hE (am_dec tmX9_addRest 9 rfl) ok_X9_add rfl lm_X9_29 in_X9_add se_X9_add h_r0 cf9 (c_X9_add hE h_r0 g5) rfl (by decide) (Nat.le_of_ble_eq_true rfl) (Nat.zero_le _) (Nat.zero_le _) rfl ?_
  have hf := Option.some.inj hf
  subst hf
  exact am_vret (am_dec tmX9_addRest 10 rfl) rfl (Nat.zero_le _) (Nat.zero_le _)
def f_X10_pitchOf_L12 (q1 : Nat) (q2 : Int32) (q3 : Int32) (D : am_D) : Nat → Int32 → Int64 → Int64 → Int32 → Option (Int32)
  | 0, _, _, _, _ => none
  | n + 1, v4, v5, v7, v9 =>
    if (60 : Int32) < v9 then
    some (v4)
    else
    if q3 < ((2 : Int32) * v9) then
    some (v4)
    else
    (f_X7_unlike q1 q2 q1 (q2 + v9) (q3 - v9) D).bind fun x4 =>
    (if v4 = (-1 : Int32) then
    some (v9, (Int32.toInt64 x4), (Int32.toInt64 (q3 - v9)))
    else
    if 0 ≤ (lg_cmp ((Int32.toInt64 x4) * v7) (v5 * (Int32.toInt64 (q3 - v9)))) then
    some (v4, v5, v7)
    else
    some (v9, (Int32.toInt64 x4), (Int32.toInt64 (q3 - v9)))).bind fun w8 =>
    f_X10_pitchOf_L12 q1 q2 q3 D n w8.1 w8.2.1 w8.2.2 (v9 + (1 : Int32))
def f_X10_pitchOf (p1 : Nat) (p2 : Int32) (p3 : Int32) (D : am_D) : Option (Int32) :=
    (f_X10_pitchOf_L12 p1 p2 p3 D am_fu (-1 : Int32) (0 : Int64) (1 : Int64) (4 : Int32)).bind fun e10 =>
    some e10
set_option maxRecDepth 100000 in
set_option maxHeartbeats 4000000 in
theorem l_X10_pitchOf_L12 {E : am_E} (hE : am_EH E) {d mc ms : Nat} {o : am_O} {G2 : am_G} {D2 : am_D} (hdp : 3 ≤ d) {q1 : Nat} {q2 : Int32} {q3 : Int32} {D : am_D} (h_q1 : am_sh am_G0 q1 = some (7, 2)) : ∀ (n : Nat) (v4 : Int32) (v5 : Int64) (v7 : Int64) (v9 : Int32) (ex0 : Int32), f_X10_pitchOf_L12 q1 q2 q3 D n v4 v5 v7 v9 = some ex0 → (∀ ex : Int32, ex0 = ex → am_S E mX10_pitchOf d mc ms o G2 D2 0 0 89 [(4, .int ex)] [] am_G0 D) → am_S E mX10_pitchOf d mc ms o G2 D2 0 0 12 [(1, .ref q1), (2, .int q2), (3, .int q3), (4, .int v4), (5, .long v5), (7, .long v7), (9, .int v9)] [] am_G0 D
  | 0, _, _, _, _, _, hf, _ => by
    unfold f_X10_pitchOf_L12 at hf
    cases hf
  | n + 1, v4, v5, v7, v9, ex0, hf, hk0 => by
    unfold f_X10_pitchOf_L12 at hf
    refine am_iload (am_dec tmX10_pitchOf 8 rfl) rfl ?_
    refine am_bipush (v := (60 : Int32)) (am_dec tmX10_pitchOf 9 rfl) (by decide) ?_
    refine am_icmp_gt (tgt := 89) (am_dec tmX10_pitchOf 10 rfl) (by decide) (fun c1 => ?_) (fun c1 => ?_)
    · rw [if_pos c1] at hf
      have hf := Option.some.inj hf
      subst hf
      exact am_pick [3] rfl (hk0 _ rfl)
    · rw [if_neg c1] at hf
      refine am_iconst (v := (2 : Int32)) (am_dec tmX10_pitchOf 11 rfl) (by decide) ?_
      refine am_iload (am_dec tmX10_pitchOf 12 rfl) rfl ?_
      refine am_imul (am_dec tmX10_pitchOf 13 rfl) ?_
      refine am_iload_n (am_dec tmX10_pitchOf 14 rfl) rfl rfl ?_
      refine am_icmp_gt (tgt := 89) (am_dec tmX10_pitchOf 15 rfl) (by decide) (fun c2 => ?_) (fun c2 => ?_)
      · rw [if_pos c2] at hf
        have hf := Option.some.inj hf
        subst hf
        exact am_pick [3] rfl (hk0 _ rfl)
      · rw [if_neg c2] at hf
        refine am_aload_n (am_dec tmX10_pitchOf 16 rfl) rfl rfl ?_
        refine am_iload_n (am_dec tmX10_pitchOf 17 rfl) rfl rfl ?_
        refine am_aload_n (am_dec tmX10_pitchOf 18 rfl) rfl rfl ?_
        refine am_iload_n (am_dec tmX10_pitchOf 19 rfl) rfl rfl ?_
        refine am_iload (am_dec tmX10_pitchOf 20 rfl) rfl ?_
        refine am_iadd (am_dec tmX10_pitchOf 21 rfl) ?_
        refine am_iload_n (am_dec tmX10_pitchOf 22 rfl) rfl rfl ?_
        refine am_iload (am_dec tmX10_pitchOf 23 rfl) rfl ?_
        refine am_isub (am_dec tmX10_pitchOf 24 rfl) ?_
        obtain ⟨x4, g3, hf⟩ := am_bd hf
        refine am_callV1 (As := [.int q2, .ref q1, .int (q2 + v9), .int (q3 - v9)]) (st := []) hE (am_dec tmX10_pitchOf 25 rfl) ok_X7_unlike rfl lm_X10_15 in_X7_unlike se_X7_unlike h_q1 cf7 (c_X7_unlike hE h_q1 h_q1 g3) rfl (Nat.lt_of_lt_of_le (by decide) hdp) (Nat.le_of_ble_eq_true rfl) (Nat.zero_le _) (Nat.zero_le _) rfl ?_
        refine am_i2l (am_dec tmX10_pitchOf 26 rfl) ?_
        refine am_lstore (lv' := [(1, .ref q1), (2, .int q2), (3, .int q3), (4, .int v4), (5, .long v5), (7, .long v7), (9, .int v9), (10, .long (Int32.toInt64 x4))]) (am_dec tmX10_pitchOf 27 rfl) (by decide) rfl ?_
        refine am_iload_n (am_dec tmX10_pitchOf 28 rfl) rfl rfl ?_
        refine am_iload (am_dec tmX10_pitchOf 29 rfl) rfl ?_
        refine am_isub (am_dec tmX10_pitchOf 30 rfl) ?_
        refine am_i2l (am_dec tmX10_pitchOf 31 rfl) ?_
        refine am_lstore (lv' := [(1, .ref q1), (2, .int q2), (3, .int q3), (4, .int v4), (5, .long v5), (7, .long v7), (9, .int v9), (10, .long (Int32.toInt64 x4)), (12, .long (Int32.toInt64 (q3 - v9)))]) (am_dec tmX10_pitchOf 32 rfl) (by decide) rfl ?_
        refine am_iload (am_dec tmX10_pitchOf 33 rfl) rfl ?_
        refine am_iconst (v := (-1 : Int32)) (am_dec tmX10_pitchOf 34 rfl) (by decide) ?_
        obtain ⟨w8, g9, hf⟩ := am_bd hf
        have key6 : am_S E mX10_pitchOf d mc ms o G2 D2 0 0 83 [(1, .ref q1), (2, .int q2), (3, .int q3), (4, .int w8.1), (5, .long w8.2.1), (7, .long w8.2.2), (9, .int v9)] [] am_G0 D := by
          refine am_iinc (v := (1 : Int32)) (lv' := [(1, .ref q1), (2, .int q2), (3, .int q3), (4, .int w8.1), (5, .long w8.2.1), (7, .long w8.2.2), (9, .int (v9 + (1 : Int32)))]) (am_dec tmX10_pitchOf 50 rfl) rfl (by decide) (by decide) rfl ?_
          refine am_goto (tgt := 12) (am_dec tmX10_pitchOf 51 rfl) (by decide) ?_
          exact am_pick [0, 1, 2, 3, 4, 5, 6] rfl (l_X10_pitchOf_L12 hE hdp h_q1 n w8.1 w8.2.1 w8.2.2 (v9 + (1 : Int32)) ex0 hf hk0)
        replace hf := g9
        refine am_icmp_eq (tgt := 71) (am_dec tmX10_pitchOf 35 rfl) (by decide) (fun c5 => ?_) (fun c5 => ?_)
        · rw [if_pos c5] at hf
          refine am_iload (am_dec tmX10_pitchOf 44 rfl) rfl ?_
          refine am_istore (lv' := [(1, .ref q1), (2, .int q2), (3, .int q3), (4, .int v9), (5, .long v5), (7, .long v7), (9, .int v9), (10, .long (Int32.toInt64 x4)), (12, .long (Int32.toInt64 (q3 - v9)))]) (am_dec tmX10_pitchOf 45 rfl) (by decide) rfl ?_
          refine am_lload (am_dec tmX10_pitchOf 46 rfl) rfl ?_
          refine am_lstore (lv' := [(1, .ref q1), (2, .int q2), (3, .int q3), (4, .int v9), (5, .long (Int32.toInt64 x4)), (7, .long v7), (9, .int v9), (10, .long (Int32.toInt64 x4)), (12, .long (Int32.toInt64 (q3 - v9)))]) (am_dec tmX10_pitchOf 47 rfl) (by decide) rfl ?_
          refine am_lload (am_dec tmX10_pitchOf 48 rfl) rfl ?_
          refine am_lstore (lv' := [(1, .ref q1), (2, .int q2), (3, .int q3), (4, .int v9), (5, .long (Int32.toInt64 x4)), (7, .long (Int32.toInt64 (q3 - v9))), (9, .int v9), (10, .long (Int32.toInt64 x4)), (12, .long (Int32.toInt64 (q3 - v9)))]) (am_dec tmX10_pitchOf 49 rfl) (by decide) rfl ?_
          have hf := Option.some.inj hf
          subst hf
          exact am_pick [0, 1, 2, 3, 4, 5, 6] rfl key6
        · rw [if_neg c5] at hf
          refine am_lload (am_dec tmX10_pitchOf 36 rfl) rfl ?_
          refine am_lload (am_dec tmX10_pitchOf 37 rfl) rfl ?_
          refine am_lmul (am_dec tmX10_pitchOf 38 rfl) ?_
          refine am_lload (am_dec tmX10_pitchOf 39 rfl) rfl ?_
          refine am_lload (am_dec tmX10_pitchOf 40 rfl) rfl ?_
          refine am_lmul (am_dec tmX10_pitchOf 41 rfl) ?_
          refine am_lcmp (am_dec tmX10_pitchOf 42 rfl) ?_
          refine am_if_ge (tgt := 83) (am_dec tmX10_pitchOf 43 rfl) (by decide) (fun c7 => ?_) (fun c7 => ?_)
          · rw [if_pos c7] at hf
            have hf := Option.some.inj hf
            subst hf
            exact am_pick [0, 1, 2, 3, 4, 5, 6] rfl key6
          · rw [if_neg c7] at hf
            refine am_iload (am_dec tmX10_pitchOf 44 rfl) rfl ?_
            refine am_istore (lv' := [(1, .ref q1), (2, .int q2), (3, .int q3), (4, .int v9), (5, .long v5), (7, .long v7), (9, .int v9), (10, .long (Int32.toInt64 x4)), (12, .long (Int32.toInt64 (q3 - v9)))]) (am_dec tmX10_pitchOf 45 rfl) (by decide) rfl ?_
            refine am_lload (am_dec tmX10_pitchOf 46 rfl) rfl ?_
            refine am_lstore (lv' := [(1, .ref q1), (2, .int q2), (3, .int q3), (4, .int v9), (5, .long (Int32.toInt64 x4)), (7, .long v7), (9, .int v9), (10, .long (Int32.toInt64 x4)), (12, .long (Int32.toInt64 (q3 - v9)))]) (am_dec tmX10_pitchOf 47 rfl) (by decide) rfl ?_
            refine am_lload (am_dec tmX10_pitchOf 48 rfl) rfl ?_
            refine am_lstore (lv' := [(1, .ref q1), (2, .int q2), (3, .int q3), (4, .int v9), (5, .long (Int32.toInt64 x4)), (7, .long (Int32.toInt64 (q3 - v9))), (9, .int v9), (10, .long (Int32.toInt64 x4)), (12, .long (Int32.toInt64 (q3 - v9)))]) (am_dec tmX10_pitchOf 49 rfl) (by decide) rfl ?_
            have hf := Option.some.inj hf
            subst hf
            exact am_pick [0, 1, 2, 3, 4, 5, 6] rfl key6
set_option maxRecDepth 100000 in
set_option maxHeartbeats 4000000 in
theorem c_X10_pitchOf {E : am_E} (hE : am_EH E) {p1 : Nat} {p2 : Int32} {p3 : Int32} {D : am_D} {r : Int32} (h_p1 : am_sh am_G0 p1 = some (7, 2)) (hf : f_X10_pitchOf p1 p2 p3 D = some r) : am_C E mX10_pitchOf 3 0 0 [.ref 114, .ref p1, .int p2, .int p3] am_G0 D (.inl (some (.int r))) am_G0 D := by
  refine am_C_of (by decide +kernel) (Nat.le_of_ble_eq_true rfl) ?_
  change am_S E mX10_pitchOf 3 0 0 (.inl (some (.int r))) am_G0 D 0 0 0 [(0, .ref 114), (1, .ref p1), (2, .int p2), (3, .int p3)] [] am_G0 D
  unfold f_X10_pitchOf at hf
  refine am_iconst (v := (-1 : Int32)) (am_dec tmX10_pitchOf 0 rfl) (by decide) ?_
  refine am_istore (lv' := [(0, .ref 114), (1, .ref p1), (2, .int p2), (3, .int p3), (4, .int (-1 : Int32))]) (am_dec tmX10_pitchOf 1 rfl) (by decide) rfl ?_
  refine am_lconst (v := (0 : Int64)) (am_dec tmX10_pitchOf 2 rfl) (by decide) ?_
  refine am_lstore (lv' := [(0, .ref 114), (1, .ref p1), (2, .int p2), (3, .int p3), (4, .int (-1 : Int32)), (5, .long (0 : Int64))]) (am_dec tmX10_pitchOf 3 rfl) (by decide) rfl ?_
  refine am_lconst (v := (1 : Int64)) (am_dec tmX10_pitchOf 4 rfl) (by decide) ?_
  refine am_lstore (lv' := [(0, .ref 114), (1, .ref p1), (2, .int p2), (3, .int p3), (4, .int (-1 : Int32)), (5, .long (0 : Int64)), (7, .long (1 : Int64))]) (am_dec tmX10_pitchOf 5 rfl) (by decide) rfl ?_
  refine am_iconst (v := (4 : Int32)) (am_dec tmX10_pitchOf 6 rfl) (by decide) ?_
  refine am_istore (lv' := [(0, .ref 114), (1, .ref p1), (2, .int p2), (3, .int p3), (4, .int (-1 : Int32)), (5, .long (0 : Int64)), (7, .long (1 : Int64)), (9, .int (4 : Int32))]) (am_dec tmX10_pitchOf 7 rfl) (by decide) rfl ?_
  obtain ⟨e10, g11, hf⟩ := am_bd hf
  refine am_pick [1, 2, 3, 4, 5, 6, 7] rfl (l_X10_pitchOf_L12 hE (Nat.le_refl _) h_p1 am_fu _ _ _ _ _ g11 (fun ex he => ?_))
  subst he
  refine am_iload (am_dec tmX10_pitchOf 52 rfl) rfl ?_
  have hf := Option.some.inj hf
  subst hf
  exact am_iret (am_dec tmX10_pitchOf 53 rfl) rfl (Nat.zero_le _) (Nat.zero_le _)
def f_X10_turn_L13 (q1 : Nat) (q2 : Int32) (q3 : Int32) (q4 : Int32) : Nat → Int32 → am_D → Option (am_D)
  | 0, _, _ => none
  | n + 1, v5, D =>
    if q4 ≤ v5 then
    some (D)
    else
    (f_X7_at q1 (q3 + v5) D).bind fun x7 =>
    (f_X11_left v5 q2).bind fun x9 =>
    (f_X11_left (x9 + (q2 / (4 : Int32))) q2).bind fun x11 =>
    (if q2 ≤ ((2 : Int32) * x9) then
    some ((-x7))
    else
    some (x7)).bind fun w14 =>
    (some (am_wI D 114 1 ((D.1 114 1) + w14))).bind fun D15 =>
    (if q2 ≤ ((2 : Int32) * x11) then
    some ((-x7))
    else
    some (x7)).bind fun w19 =>
    (some (am_wI D15 114 2 ((D15.1 114 2) + w19))).bind fun D20 =>
    f_X10_turn_L13 q1 q2 q3 q4 n (v5 + (1 : Int32)) D20
def f_X10_turn (p1 : Nat) (p2 : Int32) (p3 : Int32) (p4 : Int32) (D : am_D) : Option (am_D) :=
    (some (am_wI D 114 1 (0 : Int32))).bind fun D1 =>
    (some (am_wI D1 114 2 (0 : Int32))).bind fun D3 =>
    (f_X10_turn_L13 p1 p2 p3 p4 am_fu (0 : Int32) D3).bind fun e24 =>
    some e24
set_option maxRecDepth 100000 in
set_option maxHeartbeats 4000000 in
theorem l_X10_turn_L13 {E : am_E} (hE : am_EH E) {d mc ms : Nat} {o : am_O} {G2 : am_G} {D2 : am_D} (hdp : 2 ≤ d) {q1 : Nat} {q2 : Int32} {q3 : Int32} {q4 : Int32} (h_q1 : am_sh am_G0 q1 = some (7, 2)) : ∀ (n : Nat) (v5 : Int32) (D : am_D) (ex0 : am_D), f_X10_turn_L13 q1 q2 q3 q4 n v5 D = some ex0 → (∀ ex : am_D, ex0 = ex → am_S E mX10_turn d mc ms o G2 D2 0 0 106 [] [] am_G0 ex) → am_S E mX10_turn d mc ms o G2 D2 0 0 13 [(0, .ref 114), (1, .ref q1), (2, .int q2), (3, .int q3), (4, .int q4), (5, .int v5)] [] am_G0 D
  | 0, _, _, _, hf, _ => by
    unfold f_X10_turn_L13 at hf
    cases hf
  | n + 1, v5, D, ex0, hf, hk0 => by
    unfold f_X10_turn_L13 at hf
    refine am_iload (am_dec tmX10_turn 8 rfl) rfl ?_
    refine am_iload (am_dec tmX10_turn 9 rfl) rfl ?_
    refine am_icmp_ge (tgt := 106) (am_dec tmX10_turn 10 rfl) (by decide) (fun c5 => ?_) (fun c5 => ?_)
    · rw [if_pos c5] at hf
      have hf := Option.some.inj hf
      subst hf
      exact am_pick [] rfl (hk0 _ rfl)
    · rw [if_neg c5] at hf
      refine am_aload_n (am_dec tmX10_turn 11 rfl) rfl rfl ?_
      refine am_iload_n (am_dec tmX10_turn 12 rfl) rfl rfl ?_
      refine am_iload (am_dec tmX10_turn 13 rfl) rfl ?_
      refine am_iadd (am_dec tmX10_turn 14 rfl) ?_
      obtain ⟨x7, g6, hf⟩ := am_bd hf
      refine am_callV1 (As := [.int (q3 + v5)]) (st := []) hE (am_dec tmX10_turn 15 rfl) ok_X7_at rfl lm_X10_28 in_X7_at se_X7_at h_q1 cf7 (c_X7_at hE h_q1 g6) rfl (Nat.lt_of_lt_of_le (by decide) hdp) (Nat.le_of_ble_eq_true rfl) (Nat.zero_le _) (Nat.zero_le _) rfl ?_
      refine am_istore (lv' := [(0, .ref 114), (1, .ref q1), (2, .int q2), (3, .int q3), (4, .int q4), (5, .int v5), (6, .int x7)]) (am_dec tmX10_turn 16 rfl) (by decide) rfl ?_
      refine am_iload (am_dec tmX10_turn 17 rfl) rfl ?_
      refine am_iload_n (am_dec tmX10_turn 18 rfl) rfl rfl ?_
      obtain ⟨x9, g8, hf⟩ := am_bd hf
      refine am_callSN1 (As := [.int v5, .int q2]) (st := []) hE (am_dec tmX10_turn 19 rfl) ok_X11_left rfl lm_X10_32 st_X11_left (c_X11_left hE g8) rfl (Nat.lt_of_lt_of_le (by decide) hdp) (Nat.le_of_ble_eq_true rfl) (Nat.zero_le _) (Nat.zero_le _) rfl ?_
      refine am_istore (lv' := [(0, .ref 114), (1, .ref q1), (2, .int q2), (3, .int q3), (4, .int q4), (5, .int v5), (6, .int x7), (7, .int x9)]) (am_dec tmX10_turn 20 rfl) (by decide) rfl ?_
      refine am_iload (am_dec tmX10_turn 21 rfl) rfl ?_
      refine am_iload_n (am_dec tmX10_turn 22 rfl) rfl rfl ?_
      refine am_iconst (v := (4 : Int32)) (am_dec tmX10_turn 23 rfl) (by decide) ?_
      refine am_idiv (am_dec tmX10_turn 24 rfl) (by decide) ?_
      refine am_iadd (am_dec tmX10_turn 25 rfl) ?_
      refine am_iload_n (am_dec tmX10_turn 26 rfl) rfl rfl ?_
      obtain ⟨x11, g10, hf⟩ := am_bd hf
      refine am_callSN1 (As := [.int (x9 + (q2 / (4 : Int32))), .int q2]) (st := []) hE (am_dec tmX10_turn 27 rfl) ok_X11_left rfl lm_X10_32 st_X11_left (c_X11_left hE g10) rfl (Nat.lt_of_lt_of_le (by decide) hdp) (Nat.le_of_ble_eq_true rfl) (Nat.zero_le _) (Nat.zero_le _) rfl ?_
      refine am_istore (lv' := [(0, .ref 114), (1, .ref q1), (2, .int q2), (3, .int q3), (4, .int q4), (5, .int v5), (6, .int x7), (7, .int x9), (8, .int x11)]) (am_dec tmX10_turn 28 rfl) (by decide) rfl ?_
      refine am_aload_n (am_dec tmX10_turn 29 rfl) rfl rfl ?_
      refine am_dup (am_dec tmX10_turn 30 rfl) rfl ?_
      refine am_getI (j := 1) hE (am_dec tmX10_turn 31 rfl) sh_114 cf10 (by decide) rfl lf_X10_21 ?_
      refine am_iconst (v := (2 : Int32)) (am_dec tmX10_turn 32 rfl) (by decide) ?_
      refine am_iload (am_dec tmX10_turn 33 rfl) rfl ?_
      refine am_imul (am_dec tmX10_turn 34 rfl) ?_
      refine am_iload_n (am_dec tmX10_turn 35 rfl) rfl rfl ?_
      obtain ⟨w14, g23, hf⟩ := am_bd hf
      have key13 : am_S E mX10_turn d mc ms o G2 D2 0 0 71 [(0, .ref 114), (1, .ref q1), (2, .int q2), (3, .int q3), (4, .int q4), (5, .int v5), (6, .int x7), (8, .int x11)] [.int w14, .int (D.1 114 1), .ref 114] am_G0 D := by
        refine am_iadd (am_dec tmX10_turn 41 rfl) ?_
        obtain ⟨D15, g16, hf⟩ := am_bd hf
        refine am_putI2 (j := 1) hE (am_dec tmX10_turn 42 rfl) sh_114 cf10 (by decide) rfl lf_X10_21 rfl rfl rfl g16 ?_
        refine am_aload_n (am_dec tmX10_turn 43 rfl) rfl rfl ?_
        refine am_dup (am_dec tmX10_turn 44 rfl) rfl ?_
        refine am_getI (j := 2) hE (am_dec tmX10_turn 45 rfl) sh_114 cf10 (by decide) rfl lf_X10_25 ?_
        refine am_iconst (v := (2 : Int32)) (am_dec tmX10_turn 46 rfl) (by decide) ?_
        refine am_iload (am_dec tmX10_turn 47 rfl) rfl ?_
        refine am_imul (am_dec tmX10_turn 48 rfl) ?_
        refine am_iload_n (am_dec tmX10_turn 49 rfl) rfl rfl ?_
        obtain ⟨w19, g22, hf⟩ := am_bd hf
        have key18 : am_S E mX10_turn d mc ms o G2 D2 0 0 96 [(0, .ref 114), (1, .ref q1), (2, .int q2), (3, .int q3), (4, .int q4), (5, .int v5)] [.int w19, .int (D15.1 114 2), .ref 114] am_G0 D15 := by
          refine am_iadd (am_dec tmX10_turn 55 rfl) ?_
          obtain ⟨D20, g21, hf⟩ := am_bd hf
          refine am_putI2 (j := 2) hE (am_dec tmX10_turn 56 rfl) sh_114 cf10 (by decide) rfl lf_X10_25 rfl rfl rfl g21 ?_
          refine am_iinc (v := (1 : Int32)) (lv' := [(0, .ref 114), (1, .ref q1), (2, .int q2), (3, .int q3), (4, .int q4), (5, .int (v5 + (1 : Int32)))]) (am_dec tmX10_turn 57 rfl) rfl (by decide) (by decide) rfl ?_
          refine am_goto (tgt := 13) (am_dec tmX10_turn 58 rfl) (by decide) ?_
          exact am_pick [0, 1, 2, 3, 4, 5] rfl (l_X10_turn_L13 hE hdp h_q1 n (v5 + (1 : Int32)) D20 ex0 hf hk0)
        replace hf := g22
        refine am_icmp_ge (tgt := 93) (am_dec tmX10_turn 50 rfl) (by decide) (fun c17 => ?_) (fun c17 => ?_)
        · rw [if_pos c17] at hf
          refine am_iload (am_dec tmX10_turn 53 rfl) rfl ?_
          refine am_ineg (am_dec tmX10_turn 54 rfl) ?_
          have hf := Option.some.inj hf
          subst hf
          exact am_pick [0, 1, 2, 3, 4, 5] rfl key18
        · rw [if_neg c17] at hf
          refine am_iload (am_dec tmX10_turn 51 rfl) rfl ?_
          refine am_goto (tgt := 96) (am_dec tmX10_turn 52 rfl) (by decide) ?_
          have hf := Option.some.inj hf
          subst hf
          exact am_pick [0, 1, 2, 3, 4, 5] rfl key18
      replace hf := g23
      refine am_icmp_ge (tgt := 68) (am_dec tmX10_turn 36 rfl) (by decide) (fun c12 => ?_) (fun c12 => ?_)
      · rw [if_pos c12] at hf
        refine am_iload (am_dec tmX10_turn 39 rfl) rfl ?_
        refine am_ineg (am_dec tmX10_turn 40 rfl) ?_
        have hf := Option.some.inj hf
        subst hf
        exact am_pick [0, 1, 2, 3, 4, 5, 6, 8] rfl key13
      · rw [if_neg c12] at hf
        refine am_iload (am_dec tmX10_turn 37 rfl) rfl ?_
        refine am_goto (tgt := 71) (am_dec tmX10_turn 38 rfl) (by decide) ?_
        have hf := Option.some.inj hf
        subst hf
        exact am_pick [0, 1, 2, 3, 4, 5, 6, 8] rfl key13
set_option maxRecDepth 100000 in
set_option maxHeartbeats 4000000 in
theorem c_X10_turn {E : am_E} (hE : am_EH E) {p1 : Nat} {p2 : Int32} {p3 : Int32} {p4 : Int32} {D : am_D} {r : am_D} (h_p1 : am_sh am_G0 p1 = some (7, 2)) (hf : f_X10_turn p1 p2 p3 p4 D = some r) : am_C E mX10_turn 2 0 0 [.ref 114, .ref p1, .int p2, .int p3, .int p4] am_G0 D (.inl none) am_G0 r := by
  refine am_C_of (by decide +kernel) (Nat.le_of_ble_eq_true rfl) ?_
  change am_S E mX10_turn 2 0 0 (.inl none) am_G0 r 0 0 0 [(0, .ref 114), (1, .ref p1), (2, .int p2), (3, .int p3), (4, .int p4)] [] am_G0 D
  unfold f_X10_turn at hf
  refine am_aload_n (am_dec tmX10_turn 0 rfl) rfl rfl ?_
  refine am_iconst (v := (0 : Int32)) (am_dec tmX10_turn 1 rfl) (by decide) ?_
  obtain ⟨D1, g2, hf⟩ := am_bd hf
  refine am_putI2 (j := 1) hE (am_dec tmX10_turn 2 rfl) sh_114 cf10 (by decide) rfl lf_X10_21 rfl rfl rfl g2 ?_
  refine am_aload_n (am_dec tmX10_turn 3 rfl) rfl rfl ?_
  refine am_iconst (v := (0 : Int32)) (am_dec tmX10_turn 4 rfl) (by decide) ?_
  obtain ⟨D3, g4, hf⟩ := am_bd hf
  refine am_putI2 (j := 2) hE (am_dec tmX10_turn 5 rfl) sh_114 cf10 (by decide) rfl lf_X10_25 rfl rfl rfl g4 ?_
  refine am_iconst (v := (0 : Int32)) (am_dec tmX10_turn 6 rfl) (by decide) ?_
  refine am_istore (lv' := [(0, .ref 114), (1, .ref p1), (2, .int p2), (3, .int p3), (4, .int p4), (5, .int (0 : Int32))]) (am_dec tmX10_turn 7 rfl) (by decide) rfl ?_
  obtain ⟨e24, g25, hf⟩ := am_bd hf
  refine am_pick [0, 1, 2, 3, 4, 5] rfl (l_X10_turn_L13 hE (Nat.le_refl _) h_p1 am_fu _ _ _ g25 (fun ex he => ?_))
  subst he
  have hf := Option.some.inj hf
  subst hf
  exact am_vret (am_dec tmX10_turn 59 rfl) rfl (Nat.zero_le _) (Nat.zero_le _)
def f_X10_strength (D : am_D) : Option (Int64) :=
    some (((Int32.toInt64 (D.1 114 1)) * (Int32.toInt64 (D.1 114 1))) + ((Int32.toInt64 (D.1 114 2)) * (Int32.toInt64 (D.1 114 2))))
set_option maxRecDepth 100000 in
set_option maxHeartbeats 4000000 in
theorem c_X10_strength {E : am_E} (hE : am_EH E) {D : am_D} {r : Int64}  (hf : f_X10_strength D = some r) : am_C E mX10_strength 1 0 0 [.ref 114] am_G0 D (.inl (some (.long r))) am_G0 D := by
  refine am_C_of (by decide +kernel) (Nat.le_of_ble_eq_true rfl) ?_
  change am_S E mX10_strength 1 0 0 (.inl (some (.long r))) am_G0 D 0 0 0 [(0, .ref 114)] [] am_G0 D
  unfold f_X10_strength at hf
  refine am_aload_n (am_dec tmX10_strength 0 rfl) rfl rfl ?_
  refine am_getI (j := 1) hE (am_dec tmX10_strength 1 rfl) sh_114 cf10 (by decide) rfl lf_X10_21 ?_
  refine am_i2l (am_dec tmX10_strength 2 rfl) ?_
  refine am_aload_n (am_dec tmX10_strength 3 rfl) rfl rfl ?_
  refine am_getI (j := 1) hE (am_dec tmX10_strength 4 rfl) sh_114 cf10 (by decide) rfl lf_X10_21 ?_
  refine am_i2l (am_dec tmX10_strength 5 rfl) ?_
  refine am_lmul (am_dec tmX10_strength 6 rfl) ?_
  refine am_aload_n (am_dec tmX10_strength 7 rfl) rfl rfl ?_
  refine am_getI (j := 2) hE (am_dec tmX10_strength 8 rfl) sh_114 cf10 (by decide) rfl lf_X10_25 ?_
  refine am_i2l (am_dec tmX10_strength 9 rfl) ?_
  refine am_aload_n (am_dec tmX10_strength 10 rfl) rfl rfl ?_
  refine am_getI (j := 2) hE (am_dec tmX10_strength 11 rfl) sh_114 cf10 (by decide) rfl lf_X10_25 ?_
  refine am_i2l (am_dec tmX10_strength 12 rfl) ?_
  refine am_lmul (am_dec tmX10_strength 13 rfl) ?_
  refine am_ladd (am_dec tmX10_strength 14 rfl) ?_
  have hf := Option.some.inj hf
  subst hf
  exact am_lret (am_dec tmX10_strength 15 rfl) rfl (Nat.zero_le _) (Nat.zero_le _)
def f_X10_eighth (D : am_D) : Option (Int32) :=
    (if (am_ab (D.1 114 2)) ≤ (am_ab (D.1 114 1)) then
    some ((0 : Int32))
    else
    some ((1 : Int32))).bind fun w3 =>
    (if 0 ≤ (D.1 114 2) then
    some ((0 : Int32))
    else
    some ((4 : Int32))).bind fun w6 =>
    if 0 ≤ (D.1 114 1) then
    some ((w6 + (0 : Int32)) + w3)
    else
    some ((w6 + (2 : Int32)) + w3)
set_option maxRecDepth 100000 in
set_option maxHeartbeats 4000000 in
theorem c_X10_eighth {E : am_E} (hE : am_EH E) {D : am_D} {r : Int32}  (hf : f_X10_eighth D = some r) : am_C E mX10_eighth 1 0 0 [.ref 114] am_G0 D (.inl (some (.int r))) am_G0 D := by
  refine am_C_of (by decide +kernel) (Nat.le_of_ble_eq_true rfl) ?_
  change am_S E mX10_eighth 1 0 0 (.inl (some (.int r))) am_G0 D 0 0 0 [(0, .ref 114)] [] am_G0 D
  unfold f_X10_eighth at hf
  refine am_aload_n (am_dec tmX10_eighth 0 rfl) rfl rfl ?_
  refine am_getI (j := 2) hE (am_dec tmX10_eighth 1 rfl) sh_114 cf10 (by decide) rfl lf_X10_25 ?_
  refine am_mabs2 (am_dec tmX10_eighth 2 rfl) lm_X10_36 (Nat.le_of_ble_eq_true rfl) (Nat.zero_le _) (Nat.zero_le _) ?_
  refine am_aload_n (am_dec tmX10_eighth 3 rfl) rfl rfl ?_
  refine am_getI (j := 1) hE (am_dec tmX10_eighth 4 rfl) sh_114 cf10 (by decide) rfl lf_X10_21 ?_
  refine am_mabs2 (am_dec tmX10_eighth 5 rfl) lm_X10_36 (Nat.le_of_ble_eq_true rfl) (Nat.zero_le _) (Nat.zero_le _) ?_
  obtain ⟨w3, g9, hf⟩ := am_bd hf
  have key2 : am_S E mX10_eighth 1 0 0 (.inl (some (.int r))) am_G0 D 0 0 22 [(0, .ref 114)] [.int w3] am_G0 D := by
    refine am_istore_n (lv' := [(0, .ref 114), (1, .int w3)]) (am_dec tmX10_eighth 10 rfl) rfl (by decide) rfl ?_
    refine am_aload_n (am_dec tmX10_eighth 11 rfl) rfl rfl ?_
    refine am_getI (j := 2) hE (am_dec tmX10_eighth 12 rfl) sh_114 cf10 (by decide) rfl lf_X10_25 ?_
    obtain ⟨w6, g8, hf⟩ := am_bd hf
    have key5 : am_S E mX10_eighth 1 0 0 (.inl (some (.int r))) am_G0 D 0 0 35 [(0, .ref 114), (1, .int w3)] [.int w6] am_G0 D := by
      refine am_aload_n (am_dec tmX10_eighth 17 rfl) rfl rfl ?_
      refine am_getI (j := 1) hE (am_dec tmX10_eighth 18 rfl) sh_114 cf10 (by decide) rfl lf_X10_21 ?_
      refine am_if_ge (tgt := 46) (am_dec tmX10_eighth 19 rfl) (by decide) (fun c7 => ?_) (fun c7 => ?_)
      · rw [if_pos c7] at hf
        refine am_iconst (v := (0 : Int32)) (am_dec tmX10_eighth 22 rfl) (by decide) ?_
        refine am_iadd (am_dec tmX10_eighth 23 rfl) ?_
        refine am_iload_n (am_dec tmX10_eighth 24 rfl) rfl rfl ?_
        refine am_iadd (am_dec tmX10_eighth 25 rfl) ?_
        have hf := Option.some.inj hf
        subst hf
        exact am_iret (am_dec tmX10_eighth 26 rfl) rfl (Nat.zero_le _) (Nat.zero_le _)
      · rw [if_neg c7] at hf
        refine am_iconst (v := (2 : Int32)) (am_dec tmX10_eighth 20 rfl) (by decide) ?_
        refine am_goto (tgt := 47) (am_dec tmX10_eighth 21 rfl) (by decide) ?_
        refine am_iadd (am_dec tmX10_eighth 23 rfl) ?_
        refine am_iload_n (am_dec tmX10_eighth 24 rfl) rfl rfl ?_
        refine am_iadd (am_dec tmX10_eighth 25 rfl) ?_
        have hf := Option.some.inj hf
        subst hf
        exact am_iret (am_dec tmX10_eighth 26 rfl) rfl (Nat.zero_le _) (Nat.zero_le _)
    replace hf := g8
    refine am_if_ge (tgt := 34) (am_dec tmX10_eighth 13 rfl) (by decide) (fun c4 => ?_) (fun c4 => ?_)
    · rw [if_pos c4] at hf
      refine am_iconst (v := (0 : Int32)) (am_dec tmX10_eighth 16 rfl) (by decide) ?_
      have hf := Option.some.inj hf
      subst hf
      exact am_pick [0, 1] rfl key5
    · rw [if_neg c4] at hf
      refine am_iconst (v := (4 : Int32)) (am_dec tmX10_eighth 14 rfl) (by decide) ?_
      refine am_goto (tgt := 35) (am_dec tmX10_eighth 15 rfl) (by decide) ?_
      have hf := Option.some.inj hf
      subst hf
      exact am_pick [0, 1] rfl key5
  replace hf := g9
  refine am_icmp_le (tgt := 21) (am_dec tmX10_eighth 6 rfl) (by decide) (fun c1 => ?_) (fun c1 => ?_)
  · rw [if_pos c1] at hf
    refine am_iconst (v := (0 : Int32)) (am_dec tmX10_eighth 9 rfl) (by decide) ?_
    have hf := Option.some.inj hf
    subst hf
    exact am_pick [0] rfl key2
  · rw [if_neg c1] at hf
    refine am_iconst (v := (1 : Int32)) (am_dec tmX10_eighth 7 rfl) (by decide) ?_
    refine am_goto (tgt := 22) (am_dec tmX10_eighth 8 rfl) (by decide) ?_
    have hf := Option.some.inj hf
    subst hf
    exact am_pick [0] rfl key2
def f_X10_turnAll_L3 (q1 : Nat) (q2 : Int32) (q3 : Int32) : Nat → Int32 → am_D → Option (am_D)
  | 0, _, _ => none
  | n + 1, v4, D =>
    if (60 : Int32) < v4 then
    some (D)
    else
    (f_X10_turn q1 v4 q2 q3 D).bind fun x3 =>
    (f_X10_strength x3).bind fun x5 =>
    (am_pL x3 115 61 v4 x5).bind fun D6 =>
    f_X10_turnAll_L3 q1 q2 q3 n (v4 + (1 : Int32)) D6
def f_X10_turnAll (p1 : Nat) (p2 : Int32) (p3 : Int32) (D : am_D) : Option (am_D) :=
    (f_X10_turnAll_L3 p1 p2 p3 am_fu (4 : Int32) D).bind fun e8 =>
    some e8
set_option maxRecDepth 100000 in
set_option maxHeartbeats 4000000 in
theorem l_X10_turnAll_L3 {E : am_E} (hE : am_EH E) {d mc ms : Nat} {o : am_O} {G2 : am_G} {D2 : am_D} (hdp : 3 ≤ d) {q1 : Nat} {q2 : Int32} {q3 : Int32} (h_q1 : am_sh am_G0 q1 = some (7, 2)) : ∀ (n : Nat) (v4 : Int32) (D : am_D) (ex0 : am_D), f_X10_turnAll_L3 q1 q2 q3 n v4 D = some ex0 → (∀ ex : am_D, ex0 = ex → am_S E mX10_turnAll d mc ms o G2 D2 0 0 36 [] [] am_G0 ex) → am_S E mX10_turnAll d mc ms o G2 D2 0 0 3 [(0, .ref 114), (1, .ref q1), (2, .int q2), (3, .int q3), (4, .int v4)] [] am_G0 D
  | 0, _, _, _, hf, _ => by
    unfold f_X10_turnAll_L3 at hf
    cases hf
  | n + 1, v4, D, ex0, hf, hk0 => by
    unfold f_X10_turnAll_L3 at hf
    refine am_iload (am_dec tmX10_turnAll 2 rfl) rfl ?_
    refine am_bipush (v := (60 : Int32)) (am_dec tmX10_turnAll 3 rfl) (by decide) ?_
    refine am_icmp_gt (tgt := 36) (am_dec tmX10_turnAll 4 rfl) (by decide) (fun c1 => ?_) (fun c1 => ?_)
    · rw [if_pos c1] at hf
      have hf := Option.some.inj hf
      subst hf
      exact am_pick [] rfl (hk0 _ rfl)
    · rw [if_neg c1] at hf
      refine am_aload_n (am_dec tmX10_turnAll 5 rfl) rfl rfl ?_
      refine am_aload_n (am_dec tmX10_turnAll 6 rfl) rfl rfl ?_
      refine am_iload (am_dec tmX10_turnAll 7 rfl) rfl ?_
      refine am_iload_n (am_dec tmX10_turnAll 8 rfl) rfl rfl ?_
      refine am_iload_n (am_dec tmX10_turnAll 9 rfl) rfl rfl ?_
      obtain ⟨x3, g2, hf⟩ := am_bd hf
      refine am_callV0 (As := [.ref q1, .int v4, .int q2, .int q3]) (st := []) hE (am_dec tmX10_turnAll 10 rfl) ok_X10_turn rfl lm_X10_41 in_X10_turn se_X10_turn sh_114 cf10 (c_X10_turn hE h_q1 g2) rfl (Nat.lt_of_lt_of_le (by decide) hdp) (Nat.le_of_ble_eq_true rfl) (Nat.zero_le _) (Nat.zero_le _) rfl ?_
      refine am_aload_n (am_dec tmX10_turnAll 11 rfl) rfl rfl ?_
      refine am_getR (j := 0) hE (am_dec tmX10_turnAll 12 rfl) sh_114 cf10 (by decide) rfl lf_X10_9 rf_114_0 ?_
      refine am_iload (am_dec tmX10_turnAll 13 rfl) rfl ?_
      refine am_aload_n (am_dec tmX10_turnAll 14 rfl) rfl rfl ?_
      obtain ⟨x5, g4, hf⟩ := am_bd hf
      refine am_callV1 (As := []) (st := [.int v4, .ref 115]) hE (am_dec tmX10_turnAll 15 rfl) ok_X10_strength rfl lm_X10_45 in_X10_strength se_X10_strength sh_114 cf10 (c_X10_strength hE g4) rfl (Nat.lt_of_lt_of_le (by decide) hdp) (Nat.le_of_ble_eq_true rfl) (Nat.zero_le _) (Nat.zero_le _) rfl ?_
      obtain ⟨D6, g7, hf⟩ := am_bd hf
      refine am_last2 hE (am_dec tmX10_turnAll 16 rfl) sh_115 g7 ?_
      refine am_iinc (v := (1 : Int32)) (lv' := [(0, .ref 114), (1, .ref q1), (2, .int q2), (3, .int q3), (4, .int (v4 + (1 : Int32)))]) (am_dec tmX10_turnAll 17 rfl) rfl (by decide) (by decide) rfl ?_
      refine am_goto (tgt := 3) (am_dec tmX10_turnAll 18 rfl) (by decide) ?_
      exact am_pick [0, 1, 2, 3, 4] rfl (l_X10_turnAll_L3 hE hdp h_q1 n (v4 + (1 : Int32)) D6 ex0 hf hk0)
set_option maxRecDepth 100000 in
set_option maxHeartbeats 4000000 in
theorem c_X10_turnAll {E : am_E} (hE : am_EH E) {p1 : Nat} {p2 : Int32} {p3 : Int32} {D : am_D} {r : am_D} (h_p1 : am_sh am_G0 p1 = some (7, 2)) (hf : f_X10_turnAll p1 p2 p3 D = some r) : am_C E mX10_turnAll 3 0 0 [.ref 114, .ref p1, .int p2, .int p3] am_G0 D (.inl none) am_G0 r := by
  refine am_C_of (by decide +kernel) (Nat.le_of_ble_eq_true rfl) ?_
  change am_S E mX10_turnAll 3 0 0 (.inl none) am_G0 r 0 0 0 [(0, .ref 114), (1, .ref p1), (2, .int p2), (3, .int p3)] [] am_G0 D
  unfold f_X10_turnAll at hf
  refine am_iconst (v := (4 : Int32)) (am_dec tmX10_turnAll 0 rfl) (by decide) ?_
  refine am_istore (lv' := [(0, .ref 114), (1, .ref p1), (2, .int p2), (3, .int p3), (4, .int (4 : Int32))]) (am_dec tmX10_turnAll 1 rfl) (by decide) rfl ?_
  obtain ⟨e8, g9, hf⟩ := am_bd hf
  refine am_pick [0, 1, 2, 3, 4] rfl (l_X10_turnAll_L3 hE (Nat.le_refl _) h_p1 am_fu _ _ _ g9 (fun ex he => ?_))
  subst he
  have hf := Option.some.inj hf
  subst hf
  exact am_vret (am_dec tmX10_turnAll 19 rfl) rfl (Nat.zero_le _) (Nat.zero_le _)
def f_X10_strengthAt (p1 : Int32) (D : am_D) : Option (Int64) :=
    if p1 < 0 then
    some (0 : Int64)
    else
    if (61 : Int32) ≤ p1 then
    some (0 : Int64)
    else
    (am_gL D 115 61 p1).bind fun x3 =>
    some x3
set_option maxRecDepth 100000 in
set_option maxHeartbeats 4000000 in
theorem c_X10_strengthAt {E : am_E} (hE : am_EH E) {p1 : Int32} {D : am_D} {r : Int64}  (hf : f_X10_strengthAt p1 D = some r) : am_C E mX10_strengthAt 1 0 0 [.ref 114, .int p1] am_G0 D (.inl (some (.long r))) am_G0 D := by
  refine am_C_of (by decide +kernel) (Nat.le_of_ble_eq_true rfl) ?_
  change am_S E mX10_strengthAt 1 0 0 (.inl (some (.long r))) am_G0 D 0 0 0 [(0, .ref 114), (1, .int p1)] [] am_G0 D
  unfold f_X10_strengthAt at hf
  refine am_iload_n (am_dec tmX10_strengthAt 0 rfl) rfl rfl ?_
  refine am_if_lt (tgt := 22) (am_dec tmX10_strengthAt 1 rfl) (by decide) (fun c1 => ?_) (fun c1 => ?_)
  · rw [if_pos c1] at hf
    refine am_lconst (v := (0 : Int64)) (am_dec tmX10_strengthAt 12 rfl) (by decide) ?_
    have hf := Option.some.inj hf
    subst hf
    exact am_lret (am_dec tmX10_strengthAt 13 rfl) rfl (Nat.zero_le _) (Nat.zero_le _)
  · rw [if_neg c1] at hf
    refine am_iload_n (am_dec tmX10_strengthAt 2 rfl) rfl rfl ?_
    refine am_aload_n (am_dec tmX10_strengthAt 3 rfl) rfl rfl ?_
    refine am_getR (j := 0) hE (am_dec tmX10_strengthAt 4 rfl) sh_114 cf10 (by decide) rfl lf_X10_9 rf_114_0 ?_
    refine am_alen (t := 1) (v := (61 : Int32)) hE (am_dec tmX10_strengthAt 5 rfl) sh_115 (by decide) (by decide) ?_
    refine am_icmp_ge (tgt := 22) (am_dec tmX10_strengthAt 6 rfl) (by decide) (fun c2 => ?_) (fun c2 => ?_)
    · rw [if_pos c2] at hf
      refine am_lconst (v := (0 : Int64)) (am_dec tmX10_strengthAt 12 rfl) (by decide) ?_
      have hf := Option.some.inj hf
      subst hf
      exact am_lret (am_dec tmX10_strengthAt 13 rfl) rfl (Nat.zero_le _) (Nat.zero_le _)
    · rw [if_neg c2] at hf
      refine am_aload_n (am_dec tmX10_strengthAt 7 rfl) rfl rfl ?_
      refine am_getR (j := 0) hE (am_dec tmX10_strengthAt 8 rfl) sh_114 cf10 (by decide) rfl lf_X10_9 rf_114_0 ?_
      refine am_iload_n (am_dec tmX10_strengthAt 9 rfl) rfl rfl ?_
      obtain ⟨x3, g4, hf⟩ := am_bd hf
      refine am_lald2 hE (am_dec tmX10_strengthAt 10 rfl) sh_115 g4 ?_
      refine am_goto (tgt := 23) (am_dec tmX10_strengthAt 11 rfl) (by decide) ?_
      have hf := Option.some.inj hf
      subst hf
      exact am_lret (am_dec tmX10_strengthAt 13 rfl) rfl (Nat.zero_le _) (Nat.zero_le _)
def f_X10_isPeak (p1 : Int32) (D : am_D) : Option (Int32) :=
    (if p1 ≤ (4 : Int32) then
    some ((1 : Int32))
    else
    (f_X10_strengthAt p1 D).bind fun x4 =>
    (f_X10_strengthAt (p1 - (1 : Int32)) D).bind fun x6 =>
    if (lg_cmp x4 x6) ≤ 0 then
    some ((0 : Int32))
    else
    some ((1 : Int32))).bind fun w8 =>
    if w8 = 0 then
    some (0 : Int32)
    else
    if (60 : Int32) ≤ p1 then
    some (1 : Int32)
    else
    (f_X10_strengthAt p1 D).bind fun x12 =>
    (f_X10_strengthAt (p1 + (1 : Int32)) D).bind fun x14 =>
    if (lg_cmp x12 x14) < 0 then
    some (0 : Int32)
    else
    some (1 : Int32)
set_option maxRecDepth 100000 in
set_option maxHeartbeats 4000000 in
theorem c_X10_isPeak {E : am_E} (hE : am_EH E) {p1 : Int32} {D : am_D} {r : Int32}  (hf : f_X10_isPeak p1 D = some r) : am_C E mX10_isPeak 2 0 0 [.ref 114, .int p1] am_G0 D (.inl (some (.int r))) am_G0 D := by
  refine am_C_of (by decide +kernel) (Nat.le_of_ble_eq_true rfl) ?_
  change am_S E mX10_isPeak 2 0 0 (.inl (some (.int r))) am_G0 D 0 0 0 [(0, .ref 114), (1, .int p1)] [] am_G0 D
  unfold f_X10_isPeak at hf
  refine am_iload_n (am_dec tmX10_isPeak 0 rfl) rfl rfl ?_
  refine am_iconst (v := (4 : Int32)) (am_dec tmX10_isPeak 1 rfl) (by decide) ?_
  obtain ⟨w8, g16, hf⟩ := am_bd hf
  have key2 : am_S E mX10_isPeak 2 0 0 (.inl (some (.int r))) am_G0 D 0 0 26 [(0, .ref 114), (1, .int p1)] [.int w8] am_G0 D := by
    refine am_istore_n (lv' := [(0, .ref 114), (1, .int p1), (2, .int w8)]) (am_dec tmX10_isPeak 16 rfl) rfl (by decide) rfl ?_
    refine am_iload_n (am_dec tmX10_isPeak 17 rfl) rfl rfl ?_
    refine am_if_eq (tgt := 57) (am_dec tmX10_isPeak 18 rfl) (by decide) (fun c9 => ?_) (fun c9 => ?_)
    · rw [if_pos c9] at hf
      refine am_iconst (v := (0 : Int32)) (am_dec tmX10_isPeak 34 rfl) (by decide) ?_
      have hf := Option.some.inj hf
      subst hf
      exact am_zret (am_dec tmX10_isPeak 35 rfl) rfl am_z0 (Nat.zero_le _) (Nat.zero_le _)
    · rw [if_neg c9] at hf
      refine am_iload_n (am_dec tmX10_isPeak 19 rfl) rfl rfl ?_
      refine am_bipush (v := (60 : Int32)) (am_dec tmX10_isPeak 20 rfl) (by decide) ?_
      refine am_icmp_ge (tgt := 53) (am_dec tmX10_isPeak 21 rfl) (by decide) (fun c10 => ?_) (fun c10 => ?_)
      · rw [if_pos c10] at hf
        refine am_iconst (v := (1 : Int32)) (am_dec tmX10_isPeak 32 rfl) (by decide) ?_
        refine am_goto (tgt := 58) (am_dec tmX10_isPeak 33 rfl) (by decide) ?_
        have hf := Option.some.inj hf
        subst hf
        exact am_zret (am_dec tmX10_isPeak 35 rfl) rfl am_z1 (Nat.zero_le _) (Nat.zero_le _)
      · rw [if_neg c10] at hf
        refine am_aload_n (am_dec tmX10_isPeak 22 rfl) rfl rfl ?_
        refine am_iload_n (am_dec tmX10_isPeak 23 rfl) rfl rfl ?_
        obtain ⟨x12, g11, hf⟩ := am_bd hf
        refine am_callV1 (As := [.int p1]) (st := []) hE (am_dec tmX10_isPeak 24 rfl) ok_X10_strengthAt rfl lm_X10_49 in_X10_strengthAt se_X10_strengthAt sh_114 cf10 (c_X10_strengthAt hE g11) rfl (by decide) (Nat.le_of_ble_eq_true rfl) (Nat.zero_le _) (Nat.zero_le _) rfl ?_
        refine am_aload_n (am_dec tmX10_isPeak 25 rfl) rfl rfl ?_
        refine am_iload_n (am_dec tmX10_isPeak 26 rfl) rfl rfl ?_
        refine am_iconst (v := (1 : Int32)) (am_dec tmX10_isPeak 27 rfl) (by decide) ?_
        refine am_iadd (am_dec tmX10_isPeak 28 rfl) ?_
        obtain ⟨x14, g13, hf⟩ := am_bd hf
        refine am_callV1 (As := [.int (p1 + (1 : Int32))]) (st := [.long x12]) hE (am_dec tmX10_isPeak 29 rfl) ok_X10_strengthAt rfl lm_X10_49 in_X10_strengthAt se_X10_strengthAt sh_114 cf10 (c_X10_strengthAt hE g13) rfl (by decide) (Nat.le_of_ble_eq_true rfl) (Nat.zero_le _) (Nat.zero_le _) rfl ?_
        refine am_lcmp (am_dec tmX10_isPeak 30 rfl) ?_
        refine am_if_lt (tgt := 57) (am_dec tmX10_isPeak 31 rfl) (by decide) (fun c15 => ?_) (fun c15 => ?_)
        · rw [if_pos c15] at hf
          refine am_iconst (v := (0 : Int32)) (am_dec tmX10_isPeak 34 rfl) (by decide) ?_
          have hf := Option.some.inj hf
          subst hf
          exact am_zret (am_dec tmX10_isPeak 35 rfl) rfl am_z0 (Nat.zero_le _) (Nat.zero_le _)
        · rw [if_neg c15] at hf
          refine am_iconst (v := (1 : Int32)) (am_dec tmX10_isPeak 32 rfl) (by decide) ?_
          refine am_goto (tgt := 58) (am_dec tmX10_isPeak 33 rfl) (by decide) ?_
          have hf := Option.some.inj hf
          subst hf
          exact am_zret (am_dec tmX10_isPeak 35 rfl) rfl am_z1 (Nat.zero_le _) (Nat.zero_le _)
  replace hf := g16
  refine am_icmp_le (tgt := 21) (am_dec tmX10_isPeak 2 rfl) (by decide) (fun c1 => ?_) (fun c1 => ?_)
  · rw [if_pos c1] at hf
    refine am_iconst (v := (1 : Int32)) (am_dec tmX10_isPeak 13 rfl) (by decide) ?_
    refine am_goto (tgt := 26) (am_dec tmX10_isPeak 14 rfl) (by decide) ?_
    have hf := Option.some.inj hf
    subst hf
    exact am_pick [0, 1] rfl key2
  · rw [if_neg c1] at hf
    refine am_aload_n (am_dec tmX10_isPeak 3 rfl) rfl rfl ?_
    refine am_iload_n (am_dec tmX10_isPeak 4 rfl) rfl rfl ?_
    obtain ⟨x4, g3, hf⟩ := am_bd hf
    refine am_callV1 (As := [.int p1]) (st := []) hE (am_dec tmX10_isPeak 5 rfl) ok_X10_strengthAt rfl lm_X10_49 in_X10_strengthAt se_X10_strengthAt sh_114 cf10 (c_X10_strengthAt hE g3) rfl (by decide) (Nat.le_of_ble_eq_true rfl) (Nat.zero_le _) (Nat.zero_le _) rfl ?_
    refine am_aload_n (am_dec tmX10_isPeak 6 rfl) rfl rfl ?_
    refine am_iload_n (am_dec tmX10_isPeak 7 rfl) rfl rfl ?_
    refine am_iconst (v := (1 : Int32)) (am_dec tmX10_isPeak 8 rfl) (by decide) ?_
    refine am_isub (am_dec tmX10_isPeak 9 rfl) ?_
    obtain ⟨x6, g5, hf⟩ := am_bd hf
    refine am_callV1 (As := [.int (p1 - (1 : Int32))]) (st := [.long x4]) hE (am_dec tmX10_isPeak 10 rfl) ok_X10_strengthAt rfl lm_X10_49 in_X10_strengthAt se_X10_strengthAt sh_114 cf10 (c_X10_strengthAt hE g5) rfl (by decide) (Nat.le_of_ble_eq_true rfl) (Nat.zero_le _) (Nat.zero_le _) rfl ?_
    refine am_lcmp (am_dec tmX10_isPeak 11 rfl) ?_
    refine am_if_le (tgt := 25) (am_dec tmX10_isPeak 12 rfl) (by decide) (fun c7 => ?_) (fun c7 => ?_)
    · rw [if_pos c7] at hf
      refine am_iconst (v := (0 : Int32)) (am_dec tmX10_isPeak 15 rfl) (by decide) ?_
      have hf := Option.some.inj hf
      subst hf
      exact am_pick [0, 1] rfl key2
    · rw [if_neg c7] at hf
      refine am_iconst (v := (1 : Int32)) (am_dec tmX10_isPeak 13 rfl) (by decide) ?_
      refine am_goto (tgt := 26) (am_dec tmX10_isPeak 14 rfl) (by decide) ?_
      have hf := Option.some.inj hf
      subst hf
      exact am_pick [0, 1] rfl key2
theorem z_X10_isPeak {p1 : Int32} {D : am_D} {r : Int32} (hf : f_X10_isPeak p1 D = some r) : narrow .boolean (.int r) = .int r := by
  unfold f_X10_isPeak at hf
  obtain ⟨w8, g16, hf⟩ := am_bd hf
  have key2 : narrow .boolean (.int r) = .int r := by
    by_cases c9 : w8 = 0
    · rw [if_pos c9] at hf
      have hf := Option.some.inj hf
      subst hf
      exact am_z0
    · rw [if_neg c9] at hf
      by_cases c10 : (60 : Int32) ≤ p1
      · rw [if_pos c10] at hf
        have hf := Option.some.inj hf
        subst hf
        exact am_z1
      · rw [if_neg c10] at hf
        obtain ⟨x12, g11, hf⟩ := am_bd hf
        obtain ⟨x14, g13, hf⟩ := am_bd hf
        by_cases c15 : (lg_cmp x12 x14) < 0
        · rw [if_pos c15] at hf
          have hf := Option.some.inj hf
          subst hf
          exact am_z0
        · rw [if_neg c15] at hf
          have hf := Option.some.inj hf
          subst hf
          exact am_z1
  replace hf := g16
  by_cases c1 : p1 ≤ (4 : Int32)
  · rw [if_pos c1] at hf
    have hf := Option.some.inj hf
    subst hf
    exact key2
  · rw [if_neg c1] at hf
    obtain ⟨x4, g3, hf⟩ := am_bd hf
    obtain ⟨x6, g5, hf⟩ := am_bd hf
    by_cases c7 : (lg_cmp x4 x6) ≤ 0
    · rw [if_pos c7] at hf
      have hf := Option.some.inj hf
      subst hf
      exact key2
    · rw [if_neg c7] at hf
      have hf := Option.some.inj hf
      subst hf
      exact key2
def f_X10_rankOf_L4 (q1 : Int32) (D : am_D) : Nat → Int32 → Int32 → Option (Int32)
  | 0, _, _ => none
  | n + 1, v2, v3 =>
    if (60 : Int32) < v3 then
    some (v2)
    else
    (f_X10_strengthAt v3 D).bind fun x3 =>
    (f_X10_strengthAt q1 D).bind fun x5 =>
    (if 0 < (lg_cmp x3 x5) then
    some ((1 : Int32))
    else
    (f_X10_strengthAt v3 D).bind fun x9 =>
    (f_X10_strengthAt q1 D).bind fun x11 =>
    if (lg_cmp x9 x11) = 0 then
    if q1 ≤ v3 then
    some ((0 : Int32))
    else
    some ((1 : Int32))
    else
    some ((0 : Int32))).bind fun w14 =>
    (if w14 = 0 then
    some (v2)
    else
    (f_X10_isPeak v3 D).bind fun x18 =>
    if x18 = 0 then
    some (v2)
    else
    some ((v2 + (1 : Int32)))).bind fun w20 =>
    f_X10_rankOf_L4 q1 D n w20 (v3 + (1 : Int32))
def f_X10_rankOf (p1 : Int32) (D : am_D) : Option (Int32) :=
    (f_X10_rankOf_L4 p1 D am_fu (0 : Int32) (4 : Int32)).bind fun e23 =>
    some e23
set_option maxRecDepth 100000 in
set_option maxHeartbeats 4000000 in
theorem l_X10_rankOf_L4 {E : am_E} (hE : am_EH E) {d mc ms : Nat} {o : am_O} {G2 : am_G} {D2 : am_D} (hdp : 3 ≤ d) {q1 : Int32} {D : am_D}  : ∀ (n : Nat) (v2 : Int32) (v3 : Int32) (ex0 : Int32), f_X10_rankOf_L4 q1 D n v2 v3 = some ex0 → (∀ ex : Int32, ex0 = ex → am_S E mX10_rankOf d mc ms o G2 D2 0 0 72 [(2, .int ex)] [] am_G0 D) → am_S E mX10_rankOf d mc ms o G2 D2 0 0 4 [(0, .ref 114), (1, .int q1), (2, .int v2), (3, .int v3)] [] am_G0 D
  | 0, _, _, _, hf, _ => by
    unfold f_X10_rankOf_L4 at hf
    cases hf
  | n + 1, v2, v3, ex0, hf, hk0 => by
    unfold f_X10_rankOf_L4 at hf
    refine am_iload_n (am_dec tmX10_rankOf 4 rfl) rfl rfl ?_
    refine am_bipush (v := (60 : Int32)) (am_dec tmX10_rankOf 5 rfl) (by decide) ?_
    refine am_icmp_gt (tgt := 72) (am_dec tmX10_rankOf 6 rfl) (by decide) (fun c1 => ?_) (fun c1 => ?_)
    · rw [if_pos c1] at hf
      have hf := Option.some.inj hf
      subst hf
      exact am_pick [2] rfl (hk0 _ rfl)
    · rw [if_neg c1] at hf
      refine am_aload_n (am_dec tmX10_rankOf 7 rfl) rfl rfl ?_
      refine am_iload_n (am_dec tmX10_rankOf 8 rfl) rfl rfl ?_
      obtain ⟨x3, g2, hf⟩ := am_bd hf
      refine am_callV1 (As := [.int v3]) (st := []) hE (am_dec tmX10_rankOf 9 rfl) ok_X10_strengthAt rfl lm_X10_49 in_X10_strengthAt se_X10_strengthAt sh_114 cf10 (c_X10_strengthAt hE g2) rfl (Nat.lt_of_lt_of_le (by decide) hdp) (Nat.le_of_ble_eq_true rfl) (Nat.zero_le _) (Nat.zero_le _) rfl ?_
      refine am_aload_n (am_dec tmX10_rankOf 10 rfl) rfl rfl ?_
      refine am_iload_n (am_dec tmX10_rankOf 11 rfl) rfl rfl ?_
      obtain ⟨x5, g4, hf⟩ := am_bd hf
      refine am_callV1 (As := [.int q1]) (st := [.long x3]) hE (am_dec tmX10_rankOf 12 rfl) ok_X10_strengthAt rfl lm_X10_49 in_X10_strengthAt se_X10_strengthAt sh_114 cf10 (c_X10_strengthAt hE g4) rfl (Nat.lt_of_lt_of_le (by decide) hdp) (Nat.le_of_ble_eq_true rfl) (Nat.zero_le _) (Nat.zero_le _) rfl ?_
      refine am_lcmp (am_dec tmX10_rankOf 13 rfl) ?_
      obtain ⟨w14, g22, hf⟩ := am_bd hf
      have key7 : am_S E mX10_rankOf d mc ms o G2 D2 0 0 48 [(0, .ref 114), (1, .int q1), (2, .int v2), (3, .int v3)] [.int w14] am_G0 D := by
        refine am_istore (lv' := [(0, .ref 114), (1, .int q1), (2, .int v2), (3, .int v3), (4, .int w14)]) (am_dec tmX10_rankOf 29 rfl) (by decide) rfl ?_
        refine am_iload (am_dec tmX10_rankOf 30 rfl) rfl ?_
        obtain ⟨w20, g21, hf⟩ := am_bd hf
        have key16 : am_S E mX10_rankOf d mc ms o G2 D2 0 0 66 [(0, .ref 114), (1, .int q1), (2, .int w20), (3, .int v3)] [] am_G0 D := by
          refine am_iinc (v := (1 : Int32)) (lv' := [(0, .ref 114), (1, .int q1), (2, .int w20), (3, .int (v3 + (1 : Int32)))]) (am_dec tmX10_rankOf 37 rfl) rfl (by decide) (by decide) rfl ?_
          refine am_goto (tgt := 4) (am_dec tmX10_rankOf 38 rfl) (by decide) ?_
          exact am_pick [0, 1, 2, 3] rfl (l_X10_rankOf_L4 hE hdp n w20 (v3 + (1 : Int32)) ex0 hf hk0)
        replace hf := g21
        refine am_if_eq (tgt := 66) (am_dec tmX10_rankOf 31 rfl) (by decide) (fun c15 => ?_) (fun c15 => ?_)
        · rw [if_pos c15] at hf
          have hf := Option.some.inj hf
          subst hf
          exact am_pick [0, 1, 2, 3] rfl key16
        · rw [if_neg c15] at hf
          refine am_aload_n (am_dec tmX10_rankOf 32 rfl) rfl rfl ?_
          refine am_iload_n (am_dec tmX10_rankOf 33 rfl) rfl rfl ?_
          obtain ⟨x18, g17, hf⟩ := am_bd hf
          refine am_callV1 (As := [.int v3]) (st := []) hE (am_dec tmX10_rankOf 34 rfl) ok_X10_isPeak rfl lm_X10_53 in_X10_isPeak se_X10_isPeak sh_114 cf10 (c_X10_isPeak hE g17) rfl (Nat.lt_of_lt_of_le (by decide) hdp) (Nat.le_of_ble_eq_true rfl) (Nat.zero_le _) (Nat.zero_le _) rfl ?_
          refine am_if_eq (tgt := 66) (am_dec tmX10_rankOf 35 rfl) (by decide) (fun c19 => ?_) (fun c19 => ?_)
          · rw [if_pos c19] at hf
            have hf := Option.some.inj hf
            subst hf
            exact am_pick [0, 1, 2, 3] rfl key16
          · rw [if_neg c19] at hf
            refine am_iinc (v := (1 : Int32)) (lv' := [(0, .ref 114), (1, .int q1), (2, .int (v2 + (1 : Int32))), (3, .int v3), (4, .int w14)]) (am_dec tmX10_rankOf 36 rfl) rfl (by decide) (by decide) rfl ?_
            have hf := Option.some.inj hf
            subst hf
            exact am_pick [0, 1, 2, 3] rfl key16
      replace hf := g22
      refine am_if_gt (tgt := 43) (am_dec tmX10_rankOf 14 rfl) (by decide) (fun c6 => ?_) (fun c6 => ?_)
      · rw [if_pos c6] at hf
        refine am_iconst (v := (1 : Int32)) (am_dec tmX10_rankOf 26 rfl) (by decide) ?_
        refine am_goto (tgt := 48) (am_dec tmX10_rankOf 27 rfl) (by decide) ?_
        have hf := Option.some.inj hf
        subst hf
        exact am_pick [0, 1, 2, 3] rfl key7
      · rw [if_neg c6] at hf
        refine am_aload_n (am_dec tmX10_rankOf 15 rfl) rfl rfl ?_
        refine am_iload_n (am_dec tmX10_rankOf 16 rfl) rfl rfl ?_
        obtain ⟨x9, g8, hf⟩ := am_bd hf
        refine am_callV1 (As := [.int v3]) (st := []) hE (am_dec tmX10_rankOf 17 rfl) ok_X10_strengthAt rfl lm_X10_49 in_X10_strengthAt se_X10_strengthAt sh_114 cf10 (c_X10_strengthAt hE g8) rfl (Nat.lt_of_lt_of_le (by decide) hdp) (Nat.le_of_ble_eq_true rfl) (Nat.zero_le _) (Nat.zero_le _) rfl ?_
        refine am_aload_n (am_dec tmX10_rankOf 18 rfl) rfl rfl ?_
        refine am_iload_n (am_dec tmX10_rankOf 19 rfl) rfl rfl ?_
        obtain ⟨x11, g10, hf⟩ := am_bd hf
        refine am_callV1 (As := [.int q1]) (st := [.long x9]) hE (am_dec tmX10_rankOf 20 rfl) ok_X10_strengthAt rfl lm_X10_49 in_X10_strengthAt se_X10_strengthAt sh_114 cf10 (c_X10_strengthAt hE g10) rfl (Nat.lt_of_lt_of_le (by decide) hdp) (Nat.le_of_ble_eq_true rfl) (Nat.zero_le _) (Nat.zero_le _) rfl ?_
        refine am_lcmp (am_dec tmX10_rankOf 21 rfl) ?_
        refine am_if_ne (tgt := 47) (am_dec tmX10_rankOf 22 rfl) (by decide) (fun c12 => ?_) (fun c12 => ?_)
        · rw [if_neg c12] at hf
          refine am_iconst (v := (0 : Int32)) (am_dec tmX10_rankOf 28 rfl) (by decide) ?_
          have hf := Option.some.inj hf
          subst hf
          exact am_pick [0, 1, 2, 3] rfl key7
        · rw [if_pos c12] at hf
          refine am_iload_n (am_dec tmX10_rankOf 23 rfl) rfl rfl ?_
          refine am_iload_n (am_dec tmX10_rankOf 24 rfl) rfl rfl ?_
          refine am_icmp_ge (tgt := 47) (am_dec tmX10_rankOf 25 rfl) (by decide) (fun c13 => ?_) (fun c13 => ?_)
          · rw [if_pos c13] at hf
            refine am_iconst (v := (0 : Int32)) (am_dec tmX10_rankOf 28 rfl) (by decide) ?_
            have hf := Option.some.inj hf
            subst hf
            exact am_pick [0, 1, 2, 3] rfl key7
          · rw [if_neg c13] at hf
            refine am_iconst (v := (1 : Int32)) (am_dec tmX10_rankOf 26 rfl) (by decide) ?_
            refine am_goto (tgt := 48) (am_dec tmX10_rankOf 27 rfl) (by decide) ?_
            have hf := Option.some.inj hf
            subst hf
            exact am_pick [0, 1, 2, 3] rfl key7
set_option maxRecDepth 100000 in
set_option maxHeartbeats 4000000 in
theorem c_X10_rankOf {E : am_E} (hE : am_EH E) {p1 : Int32} {D : am_D} {r : Int32}  (hf : f_X10_rankOf p1 D = some r) : am_C E mX10_rankOf 3 0 0 [.ref 114, .int p1] am_G0 D (.inl (some (.int r))) am_G0 D := by
  refine am_C_of (by decide +kernel) (Nat.le_of_ble_eq_true rfl) ?_
  change am_S E mX10_rankOf 3 0 0 (.inl (some (.int r))) am_G0 D 0 0 0 [(0, .ref 114), (1, .int p1)] [] am_G0 D
  unfold f_X10_rankOf at hf
  refine am_iconst (v := (0 : Int32)) (am_dec tmX10_rankOf 0 rfl) (by decide) ?_
  refine am_istore_n (lv' := [(0, .ref 114), (1, .int p1), (2, .int (0 : Int32))]) (am_dec tmX10_rankOf 1 rfl) rfl (by decide) rfl ?_
  refine am_iconst (v := (4 : Int32)) (am_dec tmX10_rankOf 2 rfl) (by decide) ?_
  refine am_istore_n (lv' := [(0, .ref 114), (1, .int p1), (2, .int (0 : Int32)), (3, .int (4 : Int32))]) (am_dec tmX10_rankOf 3 rfl) rfl (by decide) rfl ?_
  obtain ⟨e23, g24, hf⟩ := am_bd hf
  refine am_pick [0, 1, 2, 3] rfl (l_X10_rankOf_L4 hE (Nat.le_refl _) am_fu _ _ _ g24 (fun ex he => ?_))
  subst he
  refine am_iload_n (am_dec tmX10_rankOf 39 rfl) rfl rfl ?_
  have hf := Option.some.inj hf
  subst hf
  exact am_iret (am_dec tmX10_rankOf 40 rfl) rfl (Nat.zero_le _) (Nat.zero_le _)
