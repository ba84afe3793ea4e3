def f_X12_film (p1 : Int32) (p2 : Int32) (p3 : Int32) (D : am_D) : Option ((Int32 × am_D)) :=
    (some (am_wI D 117 0 (0 : Int32))).bind fun D1 =>
    (f_X12_isSound p1 D1).bind fun x4 =>
    (if x4 = 0 then
    some ((1 : Int32))
    else
    some ((0 : Int32))).bind fun w7 =>
    (f_X12_bad w7 (1 : Int32) D1).bind fun x9 =>
    if x9.1 = 0 then
    (f_X12_in p2 (1 : Int32) (1200 : Int32)).bind fun x12 =>
    (if x12 = 0 then
    some ((1 : Int32))
    else
    (f_X12_in p3 (1 : Int32) (99 : Int32)).bind fun x16 =>
    if x16 = 0 then
    some ((1 : Int32))
    else
    some ((0 : Int32))).bind fun w18 =>
    (f_X12_bad w18 (2 : Int32) x9.2).bind fun x20 =>
    if x20.1 = 0 then
    if (x20.2.1 117 13) = (5 : Int32) then
    some ((-1 : Int32), x20.2)
    else
    if (p2 * p3) ≤ (1200 : Int32) then
    (am_gI x20.2 139 5 p1).bind fun x24 =>
    (f_X12_oneMark x24 (p2 * p3) x20.2).bind fun x27 =>
    some (x27.1, x27.2)
    else
    some ((-2 : Int32), x20.2)
    else
    some ((0 : Int32), x20.2)
    else
    some ((0 : Int32), x9.2)
set_option maxRecDepth 100000 in
set_option maxHeartbeats 4000000 in
theorem c_X12_film {E : am_E} (hE : am_EH E) {p1 : Int32} {p2 : Int32} {p3 : Int32} {D : am_D} {r : (Int32 × am_D)}  (hf : f_X12_film p1 p2 p3 D = some r) : am_C E mX12_film 3 0 0 [.ref 117, .int p1, .int p2, .int p3] am_G0 D (.inl (some (.int r.1))) am_G0 r.2 := by
  refine am_C_of (by decide +kernel) (Nat.le_of_ble_eq_true rfl) ?_
  change am_S E mX12_film 3 0 0 (.inl (some (.int r.1))) am_G0 r.2 0 0 0 [(0, .ref 117), (1, .int p1), (2, .int p2), (3, .int p3)] [] am_G0 D
  unfold f_X12_film at hf
  refine am_aload_n (am_dec tmX12_film 0 rfl) rfl rfl ?_
  refine am_iconst (v := (0 : Int32)) (am_dec tmX12_film 1 rfl) (by decide) ?_
  obtain ⟨D1, g2, hf⟩ := am_bd hf
  refine am_putI2 (j := 0) hE (am_dec tmX12_film 2 rfl) sh_117 cf12 (by decide) rfl lf_X12_110 rfl rfl rfl g2 ?_
  refine am_aload_n (am_dec tmX12_film 3 rfl) rfl rfl ?_
  refine am_aload_n (am_dec tmX12_film 4 rfl) rfl rfl ?_
  refine am_iload_n (am_dec tmX12_film 5 rfl) rfl rfl ?_
  obtain ⟨x4, g3, hf⟩ := am_bd hf
  refine am_callV1 (As := [.int p1]) (st := [.ref 117]) hE (am_dec tmX12_film 6 rfl) ok_X12_isSound rfl lm_X12_217 in_X12_isSound se_X12_isSound sh_117 cf12 (c_X12_isSound hE g3) rfl (by decide) (Nat.le_of_ble_eq_true rfl) (Nat.zero_le _) (Nat.zero_le _) rfl ?_
  obtain ⟨w7, g29, hf⟩ := am_bd hf
  have key6 : am_S E mX12_film 3 0 0 (.inl (some (.int r.1))) am_G0 r.2 0 0 19 [(0, .ref 117), (1, .int p1), (2, .int p2), (3, .int p3)] [.int w7, .ref 117] am_G0 D1 := by
    refine am_iconst (v := (1 : Int32)) (am_dec tmX12_film 11 rfl) (by decide) ?_
    obtain ⟨x9, g8, hf⟩ := am_bd hf
    refine am_callV1 (As := [.int w7, .int (1 : Int32)]) (st := []) hE (am_dec tmX12_film 12 rfl) ok_X12_bad rfl lm_X12_191 in_X12_bad se_X12_bad sh_117 cf12 (c_X12_bad hE g8) rfl (by decide) (Nat.le_of_ble_eq_true rfl) (Nat.zero_le _) (Nat.zero_le _) rfl ?_
    refine am_if_ne (tgt := 60) (am_dec tmX12_film 13 rfl) (by decide) (fun c10 => ?_) (fun c10 => ?_)
    · rw [if_neg c10] at hf
      refine am_iconst (v := (0 : Int32)) (am_dec tmX12_film 31 rfl) (by decide) ?_
      have hf := Option.some.inj hf
      subst hf
      exact am_iret (am_dec tmX12_film 32 rfl) rfl (Nat.zero_le _) (Nat.zero_le _)
    · rw [if_pos c10] at hf
      refine am_aload_n (am_dec tmX12_film 14 rfl) rfl rfl ?_
      refine am_iload_n (am_dec tmX12_film 15 rfl) rfl rfl ?_
      refine am_iconst (v := (1 : Int32)) (am_dec tmX12_film 16 rfl) (by decide) ?_
      refine am_sipush (v := (1200 : Int32)) (am_dec tmX12_film 17 rfl) (by decide) ?_
      obtain ⟨x12, g11, hf⟩ := am_bd hf
      refine am_callS1 (As := [.int p2, .int (1 : Int32), .int (1200 : Int32)]) (st := [.ref 117]) (am_dec tmX12_film 18 rfl) ok_X12_in rfl lm_X12_144 st_X12_in (c_X12_in hE g11) rfl (by decide) (Nat.le_of_ble_eq_true rfl) (Nat.zero_le _) (Nat.zero_le _) rfl ?_
      obtain ⟨w18, g28, hf⟩ := am_bd hf
      have key14 : am_S E mX12_film 3 0 0 (.inl (some (.int r.1))) am_G0 r.2 0 0 53 [(0, .ref 117), (1, .int p1), (2, .int p2), (3, .int p3)] [.int w18, .ref 117] am_G0 x9.2 := by
        refine am_iconst (v := (2 : Int32)) (am_dec tmX12_film 28 rfl) (by decide) ?_
        obtain ⟨x20, g19, hf⟩ := am_bd hf
        refine am_callV1 (As := [.int w18, .int (2 : Int32)]) (st := []) hE (am_dec tmX12_film 29 rfl) ok_X12_bad rfl lm_X12_191 in_X12_bad se_X12_bad sh_117 cf12 (c_X12_bad hE g19) rfl (by decide) (Nat.le_of_ble_eq_true rfl) (Nat.zero_le _) (Nat.zero_le _) rfl ?_
        refine am_if_eq (tgt := 62) (am_dec tmX12_film 30 rfl) (by decide) (fun c21 => ?_) (fun c21 => ?_)
        · rw [if_pos c21] at hf
          refine am_aload_n (am_dec tmX12_film 33 rfl) rfl rfl ?_
          refine am_getI (j := 13) hE (am_dec tmX12_film 34 rfl) sh_117 cf12 (by decide) rfl lf_X12_208 ?_
          refine am_iconst (v := (5 : Int32)) (am_dec tmX12_film 35 rfl) (by decide) ?_
          refine am_icmp_ne (tgt := 72) (am_dec tmX12_film 36 rfl) (by decide) (fun c22 => ?_) (fun c22 => ?_)
          · rw [if_neg c22] at hf
            refine am_iload_n (am_dec tmX12_film 39 rfl) rfl rfl ?_
            refine am_iload_n (am_dec tmX12_film 40 rfl) rfl rfl ?_
            refine am_imul (am_dec tmX12_film 41 rfl) ?_
            refine am_sipush (v := (1200 : Int32)) (am_dec tmX12_film 42 rfl) (by decide) ?_
            refine am_icmp_le (tgt := 86) (am_dec tmX12_film 43 rfl) (by decide) (fun c23 => ?_) (fun c23 => ?_)
            · rw [if_pos c23] at hf
              refine am_aload_n (am_dec tmX12_film 46 rfl) rfl rfl ?_
              refine am_aload_n (am_dec tmX12_film 47 rfl) rfl rfl ?_
              refine am_getR (j := 25) hE (am_dec tmX12_film 48 rfl) sh_117 cf12 (by decide) rfl lf_X12_46 rf_117_25 ?_
              refine am_iload_n (am_dec tmX12_film 49 rfl) rfl rfl ?_
              obtain ⟨x24, g25, hf⟩ := am_bd hf
              refine am_iald2 hE (am_dec tmX12_film 50 rfl) sh_139 g25 ?_
              refine am_iload_n (am_dec tmX12_film 51 rfl) rfl rfl ?_
              refine am_iload_n (am_dec tmX12_film 52 rfl) rfl rfl ?_
              refine am_imul (am_dec tmX12_film 53 rfl) ?_
              obtain ⟨x27, g26, hf⟩ := am_bd hf
              refine am_callV1 (As := [.int x24, .int (p2 * p3)]) (st := []) hE (am_dec tmX12_film 54 rfl) ok_X12_oneMark rfl lm_X12_377 in_X12_oneMark se_X12_oneMark sh_117 cf12 (c_X12_oneMark hE g26) rfl (by decide) (Nat.le_of_ble_eq_true rfl) (Nat.zero_le _) (Nat.zero_le _) rfl ?_
              have hf := Option.some.inj hf
              subst hf
              exact am_iret (am_dec tmX12_film 55 rfl) rfl (Nat.zero_le _) (Nat.zero_le _)
            · rw [if_neg c23] at hf
              refine am_bipush (v := (-2 : Int32)) (am_dec tmX12_film 44 rfl) (by decide) ?_
              refine am_goto (tgt := 99) (am_dec tmX12_film 45 rfl) (by decide) ?_
              have hf := Option.some.inj hf
              subst hf
              exact am_iret (am_dec tmX12_film 55 rfl) rfl (Nat.zero_le _) (Nat.zero_le _)
          · rw [if_pos c22] at hf
            refine am_iconst (v := (-1 : Int32)) (am_dec tmX12_film 37 rfl) (by decide) ?_
            have hf := Option.some.inj hf
            subst hf
            exact am_iret (am_dec tmX12_film 38 rfl) rfl (Nat.zero_le _) (Nat.zero_le _)
        · rw [if_neg c21] at hf
          refine am_iconst (v := (0 : Int32)) (am_dec tmX12_film 31 rfl) (by decide) ?_
          have hf := Option.some.inj hf
          subst hf
          exact am_iret (am_dec tmX12_film 32 rfl) rfl (Nat.zero_le _) (Nat.zero_le _)
      replace hf := g28
      refine am_if_eq (tgt := 48) (am_dec tmX12_film 19 rfl) (by decide) (fun c13 => ?_) (fun c13 => ?_)
      · rw [if_pos c13] at hf
        refine am_iconst (v := (1 : Int32)) (am_dec tmX12_film 25 rfl) (by decide) ?_
        refine am_goto (tgt := 53) (am_dec tmX12_film 26 rfl) (by decide) ?_
        have hf := Option.some.inj hf
        subst hf
        exact am_pick [0, 1, 2, 3] rfl key14
      · rw [if_neg c13] at hf
        refine am_iload_n (am_dec tmX12_film 20 rfl) rfl rfl ?_
        refine am_iconst (v := (1 : Int32)) (am_dec tmX12_film 21 rfl) (by decide) ?_
        refine am_bipush (v := (99 : Int32)) (am_dec tmX12_film 22 rfl) (by decide) ?_
        obtain ⟨x16, g15, hf⟩ := am_bd hf
        refine am_callS1 (As := [.int p3, .int (1 : Int32), .int (99 : Int32)]) (st := [.ref 117]) (am_dec tmX12_film 23 rfl) ok_X12_in rfl lm_X12_144 st_X12_in (c_X12_in hE g15) rfl (by decide) (Nat.le_of_ble_eq_true rfl) (Nat.zero_le _) (Nat.zero_le _) rfl ?_
        refine am_if_ne (tgt := 52) (am_dec tmX12_film 24 rfl) (by decide) (fun c17 => ?_) (fun c17 => ?_)
        · rw [if_neg c17] at hf
          refine am_iconst (v := (0 : Int32)) (am_dec tmX12_film 27 rfl) (by decide) ?_
          have hf := Option.some.inj hf
          subst hf
          exact am_pick [0, 1, 2, 3] rfl key14
        · rw [if_pos c17] at hf
          refine am_iconst (v := (1 : Int32)) (am_dec tmX12_film 25 rfl) (by decide) ?_
          refine am_goto (tgt := 53) (am_dec tmX12_film 26 rfl) (by decide) ?_
          have hf := Option.some.inj hf
          subst hf
          exact am_pick [0, 1, 2, 3] rfl key14
  replace hf := g29
  refine am_if_ne (tgt := 18) (am_dec tmX12_film 7 rfl) (by decide) (fun c5 => ?_) (fun c5 => ?_)
  · rw [if_neg c5] at hf
    refine am_iconst (v := (0 : Int32)) (am_dec tmX12_film 10 rfl) (by decide) ?_
    have hf := Option.some.inj hf
    subst hf
    exact am_pick [0, 1, 2, 3] rfl key6
  · rw [if_pos c5] at hf
    refine am_iconst (v := (1 : Int32)) (am_dec tmX12_film 8 rfl) (by decide) ?_
    refine am_goto (tgt := 19) (am_dec tmX12_film 9 rfl) (by decide) ?_
    have hf := Option.some.inj hf
    subst hf
    exact am_pick [0, 1, 2, 3] rfl key6
def f_X12_fails_L6 (q0 : Int32) (q1 : Int32) (q2 : Int32) (q3 : Int32) (q4 : Int32) : Nat → Int32 → Int32 → Option (Int32 ⊕ Int32 ⊕ Unit)
  | 0, _, _ => none
  | n + 1, v5, v6 =>
    if q4 ≤ v6 then
    some (.inr (.inr ()))
    else
    if (v5 + q0) ≤ q2 then
    if q3 ≤ v6 then
    if q1 ≤ (v5 + q0) then
    f_X12_fails_L6 q0 q1 q2 q3 q4 n ((v5 + q0) - q1) (v6 + (1 : Int32))
    else
    some (.inr (.inl (v6)))
    else
    f_X12_fails_L6 q0 q1 q2 q3 q4 n (v5 + q0) (v6 + (1 : Int32))
    else
    some (.inl (v6))
def f_X12_fails (p0 : Int32) (p1 : Int32) (p2 : Int32) (p3 : Int32) (p4 : Int32) : Option (Int32) :=
    am_b3 (f_X12_fails_L6 p0 p1 p2 p3 p4 am_fu (0 : Int32) (0 : Int32))
    (fun e5 =>
    some e5)
    (fun e6 =>
    some e6)
    (fun e7 =>
    some (-1 : Int32))
set_option maxRecDepth 100000 in
set_option maxHeartbeats 4000000 in
theorem l_X12_fails_L6 {E : am_E} (hE : am_EH E) {d mc ms : Nat} {o : am_O} {G2 : am_G} {D2 : am_D} (hdp : 1 ≤ d) {q0 : Int32} {q1 : Int32} {q2 : Int32} {q3 : Int32} {q4 : Int32} {D : am_D}  : ∀ (n : Nat) (v5 : Int32) (v6 : Int32) (ex0 : Int32 ⊕ Int32 ⊕ Unit), f_X12_fails_L6 q0 q1 q2 q3 q4 n v5 v6 = some ex0 → (∀ ex : Int32, ex0 = .inl ex → am_S E mX12_fails d mc ms o G2 D2 0 0 25 [(6, .int ex)] [] am_G0 D) → (∀ ex : Int32, ex0 = .inr (.inl ex) → am_S E mX12_fails d mc ms o G2 D2 0 0 43 [(6, .int ex)] [] am_G0 D) → (∀ ex : Unit, ex0 = .inr (.inr ex) → am_S E mX12_fails d mc ms o G2 D2 0 0 58 [] [] am_G0 D) → am_S E mX12_fails d mc ms o G2 D2 0 0 6 [(0, .int q0), (1, .int q1), (2, .int q2), (3, .int q3), (4, .int q4), (5, .int v5), (6, .int v6)] [] am_G0 D
  | 0, _, _, _, hf, _, _, _ => by
    unfold f_X12_fails_L6 at hf
    cases hf
  | n + 1, v5, v6, ex0, hf, hk0, hk1, hk2 => by
    unfold f_X12_fails_L6 at hf
    refine am_iload (am_dec tmX12_fails 4 rfl) rfl ?_
    refine am_iload (am_dec tmX12_fails 5 rfl) rfl ?_
    refine am_icmp_ge (tgt := 58) (am_dec tmX12_fails 6 rfl) (by decide) (fun c1 => ?_) (fun c1 => ?_)
    · rw [if_pos c1] at hf
      have hf := Option.some.inj hf
      subst hf
      exact am_pick [] rfl (hk2 _ rfl)
    · rw [if_neg c1] at hf
      refine am_iload (am_dec tmX12_fails 7 rfl) rfl ?_
      refine am_iload_n (am_dec tmX12_fails 8 rfl) rfl rfl ?_
      refine am_iadd (am_dec tmX12_fails 9 rfl) ?_
      refine am_istore (lv' := [(0, .int q0), (1, .int q1), (2, .int q2), (3, .int q3), (4, .int q4), (5, .int (v5 + q0)), (6, .int v6)]) (am_dec tmX12_fails 10 rfl) (by decide) rfl ?_
      refine am_iload (am_dec tmX12_fails 11 rfl) rfl ?_
      refine am_iload_n (am_dec tmX12_fails 12 rfl) rfl rfl ?_
      refine am_icmp_le (tgt := 28) (am_dec tmX12_fails 13 rfl) (by decide) (fun c2 => ?_) (fun c2 => ?_)
      · rw [if_pos c2] at hf
        refine am_iload (am_dec tmX12_fails 16 rfl) rfl ?_
        refine am_iload_n (am_dec tmX12_fails 17 rfl) rfl rfl ?_
        refine am_icmp_ge (tgt := 37) (am_dec tmX12_fails 18 rfl) (by decide) (fun c3 => ?_) (fun c3 => ?_)
        · rw [if_pos c3] at hf
          refine am_iload (am_dec tmX12_fails 20 rfl) rfl ?_
          refine am_iload_n (am_dec tmX12_fails 21 rfl) rfl rfl ?_
          refine am_icmp_ge (tgt := 46) (am_dec tmX12_fails 22 rfl) (by decide) (fun c4 => ?_) (fun c4 => ?_)
          · rw [if_pos c4] at hf
            refine am_iload (am_dec tmX12_fails 25 rfl) rfl ?_
            refine am_iload_n (am_dec tmX12_fails 26 rfl) rfl rfl ?_
            refine am_isub (am_dec tmX12_fails 27 rfl) ?_
            refine am_istore (lv' := [(0, .int q0), (1, .int q1), (2, .int q2), (3, .int q3), (4, .int q4), (5, .int ((v5 + q0) - q1)), (6, .int v6)]) (am_dec tmX12_fails 28 rfl) (by decide) rfl ?_
            refine am_iinc (v := (1 : Int32)) (lv' := [(0, .int q0), (1, .int q1), (2, .int q2), (3, .int q3), (4, .int q4), (5, .int ((v5 + q0) - q1)), (6, .int (v6 + (1 : Int32)))]) (am_dec tmX12_fails 29 rfl) rfl (by decide) (by decide) rfl ?_
            refine am_goto (tgt := 6) (am_dec tmX12_fails 30 rfl) (by decide) ?_
            exact am_pick [0, 1, 2, 3, 4, 5, 6] rfl (l_X12_fails_L6 hE hdp n ((v5 + q0) - q1) (v6 + (1 : Int32)) ex0 hf hk0 hk1 hk2)
          · rw [if_neg c4] at hf
            have hf := Option.some.inj hf
            subst hf
            exact am_pick [6] rfl (hk1 _ rfl)
        · rw [if_neg c3] at hf
          refine am_goto (tgt := 52) (am_dec tmX12_fails 19 rfl) (by decide) ?_
          refine am_iinc (v := (1 : Int32)) (lv' := [(0, .int q0), (1, .int q1), (2, .int q2), (3, .int q3), (4, .int q4), (5, .int (v5 + q0)), (6, .int (v6 + (1 : Int32)))]) (am_dec tmX12_fails 29 rfl) rfl (by decide) (by decide) rfl ?_
          refine am_goto (tgt := 6) (am_dec tmX12_fails 30 rfl) (by decide) ?_
          exact am_pick [0, 1, 2, 3, 4, 5, 6] rfl (l_X12_fails_L6 hE hdp n (v5 + q0) (v6 + (1 : Int32)) ex0 hf hk0 hk1 hk2)
      · rw [if_neg c2] at hf
        have hf := Option.some.inj hf
        subst hf
        exact am_pick [6] rfl (hk0 _ rfl)
set_option maxRecDepth 100000 in
set_option maxHeartbeats 4000000 in
theorem c_X12_fails {E : am_E} (hE : am_EH E) {p0 : Int32} {p1 : Int32} {p2 : Int32} {p3 : Int32} {p4 : Int32} {D : am_D} {r : Int32}  (hf : f_X12_fails p0 p1 p2 p3 p4 = some r) : am_C E mX12_fails 1 0 0 [.int p0, .int p1, .int p2, .int p3, .int p4] am_G0 D (.inl (some (.int r))) am_G0 D := by
  refine am_C_of (by decide +kernel) (Nat.le_of_ble_eq_true rfl) ?_
  change am_S E mX12_fails 1 0 0 (.inl (some (.int r))) am_G0 D 0 0 0 [(0, .int p0), (1, .int p1), (2, .int p2), (3, .int p3), (4, .int p4)] [] am_G0 D
  unfold f_X12_fails at hf
  refine am_iconst (v := (0 : Int32)) (am_dec tmX12_fails 0 rfl) (by decide) ?_
  refine am_istore (lv' := [(0, .int p0), (1, .int p1), (2, .int p2), (3, .int p3), (4, .int p4), (5, .int (0 : Int32))]) (am_dec tmX12_fails 1 rfl) (by decide) rfl ?_
  refine am_iconst (v := (0 : Int32)) (am_dec tmX12_fails 2 rfl) (by decide) ?_
  refine am_istore (lv' := [(0, .int p0), (1, .int p1), (2, .int p2), (3, .int p3), (4, .int p4), (5, .int (0 : Int32)), (6, .int (0 : Int32))]) (am_dec tmX12_fails 3 rfl) (by decide) rfl ?_
  rcases am_b3d hf with ⟨e5, g8, hf⟩ | ⟨e6, g8, hf⟩ | ⟨e7, g8, hf⟩
  · refine am_pick [0, 1, 2, 3, 4, 5, 6] rfl (l_X12_fails_L6 hE (Nat.le_refl _) am_fu _ _ _ g8 (fun ex he => ?_) (fun ex he => by cases he) (fun ex he => by cases he))
    cases he
    refine am_iload (am_dec tmX12_fails 14 rfl) rfl ?_
    have hf := Option.some.inj hf
    subst hf
    exact am_iret (am_dec tmX12_fails 15 rfl) rfl (Nat.zero_le _) (Nat.zero_le _)
  · refine am_pick [0, 1, 2, 3, 4, 5, 6] rfl (l_X12_fails_L6 hE (Nat.le_refl _) am_fu _ _ _ g8 (fun ex he => by cases he) (fun ex he => ?_) (fun ex he => by cases he))
    cases he
    refine am_iload (am_dec tmX12_fails 23 rfl) rfl ?_
    have hf := Option.some.inj hf
    subst hf
    exact am_iret (am_dec tmX12_fails 24 rfl) rfl (Nat.zero_le _) (Nat.zero_le _)
  · refine am_pick [0, 1, 2, 3, 4, 5, 6] rfl (l_X12_fails_L6 hE (Nat.le_refl _) am_fu _ _ _ g8 (fun ex he => by cases he) (fun ex he => by cases he) (fun ex he => ?_))
    cases he
    refine am_iconst (v := (-1 : Int32)) (am_dec tmX12_fails 31 rfl) (by decide) ?_
    have hf := Option.some.inj hf
    subst hf
    exact am_iret (am_dec tmX12_fails 32 rfl) rfl (Nat.zero_le _) (Nat.zero_le _)
def f_X12_isLive (p0 : Int32) (p1 : Int32) (p2 : Int32) (p3 : Int32) : Option (Int32) :=
    (f_X12_in p0 (0 : Int32) (99 : Int32)).bind fun x2 =>
    if x2 = 0 then
    some (0 : Int32)
    else
    (f_X12_in p1 (0 : Int32) (99 : Int32)).bind fun x5 =>
    if x5 = 0 then
    some (0 : Int32)
    else
    (f_X12_in p2 (1 : Int32) (999 : Int32)).bind fun x8 =>
    if x8 = 0 then
    some (0 : Int32)
    else
    (f_X12_in p3 (1 : Int32) (999 : Int32)).bind fun x11 =>
    if x11 = 0 then
    some (0 : Int32)
    else
    some (1 : Int32)
set_option maxRecDepth 100000 in
set_option maxHeartbeats 4000000 in
theorem c_X12_isLive {E : am_E} (hE : am_EH E) {p0 : Int32} {p1 : Int32} {p2 : Int32} {p3 : Int32} {D : am_D} {r : Int32}  (hf : f_X12_isLive p0 p1 p2 p3 = some r) : am_C E mX12_isLive 2 0 0 [.int p0, .int p1, .int p2, .int p3] am_G0 D (.inl (some (.int r))) am_G0 D := by
  refine am_C_of (by decide +kernel) (Nat.le_of_ble_eq_true rfl) ?_
  change am_S E mX12_isLive 2 0 0 (.inl (some (.int r))) am_G0 D 0 0 0 [(0, .int p0), (1, .int p1), (2, .int p2), (3, .int p3)] [] am_G0 D
  unfold f_X12_isLive at hf
  refine am_iload_n (am_dec tmX12_isLive 0 rfl) rfl rfl ?_
  refine am_iconst (v := (0 : Int32)) (am_dec tmX12_isLive 1 rfl) (by decide) ?_
  refine am_bipush (v := (99 : Int32)) (am_dec tmX12_isLive 2 rfl) (by decide) ?_
  obtain ⟨x2, g1, hf⟩ := am_bd hf
  refine am_callS1 (As := [.int p0, .int (0 : Int32), .int (99 : Int32)]) (st := []) (am_dec tmX12_isLive 3 rfl) ok_X12_in rfl lm_X12_144 st_X12_in (c_X12_in hE g1) rfl (by decide) (Nat.le_of_ble_eq_true rfl) (Nat.zero_le _) (Nat.zero_le _) rfl ?_
  refine am_if_eq (tgt := 46) (am_dec tmX12_isLive 4 rfl) (by decide) (fun c3 => ?_) (fun c3 => ?_)
  · rw [if_pos c3] at hf
    refine am_iconst (v := (0 : Int32)) (am_dec tmX12_isLive 22 rfl) (by decide) ?_
    have hf := Option.some.inj hf
    subst hf
    exact am_zret (am_dec tmX12_isLive 23 rfl) rfl am_z0 (Nat.zero_le _) (Nat.zero_le _)
  · rw [if_neg c3] at hf
    refine am_iload_n (am_dec tmX12_isLive 5 rfl) rfl rfl ?_
    refine am_iconst (v := (0 : Int32)) (am_dec tmX12_isLive 6 rfl) (by decide) ?_
    refine am_bipush (v := (99 : Int32)) (am_dec tmX12_isLive 7 rfl) (by decide) ?_
    obtain ⟨x5, g4, hf⟩ := am_bd hf
    refine am_callS1 (As := [.int p1, .int (0 : Int32), .int (99 : Int32)]) (st := []) (am_dec tmX12_isLive 8 rfl) ok_X12_in rfl lm_X12_144 st_X12_in (c_X12_in hE g4) rfl (by decide) (Nat.le_of_ble_eq_true rfl) (Nat.zero_le _) (Nat.zero_le _) rfl ?_
    refine am_if_eq (tgt := 46) (am_dec tmX12_isLive 9 rfl) (by decide) (fun c6 => ?_) (fun c6 => ?_)
    · rw [if_pos c6] at hf
      refine am_iconst (v := (0 : Int32)) (am_dec tmX12_isLive 22 rfl) (by decide) ?_
      have hf := Option.some.inj hf
      subst hf
      exact am_zret (am_dec tmX12_isLive 23 rfl) rfl am_z0 (Nat.zero_le _) (Nat.zero_le _)
    · rw [if_neg c6] at hf
      refine am_iload_n (am_dec tmX12_isLive 10 rfl) rfl rfl ?_
      refine am_iconst (v := (1 : Int32)) (am_dec tmX12_isLive 11 rfl) (by decide) ?_
      refine am_sipush (v := (999 : Int32)) (am_dec tmX12_isLive 12 rfl) (by decide) ?_
      obtain ⟨x8, g7, hf⟩ := am_bd hf
      refine am_callS1 (As := [.int p2, .int (1 : Int32), .int (999 : Int32)]) (st := []) (am_dec tmX12_isLive 13 rfl) ok_X12_in rfl lm_X12_144 st_X12_in (c_X12_in hE g7) rfl (by decide) (Nat.le_of_ble_eq_true rfl) (Nat.zero_le _) (Nat.zero_le _) rfl ?_
      refine am_if_eq (tgt := 46) (am_dec tmX12_isLive 14 rfl) (by decide) (fun c9 => ?_) (fun c9 => ?_)
      · rw [if_pos c9] at hf
        refine am_iconst (v := (0 : Int32)) (am_dec tmX12_isLive 22 rfl) (by decide) ?_
        have hf := Option.some.inj hf
        subst hf
        exact am_zret (am_dec tmX12_isLive 23 rfl) rfl am_z0 (Nat.zero_le _) (Nat.zero_le _)
      · rw [if_neg c9] at hf
        refine am_iload_n (am_dec tmX12_isLive 15 rfl) rfl rfl ?_
        refine am_iconst (v := (1 : Int32)) (am_dec tmX12_isLive 16 rfl) (by decide) ?_
        refine am_sipush (v := (999 : Int32)) (am_dec tmX12_isLive 17 rfl) (by decide) ?_
        obtain ⟨x11, g10, hf⟩ := am_bd hf
        refine am_callS1 (As := [.int p3, .int (1 : Int32), .int (999 : Int32)]) (st := []) (am_dec tmX12_isLive 18 rfl) ok_X12_in rfl lm_X12_144 st_X12_in (c_X12_in hE g10) rfl (by decide) (Nat.le_of_ble_eq_true rfl) (Nat.zero_le _) (Nat.zero_le _) rfl ?_
        refine am_if_eq (tgt := 46) (am_dec tmX12_isLive 19 rfl) (by decide) (fun c12 => ?_) (fun c12 => ?_)
        · rw [if_pos c12] at hf
          refine am_iconst (v := (0 : Int32)) (am_dec tmX12_isLive 22 rfl) (by decide) ?_
          have hf := Option.some.inj hf
          subst hf
          exact am_zret (am_dec tmX12_isLive 23 rfl) rfl am_z0 (Nat.zero_le _) (Nat.zero_le _)
        · rw [if_neg c12] at hf
          refine am_iconst (v := (1 : Int32)) (am_dec tmX12_isLive 20 rfl) (by decide) ?_
          refine am_goto (tgt := 47) (am_dec tmX12_isLive 21 rfl) (by decide) ?_
          have hf := Option.some.inj hf
          subst hf
          exact am_zret (am_dec tmX12_isLive 23 rfl) rfl am_z1 (Nat.zero_le _) (Nat.zero_le _)
theorem z_X12_isLive {p0 : Int32} {p1 : Int32} {p2 : Int32} {p3 : Int32} {r : Int32} (hf : f_X12_isLive p0 p1 p2 p3 = some r) : narrow .boolean (.int r) = .int r := by
  unfold f_X12_isLive at hf
  obtain ⟨x2, g1, hf⟩ := am_bd hf
  by_cases c3 : x2 = 0
  · rw [if_pos c3] at hf
    have hf := Option.some.inj hf
    subst hf
    exact am_z0
  · rw [if_neg c3] at hf
    obtain ⟨x5, g4, hf⟩ := am_bd hf
    by_cases c6 : x5 = 0
    · rw [if_pos c6] at hf
      have hf := Option.some.inj hf
      subst hf
      exact am_z0
    · rw [if_neg c6] at hf
      obtain ⟨x8, g7, hf⟩ := am_bd hf
      by_cases c9 : x8 = 0
      · rw [if_pos c9] at hf
        have hf := Option.some.inj hf
        subst hf
        exact am_z0
      · rw [if_neg c9] at hf
        obtain ⟨x11, g10, hf⟩ := am_bd hf
        by_cases c12 : x11 = 0
        · rw [if_pos c12] at hf
          have hf := Option.some.inj hf
          subst hf
          exact am_z0
        · rw [if_neg c12] at hf
          have hf := Option.some.inj hf
          subst hf
          exact am_z1
def f_X12_live (p1 : Int32) (p2 : Int32) (p3 : Int32) (p4 : Int32) (p5 : Int32) (D : am_D) : Option ((Int32 × am_D)) :=
    (some (am_wI D 117 0 (0 : Int32))).bind fun D1 =>
    (f_X12_isLive p1 p2 p3 p5).bind fun x4 =>
    (if x4 = 0 then
    some ((1 : Int32))
    else
    (f_X12_in p4 (0 : Int32) (999 : Int32)).bind fun x8 =>
    if x8 = 0 then
    some ((1 : Int32))
    else
    some ((0 : Int32))).bind fun w10 =>
    (f_X12_bad w10 (1 : Int32) D1).bind fun x12 =>
    if x12.1 = 0 then
    (f_X12_fails p1 p2 p3 p4 p5).bind fun x15 =>
    some (x15, x12.2)
    else
    some ((0 : Int32), x12.2)
set_option maxRecDepth 100000 in
set_option maxHeartbeats 4000000 in
theorem c_X12_live {E : am_E} (hE : am_EH E) {p1 : Int32} {p2 : Int32} {p3 : Int32} {p4 : Int32} {p5 : Int32} {D : am_D} {r : (Int32 × am_D)}  (hf : f_X12_live p1 p2 p3 p4 p5 D = some r) : am_C E mX12_live 3 0 0 [.ref 117, .int p1, .int p2, .int p3, .int p4, .int p5] am_G0 D (.inl (some (.int r.1))) am_G0 r.2 := by
  refine am_C_of (by decide +kernel) (Nat.le_of_ble_eq_true rfl) ?_
  change am_S E mX12_live 3 0 0 (.inl (some (.int r.1))) am_G0 r.2 0 0 0 [(0, .ref 117), (1, .int p1), (2, .int p2), (3, .int p3), (4, .int p4), (5, .int p5)] [] am_G0 D
  unfold f_X12_live at hf
  refine am_aload_n (am_dec tmX12_live 0 rfl) rfl rfl ?_
  refine am_iconst (v := (0 : Int32)) (am_dec tmX12_live 1 rfl) (by decide) ?_
  obtain ⟨D1, g2, hf⟩ := am_bd hf
  refine am_putI2 (j := 0) hE (am_dec tmX12_live 2 rfl) sh_117 cf12 (by decide) rfl lf_X12_110 rfl rfl rfl g2 ?_
  refine am_aload_n (am_dec tmX12_live 3 rfl) rfl rfl ?_
  refine am_iload_n (am_dec tmX12_live 4 rfl) rfl rfl ?_
  refine am_iload_n (am_dec tmX12_live 5 rfl) rfl rfl ?_
  refine am_iload_n (am_dec tmX12_live 6 rfl) rfl rfl ?_
  refine am_iload (am_dec tmX12_live 7 rfl) rfl ?_
  obtain ⟨x4, g3, hf⟩ := am_bd hf
  refine am_callS1 (As := [.int p1, .int p2, .int p3, .int p5]) (st := [.ref 117]) (am_dec tmX12_live 8 rfl) ok_X12_isLive rfl lm_X12_408 st_X12_isLive (c_X12_isLive hE g3) rfl (by decide) (Nat.le_of_ble_eq_true rfl) (Nat.zero_le _) (Nat.zero_le _) rfl ?_
  obtain ⟨w10, g16, hf⟩ := am_bd hf
  have key6 : am_S E mX12_live 3 0 0 (.inl (some (.int r.1))) am_G0 r.2 0 0 34 [(1, .int p1), (2, .int p2), (3, .int p3), (4, .int p4), (5, .int p5)] [.int w10, .ref 117] am_G0 D1 := by
    refine am_iconst (v := (1 : Int32)) (am_dec tmX12_live 18 rfl) (by decide) ?_
    obtain ⟨x12, g11, hf⟩ := am_bd hf
    refine am_callV1 (As := [.int w10, .int (1 : Int32)]) (st := []) hE (am_dec tmX12_live 19 rfl) ok_X12_bad rfl lm_X12_191 in_X12_bad se_X12_bad sh_117 cf12 (c_X12_bad hE g11) rfl (by decide) (Nat.le_of_ble_eq_true rfl) (Nat.zero_le _) (Nat.zero_le _) rfl ?_
    refine am_if_eq (tgt := 43) (am_dec tmX12_live 20 rfl) (by decide) (fun c13 => ?_) (fun c13 => ?_)
    · rw [if_pos c13] at hf
      refine am_iload_n (am_dec tmX12_live 23 rfl) rfl rfl ?_
      refine am_iload_n (am_dec tmX12_live 24 rfl) rfl rfl ?_
      refine am_iload_n (am_dec tmX12_live 25 rfl) rfl rfl ?_
      refine am_iload (am_dec tmX12_live 26 rfl) rfl ?_
      refine am_iload (am_dec tmX12_live 27 rfl) rfl ?_
      obtain ⟨x15, g14, hf⟩ := am_bd hf
      refine am_callS1 (As := [.int p1, .int p2, .int p3, .int p4, .int p5]) (st := []) (am_dec tmX12_live 28 rfl) ok_X12_fails rfl lm_X12_412 st_X12_fails (c_X12_fails hE g14) rfl (by decide) (Nat.le_of_ble_eq_true rfl) (Nat.zero_le _) (Nat.zero_le _) rfl ?_
      have hf := Option.some.inj hf
      subst hf
      exact am_iret (am_dec tmX12_live 29 rfl) rfl (Nat.zero_le _) (Nat.zero_le _)
    · rw [if_neg c13] at hf
      refine am_iconst (v := (0 : Int32)) (am_dec tmX12_live 21 rfl) (by decide) ?_
      have hf := Option.some.inj hf
      subst hf
      exact am_iret (am_dec tmX12_live 22 rfl) rfl (Nat.zero_le _) (Nat.zero_le _)
  replace hf := g16
  refine am_if_eq (tgt := 29) (am_dec tmX12_live 9 rfl) (by decide) (fun c5 => ?_) (fun c5 => ?_)
  · rw [if_pos c5] at hf
    refine am_iconst (v := (1 : Int32)) (am_dec tmX12_live 15 rfl) (by decide) ?_
    refine am_goto (tgt := 34) (am_dec tmX12_live 16 rfl) (by decide) ?_
    have hf := Option.some.inj hf
    subst hf
    exact am_pick [1, 2, 3, 4, 5] rfl key6
  · rw [if_neg c5] at hf
    refine am_iload (am_dec tmX12_live 10 rfl) rfl ?_
    refine am_iconst (v := (0 : Int32)) (am_dec tmX12_live 11 rfl) (by decide) ?_
    refine am_sipush (v := (999 : Int32)) (am_dec tmX12_live 12 rfl) (by decide) ?_
    obtain ⟨x8, g7, hf⟩ := am_bd hf
    refine am_callS1 (As := [.int p4, .int (0 : Int32), .int (999 : Int32)]) (st := [.ref 117]) (am_dec tmX12_live 13 rfl) ok_X12_in rfl lm_X12_144 st_X12_in (c_X12_in hE g7) rfl (by decide) (Nat.le_of_ble_eq_true rfl) (Nat.zero_le _) (Nat.zero_le _) rfl ?_
    refine am_if_ne (tgt := 33) (am_dec tmX12_live 14 rfl) (by decide) (fun c9 => ?_) (fun c9 => ?_)
    · rw [if_neg c9] at hf
      refine am_iconst (v := (0 : Int32)) (am_dec tmX12_live 17 rfl) (by decide) ?_
      have hf := Option.some.inj hf
      subst hf
      exact am_pick [1, 2, 3, 4, 5] rfl key6
    · rw [if_pos c9] at hf
      refine am_iconst (v := (1 : Int32)) (am_dec tmX12_live 15 rfl) (by decide) ?_
      refine am_goto (tgt := 34) (am_dec tmX12_live 16 rfl) (by decide) ?_
      have hf := Option.some.inj hf
      subst hf
      exact am_pick [1, 2, 3, 4, 5] rfl key6
def f_X12_lag_L34 (q1 : Int32) (q2 : Int32) (q3 : Int32) (q4 : Int32) : Nat → Int32 → Option (Int32 ⊕ Unit)
  | 0, _ => none
  | n + 1, v5 =>
    if (100 : Int32) ≤ v5 then
    some (.inr ())
    else
    (f_X12_fails q1 q2 q3 v5 q4).bind fun x13 =>
    if x13 = (-1 : Int32) then
    some (.inl (v5))
    else
    f_X12_lag_L34 q1 q2 q3 q4 n (v5 + (1 : Int32))
def f_X12_lag (p1 : Int32) (p2 : Int32) (p3 : Int32) (p4 : Int32) (D : am_D) : Option ((Int32 × am_D)) :=
    (some (am_wI D 117 0 (0 : Int32))).bind fun D1 =>
    (f_X12_isLive p1 p2 p3 p4).bind fun x4 =>
    (if x4 = 0 then
    some ((1 : Int32))
    else
    some ((0 : Int32))).bind fun w7 =>
    (f_X12_bad w7 (1 : Int32) D1).bind fun x9 =>
    if x9.1 = 0 then
    am_b2 (f_X12_lag_L34 p1 p2 p3 p4 am_fu (0 : Int32))
    (fun e15 =>
    some (e15, x9.2))
    (fun e16 =>
    some ((-1 : Int32), x9.2))
    else
    some ((0 : Int32), x9.2)
set_option maxRecDepth 100000 in
set_option maxHeartbeats 4000000 in
theorem l_X12_lag_L34 {E : am_E} (hE : am_EH E) {d mc ms : Nat} {o : am_O} {G2 : am_G} {D2 : am_D} (hdp : 3 ≤ d) {q1 : Int32} {q2 : Int32} {q3 : Int32} {q4 : Int32} {D : am_D}  : ∀ (n : Nat) (v5 : Int32) (ex0 : Int32 ⊕ Unit), f_X12_lag_L34 q1 q2 q3 q4 n v5 = some ex0 → (∀ ex : Int32, ex0 = .inl ex → am_S E mX12_lag d mc ms o G2 D2 0 0 55 [(5, .int ex)] [] am_G0 D) → (∀ ex : Unit, ex0 = .inr ex → am_S E mX12_lag d mc ms o G2 D2 0 0 64 [] [] am_G0 D) → am_S E mX12_lag d mc ms o G2 D2 0 0 34 [(1, .int q1), (2, .int q2), (3, .int q3), (4, .int q4), (5, .int v5)] [] am_G0 D
  | 0, _, _, hf, _, _ => by
    unfold f_X12_lag_L34 at hf
    cases hf
  | n + 1, v5, ex0, hf, hk0, hk1 => by
    unfold f_X12_lag_L34 at hf
    refine am_iload (am_dec tmX12_lag 20 rfl) rfl ?_
    refine am_bipush (v := (100 : Int32)) (am_dec tmX12_lag 21 rfl) (by decide) ?_
    refine am_icmp_ge (tgt := 64) (am_dec tmX12_lag 22 rfl) (by decide) (fun c11 => ?_) (fun c11 => ?_)
    · rw [if_pos c11] at hf
      have hf := Option.some.inj hf
      subst hf
      exact am_pick [] rfl (hk1 _ rfl)
    · rw [if_neg c11] at hf
      refine am_iload_n (am_dec tmX12_lag 23 rfl) rfl rfl ?_
      refine am_iload_n (am_dec tmX12_lag 24 rfl) rfl rfl ?_
      refine am_iload_n (am_dec tmX12_lag 25 rfl) rfl rfl ?_
      refine am_iload (am_dec tmX12_lag 26 rfl) rfl ?_
      refine am_iload (am_dec tmX12_lag 27 rfl) rfl ?_
      obtain ⟨x13, g12, hf⟩ := am_bd hf
      refine am_callS1 (As := [.int q1, .int q2, .int q3, .int v5, .int q4]) (st := []) (am_dec tmX12_lag 28 rfl) ok_X12_fails rfl lm_X12_412 st_X12_fails (c_X12_fails hE g12) rfl (Nat.lt_of_lt_of_le (by decide) hdp) (Nat.le_of_ble_eq_true rfl) (Nat.zero_le _) (Nat.zero_le _) rfl ?_
      refine am_iconst (v := (-1 : Int32)) (am_dec tmX12_lag 29 rfl) (by decide) ?_
      refine am_icmp_ne (tgt := 58) (am_dec tmX12_lag 30 rfl) (by decide) (fun c14 => ?_) (fun c14 => ?_)
      · rw [if_neg c14] at hf
        refine am_iinc (v := (1 : Int32)) (lv' := [(1, .int q1), (2, .int q2), (3, .int q3), (4, .int q4), (5, .int (v5 + (1 : Int32)))]) (am_dec tmX12_lag 33 rfl) rfl (by decide) (by decide) rfl ?_
        refine am_goto (tgt := 34) (am_dec tmX12_lag 34 rfl) (by decide) ?_
        exact am_pick [0, 1, 2, 3, 4] rfl (l_X12_lag_L34 hE hdp n (v5 + (1 : Int32)) ex0 hf hk0 hk1)
      · rw [if_pos c14] at hf
        have hf := Option.some.inj hf
        subst hf
        exact am_pick [4] rfl (hk0 _ rfl)
set_option maxRecDepth 100000 in
set_option maxHeartbeats 4000000 in
theorem c_X12_lag {E : am_E} (hE : am_EH E) {p1 : Int32} {p2 : Int32} {p3 : Int32} {p4 : Int32} {D : am_D} {r : (Int32 × am_D)}  (hf : f_X12_lag p1 p2 p3 p4 D = some r) : am_C E mX12_lag 3 0 0 [.ref 117, .int p1, .int p2, .int p3, .int p4] am_G0 D (.inl (some (.int r.1))) am_G0 r.2 := by
  refine am_C_of (by decide +kernel) (Nat.le_of_ble_eq_true rfl) ?_
  change am_S E mX12_lag 3 0 0 (.inl (some (.int r.1))) am_G0 r.2 0 0 0 [(0, .ref 117), (1, .int p1), (2, .int p2), (3, .int p3), (4, .int p4)] [] am_G0 D
  unfold f_X12_lag at hf
  refine am_aload_n (am_dec tmX12_lag 0 rfl) rfl rfl ?_
  refine am_iconst (v := (0 : Int32)) (am_dec tmX12_lag 1 rfl) (by decide) ?_
  obtain ⟨D1, g2, hf⟩ := am_bd hf
  refine am_putI2 (j := 0) hE (am_dec tmX12_lag 2 rfl) sh_117 cf12 (by decide) rfl lf_X12_110 rfl rfl rfl g2 ?_
  refine am_aload_n (am_dec tmX12_lag 3 rfl) rfl rfl ?_
  refine am_iload_n (am_dec tmX12_lag 4 rfl) rfl rfl ?_
  refine am_iload_n (am_dec tmX12_lag 5 rfl) rfl rfl ?_
  refine am_iload_n (am_dec tmX12_lag 6 rfl) rfl rfl ?_
  refine am_iload (am_dec tmX12_lag 7 rfl) rfl ?_
  obtain ⟨x4, g3, hf⟩ := am_bd hf
  refine am_callS1 (As := [.int p1, .int p2, .int p3, .int p4]) (st := [.ref 117]) (am_dec tmX12_lag 8 rfl) ok_X12_isLive rfl lm_X12_408 st_X12_isLive (c_X12_isLive hE g3) rfl (by decide) (Nat.le_of_ble_eq_true rfl) (Nat.zero_le _) (Nat.zero_le _) rfl ?_
  obtain ⟨w7, g18, hf⟩ := am_bd hf
  have key6 : am_S E mX12_lag 3 0 0 (.inl (some (.int r.1))) am_G0 r.2 0 0 22 [(1, .int p1), (2, .int p2), (3, .int p3), (4, .int p4)] [.int w7, .ref 117] am_G0 D1 := by
    refine am_iconst (v := (1 : Int32)) (am_dec tmX12_lag 13 rfl) (by decide) ?_
    obtain ⟨x9, g8, hf⟩ := am_bd hf
    refine am_callV1 (As := [.int w7, .int (1 : Int32)]) (st := []) hE (am_dec tmX12_lag 14 rfl) ok_X12_bad rfl lm_X12_191 in_X12_bad se_X12_bad sh_117 cf12 (c_X12_bad hE g8) rfl (by decide) (Nat.le_of_ble_eq_true rfl) (Nat.zero_le _) (Nat.zero_le _) rfl ?_
    refine am_if_eq (tgt := 31) (am_dec tmX12_lag 15 rfl) (by decide) (fun c10 => ?_) (fun c10 => ?_)
    · rw [if_pos c10] at hf
      refine am_iconst (v := (0 : Int32)) (am_dec tmX12_lag 18 rfl) (by decide) ?_
      refine am_istore (lv' := [(1, .int p1), (2, .int p2), (3, .int p3), (4, .int p4), (5, .int (0 : Int32))]) (am_dec tmX12_lag 19 rfl) (by decide) rfl ?_
      rcases am_b2d hf with ⟨e15, g17, hf⟩ | ⟨e16, g17, hf⟩
      · refine am_pick [0, 1, 2, 3, 4] rfl (l_X12_lag_L34 hE (Nat.le_refl _) am_fu _ _ g17 (fun ex he => ?_) (fun ex he => by cases he))
        cases he
        refine am_iload (am_dec tmX12_lag 31 rfl) rfl ?_
        have hf := Option.some.inj hf
        subst hf
        exact am_iret (am_dec tmX12_lag 32 rfl) rfl (Nat.zero_le _) (Nat.zero_le _)
      · refine am_pick [0, 1, 2, 3, 4] rfl (l_X12_lag_L34 hE (Nat.le_refl _) am_fu _ _ g17 (fun ex he => by cases he) (fun ex he => ?_))
        cases he
        refine am_iconst (v := (-1 : Int32)) (am_dec tmX12_lag 35 rfl) (by decide) ?_
        have hf := Option.some.inj hf
        subst hf
        exact am_iret (am_dec tmX12_lag 36 rfl) rfl (Nat.zero_le _) (Nat.zero_le _)
    · rw [if_neg c10] at hf
      refine am_iconst (v := (0 : Int32)) (am_dec tmX12_lag 16 rfl) (by decide) ?_
      have hf := Option.some.inj hf
      subst hf
      exact am_iret (am_dec tmX12_lag 17 rfl) rfl (Nat.zero_le _) (Nat.zero_le _)
  replace hf := g18
  refine am_if_ne (tgt := 21) (am_dec tmX12_lag 9 rfl) (by decide) (fun c5 => ?_) (fun c5 => ?_)
  · rw [if_neg c5] at hf
    refine am_iconst (v := (0 : Int32)) (am_dec tmX12_lag 12 rfl) (by decide) ?_
    have hf := Option.some.inj hf
    subst hf
    exact am_pick [1, 2, 3, 4] rfl key6
  · rw [if_pos c5] at hf
    refine am_iconst (v := (1 : Int32)) (am_dec tmX12_lag 10 rfl) (by decide) ?_
    refine am_goto (tgt := 22) (am_dec tmX12_lag 11 rfl) (by decide) ?_
    have hf := Option.some.inj hf
    subst hf
    exact am_pick [1, 2, 3, 4] rfl key6
def f_X12_lags_L58 (q1 : Int32) (q2 : Int32) (q3 : Int32) (q4 : Int32) (q5 : Int32) (q6 : Int32) : Nat → Int32 → Int32 → Option (Int32)
  | 0, _, _ => none
  | n + 1, v7, v8 =>
    if q3 < v8 then
    some (v7)
    else
    (if v7 = 0 then
    some ((0 : Int32))
    else
    (f_X12_fails q1 v8 q4 q6 q5).bind fun x19 =>
    if x19 = (-1 : Int32) then
    some ((1 : Int32))
    else
    some ((0 : Int32))).bind fun w21 =>
    f_X12_lags_L58 q1 q2 q3 q4 q5 q6 n w21 (v8 + (1 : Int32))
def f_X12_lags_L45 (q1 : Int32) (q2 : Int32) (q3 : Int32) (q4 : Int32) (q5 : Int32) : Nat → Int32 → Option (Int32 ⊕ Unit)
  | 0, _ => none
  | n + 1, v6 =>
    if (100 : Int32) ≤ v6 then
    some (.inr ())
    else
    (f_X12_lags_L58 q1 q2 q3 q4 q5 v6 am_fu (1 : Int32) q2).bind fun e23 =>
    if e23 = 0 then
    f_X12_lags_L45 q1 q2 q3 q4 q5 n (v6 + (1 : Int32))
    else
    some (.inl (v6))
def f_X12_lags (p1 : Int32) (p2 : Int32) (p3 : Int32) (p4 : Int32) (p5 : Int32) (D : am_D) : Option ((Int32 × am_D)) :=
    (some (am_wI D 117 0 (0 : Int32))).bind fun D1 =>
    (f_X12_isLive p1 p2 p4 p5).bind fun x4 =>
    (if x4 = 0 then
    some ((1 : Int32))
    else
    (f_X12_in p3 p2 (99 : Int32)).bind fun x8 =>
    if x8 = 0 then
    some ((1 : Int32))
    else
    some ((0 : Int32))).bind fun w10 =>
    (f_X12_bad w10 (1 : Int32) D1).bind fun x12 =>
    if x12.1 = 0 then
    am_b2 (f_X12_lags_L45 p1 p2 p3 p4 p5 am_fu (0 : Int32))
    (fun e26 =>
    some (e26, x12.2))
    (fun e27 =>
    some ((-1 : Int32), x12.2))
    else
    some ((0 : Int32), x12.2)
set_option maxRecDepth 100000 in
set_option maxHeartbeats 4000000 in
theorem l_X12_lags_L58 {E : am_E} (hE : am_EH E) {d mc ms : Nat} {o : am_O} {G2 : am_G} {D2 : am_D} (hdp : 3 ≤ d) {q1 : Int32} {q2 : Int32} {q3 : Int32} {q4 : Int32} {q5 : Int32} {q6 : Int32} {D : am_D}  : ∀ (n : Nat) (v7 : Int32) (v8 : Int32) (ex0 : Int32), f_X12_lags_L58 q1 q2 q3 q4 q5 q6 n v7 v8 = some ex0 → (∀ ex : Int32, ex0 = ex → am_S E mX12_lags d mc ms o G2 D2 0 0 98 [(1, .int q1), (2, .int q2), (3, .int q3), (4, .int q4), (5, .int q5), (6, .int q6), (7, .int ex)] [] am_G0 D) → am_S E mX12_lags d mc ms o G2 D2 0 0 58 [(1, .int q1), (2, .int q2), (3, .int q3), (4, .int q4), (5, .int q5), (6, .int q6), (7, .int v7), (8, .int v8)] [] am_G0 D
  | 0, _, _, _, hf, _ => by
    unfold f_X12_lags_L58 at hf
    cases hf
  | n + 1, v7, v8, ex0, hf, hk0 => by
    unfold f_X12_lags_L58 at hf
    refine am_iload (am_dec tmX12_lags 32 rfl) rfl ?_
    refine am_iload_n (am_dec tmX12_lags 33 rfl) rfl rfl ?_
    refine am_icmp_gt (tgt := 98) (am_dec tmX12_lags 34 rfl) (by decide) (fun c15 => ?_) (fun c15 => ?_)
    · rw [if_pos c15] at hf
      have hf := Option.some.inj hf
      subst hf
      exact am_pick [0, 1, 2, 3, 4, 5, 6] rfl (hk0 _ rfl)
    · rw [if_neg c15] at hf
      refine am_iload (am_dec tmX12_lags 35 rfl) rfl ?_
      obtain ⟨w21, g22, hf⟩ := am_bd hf
      have key17 : am_S E mX12_lags d mc ms o G2 D2 0 0 90 [(1, .int q1), (2, .int q2), (3, .int q3), (4, .int q4), (5, .int q5), (6, .int q6), (8, .int v8)] [.int w21] am_G0 D := by
        refine am_istore (lv' := [(1, .int q1), (2, .int q2), (3, .int q3), (4, .int q4), (5, .int q5), (6, .int q6), (7, .int w21), (8, .int v8)]) (am_dec tmX12_lags 48 rfl) (by decide) rfl ?_
        refine am_iinc (v := (1 : Int32)) (lv' := [(1, .int q1), (2, .int q2), (3, .int q3), (4, .int q4), (5, .int q5), (6, .int q6), (7, .int w21), (8, .int (v8 + (1 : Int32)))]) (am_dec tmX12_lags 49 rfl) rfl (by decide) (by decide) rfl ?_
        refine am_goto (tgt := 58) (am_dec tmX12_lags 50 rfl) (by decide) ?_
        exact am_pick [0, 1, 2, 3, 4, 5, 6, 7] rfl (l_X12_lags_L58 hE hdp n w21 (v8 + (1 : Int32)) ex0 hf hk0)
      replace hf := g22
      refine am_if_eq (tgt := 89) (am_dec tmX12_lags 36 rfl) (by decide) (fun c16 => ?_) (fun c16 => ?_)
      · rw [if_pos c16] at hf
        refine am_iconst (v := (0 : Int32)) (am_dec tmX12_lags 47 rfl) (by decide) ?_
        have hf := Option.some.inj hf
        subst hf
        exact am_pick [0, 1, 2, 3, 4, 5, 7] rfl key17
      · rw [if_neg c16] at hf
        refine am_iload_n (am_dec tmX12_lags 37 rfl) rfl rfl ?_
        refine am_iload (am_dec tmX12_lags 38 rfl) rfl ?_
        refine am_iload (am_dec tmX12_lags 39 rfl) rfl ?_
        refine am_iload (am_dec tmX12_lags 40 rfl) rfl ?_
        refine am_iload (am_dec tmX12_lags 41 rfl) rfl ?_
        obtain ⟨x19, g18, hf⟩ := am_bd hf
        refine am_callS1 (As := [.int q1, .int v8, .int q4, .int q6, .int q5]) (st := []) (am_dec tmX12_lags 42 rfl) ok_X12_fails rfl lm_X12_412 st_X12_fails (c_X12_fails hE g18) rfl (Nat.lt_of_lt_of_le (by decide) hdp) (Nat.le_of_ble_eq_true rfl) (Nat.zero_le _) (Nat.zero_le _) rfl ?_
        refine am_iconst (v := (-1 : Int32)) (am_dec tmX12_lags 43 rfl) (by decide) ?_
        refine am_icmp_ne (tgt := 89) (am_dec tmX12_lags 44 rfl) (by decide) (fun c20 => ?_) (fun c20 => ?_)
        · rw [if_neg c20] at hf
          refine am_iconst (v := (0 : Int32)) (am_dec tmX12_lags 47 rfl) (by decide) ?_
          have hf := Option.some.inj hf
          subst hf
          exact am_pick [0, 1, 2, 3, 4, 5, 7] rfl key17
        · rw [if_pos c20] at hf
          refine am_iconst (v := (1 : Int32)) (am_dec tmX12_lags 45 rfl) (by decide) ?_
          refine am_goto (tgt := 90) (am_dec tmX12_lags 46 rfl) (by decide) ?_
          have hf := Option.some.inj hf
          subst hf
          exact am_pick [0, 1, 2, 3, 4, 5, 7] rfl key17
set_option maxRecDepth 100000 in
set_option maxHeartbeats 4000000 in
theorem l_X12_lags_L45 {E : am_E} (hE : am_EH E) {d mc ms : Nat} {o : am_O} {G2 : am_G} {D2 : am_D} (hdp : 3 ≤ d) {q1 : Int32} {q2 : Int32} {q3 : Int32} {q4 : Int32} {q5 : Int32} {D : am_D}  : ∀ (n : Nat) (v6 : Int32) (ex0 : Int32 ⊕ Unit), f_X12_lags_L45 q1 q2 q3 q4 q5 n v6 = some ex0 → (∀ ex : Int32, ex0 = .inl ex → am_S E mX12_lags d mc ms o G2 D2 0 0 103 [(6, .int ex)] [] am_G0 D) → (∀ ex : Unit, ex0 = .inr ex → am_S E mX12_lags d mc ms o G2 D2 0 0 112 [] [] am_G0 D) → am_S E mX12_lags d mc ms o G2 D2 0 0 45 [(1, .int q1), (2, .int q2), (3, .int q3), (4, .int q4), (5, .int q5), (6, .int v6)] [] am_G0 D
  | 0, _, _, hf, _, _ => by
    unfold f_X12_lags_L45 at hf
    cases hf
  | n + 1, v6, ex0, hf, hk0, hk1 => by
    unfold f_X12_lags_L45 at hf
    refine am_iload (am_dec tmX12_lags 25 rfl) rfl ?_
    refine am_bipush (v := (100 : Int32)) (am_dec tmX12_lags 26 rfl) (by decide) ?_
    refine am_icmp_ge (tgt := 112) (am_dec tmX12_lags 27 rfl) (by decide) (fun c14 => ?_) (fun c14 => ?_)
    · rw [if_pos c14] at hf
      have hf := Option.some.inj hf
      subst hf
      exact am_pick [] rfl (hk1 _ rfl)
    · rw [if_neg c14] at hf
      refine am_iconst (v := (1 : Int32)) (am_dec tmX12_lags 28 rfl) (by decide) ?_
      refine am_istore (lv' := [(1, .int q1), (2, .int q2), (3, .int q3), (4, .int q4), (5, .int q5), (6, .int v6), (7, .int (1 : Int32))]) (am_dec tmX12_lags 29 rfl) (by decide) rfl ?_
      refine am_iload_n (am_dec tmX12_lags 30 rfl) rfl rfl ?_
      refine am_istore (lv' := [(1, .int q1), (2, .int q2), (3, .int q3), (4, .int q4), (5, .int q5), (6, .int v6), (7, .int (1 : Int32)), (8, .int q2)]) (am_dec tmX12_lags 31 rfl) (by decide) rfl ?_
      obtain ⟨e23, g25, hf⟩ := am_bd hf
      refine am_pick [0, 1, 2, 3, 4, 5, 6, 7] rfl (l_X12_lags_L58 hE hdp am_fu _ _ _ g25 (fun ex he => ?_))
      subst he
      refine am_iload (am_dec tmX12_lags 51 rfl) rfl ?_
      refine am_if_eq (tgt := 106) (am_dec tmX12_lags 52 rfl) (by decide) (fun c24 => ?_) (fun c24 => ?_)
      · rw [if_pos c24] at hf
        refine am_iinc (v := (1 : Int32)) (lv' := [(1, .int q1), (2, .int q2), (3, .int q3), (4, .int q4), (5, .int q5), (6, .int (v6 + (1 : Int32))), (7, .int e23)]) (am_dec tmX12_lags 55 rfl) rfl (by decide) (by decide) rfl ?_
        refine am_goto (tgt := 45) (am_dec tmX12_lags 56 rfl) (by decide) ?_
        exact am_pick [0, 1, 2, 3, 4, 5] rfl (l_X12_lags_L45 hE hdp n (v6 + (1 : Int32)) ex0 hf hk0 hk1)
      · rw [if_neg c24] at hf
        have hf := Option.some.inj hf
        subst hf
        exact am_pick [5] rfl (hk0 _ rfl)
set_option maxRecDepth 100000 in
set_option maxHeartbeats 4000000 in
theorem c_X12_lags {E : am_E} (hE : am_EH E) {p1 : Int32} {p2 : Int32} {p3 : Int32} {p4 : Int32} {p5 : Int32} {D : am_D} {r : (Int32 × am_D)}  (hf : f_X12_lags p1 p2 p3 p4 p5 D = some r) : am_C E mX12_lags 3 0 0 [.ref 117, .int p1, .int p2, .int p3, .int p4, .int p5] am_G0 D (.inl (some (.int r.1))) am_G0 r.2 := by
  refine am_C_of (by decide +kernel) (Nat.le_of_ble_eq_true rfl) ?_
  change am_S E mX12_lags 3 0 0 (.inl (some (.int r.1))) am_G0 r.2 0 0 0 [(0, .ref 117), (1, .int p1), (2, .int p2), (3, .int p3), (4, .int p4), (5, .int p5)] [] am_G0 D
  unfold f_X12_lags at hf
  refine am_aload_n (am_dec tmX12_lags 0 rfl) rfl rfl ?_
  refine am_iconst (v := (0 : Int32)) (am_dec tmX12_lags 1 rfl) (by decide) ?_
  obtain ⟨D1, g2, hf⟩ := am_bd hf
  refine am_putI2 (j := 0) hE (am_dec tmX12_lags 2 rfl) sh_117 cf12 (by decide) rfl lf_X12_110 rfl rfl rfl g2 ?_
  refine am_aload_n (am_dec tmX12_lags 3 rfl) rfl rfl ?_
  refine am_iload_n (am_dec tmX12_lags 4 rfl) rfl rfl ?_
  refine am_iload_n (am_dec tmX12_lags 5 rfl) rfl rfl ?_
  refine am_iload (am_dec tmX12_lags 6 rfl) rfl ?_
  refine am_iload (am_dec tmX12_lags 7 rfl) rfl ?_
  obtain ⟨x4, g3, hf⟩ := am_bd hf
  refine am_callS1 (As := [.int p1, .int p2, .int p4, .int p5]) (st := [.ref 117]) (am_dec tmX12_lags 8 rfl) ok_X12_isLive rfl lm_X12_408 st_X12_isLive (c_X12_isLive hE g3) rfl (by decide) (Nat.le_of_ble_eq_true rfl) (Nat.zero_le _) (Nat.zero_le _) rfl ?_
  obtain ⟨w10, g29, hf⟩ := am_bd hf
  have key6 : am_S E mX12_lags 3 0 0 (.inl (some (.int r.1))) am_G0 r.2 0 0 33 [(1, .int p1), (2, .int p2), (3, .int p3), (4, .int p4), (5, .int p5)] [.int w10, .ref 117] am_G0 D1 := by
    refine am_iconst (v := (1 : Int32)) (am_dec tmX12_lags 18 rfl) (by decide) ?_
    obtain ⟨x12, g11, hf⟩ := am_bd hf
    refine am_callV1 (As := [.int w10, .int (1 : Int32)]) (st := []) hE (am_dec tmX12_lags 19 rfl) ok_X12_bad rfl lm_X12_191 in_X12_bad se_X12_bad sh_117 cf12 (c_X12_bad hE g11) rfl (by decide) (Nat.le_of_ble_eq_true rfl) (Nat.zero_le _) (Nat.zero_le _) rfl ?_
    refine am_if_eq (tgt := 42) (am_dec tmX12_lags 20 rfl) (by decide) (fun c13 => ?_) (fun c13 => ?_)
    · rw [if_pos c13] at hf
      refine am_iconst (v := (0 : Int32)) (am_dec tmX12_lags 23 rfl) (by decide) ?_
      refine am_istore (lv' := [(1, .int p1), (2, .int p2), (3, .int p3), (4, .int p4), (5, .int p5), (6, .int (0 : Int32))]) (am_dec tmX12_lags 24 rfl) (by decide) rfl ?_
      rcases am_b2d hf with ⟨e26, g28, hf⟩ | ⟨e27, g28, hf⟩
      · refine am_pick [0, 1, 2, 3, 4, 5] rfl (l_X12_lags_L45 hE (Nat.le_refl _) am_fu _ _ g28 (fun ex he => ?_) (fun ex he => by cases he))
        cases he
        refine am_iload (am_dec tmX12_lags 53 rfl) rfl ?_
        have hf := Option.some.inj hf
        subst hf
        exact am_iret (am_dec tmX12_lags 54 rfl) rfl (Nat.zero_le _) (Nat.zero_le _)
      · refine am_pick [0, 1, 2, 3, 4, 5] rfl (l_X12_lags_L45 hE (Nat.le_refl _) am_fu _ _ g28 (fun ex he => by cases he) (fun ex he => ?_))
        cases he
        refine am_iconst (v := (-1 : Int32)) (am_dec tmX12_lags 57 rfl) (by decide) ?_
        have hf := Option.some.inj hf
        subst hf
        exact am_iret (am_dec tmX12_lags 58 rfl) rfl (Nat.zero_le _) (Nat.zero_le _)
    · rw [if_neg c13] at hf
      refine am_iconst (v := (0 : Int32)) (am_dec tmX12_lags 21 rfl) (by decide) ?_
      have hf := Option.some.inj hf
      subst hf
      exact am_iret (am_dec tmX12_lags 22 rfl) rfl (Nat.zero_le _) (Nat.zero_le _)
  replace hf := g29
  refine am_if_eq (tgt := 28) (am_dec tmX12_lags 9 rfl) (by decide) (fun c5 => ?_) (fun c5 => ?_)
  · rw [if_pos c5] at hf
    refine am_iconst (v := (1 : Int32)) (am_dec tmX12_lags 15 rfl) (by decide) ?_
    refine am_goto (tgt := 33) (am_dec tmX12_lags 16 rfl) (by decide) ?_
    have hf := Option.some.inj hf
    subst hf
    exact am_pick [1, 2, 3, 4, 5] rfl key6
  · rw [if_neg c5] at hf
    refine am_iload_n (am_dec tmX12_lags 10 rfl) rfl rfl ?_
    refine am_iload_n (am_dec tmX12_lags 11 rfl) rfl rfl ?_
    refine am_bipush (v := (99 : Int32)) (am_dec tmX12_lags 12 rfl) (by decide) ?_
    obtain ⟨x8, g7, hf⟩ := am_bd hf
    refine am_callS1 (As := [.int p3, .int p2, .int (99 : Int32)]) (st := [.ref 117]) (am_dec tmX12_lags 13 rfl) ok_X12_in rfl lm_X12_144 st_X12_in (c_X12_in hE g7) rfl (by decide) (Nat.le_of_ble_eq_true rfl) (Nat.zero_le _) (Nat.zero_le _) rfl ?_
    refine am_if_ne (tgt := 32) (am_dec tmX12_lags 14 rfl) (by decide) (fun c9 => ?_) (fun c9 => ?_)
    · rw [if_neg c9] at hf
      refine am_iconst (v := (0 : Int32)) (am_dec tmX12_lags 17 rfl) (by decide) ?_
      have hf := Option.some.inj hf
      subst hf
      exact am_pick [1, 2, 3, 4, 5] rfl key6
    · rw [if_pos c9] at hf
      refine am_iconst (v := (1 : Int32)) (am_dec tmX12_lags 15 rfl) (by decide) ?_
      refine am_goto (tgt := 33) (am_dec tmX12_lags 16 rfl) (by decide) ?_
      have hf := Option.some.inj hf
      subst hf
      exact am_pick [1, 2, 3, 4, 5] rfl key6
def f_X12_lost_L105 (q1 : Int32) (q3 : Int32) : Nat → Int32 → am_D → Option (am_D)
  | 0, _, _ => none
  | n + 1, v4, D =>
    if (D.1 117 38) ≤ v4 then
    some (D)
    else
    (am_gI D 222 1200 v4).bind fun x37 =>
    (am_pI D 221 1200 v4 x37).bind fun D39 =>
    f_X12_lost_L105 q1 q3 n (v4 + (1 : Int32)) D39
def f_X12_lost_L166 (q1 : Int32) (D : am_D) : Nat → Int32 → Int32 → Option (Int32)
  | 0, _, _ => none
  | n + 1, v4, v5 =>
    if (D.1 117 38) ≤ v5 then
    some (v4)
    else
    (am_gI D 139 5 q1).bind fun x51 =>
    if x51 ≤ v5 then
    some (v4)
    else
    (am_gI D 222 1200 v5).bind fun x54 =>
    (am_gA 5 q1).bind fun j56 =>
    (am_gI D (134 + j56) 600 v5).bind fun x58 =>
    (f_X12_amount (x54 - x58)).bind fun x61 =>
    f_X12_lost_L166 q1 D n (v4 + x61) (v5 + (1 : Int32))
def f_X12_lost (p1 : Int32) (p2 : Int32) (p3 : Int32) (D : am_D) : Option ((Int32 × am_D)) :=
    (some (am_wI D 117 0 (0 : Int32))).bind fun D1 =>
    (f_X12_badBoth p1 p2 D1).bind fun x4 =>
    if x4.1 = 0 then
    (f_X12_isMap p3 x4.2).bind fun x7 =>
    (if x7 = 0 then
    some ((1 : Int32))
    else
    some ((0 : Int32))).bind fun w10 =>
    (f_X12_bad w10 (2 : Int32) x4.2).bind fun x12 =>
    if x12.1 = 0 then
    (f_X12_isShort p1 p2 x12.2).bind fun x15 =>
    (if x15 = 0 then
    (f_X12_lengthOf p2 x12.2).bind fun x19 =>
    if x19 < (x12.2.1 117 14) then
    some ((1 : Int32))
    else
    (f_X12_lengthOf p2 x12.2).bind fun x22 =>
    (f_X12_lastOf p3 x12.2).bind fun x24 =>
    if x24 ≤ x22 then
    some ((0 : Int32))
    else
    some ((1 : Int32))
    else
    some ((1 : Int32))).bind fun w26 =>
    (f_X12_bad w26 (3 : Int32) x12.2).bind fun x28 =>
    if x28.1 = 0 then
    (f_X12_lays x28.2).bind fun x31 =>
    (f_X12_drawsBoth p1 p2 x31).bind fun x33 =>
    (some (am_wI x33 117 36 (x33.1 117 38))).bind fun D34 =>
    (f_X12_lost_L105 p1 p3 am_fu (0 : Int32) D34).bind fun e41 =>
    (f_X12_takes p3 e41).bind fun x43 =>
    (f_X12_draws x43).bind fun x45 =>
    (am_gI x45 139 5 p1).bind fun x46 =>
    (f_X12_amount ((x45.1 117 38) - x46)).bind fun x49 =>
    (f_X12_lost_L166 p1 x45 am_fu ((2047 : Int32) * x49) (0 : Int32)).bind fun e62 =>
    (f_X12_laysBack x45).bind fun x64 =>
    some (e62, x64)
    else
    some ((0 : Int32), x28.2)
    else
    some ((0 : Int32), x12.2)
    else
    some ((0 : Int32), x4.2)
set_option maxRecDepth 100000 in
set_option maxHeartbeats 4000000 in
theorem l_X12_lost_L105 {E : am_E} (hE : am_EH E) {d mc ms : Nat} {o : am_O} {G2 : am_G} {D2 : am_D} (hdp : 6 ≤ d) {q1 : Int32} {q3 : Int32}  : ∀ (n : Nat) (v4 : Int32) (D : am_D) (ex0 : am_D), f_X12_lost_L105 q1 q3 n v4 D = some ex0 → (∀ ex : am_D, ex0 = ex → am_S E mX12_lost d mc ms o G2 D2 0 0 134 [(0, .ref 117), (1, .int q1), (3, .int q3)] [] am_G0 ex) → am_S E mX12_lost d mc ms o G2 D2 0 0 105 [(0, .ref 117), (1, .int q1), (3, .int q3), (4, .int v4)] [] am_G0 D
  | 0, _, _, _, hf, _ => by
    unfold f_X12_lost_L105 at hf
    cases hf
  | n + 1, v4, D, ex0, hf, hk0 => by
    unfold f_X12_lost_L105 at hf
    refine am_iload (am_dec tmX12_lost_0 58 rfl) rfl ?_
    refine am_aload_n (am_dec tmX12_lost_0 59 rfl) rfl rfl ?_
    refine am_getI (j := 38) hE (am_dec tmX12_lost_1 0 rfl) sh_117 cf12 (by decide) rfl lf_X12_262 ?_
    refine am_icmp_ge (tgt := 134) (am_dec tmX12_lost_1 1 rfl) (by decide) (fun c36 => ?_) (fun c36 => ?_)
    · rw [if_pos c36] at hf
      have hf := Option.some.inj hf
      subst hf
      exact am_pick [0, 1, 2] rfl (hk0 _ rfl)
    · rw [if_neg c36] at hf
      refine am_aload_n (am_dec tmX12_lost_1 2 rfl) rfl rfl ?_
      refine am_getR (j := 33) hE (am_dec tmX12_lost_1 3 rfl) sh_117 cf12 (by decide) rfl lf_X12_70 rf_117_33 ?_
      refine am_iload (am_dec tmX12_lost_1 4 rfl) rfl ?_
      refine am_aload_n (am_dec tmX12_lost_1 5 rfl) rfl rfl ?_
      refine am_getR (j := 34) hE (am_dec tmX12_lost_1 6 rfl) sh_117 cf12 (by decide) rfl lf_X12_73 rf_117_34 ?_
      refine am_iload (am_dec tmX12_lost_1 7 rfl) rfl ?_
      obtain ⟨x37, g38, hf⟩ := am_bd hf
      refine am_iald2 hE (am_dec tmX12_lost_1 8 rfl) sh_222 g38 ?_
      obtain ⟨D39, g40, hf⟩ := am_bd hf
      refine am_iast2 hE (am_dec tmX12_lost_1 9 rfl) sh_221 g40 ?_
      refine am_iinc (v := (1 : Int32)) (lv' := [(0, .ref 117), (1, .int q1), (3, .int q3), (4, .int (v4 + (1 : Int32)))]) (am_dec tmX12_lost_1 10 rfl) rfl (by decide) (by decide) rfl ?_
      refine am_goto (tgt := 105) (am_dec tmX12_lost_1 11 rfl) (by decide) ?_
      exact am_pick [0, 1, 2, 3] rfl (l_X12_lost_L105 hE hdp n (v4 + (1 : Int32)) D39 ex0 hf hk0)
set_option maxRecDepth 100000 in
set_option maxHeartbeats 4000000 in
theorem l_X12_lost_L166 {E : am_E} (hE : am_EH E) {d mc ms : Nat} {o : am_O} {G2 : am_G} {D2 : am_D} (hdp : 6 ≤ d) {q1 : Int32} {D : am_D}  : ∀ (n : Nat) (v4 : Int32) (v5 : Int32) (ex0 : Int32), f_X12_lost_L166 q1 D n v4 v5 = some ex0 → (∀ ex : Int32, ex0 = ex → am_S E mX12_lost d mc ms o G2 D2 0 0 217 [(0, .ref 117), (4, .int ex)] [] am_G0 D) → am_S E mX12_lost d mc ms o G2 D2 0 0 166 [(0, .ref 117), (1, .int q1), (4, .int v4), (5, .int v5)] [] am_G0 D
  | 0, _, _, _, hf, _ => by
    unfold f_X12_lost_L166 at hf
    cases hf
  | n + 1, v4, v5, ex0, hf, hk0 => by
    unfold f_X12_lost_L166 at hf
    refine am_iload (am_dec tmX12_lost_1 30 rfl) rfl ?_
    refine am_aload_n (am_dec tmX12_lost_1 31 rfl) rfl rfl ?_
    refine am_getI (j := 38) hE (am_dec tmX12_lost_1 32 rfl) sh_117 cf12 (by decide) rfl lf_X12_262 ?_
    refine am_icmp_ge (tgt := 217) (am_dec tmX12_lost_1 33 rfl) (by decide) (fun c50 => ?_) (fun c50 => ?_)
    · rw [if_pos c50] at hf
      have hf := Option.some.inj hf
      subst hf
      exact am_pick [0, 2] rfl (hk0 _ rfl)
    · rw [if_neg c50] at hf
      refine am_iload (am_dec tmX12_lost_1 34 rfl) rfl ?_
      refine am_aload_n (am_dec tmX12_lost_1 35 rfl) rfl rfl ?_
      refine am_getR (j := 25) hE (am_dec tmX12_lost_1 36 rfl) sh_117 cf12 (by decide) rfl lf_X12_46 rf_117_25 ?_
      refine am_iload_n (am_dec tmX12_lost_1 37 rfl) rfl rfl ?_
      obtain ⟨x51, g52, hf⟩ := am_bd hf
      refine am_iald2 hE (am_dec tmX12_lost_1 38 rfl) sh_139 g52 ?_
      refine am_icmp_ge (tgt := 217) (am_dec tmX12_lost_1 39 rfl) (by decide) (fun c53 => ?_) (fun c53 => ?_)
      · rw [if_pos c53] at hf
        have hf := Option.some.inj hf
        subst hf
        exact am_pick [0, 2] rfl (hk0 _ rfl)
      · rw [if_neg c53] at hf
        refine am_iload (am_dec tmX12_lost_1 40 rfl) rfl ?_
        refine am_aload_n (am_dec tmX12_lost_1 41 rfl) rfl rfl ?_
        refine am_getR (j := 34) hE (am_dec tmX12_lost_1 42 rfl) sh_117 cf12 (by decide) rfl lf_X12_73 rf_117_34 ?_
        refine am_iload (am_dec tmX12_lost_1 43 rfl) rfl ?_
        obtain ⟨x54, g55, hf⟩ := am_bd hf
        refine am_iald2 hE (am_dec tmX12_lost_1 44 rfl) sh_222 g55 ?_
        refine am_aload_n (am_dec tmX12_lost_1 45 rfl) rfl rfl ?_
        refine am_getR (j := 24) hE (am_dec tmX12_lost_1 46 rfl) sh_117 cf12 (by decide) rfl lf_X12_43 rf_117_24 ?_
        refine am_iload_n (am_dec tmX12_lost_1 47 rfl) rfl rfl ?_
        obtain ⟨j56, g57, hf⟩ := am_bd hf
        have hj_j56 := (am_gA_lt g57).1
        refine am_aald2 (t := 6) hE (am_dec tmX12_lost_1 48 rfl) sh_133 (by decide) rfl rfl g57 (rr_133 hj_j56) ?_
        refine am_iload (am_dec tmX12_lost_1 49 rfl) rfl ?_
        obtain ⟨x58, g59, hf⟩ := am_bd hf
        refine am_iald2 hE (am_dec tmX12_lost_1 50 rfl) (sa_133_0 hj_j56) g59 ?_
        refine am_isub (am_dec tmX12_lost_1 51 rfl) ?_
        obtain ⟨x61, g60, hf⟩ := am_bd hf
        refine am_callS1 (As := [.int (x54 - x58)]) (st := [.int v4]) (am_dec tmX12_lost_1 52 rfl) ok_X12_amount rfl lm_X12_281 st_X12_amount (c_X12_amount hE g60) rfl (Nat.lt_of_lt_of_le (by decide) hdp) (Nat.le_of_ble_eq_true rfl) (Nat.zero_le _) (Nat.zero_le _) rfl ?_
        refine am_iadd (am_dec tmX12_lost_1 53 rfl) ?_
        refine am_istore (lv' := [(0, .ref 117), (1, .int q1), (4, .int (v4 + x61)), (5, .int v5)]) (am_dec tmX12_lost_1 54 rfl) (by decide) rfl ?_
        refine am_iinc (v := (1 : Int32)) (lv' := [(0, .ref 117), (1, .int q1), (4, .int (v4 + x61)), (5, .int (v5 + (1 : Int32)))]) (am_dec tmX12_lost_1 55 rfl) rfl (by decide) (by decide) rfl ?_
        refine am_goto (tgt := 166) (am_dec tmX12_lost_1 56 rfl) (by decide) ?_
        exact am_pick [0, 1, 2, 3] rfl (l_X12_lost_L166 hE hdp n (v4 + x61) (v5 + (1 : Int32)) ex0 hf hk0)
set_option maxRecDepth 100000 in
set_option maxHeartbeats 4000000 in
theorem c_X12_lost {E : am_E} (hE : am_EH E) {p1 : Int32} {p2 : Int32} {p3 : Int32} {D : am_D} {r : (Int32 × am_D)}  (hf : f_X12_lost p1 p2 p3 D = some r) : am_C E mX12_lost 6 0 0 [.ref 117, .int p1, .int p2, .int p3] am_G0 D (.inl (some (.int r.1))) am_G0 r.2 := by
  refine am_C_of (by decide +kernel) (Nat.le_of_ble_eq_true rfl) ?_
  change am_S E mX12_lost 6 0 0 (.inl (some (.int r.1))) am_G0 r.2 0 0 0 [(0, .ref 117), (1, .int p1), (2, .int p2), (3, .int p3)] [] am_G0 D
  unfold f_X12_lost at hf
  refine am_aload_n (am_dec tmX12_lost_0 0 rfl) rfl rfl ?_
  refine am_iconst (v := (0 : Int32)) (am_dec tmX12_lost_0 1 rfl) (by decide) ?_
  obtain ⟨D1, g2, hf⟩ := am_bd hf
  refine am_putI2 (j := 0) hE (am_dec tmX12_lost_0 2 rfl) sh_117 cf12 (by decide) rfl lf_X12_110 rfl rfl rfl g2 ?_
  refine am_aload_n (am_dec tmX12_lost_0 3 rfl) rfl rfl ?_
  refine am_iload_n (am_dec tmX12_lost_0 4 rfl) rfl rfl ?_
  refine am_iload_n (am_dec tmX12_lost_0 5 rfl) rfl rfl ?_
  obtain ⟨x4, g3, hf⟩ := am_bd hf
  refine am_callV1 (As := [.int p1, .int p2]) (st := []) hE (am_dec tmX12_lost_0 6 rfl) ok_X12_badBoth rfl lm_X12_296 in_X12_badBoth se_X12_badBoth sh_117 cf12 (c_X12_badBoth hE g3) rfl (by decide) (Nat.le_of_ble_eq_true rfl) (Nat.zero_le _) (Nat.zero_le _) rfl ?_
  refine am_if_ne (tgt := 82) (am_dec tmX12_lost_0 7 rfl) (by decide) (fun c5 => ?_) (fun c5 => ?_)
  · rw [if_neg c5] at hf
    refine am_iconst (v := (0 : Int32)) (am_dec tmX12_lost_0 44 rfl) (by decide) ?_
    have hf := Option.some.inj hf
    subst hf
    exact am_iret (am_dec tmX12_lost_0 45 rfl) rfl (Nat.zero_le _) (Nat.zero_le _)
  · rw [if_pos c5] at hf
    refine am_aload_n (am_dec tmX12_lost_0 8 rfl) rfl rfl ?_
    refine am_aload_n (am_dec tmX12_lost_0 9 rfl) rfl rfl ?_
    refine am_iload_n (am_dec tmX12_lost_0 10 rfl) rfl rfl ?_
    obtain ⟨x7, g6, hf⟩ := am_bd hf
    refine am_callV1 (As := [.int p3]) (st := [.ref 117]) hE (am_dec tmX12_lost_0 11 rfl) ok_X12_isMap rfl lm_X12_229 in_X12_isMap se_X12_isMap sh_117 cf12 (c_X12_isMap hE g6) rfl (by decide) (Nat.le_of_ble_eq_true rfl) (Nat.zero_le _) (Nat.zero_le _) rfl ?_
    obtain ⟨w10, g68, hf⟩ := am_bd hf
    have key9 : am_S E mX12_lost 6 0 0 (.inl (some (.int r.1))) am_G0 r.2 0 0 28 [(0, .ref 117), (1, .int p1), (2, .int p2), (3, .int p3)] [.int w10, .ref 117] am_G0 x4.2 := by
      refine am_iconst (v := (2 : Int32)) (am_dec tmX12_lost_0 16 rfl) (by decide) ?_
      obtain ⟨x12, g11, hf⟩ := am_bd hf
      refine am_callV1 (As := [.int w10, .int (2 : Int32)]) (st := []) hE (am_dec tmX12_lost_0 17 rfl) ok_X12_bad rfl lm_X12_191 in_X12_bad se_X12_bad sh_117 cf12 (c_X12_bad hE g11) rfl (by decide) (Nat.le_of_ble_eq_true rfl) (Nat.zero_le _) (Nat.zero_le _) rfl ?_
      refine am_if_ne (tgt := 82) (am_dec tmX12_lost_0 18 rfl) (by decide) (fun c13 => ?_) (fun c13 => ?_)
      · rw [if_neg c13] at hf
        refine am_iconst (v := (0 : Int32)) (am_dec tmX12_lost_0 44 rfl) (by decide) ?_
        have hf := Option.some.inj hf
        subst hf
        exact am_iret (am_dec tmX12_lost_0 45 rfl) rfl (Nat.zero_le _) (Nat.zero_le _)
      · rw [if_pos c13] at hf
        refine am_aload_n (am_dec tmX12_lost_0 19 rfl) rfl rfl ?_
        refine am_aload_n (am_dec tmX12_lost_0 20 rfl) rfl rfl ?_
        refine am_iload_n (am_dec tmX12_lost_0 21 rfl) rfl rfl ?_
        refine am_iload_n (am_dec tmX12_lost_0 22 rfl) rfl rfl ?_
        obtain ⟨x15, g14, hf⟩ := am_bd hf
        refine am_callV1 (As := [.int p1, .int p2]) (st := [.ref 117]) hE (am_dec tmX12_lost_0 23 rfl) ok_X12_isShort rfl lm_X12_300 in_X12_isShort se_X12_isShort sh_117 cf12 (c_X12_isShort hE g14) rfl (by decide) (Nat.le_of_ble_eq_true rfl) (Nat.zero_le _) (Nat.zero_le _) rfl ?_
        obtain ⟨w26, g67, hf⟩ := am_bd hf
        have key17 : am_S E mX12_lost 6 0 0 (.inl (some (.int r.1))) am_G0 r.2 0 0 75 [(0, .ref 117), (1, .int p1), (2, .int p2), (3, .int p3)] [.int w26, .ref 117] am_G0 x12.2 := by
          refine am_iconst (v := (3 : Int32)) (am_dec tmX12_lost_0 41 rfl) (by decide) ?_
          obtain ⟨x28, g27, hf⟩ := am_bd hf
          refine am_callV1 (As := [.int w26, .int (3 : Int32)]) (st := []) hE (am_dec tmX12_lost_0 42 rfl) ok_X12_bad rfl lm_X12_191 in_X12_bad se_X12_bad sh_117 cf12 (c_X12_bad hE g27) rfl (by decide) (Nat.le_of_ble_eq_true rfl) (Nat.zero_le _) (Nat.zero_le _) rfl ?_
          refine am_if_eq (tgt := 84) (am_dec tmX12_lost_0 43 rfl) (by decide) (fun c29 => ?_) (fun c29 => ?_)
          · rw [if_pos c29] at hf
            refine am_aload_n (am_dec tmX12_lost_0 46 rfl) rfl rfl ?_
            obtain ⟨x31, g30, hf⟩ := am_bd hf
            refine am_callV0 (As := []) (st := []) hE (am_dec tmX12_lost_0 47 rfl) ok_X12_lays rfl lm_X12_238 in_X12_lays se_X12_lays sh_117 cf12 (c_X12_lays hE g30) rfl (by decide) (Nat.le_of_ble_eq_true rfl) (Nat.zero_le _) (Nat.zero_le _) rfl ?_
            refine am_aload_n (am_dec tmX12_lost_0 48 rfl) rfl rfl ?_
            refine am_iload_n (am_dec tmX12_lost_0 49 rfl) rfl rfl ?_
            refine am_iload_n (am_dec tmX12_lost_0 50 rfl) rfl rfl ?_
            obtain ⟨x33, g32, hf⟩ := am_bd hf
            refine am_callV0 (As := [.int p1, .int p2]) (st := []) hE (am_dec tmX12_lost_0 51 rfl) ok_X12_drawsBoth rfl lm_X12_303 in_X12_drawsBoth se_X12_drawsBoth sh_117 cf12 (c_X12_drawsBoth hE g32) rfl (by decide) (Nat.le_of_ble_eq_true rfl) (Nat.zero_le _) (Nat.zero_le _) rfl ?_
            refine am_aload_n (am_dec tmX12_lost_0 52 rfl) rfl rfl ?_
            refine am_aload_n (am_dec tmX12_lost_0 53 rfl) rfl rfl ?_
            refine am_getI (j := 38) hE (am_dec tmX12_lost_0 54 rfl) sh_117 cf12 (by decide) rfl lf_X12_262 ?_
            obtain ⟨D34, g35, hf⟩ := am_bd hf
            refine am_putI2 (j := 36) hE (am_dec tmX12_lost_0 55 rfl) sh_117 cf12 (by decide) rfl lf_X12_253 rfl rfl rfl g35 ?_
            refine am_iconst (v := (0 : Int32)) (am_dec tmX12_lost_0 56 rfl) (by decide) ?_
            refine am_istore (lv' := [(0, .ref 117), (1, .int p1), (2, .int p2), (3, .int p3), (4, .int (0 : Int32))]) (am_dec tmX12_lost_0 57 rfl) (by decide) rfl ?_
            obtain ⟨e41, g66, hf⟩ := am_bd hf
            refine am_pick [0, 1, 3, 4] rfl (l_X12_lost_L105 hE (Nat.le_refl _) am_fu _ _ _ g66 (fun ex he => ?_))
            subst he
            refine am_aload_n (am_dec tmX12_lost_1 12 rfl) rfl rfl ?_
            refine am_iload_n (am_dec tmX12_lost_1 13 rfl) rfl rfl ?_
            obtain ⟨x43, g42, hf⟩ := am_bd hf
            refine am_callV0 (As := [.int p3]) (st := []) hE (am_dec tmX12_lost_1 14 rfl) ok_X12_takes rfl lm_X12_241 in_X12_takes se_X12_takes sh_117 cf12 (c_X12_takes hE g42) rfl (by decide) (Nat.le_of_ble_eq_true rfl) (Nat.zero_le _) (Nat.zero_le _) rfl ?_
            refine am_aload_n (am_dec tmX12_lost_1 15 rfl) rfl rfl ?_
            obtain ⟨x45, g44, hf⟩ := am_bd hf
            refine am_callV0 (As := []) (st := []) hE (am_dec tmX12_lost_1 16 rfl) ok_X12_draws rfl lm_X12_293 in_X12_draws se_X12_draws sh_117 cf12 (c_X12_draws hE g44) rfl (by decide) (Nat.le_of_ble_eq_true rfl) (Nat.zero_le _) (Nat.zero_le _) rfl ?_
            refine am_sipush (v := (2047 : Int32)) (am_dec tmX12_lost_1 17 rfl) (by decide) ?_
            refine am_aload_n (am_dec tmX12_lost_1 18 rfl) rfl rfl ?_
            refine am_getI (j := 38) hE (am_dec tmX12_lost_1 19 rfl) sh_117 cf12 (by decide) rfl lf_X12_262 ?_
            refine am_aload_n (am_dec tmX12_lost_1 20 rfl) rfl rfl ?_
            refine am_getR (j := 25) hE (am_dec tmX12_lost_1 21 rfl) sh_117 cf12 (by decide) rfl lf_X12_46 rf_117_25 ?_
            refine am_iload_n (am_dec tmX12_lost_1 22 rfl) rfl rfl ?_
            obtain ⟨x46, g47, hf⟩ := am_bd hf
            refine am_iald2 hE (am_dec tmX12_lost_1 23 rfl) sh_139 g47 ?_
            refine am_isub (am_dec tmX12_lost_1 24 rfl) ?_
            obtain ⟨x49, g48, hf⟩ := am_bd hf
            refine am_callS1 (As := [.int ((x45.1 117 38) - x46)]) (st := [.int (2047 : Int32)]) (am_dec tmX12_lost_1 25 rfl) ok_X12_amount rfl lm_X12_281 st_X12_amount (c_X12_amount hE g48) rfl (by decide) (Nat.le_of_ble_eq_true rfl) (Nat.zero_le _) (Nat.zero_le _) rfl ?_
            refine am_imul (am_dec tmX12_lost_1 26 rfl) ?_
            refine am_istore (lv' := [(0, .ref 117), (1, .int p1), (3, .int p3), (4, .int ((2047 : Int32) * x49))]) (am_dec tmX12_lost_1 27 rfl) (by decide) rfl ?_
            refine am_iconst (v := (0 : Int32)) (am_dec tmX12_lost_1 28 rfl) (by decide) ?_
            refine am_istore (lv' := [(0, .ref 117), (1, .int p1), (3, .int p3), (4, .int ((2047 : Int32) * x49)), (5, .int (0 : Int32))]) (am_dec tmX12_lost_1 29 rfl) (by decide) rfl ?_
            obtain ⟨e62, g65, hf⟩ := am_bd hf
            refine am_pick [0, 1, 3, 4] rfl (l_X12_lost_L166 hE (Nat.le_refl _) am_fu _ _ _ g65 (fun ex he => ?_))
            subst he
            refine am_aload_n (am_dec tmX12_lost_1 57 rfl) rfl rfl ?_
            obtain ⟨x64, g63, hf⟩ := am_bd hf
            refine am_callV0 (As := []) (st := []) hE (am_dec tmX12_lost_1 58 rfl) ok_X12_laysBack rfl lm_X12_244 in_X12_laysBack se_X12_laysBack sh_117 cf12 (c_X12_laysBack hE g63) rfl (by decide) (Nat.le_of_ble_eq_true rfl) (Nat.zero_le _) (Nat.zero_le _) rfl ?_
            refine am_iload (am_dec tmX12_lost_1 59 rfl) rfl ?_
            have hf := Option.some.inj hf
            subst hf
            exact am_iret (am_dec tmX12_lost_2 0 rfl) rfl (Nat.zero_le _) (Nat.zero_le _)
          · rw [if_neg c29] at hf
            refine am_iconst (v := (0 : Int32)) (am_dec tmX12_lost_0 44 rfl) (by decide) ?_
            have hf := Option.some.inj hf
            subst hf
            exact am_iret (am_dec tmX12_lost_0 45 rfl) rfl (Nat.zero_le _) (Nat.zero_le _)
        replace hf := g67
        refine am_if_ne (tgt := 70) (am_dec tmX12_lost_0 24 rfl) (by decide) (fun c16 => ?_) (fun c16 => ?_)
        · rw [if_neg c16] at hf
          refine am_iconst (v := (1 : Int32)) (am_dec tmX12_lost_0 38 rfl) (by decide) ?_
          refine am_goto (tgt := 75) (am_dec tmX12_lost_0 39 rfl) (by decide) ?_
          have hf := Option.some.inj hf
          subst hf
          exact am_pick [0, 1, 2, 3] rfl key17
        · rw [if_pos c16] at hf
          refine am_aload_n (am_dec tmX12_lost_0 25 rfl) rfl rfl ?_
          refine am_iload_n (am_dec tmX12_lost_0 26 rfl) rfl rfl ?_
          obtain ⟨x19, g18, hf⟩ := am_bd hf
          refine am_callV1 (As := [.int p2]) (st := [.ref 117]) hE (am_dec tmX12_lost_0 27 rfl) ok_X12_lengthOf rfl lm_X12_232 in_X12_lengthOf se_X12_lengthOf sh_117 cf12 (c_X12_lengthOf hE g18) rfl (by decide) (Nat.le_of_ble_eq_true rfl) (Nat.zero_le _) (Nat.zero_le _) rfl ?_
          refine am_aload_n (am_dec tmX12_lost_0 28 rfl) rfl rfl ?_
          refine am_getI (j := 14) hE (am_dec tmX12_lost_0 29 rfl) sh_117 cf12 (by decide) rfl lf_X12_25 ?_
          refine am_icmp_lt (tgt := 70) (am_dec tmX12_lost_0 30 rfl) (by decide) (fun c20 => ?_) (fun c20 => ?_)
          · rw [if_pos c20] at hf
            refine am_iconst (v := (1 : Int32)) (am_dec tmX12_lost_0 38 rfl) (by decide) ?_
            refine am_goto (tgt := 75) (am_dec tmX12_lost_0 39 rfl) (by decide) ?_
            have hf := Option.some.inj hf
            subst hf
            exact am_pick [0, 1, 2, 3] rfl key17
          · rw [if_neg c20] at hf
            refine am_aload_n (am_dec tmX12_lost_0 31 rfl) rfl rfl ?_
            refine am_iload_n (am_dec tmX12_lost_0 32 rfl) rfl rfl ?_
            obtain ⟨x22, g21, hf⟩ := am_bd hf
            refine am_callV1 (As := [.int p2]) (st := [.ref 117]) hE (am_dec tmX12_lost_0 33 rfl) ok_X12_lengthOf rfl lm_X12_232 in_X12_lengthOf se_X12_lengthOf sh_117 cf12 (c_X12_lengthOf hE g21) rfl (by decide) (Nat.le_of_ble_eq_true rfl) (Nat.zero_le _) (Nat.zero_le _) rfl ?_
            refine am_aload_n (am_dec tmX12_lost_0 34 rfl) rfl rfl ?_
            refine am_iload_n (am_dec tmX12_lost_0 35 rfl) rfl rfl ?_
            obtain ⟨x24, g23, hf⟩ := am_bd hf
            refine am_callV1 (As := [.int p3]) (st := [.int x22, .ref 117]) hE (am_dec tmX12_lost_0 36 rfl) ok_X12_lastOf rfl lm_X12_235 in_X12_lastOf se_X12_lastOf sh_117 cf12 (c_X12_lastOf hE g23) rfl (by decide) (Nat.le_of_ble_eq_true rfl) (Nat.zero_le _) (Nat.zero_le _) rfl ?_
            refine am_icmp_ge (tgt := 74) (am_dec tmX12_lost_0 37 rfl) (by decide) (fun c25 => ?_) (fun c25 => ?_)
            · rw [if_pos c25] at hf
              refine am_iconst (v := (0 : Int32)) (am_dec tmX12_lost_0 40 rfl) (by decide) ?_
              have hf := Option.some.inj hf
              subst hf
              exact am_pick [0, 1, 2, 3] rfl key17
            · rw [if_neg c25] at hf
              refine am_iconst (v := (1 : Int32)) (am_dec tmX12_lost_0 38 rfl) (by decide) ?_
              refine am_goto (tgt := 75) (am_dec tmX12_lost_0 39 rfl) (by decide) ?_
              have hf := Option.some.inj hf
              subst hf
              exact am_pick [0, 1, 2, 3] rfl key17
    replace hf := g68
    refine am_if_ne (tgt := 27) (am_dec tmX12_lost_0 12 rfl) (by decide) (fun c8 => ?_) (fun c8 => ?_)
    · rw [if_neg c8] at hf
      refine am_iconst (v := (0 : Int32)) (am_dec tmX12_lost_0 15 rfl) (by decide) ?_
      have hf := Option.some.inj hf
      subst hf
      exact am_pick [0, 1, 2, 3] rfl key9
    · rw [if_pos c8] at hf
      refine am_iconst (v := (1 : Int32)) (am_dec tmX12_lost_0 13 rfl) (by decide) ?_
      refine am_goto (tgt := 28) (am_dec tmX12_lost_0 14 rfl) (by decide) ?_
      have hf := Option.some.inj hf
      subst hf
      exact am_pick [0, 1, 2, 3] rfl key9
def f_X12_moves (p1 : Int32) (p2 : Int32) (p3 : Int32) (D : am_D) : Option ((Int32 × am_D)) :=
    (if p3 = 0 then
    (am_gA 3 p1).bind fun j3 =>
    (am_pI D (2634 + j3) 3400 (D.1 117 56) p2).bind fun D5 =>
    some (D5)
    else
    some (D)).bind fun w7 =>
    (some (am_wI w7 117 56 ((w7.1 117 56) + (1 : Int32)))).bind fun D8 =>
    (am_gA 3 p1).bind fun j10 =>
    (am_gI D8 (2634 + j10) 3400 ((D8.1 117 56) - (1 : Int32))).bind fun x12 =>
    some (x12, D8)
set_option maxRecDepth 100000 in
set_option maxHeartbeats 4000000 in
theorem c_X12_moves {E : am_E} (hE : am_EH E) {p1 : Int32} {p2 : Int32} {p3 : Int32} {D : am_D} {r : (Int32 × am_D)}  (hf : f_X12_moves p1 p2 p3 D = some r) : am_C E mX12_moves 1 0 0 [.ref 117, .int p1, .int p2, .int p3] am_G0 D (.inl (some (.int r.1))) am_G0 r.2 := by
  refine am_C_of (by decide +kernel) (Nat.le_of_ble_eq_true rfl) ?_
  change am_S E mX12_moves 1 0 0 (.inl (some (.int r.1))) am_G0 r.2 0 0 0 [(0, .ref 117), (1, .int p1), (2, .int p2), (3, .int p3)] [] am_G0 D
  unfold f_X12_moves at hf
  refine am_iload_n (am_dec tmX12_moves 0 rfl) rfl rfl ?_
  obtain ⟨w7, g14, hf⟩ := am_bd hf
  have key2 : am_S E mX12_moves 1 0 0 (.inl (some (.int r.1))) am_G0 r.2 0 0 16 [(0, .ref 117), (1, .int p1)] [] am_G0 w7 := by
    refine am_aload_n (am_dec tmX12_moves 10 rfl) rfl rfl ?_
    refine am_dup (am_dec tmX12_moves 11 rfl) rfl ?_
    refine am_getI (j := 56) hE (am_dec tmX12_moves 12 rfl) sh_117 cf12 (by decide) rfl lf_X12_415 ?_
    refine am_iconst (v := (1 : Int32)) (am_dec tmX12_moves 13 rfl) (by decide) ?_
    refine am_iadd (am_dec tmX12_moves 14 rfl) ?_
    obtain ⟨D8, g9, hf⟩ := am_bd hf
    refine am_putI2 (j := 56) hE (am_dec tmX12_moves 15 rfl) sh_117 cf12 (by decide) rfl lf_X12_415 rfl rfl rfl g9 ?_
    refine am_aload_n (am_dec tmX12_moves 16 rfl) rfl rfl ?_
    refine am_getR (j := 55) hE (am_dec tmX12_moves 17 rfl) sh_117 cf12 (by decide) rfl lf_X12_107 rf_117_55 ?_
    refine am_iload_n (am_dec tmX12_moves 18 rfl) rfl rfl ?_
    obtain ⟨j10, g11, hf⟩ := am_bd hf
    have hj_j10 := (am_gA_lt g11).1
    refine am_aald2 (t := 6) hE (am_dec tmX12_moves 19 rfl) sh_2633 (by decide) rfl rfl g11 (rr_2633 hj_j10) ?_
    refine am_aload_n (am_dec tmX12_moves 20 rfl) rfl rfl ?_
    refine am_getI (j := 56) hE (am_dec tmX12_moves 21 rfl) sh_117 cf12 (by decide) rfl lf_X12_415 ?_
    refine am_iconst (v := (1 : Int32)) (am_dec tmX12_moves 22 rfl) (by decide) ?_
    refine am_isub (am_dec tmX12_moves 23 rfl) ?_
    obtain ⟨x12, g13, hf⟩ := am_bd hf
    refine am_iald2 hE (am_dec tmX12_moves 24 rfl) (sa_2633_0 hj_j10) g13 ?_
    have hf := Option.some.inj hf
    subst hf
    exact am_iret (am_dec tmX12_moves 25 rfl) rfl (Nat.zero_le _) (Nat.zero_le _)
  replace hf := g14
  refine am_if_ne (tgt := 16) (am_dec tmX12_moves 1 rfl) (by decide) (fun c1 => ?_) (fun c1 => ?_)
  · rw [if_neg c1] at hf
    have hf := Option.some.inj hf
    subst hf
    exact am_pick [0, 1] rfl key2
  · rw [if_pos c1] at hf
    refine am_aload_n (am_dec tmX12_moves 2 rfl) rfl rfl ?_
    refine am_getR (j := 55) hE (am_dec tmX12_moves 3 rfl) sh_117 cf12 (by decide) rfl lf_X12_107 rf_117_55 ?_
    refine am_iload_n (am_dec tmX12_moves 4 rfl) rfl rfl ?_
    obtain ⟨j3, g4, hf⟩ := am_bd hf
    have hj_j3 := (am_gA_lt g4).1
    refine am_aald2 (t := 6) hE (am_dec tmX12_moves 5 rfl) sh_2633 (by decide) rfl rfl g4 (rr_2633 hj_j3) ?_
    refine am_aload_n (am_dec tmX12_moves 6 rfl) rfl rfl ?_
    refine am_getI (j := 56) hE (am_dec tmX12_moves 7 rfl) sh_117 cf12 (by decide) rfl lf_X12_415 ?_
    refine am_iload_n (am_dec tmX12_moves 8 rfl) rfl rfl ?_
    obtain ⟨D5, g6, hf⟩ := am_bd hf
    refine am_iast2 hE (am_dec tmX12_moves 9 rfl) (sa_2633_0 hj_j3) g6 ?_
    have hf := Option.some.inj hf
    subst hf
    exact am_pick [0, 1] rfl key2
def f_X12_movesRow_L3 (q1 : Int32) (q2 : Nat) (q3 : Int32) : Nat → Int32 → am_D → Option (am_D)
  | 0, _, _ => none
  | n + 1, v4, D =>
    if (Int32.ofNat (am_ln q2)) ≤ v4 then
    some (D)
    else
    (am_gI D q2 (am_ln q2) v4).bind fun x2 =>
    (f_X12_moves q1 x2 q3 D).bind fun x5 =>
    (am_pI x5.2 q2 (am_ln q2) v4 x5.1).bind fun D6 =>
    f_X12_movesRow_L3 q1 q2 q3 n (v4 + (1 : Int32)) D6
def f_X12_movesRow (p1 : Int32) (p2 : Nat) (p3 : Int32) (D : am_D) : Option (am_D) :=
    (f_X12_movesRow_L3 p1 p2 p3 am_fu (0 : Int32) D).bind fun e8 =>
    some e8
set_option maxRecDepth 100000 in
set_option maxHeartbeats 4000000 in
theorem l_X12_movesRow_L3 {E : am_E} (hE : am_EH E) {d mc ms : Nat} {o : am_O} {G2 : am_G} {D2 : am_D} (hdp : 2 ≤ d) {q1 : Int32} {q2 : Nat} {q3 : Int32} (h_q2 : am_sh am_G0 q2 = some (20, am_ln q2)) : ∀ (n : Nat) (v4 : Int32) (D : am_D) (ex0 : am_D), f_X12_movesRow_L3 q1 q2 q3 n v4 D = some ex0 → (∀ ex : am_D, ex0 = ex → am_S E mX12_movesRow d mc ms o G2 D2 0 0 30 [] [] am_G0 ex) → am_S E mX12_movesRow d mc ms o G2 D2 0 0 3 [(0, .ref 117), (1, .int q1), (2, .ref q2), (3, .int q3), (4, .int v4)] [] am_G0 D
  | 0, _, _, _, hf, _ => by
    unfold f_X12_movesRow_L3 at hf
    cases hf
  | n + 1, v4, D, ex0, hf, hk0 => by
    unfold f_X12_movesRow_L3 at hf
    refine am_iload (am_dec tmX12_movesRow 2 rfl) rfl ?_
    refine am_aload_n (am_dec tmX12_movesRow 3 rfl) rfl rfl ?_
    refine am_alen (t := 0) (v := (Int32.ofNat (am_ln q2))) hE (am_dec tmX12_movesRow 4 rfl) h_q2 (by decide) rfl ?_
    refine am_icmp_ge (tgt := 30) (am_dec tmX12_movesRow 5 rfl) (by decide) (fun c1 => ?_) (fun c1 => ?_)
    · rw [if_pos c1] at hf
      have hf := Option.some.inj hf
      subst hf
      exact am_pick [] rfl (hk0 _ rfl)
    · rw [if_neg c1] at hf
      refine am_aload_n (am_dec tmX12_movesRow 6 rfl) rfl rfl ?_
      refine am_iload (am_dec tmX12_movesRow 7 rfl) rfl ?_
      refine am_aload_n (am_dec tmX12_movesRow 8 rfl) rfl rfl ?_
      refine am_iload_n (am_dec tmX12_movesRow 9 rfl) rfl rfl ?_
      refine am_aload_n (am_dec tmX12_movesRow 10 rfl) rfl rfl ?_
      refine am_iload (am_dec tmX12_movesRow 11 rfl) rfl ?_
      obtain ⟨x2, g3, hf⟩ := am_bd hf
      refine am_iald2 hE (am_dec tmX12_movesRow 12 rfl) h_q2 g3 ?_
      refine am_iload_n (am_dec tmX12_movesRow 13 rfl) rfl rfl ?_
      obtain ⟨x5, g4, hf⟩ := am_bd hf
      refine am_callV1 (As := [.int q1, .int x2, .int q3]) (st := [.int v4, .ref q2]) hE (am_dec tmX12_movesRow 14 rfl) ok_X12_moves rfl lm_X12_418 in_X12_moves se_X12_moves sh_117 cf12 (c_X12_moves hE g4) rfl (Nat.lt_of_lt_of_le (by decide) hdp) (Nat.le_of_ble_eq_true rfl) (Nat.zero_le _) (Nat.zero_le _) rfl ?_
      obtain ⟨D6, g7, hf⟩ := am_bd hf
      refine am_iast2 hE (am_dec tmX12_movesRow 15 rfl) h_q2 g7 ?_
      refine am_iinc (v := (1 : Int32)) (lv' := [(0, .ref 117), (1, .int q1), (2, .ref q2), (3, .int q3), (4, .int (v4 + (1 : Int32)))]) (am_dec tmX12_movesRow 16 rfl) rfl (by decide) (by decide) rfl ?_
      refine am_goto (tgt := 3) (am_dec tmX12_movesRow 17 rfl) (by decide) ?_
      exact am_pick [0, 1, 2, 3, 4] rfl (l_X12_movesRow_L3 hE hdp h_q2 n (v4 + (1 : Int32)) D6 ex0 hf hk0)
set_option maxRecDepth 100000 in
set_option maxHeartbeats 4000000 in
theorem c_X12_movesRow {E : am_E} (hE : am_EH E) {p1 : Int32} {p2 : Nat} {p3 : Int32} {D : am_D} {r : am_D} (h_p2 : am_sh am_G0 p2 = some (20, am_ln p2)) (hf : f_X12_movesRow p1 p2 p3 D = some r) : am_C E mX12_movesRow 2 0 0 [.ref 117, .int p1, .ref p2, .int p3] am_G0 D (.inl none) am_G0 r := by
  refine am_C_of (by decide +kernel) (Nat.le_of_ble_eq_true rfl) ?_
  change am_S E mX12_movesRow 2 0 0 (.inl none) am_G0 r 0 0 0 [(0, .ref 117), (1, .int p1), (2, .ref p2), (3, .int p3)] [] am_G0 D
  unfold f_X12_movesRow at hf
  refine am_iconst (v := (0 : Int32)) (am_dec tmX12_movesRow 0 rfl) (by decide) ?_
  refine am_istore (lv' := [(0, .ref 117), (1, .int p1), (2, .ref p2), (3, .int p3), (4, .int (0 : Int32))]) (am_dec tmX12_movesRow 1 rfl) (by decide) rfl ?_
  obtain ⟨e8, g9, hf⟩ := am_bd hf
  refine am_pick [0, 1, 2, 3, 4] rfl (l_X12_movesRow_L3 hE (Nat.le_refl _) h_p2 am_fu _ _ _ g9 (fun ex he => ?_))
  subst he
  have hf := Option.some.inj hf
  subst hf
  exact am_vret (am_dec tmX12_movesRow 18 rfl) rfl (Nat.zero_le _) (Nat.zero_le _)
def f_X12_movesAll_L201 (q1 : Int32) (q2 : Int32) : Nat → Int32 → am_D → Option (am_D)
  | 0, _, _ => none
  | n + 1, v3, D =>
    if (5 : Int32) ≤ v3 then
    some (D)
    else
    (am_gA 5 v3).bind fun j56 =>
    (f_X12_movesRow q1 (134 + j56) q2 D).bind fun x59 =>
    f_X12_movesAll_L201 q1 q2 n (v3 + (1 : Int32)) x59
def f_X12_movesAll_L226 (q1 : Int32) (q2 : Int32) : Nat → Int32 → am_D → Option (am_D)
  | 0, _, _ => none
  | n + 1, v3, D =>
    if (60 : Int32) ≤ v3 then
    some (D)
    else
    (am_gA 60 v3).bind fun j62 =>
    (f_X12_movesRow q1 (141 + j62) q2 D).bind fun x65 =>
    f_X12_movesAll_L226 q1 q2 n (v3 + (1 : Int32)) x65
def f_X12_movesAll_L252 (q1 : Int32) (q2 : Int32) : Nat → Int32 → am_D → Option (am_D)
  | 0, _, _ => none
  | n + 1, v3, D =>
    if (4 : Int32) ≤ v3 then
    some (D)
    else
    (am_gA 4 v3).bind fun j68 =>
    (f_X12_movesRow q1 (206 + j68) q2 D).bind fun x71 =>
    f_X12_movesAll_L252 q1 q2 n (v3 + (1 : Int32)) x71
def f_X12_movesAll_L277 (q1 : Int32) (q2 : Int32) : Nat → Int32 → am_D → Option (am_D)
  | 0, _, _ => none
  | n + 1, v3, D =>
    if (10 : Int32) ≤ v3 then
    some (D)
    else
    (am_gA 10 v3).bind fun j74 =>
    (f_X12_movesRow q1 (211 + j74) q2 D).bind fun x77 =>
    f_X12_movesAll_L277 q1 q2 n (v3 + (1 : Int32)) x77
def f_X12_movesAll (p1 : Int32) (p2 : Int32) (D : am_D) : Option (am_D) :=
    (some (am_wI D 117 56 (0 : Int32))).bind fun D1 =>
    (f_X12_moves p1 (D1.1 117 12) p2 D1).bind fun x4 =>
    (some (am_wI x4.2 117 12 x4.1)).bind fun D5 =>
    (f_X12_moves p1 (D5.1 117 13) p2 D5).bind fun x8 =>
    (some (am_wI x8.2 117 13 x8.1)).bind fun D9 =>
    (f_X12_moves p1 (D9.1 117 14) p2 D9).bind fun x12 =>
    (some (am_wI x12.2 117 14 x12.1)).bind fun D13 =>
    (f_X12_moves p1 (D13.1 117 15) p2 D13).bind fun x16 =>
    (some (am_wI x16.2 117 15 x16.1)).bind fun D17 =>
    (f_X12_moves p1 (D17.1 117 16) p2 D17).bind fun x20 =>
    (some (am_wI x20.2 117 16 x20.1)).bind fun D21 =>
    (f_X12_moves p1 (D21.1 117 17) p2 D21).bind fun x24 =>
    (some (am_wI x24.2 117 17 x24.1)).bind fun D25 =>
    (f_X12_moves p1 (D25.1 117 18) p2 D25).bind fun x28 =>
    (some (am_wI x28.2 117 18 x28.1)).bind fun D29 =>
    (f_X12_moves p1 (D29.1 117 19) p2 D29).bind fun x32 =>
    (some (am_wI x32.2 117 19 x32.1)).bind fun D33 =>
    (f_X12_moves p1 (D33.1 117 20) p2 D33).bind fun x36 =>
    (some (am_wI x36.2 117 20 x36.1)).bind fun D37 =>
    (f_X12_moves p1 (D37.1 117 21) p2 D37).bind fun x40 =>
    (some (am_wI x40.2 117 21 x40.1)).bind fun D41 =>
    (f_X12_moves p1 (D41.1 117 22) p2 D41).bind fun x44 =>
    (some (am_wI x44.2 117 22 x44.1)).bind fun D45 =>
    (f_X12_movesRow p1 139 p2 D45).bind fun x48 =>
    (f_X12_movesRow p1 201 p2 x48).bind fun x50 =>
    (f_X12_movesRow p1 202 p2 x50).bind fun x52 =>
    (f_X12_movesRow p1 203 p2 x52).bind fun x54 =>
    (f_X12_movesAll_L201 p1 p2 am_fu (0 : Int32) x54).bind fun e60 =>
    (f_X12_movesAll_L226 p1 p2 am_fu (0 : Int32) e60).bind fun e66 =>
    (f_X12_movesAll_L252 p1 p2 am_fu (0 : Int32) e66).bind fun e72 =>
    (f_X12_movesAll_L277 p1 p2 am_fu (0 : Int32) e72).bind fun e78 =>
    some e78
set_option maxRecDepth 100000 in
set_option maxHeartbeats 4000000 in
theorem l_X12_movesAll_L201 {E : am_E} (hE : am_EH E) {d mc ms : Nat} {o : am_O} {G2 : am_G} {D2 : am_D} (hdp : 3 ≤ d) {q1 : Int32} {q2 : Int32}  : ∀ (n : Nat) (v3 : Int32) (D : am_D) (ex0 : am_D), f_X12_movesAll_L201 q1 q2 n v3 D = some ex0 → (∀ ex : am_D, ex0 = ex → am_S E mX12_movesAll d mc ms o G2 D2 0 0 224 [(0, .ref 117), (1, .int q1), (2, .int q2)] [] am_G0 ex) → am_S E mX12_movesAll d mc ms o G2 D2 0 0 201 [(0, .ref 117), (1, .int q1), (2, .int q2), (3, .int v3)] [] am_G0 D
  | 0, _, _, _, hf, _ => by
    unfold f_X12_movesAll_L201 at hf
    cases hf
  | n + 1, v3, D, ex0, hf, hk0 => by
    unfold f_X12_movesAll_L201 at hf
    refine am_iload_n (am_dec tmX12_movesAll_1 57 rfl) rfl rfl ?_
    refine am_iconst (v := (5 : Int32)) (am_dec tmX12_movesAll_1 58 rfl) (by decide) ?_
    refine am_icmp_ge (tgt := 224) (am_dec tmX12_movesAll_1 59 rfl) (by decide) (fun c55 => ?_) (fun c55 => ?_)
    · rw [if_pos c55] at hf
      have hf := Option.some.inj hf
      subst hf
      exact am_pick [0, 1, 2] rfl (hk0 _ rfl)
    · rw [if_neg c55] at hf
      refine am_aload_n (am_dec tmX12_movesAll_2 0 rfl) rfl rfl ?_
      refine am_iload_n (am_dec tmX12_movesAll_2 1 rfl) rfl rfl ?_
      refine am_aload_n (am_dec tmX12_movesAll_2 2 rfl) rfl rfl ?_
      refine am_getR (j := 24) hE (am_dec tmX12_movesAll_2 3 rfl) sh_117 cf12 (by decide) rfl lf_X12_43 rf_117_24 ?_
      refine am_iload_n (am_dec tmX12_movesAll_2 4 rfl) rfl rfl ?_
      obtain ⟨j56, g57, hf⟩ := am_bd hf
      have hj_j56 := (am_gA_lt g57).1
      refine am_aald2 (t := 6) hE (am_dec tmX12_movesAll_2 5 rfl) sh_133 (by decide) rfl rfl g57 (rr_133 hj_j56) ?_
      refine am_iload_n (am_dec tmX12_movesAll_2 6 rfl) rfl rfl ?_
      obtain ⟨x59, g58, hf⟩ := am_bd hf
      refine am_callV0 (As := [.int q1, .ref (134 + j56), .int q2]) (st := []) hE (am_dec tmX12_movesAll_2 7 rfl) ok_X12_movesRow rfl lm_X12_422 in_X12_movesRow se_X12_movesRow sh_117 cf12 (c_X12_movesRow hE (am_shl (sa_133_0 hj_j56)) g58) rfl (Nat.lt_of_lt_of_le (by decide) hdp) (Nat.le_of_ble_eq_true rfl) (Nat.zero_le _) (Nat.zero_le _) rfl ?_
      refine am_iinc (v := (1 : Int32)) (lv' := [(0, .ref 117), (1, .int q1), (2, .int q2), (3, .int (v3 + (1 : Int32)))]) (am_dec tmX12_movesAll_2 8 rfl) rfl (by decide) (by decide) rfl ?_
      refine am_goto (tgt := 201) (am_dec tmX12_movesAll_2 9 rfl) (by decide) ?_
      exact am_pick [0, 1, 2, 3] rfl (l_X12_movesAll_L201 hE hdp n (v3 + (1 : Int32)) x59 ex0 hf hk0)
set_option maxRecDepth 100000 in
set_option maxHeartbeats 4000000 in
theorem l_X12_movesAll_L226 {E : am_E} (hE : am_EH E) {d mc ms : Nat} {o : am_O} {G2 : am_G} {D2 : am_D} (hdp : 3 ≤ d) {q1 : Int32} {q2 : Int32}  : ∀ (n : Nat) (v3 : Int32) (D : am_D) (ex0 : am_D), f_X12_movesAll_L226 q1 q2 n v3 D = some ex0 → (∀ ex : am_D, ex0 = ex → am_S E mX12_movesAll d mc ms o G2 D2 0 0 250 [(0, .ref 117), (1, .int q1), (2, .int q2)] [] am_G0 ex) → am_S E mX12_movesAll d mc ms o G2 D2 0 0 226 [(0, .ref 117), (1, .int q1), (2, .int q2), (3, .int v3)] [] am_G0 D
  | 0, _, _, _, hf, _ => by
    unfold f_X12_movesAll_L226 at hf
    cases hf
  | n + 1, v3, D, ex0, hf, hk0 => by
    unfold f_X12_movesAll_L226 at hf
    refine am_iload_n (am_dec tmX12_movesAll_2 12 rfl) rfl rfl ?_
    refine am_bipush (v := (60 : Int32)) (am_dec tmX12_movesAll_2 13 rfl) (by decide) ?_
    refine am_icmp_ge (tgt := 250) (am_dec tmX12_movesAll_2 14 rfl) (by decide) (fun c61 => ?_) (fun c61 => ?_)
    · rw [if_pos c61] at hf
      have hf := Option.some.inj hf
      subst hf
      exact am_pick [0, 1, 2] rfl (hk0 _ rfl)
    · rw [if_neg c61] at hf
      refine am_aload_n (am_dec tmX12_movesAll_2 15 rfl) rfl rfl ?_
      refine am_iload_n (am_dec tmX12_movesAll_2 16 rfl) rfl rfl ?_
      refine am_aload_n (am_dec tmX12_movesAll_2 17 rfl) rfl rfl ?_
      refine am_getR (j := 26) hE (am_dec tmX12_movesAll_2 18 rfl) sh_117 cf12 (by decide) rfl lf_X12_49 rf_117_26 ?_
      refine am_iload_n (am_dec tmX12_movesAll_2 19 rfl) rfl rfl ?_
      obtain ⟨j62, g63, hf⟩ := am_bd hf
      have hj_j62 := (am_gA_lt g63).1
      refine am_aald2 (t := 6) hE (am_dec tmX12_movesAll_2 20 rfl) sh_140 (by decide) rfl rfl g63 (rr_140 hj_j62) ?_
      refine am_iload_n (am_dec tmX12_movesAll_2 21 rfl) rfl rfl ?_
      obtain ⟨x65, g64, hf⟩ := am_bd hf
      refine am_callV0 (As := [.int q1, .ref (141 + j62), .int q2]) (st := []) hE (am_dec tmX12_movesAll_2 22 rfl) ok_X12_movesRow rfl lm_X12_422 in_X12_movesRow se_X12_movesRow sh_117 cf12 (c_X12_movesRow hE (am_shl (sa_140_0 hj_j62)) g64) rfl (Nat.lt_of_lt_of_le (by decide) hdp) (Nat.le_of_ble_eq_true rfl) (Nat.zero_le _) (Nat.zero_le _) rfl ?_
      refine am_iinc (v := (1 : Int32)) (lv' := [(0, .ref 117), (1, .int q1), (2, .int q2), (3, .int (v3 + (1 : Int32)))]) (am_dec tmX12_movesAll_2 23 rfl) rfl (by decide) (by decide) rfl ?_
      refine am_goto (tgt := 226) (am_dec tmX12_movesAll_2 24 rfl) (by decide) ?_
      exact am_pick [0, 1, 2, 3] rfl (l_X12_movesAll_L226 hE hdp n (v3 + (1 : Int32)) x65 ex0 hf hk0)
set_option maxRecDepth 100000 in
set_option maxHeartbeats 4000000 in
theorem l_X12_movesAll_L252 {E : am_E} (hE : am_EH E) {d mc ms : Nat} {o : am_O} {G2 : am_G} {D2 : am_D} (hdp : 3 ≤ d) {q1 : Int32} {q2 : Int32}  : ∀ (n : Nat) (v3 : Int32) (D : am_D) (ex0 : am_D), f_X12_movesAll_L252 q1 q2 n v3 D = some ex0 → (∀ ex : am_D, ex0 = ex → am_S E mX12_movesAll d mc ms o G2 D2 0 0 275 [(0, .ref 117), (1, .int q1), (2, .int q2)] [] am_G0 ex) → am_S E mX12_movesAll d mc ms o G2 D2 0 0 252 [(0, .ref 117), (1, .int q1), (2, .int q2), (3, .int v3)] [] am_G0 D
  | 0, _, _, _, hf, _ => by
    unfold f_X12_movesAll_L252 at hf
    cases hf
  | n + 1, v3, D, ex0, hf, hk0 => by
    unfold f_X12_movesAll_L252 at hf
    refine am_iload_n (am_dec tmX12_movesAll_2 27 rfl) rfl rfl ?_
    refine am_iconst (v := (4 : Int32)) (am_dec tmX12_movesAll_2 28 rfl) (by decide) ?_
    refine am_icmp_ge (tgt := 275) (am_dec tmX12_movesAll_2 29 rfl) (by decide) (fun c67 => ?_) (fun c67 => ?_)
    · rw [if_pos c67] at hf
      have hf := Option.some.inj hf
      subst hf
      exact am_pick [0, 1, 2] rfl (hk0 _ rfl)
    · rw [if_neg c67] at hf
      refine am_aload_n (am_dec tmX12_movesAll_2 30 rfl) rfl rfl ?_
      refine am_iload_n (am_dec tmX12_movesAll_2 31 rfl) rfl rfl ?_
      refine am_aload_n (am_dec tmX12_movesAll_2 32 rfl) rfl rfl ?_
      refine am_getR (j := 31) hE (am_dec tmX12_movesAll_2 33 rfl) sh_117 cf12 (by decide) rfl lf_X12_64 rf_117_31 ?_
      refine am_iload_n (am_dec tmX12_movesAll_2 34 rfl) rfl rfl ?_
      obtain ⟨j68, g69, hf⟩ := am_bd hf
      have hj_j68 := (am_gA_lt g69).1
      refine am_aald2 (t := 6) hE (am_dec tmX12_movesAll_2 35 rfl) sh_205 (by decide) rfl rfl g69 (rr_205 hj_j68) ?_
      refine am_iload_n (am_dec tmX12_movesAll_2 36 rfl) rfl rfl ?_
      obtain ⟨x71, g70, hf⟩ := am_bd hf
      refine am_callV0 (As := [.int q1, .ref (206 + j68), .int q2]) (st := []) hE (am_dec tmX12_movesAll_2 37 rfl) ok_X12_movesRow rfl lm_X12_422 in_X12_movesRow se_X12_movesRow sh_117 cf12 (c_X12_movesRow hE (am_shl (sa_205_0 hj_j68)) g70) rfl (Nat.lt_of_lt_of_le (by decide) hdp) (Nat.le_of_ble_eq_true rfl) (Nat.zero_le _) (Nat.zero_le _) rfl ?_
      refine am_iinc (v := (1 : Int32)) (lv' := [(0, .ref 117), (1, .int q1), (2, .int q2), (3, .int (v3 + (1 : Int32)))]) (am_dec tmX12_movesAll_2 38 rfl) rfl (by decide) (by decide) rfl ?_
      refine am_goto (tgt := 252) (am_dec tmX12_movesAll_2 39 rfl) (by decide) ?_
      exact am_pick [0, 1, 2, 3] rfl (l_X12_movesAll_L252 hE hdp n (v3 + (1 : Int32)) x71 ex0 hf hk0)
set_option maxRecDepth 100000 in
set_option maxHeartbeats 4000000 in
theorem l_X12_movesAll_L277 {E : am_E} (hE : am_EH E) {d mc ms : Nat} {o : am_O} {G2 : am_G} {D2 : am_D} (hdp : 3 ≤ d) {q1 : Int32} {q2 : Int32}  : ∀ (n : Nat) (v3 : Int32) (D : am_D) (ex0 : am_D), f_X12_movesAll_L277 q1 q2 n v3 D = some ex0 → (∀ ex : am_D, ex0 = ex → am_S E mX12_movesAll d mc ms o G2 D2 0 0 301 [] [] am_G0 ex) → am_S E mX12_movesAll d mc ms o G2 D2 0 0 277 [(0, .ref 117), (1, .int q1), (2, .int q2), (3, .int v3)] [] am_G0 D
  | 0, _, _, _, hf, _ => by
    unfold f_X12_movesAll_L277 at hf
    cases hf
  | n + 1, v3, D, ex0, hf, hk0 => by
    unfold f_X12_movesAll_L277 at hf
    refine am_iload_n (am_dec tmX12_movesAll_2 42 rfl) rfl rfl ?_
    refine am_bipush (v := (10 : Int32)) (am_dec tmX12_movesAll_2 43 rfl) (by decide) ?_
    refine am_icmp_ge (tgt := 301) (am_dec tmX12_movesAll_2 44 rfl) (by decide) (fun c73 => ?_) (fun c73 => ?_)
    · rw [if_pos c73] at hf
      have hf := Option.some.inj hf
      subst hf
      exact am_pick [] rfl (hk0 _ rfl)
    · rw [if_neg c73] at hf
      refine am_aload_n (am_dec tmX12_movesAll_2 45 rfl) rfl rfl ?_
      refine am_iload_n (am_dec tmX12_movesAll_2 46 rfl) rfl rfl ?_
      refine am_aload_n (am_dec tmX12_movesAll_2 47 rfl) rfl rfl ?_
      refine am_getR (j := 32) hE (am_dec tmX12_movesAll_2 48 rfl) sh_117 cf12 (by decide) rfl lf_X12_67 rf_117_32 ?_
      refine am_iload_n (am_dec tmX12_movesAll_2 49 rfl) rfl rfl ?_
      obtain ⟨j74, g75, hf⟩ := am_bd hf
      have hj_j74 := (am_gA_lt g75).1
      refine am_aald2 (t := 6) hE (am_dec tmX12_movesAll_2 50 rfl) sh_210 (by decide) rfl rfl g75 (rr_210 hj_j74) ?_
      refine am_iload_n (am_dec tmX12_movesAll_2 51 rfl) rfl rfl ?_
      obtain ⟨x77, g76, hf⟩ := am_bd hf
      refine am_callV0 (As := [.int q1, .ref (211 + j74), .int q2]) (st := []) hE (am_dec tmX12_movesAll_2 52 rfl) ok_X12_movesRow rfl lm_X12_422 in_X12_movesRow se_X12_movesRow sh_117 cf12 (c_X12_movesRow hE (am_shl (sa_210_0 hj_j74)) g76) rfl (Nat.lt_of_lt_of_le (by decide) hdp) (Nat.le_of_ble_eq_true rfl) (Nat.zero_le _) (Nat.zero_le _) rfl ?_
      refine am_iinc (v := (1 : Int32)) (lv' := [(0, .ref 117), (1, .int q1), (2, .int q2), (3, .int (v3 + (1 : Int32)))]) (am_dec tmX12_movesAll_2 53 rfl) rfl (by decide) (by decide) rfl ?_
      refine am_goto (tgt := 277) (am_dec tmX12_movesAll_2 54 rfl) (by decide) ?_
      exact am_pick [0, 1, 2, 3] rfl (l_X12_movesAll_L277 hE hdp n (v3 + (1 : Int32)) x77 ex0 hf hk0)
set_option maxRecDepth 100000 in
set_option maxHeartbeats 4000000 in
theorem c_X12_movesAll {E : am_E} (hE : am_EH E) {p1 : Int32} {p2 : Int32} {D : am_D} {r : am_D}  (hf : f_X12_movesAll p1 p2 D = some r) : am_C E mX12_movesAll 3 0 0 [.ref 117, .int p1, .int p2] am_G0 D (.inl none) am_G0 r := by
  refine am_C_of (by decide +kernel) (Nat.le_of_ble_eq_true rfl) ?_
  change am_S E mX12_movesAll 3 0 0 (.inl none) am_G0 r 0 0 0 [(0, .ref 117), (1, .int p1), (2, .int p2)] [] am_G0 D
  unfold f_X12_movesAll at hf
  refine am_aload_n (am_dec tmX12_movesAll_0 0 rfl) rfl rfl ?_
  refine am_iconst (v := (0 : Int32)) (am_dec tmX12_movesAll_0 1 rfl) (by decide) ?_
  obtain ⟨D1, g2, hf⟩ := am_bd hf
  refine am_putI2 (j := 56) hE (am_dec tmX12_movesAll_0 2 rfl) sh_117 cf12 (by decide) rfl lf_X12_415 rfl rfl rfl g2 ?_
  refine am_aload_n (am_dec tmX12_movesAll_0 3 rfl) rfl rfl ?_
  refine am_aload_n (am_dec tmX12_movesAll_0 4 rfl) rfl rfl ?_
  refine am_iload_n (am_dec tmX12_movesAll_0 5 rfl) rfl rfl ?_
  refine am_aload_n (am_dec tmX12_movesAll_0 6 rfl) rfl rfl ?_
  refine am_getI (j := 12) hE (am_dec tmX12_movesAll_0 7 rfl) sh_117 cf12 (by decide) rfl lf_X12_195 ?_
  refine am_iload_n (am_dec tmX12_movesAll_0 8 rfl) rfl rfl ?_
  obtain ⟨x4, g3, hf⟩ := am_bd hf
  refine am_callV1 (As := [.int p1, .int (D1.1 117 12), .int p2]) (st := [.ref 117]) hE (am_dec tmX12_movesAll_0 9 rfl) ok_X12_moves rfl lm_X12_418 in_X12_moves se_X12_moves sh_117 cf12 (c_X12_moves hE g3) rfl (by decide) (Nat.le_of_ble_eq_true rfl) (Nat.zero_le _) (Nat.zero_le _) rfl ?_
  obtain ⟨D5, g6, hf⟩ := am_bd hf
  refine am_putI2 (j := 12) hE (am_dec tmX12_movesAll_0 10 rfl) sh_117 cf12 (by decide) rfl lf_X12_195 rfl rfl rfl g6 ?_
  refine am_aload_n (am_dec tmX12_movesAll_0 11 rfl) rfl rfl ?_
  refine am_aload_n (am_dec tmX12_movesAll_0 12 rfl) rfl rfl ?_
  refine am_iload_n (am_dec tmX12_movesAll_0 13 rfl) rfl rfl ?_
  refine am_aload_n (am_dec tmX12_movesAll_0 14 rfl) rfl rfl ?_
  refine am_getI (j := 13) hE (am_dec tmX12_movesAll_0 15 rfl) sh_117 cf12 (by decide) rfl lf_X12_208 ?_
  refine am_iload_n (am_dec tmX12_movesAll_0 16 rfl) rfl rfl ?_
  obtain ⟨x8, g7, hf⟩ := am_bd hf
  refine am_callV1 (As := [.int p1, .int (D5.1 117 13), .int p2]) (st := [.ref 117]) hE (am_dec tmX12_movesAll_0 17 rfl) ok_X12_moves rfl lm_X12_418 in_X12_moves se_X12_moves sh_117 cf12 (c_X12_moves hE g7) rfl (by decide) (Nat.le_of_ble_eq_true rfl) (Nat.zero_le _) (Nat.zero_le _) rfl ?_
  obtain ⟨D9, g10, hf⟩ := am_bd hf
  refine am_putI2 (j := 13) hE (am_dec tmX12_movesAll_0 18 rfl) sh_117 cf12 (by decide) rfl lf_X12_208 rfl rfl rfl g10 ?_
  refine am_aload_n (am_dec tmX12_movesAll_0 19 rfl) rfl rfl ?_
  refine am_aload_n (am_dec tmX12_movesAll_0 20 rfl) rfl rfl ?_
  refine am_iload_n (am_dec tmX12_movesAll_0 21 rfl) rfl rfl ?_
  refine am_aload_n (am_dec tmX12_movesAll_0 22 rfl) rfl rfl ?_
  refine am_getI (j := 14) hE (am_dec tmX12_movesAll_0 23 rfl) sh_117 cf12 (by decide) rfl lf_X12_25 ?_
  refine am_iload_n (am_dec tmX12_movesAll_0 24 rfl) rfl rfl ?_
  obtain ⟨x12, g11, hf⟩ := am_bd hf
  refine am_callV1 (As := [.int p1, .int (D9.1 117 14), .int p2]) (st := [.ref 117]) hE (am_dec tmX12_movesAll_0 25 rfl) ok_X12_moves rfl lm_X12_418 in_X12_moves se_X12_moves sh_117 cf12 (c_X12_moves hE g11) rfl (by decide) (Nat.le_of_ble_eq_true rfl) (Nat.zero_le _) (Nat.zero_le _) rfl ?_
  obtain ⟨D13, g14, hf⟩ := am_bd hf
  refine am_putI2 (j := 14) hE (am_dec tmX12_movesAll_0 26 rfl) sh_117 cf12 (by decide) rfl lf_X12_25 rfl rfl rfl g14 ?_
  refine am_aload_n (am_dec tmX12_movesAll_0 27 rfl) rfl rfl ?_
  refine am_aload_n (am_dec tmX12_movesAll_0 28 rfl) rfl rfl ?_
  refine am_iload_n (am_dec tmX12_movesAll_0 29 rfl) rfl rfl ?_
  refine am_aload_n (am_dec tmX12_movesAll_0 30 rfl) rfl rfl ?_
  refine am_getI (j := 15) hE (am_dec tmX12_movesAll_0 31 rfl) sh_117 cf12 (by decide) rfl lf_X12_28 ?_
  refine am_iload_n (am_dec tmX12_movesAll_0 32 rfl) rfl rfl ?_
  obtain ⟨x16, g15, hf⟩ := am_bd hf
  refine am_callV1 (As := [.int p1, .int (D13.1 117 15), .int p2]) (st := [.ref 117]) hE (am_dec tmX12_movesAll_0 33 rfl) ok_X12_moves rfl lm_X12_418 in_X12_moves se_X12_moves sh_117 cf12 (c_X12_moves hE g15) rfl (by decide) (Nat.le_of_ble_eq_true rfl) (Nat.zero_le _) (Nat.zero_le _) rfl ?_
  obtain ⟨D17, g18, hf⟩ := am_bd hf
  refine am_putI2 (j := 15) hE (am_dec tmX12_movesAll_0 34 rfl) sh_117 cf12 (by decide) rfl lf_X12_28 rfl rfl rfl g18 ?_
  refine am_aload_n (am_dec tmX12_movesAll_0 35 rfl) rfl rfl ?_
  refine am_aload_n (am_dec tmX12_movesAll_0 36 rfl) rfl rfl ?_
  refine am_iload_n (am_dec tmX12_movesAll_0 37 rfl) rfl rfl ?_
  refine am_aload_n (am_dec tmX12_movesAll_0 38 rfl) rfl rfl ?_
  refine am_getI (j := 16) hE (am_dec tmX12_movesAll_0 39 rfl) sh_117 cf12 (by decide) rfl lf_X12_31 ?_
  refine am_iload_n (am_dec tmX12_movesAll_0 40 rfl) rfl rfl ?_
  obtain ⟨x20, g19, hf⟩ := am_bd hf
  refine am_callV1 (As := [.int p1, .int (D17.1 117 16), .int p2]) (st := [.ref 117]) hE (am_dec tmX12_movesAll_0 41 rfl) ok_X12_moves rfl lm_X12_418 in_X12_moves se_X12_moves sh_117 cf12 (c_X12_moves hE g19) rfl (by decide) (Nat.le_of_ble_eq_true rfl) (Nat.zero_le _) (Nat.zero_le _) rfl ?_
  obtain ⟨D21, g22, hf⟩ := am_bd hf
  refine am_putI2 (j := 16) hE (am_dec tmX12_movesAll_0 42 rfl) sh_117 cf12 (by decide) rfl lf_X12_31 rfl rfl rfl g22 ?_
  refine am_aload_n (am_dec tmX12_movesAll_0 43 rfl) rfl rfl ?_
  refine am_aload_n (am_dec tmX12_movesAll_0 44 rfl) rfl rfl ?_
  refine am_iload_n (am_dec tmX12_movesAll_0 45 rfl) rfl rfl ?_
  refine am_aload_n (am_dec tmX12_movesAll_0 46 rfl) rfl rfl ?_
  refine am_getI (j := 17) hE (am_dec tmX12_movesAll_0 47 rfl) sh_117 cf12 (by decide) rfl lf_X12_34 ?_
  refine am_iload_n (am_dec tmX12_movesAll_0 48 rfl) rfl rfl ?_
  obtain ⟨x24, g23, hf⟩ := am_bd hf
  refine am_callV1 (As := [.int p1, .int (D21.1 117 17), .int p2]) (st := [.ref 117]) hE (am_dec tmX12_movesAll_0 49 rfl) ok_X12_moves rfl lm_X12_418 in_X12_moves se_X12_moves sh_117 cf12 (c_X12_moves hE g23) rfl (by decide) (Nat.le_of_ble_eq_true rfl) (Nat.zero_le _) (Nat.zero_le _) rfl ?_
  obtain ⟨D25, g26, hf⟩ := am_bd hf
  refine am_putI2 (j := 17) hE (am_dec tmX12_movesAll_0 50 rfl) sh_117 cf12 (by decide) rfl lf_X12_34 rfl rfl rfl g26 ?_
  refine am_aload_n (am_dec tmX12_movesAll_0 51 rfl) rfl rfl ?_
  refine am_aload_n (am_dec tmX12_movesAll_0 52 rfl) rfl rfl ?_
  refine am_iload_n (am_dec tmX12_movesAll_0 53 rfl) rfl rfl ?_
  refine am_aload_n (am_dec tmX12_movesAll_0 54 rfl) rfl rfl ?_
  refine am_getI (j := 18) hE (am_dec tmX12_movesAll_0 55 rfl) sh_117 cf12 (by decide) rfl lf_X12_37 ?_
  refine am_iload_n (am_dec tmX12_movesAll_0 56 rfl) rfl rfl ?_
  obtain ⟨x28, g27, hf⟩ := am_bd hf
  refine am_callV1 (As := [.int p1, .int (D25.1 117 18), .int p2]) (st := [.ref 117]) hE (am_dec tmX12_movesAll_0 57 rfl) ok_X12_moves rfl lm_X12_418 in_X12_moves se_X12_moves sh_117 cf12 (c_X12_moves hE g27) rfl (by decide) (Nat.le_of_ble_eq_true rfl) (Nat.zero_le _) (Nat.zero_le _) rfl ?_
  obtain ⟨D29, g30, hf⟩ := am_bd hf
  refine am_putI2 (j := 18) hE (am_dec tmX12_movesAll_0 58 rfl) sh_117 cf12 (by decide) rfl lf_X12_37 rfl rfl rfl g30 ?_
  refine am_aload_n (am_dec tmX12_movesAll_0 59 rfl) rfl rfl ?_
  refine am_aload_n (am_dec tmX12_movesAll_1 0 rfl) rfl rfl ?_
  refine am_iload_n (am_dec tmX12_movesAll_1 1 rfl) rfl rfl ?_
  refine am_aload_n (am_dec tmX12_movesAll_1 2 rfl) rfl rfl ?_
  refine am_getI (j := 19) hE (am_dec tmX12_movesAll_1 3 rfl) sh_117 cf12 (by decide) rfl lf_X12_40 ?_
  refine am_iload_n (am_dec tmX12_movesAll_1 4 rfl) rfl rfl ?_
  obtain ⟨x32, g31, hf⟩ := am_bd hf
  refine am_callV1 (As := [.int p1, .int (D29.1 117 19), .int p2]) (st := [.ref 117]) hE (am_dec tmX12_movesAll_1 5 rfl) ok_X12_moves rfl lm_X12_418 in_X12_moves se_X12_moves sh_117 cf12 (c_X12_moves hE g31) rfl (by decide) (Nat.le_of_ble_eq_true rfl) (Nat.zero_le _) (Nat.zero_le _) rfl ?_
  obtain ⟨D33, g34, hf⟩ := am_bd hf
  refine am_putI2 (j := 19) hE (am_dec tmX12_movesAll_1 6 rfl) sh_117 cf12 (by decide) rfl lf_X12_40 rfl rfl rfl g34 ?_
  refine am_aload_n (am_dec tmX12_movesAll_1 7 rfl) rfl rfl ?_
  refine am_aload_n (am_dec tmX12_movesAll_1 8 rfl) rfl rfl ?_
  refine am_iload_n (am_dec tmX12_movesAll_1 9 rfl) rfl rfl ?_
  refine am_aload_n (am_dec tmX12_movesAll_1 10 rfl) rfl rfl ?_
  refine am_getI (j := 20) hE (am_dec tmX12_movesAll_1 11 rfl) sh_117 cf12 (by decide) rfl lf_X12_330 ?_
  refine am_iload_n (am_dec tmX12_movesAll_1 12 rfl) rfl rfl ?_
  obtain ⟨x36, g35, hf⟩ := am_bd hf
  refine am_callV1 (As := [.int p1, .int (D33.1 117 20), .int p2]) (st := [.ref 117]) hE (am_dec tmX12_movesAll_1 13 rfl) ok_X12_moves rfl lm_X12_418 in_X12_moves se_X12_moves sh_117 cf12 (c_X12_moves hE g35) rfl (by decide) (Nat.le_of_ble_eq_true rfl) (Nat.zero_le _) (Nat.zero_le _) rfl ?_
  obtain ⟨D37, g38, hf⟩ := am_bd hf
  refine am_putI2 (j := 20) hE (am_dec tmX12_movesAll_1 14 rfl) sh_117 cf12 (by decide) rfl lf_X12_330 rfl rfl rfl g38 ?_
  refine am_aload_n (am_dec tmX12_movesAll_1 15 rfl) rfl rfl ?_
  refine am_aload_n (am_dec tmX12_movesAll_1 16 rfl) rfl rfl ?_
  refine am_iload_n (am_dec tmX12_movesAll_1 17 rfl) rfl rfl ?_
  refine am_aload_n (am_dec tmX12_movesAll_1 18 rfl) rfl rfl ?_
  refine am_getI (j := 21) hE (am_dec tmX12_movesAll_1 19 rfl) sh_117 cf12 (by decide) rfl lf_X12_342 ?_
  refine am_iload_n (am_dec tmX12_movesAll_1 20 rfl) rfl rfl ?_
  obtain ⟨x40, g39, hf⟩ := am_bd hf
  refine am_callV1 (As := [.int p1, .int (D37.1 117 21), .int p2]) (st := [.ref 117]) hE (am_dec tmX12_movesAll_1 21 rfl) ok_X12_moves rfl lm_X12_418 in_X12_moves se_X12_moves sh_117 cf12 (c_X12_moves hE g39) rfl (by decide) (Nat.le_of_ble_eq_true rfl) (Nat.zero_le _) (Nat.zero_le _) rfl ?_
  obtain ⟨D41, g42, hf⟩ := am_bd hf
  refine am_putI2 (j := 21) hE (am_dec tmX12_movesAll_1 22 rfl) sh_117 cf12 (by decide) rfl lf_X12_342 rfl rfl rfl g42 ?_
  refine am_aload_n (am_dec tmX12_movesAll_1 23 rfl) rfl rfl ?_
  refine am_aload_n (am_dec tmX12_movesAll_1 24 rfl) rfl rfl ?_
  refine am_iload_n (am_dec tmX12_movesAll_1 25 rfl) rfl rfl ?_
  refine am_aload_n (am_dec tmX12_movesAll_1 26 rfl) rfl rfl ?_
  refine am_getI (j := 22) hE (am_dec tmX12_movesAll_1 27 rfl) sh_117 cf12 (by decide) rfl lf_X12_371 ?_
  refine am_iload_n (am_dec tmX12_movesAll_1 28 rfl) rfl rfl ?_
  obtain ⟨x44, g43, hf⟩ := am_bd hf
  refine am_callV1 (As := [.int p1, .int (D41.1 117 22), .int p2]) (st := [.ref 117]) hE (am_dec tmX12_movesAll_1 29 rfl) ok_X12_moves rfl lm_X12_418 in_X12_moves se_X12_moves sh_117 cf12 (c_X12_moves hE g43) rfl (by decide) (Nat.le_of_ble_eq_true rfl) (Nat.zero_le _) (Nat.zero_le _) rfl ?_
  obtain ⟨D45, g46, hf⟩ := am_bd hf
  refine am_putI2 (j := 22) hE (am_dec tmX12_movesAll_1 30 rfl) sh_117 cf12 (by decide) rfl lf_X12_371 rfl rfl rfl g46 ?_
  refine am_aload_n (am_dec tmX12_movesAll_1 31 rfl) rfl rfl ?_
  refine am_iload_n (am_dec tmX12_movesAll_1 32 rfl) rfl rfl ?_
  refine am_aload_n (am_dec tmX12_movesAll_1 33 rfl) rfl rfl ?_
  refine am_getR (j := 25) hE (am_dec tmX12_movesAll_1 34 rfl) sh_117 cf12 (by decide) rfl lf_X12_46 rf_117_25 ?_
  refine am_iload_n (am_dec tmX12_movesAll_1 35 rfl) rfl rfl ?_
  obtain ⟨x48, g47, hf⟩ := am_bd hf
  refine am_callV0 (As := [.int p1, .ref 139, .int p2]) (st := []) hE (am_dec tmX12_movesAll_1 36 rfl) ok_X12_movesRow rfl lm_X12_422 in_X12_movesRow se_X12_movesRow sh_117 cf12 (c_X12_movesRow hE (am_shl sh_139) g47) rfl (by decide) (Nat.le_of_ble_eq_true rfl) (Nat.zero_le _) (Nat.zero_le _) rfl ?_
  refine am_aload_n (am_dec tmX12_movesAll_1 37 rfl) rfl rfl ?_
  refine am_iload_n (am_dec tmX12_movesAll_1 38 rfl) rfl rfl ?_
  refine am_aload_n (am_dec tmX12_movesAll_1 39 rfl) rfl rfl ?_
  refine am_getR (j := 27) hE (am_dec tmX12_movesAll_1 40 rfl) sh_117 cf12 (by decide) rfl lf_X12_52 rf_117_27 ?_
  refine am_iload_n (am_dec tmX12_movesAll_1 41 rfl) rfl rfl ?_
  obtain ⟨x50, g49, hf⟩ := am_bd hf
  refine am_callV0 (As := [.int p1, .ref 201, .int p2]) (st := []) hE (am_dec tmX12_movesAll_1 42 rfl) ok_X12_movesRow rfl lm_X12_422 in_X12_movesRow se_X12_movesRow sh_117 cf12 (c_X12_movesRow hE (am_shl sh_201) g49) rfl (by decide) (Nat.le_of_ble_eq_true rfl) (Nat.zero_le _) (Nat.zero_le _) rfl ?_
  refine am_aload_n (am_dec tmX12_movesAll_1 43 rfl) rfl rfl ?_
  refine am_iload_n (am_dec tmX12_movesAll_1 44 rfl) rfl rfl ?_
  refine am_aload_n (am_dec tmX12_movesAll_1 45 rfl) rfl rfl ?_
  refine am_getR (j := 28) hE (am_dec tmX12_movesAll_1 46 rfl) sh_117 cf12 (by decide) rfl lf_X12_55 rf_117_28 ?_
  refine am_iload_n (am_dec tmX12_movesAll_1 47 rfl) rfl rfl ?_
  obtain ⟨x52, g51, hf⟩ := am_bd hf
  refine am_callV0 (As := [.int p1, .ref 202, .int p2]) (st := []) hE (am_dec tmX12_movesAll_1 48 rfl) ok_X12_movesRow rfl lm_X12_422 in_X12_movesRow se_X12_movesRow sh_117 cf12 (c_X12_movesRow hE (am_shl sh_202) g51) rfl (by decide) (Nat.le_of_ble_eq_true rfl) (Nat.zero_le _) (Nat.zero_le _) rfl ?_
  refine am_aload_n (am_dec tmX12_movesAll_1 49 rfl) rfl rfl ?_
  refine am_iload_n (am_dec tmX12_movesAll_1 50 rfl) rfl rfl ?_
  refine am_aload_n (am_dec tmX12_movesAll_1 51 rfl) rfl rfl ?_
  refine am_getR (j := 29) hE (am_dec tmX12_movesAll_1 52 rfl) sh_117 cf12 (by decide) rfl lf_X12_58 rf_117_29 ?_
  refine am_iload_n (am_dec tmX12_movesAll_1 53 rfl) rfl rfl ?_
  obtain ⟨x54, g53, hf⟩ := am_bd hf
  refine am_callV0 (As := [.int p1, .ref 203, .int p2]) (st := []) hE (am_dec tmX12_movesAll_1 54 rfl) ok_X12_movesRow rfl lm_X12_422 in_X12_movesRow se_X12_movesRow sh_117 cf12 (c_X12_movesRow hE (am_shl sh_203) g53) rfl (by decide) (Nat.le_of_ble_eq_true rfl) (Nat.zero_le _) (Nat.zero_le _) rfl ?_
  refine am_iconst (v := (0 : Int32)) (am_dec tmX12_movesAll_1 55 rfl) (by decide) ?_
  refine am_istore_n (lv' := [(0, .ref 117), (1, .int p1), (2, .int p2), (3, .int (0 : Int32))]) (am_dec tmX12_movesAll_1 56 rfl) rfl (by decide) rfl ?_
  obtain ⟨e60, g82, hf⟩ := am_bd hf
  refine am_pick [0, 1, 2, 3] rfl (l_X12_movesAll_L201 hE (Nat.le_refl _) am_fu _ _ _ g82 (fun ex he => ?_))
  subst he
  refine am_iconst (v := (0 : Int32)) (am_dec tmX12_movesAll_2 10 rfl) (by decide) ?_
  refine am_istore_n (lv' := [(0, .ref 117), (1, .int p1), (2, .int p2), (3, .int (0 : Int32))]) (am_dec tmX12_movesAll_2 11 rfl) rfl (by decide) rfl ?_
  obtain ⟨e66, g81, hf⟩ := am_bd hf
  refine am_pick [0, 1, 2, 3] rfl (l_X12_movesAll_L226 hE (Nat.le_refl _) am_fu _ _ _ g81 (fun ex he => ?_))
  subst he
  refine am_iconst (v := (0 : Int32)) (am_dec tmX12_movesAll_2 25 rfl) (by decide) ?_
  refine am_istore_n (lv' := [(0, .ref 117), (1, .int p1), (2, .int p2), (3, .int (0 : Int32))]) (am_dec tmX12_movesAll_2 26 rfl) rfl (by decide) rfl ?_
  obtain ⟨e72, g80, hf⟩ := am_bd hf
  refine am_pick [0, 1, 2, 3] rfl (l_X12_movesAll_L252 hE (Nat.le_refl _) am_fu _ _ _ g80 (fun ex he => ?_))
  subst he
  refine am_iconst (v := (0 : Int32)) (am_dec tmX12_movesAll_2 40 rfl) (by decide) ?_
  refine am_istore_n (lv' := [(0, .ref 117), (1, .int p1), (2, .int p2), (3, .int (0 : Int32))]) (am_dec tmX12_movesAll_2 41 rfl) rfl (by decide) rfl ?_
  obtain ⟨e78, g79, hf⟩ := am_bd hf
  refine am_pick [0, 1, 2, 3] rfl (l_X12_movesAll_L277 hE (Nat.le_refl _) am_fu _ _ _ g79 (fun ex he => ?_))
  subst he
  have hf := Option.some.inj hf
  subst hf
  exact am_vret (am_dec tmX12_movesAll_2 55 rfl) rfl (Nat.zero_le _) (Nat.zero_le _)
def f_X12_image (D : am_D) : Option ((Int32 × am_D)) :=
    (some (am_wI D 117 0 (0 : Int32))).bind fun D1 =>
    if (D1.1 117 23) = (3 : Int32) then
    some ((-1 : Int32), D1)
    else
    (f_X12_movesAll (D1.1 117 23) (0 : Int32) D1).bind fun x5 =>
    (some (am_wI x5 117 23 ((x5.1 117 23) + (1 : Int32)))).bind fun D6 =>
    some ((D6.1 117 23), D6)
set_option maxRecDepth 100000 in
set_option maxHeartbeats 4000000 in
theorem c_X12_image {E : am_E} (hE : am_EH E) {D : am_D} {r : (Int32 × am_D)}  (hf : f_X12_image D = some r) : am_C E mX12_image 4 0 0 [.ref 117] am_G0 D (.inl (some (.int r.1))) am_G0 r.2 := by
  refine am_C_of (by decide +kernel) (Nat.le_of_ble_eq_true rfl) ?_
  change am_S E mX12_image 4 0 0 (.inl (some (.int r.1))) am_G0 r.2 0 0 0 [(0, .ref 117)] [] am_G0 D
  unfold f_X12_image at hf
  refine am_aload_n (am_dec tmX12_image 0 rfl) rfl rfl ?_
  refine am_iconst (v := (0 : Int32)) (am_dec tmX12_image 1 rfl) (by decide) ?_
  obtain ⟨D1, g2, hf⟩ := am_bd hf
  refine am_putI2 (j := 0) hE (am_dec tmX12_image 2 rfl) sh_117 cf12 (by decide) rfl lf_X12_110 rfl rfl rfl g2 ?_
  refine am_aload_n (am_dec tmX12_image 3 rfl) rfl rfl ?_
  refine am_getI (j := 23) hE (am_dec tmX12_image 4 rfl) sh_117 cf12 (by decide) rfl lf_X12_426 ?_
  refine am_iconst (v := (3 : Int32)) (am_dec tmX12_image 5 rfl) (by decide) ?_
  refine am_icmp_ne (tgt := 15) (am_dec tmX12_image 6 rfl) (by decide) (fun c3 => ?_) (fun c3 => ?_)
  · rw [if_neg c3] at hf
    refine am_aload_n (am_dec tmX12_image 9 rfl) rfl rfl ?_
    refine am_aload_n (am_dec tmX12_image 10 rfl) rfl rfl ?_
    refine am_getI (j := 23) hE (am_dec tmX12_image 11 rfl) sh_117 cf12 (by decide) rfl lf_X12_426 ?_
    refine am_iconst (v := (0 : Int32)) (am_dec tmX12_image 12 rfl) (by decide) ?_
    obtain ⟨x5, g4, hf⟩ := am_bd hf
    refine am_callV0 (As := [.int (D1.1 117 23), .int (0 : Int32)]) (st := []) hE (am_dec tmX12_image 13 rfl) ok_X12_movesAll rfl lm_X12_429 in_X12_movesAll se_X12_movesAll sh_117 cf12 (c_X12_movesAll hE g4) rfl (by decide) (Nat.le_of_ble_eq_true rfl) (Nat.zero_le _) (Nat.zero_le _) rfl ?_
    refine am_aload_n (am_dec tmX12_image 14 rfl) rfl rfl ?_
    refine am_dup (am_dec tmX12_image 15 rfl) rfl ?_
    refine am_getI (j := 23) hE (am_dec tmX12_image 16 rfl) sh_117 cf12 (by decide) rfl lf_X12_426 ?_
    refine am_iconst (v := (1 : Int32)) (am_dec tmX12_image 17 rfl) (by decide) ?_
    refine am_iadd (am_dec tmX12_image 18 rfl) ?_
    obtain ⟨D6, g7, hf⟩ := am_bd hf
    refine am_putI2 (j := 23) hE (am_dec tmX12_image 19 rfl) sh_117 cf12 (by decide) rfl lf_X12_426 rfl rfl rfl g7 ?_
    refine am_aload_n (am_dec tmX12_image 20 rfl) rfl rfl ?_
    refine am_getI (j := 23) hE (am_dec tmX12_image 21 rfl) sh_117 cf12 (by decide) rfl lf_X12_426 ?_
    have hf := Option.some.inj hf
    subst hf
    exact am_iret (am_dec tmX12_image 22 rfl) rfl (Nat.zero_le _) (Nat.zero_le _)
  · rw [if_pos c3] at hf
    refine am_iconst (v := (-1 : Int32)) (am_dec tmX12_image 7 rfl) (by decide) ?_
    have hf := Option.some.inj hf
    subst hf
    exact am_iret (am_dec tmX12_image 8 rfl) rfl (Nat.zero_le _) (Nat.zero_le _)
def f_X12_restore (D : am_D) : Option ((Int32 × am_D)) :=
    (some (am_wI D 117 0 (0 : Int32))).bind fun D1 =>
    if (D1.1 117 23) = 0 then
    some ((-1 : Int32), D1)
    else
    (some (am_wI D1 117 23 ((D1.1 117 23) - (1 : Int32)))).bind fun D4 =>
    (f_X12_movesAll (D4.1 117 23) (1 : Int32) D4).bind fun x7 =>
    (some (am_wI x7 117 38 (0 : Int32))).bind fun D8 =>
    (some (am_wI D8 117 39 (0 : Int32))).bind fun D10 =>
    (some (am_wI D10 117 40 (0 : Int32))).bind fun D12 =>
    some ((D12.1 117 23), D12)
set_option maxRecDepth 100000 in
set_option maxHeartbeats 4000000 in
theorem c_X12_restore {E : am_E} (hE : am_EH E) {D : am_D} {r : (Int32 × am_D)}  (hf : f_X12_restore D = some r) : am_C E mX12_restore 4 0 0 [.ref 117] am_G0 D (.inl (some (.int r.1))) am_G0 r.2 := by
  refine am_C_of (by decide +kernel) (Nat.le_of_ble_eq_true rfl) ?_
  change am_S E mX12_restore 4 0 0 (.inl (some (.int r.1))) am_G0 r.2 0 0 0 [(0, .ref 117)] [] am_G0 D
  unfold f_X12_restore at hf
  refine am_aload_n (am_dec tmX12_restore 0 rfl) rfl rfl ?_
  refine am_iconst (v := (0 : Int32)) (am_dec tmX12_restore 1 rfl) (by decide) ?_
  obtain ⟨D1, g2, hf⟩ := am_bd hf
  refine am_putI2 (j := 0) hE (am_dec tmX12_restore 2 rfl) sh_117 cf12 (by decide) rfl lf_X12_110 rfl rfl rfl g2 ?_
  refine am_aload_n (am_dec tmX12_restore 3 rfl) rfl rfl ?_
  refine am_getI (j := 23) hE (am_dec tmX12_restore 4 rfl) sh_117 cf12 (by decide) rfl lf_X12_426 ?_
  refine am_if_ne (tgt := 14) (am_dec tmX12_restore 5 rfl) (by decide) (fun c3 => ?_) (fun c3 => ?_)
  · rw [if_neg c3] at hf
    refine am_aload_n (am_dec tmX12_restore 8 rfl) rfl rfl ?_
    refine am_dup (am_dec tmX12_restore 9 rfl) rfl ?_
    refine am_getI (j := 23) hE (am_dec tmX12_restore 10 rfl) sh_117 cf12 (by decide) rfl lf_X12_426 ?_
    refine am_iconst (v := (1 : Int32)) (am_dec tmX12_restore 11 rfl) (by decide) ?_
    refine am_isub (am_dec tmX12_restore 12 rfl) ?_
    obtain ⟨D4, g5, hf⟩ := am_bd hf
    refine am_putI2 (j := 23) hE (am_dec tmX12_restore 13 rfl) sh_117 cf12 (by decide) rfl lf_X12_426 rfl rfl rfl g5 ?_
    refine am_aload_n (am_dec tmX12_restore 14 rfl) rfl rfl ?_
    refine am_aload_n (am_dec tmX12_restore 15 rfl) rfl rfl ?_
    refine am_getI (j := 23) hE (am_dec tmX12_restore 16 rfl) sh_117 cf12 (by decide) rfl lf_X12_426 ?_
    refine am_iconst (v := (1 : Int32)) (am_dec tmX12_restore 17 rfl) (by decide) ?_
    obtain ⟨x7, g6, hf⟩ := am_bd hf
    refine am_callV0 (As := [.int (D4.1 117 23), .int (1 : Int32)]) (st := []) hE (am_dec tmX12_restore 18 rfl) ok_X12_movesAll rfl lm_X12_429 in_X12_movesAll se_X12_movesAll sh_117 cf12 (c_X12_movesAll hE g6) rfl (by decide) (Nat.le_of_ble_eq_true rfl) (Nat.zero_le _) (Nat.zero_le _) rfl ?_
    refine am_aload_n (am_dec tmX12_restore 19 rfl) rfl rfl ?_
    refine am_iconst (v := (0 : Int32)) (am_dec tmX12_restore 20 rfl) (by decide) ?_
    obtain ⟨D8, g9, hf⟩ := am_bd hf
    refine am_putI2 (j := 38) hE (am_dec tmX12_restore 21 rfl) sh_117 cf12 (by decide) rfl lf_X12_262 rfl rfl rfl g9 ?_
    refine am_aload_n (am_dec tmX12_restore 22 rfl) rfl rfl ?_
    refine am_iconst (v := (0 : Int32)) (am_dec tmX12_restore 23 rfl) (by decide) ?_
    obtain ⟨D10, g11, hf⟩ := am_bd hf
    refine am_putI2 (j := 39) hE (am_dec tmX12_restore 24 rfl) sh_117 cf12 (by decide) rfl lf_X12_250 rfl rfl rfl g11 ?_
    refine am_aload_n (am_dec tmX12_restore 25 rfl) rfl rfl ?_
    refine am_iconst (v := (0 : Int32)) (am_dec tmX12_restore 26 rfl) (by decide) ?_
    obtain ⟨D12, g13, hf⟩ := am_bd hf
    refine am_putI2 (j := 40) hE (am_dec tmX12_restore 27 rfl) sh_117 cf12 (by decide) rfl lf_X12_271 rfl rfl rfl g13 ?_
    refine am_aload_n (am_dec tmX12_restore 28 rfl) rfl rfl ?_
    refine am_getI (j := 23) hE (am_dec tmX12_restore 29 rfl) sh_117 cf12 (by decide) rfl lf_X12_426 ?_
    have hf := Option.some.inj hf
    subst hf
    exact am_iret (am_dec tmX12_restore 30 rfl) rfl (Nat.zero_le _) (Nat.zero_le _)
  · rw [if_pos c3] at hf
    refine am_iconst (v := (-1 : Int32)) (am_dec tmX12_restore 6 rfl) (by decide) ?_
    have hf := Option.some.inj hf
    subst hf
    exact am_iret (am_dec tmX12_restore 7 rfl) rfl (Nat.zero_le _) (Nat.zero_le _)
def f_X12_count (p1 : Int32) (D : am_D) : Option ((Int32 × am_D)) :=
    (some (am_wI D 117 0 (0 : Int32))).bind fun D1 =>
    if p1.toInt < 0 ∨ 7 < p1.toInt then
    some ((-1 : Int32), D1)
    else if p1 = (0 : Int32) then
    some ((D1.1 117 12), D1)
    else if p1 = (1 : Int32) then
    some ((D1.1 117 13), D1)
    else if p1 = (2 : Int32) then
    some ((D1.1 117 39), D1)
    else if p1 = (3 : Int32) then
    some ((D1.1 117 20), D1)
    else if p1 = (4 : Int32) then
    some ((D1.1 117 21), D1)
    else if p1 = (5 : Int32) then
    some ((D1.1 117 22), D1)
    else if p1 = (6 : Int32) then
    some ((D1.1 117 23), D1)
    else if p1 = (7 : Int32) then
    some ((D1.1 117 1), D1)
    else none
set_option maxRecDepth 100000 in
set_option maxHeartbeats 4000000 in
theorem c_X12_count {E : am_E} (hE : am_EH E) {p1 : Int32} {D : am_D} {r : (Int32 × am_D)}  (hf : f_X12_count p1 D = some r) : am_C E mX12_count 1 0 0 [.ref 117, .int p1] am_G0 D (.inl (some (.int r.1))) am_G0 r.2 := by
  refine am_C_of (by decide +kernel) (Nat.le_of_ble_eq_true rfl) ?_
  change am_S E mX12_count 1 0 0 (.inl (some (.int r.1))) am_G0 r.2 0 0 0 [(0, .ref 117), (1, .int p1)] [] am_G0 D
  unfold f_X12_count at hf
  refine am_aload_n (am_dec tmX12_count 0 rfl) rfl rfl ?_
  refine am_iconst (v := (0 : Int32)) (am_dec tmX12_count 1 rfl) (by decide) ?_
  obtain ⟨D1, g2, hf⟩ := am_bd hf
  refine am_putI2 (j := 0) hE (am_dec tmX12_count 2 rfl) sh_117 cf12 (by decide) rfl lf_X12_110 rfl rfl rfl g2 ?_
  refine am_iload_n (am_dec tmX12_count 3 rfl) rfl rfl ?_
  by_cases hsw : p1.toInt < 0 ∨ 7 < p1.toInt
  · rw [if_pos hsw] at hf
    refine am_tableOut (tgt := 92) (am_dec tmX12_count 4 rfl) hsw (by decide) ?_
    refine am_iconst (v := (-1 : Int32)) (am_dec tmX12_count 29 rfl) (by decide) ?_
    have hf := Option.some.inj hf
    subst hf
    exact am_iret (am_dec tmX12_count 30 rfl) rfl (Nat.zero_le _) (Nat.zero_le _)
  · rw [if_neg hsw] at hf
    by_cases hs0 : p1 = (0 : Int32)
    · rw [if_pos hs0] at hf
      refine am_tableIn (off := 46) (tgt := 52) (am_dec tmX12_count 4 rfl) (fun q9 => hsw (Or.inl q9)) (fun q9 => hsw (Or.inr q9)) (by rw [hs0]; rfl) (by decide) ?_
      refine am_aload_n (am_dec tmX12_count 5 rfl) rfl rfl ?_
      refine am_getI (j := 12) hE (am_dec tmX12_count 6 rfl) sh_117 cf12 (by decide) rfl lf_X12_195 ?_
      have hf := Option.some.inj hf
      subst hf
      exact am_iret (am_dec tmX12_count 7 rfl) rfl (Nat.zero_le _) (Nat.zero_le _)
    rw [if_neg hs0] at hf
    by_cases hs1 : p1 = (1 : Int32)
    · rw [if_pos hs1] at hf
      refine am_tableIn (off := 51) (tgt := 57) (am_dec tmX12_count 4 rfl) (fun q9 => hsw (Or.inl q9)) (fun q9 => hsw (Or.inr q9)) (by rw [hs1]; rfl) (by decide) ?_
      refine am_aload_n (am_dec tmX12_count 8 rfl) rfl rfl ?_
      refine am_getI (j := 13) hE (am_dec tmX12_count 9 rfl) sh_117 cf12 (by decide) rfl lf_X12_208 ?_
      have hf := Option.some.inj hf
      subst hf
      exact am_iret (am_dec tmX12_count 10 rfl) rfl (Nat.zero_le _) (Nat.zero_le _)
    rw [if_neg hs1] at hf
    by_cases hs2 : p1 = (2 : Int32)
    · rw [if_pos hs2] at hf
      refine am_tableIn (off := 56) (tgt := 62) (am_dec tmX12_count 4 rfl) (fun q9 => hsw (Or.inl q9)) (fun q9 => hsw (Or.inr q9)) (by rw [hs2]; rfl) (by decide) ?_
      refine am_aload_n (am_dec tmX12_count 11 rfl) rfl rfl ?_
      refine am_getI (j := 39) hE (am_dec tmX12_count 12 rfl) sh_117 cf12 (by decide) rfl lf_X12_250 ?_
      have hf := Option.some.inj hf
      subst hf
      exact am_iret (am_dec tmX12_count 13 rfl) rfl (Nat.zero_le _) (Nat.zero_le _)
    rw [if_neg hs2] at hf
    by_cases hs3 : p1 = (3 : Int32)
    · rw [if_pos hs3] at hf
      refine am_tableIn (off := 61) (tgt := 67) (am_dec tmX12_count 4 rfl) (fun q9 => hsw (Or.inl q9)) (fun q9 => hsw (Or.inr q9)) (by rw [hs3]; rfl) (by decide) ?_
      refine am_aload_n (am_dec tmX12_count 14 rfl) rfl rfl ?_
      refine am_getI (j := 20) hE (am_dec tmX12_count 15 rfl) sh_117 cf12 (by decide) rfl lf_X12_330 ?_
      have hf := Option.some.inj hf
      subst hf
      exact am_iret (am_dec tmX12_count 16 rfl) rfl (Nat.zero_le _) (Nat.zero_le _)
    rw [if_neg hs3] at hf
    by_cases hs4 : p1 = (4 : Int32)
    · rw [if_pos hs4] at hf
      refine am_tableIn (off := 66) (tgt := 72) (am_dec tmX12_count 4 rfl) (fun q9 => hsw (Or.inl q9)) (fun q9 => hsw (Or.inr q9)) (by rw [hs4]; rfl) (by decide) ?_
      refine am_aload_n (am_dec tmX12_count 17 rfl) rfl rfl ?_
      refine am_getI (j := 21) hE (am_dec tmX12_count 18 rfl) sh_117 cf12 (by decide) rfl lf_X12_342 ?_
      have hf := Option.some.inj hf
      subst hf
      exact am_iret (am_dec tmX12_count 19 rfl) rfl (Nat.zero_le _) (Nat.zero_le _)
    rw [if_neg hs4] at hf
    by_cases hs5 : p1 = (5 : Int32)
    · rw [if_pos hs5] at hf
      refine am_tableIn (off := 71) (tgt := 77) (am_dec tmX12_count 4 rfl) (fun q9 => hsw (Or.inl q9)) (fun q9 => hsw (Or.inr q9)) (by rw [hs5]; rfl) (by decide) ?_
      refine am_aload_n (am_dec tmX12_count 20 rfl) rfl rfl ?_
      refine am_getI (j := 22) hE (am_dec tmX12_count 21 rfl) sh_117 cf12 (by decide) rfl lf_X12_371 ?_
      have hf := Option.some.inj hf
      subst hf
      exact am_iret (am_dec tmX12_count 22 rfl) rfl (Nat.zero_le _) (Nat.zero_le _)
    rw [if_neg hs5] at hf
    by_cases hs6 : p1 = (6 : Int32)
    · rw [if_pos hs6] at hf
      refine am_tableIn (off := 76) (tgt := 82) (am_dec tmX12_count 4 rfl) (fun q9 => hsw (Or.inl q9)) (fun q9 => hsw (Or.inr q9)) (by rw [hs6]; rfl) (by decide) ?_
      refine am_aload_n (am_dec tmX12_count 23 rfl) rfl rfl ?_
      refine am_getI (j := 23) hE (am_dec tmX12_count 24 rfl) sh_117 cf12 (by decide) rfl lf_X12_426 ?_
      have hf := Option.some.inj hf
      subst hf
      exact am_iret (am_dec tmX12_count 25 rfl) rfl (Nat.zero_le _) (Nat.zero_le _)
    rw [if_neg hs6] at hf
    by_cases hs7 : p1 = (7 : Int32)
    · rw [if_pos hs7] at hf
      refine am_tableIn (off := 81) (tgt := 87) (am_dec tmX12_count 4 rfl) (fun q9 => hsw (Or.inl q9)) (fun q9 => hsw (Or.inr q9)) (by rw [hs7]; rfl) (by decide) ?_
      refine am_aload_n (am_dec tmX12_count 26 rfl) rfl rfl ?_
      refine am_getI (j := 1) hE (am_dec tmX12_count 27 rfl) sh_117 cf12 (by decide) rfl lf_X12_113 ?_
      have hf := Option.some.inj hf
      subst hf
      exact am_iret (am_dec tmX12_count 28 rfl) rfl (Nat.zero_le _) (Nat.zero_le _)
    rw [if_neg hs7] at hf
    cases hf
