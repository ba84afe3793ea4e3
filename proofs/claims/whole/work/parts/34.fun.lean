def f_X10_rankedPeak_L2 (q1 : Int32) (D : am_D) : Nat → Int32 → Option (Int32 ⊕ Unit)
  | 0, _ => none
  | n + 1, v2 =>
    if (60 : Int32) < v2 then
    some (.inr ())
    else
    (f_X10_isPeak v2 D).bind fun x3 =>
    if x3 = 0 then
    f_X10_rankedPeak_L2 q1 D n (v2 + (1 : Int32))
    else
    (f_X10_rankOf v2 D).bind fun x6 =>
    if x6 = q1 then
    some (.inl (v2))
    else
    f_X10_rankedPeak_L2 q1 D n (v2 + (1 : Int32))
def f_X10_rankedPeak (p1 : Int32) (D : am_D) : Option (Int32) :=
    am_b2 (f_X10_rankedPeak_L2 p1 D am_fu (4 : Int32))
    (fun e8 =>
    some e8)
    (fun e9 =>
    some (-1 : Int32))
set_option maxRecDepth 100000 in
set_option maxHeartbeats 4000000 in
theorem l_X10_rankedPeak_L2 {E : am_E} (hE : am_EH E) {d mc ms : Nat} {o : am_O} {G2 : am_G} {D2 : am_D} (hdp : 4 ≤ d) {q1 : Int32} {D : am_D}  : ∀ (n : Nat) (v2 : Int32) (ex0 : Int32 ⊕ Unit), f_X10_rankedPeak_L2 q1 D n v2 = some ex0 → (∀ ex : Int32, ex0 = .inl ex → am_S E mX10_rankedPeak d mc ms o G2 D2 0 0 25 [(2, .int ex)] [] am_G0 D) → (∀ ex : Unit, ex0 = .inr ex → am_S E mX10_rankedPeak d mc ms o G2 D2 0 0 33 [] [] am_G0 D) → am_S E mX10_rankedPeak d mc ms o G2 D2 0 0 2 [(0, .ref 114), (1, .int q1), (2, .int v2)] [] am_G0 D
  | 0, _, _, hf, _, _ => by
    unfold f_X10_rankedPeak_L2 at hf
    cases hf
  | n + 1, v2, ex0, hf, hk0, hk1 => by
    unfold f_X10_rankedPeak_L2 at hf
    refine am_iload_n (am_dec tmX10_rankedPeak 2 rfl) rfl rfl ?_
    refine am_bipush (v := (60 : Int32)) (am_dec tmX10_rankedPeak 3 rfl) (by decide) ?_
    refine am_icmp_gt (tgt := 33) (am_dec tmX10_rankedPeak 4 rfl) (by decide) (fun c1 => ?_) (fun c1 => ?_)
    · rw [if_pos c1] at hf
      have hf := Option.some.inj hf
      subst hf
      exact am_pick [] rfl (hk1 _ rfl)
    · rw [if_neg c1] at hf
      refine am_aload_n (am_dec tmX10_rankedPeak 5 rfl) rfl rfl ?_
      refine am_iload_n (am_dec tmX10_rankedPeak 6 rfl) rfl rfl ?_
      obtain ⟨x3, g2, hf⟩ := am_bd hf
      refine am_callV1 (As := [.int v2]) (st := []) hE (am_dec tmX10_rankedPeak 7 rfl) ok_X10_isPeak rfl lm_X10_53 in_X10_isPeak se_X10_isPeak sh_114 cf10 (c_X10_isPeak hE g2) rfl (Nat.lt_of_lt_of_le (by decide) hdp) (Nat.le_of_ble_eq_true rfl) (Nat.zero_le _) (Nat.zero_le _) rfl ?_
      refine am_if_eq (tgt := 27) (am_dec tmX10_rankedPeak 8 rfl) (by decide) (fun c4 => ?_) (fun c4 => ?_)
      · rw [if_pos c4] at hf
        refine am_iinc (v := (1 : Int32)) (lv' := [(0, .ref 114), (1, .int q1), (2, .int (v2 + (1 : Int32)))]) (am_dec tmX10_rankedPeak 16 rfl) rfl (by decide) (by decide) rfl ?_
        refine am_goto (tgt := 2) (am_dec tmX10_rankedPeak 17 rfl) (by decide) ?_
        exact am_pick [0, 1, 2] rfl (l_X10_rankedPeak_L2 hE hdp n (v2 + (1 : Int32)) ex0 hf hk0 hk1)
      · rw [if_neg c4] at hf
        refine am_aload_n (am_dec tmX10_rankedPeak 9 rfl) rfl rfl ?_
        refine am_iload_n (am_dec tmX10_rankedPeak 10 rfl) rfl rfl ?_
        obtain ⟨x6, g5, hf⟩ := am_bd hf
        refine am_callV1 (As := [.int v2]) (st := []) hE (am_dec tmX10_rankedPeak 11 rfl) ok_X10_rankOf rfl lm_X10_57 in_X10_rankOf se_X10_rankOf sh_114 cf10 (c_X10_rankOf hE g5) rfl (Nat.lt_of_lt_of_le (by decide) hdp) (Nat.le_of_ble_eq_true rfl) (Nat.zero_le _) (Nat.zero_le _) rfl ?_
        refine am_iload_n (am_dec tmX10_rankedPeak 12 rfl) rfl rfl ?_
        refine am_icmp_ne (tgt := 27) (am_dec tmX10_rankedPeak 13 rfl) (by decide) (fun c7 => ?_) (fun c7 => ?_)
        · rw [if_neg c7] at hf
          refine am_iinc (v := (1 : Int32)) (lv' := [(0, .ref 114), (1, .int q1), (2, .int (v2 + (1 : Int32)))]) (am_dec tmX10_rankedPeak 16 rfl) rfl (by decide) (by decide) rfl ?_
          refine am_goto (tgt := 2) (am_dec tmX10_rankedPeak 17 rfl) (by decide) ?_
          exact am_pick [0, 1, 2] rfl (l_X10_rankedPeak_L2 hE hdp n (v2 + (1 : Int32)) ex0 hf hk0 hk1)
        · rw [if_pos c7] at hf
          have hf := Option.some.inj hf
          subst hf
          exact am_pick [2] rfl (hk0 _ rfl)
set_option maxRecDepth 100000 in
set_option maxHeartbeats 4000000 in
theorem c_X10_rankedPeak {E : am_E} (hE : am_EH E) {p1 : Int32} {D : am_D} {r : Int32}  (hf : f_X10_rankedPeak p1 D = some r) : am_C E mX10_rankedPeak 4 0 0 [.ref 114, .int p1] am_G0 D (.inl (some (.int r))) am_G0 D := by
  refine am_C_of (by decide +kernel) (Nat.le_of_ble_eq_true rfl) ?_
  change am_S E mX10_rankedPeak 4 0 0 (.inl (some (.int r))) am_G0 D 0 0 0 [(0, .ref 114), (1, .int p1)] [] am_G0 D
  unfold f_X10_rankedPeak at hf
  refine am_iconst (v := (4 : Int32)) (am_dec tmX10_rankedPeak 0 rfl) (by decide) ?_
  refine am_istore_n (lv' := [(0, .ref 114), (1, .int p1), (2, .int (4 : Int32))]) (am_dec tmX10_rankedPeak 1 rfl) rfl (by decide) rfl ?_
  rcases am_b2d hf with ⟨e8, g10, hf⟩ | ⟨e9, g10, hf⟩
  · refine am_pick [0, 1, 2] rfl (l_X10_rankedPeak_L2 hE (Nat.le_refl _) am_fu _ _ g10 (fun ex he => ?_) (fun ex he => by cases he))
    cases he
    refine am_iload_n (am_dec tmX10_rankedPeak 14 rfl) rfl rfl ?_
    have hf := Option.some.inj hf
    subst hf
    exact am_iret (am_dec tmX10_rankedPeak 15 rfl) rfl (Nat.zero_le _) (Nat.zero_le _)
  · refine am_pick [0, 1, 2] rfl (l_X10_rankedPeak_L2 hE (Nat.le_refl _) am_fu _ _ g10 (fun ex he => by cases he) (fun ex he => ?_))
    cases he
    refine am_iconst (v := (-1 : Int32)) (am_dec tmX10_rankedPeak 18 rfl) (by decide) ?_
    have hf := Option.some.inj hf
    subst hf
    exact am_iret (am_dec tmX10_rankedPeak 19 rfl) rfl (Nat.zero_le _) (Nat.zero_le _)
def f_X10_nearestPeak_L4 (q1 : Int32) (D : am_D) : Nat → Int32 → Int32 → Option (Int32)
  | 0, _, _ => none
  | n + 1, v2, v3 =>
    if (60 : Int32) < v3 then
    some (v2)
    else
    (f_X10_isPeak v3 D).bind fun x3 =>
    (if x3 = 0 then
    some (v2)
    else
    if v2 = (-1 : Int32) then
    some (v3)
    else
    (f_X11_far v3 q1).bind fun x8 =>
    (f_X11_far v2 q1).bind fun x10 =>
    if x10 ≤ x8 then
    some (v2)
    else
    some (v3)).bind fun w12 =>
    f_X10_nearestPeak_L4 q1 D n w12 (v3 + (1 : Int32))
def f_X10_nearestPeak (p1 : Int32) (D : am_D) : Option (Int32) :=
    (f_X10_nearestPeak_L4 p1 D am_fu (-1 : Int32) (4 : Int32)).bind fun e14 =>
    some e14
set_option maxRecDepth 100000 in
set_option maxHeartbeats 4000000 in
theorem l_X10_nearestPeak_L4 {E : am_E} (hE : am_EH E) {d mc ms : Nat} {o : am_O} {G2 : am_G} {D2 : am_D} (hdp : 3 ≤ d) {q1 : Int32} {D : am_D}  : ∀ (n : Nat) (v2 : Int32) (v3 : Int32) (ex0 : Int32), f_X10_nearestPeak_L4 q1 D n v2 v3 = some ex0 → (∀ ex : Int32, ex0 = ex → am_S E mX10_nearestPeak d mc ms o G2 D2 0 0 44 [(2, .int ex)] [] am_G0 D) → am_S E mX10_nearestPeak d mc ms o G2 D2 0 0 4 [(0, .ref 114), (1, .int q1), (2, .int v2), (3, .int v3)] [] am_G0 D
  | 0, _, _, _, hf, _ => by
    unfold f_X10_nearestPeak_L4 at hf
    cases hf
  | n + 1, v2, v3, ex0, hf, hk0 => by
    unfold f_X10_nearestPeak_L4 at hf
    refine am_iload_n (am_dec tmX10_nearestPeak 4 rfl) rfl rfl ?_
    refine am_bipush (v := (60 : Int32)) (am_dec tmX10_nearestPeak 5 rfl) (by decide) ?_
    refine am_icmp_gt (tgt := 44) (am_dec tmX10_nearestPeak 6 rfl) (by decide) (fun c1 => ?_) (fun c1 => ?_)
    · rw [if_pos c1] at hf
      have hf := Option.some.inj hf
      subst hf
      exact am_pick [2] rfl (hk0 _ rfl)
    · rw [if_neg c1] at hf
      refine am_aload_n (am_dec tmX10_nearestPeak 7 rfl) rfl rfl ?_
      refine am_iload_n (am_dec tmX10_nearestPeak 8 rfl) rfl rfl ?_
      obtain ⟨x3, g2, hf⟩ := am_bd hf
      refine am_callV1 (As := [.int v3]) (st := []) hE (am_dec tmX10_nearestPeak 9 rfl) ok_X10_isPeak rfl lm_X10_53 in_X10_isPeak se_X10_isPeak sh_114 cf10 (c_X10_isPeak hE g2) rfl (Nat.lt_of_lt_of_le (by decide) hdp) (Nat.le_of_ble_eq_true rfl) (Nat.zero_le _) (Nat.zero_le _) rfl ?_
      obtain ⟨w12, g13, hf⟩ := am_bd hf
      have key5 : am_S E mX10_nearestPeak d mc ms o G2 D2 0 0 38 [(0, .ref 114), (1, .int q1), (2, .int w12), (3, .int v3)] [] am_G0 D := by
        refine am_iinc (v := (1 : Int32)) (lv' := [(0, .ref 114), (1, .int q1), (2, .int w12), (3, .int (v3 + (1 : Int32)))]) (am_dec tmX10_nearestPeak 23 rfl) rfl (by decide) (by decide) rfl ?_
        refine am_goto (tgt := 4) (am_dec tmX10_nearestPeak 24 rfl) (by decide) ?_
        exact am_pick [0, 1, 2, 3] rfl (l_X10_nearestPeak_L4 hE hdp n w12 (v3 + (1 : Int32)) ex0 hf hk0)
      replace hf := g13
      refine am_if_eq (tgt := 38) (am_dec tmX10_nearestPeak 10 rfl) (by decide) (fun c4 => ?_) (fun c4 => ?_)
      · rw [if_pos c4] at hf
        have hf := Option.some.inj hf
        subst hf
        exact am_pick [0, 1, 2, 3] rfl key5
      · rw [if_neg c4] at hf
        refine am_iload_n (am_dec tmX10_nearestPeak 11 rfl) rfl rfl ?_
        refine am_iconst (v := (-1 : Int32)) (am_dec tmX10_nearestPeak 12 rfl) (by decide) ?_
        refine am_icmp_eq (tgt := 36) (am_dec tmX10_nearestPeak 13 rfl) (by decide) (fun c6 => ?_) (fun c6 => ?_)
        · rw [if_pos c6] at hf
          refine am_iload_n (am_dec tmX10_nearestPeak 21 rfl) rfl rfl ?_
          refine am_istore_n (lv' := [(0, .ref 114), (1, .int q1), (2, .int v3), (3, .int v3)]) (am_dec tmX10_nearestPeak 22 rfl) rfl (by decide) rfl ?_
          have hf := Option.some.inj hf
          subst hf
          exact am_pick [0, 1, 2, 3] rfl key5
        · rw [if_neg c6] at hf
          refine am_iload_n (am_dec tmX10_nearestPeak 14 rfl) rfl rfl ?_
          refine am_iload_n (am_dec tmX10_nearestPeak 15 rfl) rfl rfl ?_
          obtain ⟨x8, g7, hf⟩ := am_bd hf
          refine am_callSN1 (As := [.int v3, .int q1]) (st := []) hE (am_dec tmX10_nearestPeak 16 rfl) ok_X11_far rfl lm_X10_60 st_X11_far (c_X11_far hE g7) rfl (Nat.lt_of_lt_of_le (by decide) hdp) (Nat.le_of_ble_eq_true rfl) (Nat.zero_le _) (Nat.zero_le _) rfl ?_
          refine am_iload_n (am_dec tmX10_nearestPeak 17 rfl) rfl rfl ?_
          refine am_iload_n (am_dec tmX10_nearestPeak 18 rfl) rfl rfl ?_
          obtain ⟨x10, g9, hf⟩ := am_bd hf
          refine am_callSN1 (As := [.int v2, .int q1]) (st := [.int x8]) hE (am_dec tmX10_nearestPeak 19 rfl) ok_X11_far rfl lm_X10_60 st_X11_far (c_X11_far hE g9) rfl (Nat.lt_of_lt_of_le (by decide) hdp) (Nat.le_of_ble_eq_true rfl) (Nat.zero_le _) (Nat.zero_le _) rfl ?_
          refine am_icmp_ge (tgt := 38) (am_dec tmX10_nearestPeak 20 rfl) (by decide) (fun c11 => ?_) (fun c11 => ?_)
          · rw [if_pos c11] at hf
            have hf := Option.some.inj hf
            subst hf
            exact am_pick [0, 1, 2, 3] rfl key5
          · rw [if_neg c11] at hf
            refine am_iload_n (am_dec tmX10_nearestPeak 21 rfl) rfl rfl ?_
            refine am_istore_n (lv' := [(0, .ref 114), (1, .int q1), (2, .int v3), (3, .int v3)]) (am_dec tmX10_nearestPeak 22 rfl) rfl (by decide) rfl ?_
            have hf := Option.some.inj hf
            subst hf
            exact am_pick [0, 1, 2, 3] rfl key5
set_option maxRecDepth 100000 in
set_option maxHeartbeats 4000000 in
theorem c_X10_nearestPeak {E : am_E} (hE : am_EH E) {p1 : Int32} {D : am_D} {r : Int32}  (hf : f_X10_nearestPeak p1 D = some r) : am_C E mX10_nearestPeak 3 0 0 [.ref 114, .int p1] am_G0 D (.inl (some (.int r))) am_G0 D := by
  refine am_C_of (by decide +kernel) (Nat.le_of_ble_eq_true rfl) ?_
  change am_S E mX10_nearestPeak 3 0 0 (.inl (some (.int r))) am_G0 D 0 0 0 [(0, .ref 114), (1, .int p1)] [] am_G0 D
  unfold f_X10_nearestPeak at hf
  refine am_iconst (v := (-1 : Int32)) (am_dec tmX10_nearestPeak 0 rfl) (by decide) ?_
  refine am_istore_n (lv' := [(0, .ref 114), (1, .int p1), (2, .int (-1 : Int32))]) (am_dec tmX10_nearestPeak 1 rfl) rfl (by decide) rfl ?_
  refine am_iconst (v := (4 : Int32)) (am_dec tmX10_nearestPeak 2 rfl) (by decide) ?_
  refine am_istore_n (lv' := [(0, .ref 114), (1, .int p1), (2, .int (-1 : Int32)), (3, .int (4 : Int32))]) (am_dec tmX10_nearestPeak 3 rfl) rfl (by decide) rfl ?_
  obtain ⟨e14, g15, hf⟩ := am_bd hf
  refine am_pick [0, 1, 2, 3] rfl (l_X10_nearestPeak_L4 hE (Nat.le_refl _) am_fu _ _ _ g15 (fun ex he => ?_))
  subst he
  refine am_iload_n (am_dec tmX10_nearestPeak 25 rfl) rfl rfl ?_
  have hf := Option.some.inj hf
  subst hf
  exact am_iret (am_dec tmX10_nearestPeak 26 rfl) rfl (Nat.zero_le _) (Nat.zero_le _)
def f_X11_feed (p1 : Int32) (p2 : Int32) (p3 : Int32) (p4 : Int32) (p5 : Int32) (D : am_D) : Option ((Int32 × am_D)) :=
    if ((D.1 69 1) + (20 : Int32)) ≤ (300 : Int32) then
    (f_X8_addNumber p1 D).bind fun x3 =>
    (f_X8_addNumber p2 x3).bind fun x5 =>
    (f_X8_addNumber p3 x5).bind fun x7 =>
    (f_X8_addNumber p4 x7).bind fun x9 =>
    (f_X8_addNumber p5 x9).bind fun x11 =>
    some ((x11.1 69 1), x11)
    else
    some ((-1 : Int32), D)
set_option maxRecDepth 100000 in
set_option maxHeartbeats 4000000 in
theorem c_X11_feed {E : am_E} (hE : am_EH E) {p1 : Int32} {p2 : Int32} {p3 : Int32} {p4 : Int32} {p5 : Int32} {D : am_D} {r : (Int32 × am_D)}  (hf : f_X11_feed p1 p2 p3 p4 p5 D = some r) : am_C E mX11_feed 2 0 0 [.ref 16, .int p1, .int p2, .int p3, .int p4, .int p5] am_G0 D (.inl (some (.int r.1))) am_G0 r.2 := by
  refine am_C_of (by decide +kernel) (Nat.le_of_ble_eq_true rfl) ?_
  change am_S E mX11_feed 2 0 0 (.inl (some (.int r.1))) am_G0 r.2 0 0 0 [(0, .ref 16), (1, .int p1), (2, .int p2), (3, .int p3), (4, .int p4), (5, .int p5)] [] am_G0 D
  unfold f_X11_feed at hf
  refine am_aload_n (am_dec tmX11_feed 0 rfl) rfl rfl ?_
  refine am_getR (j := 3) hE (am_dec tmX11_feed 1 rfl) sh_16 cf11 (by decide) rfl lf_X11_26 rf_16_3 ?_
  refine am_getI (j := 1) hE (am_dec tmX11_feed 2 rfl) sh_69 cf8 (by decide) rfl lf_X11_87 ?_
  refine am_bipush (v := (20 : Int32)) (am_dec tmX11_feed 3 rfl) (by decide) ?_
  refine am_iadd (am_dec tmX11_feed 4 rfl) ?_
  refine am_sipush (v := (300 : Int32)) (am_dec tmX11_feed 5 rfl) (by decide) ?_
  refine am_icmp_le (tgt := 18) (am_dec tmX11_feed 6 rfl) (by decide) (fun c1 => ?_) (fun c1 => ?_)
  · rw [if_pos c1] at hf
    refine am_aload_n (am_dec tmX11_feed 9 rfl) rfl rfl ?_
    refine am_getR (j := 3) hE (am_dec tmX11_feed 10 rfl) sh_16 cf11 (by decide) rfl lf_X11_26 rf_16_3 ?_
    refine am_iload_n (am_dec tmX11_feed 11 rfl) rfl rfl ?_
    obtain ⟨x3, g2, hf⟩ := am_bd hf
    refine am_callV0 (As := [.int p1]) (st := []) hE (am_dec tmX11_feed 12 rfl) ok_X8_addNumber rfl lm_X11_91 in_X8_addNumber se_X8_addNumber sh_69 cf8 (c_X8_addNumber hE g2) rfl (by decide) (Nat.le_of_ble_eq_true rfl) (Nat.zero_le _) (Nat.zero_le _) rfl ?_
    refine am_aload_n (am_dec tmX11_feed 13 rfl) rfl rfl ?_
    refine am_getR (j := 3) hE (am_dec tmX11_feed 14 rfl) sh_16 cf11 (by decide) rfl lf_X11_26 rf_16_3 ?_
    refine am_iload_n (am_dec tmX11_feed 15 rfl) rfl rfl ?_
    obtain ⟨x5, g4, hf⟩ := am_bd hf
    refine am_callV0 (As := [.int p2]) (st := []) hE (am_dec tmX11_feed 16 rfl) ok_X8_addNumber rfl lm_X11_91 in_X8_addNumber se_X8_addNumber sh_69 cf8 (c_X8_addNumber hE g4) rfl (by decide) (Nat.le_of_ble_eq_true rfl) (Nat.zero_le _) (Nat.zero_le _) rfl ?_
    refine am_aload_n (am_dec tmX11_feed 17 rfl) rfl rfl ?_
    refine am_getR (j := 3) hE (am_dec tmX11_feed 18 rfl) sh_16 cf11 (by decide) rfl lf_X11_26 rf_16_3 ?_
    refine am_iload_n (am_dec tmX11_feed 19 rfl) rfl rfl ?_
    obtain ⟨x7, g6, hf⟩ := am_bd hf
    refine am_callV0 (As := [.int p3]) (st := []) hE (am_dec tmX11_feed 20 rfl) ok_X8_addNumber rfl lm_X11_91 in_X8_addNumber se_X8_addNumber sh_69 cf8 (c_X8_addNumber hE g6) rfl (by decide) (Nat.le_of_ble_eq_true rfl) (Nat.zero_le _) (Nat.zero_le _) rfl ?_
    refine am_aload_n (am_dec tmX11_feed 21 rfl) rfl rfl ?_
    refine am_getR (j := 3) hE (am_dec tmX11_feed 22 rfl) sh_16 cf11 (by decide) rfl lf_X11_26 rf_16_3 ?_
    refine am_iload (am_dec tmX11_feed 23 rfl) rfl ?_
    obtain ⟨x9, g8, hf⟩ := am_bd hf
    refine am_callV0 (As := [.int p4]) (st := []) hE (am_dec tmX11_feed 24 rfl) ok_X8_addNumber rfl lm_X11_91 in_X8_addNumber se_X8_addNumber sh_69 cf8 (c_X8_addNumber hE g8) rfl (by decide) (Nat.le_of_ble_eq_true rfl) (Nat.zero_le _) (Nat.zero_le _) rfl ?_
    refine am_aload_n (am_dec tmX11_feed 25 rfl) rfl rfl ?_
    refine am_getR (j := 3) hE (am_dec tmX11_feed 26 rfl) sh_16 cf11 (by decide) rfl lf_X11_26 rf_16_3 ?_
    refine am_iload (am_dec tmX11_feed 27 rfl) rfl ?_
    obtain ⟨x11, g10, hf⟩ := am_bd hf
    refine am_callV0 (As := [.int p5]) (st := []) hE (am_dec tmX11_feed 28 rfl) ok_X8_addNumber rfl lm_X11_91 in_X8_addNumber se_X8_addNumber sh_69 cf8 (c_X8_addNumber hE g10) rfl (by decide) (Nat.le_of_ble_eq_true rfl) (Nat.zero_le _) (Nat.zero_le _) rfl ?_
    refine am_aload_n (am_dec tmX11_feed 29 rfl) rfl rfl ?_
    refine am_getR (j := 3) hE (am_dec tmX11_feed 30 rfl) sh_16 cf11 (by decide) rfl lf_X11_26 rf_16_3 ?_
    refine am_getI (j := 1) hE (am_dec tmX11_feed 31 rfl) sh_69 cf8 (by decide) rfl lf_X11_87 ?_
    have hf := Option.some.inj hf
    subst hf
    exact am_iret (am_dec tmX11_feed 32 rfl) rfl (Nat.zero_le _) (Nat.zero_le _)
  · rw [if_neg c1] at hf
    refine am_iconst (v := (-1 : Int32)) (am_dec tmX11_feed 7 rfl) (by decide) ?_
    have hf := Option.some.inj hf
    subst hf
    exact am_iret (am_dec tmX11_feed 8 rfl) rfl (Nat.zero_le _) (Nat.zero_le _)
def f_X11_need (p0 : Int32) : Option (String ⊕ Unit) :=
    if p0 = 0 then
    some (.inl "java/lang/IllegalArgumentException")
    else
    some (.inr ())
set_option maxRecDepth 100000 in
set_option maxHeartbeats 4000000 in
theorem c_X11_need {E : am_E} (hE : am_EH E) {p0 : Int32} {D : am_D} {r : Unit}  (hf : f_X11_need p0 = some (.inr r)) : am_C E mX11_need 1 0 0 [.int p0] am_G0 D (.inl none) am_G0 D := by
  refine am_C_of (by decide +kernel) (Nat.le_of_ble_eq_true rfl) ?_
  change am_S E mX11_need 1 0 0 (.inl none) am_G0 D 0 0 0 [(0, .int p0)] [] am_G0 D
  unfold f_X11_need at hf
  refine am_iload_n (am_dec tmX11_need 0 rfl) rfl rfl ?_
  refine am_if_ne (tgt := 12) (am_dec tmX11_need 1 rfl) (by decide) (fun c1 => ?_) (fun c1 => ?_)
  · rw [if_neg c1] at hf
    have hf := Sum.inr.inj (Option.some.inj hf)
    subst hf
    exact am_vret (am_dec tmX11_need 6 rfl) rfl (Nat.zero_le _) (Nat.zero_le _)
  · rw [if_pos c1] at hf
    cases hf
set_option maxRecDepth 100000 in
set_option maxHeartbeats 4000000 in
theorem t_X11_need {E : am_E} (hE : am_EH E) {p0 : Int32} {D : am_D} {r : String}  (hf : f_X11_need p0 = some (.inl r)) : am_C E mX11_need 1 1 6 [.int p0] am_G0 D (.inr r) am_G0 D := by
  refine am_C_of (by decide +kernel) (Nat.le_of_ble_eq_true rfl) ?_
  change am_S E mX11_need 1 1 6 (.inr r) am_G0 D 0 0 0 [(0, .int p0)] [] am_G0 D
  unfold f_X11_need at hf
  refine am_iload_n (am_dec tmX11_need 0 rfl) rfl rfl ?_
  refine am_if_ne (tgt := 12) (am_dec tmX11_need 1 rfl) (by decide) (fun c1 => ?_) (fun c1 => ?_)
  · rw [if_neg c1] at hf
    cases hf
  · rw [if_pos c1] at hf
    have hf := Sum.inl.inj (Option.some.inj hf)
    subst hf
    exact am_throw (cls := "java/lang/IllegalArgumentException") hE (names := ["java/lang/RuntimeException", "java/lang/Exception"]) (am_dec tmX11_need 2 rfl) (am_dec tmX11_need 3 rfl) (am_dec tmX11_need 4 rfl) (am_dec tmX11_need 5 rfl) (by decide +kernel) (by decide +kernel) lcl_X11_448 lin_IllegalArgumentException ht_X11_450 rfl (Nat.le_of_ble_eq_true rfl) (Nat.le_refl _) (Nat.le_refl _) rfl rfl
def f_X11_sound (p1 : Int32) (D : am_D) : Option ((String × am_D) ⊕ (Int32 × am_D)) :=
    (if p1 < 0 then
    some ((0 : Int32))
    else
    if (D.1 69 1) < p1 then
    some ((0 : Int32))
    else
    some ((1 : Int32))).bind fun w4 =>
    am_btD (f_X11_need w4) D fun x6 =>
    (f_X8_takeText p1 D).bind fun x8 =>
    am_bn (f_X1_freeSound x8)
    (fun x10 =>
    (f_X8_readSound x10 x8).bind fun x12 =>
    if (x12.1 69 2) = 0 then
    (f_X1_takeSound x12).bind fun x15 =>
    some (.inr (x15.1, x15.2))
    else
    some (.inr (((x12.1 69 2) - (10 : Int32)), x12)))
    (some (.inr ((-1 : Int32), x8)))
set_option maxRecDepth 100000 in
set_option maxHeartbeats 4000000 in
theorem c_X11_sound {E : am_E} (hE : am_EH E) {p1 : Int32} {D : am_D} {r : (Int32 × am_D)}  (hf : f_X11_sound p1 D = some (.inr r)) : am_C E mX11_sound 10 0 0 [.ref 16, .int p1] am_G0 D (.inl (some (.int r.1))) am_G0 r.2 := by
  refine am_C_of (by decide +kernel) (Nat.le_of_ble_eq_true rfl) ?_
  change am_S E mX11_sound 10 0 0 (.inl (some (.int r.1))) am_G0 r.2 0 0 0 [(0, .ref 16), (1, .int p1)] [] am_G0 D
  unfold f_X11_sound at hf
  refine am_iload_n (am_dec tmX11_sound 0 rfl) rfl rfl ?_
  obtain ⟨w4, g16, hf⟩ := am_bd hf
  have key2 : am_S E mX11_sound 10 0 0 (.inl (some (.int r.1))) am_G0 r.2 0 0 20 [(0, .ref 16), (1, .int p1)] [.int w4] am_G0 D := by
    obtain ⟨x6, g5, hf⟩ := am_btDR hf
    refine am_callS0 (As := [.int w4]) (st := []) (am_dec tmX11_sound 10 rfl) ok_X11_need rfl lm_X11_94 st_X11_need (c_X11_need hE g5) rfl (by decide) (Nat.le_of_ble_eq_true rfl) (Nat.zero_le _) (Nat.zero_le _) rfl ?_
    refine am_aload_n (am_dec tmX11_sound 11 rfl) rfl rfl ?_
    refine am_getR (j := 3) hE (am_dec tmX11_sound 12 rfl) sh_16 cf11 (by decide) rfl lf_X11_26 rf_16_3 ?_
    refine am_iload_n (am_dec tmX11_sound 13 rfl) rfl rfl ?_
    obtain ⟨x8, g7, hf⟩ := am_bd hf
    refine am_callV0 (As := [.int p1]) (st := []) hE (am_dec tmX11_sound 14 rfl) ok_X8_takeText rfl lm_X11_98 in_X8_takeText se_X8_takeText sh_69 cf8 (c_X8_takeText hE g7) rfl (by decide) (Nat.le_of_ble_eq_true rfl) (Nat.zero_le _) (Nat.zero_le _) rfl ?_
    refine am_aload_n (am_dec tmX11_sound 15 rfl) rfl rfl ?_
    refine am_getR (j := 0) hE (am_dec tmX11_sound 16 rfl) sh_16 cf11 (by decide) rfl lf_X11_10 rf_16_0 ?_
    rcases am_bnd hf with ⟨x10, g9, hf⟩ | ⟨g9, hf⟩
    · have h_x10 := k_X1_freeSound g9
      refine am_callV1 (w := .ref x10) (As := []) (st := []) hE (am_dec tmX11_sound 17 rfl) ok_X1_freeSound rfl lm_X11_101 in_X1_freeSound se_X1_freeSound sh_17 cf1 (c_X1_freeSound hE  g9) rfl (by decide) (Nat.le_of_ble_eq_true rfl) (Nat.zero_le _) (Nat.zero_le _) rfl ?_
      refine am_astore_n (lv' := [(0, .ref 16), (1, .int p1), (2, .ref x10)]) (am_dec tmX11_sound 18 rfl) rfl (by decide) rfl ?_
      refine am_aload_n (am_dec tmX11_sound 19 rfl) rfl rfl ?_
      refine am_ifnonnull (tgt := 45) (am_dec tmX11_sound 20 rfl) (by decide) ?_
      refine am_aload_n (am_dec tmX11_sound 23 rfl) rfl rfl ?_
      refine am_getR (j := 3) hE (am_dec tmX11_sound 24 rfl) sh_16 cf11 (by decide) rfl lf_X11_26 rf_16_3 ?_
      refine am_aload_n (am_dec tmX11_sound 25 rfl) rfl rfl ?_
      obtain ⟨x12, g11, hf⟩ := am_bd hf
      refine am_callV0 (As := [.ref x10]) (st := []) hE (am_dec tmX11_sound 26 rfl) ok_X8_readSound rfl lm_X11_105 in_X8_readSound se_X8_readSound sh_69 cf8 (c_X8_readSound hE h_x10 g11) rfl (by decide) (Nat.le_of_ble_eq_true rfl) (Nat.zero_le _) (Nat.zero_le _) rfl ?_
      refine am_aload_n (am_dec tmX11_sound 27 rfl) rfl rfl ?_
      refine am_getR (j := 3) hE (am_dec tmX11_sound 28 rfl) sh_16 cf11 (by decide) rfl lf_X11_26 rf_16_3 ?_
      refine am_getI (j := 2) hE (am_dec tmX11_sound 29 rfl) sh_69 cf8 (by decide) rfl lf_X11_109 ?_
      refine am_if_ne (tgt := 73) (am_dec tmX11_sound 30 rfl) (by decide) (fun c13 => ?_) (fun c13 => ?_)
      · rw [if_neg c13] at hf
        refine am_aload_n (am_dec tmX11_sound 35 rfl) rfl rfl ?_
        refine am_getR (j := 3) hE (am_dec tmX11_sound 36 rfl) sh_16 cf11 (by decide) rfl lf_X11_26 rf_16_3 ?_
        refine am_getI (j := 2) hE (am_dec tmX11_sound 37 rfl) sh_69 cf8 (by decide) rfl lf_X11_109 ?_
        refine am_bipush (v := (10 : Int32)) (am_dec tmX11_sound 38 rfl) (by decide) ?_
        refine am_isub (am_dec tmX11_sound 39 rfl) ?_
        have hf := Sum.inr.inj (Option.some.inj hf)
        subst hf
        exact am_iret (am_dec tmX11_sound 40 rfl) rfl (Nat.zero_le _) (Nat.zero_le _)
      · rw [if_pos c13] at hf
        refine am_aload_n (am_dec tmX11_sound 31 rfl) rfl rfl ?_
        refine am_getR (j := 0) hE (am_dec tmX11_sound 32 rfl) sh_16 cf11 (by decide) rfl lf_X11_10 rf_16_0 ?_
        obtain ⟨x15, g14, hf⟩ := am_bd hf
        refine am_callV1 (As := []) (st := []) hE (am_dec tmX11_sound 33 rfl) ok_X1_takeSound rfl lm_X11_112 in_X1_takeSound se_X1_takeSound sh_17 cf1 (c_X1_takeSound hE g14) rfl (by decide) (Nat.le_of_ble_eq_true rfl) (Nat.zero_le _) (Nat.zero_le _) rfl ?_
        refine am_goto (tgt := 83) (am_dec tmX11_sound 34 rfl) (by decide) ?_
        have hf := Sum.inr.inj (Option.some.inj hf)
        subst hf
        exact am_iret (am_dec tmX11_sound 40 rfl) rfl (Nat.zero_le _) (Nat.zero_le _)
    · refine am_callV1 (w := .null) (As := []) (st := []) hE (am_dec tmX11_sound 17 rfl) ok_X1_freeSound rfl lm_X11_101 in_X1_freeSound se_X1_freeSound sh_17 cf1 (c_X1_freeSound hE  g9) rfl (by decide) (Nat.le_of_ble_eq_true rfl) (Nat.zero_le _) (Nat.zero_le _) rfl ?_
      refine am_astore_nN (lv' := [(0, .ref 16), (1, .int p1), (2, .null)]) (am_dec tmX11_sound 18 rfl) rfl (by decide) rfl ?_
      refine am_aload_nN (am_dec tmX11_sound 19 rfl) rfl rfl ?_
      refine am_ifnonnullN (am_dec tmX11_sound 20 rfl) ?_
      refine am_iconst (v := (-1 : Int32)) (am_dec tmX11_sound 21 rfl) (by decide) ?_
      have hf := Sum.inr.inj (Option.some.inj hf)
      subst hf
      exact am_iret (am_dec tmX11_sound 22 rfl) rfl (Nat.zero_le _) (Nat.zero_le _)
  replace hf := g16
  refine am_if_lt (tgt := 19) (am_dec tmX11_sound 1 rfl) (by decide) (fun c1 => ?_) (fun c1 => ?_)
  · rw [if_pos c1] at hf
    refine am_iconst (v := (0 : Int32)) (am_dec tmX11_sound 9 rfl) (by decide) ?_
    have hf := Option.some.inj hf
    subst hf
    exact am_pick [0, 1] rfl key2
  · rw [if_neg c1] at hf
    refine am_iload_n (am_dec tmX11_sound 2 rfl) rfl rfl ?_
    refine am_aload_n (am_dec tmX11_sound 3 rfl) rfl rfl ?_
    refine am_getR (j := 3) hE (am_dec tmX11_sound 4 rfl) sh_16 cf11 (by decide) rfl lf_X11_26 rf_16_3 ?_
    refine am_getI (j := 1) hE (am_dec tmX11_sound 5 rfl) sh_69 cf8 (by decide) rfl lf_X11_87 ?_
    refine am_icmp_gt (tgt := 19) (am_dec tmX11_sound 6 rfl) (by decide) (fun c3 => ?_) (fun c3 => ?_)
    · rw [if_pos c3] at hf
      refine am_iconst (v := (0 : Int32)) (am_dec tmX11_sound 9 rfl) (by decide) ?_
      have hf := Option.some.inj hf
      subst hf
      exact am_pick [0, 1] rfl key2
    · rw [if_neg c3] at hf
      refine am_iconst (v := (1 : Int32)) (am_dec tmX11_sound 7 rfl) (by decide) ?_
      refine am_goto (tgt := 20) (am_dec tmX11_sound 8 rfl) (by decide) ?_
      have hf := Option.some.inj hf
      subst hf
      exact am_pick [0, 1] rfl key2
set_option maxRecDepth 100000 in
set_option maxHeartbeats 4000000 in
theorem t_X11_sound {E : am_E} (hE : am_EH E) {p1 : Int32} {D : am_D} {r : String × am_D}  (hf : f_X11_sound p1 D = some (.inl r)) : am_C E mX11_sound 10 1 6 [.ref 16, .int p1] am_G0 D (.inr r.1) am_G0 r.2 := by
  refine am_C_of (by decide +kernel) (Nat.le_of_ble_eq_true rfl) ?_
  change am_S E mX11_sound 10 1 6 (.inr r.1) am_G0 r.2 0 0 0 [(0, .ref 16), (1, .int p1)] [] am_G0 D
  unfold f_X11_sound at hf
  refine am_iload_n (am_dec tmX11_sound 0 rfl) rfl rfl ?_
  obtain ⟨w4, g16, hf⟩ := am_bd hf
  have key2 : am_S E mX11_sound 10 1 6 (.inr r.1) am_G0 r.2 0 0 20 [(0, .ref 16), (1, .int p1)] [.int w4] am_G0 D := by
    rcases am_btDT hf with ⟨g5, eD⟩ | ⟨x6, g5, hf⟩
    · rw [eD]
      exact am_callS_out (As := [.int w4]) (st := []) (am_dec tmX11_sound 10 rfl) ok_X11_need rfl lm_X11_94 st_X11_need (t_X11_need hE g5) rfl (by decide) (Nat.le_of_ble_eq_true rfl) (Nat.le_refl _) (Nat.le_refl _) rfl rfl
    · refine am_callS0 (As := [.int w4]) (st := []) (am_dec tmX11_sound 10 rfl) ok_X11_need rfl lm_X11_94 st_X11_need (c_X11_need hE g5) rfl (by decide) (Nat.le_of_ble_eq_true rfl) (Nat.zero_le _) (Nat.zero_le _) rfl ?_
      refine am_aload_n (am_dec tmX11_sound 11 rfl) rfl rfl ?_
      refine am_getR (j := 3) hE (am_dec tmX11_sound 12 rfl) sh_16 cf11 (by decide) rfl lf_X11_26 rf_16_3 ?_
      refine am_iload_n (am_dec tmX11_sound 13 rfl) rfl rfl ?_
      obtain ⟨x8, g7, hf⟩ := am_bd hf
      refine am_callV0 (As := [.int p1]) (st := []) hE (am_dec tmX11_sound 14 rfl) ok_X8_takeText rfl lm_X11_98 in_X8_takeText se_X8_takeText sh_69 cf8 (c_X8_takeText hE g7) rfl (by decide) (Nat.le_of_ble_eq_true rfl) (Nat.zero_le _) (Nat.zero_le _) rfl ?_
      refine am_aload_n (am_dec tmX11_sound 15 rfl) rfl rfl ?_
      refine am_getR (j := 0) hE (am_dec tmX11_sound 16 rfl) sh_16 cf11 (by decide) rfl lf_X11_10 rf_16_0 ?_
      rcases am_bnd hf with ⟨x10, g9, hf⟩ | ⟨g9, hf⟩
      · have h_x10 := k_X1_freeSound g9
        refine am_callV1 (w := .ref x10) (As := []) (st := []) hE (am_dec tmX11_sound 17 rfl) ok_X1_freeSound rfl lm_X11_101 in_X1_freeSound se_X1_freeSound sh_17 cf1 (c_X1_freeSound hE  g9) rfl (by decide) (Nat.le_of_ble_eq_true rfl) (Nat.zero_le _) (Nat.zero_le _) rfl ?_
        refine am_astore_n (lv' := [(0, .ref 16), (1, .int p1), (2, .ref x10)]) (am_dec tmX11_sound 18 rfl) rfl (by decide) rfl ?_
        refine am_aload_n (am_dec tmX11_sound 19 rfl) rfl rfl ?_
        refine am_ifnonnull (tgt := 45) (am_dec tmX11_sound 20 rfl) (by decide) ?_
        refine am_aload_n (am_dec tmX11_sound 23 rfl) rfl rfl ?_
        refine am_getR (j := 3) hE (am_dec tmX11_sound 24 rfl) sh_16 cf11 (by decide) rfl lf_X11_26 rf_16_3 ?_
        refine am_aload_n (am_dec tmX11_sound 25 rfl) rfl rfl ?_
        obtain ⟨x12, g11, hf⟩ := am_bd hf
        refine am_callV0 (As := [.ref x10]) (st := []) hE (am_dec tmX11_sound 26 rfl) ok_X8_readSound rfl lm_X11_105 in_X8_readSound se_X8_readSound sh_69 cf8 (c_X8_readSound hE h_x10 g11) rfl (by decide) (Nat.le_of_ble_eq_true rfl) (Nat.zero_le _) (Nat.zero_le _) rfl ?_
        refine am_aload_n (am_dec tmX11_sound 27 rfl) rfl rfl ?_
        refine am_getR (j := 3) hE (am_dec tmX11_sound 28 rfl) sh_16 cf11 (by decide) rfl lf_X11_26 rf_16_3 ?_
        refine am_getI (j := 2) hE (am_dec tmX11_sound 29 rfl) sh_69 cf8 (by decide) rfl lf_X11_109 ?_
        refine am_if_ne (tgt := 73) (am_dec tmX11_sound 30 rfl) (by decide) (fun c13 => ?_) (fun c13 => ?_)
        · rw [if_neg c13] at hf
          refine am_aload_n (am_dec tmX11_sound 35 rfl) rfl rfl ?_
          refine am_getR (j := 3) hE (am_dec tmX11_sound 36 rfl) sh_16 cf11 (by decide) rfl lf_X11_26 rf_16_3 ?_
          refine am_getI (j := 2) hE (am_dec tmX11_sound 37 rfl) sh_69 cf8 (by decide) rfl lf_X11_109 ?_
          refine am_bipush (v := (10 : Int32)) (am_dec tmX11_sound 38 rfl) (by decide) ?_
          refine am_isub (am_dec tmX11_sound 39 rfl) ?_
          cases hf
        · rw [if_pos c13] at hf
          refine am_aload_n (am_dec tmX11_sound 31 rfl) rfl rfl ?_
          refine am_getR (j := 0) hE (am_dec tmX11_sound 32 rfl) sh_16 cf11 (by decide) rfl lf_X11_10 rf_16_0 ?_
          obtain ⟨x15, g14, hf⟩ := am_bd hf
          refine am_callV1 (As := []) (st := []) hE (am_dec tmX11_sound 33 rfl) ok_X1_takeSound rfl lm_X11_112 in_X1_takeSound se_X1_takeSound sh_17 cf1 (c_X1_takeSound hE g14) rfl (by decide) (Nat.le_of_ble_eq_true rfl) (Nat.zero_le _) (Nat.zero_le _) rfl ?_
          refine am_goto (tgt := 83) (am_dec tmX11_sound 34 rfl) (by decide) ?_
          cases hf
      · refine am_callV1 (w := .null) (As := []) (st := []) hE (am_dec tmX11_sound 17 rfl) ok_X1_freeSound rfl lm_X11_101 in_X1_freeSound se_X1_freeSound sh_17 cf1 (c_X1_freeSound hE  g9) rfl (by decide) (Nat.le_of_ble_eq_true rfl) (Nat.zero_le _) (Nat.zero_le _) rfl ?_
        refine am_astore_nN (lv' := [(0, .ref 16), (1, .int p1), (2, .null)]) (am_dec tmX11_sound 18 rfl) rfl (by decide) rfl ?_
        refine am_aload_nN (am_dec tmX11_sound 19 rfl) rfl rfl ?_
        refine am_ifnonnullN (am_dec tmX11_sound 20 rfl) ?_
        refine am_iconst (v := (-1 : Int32)) (am_dec tmX11_sound 21 rfl) (by decide) ?_
        cases hf
  replace hf := g16
  refine am_if_lt (tgt := 19) (am_dec tmX11_sound 1 rfl) (by decide) (fun c1 => ?_) (fun c1 => ?_)
  · rw [if_pos c1] at hf
    refine am_iconst (v := (0 : Int32)) (am_dec tmX11_sound 9 rfl) (by decide) ?_
    have hf := Option.some.inj hf
    subst hf
    exact am_pick [0, 1] rfl key2
  · rw [if_neg c1] at hf
    refine am_iload_n (am_dec tmX11_sound 2 rfl) rfl rfl ?_
    refine am_aload_n (am_dec tmX11_sound 3 rfl) rfl rfl ?_
    refine am_getR (j := 3) hE (am_dec tmX11_sound 4 rfl) sh_16 cf11 (by decide) rfl lf_X11_26 rf_16_3 ?_
    refine am_getI (j := 1) hE (am_dec tmX11_sound 5 rfl) sh_69 cf8 (by decide) rfl lf_X11_87 ?_
    refine am_icmp_gt (tgt := 19) (am_dec tmX11_sound 6 rfl) (by decide) (fun c3 => ?_) (fun c3 => ?_)
    · rw [if_pos c3] at hf
      refine am_iconst (v := (0 : Int32)) (am_dec tmX11_sound 9 rfl) (by decide) ?_
      have hf := Option.some.inj hf
      subst hf
      exact am_pick [0, 1] rfl key2
    · rw [if_neg c3] at hf
      refine am_iconst (v := (1 : Int32)) (am_dec tmX11_sound 7 rfl) (by decide) ?_
      refine am_goto (tgt := 20) (am_dec tmX11_sound 8 rfl) (by decide) ?_
      have hf := Option.some.inj hf
      subst hf
      exact am_pick [0, 1] rfl key2
def f_X11_map (p1 : Int32) (D : am_D) : Option ((String × am_D) ⊕ (Int32 × am_D)) :=
    (if p1 < 0 then
    some ((0 : Int32))
    else
    if (D.1 69 1) < p1 then
    some ((0 : Int32))
    else
    some ((1 : Int32))).bind fun w4 =>
    am_btD (f_X11_need w4) D fun x6 =>
    (f_X8_takeText p1 D).bind fun x8 =>
    am_bn (f_X1_freeMap x8)
    (fun x10 =>
    (f_X8_readMap x10 x8).bind fun x12 =>
    if (x12.1 69 2) = 0 then
    (f_X1_takeMap x12).bind fun x15 =>
    some (.inr (x15.1, x15.2))
    else
    some (.inr (((x12.1 69 2) - (10 : Int32)), x12)))
    (some (.inr ((-1 : Int32), x8)))
set_option maxRecDepth 100000 in
set_option maxHeartbeats 4000000 in
theorem c_X11_map {E : am_E} (hE : am_EH E) {p1 : Int32} {D : am_D} {r : (Int32 × am_D)}  (hf : f_X11_map p1 D = some (.inr r)) : am_C E mX11_map 9 0 0 [.ref 16, .int p1] am_G0 D (.inl (some (.int r.1))) am_G0 r.2 := by
  refine am_C_of (by decide +kernel) (Nat.le_of_ble_eq_true rfl) ?_
  change am_S E mX11_map 9 0 0 (.inl (some (.int r.1))) am_G0 r.2 0 0 0 [(0, .ref 16), (1, .int p1)] [] am_G0 D
  unfold f_X11_map at hf
  refine am_iload_n (am_dec tmX11_map 0 rfl) rfl rfl ?_
  obtain ⟨w4, g16, hf⟩ := am_bd hf
  have key2 : am_S E mX11_map 9 0 0 (.inl (some (.int r.1))) am_G0 r.2 0 0 20 [(0, .ref 16), (1, .int p1)] [.int w4] am_G0 D := by
    obtain ⟨x6, g5, hf⟩ := am_btDR hf
    refine am_callS0 (As := [.int w4]) (st := []) (am_dec tmX11_map 10 rfl) ok_X11_need rfl lm_X11_94 st_X11_need (c_X11_need hE g5) rfl (by decide) (Nat.le_of_ble_eq_true rfl) (Nat.zero_le _) (Nat.zero_le _) rfl ?_
    refine am_aload_n (am_dec tmX11_map 11 rfl) rfl rfl ?_
    refine am_getR (j := 3) hE (am_dec tmX11_map 12 rfl) sh_16 cf11 (by decide) rfl lf_X11_26 rf_16_3 ?_
    refine am_iload_n (am_dec tmX11_map 13 rfl) rfl rfl ?_
    obtain ⟨x8, g7, hf⟩ := am_bd hf
    refine am_callV0 (As := [.int p1]) (st := []) hE (am_dec tmX11_map 14 rfl) ok_X8_takeText rfl lm_X11_98 in_X8_takeText se_X8_takeText sh_69 cf8 (c_X8_takeText hE g7) rfl (by decide) (Nat.le_of_ble_eq_true rfl) (Nat.zero_le _) (Nat.zero_le _) rfl ?_
    refine am_aload_n (am_dec tmX11_map 15 rfl) rfl rfl ?_
    refine am_getR (j := 0) hE (am_dec tmX11_map 16 rfl) sh_16 cf11 (by decide) rfl lf_X11_10 rf_16_0 ?_
    rcases am_bnd hf with ⟨x10, g9, hf⟩ | ⟨g9, hf⟩
    · have h_x10 := k_X1_freeMap g9
      refine am_callV1 (w := .ref x10) (As := []) (st := []) hE (am_dec tmX11_map 17 rfl) ok_X1_freeMap rfl lm_X11_116 in_X1_freeMap se_X1_freeMap sh_17 cf1 (c_X1_freeMap hE  g9) rfl (by decide) (Nat.le_of_ble_eq_true rfl) (Nat.zero_le _) (Nat.zero_le _) rfl ?_
      refine am_astore_n (lv' := [(0, .ref 16), (1, .int p1), (2, .ref x10)]) (am_dec tmX11_map 18 rfl) rfl (by decide) rfl ?_
      refine am_aload_n (am_dec tmX11_map 19 rfl) rfl rfl ?_
      refine am_ifnonnull (tgt := 45) (am_dec tmX11_map 20 rfl) (by decide) ?_
      refine am_aload_n (am_dec tmX11_map 23 rfl) rfl rfl ?_
      refine am_getR (j := 3) hE (am_dec tmX11_map 24 rfl) sh_16 cf11 (by decide) rfl lf_X11_26 rf_16_3 ?_
      refine am_aload_n (am_dec tmX11_map 25 rfl) rfl rfl ?_
      obtain ⟨x12, g11, hf⟩ := am_bd hf
      refine am_callV0 (As := [.ref x10]) (st := []) hE (am_dec tmX11_map 26 rfl) ok_X8_readMap rfl lm_X11_120 in_X8_readMap se_X8_readMap sh_69 cf8 (c_X8_readMap hE h_x10 g11) rfl (by decide) (Nat.le_of_ble_eq_true rfl) (Nat.zero_le _) (Nat.zero_le _) rfl ?_
      refine am_aload_n (am_dec tmX11_map 27 rfl) rfl rfl ?_
      refine am_getR (j := 3) hE (am_dec tmX11_map 28 rfl) sh_16 cf11 (by decide) rfl lf_X11_26 rf_16_3 ?_
      refine am_getI (j := 2) hE (am_dec tmX11_map 29 rfl) sh_69 cf8 (by decide) rfl lf_X11_109 ?_
      refine am_if_ne (tgt := 73) (am_dec tmX11_map 30 rfl) (by decide) (fun c13 => ?_) (fun c13 => ?_)
      · rw [if_neg c13] at hf
        refine am_aload_n (am_dec tmX11_map 35 rfl) rfl rfl ?_
        refine am_getR (j := 3) hE (am_dec tmX11_map 36 rfl) sh_16 cf11 (by decide) rfl lf_X11_26 rf_16_3 ?_
        refine am_getI (j := 2) hE (am_dec tmX11_map 37 rfl) sh_69 cf8 (by decide) rfl lf_X11_109 ?_
        refine am_bipush (v := (10 : Int32)) (am_dec tmX11_map 38 rfl) (by decide) ?_
        refine am_isub (am_dec tmX11_map 39 rfl) ?_
        have hf := Sum.inr.inj (Option.some.inj hf)
        subst hf
        exact am_iret (am_dec tmX11_map 40 rfl) rfl (Nat.zero_le _) (Nat.zero_le _)
      · rw [if_pos c13] at hf
        refine am_aload_n (am_dec tmX11_map 31 rfl) rfl rfl ?_
        refine am_getR (j := 0) hE (am_dec tmX11_map 32 rfl) sh_16 cf11 (by decide) rfl lf_X11_10 rf_16_0 ?_
        obtain ⟨x15, g14, hf⟩ := am_bd hf
        refine am_callV1 (As := []) (st := []) hE (am_dec tmX11_map 33 rfl) ok_X1_takeMap rfl lm_X11_124 in_X1_takeMap se_X1_takeMap sh_17 cf1 (c_X1_takeMap hE g14) rfl (by decide) (Nat.le_of_ble_eq_true rfl) (Nat.zero_le _) (Nat.zero_le _) rfl ?_
        refine am_goto (tgt := 83) (am_dec tmX11_map 34 rfl) (by decide) ?_
        have hf := Sum.inr.inj (Option.some.inj hf)
        subst hf
        exact am_iret (am_dec tmX11_map 40 rfl) rfl (Nat.zero_le _) (Nat.zero_le _)
    · refine am_callV1 (w := .null) (As := []) (st := []) hE (am_dec tmX11_map 17 rfl) ok_X1_freeMap rfl lm_X11_116 in_X1_freeMap se_X1_freeMap sh_17 cf1 (c_X1_freeMap hE  g9) rfl (by decide) (Nat.le_of_ble_eq_true rfl) (Nat.zero_le _) (Nat.zero_le _) rfl ?_
      refine am_astore_nN (lv' := [(0, .ref 16), (1, .int p1), (2, .null)]) (am_dec tmX11_map 18 rfl) rfl (by decide) rfl ?_
      refine am_aload_nN (am_dec tmX11_map 19 rfl) rfl rfl ?_
      refine am_ifnonnullN (am_dec tmX11_map 20 rfl) ?_
      refine am_iconst (v := (-1 : Int32)) (am_dec tmX11_map 21 rfl) (by decide) ?_
      have hf := Sum.inr.inj (Option.some.inj hf)
      subst hf
      exact am_iret (am_dec tmX11_map 22 rfl) rfl (Nat.zero_le _) (Nat.zero_le _)
  replace hf := g16
  refine am_if_lt (tgt := 19) (am_dec tmX11_map 1 rfl) (by decide) (fun c1 => ?_) (fun c1 => ?_)
  · rw [if_pos c1] at hf
    refine am_iconst (v := (0 : Int32)) (am_dec tmX11_map 9 rfl) (by decide) ?_
    have hf := Option.some.inj hf
    subst hf
    exact am_pick [0, 1] rfl key2
  · rw [if_neg c1] at hf
    refine am_iload_n (am_dec tmX11_map 2 rfl) rfl rfl ?_
    refine am_aload_n (am_dec tmX11_map 3 rfl) rfl rfl ?_
    refine am_getR (j := 3) hE (am_dec tmX11_map 4 rfl) sh_16 cf11 (by decide) rfl lf_X11_26 rf_16_3 ?_
    refine am_getI (j := 1) hE (am_dec tmX11_map 5 rfl) sh_69 cf8 (by decide) rfl lf_X11_87 ?_
    refine am_icmp_gt (tgt := 19) (am_dec tmX11_map 6 rfl) (by decide) (fun c3 => ?_) (fun c3 => ?_)
    · rw [if_pos c3] at hf
      refine am_iconst (v := (0 : Int32)) (am_dec tmX11_map 9 rfl) (by decide) ?_
      have hf := Option.some.inj hf
      subst hf
      exact am_pick [0, 1] rfl key2
    · rw [if_neg c3] at hf
      refine am_iconst (v := (1 : Int32)) (am_dec tmX11_map 7 rfl) (by decide) ?_
      refine am_goto (tgt := 20) (am_dec tmX11_map 8 rfl) (by decide) ?_
      have hf := Option.some.inj hf
      subst hf
      exact am_pick [0, 1] rfl key2
set_option maxRecDepth 100000 in
set_option maxHeartbeats 4000000 in
theorem t_X11_map {E : am_E} (hE : am_EH E) {p1 : Int32} {D : am_D} {r : String × am_D}  (hf : f_X11_map p1 D = some (.inl r)) : am_C E mX11_map 9 1 6 [.ref 16, .int p1] am_G0 D (.inr r.1) am_G0 r.2 := by
  refine am_C_of (by decide +kernel) (Nat.le_of_ble_eq_true rfl) ?_
  change am_S E mX11_map 9 1 6 (.inr r.1) am_G0 r.2 0 0 0 [(0, .ref 16), (1, .int p1)] [] am_G0 D
  unfold f_X11_map at hf
  refine am_iload_n (am_dec tmX11_map 0 rfl) rfl rfl ?_
  obtain ⟨w4, g16, hf⟩ := am_bd hf
  have key2 : am_S E mX11_map 9 1 6 (.inr r.1) am_G0 r.2 0 0 20 [(0, .ref 16), (1, .int p1)] [.int w4] am_G0 D := by
    rcases am_btDT hf with ⟨g5, eD⟩ | ⟨x6, g5, hf⟩
    · rw [eD]
      exact am_callS_out (As := [.int w4]) (st := []) (am_dec tmX11_map 10 rfl) ok_X11_need rfl lm_X11_94 st_X11_need (t_X11_need hE g5) rfl (by decide) (Nat.le_of_ble_eq_true rfl) (Nat.le_refl _) (Nat.le_refl _) rfl rfl
    · refine am_callS0 (As := [.int w4]) (st := []) (am_dec tmX11_map 10 rfl) ok_X11_need rfl lm_X11_94 st_X11_need (c_X11_need hE g5) rfl (by decide) (Nat.le_of_ble_eq_true rfl) (Nat.zero_le _) (Nat.zero_le _) rfl ?_
      refine am_aload_n (am_dec tmX11_map 11 rfl) rfl rfl ?_
      refine am_getR (j := 3) hE (am_dec tmX11_map 12 rfl) sh_16 cf11 (by decide) rfl lf_X11_26 rf_16_3 ?_
      refine am_iload_n (am_dec tmX11_map 13 rfl) rfl rfl ?_
      obtain ⟨x8, g7, hf⟩ := am_bd hf
      refine am_callV0 (As := [.int p1]) (st := []) hE (am_dec tmX11_map 14 rfl) ok_X8_takeText rfl lm_X11_98 in_X8_takeText se_X8_takeText sh_69 cf8 (c_X8_takeText hE g7) rfl (by decide) (Nat.le_of_ble_eq_true rfl) (Nat.zero_le _) (Nat.zero_le _) rfl ?_
      refine am_aload_n (am_dec tmX11_map 15 rfl) rfl rfl ?_
      refine am_getR (j := 0) hE (am_dec tmX11_map 16 rfl) sh_16 cf11 (by decide) rfl lf_X11_10 rf_16_0 ?_
      rcases am_bnd hf with ⟨x10, g9, hf⟩ | ⟨g9, hf⟩
      · have h_x10 := k_X1_freeMap g9
        refine am_callV1 (w := .ref x10) (As := []) (st := []) hE (am_dec tmX11_map 17 rfl) ok_X1_freeMap rfl lm_X11_116 in_X1_freeMap se_X1_freeMap sh_17 cf1 (c_X1_freeMap hE  g9) rfl (by decide) (Nat.le_of_ble_eq_true rfl) (Nat.zero_le _) (Nat.zero_le _) rfl ?_
        refine am_astore_n (lv' := [(0, .ref 16), (1, .int p1), (2, .ref x10)]) (am_dec tmX11_map 18 rfl) rfl (by decide) rfl ?_
        refine am_aload_n (am_dec tmX11_map 19 rfl) rfl rfl ?_
        refine am_ifnonnull (tgt := 45) (am_dec tmX11_map 20 rfl) (by decide) ?_
        refine am_aload_n (am_dec tmX11_map 23 rfl) rfl rfl ?_
        refine am_getR (j := 3) hE (am_dec tmX11_map 24 rfl) sh_16 cf11 (by decide) rfl lf_X11_26 rf_16_3 ?_
        refine am_aload_n (am_dec tmX11_map 25 rfl) rfl rfl ?_
        obtain ⟨x12, g11, hf⟩ := am_bd hf
        refine am_callV0 (As := [.ref x10]) (st := []) hE (am_dec tmX11_map 26 rfl) ok_X8_readMap rfl lm_X11_120 in_X8_readMap se_X8_readMap sh_69 cf8 (c_X8_readMap hE h_x10 g11) rfl (by decide) (Nat.le_of_ble_eq_true rfl) (Nat.zero_le _) (Nat.zero_le _) rfl ?_
        refine am_aload_n (am_dec tmX11_map 27 rfl) rfl rfl ?_
        refine am_getR (j := 3) hE (am_dec tmX11_map 28 rfl) sh_16 cf11 (by decide) rfl lf_X11_26 rf_16_3 ?_
        refine am_getI (j := 2) hE (am_dec tmX11_map 29 rfl) sh_69 cf8 (by decide) rfl lf_X11_109 ?_
        refine am_if_ne (tgt := 73) (am_dec tmX11_map 30 rfl) (by decide) (fun c13 => ?_) (fun c13 => ?_)
        · rw [if_neg c13] at hf
          refine am_aload_n (am_dec tmX11_map 35 rfl) rfl rfl ?_
          refine am_getR (j := 3) hE (am_dec tmX11_map 36 rfl) sh_16 cf11 (by decide) rfl lf_X11_26 rf_16_3 ?_
          refine am_getI (j := 2) hE (am_dec tmX11_map 37 rfl) sh_69 cf8 (by decide) rfl lf_X11_109 ?_
          refine am_bipush (v := (10 : Int32)) (am_dec tmX11_map 38 rfl) (by decide) ?_
          refine am_isub (am_dec tmX11_map 39 rfl) ?_
          cases hf
        · rw [if_pos c13] at hf
          refine am_aload_n (am_dec tmX11_map 31 rfl) rfl rfl ?_
          refine am_getR (j := 0) hE (am_dec tmX11_map 32 rfl) sh_16 cf11 (by decide) rfl lf_X11_10 rf_16_0 ?_
          obtain ⟨x15, g14, hf⟩ := am_bd hf
          refine am_callV1 (As := []) (st := []) hE (am_dec tmX11_map 33 rfl) ok_X1_takeMap rfl lm_X11_124 in_X1_takeMap se_X1_takeMap sh_17 cf1 (c_X1_takeMap hE g14) rfl (by decide) (Nat.le_of_ble_eq_true rfl) (Nat.zero_le _) (Nat.zero_le _) rfl ?_
          refine am_goto (tgt := 83) (am_dec tmX11_map 34 rfl) (by decide) ?_
          cases hf
      · refine am_callV1 (w := .null) (As := []) (st := []) hE (am_dec tmX11_map 17 rfl) ok_X1_freeMap rfl lm_X11_116 in_X1_freeMap se_X1_freeMap sh_17 cf1 (c_X1_freeMap hE  g9) rfl (by decide) (Nat.le_of_ble_eq_true rfl) (Nat.zero_le _) (Nat.zero_le _) rfl ?_
        refine am_astore_nN (lv' := [(0, .ref 16), (1, .int p1), (2, .null)]) (am_dec tmX11_map 18 rfl) rfl (by decide) rfl ?_
        refine am_aload_nN (am_dec tmX11_map 19 rfl) rfl rfl ?_
        refine am_ifnonnullN (am_dec tmX11_map 20 rfl) ?_
        refine am_iconst (v := (-1 : Int32)) (am_dec tmX11_map 21 rfl) (by decide) ?_
        cases hf
  replace hf := g16
  refine am_if_lt (tgt := 19) (am_dec tmX11_map 1 rfl) (by decide) (fun c1 => ?_) (fun c1 => ?_)
  · rw [if_pos c1] at hf
    refine am_iconst (v := (0 : Int32)) (am_dec tmX11_map 9 rfl) (by decide) ?_
    have hf := Option.some.inj hf
    subst hf
    exact am_pick [0, 1] rfl key2
  · rw [if_neg c1] at hf
    refine am_iload_n (am_dec tmX11_map 2 rfl) rfl rfl ?_
    refine am_aload_n (am_dec tmX11_map 3 rfl) rfl rfl ?_
    refine am_getR (j := 3) hE (am_dec tmX11_map 4 rfl) sh_16 cf11 (by decide) rfl lf_X11_26 rf_16_3 ?_
    refine am_getI (j := 1) hE (am_dec tmX11_map 5 rfl) sh_69 cf8 (by decide) rfl lf_X11_87 ?_
    refine am_icmp_gt (tgt := 19) (am_dec tmX11_map 6 rfl) (by decide) (fun c3 => ?_) (fun c3 => ?_)
    · rw [if_pos c3] at hf
      refine am_iconst (v := (0 : Int32)) (am_dec tmX11_map 9 rfl) (by decide) ?_
      have hf := Option.some.inj hf
      subst hf
      exact am_pick [0, 1] rfl key2
    · rw [if_neg c3] at hf
      refine am_iconst (v := (1 : Int32)) (am_dec tmX11_map 7 rfl) (by decide) ?_
      refine am_goto (tgt := 20) (am_dec tmX11_map 8 rfl) (by decide) ?_
      have hf := Option.some.inj hf
      subst hf
      exact am_pick [0, 1] rfl key2
def f_X11_fault (D : am_D) : Option (Int32) :=
    if (D.1 69 2) = 0 then
    some (-1 : Int32)
    else
    some (D.1 69 3)
set_option maxRecDepth 100000 in
set_option maxHeartbeats 4000000 in
theorem c_X11_fault {E : am_E} (hE : am_EH E) {D : am_D} {r : Int32}  (hf : f_X11_fault D = some r) : am_C E mX11_fault 1 0 0 [.ref 16] am_G0 D (.inl (some (.int r))) am_G0 D := by
  refine am_C_of (by decide +kernel) (Nat.le_of_ble_eq_true rfl) ?_
  change am_S E mX11_fault 1 0 0 (.inl (some (.int r))) am_G0 D 0 0 0 [(0, .ref 16)] [] am_G0 D
  unfold f_X11_fault at hf
  refine am_aload_n (am_dec tmX11_fault 0 rfl) rfl rfl ?_
  refine am_getR (j := 3) hE (am_dec tmX11_fault 1 rfl) sh_16 cf11 (by decide) rfl lf_X11_26 rf_16_3 ?_
  refine am_getI (j := 2) hE (am_dec tmX11_fault 2 rfl) sh_69 cf8 (by decide) rfl lf_X11_109 ?_
  refine am_if_ne (tgt := 14) (am_dec tmX11_fault 3 rfl) (by decide) (fun c1 => ?_) (fun c1 => ?_)
  · rw [if_neg c1] at hf
    refine am_aload_n (am_dec tmX11_fault 6 rfl) rfl rfl ?_
    refine am_getR (j := 3) hE (am_dec tmX11_fault 7 rfl) sh_16 cf11 (by decide) rfl lf_X11_26 rf_16_3 ?_
    refine am_getI (j := 3) hE (am_dec tmX11_fault 8 rfl) sh_69 cf8 (by decide) rfl lf_X11_127 ?_
    have hf := Option.some.inj hf
    subst hf
    exact am_iret (am_dec tmX11_fault 9 rfl) rfl (Nat.zero_le _) (Nat.zero_le _)
  · rw [if_pos c1] at hf
    refine am_iconst (v := (-1 : Int32)) (am_dec tmX11_fault 4 rfl) (by decide) ?_
    refine am_goto (tgt := 21) (am_dec tmX11_fault 5 rfl) (by decide) ?_
    have hf := Option.some.inj hf
    subst hf
    exact am_iret (am_dec tmX11_fault 9 rfl) rfl (Nat.zero_le _) (Nat.zero_le _)
def f_X11_soundOf (p1 : Int32) (D : am_D) : Option (String ⊕ Nat) :=
    if p1 < 0 then
    some (.inl "java/util/NoSuchElementException")
    else
    if (D.1 17 7) ≤ p1 then
    some (.inl "java/util/NoSuchElementException")
    else
    if p1 < (5 : Int32) then
    (am_gA 5 p1).bind fun j4 =>
    some (.inr (30 + 2 * j4))
    else
    some (.inl "java/util/NoSuchElementException")
set_option maxRecDepth 100000 in
set_option maxHeartbeats 4000000 in
theorem c_X11_soundOf {E : am_E} (hE : am_EH E) {p1 : Int32} {D : am_D} {r : Nat}  (hf : f_X11_soundOf p1 D = some (.inr r)) : am_C E mX11_soundOf 1 0 0 [.ref 16, .int p1] am_G0 D (.inl (some (.ref r))) am_G0 D := by
  refine am_C_of (by decide +kernel) (Nat.le_of_ble_eq_true rfl) ?_
  change am_S E mX11_soundOf 1 0 0 (.inl (some (.ref r))) am_G0 D 0 0 0 [(0, .ref 16), (1, .int p1)] [] am_G0 D
  unfold f_X11_soundOf at hf
  refine am_iload_n (am_dec tmX11_soundOf 0 rfl) rfl rfl ?_
  refine am_if_lt (tgt := 20) (am_dec tmX11_soundOf 1 rfl) (by decide) (fun c1 => ?_) (fun c1 => ?_)
  · rw [if_pos c1] at hf
    cases hf
  · rw [if_neg c1] at hf
    refine am_iload_n (am_dec tmX11_soundOf 2 rfl) rfl rfl ?_
    refine am_aload_n (am_dec tmX11_soundOf 3 rfl) rfl rfl ?_
    refine am_getR (j := 0) hE (am_dec tmX11_soundOf 4 rfl) sh_16 cf11 (by decide) rfl lf_X11_10 rf_16_0 ?_
    refine am_getI (j := 7) hE (am_dec tmX11_soundOf 5 rfl) sh_17 cf1 (by decide) rfl lf_X11_442 ?_
    refine am_icmp_ge (tgt := 20) (am_dec tmX11_soundOf 6 rfl) (by decide) (fun c2 => ?_) (fun c2 => ?_)
    · rw [if_pos c2] at hf
      cases hf
    · rw [if_neg c2] at hf
      refine am_iload_n (am_dec tmX11_soundOf 7 rfl) rfl rfl ?_
      refine am_iconst (v := (5 : Int32)) (am_dec tmX11_soundOf 8 rfl) (by decide) ?_
      refine am_icmp_lt (tgt := 28) (am_dec tmX11_soundOf 9 rfl) (by decide) (fun c3 => ?_) (fun c3 => ?_)
      · rw [if_pos c3] at hf
        refine am_aload_n (am_dec tmX11_soundOf 14 rfl) rfl rfl ?_
        refine am_getR (j := 0) hE (am_dec tmX11_soundOf 15 rfl) sh_16 cf11 (by decide) rfl lf_X11_10 rf_16_0 ?_
        refine am_getR (j := 0) hE (am_dec tmX11_soundOf 16 rfl) sh_17 cf1 (by decide) rfl lf_X11_454 rf_17_0 ?_
        refine am_iload_n (am_dec tmX11_soundOf 17 rfl) rfl rfl ?_
        obtain ⟨j4, g5, hf⟩ := am_bd hf
        have hj_j4 := (am_gA_lt g5).1
        refine am_aald2 (t := 2) hE (am_dec tmX11_soundOf 18 rfl) sh_18 (by decide) rfl rfl g5 (rr_18 hj_j4) ?_
        have hf := Sum.inr.inj (Option.some.inj hf)
        subst hf
        exact am_aret (am_dec tmX11_soundOf 19 rfl) rfl (Or.inl ⟨_, rfl⟩) (Nat.zero_le _) (Nat.zero_le _)
      · rw [if_neg c3] at hf
        cases hf
set_option maxRecDepth 100000 in
set_option maxHeartbeats 4000000 in
theorem t_X11_soundOf {E : am_E} (hE : am_EH E) {p1 : Int32} {D : am_D} {r : String}  (hf : f_X11_soundOf p1 D = some (.inl r)) : am_C E mX11_soundOf 1 1 6 [.ref 16, .int p1] am_G0 D (.inr r) am_G0 D := by
  refine am_C_of (by decide +kernel) (Nat.le_of_ble_eq_true rfl) ?_
  change am_S E mX11_soundOf 1 1 6 (.inr r) am_G0 D 0 0 0 [(0, .ref 16), (1, .int p1)] [] am_G0 D
  unfold f_X11_soundOf at hf
  refine am_iload_n (am_dec tmX11_soundOf 0 rfl) rfl rfl ?_
  refine am_if_lt (tgt := 20) (am_dec tmX11_soundOf 1 rfl) (by decide) (fun c1 => ?_) (fun c1 => ?_)
  · rw [if_pos c1] at hf
    have hf := Sum.inl.inj (Option.some.inj hf)
    subst hf
    exact am_throw (cls := "java/util/NoSuchElementException") hE (names := ["java/lang/RuntimeException", "java/lang/Exception"]) (am_dec tmX11_soundOf 10 rfl) (am_dec tmX11_soundOf 11 rfl) (am_dec tmX11_soundOf 12 rfl) (am_dec tmX11_soundOf 13 rfl) (by decide +kernel) (by decide +kernel) lcl_X11_451 lin_NoSuchElementException ht_X11_453 rfl (Nat.le_of_ble_eq_true rfl) (Nat.le_refl _) (Nat.le_refl _) rfl rfl
  · rw [if_neg c1] at hf
    refine am_iload_n (am_dec tmX11_soundOf 2 rfl) rfl rfl ?_
    refine am_aload_n (am_dec tmX11_soundOf 3 rfl) rfl rfl ?_
    refine am_getR (j := 0) hE (am_dec tmX11_soundOf 4 rfl) sh_16 cf11 (by decide) rfl lf_X11_10 rf_16_0 ?_
    refine am_getI (j := 7) hE (am_dec tmX11_soundOf 5 rfl) sh_17 cf1 (by decide) rfl lf_X11_442 ?_
    refine am_icmp_ge (tgt := 20) (am_dec tmX11_soundOf 6 rfl) (by decide) (fun c2 => ?_) (fun c2 => ?_)
    · rw [if_pos c2] at hf
      have hf := Sum.inl.inj (Option.some.inj hf)
      subst hf
      exact am_throw (cls := "java/util/NoSuchElementException") hE (names := ["java/lang/RuntimeException", "java/lang/Exception"]) (am_dec tmX11_soundOf 10 rfl) (am_dec tmX11_soundOf 11 rfl) (am_dec tmX11_soundOf 12 rfl) (am_dec tmX11_soundOf 13 rfl) (by decide +kernel) (by decide +kernel) lcl_X11_451 lin_NoSuchElementException ht_X11_453 rfl (Nat.le_of_ble_eq_true rfl) (Nat.le_refl _) (Nat.le_refl _) rfl rfl
    · rw [if_neg c2] at hf
      refine am_iload_n (am_dec tmX11_soundOf 7 rfl) rfl rfl ?_
      refine am_iconst (v := (5 : Int32)) (am_dec tmX11_soundOf 8 rfl) (by decide) ?_
      refine am_icmp_lt (tgt := 28) (am_dec tmX11_soundOf 9 rfl) (by decide) (fun c3 => ?_) (fun c3 => ?_)
      · rw [if_pos c3] at hf
        refine am_aload_n (am_dec tmX11_soundOf 14 rfl) rfl rfl ?_
        refine am_getR (j := 0) hE (am_dec tmX11_soundOf 15 rfl) sh_16 cf11 (by decide) rfl lf_X11_10 rf_16_0 ?_
        refine am_getR (j := 0) hE (am_dec tmX11_soundOf 16 rfl) sh_17 cf1 (by decide) rfl lf_X11_454 rf_17_0 ?_
        refine am_iload_n (am_dec tmX11_soundOf 17 rfl) rfl rfl ?_
        obtain ⟨j4, g5, hf⟩ := am_bd hf
        have hj_j4 := (am_gA_lt g5).1
        refine am_aald2 (t := 2) hE (am_dec tmX11_soundOf 18 rfl) sh_18 (by decide) rfl rfl g5 (rr_18 hj_j4) ?_
        cases hf
      · rw [if_neg c3] at hf
        have hf := Sum.inl.inj (Option.some.inj hf)
        subst hf
        exact am_throw (cls := "java/util/NoSuchElementException") hE (names := ["java/lang/RuntimeException", "java/lang/Exception"]) (am_dec tmX11_soundOf 10 rfl) (am_dec tmX11_soundOf 11 rfl) (am_dec tmX11_soundOf 12 rfl) (am_dec tmX11_soundOf 13 rfl) (by decide +kernel) (by decide +kernel) lcl_X11_451 lin_NoSuchElementException ht_X11_453 rfl (Nat.le_of_ble_eq_true rfl) (Nat.le_refl _) (Nat.le_refl _) rfl rfl
theorem k_X11_soundOf {p1 : Int32} {D : am_D} {r : Nat} (hf : f_X11_soundOf p1 D = some (.inr r)) : am_sh am_G0 r = some (7, 2) := by
  unfold f_X11_soundOf at hf
  by_cases c1 : p1 < 0
  · rw [if_pos c1] at hf
    cases hf
  · rw [if_neg c1] at hf
    by_cases c2 : (D.1 17 7) ≤ p1
    · rw [if_pos c2] at hf
      cases hf
    · rw [if_neg c2] at hf
      by_cases c3 : p1 < (5 : Int32)
      · rw [if_pos c3] at hf
        obtain ⟨j4, g5, hf⟩ := am_bd hf
        have hj_j4 := (am_gA_lt g5).1
        have hf := Sum.inr.inj (Option.some.inj hf)
        subst hf
        exact (sa_18_0 hj_j4)
      · rw [if_neg c3] at hf
        cases hf
def f_X11_size (p1 : Int32) (D : am_D) : Option (String ⊕ Int32) :=
    am_bt (f_X11_soundOf p1 D) fun x2 =>
    some (.inr (D.1 x2 1))
set_option maxRecDepth 100000 in
set_option maxHeartbeats 4000000 in
theorem c_X11_size {E : am_E} (hE : am_EH E) {p1 : Int32} {D : am_D} {r : Int32}  (hf : f_X11_size p1 D = some (.inr r)) : am_C E mX11_size 2 0 0 [.ref 16, .int p1] am_G0 D (.inl (some (.int r))) am_G0 D := by
  refine am_C_of (by decide +kernel) (Nat.le_of_ble_eq_true rfl) ?_
  change am_S E mX11_size 2 0 0 (.inl (some (.int r))) am_G0 D 0 0 0 [(0, .ref 16), (1, .int p1)] [] am_G0 D
  unfold f_X11_size at hf
  refine am_aload_n (am_dec tmX11_size 0 rfl) rfl rfl ?_
  refine am_iload_n (am_dec tmX11_size 1 rfl) rfl rfl ?_
  obtain ⟨x2, g1, hf⟩ := am_btR hf
  have h_x2 := k_X11_soundOf g1
  refine am_callV1 (As := [.int p1]) (st := []) hE (am_dec tmX11_size 2 rfl) ok_X11_soundOf rfl lm_X11_130 in_X11_soundOf se_X11_soundOf sh_16 cf11 (c_X11_soundOf hE g1) rfl (by decide) (Nat.le_of_ble_eq_true rfl) (Nat.zero_le _) (Nat.zero_le _) rfl ?_
  refine am_getI (j := 1) hE (am_dec tmX11_size 3 rfl) h_x2 cf7 (by decide) rfl lf_X11_134 ?_
  have hf := Sum.inr.inj (Option.some.inj hf)
  subst hf
  exact am_iret (am_dec tmX11_size 4 rfl) rfl (Nat.zero_le _) (Nat.zero_le _)
set_option maxRecDepth 100000 in
set_option maxHeartbeats 4000000 in
theorem t_X11_size {E : am_E} (hE : am_EH E) {p1 : Int32} {D : am_D} {r : String}  (hf : f_X11_size p1 D = some (.inl r)) : am_C E mX11_size 2 1 6 [.ref 16, .int p1] am_G0 D (.inr r) am_G0 D := by
  refine am_C_of (by decide +kernel) (Nat.le_of_ble_eq_true rfl) ?_
  change am_S E mX11_size 2 1 6 (.inr r) am_G0 D 0 0 0 [(0, .ref 16), (1, .int p1)] [] am_G0 D
  unfold f_X11_size at hf
  refine am_aload_n (am_dec tmX11_size 0 rfl) rfl rfl ?_
  refine am_iload_n (am_dec tmX11_size 1 rfl) rfl rfl ?_
  rcases am_btT hf with g1 | ⟨x2, g1, hf⟩
  · exact am_callV_out (As := [.int p1]) (st := []) hE (am_dec tmX11_size 2 rfl) ok_X11_soundOf rfl lm_X11_130 in_X11_soundOf se_X11_soundOf sh_16 cf11 (t_X11_soundOf hE g1) rfl (by decide) (Nat.le_of_ble_eq_true rfl) (Nat.le_refl _) (Nat.le_refl _) rfl rfl
  · have h_x2 := k_X11_soundOf g1
    refine am_callV1 (As := [.int p1]) (st := []) hE (am_dec tmX11_size 2 rfl) ok_X11_soundOf rfl lm_X11_130 in_X11_soundOf se_X11_soundOf sh_16 cf11 (c_X11_soundOf hE g1) rfl (by decide) (Nat.le_of_ble_eq_true rfl) (Nat.zero_le _) (Nat.zero_le _) rfl ?_
    refine am_getI (j := 1) hE (am_dec tmX11_size 3 rfl) h_x2 cf7 (by decide) rfl lf_X11_134 ?_
    cases hf
def f_X11_sample (p1 : Int32) (p2 : Int32) (D : am_D) : Option (String ⊕ Int32) :=
    am_bt (f_X11_soundOf p1 D) fun x2 =>
    (f_X7_toldAt x2 p2 D).bind fun x4 =>
    some (.inr x4)
set_option maxRecDepth 100000 in
set_option maxHeartbeats 4000000 in
theorem c_X11_sample {E : am_E} (hE : am_EH E) {p1 : Int32} {p2 : Int32} {D : am_D} {r : Int32}  (hf : f_X11_sample p1 p2 D = some (.inr r)) : am_C E mX11_sample 3 0 0 [.ref 16, .int p1, .int p2] am_G0 D (.inl (some (.int r))) am_G0 D := by
  refine am_C_of (by decide +kernel) (Nat.le_of_ble_eq_true rfl) ?_
  change am_S E mX11_sample 3 0 0 (.inl (some (.int r))) am_G0 D 0 0 0 [(0, .ref 16), (1, .int p1), (2, .int p2)] [] am_G0 D
  unfold f_X11_sample at hf
  refine am_aload_n (am_dec tmX11_sample 0 rfl) rfl rfl ?_
  refine am_iload_n (am_dec tmX11_sample 1 rfl) rfl rfl ?_
  obtain ⟨x2, g1, hf⟩ := am_btR hf
  have h_x2 := k_X11_soundOf g1
  refine am_callV1 (As := [.int p1]) (st := []) hE (am_dec tmX11_sample 2 rfl) ok_X11_soundOf rfl lm_X11_130 in_X11_soundOf se_X11_soundOf sh_16 cf11 (c_X11_soundOf hE g1) rfl (by decide) (Nat.le_of_ble_eq_true rfl) (Nat.zero_le _) (Nat.zero_le _) rfl ?_
  refine am_iload_n (am_dec tmX11_sample 3 rfl) rfl rfl ?_
  obtain ⟨x4, g3, hf⟩ := am_bd hf
  refine am_callV1 (As := [.int p2]) (st := []) hE (am_dec tmX11_sample 4 rfl) ok_X7_toldAt rfl lm_X11_135 in_X7_toldAt se_X7_toldAt h_x2 cf7 (c_X7_toldAt hE h_x2 g3) rfl (by decide) (Nat.le_of_ble_eq_true rfl) (Nat.zero_le _) (Nat.zero_le _) rfl ?_
  have hf := Sum.inr.inj (Option.some.inj hf)
  subst hf
  exact am_iret (am_dec tmX11_sample 5 rfl) rfl (Nat.zero_le _) (Nat.zero_le _)
set_option maxRecDepth 100000 in
set_option maxHeartbeats 4000000 in
theorem t_X11_sample {E : am_E} (hE : am_EH E) {p1 : Int32} {p2 : Int32} {D : am_D} {r : String}  (hf : f_X11_sample p1 p2 D = some (.inl r)) : am_C E mX11_sample 3 1 6 [.ref 16, .int p1, .int p2] am_G0 D (.inr r) am_G0 D := by
  refine am_C_of (by decide +kernel) (Nat.le_of_ble_eq_true rfl) ?_
  change am_S E mX11_sample 3 1 6 (.inr r) am_G0 D 0 0 0 [(0, .ref 16), (1, .int p1), (2, .int p2)] [] am_G0 D
  unfold f_X11_sample at hf
  refine am_aload_n (am_dec tmX11_sample 0 rfl) rfl rfl ?_
  refine am_iload_n (am_dec tmX11_sample 1 rfl) rfl rfl ?_
  rcases am_btT hf with g1 | ⟨x2, g1, hf⟩
  · exact am_callV_out (As := [.int p1]) (st := []) hE (am_dec tmX11_sample 2 rfl) ok_X11_soundOf rfl lm_X11_130 in_X11_soundOf se_X11_soundOf sh_16 cf11 (t_X11_soundOf hE g1) rfl (by decide) (Nat.le_of_ble_eq_true rfl) (Nat.le_refl _) (Nat.le_refl _) rfl rfl
  · have h_x2 := k_X11_soundOf g1
    refine am_callV1 (As := [.int p1]) (st := []) hE (am_dec tmX11_sample 2 rfl) ok_X11_soundOf rfl lm_X11_130 in_X11_soundOf se_X11_soundOf sh_16 cf11 (c_X11_soundOf hE g1) rfl (by decide) (Nat.le_of_ble_eq_true rfl) (Nat.zero_le _) (Nat.zero_le _) rfl ?_
    refine am_iload_n (am_dec tmX11_sample 3 rfl) rfl rfl ?_
    obtain ⟨x4, g3, hf⟩ := am_bd hf
    refine am_callV1 (As := [.int p2]) (st := []) hE (am_dec tmX11_sample 4 rfl) ok_X7_toldAt rfl lm_X11_135 in_X7_toldAt se_X7_toldAt h_x2 cf7 (c_X7_toldAt hE h_x2 g3) rfl (by decide) (Nat.le_of_ble_eq_true rfl) (Nat.zero_le _) (Nat.zero_le _) rfl ?_
    cases hf
def f_X11_mapOf (p1 : Int32) (D : am_D) : Option (String ⊕ Nat) :=
    if p1 < 0 then
    some (.inl "java/lang/IndexOutOfBoundsException")
    else
    if (D.1 17 8) ≤ p1 then
    some (.inl "java/lang/IndexOutOfBoundsException")
    else
    if p1 < (5 : Int32) then
    (am_gA 5 p1).bind fun j4 =>
    some (.inr (40 + 3 * j4))
    else
    some (.inl "java/lang/IndexOutOfBoundsException")
set_option maxRecDepth 100000 in
set_option maxHeartbeats 4000000 in
theorem c_X11_mapOf {E : am_E} (hE : am_EH E) {p1 : Int32} {D : am_D} {r : Nat}  (hf : f_X11_mapOf p1 D = some (.inr r)) : am_C E mX11_mapOf 1 0 0 [.ref 16, .int p1] am_G0 D (.inl (some (.ref r))) am_G0 D := by
  refine am_C_of (by decide +kernel) (Nat.le_of_ble_eq_true rfl) ?_
  change am_S E mX11_mapOf 1 0 0 (.inl (some (.ref r))) am_G0 D 0 0 0 [(0, .ref 16), (1, .int p1)] [] am_G0 D
  unfold f_X11_mapOf at hf
  refine am_iload_n (am_dec tmX11_mapOf 0 rfl) rfl rfl ?_
  refine am_if_lt (tgt := 20) (am_dec tmX11_mapOf 1 rfl) (by decide) (fun c1 => ?_) (fun c1 => ?_)
  · rw [if_pos c1] at hf
    cases hf
  · rw [if_neg c1] at hf
    refine am_iload_n (am_dec tmX11_mapOf 2 rfl) rfl rfl ?_
    refine am_aload_n (am_dec tmX11_mapOf 3 rfl) rfl rfl ?_
    refine am_getR (j := 0) hE (am_dec tmX11_mapOf 4 rfl) sh_16 cf11 (by decide) rfl lf_X11_10 rf_16_0 ?_
    refine am_getI (j := 8) hE (am_dec tmX11_mapOf 5 rfl) sh_17 cf1 (by decide) rfl lf_X11_445 ?_
    refine am_icmp_ge (tgt := 20) (am_dec tmX11_mapOf 6 rfl) (by decide) (fun c2 => ?_) (fun c2 => ?_)
    · rw [if_pos c2] at hf
      cases hf
    · rw [if_neg c2] at hf
      refine am_iload_n (am_dec tmX11_mapOf 7 rfl) rfl rfl ?_
      refine am_iconst (v := (5 : Int32)) (am_dec tmX11_mapOf 8 rfl) (by decide) ?_
      refine am_icmp_lt (tgt := 28) (am_dec tmX11_mapOf 9 rfl) (by decide) (fun c3 => ?_) (fun c3 => ?_)
      · rw [if_pos c3] at hf
        refine am_aload_n (am_dec tmX11_mapOf 14 rfl) rfl rfl ?_
        refine am_getR (j := 0) hE (am_dec tmX11_mapOf 15 rfl) sh_16 cf11 (by decide) rfl lf_X11_10 rf_16_0 ?_
        refine am_getR (j := 1) hE (am_dec tmX11_mapOf 16 rfl) sh_17 cf1 (by decide) rfl lf_X11_461 rf_17_1 ?_
        refine am_iload_n (am_dec tmX11_mapOf 17 rfl) rfl rfl ?_
        obtain ⟨j4, g5, hf⟩ := am_bd hf
        have hj_j4 := (am_gA_lt g5).1
        refine am_aald2 (t := 3) hE (am_dec tmX11_mapOf 18 rfl) sh_19 (by decide) rfl rfl g5 (rr_19 hj_j4) ?_
        have hf := Sum.inr.inj (Option.some.inj hf)
        subst hf
        exact am_aret (am_dec tmX11_mapOf 19 rfl) rfl (Or.inl ⟨_, rfl⟩) (Nat.zero_le _) (Nat.zero_le _)
      · rw [if_neg c3] at hf
        cases hf
set_option maxRecDepth 100000 in
set_option maxHeartbeats 4000000 in
theorem t_X11_mapOf {E : am_E} (hE : am_EH E) {p1 : Int32} {D : am_D} {r : String}  (hf : f_X11_mapOf p1 D = some (.inl r)) : am_C E mX11_mapOf 1 1 6 [.ref 16, .int p1] am_G0 D (.inr r) am_G0 D := by
  refine am_C_of (by decide +kernel) (Nat.le_of_ble_eq_true rfl) ?_
  change am_S E mX11_mapOf 1 1 6 (.inr r) am_G0 D 0 0 0 [(0, .ref 16), (1, .int p1)] [] am_G0 D
  unfold f_X11_mapOf at hf
  refine am_iload_n (am_dec tmX11_mapOf 0 rfl) rfl rfl ?_
  refine am_if_lt (tgt := 20) (am_dec tmX11_mapOf 1 rfl) (by decide) (fun c1 => ?_) (fun c1 => ?_)
  · rw [if_pos c1] at hf
    have hf := Sum.inl.inj (Option.some.inj hf)
    subst hf
    exact am_throw (cls := "java/lang/IndexOutOfBoundsException") hE (names := ["java/lang/RuntimeException", "java/lang/Exception"]) (am_dec tmX11_mapOf 10 rfl) (am_dec tmX11_mapOf 11 rfl) (am_dec tmX11_mapOf 12 rfl) (am_dec tmX11_mapOf 13 rfl) (by decide +kernel) (by decide +kernel) lcl_X11_458 lin_IndexOutOfBoundsException ht_X11_460 rfl (Nat.le_of_ble_eq_true rfl) (Nat.le_refl _) (Nat.le_refl _) rfl rfl
  · rw [if_neg c1] at hf
    refine am_iload_n (am_dec tmX11_mapOf 2 rfl) rfl rfl ?_
    refine am_aload_n (am_dec tmX11_mapOf 3 rfl) rfl rfl ?_
    refine am_getR (j := 0) hE (am_dec tmX11_mapOf 4 rfl) sh_16 cf11 (by decide) rfl lf_X11_10 rf_16_0 ?_
    refine am_getI (j := 8) hE (am_dec tmX11_mapOf 5 rfl) sh_17 cf1 (by decide) rfl lf_X11_445 ?_
    refine am_icmp_ge (tgt := 20) (am_dec tmX11_mapOf 6 rfl) (by decide) (fun c2 => ?_) (fun c2 => ?_)
    · rw [if_pos c2] at hf
      have hf := Sum.inl.inj (Option.some.inj hf)
      subst hf
      exact am_throw (cls := "java/lang/IndexOutOfBoundsException") hE (names := ["java/lang/RuntimeException", "java/lang/Exception"]) (am_dec tmX11_mapOf 10 rfl) (am_dec tmX11_mapOf 11 rfl) (am_dec tmX11_mapOf 12 rfl) (am_dec tmX11_mapOf 13 rfl) (by decide +kernel) (by decide +kernel) lcl_X11_458 lin_IndexOutOfBoundsException ht_X11_460 rfl (Nat.le_of_ble_eq_true rfl) (Nat.le_refl _) (Nat.le_refl _) rfl rfl
    · rw [if_neg c2] at hf
      refine am_iload_n (am_dec tmX11_mapOf 7 rfl) rfl rfl ?_
      refine am_iconst (v := (5 : Int32)) (am_dec tmX11_mapOf 8 rfl) (by decide) ?_
      refine am_icmp_lt (tgt := 28) (am_dec tmX11_mapOf 9 rfl) (by decide) (fun c3 => ?_) (fun c3 => ?_)
      · rw [if_pos c3] at hf
        refine am_aload_n (am_dec tmX11_mapOf 14 rfl) rfl rfl ?_
        refine am_getR (j := 0) hE (am_dec tmX11_mapOf 15 rfl) sh_16 cf11 (by decide) rfl lf_X11_10 rf_16_0 ?_
        refine am_getR (j := 1) hE (am_dec tmX11_mapOf 16 rfl) sh_17 cf1 (by decide) rfl lf_X11_461 rf_17_1 ?_
        refine am_iload_n (am_dec tmX11_mapOf 17 rfl) rfl rfl ?_
        obtain ⟨j4, g5, hf⟩ := am_bd hf
        have hj_j4 := (am_gA_lt g5).1
        refine am_aald2 (t := 3) hE (am_dec tmX11_mapOf 18 rfl) sh_19 (by decide) rfl rfl g5 (rr_19 hj_j4) ?_
        cases hf
      · rw [if_neg c3] at hf
        have hf := Sum.inl.inj (Option.some.inj hf)
        subst hf
        exact am_throw (cls := "java/lang/IndexOutOfBoundsException") hE (names := ["java/lang/RuntimeException", "java/lang/Exception"]) (am_dec tmX11_mapOf 10 rfl) (am_dec tmX11_mapOf 11 rfl) (am_dec tmX11_mapOf 12 rfl) (am_dec tmX11_mapOf 13 rfl) (by decide +kernel) (by decide +kernel) lcl_X11_458 lin_IndexOutOfBoundsException ht_X11_460 rfl (Nat.le_of_ble_eq_true rfl) (Nat.le_refl _) (Nat.le_refl _) rfl rfl
theorem k_X11_mapOf {p1 : Int32} {D : am_D} {r : Nat} (hf : f_X11_mapOf p1 D = some (.inr r)) : am_sh am_G0 r = some (9, 3) := by
  unfold f_X11_mapOf at hf
  by_cases c1 : p1 < 0
  · rw [if_pos c1] at hf
    cases hf
  · rw [if_neg c1] at hf
    by_cases c2 : (D.1 17 8) ≤ p1
    · rw [if_pos c2] at hf
      cases hf
    · rw [if_neg c2] at hf
      by_cases c3 : p1 < (5 : Int32)
      · rw [if_pos c3] at hf
        obtain ⟨j4, g5, hf⟩ := am_bd hf
        have hj_j4 := (am_gA_lt g5).1
        have hf := Sum.inr.inj (Option.some.inj hf)
        subst hf
        exact (sa_19_0 hj_j4)
      · rw [if_neg c3] at hf
        cases hf
def f_X11_told (p1 : Int32) (p2 : Int32) (D : am_D) : Option (String ⊕ Int32) :=
    am_bt (f_X11_mapOf p1 D) fun x2 =>
    (f_X11_within p2 (0 : Int32) (2 : Int32)).bind fun x4 =>
    am_bt (f_X11_need x4) fun x6 =>
    if p2 = 0 then
    some (.inr (D.1 x2 2))
    else
    if p2 = (1 : Int32) then
    (f_X9_lastTo x2 D).bind fun x12 =>
    some (.inr x12)
    else
    (f_X9_lastFrom x2 D).bind fun x10 =>
    some (.inr x10)
set_option maxRecDepth 100000 in
set_option maxHeartbeats 4000000 in
theorem c_X11_told {E : am_E} (hE : am_EH E) {p1 : Int32} {p2 : Int32} {D : am_D} {r : Int32}  (hf : f_X11_told p1 p2 D = some (.inr r)) : am_C E mX11_told 3 0 0 [.ref 16, .int p1, .int p2] am_G0 D (.inl (some (.int r))) am_G0 D := by
  refine am_C_of (by decide +kernel) (Nat.le_of_ble_eq_true rfl) ?_
  change am_S E mX11_told 3 0 0 (.inl (some (.int r))) am_G0 D 0 0 0 [(0, .ref 16), (1, .int p1), (2, .int p2)] [] am_G0 D
  unfold f_X11_told at hf
  refine am_aload_n (am_dec tmX11_told 0 rfl) rfl rfl ?_
  refine am_iload_n (am_dec tmX11_told 1 rfl) rfl rfl ?_
  obtain ⟨x2, g1, hf⟩ := am_btR hf
  have h_x2 := k_X11_mapOf g1
  refine am_callV1 (As := [.int p1]) (st := []) hE (am_dec tmX11_told 2 rfl) ok_X11_mapOf rfl lm_X11_139 in_X11_mapOf se_X11_mapOf sh_16 cf11 (c_X11_mapOf hE g1) rfl (by decide) (Nat.le_of_ble_eq_true rfl) (Nat.zero_le _) (Nat.zero_le _) rfl ?_
  refine am_astore_n (lv' := [(0, .ref 16), (1, .int p1), (2, .int p2), (3, .ref x2)]) (am_dec tmX11_told 3 rfl) rfl (by decide) rfl ?_
  refine am_iload_n (am_dec tmX11_told 4 rfl) rfl rfl ?_
  refine am_iconst (v := (0 : Int32)) (am_dec tmX11_told 5 rfl) (by decide) ?_
  refine am_iconst (v := (2 : Int32)) (am_dec tmX11_told 6 rfl) (by decide) ?_
  obtain ⟨x4, g3, hf⟩ := am_bd hf
  refine am_callS1 (As := [.int p2, .int (0 : Int32), .int (2 : Int32)]) (st := []) (am_dec tmX11_told 7 rfl) ok_X11_within rfl lm_X11_143 st_X11_within (c_X11_within hE g3) rfl (by decide) (Nat.le_of_ble_eq_true rfl) (Nat.zero_le _) (Nat.zero_le _) rfl ?_
  obtain ⟨x6, g5, hf⟩ := am_btR hf
  refine am_callS0 (As := [.int x4]) (st := []) (am_dec tmX11_told 8 rfl) ok_X11_need rfl lm_X11_94 st_X11_need (c_X11_need hE g5) rfl (by decide) (Nat.le_of_ble_eq_true rfl) (Nat.zero_le _) (Nat.zero_le _) rfl ?_
  refine am_iload_n (am_dec tmX11_told 9 rfl) rfl rfl ?_
  refine am_if_ne (tgt := 26) (am_dec tmX11_told 10 rfl) (by decide) (fun c7 => ?_) (fun c7 => ?_)
  · rw [if_neg c7] at hf
    refine am_iload_n (am_dec tmX11_told 14 rfl) rfl rfl ?_
    refine am_iconst (v := (1 : Int32)) (am_dec tmX11_told 15 rfl) (by decide) ?_
    refine am_icmp_ne (tgt := 38) (am_dec tmX11_told 16 rfl) (by decide) (fun c8 => ?_) (fun c8 => ?_)
    · rw [if_neg c8] at hf
      refine am_aload_n (am_dec tmX11_told 20 rfl) rfl rfl ?_
      obtain ⟨x10, g9, hf⟩ := am_bd hf
      refine am_callV1 (As := []) (st := []) hE (am_dec tmX11_told 21 rfl) ok_X9_lastFrom rfl lm_X11_151 in_X9_lastFrom se_X9_lastFrom h_x2 cf9 (c_X9_lastFrom hE h_x2 g9) rfl (by decide) (Nat.le_of_ble_eq_true rfl) (Nat.zero_le _) (Nat.zero_le _) rfl ?_
      have hf := Sum.inr.inj (Option.some.inj hf)
      subst hf
      exact am_iret (am_dec tmX11_told 22 rfl) rfl (Nat.zero_le _) (Nat.zero_le _)
    · rw [if_pos c8] at hf
      refine am_aload_n (am_dec tmX11_told 17 rfl) rfl rfl ?_
      obtain ⟨x12, g11, hf⟩ := am_bd hf
      refine am_callV1 (As := []) (st := []) hE (am_dec tmX11_told 18 rfl) ok_X9_lastTo rfl lm_X11_148 in_X9_lastTo se_X9_lastTo h_x2 cf9 (c_X9_lastTo hE h_x2 g11) rfl (by decide) (Nat.le_of_ble_eq_true rfl) (Nat.zero_le _) (Nat.zero_le _) rfl ?_
      refine am_goto (tgt := 42) (am_dec tmX11_told 19 rfl) (by decide) ?_
      have hf := Sum.inr.inj (Option.some.inj hf)
      subst hf
      exact am_iret (am_dec tmX11_told 22 rfl) rfl (Nat.zero_le _) (Nat.zero_le _)
  · rw [if_pos c7] at hf
    refine am_aload_n (am_dec tmX11_told 11 rfl) rfl rfl ?_
    refine am_getI (j := 2) hE (am_dec tmX11_told 12 rfl) h_x2 cf9 (by decide) rfl lf_X11_147 ?_
    refine am_goto (tgt := 42) (am_dec tmX11_told 13 rfl) (by decide) ?_
    have hf := Sum.inr.inj (Option.some.inj hf)
    subst hf
    exact am_iret (am_dec tmX11_told 22 rfl) rfl (Nat.zero_le _) (Nat.zero_le _)
set_option maxRecDepth 100000 in
set_option maxHeartbeats 4000000 in
theorem t_X11_told {E : am_E} (hE : am_EH E) {p1 : Int32} {p2 : Int32} {D : am_D} {r : String}  (hf : f_X11_told p1 p2 D = some (.inl r)) : am_C E mX11_told 3 1 6 [.ref 16, .int p1, .int p2] am_G0 D (.inr r) am_G0 D := by
  refine am_C_of (by decide +kernel) (Nat.le_of_ble_eq_true rfl) ?_
  change am_S E mX11_told 3 1 6 (.inr r) am_G0 D 0 0 0 [(0, .ref 16), (1, .int p1), (2, .int p2)] [] am_G0 D
  unfold f_X11_told at hf
  refine am_aload_n (am_dec tmX11_told 0 rfl) rfl rfl ?_
  refine am_iload_n (am_dec tmX11_told 1 rfl) rfl rfl ?_
  rcases am_btT hf with g1 | ⟨x2, g1, hf⟩
  · exact am_callV_out (As := [.int p1]) (st := []) hE (am_dec tmX11_told 2 rfl) ok_X11_mapOf rfl lm_X11_139 in_X11_mapOf se_X11_mapOf sh_16 cf11 (t_X11_mapOf hE g1) rfl (by decide) (Nat.le_of_ble_eq_true rfl) (Nat.le_refl _) (Nat.le_refl _) rfl rfl
  · have h_x2 := k_X11_mapOf g1
    refine am_callV1 (As := [.int p1]) (st := []) hE (am_dec tmX11_told 2 rfl) ok_X11_mapOf rfl lm_X11_139 in_X11_mapOf se_X11_mapOf sh_16 cf11 (c_X11_mapOf hE g1) rfl (by decide) (Nat.le_of_ble_eq_true rfl) (Nat.zero_le _) (Nat.zero_le _) rfl ?_
    refine am_astore_n (lv' := [(0, .ref 16), (1, .int p1), (2, .int p2), (3, .ref x2)]) (am_dec tmX11_told 3 rfl) rfl (by decide) rfl ?_
    refine am_iload_n (am_dec tmX11_told 4 rfl) rfl rfl ?_
    refine am_iconst (v := (0 : Int32)) (am_dec tmX11_told 5 rfl) (by decide) ?_
    refine am_iconst (v := (2 : Int32)) (am_dec tmX11_told 6 rfl) (by decide) ?_
    obtain ⟨x4, g3, hf⟩ := am_bd hf
    refine am_callS1 (As := [.int p2, .int (0 : Int32), .int (2 : Int32)]) (st := []) (am_dec tmX11_told 7 rfl) ok_X11_within rfl lm_X11_143 st_X11_within (c_X11_within hE g3) rfl (by decide) (Nat.le_of_ble_eq_true rfl) (Nat.zero_le _) (Nat.zero_le _) rfl ?_
    rcases am_btT hf with g5 | ⟨x6, g5, hf⟩
    · exact am_callS_out (As := [.int x4]) (st := []) (am_dec tmX11_told 8 rfl) ok_X11_need rfl lm_X11_94 st_X11_need (t_X11_need hE g5) rfl (by decide) (Nat.le_of_ble_eq_true rfl) (Nat.le_refl _) (Nat.le_refl _) rfl rfl
    · refine am_callS0 (As := [.int x4]) (st := []) (am_dec tmX11_told 8 rfl) ok_X11_need rfl lm_X11_94 st_X11_need (c_X11_need hE g5) rfl (by decide) (Nat.le_of_ble_eq_true rfl) (Nat.zero_le _) (Nat.zero_le _) rfl ?_
      refine am_iload_n (am_dec tmX11_told 9 rfl) rfl rfl ?_
      refine am_if_ne (tgt := 26) (am_dec tmX11_told 10 rfl) (by decide) (fun c7 => ?_) (fun c7 => ?_)
      · rw [if_neg c7] at hf
        refine am_iload_n (am_dec tmX11_told 14 rfl) rfl rfl ?_
        refine am_iconst (v := (1 : Int32)) (am_dec tmX11_told 15 rfl) (by decide) ?_
        refine am_icmp_ne (tgt := 38) (am_dec tmX11_told 16 rfl) (by decide) (fun c8 => ?_) (fun c8 => ?_)
        · rw [if_neg c8] at hf
          refine am_aload_n (am_dec tmX11_told 20 rfl) rfl rfl ?_
          obtain ⟨x10, g9, hf⟩ := am_bd hf
          refine am_callV1 (As := []) (st := []) hE (am_dec tmX11_told 21 rfl) ok_X9_lastFrom rfl lm_X11_151 in_X9_lastFrom se_X9_lastFrom h_x2 cf9 (c_X9_lastFrom hE h_x2 g9) rfl (by decide) (Nat.le_of_ble_eq_true rfl) (Nat.zero_le _) (Nat.zero_le _) rfl ?_
          cases hf
        · rw [if_pos c8] at hf
          refine am_aload_n (am_dec tmX11_told 17 rfl) rfl rfl ?_
          obtain ⟨x12, g11, hf⟩ := am_bd hf
          refine am_callV1 (As := []) (st := []) hE (am_dec tmX11_told 18 rfl) ok_X9_lastTo rfl lm_X11_148 in_X9_lastTo se_X9_lastTo h_x2 cf9 (c_X9_lastTo hE h_x2 g11) rfl (by decide) (Nat.le_of_ble_eq_true rfl) (Nat.zero_le _) (Nat.zero_le _) rfl ?_
          refine am_goto (tgt := 42) (am_dec tmX11_told 19 rfl) (by decide) ?_
          cases hf
      · rw [if_pos c7] at hf
        refine am_aload_n (am_dec tmX11_told 11 rfl) rfl rfl ?_
        refine am_getI (j := 2) hE (am_dec tmX11_told 12 rfl) h_x2 cf9 (by decide) rfl lf_X11_147 ?_
        refine am_goto (tgt := 42) (am_dec tmX11_told 13 rfl) (by decide) ?_
        cases hf
def f_X11_place (p1 : Int32) (p2 : Int32) (D : am_D) : Option (String ⊕ Int32) :=
    am_bt (f_X11_mapOf p1 D) fun x2 =>
    (f_X9_placeOf x2 p2 D).bind fun x4 =>
    some (.inr x4)
set_option maxRecDepth 100000 in
set_option maxHeartbeats 4000000 in
theorem c_X11_place {E : am_E} (hE : am_EH E) {p1 : Int32} {p2 : Int32} {D : am_D} {r : Int32}  (hf : f_X11_place p1 p2 D = some (.inr r)) : am_C E mX11_place 3 0 0 [.ref 16, .int p1, .int p2] am_G0 D (.inl (some (.int r))) am_G0 D := by
  refine am_C_of (by decide +kernel) (Nat.le_of_ble_eq_true rfl) ?_
  change am_S E mX11_place 3 0 0 (.inl (some (.int r))) am_G0 D 0 0 0 [(0, .ref 16), (1, .int p1), (2, .int p2)] [] am_G0 D
  unfold f_X11_place at hf
  refine am_aload_n (am_dec tmX11_place 0 rfl) rfl rfl ?_
  refine am_iload_n (am_dec tmX11_place 1 rfl) rfl rfl ?_
  obtain ⟨x2, g1, hf⟩ := am_btR hf
  have h_x2 := k_X11_mapOf g1
  refine am_callV1 (As := [.int p1]) (st := []) hE (am_dec tmX11_place 2 rfl) ok_X11_mapOf rfl lm_X11_139 in_X11_mapOf se_X11_mapOf sh_16 cf11 (c_X11_mapOf hE g1) rfl (by decide) (Nat.le_of_ble_eq_true rfl) (Nat.zero_le _) (Nat.zero_le _) rfl ?_
  refine am_iload_n (am_dec tmX11_place 3 rfl) rfl rfl ?_
  obtain ⟨x4, g3, hf⟩ := am_bd hf
  refine am_callV1 (As := [.int p2]) (st := []) hE (am_dec tmX11_place 4 rfl) ok_X9_placeOf rfl lm_X11_154 in_X9_placeOf se_X9_placeOf h_x2 cf9 (c_X9_placeOf hE h_x2 g3) rfl (by decide) (Nat.le_of_ble_eq_true rfl) (Nat.zero_le _) (Nat.zero_le _) rfl ?_
  have hf := Sum.inr.inj (Option.some.inj hf)
  subst hf
  exact am_iret (am_dec tmX11_place 5 rfl) rfl (Nat.zero_le _) (Nat.zero_le _)
set_option maxRecDepth 100000 in
set_option maxHeartbeats 4000000 in
theorem t_X11_place {E : am_E} (hE : am_EH E) {p1 : Int32} {p2 : Int32} {D : am_D} {r : String}  (hf : f_X11_place p1 p2 D = some (.inl r)) : am_C E mX11_place 3 1 6 [.ref 16, .int p1, .int p2] am_G0 D (.inr r) am_G0 D := by
  refine am_C_of (by decide +kernel) (Nat.le_of_ble_eq_true rfl) ?_
  change am_S E mX11_place 3 1 6 (.inr r) am_G0 D 0 0 0 [(0, .ref 16), (1, .int p1), (2, .int p2)] [] am_G0 D
  unfold f_X11_place at hf
  refine am_aload_n (am_dec tmX11_place 0 rfl) rfl rfl ?_
  refine am_iload_n (am_dec tmX11_place 1 rfl) rfl rfl ?_
  rcases am_btT hf with g1 | ⟨x2, g1, hf⟩
  · exact am_callV_out (As := [.int p1]) (st := []) hE (am_dec tmX11_place 2 rfl) ok_X11_mapOf rfl lm_X11_139 in_X11_mapOf se_X11_mapOf sh_16 cf11 (t_X11_mapOf hE g1) rfl (by decide) (Nat.le_of_ble_eq_true rfl) (Nat.le_refl _) (Nat.le_refl _) rfl rfl
  · have h_x2 := k_X11_mapOf g1
    refine am_callV1 (As := [.int p1]) (st := []) hE (am_dec tmX11_place 2 rfl) ok_X11_mapOf rfl lm_X11_139 in_X11_mapOf se_X11_mapOf sh_16 cf11 (c_X11_mapOf hE g1) rfl (by decide) (Nat.le_of_ble_eq_true rfl) (Nat.zero_le _) (Nat.zero_le _) rfl ?_
    refine am_iload_n (am_dec tmX11_place 3 rfl) rfl rfl ?_
    obtain ⟨x4, g3, hf⟩ := am_bd hf
    refine am_callV1 (As := [.int p2]) (st := []) hE (am_dec tmX11_place 4 rfl) ok_X9_placeOf rfl lm_X11_154 in_X9_placeOf se_X9_placeOf h_x2 cf9 (c_X9_placeOf hE h_x2 g3) rfl (by decide) (Nat.le_of_ble_eq_true rfl) (Nat.zero_le _) (Nat.zero_le _) rfl ?_
    cases hf
def f_X11_where (p1 : Int32) (p2 : Int32) (D : am_D) : Option (String ⊕ Int32) :=
    am_bt (f_X11_mapOf p1 D) fun x2 =>
    (f_X9_whereOf x2 p2 D).bind fun x4 =>
    some (.inr x4)
set_option maxRecDepth 100000 in
set_option maxHeartbeats 4000000 in
theorem c_X11_where {E : am_E} (hE : am_EH E) {p1 : Int32} {p2 : Int32} {D : am_D} {r : Int32}  (hf : f_X11_where p1 p2 D = some (.inr r)) : am_C E mX11_where 4 0 0 [.ref 16, .int p1, .int p2] am_G0 D (.inl (some (.int r))) am_G0 D := by
  refine am_C_of (by decide +kernel) (Nat.le_of_ble_eq_true rfl) ?_
  change am_S E mX11_where 4 0 0 (.inl (some (.int r))) am_G0 D 0 0 0 [(0, .ref 16), (1, .int p1), (2, .int p2)] [] am_G0 D
  unfold f_X11_where at hf
  refine am_aload_n (am_dec tmX11_where 0 rfl) rfl rfl ?_
  refine am_iload_n (am_dec tmX11_where 1 rfl) rfl rfl ?_
  obtain ⟨x2, g1, hf⟩ := am_btR hf
  have h_x2 := k_X11_mapOf g1
  refine am_callV1 (As := [.int p1]) (st := []) hE (am_dec tmX11_where 2 rfl) ok_X11_mapOf rfl lm_X11_139 in_X11_mapOf se_X11_mapOf sh_16 cf11 (c_X11_mapOf hE g1) rfl (by decide) (Nat.le_of_ble_eq_true rfl) (Nat.zero_le _) (Nat.zero_le _) rfl ?_
  refine am_iload_n (am_dec tmX11_where 3 rfl) rfl rfl ?_
  obtain ⟨x4, g3, hf⟩ := am_bd hf
  refine am_callV1 (As := [.int p2]) (st := []) hE (am_dec tmX11_where 4 rfl) ok_X9_whereOf rfl lm_X11_157 in_X9_whereOf se_X9_whereOf h_x2 cf9 (c_X9_whereOf hE h_x2 g3) rfl (by decide) (Nat.le_of_ble_eq_true rfl) (Nat.zero_le _) (Nat.zero_le _) rfl ?_
  have hf := Sum.inr.inj (Option.some.inj hf)
  subst hf
  exact am_iret (am_dec tmX11_where 5 rfl) rfl (Nat.zero_le _) (Nat.zero_le _)
set_option maxRecDepth 100000 in
set_option maxHeartbeats 4000000 in
theorem t_X11_where {E : am_E} (hE : am_EH E) {p1 : Int32} {p2 : Int32} {D : am_D} {r : String}  (hf : f_X11_where p1 p2 D = some (.inl r)) : am_C E mX11_where 4 1 6 [.ref 16, .int p1, .int p2] am_G0 D (.inr r) am_G0 D := by
  refine am_C_of (by decide +kernel) (Nat.le_of_ble_eq_true rfl) ?_
  change am_S E mX11_where 4 1 6 (.inr r) am_G0 D 0 0 0 [(0, .ref 16), (1, .int p1), (2, .int p2)] [] am_G0 D
  unfold f_X11_where at hf
  refine am_aload_n (am_dec tmX11_where 0 rfl) rfl rfl ?_
  refine am_iload_n (am_dec tmX11_where 1 rfl) rfl rfl ?_
  rcases am_btT hf with g1 | ⟨x2, g1, hf⟩
  · exact am_callV_out (As := [.int p1]) (st := []) hE (am_dec tmX11_where 2 rfl) ok_X11_mapOf rfl lm_X11_139 in_X11_mapOf se_X11_mapOf sh_16 cf11 (t_X11_mapOf hE g1) rfl (by decide) (Nat.le_of_ble_eq_true rfl) (Nat.le_refl _) (Nat.le_refl _) rfl rfl
  · have h_x2 := k_X11_mapOf g1
    refine am_callV1 (As := [.int p1]) (st := []) hE (am_dec tmX11_where 2 rfl) ok_X11_mapOf rfl lm_X11_139 in_X11_mapOf se_X11_mapOf sh_16 cf11 (c_X11_mapOf hE g1) rfl (by decide) (Nat.le_of_ble_eq_true rfl) (Nat.zero_le _) (Nat.zero_le _) rfl ?_
    refine am_iload_n (am_dec tmX11_where 3 rfl) rfl rfl ?_
    obtain ⟨x4, g3, hf⟩ := am_bd hf
    refine am_callV1 (As := [.int p2]) (st := []) hE (am_dec tmX11_where 4 rfl) ok_X9_whereOf rfl lm_X11_157 in_X9_whereOf se_X9_whereOf h_x2 cf9 (c_X9_whereOf hE h_x2 g3) rfl (by decide) (Nat.le_of_ble_eq_true rfl) (Nat.zero_le _) (Nat.zero_le _) rfl ?_
    cases hf
def f_X11_pieces (p1 : Int32) (p2 : Int32) (p3 : Int32) (D : am_D) : Option ((String × am_D) ⊕ (Int32 × am_D)) :=
    (f_X5_allowed p1 p2 p3).bind fun x2 =>
    am_btD (f_X11_need x2) D fun x4 =>
    (f_X5_set 23 p1 p2 p3 D).bind fun x6 =>
    some (.inr ((D.1 23 0), x6))
set_option maxRecDepth 100000 in
set_option maxHeartbeats 4000000 in
theorem c_X11_pieces {E : am_E} (hE : am_EH E) {p1 : Int32} {p2 : Int32} {p3 : Int32} {D : am_D} {r : (Int32 × am_D)}  (hf : f_X11_pieces p1 p2 p3 D = some (.inr r)) : am_C E mX11_pieces 3 0 0 [.ref 16, .int p1, .int p2, .int p3] am_G0 D (.inl (some (.int r.1))) am_G0 r.2 := by
  refine am_C_of (by decide +kernel) (Nat.le_of_ble_eq_true rfl) ?_
  change am_S E mX11_pieces 3 0 0 (.inl (some (.int r.1))) am_G0 r.2 0 0 0 [(0, .ref 16), (1, .int p1), (2, .int p2), (3, .int p3)] [] am_G0 D
  unfold f_X11_pieces at hf
  refine am_iload_n (am_dec tmX11_pieces 0 rfl) rfl rfl ?_
  refine am_iload_n (am_dec tmX11_pieces 1 rfl) rfl rfl ?_
  refine am_iload_n (am_dec tmX11_pieces 2 rfl) rfl rfl ?_
  obtain ⟨x2, g1, hf⟩ := am_bd hf
  refine am_callS1 (As := [.int p1, .int p2, .int p3]) (st := []) (am_dec tmX11_pieces 3 rfl) ok_X5_allowed rfl lm_X11_160 st_X5_allowed (c_X5_allowed hE g1) rfl (by decide) (Nat.le_of_ble_eq_true rfl) (Nat.zero_le _) (Nat.zero_le _) rfl ?_
  obtain ⟨x4, g3, hf⟩ := am_btDR hf
  refine am_callS0 (As := [.int x2]) (st := []) (am_dec tmX11_pieces 4 rfl) ok_X11_need rfl lm_X11_94 st_X11_need (c_X11_need hE g3) rfl (by decide) (Nat.le_of_ble_eq_true rfl) (Nat.zero_le _) (Nat.zero_le _) rfl ?_
  refine am_aload_n (am_dec tmX11_pieces 5 rfl) rfl rfl ?_
  refine am_getR (j := 0) hE (am_dec tmX11_pieces 6 rfl) sh_16 cf11 (by decide) rfl lf_X11_10 rf_16_0 ?_
  refine am_getR (j := 5) hE (am_dec tmX11_pieces 7 rfl) sh_17 cf1 (by decide) rfl lf_X11_165 rf_17_5 ?_
  refine am_getI (j := 0) hE (am_dec tmX11_pieces 8 rfl) sh_23 cf5 (by decide) rfl lf_X11_169 ?_
  refine am_istore (lv' := [(0, .ref 16), (1, .int p1), (2, .int p2), (3, .int p3), (4, .int (D.1 23 0))]) (am_dec tmX11_pieces 9 rfl) (by decide) rfl ?_
  refine am_aload_n (am_dec tmX11_pieces 10 rfl) rfl rfl ?_
  refine am_getR (j := 0) hE (am_dec tmX11_pieces 11 rfl) sh_16 cf11 (by decide) rfl lf_X11_10 rf_16_0 ?_
  refine am_getR (j := 5) hE (am_dec tmX11_pieces 12 rfl) sh_17 cf1 (by decide) rfl lf_X11_165 rf_17_5 ?_
  refine am_iload_n (am_dec tmX11_pieces 13 rfl) rfl rfl ?_
  refine am_iload_n (am_dec tmX11_pieces 14 rfl) rfl rfl ?_
  refine am_iload_n (am_dec tmX11_pieces 15 rfl) rfl rfl ?_
  obtain ⟨x6, g5, hf⟩ := am_bd hf
  refine am_callV0 (As := [.int p1, .int p2, .int p3]) (st := []) hE (am_dec tmX11_pieces 16 rfl) ok_X5_set rfl lm_X11_172 in_X5_set se_X5_set sh_23 cf5 (c_X5_set hE sh_23 g5) rfl (by decide) (Nat.le_of_ble_eq_true rfl) (Nat.zero_le _) (Nat.zero_le _) rfl ?_
  refine am_iload (am_dec tmX11_pieces 17 rfl) rfl ?_
  have hf := Sum.inr.inj (Option.some.inj hf)
  subst hf
  exact am_iret (am_dec tmX11_pieces 18 rfl) rfl (Nat.zero_le _) (Nat.zero_le _)
set_option maxRecDepth 100000 in
set_option maxHeartbeats 4000000 in
theorem t_X11_pieces {E : am_E} (hE : am_EH E) {p1 : Int32} {p2 : Int32} {p3 : Int32} {D : am_D} {r : String × am_D}  (hf : f_X11_pieces p1 p2 p3 D = some (.inl r)) : am_C E mX11_pieces 3 1 6 [.ref 16, .int p1, .int p2, .int p3] am_G0 D (.inr r.1) am_G0 r.2 := by
  refine am_C_of (by decide +kernel) (Nat.le_of_ble_eq_true rfl) ?_
  change am_S E mX11_pieces 3 1 6 (.inr r.1) am_G0 r.2 0 0 0 [(0, .ref 16), (1, .int p1), (2, .int p2), (3, .int p3)] [] am_G0 D
  unfold f_X11_pieces at hf
  refine am_iload_n (am_dec tmX11_pieces 0 rfl) rfl rfl ?_
  refine am_iload_n (am_dec tmX11_pieces 1 rfl) rfl rfl ?_
  refine am_iload_n (am_dec tmX11_pieces 2 rfl) rfl rfl ?_
  obtain ⟨x2, g1, hf⟩ := am_bd hf
  refine am_callS1 (As := [.int p1, .int p2, .int p3]) (st := []) (am_dec tmX11_pieces 3 rfl) ok_X5_allowed rfl lm_X11_160 st_X5_allowed (c_X5_allowed hE g1) rfl (by decide) (Nat.le_of_ble_eq_true rfl) (Nat.zero_le _) (Nat.zero_le _) rfl ?_
  rcases am_btDT hf with ⟨g3, eD⟩ | ⟨x4, g3, hf⟩
  · rw [eD]
    exact am_callS_out (As := [.int x2]) (st := []) (am_dec tmX11_pieces 4 rfl) ok_X11_need rfl lm_X11_94 st_X11_need (t_X11_need hE g3) rfl (by decide) (Nat.le_of_ble_eq_true rfl) (Nat.le_refl _) (Nat.le_refl _) rfl rfl
  · refine am_callS0 (As := [.int x2]) (st := []) (am_dec tmX11_pieces 4 rfl) ok_X11_need rfl lm_X11_94 st_X11_need (c_X11_need hE g3) rfl (by decide) (Nat.le_of_ble_eq_true rfl) (Nat.zero_le _) (Nat.zero_le _) rfl ?_
    refine am_aload_n (am_dec tmX11_pieces 5 rfl) rfl rfl ?_
    refine am_getR (j := 0) hE (am_dec tmX11_pieces 6 rfl) sh_16 cf11 (by decide) rfl lf_X11_10 rf_16_0 ?_
    refine am_getR (j := 5) hE (am_dec tmX11_pieces 7 rfl) sh_17 cf1 (by decide) rfl lf_X11_165 rf_17_5 ?_
    refine am_getI (j := 0) hE (am_dec tmX11_pieces 8 rfl) sh_23 cf5 (by decide) rfl lf_X11_169 ?_
    refine am_istore (lv' := [(0, .ref 16), (1, .int p1), (2, .int p2), (3, .int p3), (4, .int (D.1 23 0))]) (am_dec tmX11_pieces 9 rfl) (by decide) rfl ?_
    refine am_aload_n (am_dec tmX11_pieces 10 rfl) rfl rfl ?_
    refine am_getR (j := 0) hE (am_dec tmX11_pieces 11 rfl) sh_16 cf11 (by decide) rfl lf_X11_10 rf_16_0 ?_
    refine am_getR (j := 5) hE (am_dec tmX11_pieces 12 rfl) sh_17 cf1 (by decide) rfl lf_X11_165 rf_17_5 ?_
    refine am_iload_n (am_dec tmX11_pieces 13 rfl) rfl rfl ?_
    refine am_iload_n (am_dec tmX11_pieces 14 rfl) rfl rfl ?_
    refine am_iload_n (am_dec tmX11_pieces 15 rfl) rfl rfl ?_
    obtain ⟨x6, g5, hf⟩ := am_bd hf
    refine am_callV0 (As := [.int p1, .int p2, .int p3]) (st := []) hE (am_dec tmX11_pieces 16 rfl) ok_X5_set rfl lm_X11_172 in_X5_set se_X5_set sh_23 cf5 (c_X5_set hE sh_23 g5) rfl (by decide) (Nat.le_of_ble_eq_true rfl) (Nat.zero_le _) (Nat.zero_le _) rfl ?_
    refine am_iload (am_dec tmX11_pieces 17 rfl) rfl ?_
    cases hf
def f_X11_needLong (p0 : Nat) (p1 : Nat) (p2 : Nat) (D : am_D) : Option (String ⊕ Unit) :=
    if (D.1 p0 1) < (D.1 p2 0) then
    some (.inl "java/lang/IllegalStateException")
    else
    (f_X9_lastFrom p1 D).bind fun x3 =>
    if x3 ≤ (D.1 p0 1) then
    some (.inr ())
    else
    some (.inl "java/lang/IllegalStateException")
set_option maxRecDepth 100000 in
set_option maxHeartbeats 4000000 in
theorem c_X11_needLong {E : am_E} (hE : am_EH E) {p0 : Nat} {p1 : Nat} {p2 : Nat} {D : am_D} {r : Unit} (h_p0 : am_sh am_G0 p0 = some (7, 2)) (h_p1 : am_sh am_G0 p1 = some (9, 3)) (h_p2 : am_sh am_G0 p2 = some (5, 3)) (hf : f_X11_needLong p0 p1 p2 D = some (.inr r)) : am_C E mX11_needLong 3 0 0 [.ref p0, .ref p1, .ref p2] am_G0 D (.inl none) am_G0 D := by
  refine am_C_of (by decide +kernel) (Nat.le_of_ble_eq_true rfl) ?_
  change am_S E mX11_needLong 3 0 0 (.inl none) am_G0 D 0 0 0 [(0, .ref p0), (1, .ref p1), (2, .ref p2)] [] am_G0 D
  unfold f_X11_needLong at hf
  refine am_aload_n (am_dec tmX11_needLong 0 rfl) rfl rfl ?_
  refine am_getI (j := 1) hE (am_dec tmX11_needLong 1 rfl) h_p0 cf7 (by decide) rfl lf_X11_134 ?_
  refine am_aload_n (am_dec tmX11_needLong 2 rfl) rfl rfl ?_
  refine am_getI (j := 0) hE (am_dec tmX11_needLong 3 rfl) h_p2 cf5 (by decide) rfl lf_X11_169 ?_
  refine am_icmp_lt (tgt := 22) (am_dec tmX11_needLong 4 rfl) (by decide) (fun c1 => ?_) (fun c1 => ?_)
  · rw [if_pos c1] at hf
    cases hf
  · rw [if_neg c1] at hf
    refine am_aload_n (am_dec tmX11_needLong 5 rfl) rfl rfl ?_
    refine am_getI (j := 1) hE (am_dec tmX11_needLong 6 rfl) h_p0 cf7 (by decide) rfl lf_X11_134 ?_
    refine am_aload_n (am_dec tmX11_needLong 7 rfl) rfl rfl ?_
    obtain ⟨x3, g2, hf⟩ := am_bd hf
    refine am_callV1 (As := []) (st := [.int (D.1 p0 1)]) hE (am_dec tmX11_needLong 8 rfl) ok_X9_lastFrom rfl lm_X11_151 in_X9_lastFrom se_X9_lastFrom h_p1 cf9 (c_X9_lastFrom hE h_p1 g2) rfl (by decide) (Nat.le_of_ble_eq_true rfl) (Nat.zero_le _) (Nat.zero_le _) rfl ?_
    refine am_icmp_ge (tgt := 30) (am_dec tmX11_needLong 9 rfl) (by decide) (fun c4 => ?_) (fun c4 => ?_)
    · rw [if_pos c4] at hf
      have hf := Sum.inr.inj (Option.some.inj hf)
      subst hf
      exact am_vret (am_dec tmX11_needLong 14 rfl) rfl (Nat.zero_le _) (Nat.zero_le _)
    · rw [if_neg c4] at hf
      cases hf
set_option maxRecDepth 100000 in
set_option maxHeartbeats 4000000 in
theorem t_X11_needLong {E : am_E} (hE : am_EH E) {p0 : Nat} {p1 : Nat} {p2 : Nat} {D : am_D} {r : String} (h_p0 : am_sh am_G0 p0 = some (7, 2)) (h_p1 : am_sh am_G0 p1 = some (9, 3)) (h_p2 : am_sh am_G0 p2 = some (5, 3)) (hf : f_X11_needLong p0 p1 p2 D = some (.inl r)) : am_C E mX11_needLong 3 1 6 [.ref p0, .ref p1, .ref p2] am_G0 D (.inr r) am_G0 D := by
  refine am_C_of (by decide +kernel) (Nat.le_of_ble_eq_true rfl) ?_
  change am_S E mX11_needLong 3 1 6 (.inr r) am_G0 D 0 0 0 [(0, .ref p0), (1, .ref p1), (2, .ref p2)] [] am_G0 D
  unfold f_X11_needLong at hf
  refine am_aload_n (am_dec tmX11_needLong 0 rfl) rfl rfl ?_
  refine am_getI (j := 1) hE (am_dec tmX11_needLong 1 rfl) h_p0 cf7 (by decide) rfl lf_X11_134 ?_
  refine am_aload_n (am_dec tmX11_needLong 2 rfl) rfl rfl ?_
  refine am_getI (j := 0) hE (am_dec tmX11_needLong 3 rfl) h_p2 cf5 (by decide) rfl lf_X11_169 ?_
  refine am_icmp_lt (tgt := 22) (am_dec tmX11_needLong 4 rfl) (by decide) (fun c1 => ?_) (fun c1 => ?_)
  · rw [if_pos c1] at hf
    have hf := Sum.inl.inj (Option.some.inj hf)
    subst hf
    exact am_throw (cls := "java/lang/IllegalStateException") hE (names := ["java/lang/RuntimeException", "java/lang/Exception"]) (am_dec tmX11_needLong 10 rfl) (am_dec tmX11_needLong 11 rfl) (am_dec tmX11_needLong 12 rfl) (am_dec tmX11_needLong 13 rfl) (by decide +kernel) (by decide +kernel) lcl_X11_302 lin_IllegalStateException ht_X11_304 rfl (Nat.le_of_ble_eq_true rfl) (Nat.le_refl _) (Nat.le_refl _) rfl rfl
  · rw [if_neg c1] at hf
    refine am_aload_n (am_dec tmX11_needLong 5 rfl) rfl rfl ?_
    refine am_getI (j := 1) hE (am_dec tmX11_needLong 6 rfl) h_p0 cf7 (by decide) rfl lf_X11_134 ?_
    refine am_aload_n (am_dec tmX11_needLong 7 rfl) rfl rfl ?_
    obtain ⟨x3, g2, hf⟩ := am_bd hf
    refine am_callV1 (As := []) (st := [.int (D.1 p0 1)]) hE (am_dec tmX11_needLong 8 rfl) ok_X9_lastFrom rfl lm_X11_151 in_X9_lastFrom se_X9_lastFrom h_p1 cf9 (c_X9_lastFrom hE h_p1 g2) rfl (by decide) (Nat.le_of_ble_eq_true rfl) (Nat.zero_le _) (Nat.zero_le _) rfl ?_
    refine am_icmp_ge (tgt := 30) (am_dec tmX11_needLong 9 rfl) (by decide) (fun c4 => ?_) (fun c4 => ?_)
    · rw [if_pos c4] at hf
      cases hf
    · rw [if_neg c4] at hf
      have hf := Sum.inl.inj (Option.some.inj hf)
      subst hf
      exact am_throw (cls := "java/lang/IllegalStateException") hE (names := ["java/lang/RuntimeException", "java/lang/Exception"]) (am_dec tmX11_needLong 10 rfl) (am_dec tmX11_needLong 11 rfl) (am_dec tmX11_needLong 12 rfl) (am_dec tmX11_needLong 13 rfl) (by decide +kernel) (by decide +kernel) lcl_X11_302 lin_IllegalStateException ht_X11_304 rfl (Nat.le_of_ble_eq_true rfl) (Nat.le_refl _) (Nat.le_refl _) rfl rfl
def f_X11_draw (p1 : Int32) (p2 : Int32) (D : am_D) : Option ((String × am_D) ⊕ (Int32 × am_D)) :=
    am_btD (f_X11_soundOf p1 D) D fun x2 =>
    am_btD (f_X11_mapOf p2 D) D fun x4 =>
    am_btD (f_X11_needLong x2 x4 23 D) D fun x6 =>
    (f_X3_drawOut 71 x2 x4 23 D).bind fun x8 =>
    some (.inr ((x8.1 71 6), x8))
set_option maxRecDepth 100000 in
set_option maxHeartbeats 4000000 in
theorem c_X11_draw {E : am_E} (hE : am_EH E) {p1 : Int32} {p2 : Int32} {D : am_D} {r : (Int32 × am_D)}  (hf : f_X11_draw p1 p2 D = some (.inr r)) : am_C E mX11_draw 6 0 0 [.ref 16, .int p1, .int p2] am_G0 D (.inl (some (.int r.1))) am_G0 r.2 := by
  refine am_C_of (by decide +kernel) (Nat.le_of_ble_eq_true rfl) ?_
  change am_S E mX11_draw 6 0 0 (.inl (some (.int r.1))) am_G0 r.2 0 0 0 [(0, .ref 16), (1, .int p1), (2, .int p2)] [] am_G0 D
  unfold f_X11_draw at hf
  refine am_aload_n (am_dec tmX11_draw 0 rfl) rfl rfl ?_
  refine am_iload_n (am_dec tmX11_draw 1 rfl) rfl rfl ?_
  obtain ⟨x2, g1, hf⟩ := am_btDR hf
  have h_x2 := k_X11_soundOf g1
  refine am_callV1 (As := [.int p1]) (st := []) hE (am_dec tmX11_draw 2 rfl) ok_X11_soundOf rfl lm_X11_130 in_X11_soundOf se_X11_soundOf sh_16 cf11 (c_X11_soundOf hE g1) rfl (by decide) (Nat.le_of_ble_eq_true rfl) (Nat.zero_le _) (Nat.zero_le _) rfl ?_
  refine am_astore_n (lv' := [(0, .ref 16), (1, .int p1), (2, .int p2), (3, .ref x2)]) (am_dec tmX11_draw 3 rfl) rfl (by decide) rfl ?_
  refine am_aload_n (am_dec tmX11_draw 4 rfl) rfl rfl ?_
  refine am_iload_n (am_dec tmX11_draw 5 rfl) rfl rfl ?_
  obtain ⟨x4, g3, hf⟩ := am_btDR hf
  have h_x4 := k_X11_mapOf g3
  refine am_callV1 (As := [.int p2]) (st := []) hE (am_dec tmX11_draw 6 rfl) ok_X11_mapOf rfl lm_X11_139 in_X11_mapOf se_X11_mapOf sh_16 cf11 (c_X11_mapOf hE g3) rfl (by decide) (Nat.le_of_ble_eq_true rfl) (Nat.zero_le _) (Nat.zero_le _) rfl ?_
  refine am_astore (lv' := [(0, .ref 16), (1, .int p1), (2, .int p2), (3, .ref x2), (4, .ref x4)]) (am_dec tmX11_draw 7 rfl) (by decide) rfl ?_
  refine am_aload_n (am_dec tmX11_draw 8 rfl) rfl rfl ?_
  refine am_aload (am_dec tmX11_draw 9 rfl) rfl ?_
  refine am_aload_n (am_dec tmX11_draw 10 rfl) rfl rfl ?_
  refine am_getR (j := 0) hE (am_dec tmX11_draw 11 rfl) sh_16 cf11 (by decide) rfl lf_X11_10 rf_16_0 ?_
  refine am_getR (j := 5) hE (am_dec tmX11_draw 12 rfl) sh_17 cf1 (by decide) rfl lf_X11_165 rf_17_5 ?_
  obtain ⟨x6, g5, hf⟩ := am_btDR hf
  refine am_callS0 (As := [.ref x2, .ref x4, .ref 23]) (st := []) (am_dec tmX11_draw 13 rfl) ok_X11_needLong rfl lm_X11_176 st_X11_needLong (c_X11_needLong hE h_x2 h_x4 sh_23 g5) rfl (by decide) (Nat.le_of_ble_eq_true rfl) (Nat.zero_le _) (Nat.zero_le _) rfl ?_
  refine am_aload_n (am_dec tmX11_draw 14 rfl) rfl rfl ?_
  refine am_getR (j := 4) hE (am_dec tmX11_draw 15 rfl) sh_16 cf11 (by decide) rfl lf_X11_33 rf_16_4 ?_
  refine am_aload_n (am_dec tmX11_draw 16 rfl) rfl rfl ?_
  refine am_aload (am_dec tmX11_draw 17 rfl) rfl ?_
  refine am_aload_n (am_dec tmX11_draw 18 rfl) rfl rfl ?_
  refine am_getR (j := 0) hE (am_dec tmX11_draw 19 rfl) sh_16 cf11 (by decide) rfl lf_X11_10 rf_16_0 ?_
  refine am_getR (j := 5) hE (am_dec tmX11_draw 20 rfl) sh_17 cf1 (by decide) rfl lf_X11_165 rf_17_5 ?_
  obtain ⟨x8, g7, hf⟩ := am_bd hf
  refine am_callV0 (As := [.ref x2, .ref x4, .ref 23]) (st := []) hE (am_dec tmX11_draw 21 rfl) ok_X3_drawOut rfl lm_X11_180 in_X3_drawOut se_X3_drawOut sh_71 cf3 (c_X3_drawOut hE sh_71 h_x2 h_x4 sh_23 g7) rfl (by decide) (Nat.le_of_ble_eq_true rfl) (Nat.zero_le _) (Nat.zero_le _) rfl ?_
  refine am_aload_n (am_dec tmX11_draw 22 rfl) rfl rfl ?_
  refine am_getR (j := 4) hE (am_dec tmX11_draw 23 rfl) sh_16 cf11 (by decide) rfl lf_X11_33 rf_16_4 ?_
  refine am_getI (j := 6) hE (am_dec tmX11_draw 24 rfl) sh_71 cf3 (by decide) rfl lf_X11_183 ?_
  have hf := Sum.inr.inj (Option.some.inj hf)
  subst hf
  exact am_iret (am_dec tmX11_draw 25 rfl) rfl (Nat.zero_le _) (Nat.zero_le _)
set_option maxRecDepth 100000 in
set_option maxHeartbeats 4000000 in
theorem t_X11_draw {E : am_E} (hE : am_EH E) {p1 : Int32} {p2 : Int32} {D : am_D} {r : String × am_D}  (hf : f_X11_draw p1 p2 D = some (.inl r)) : am_C E mX11_draw 6 1 6 [.ref 16, .int p1, .int p2] am_G0 D (.inr r.1) am_G0 r.2 := by
  refine am_C_of (by decide +kernel) (Nat.le_of_ble_eq_true rfl) ?_
  change am_S E mX11_draw 6 1 6 (.inr r.1) am_G0 r.2 0 0 0 [(0, .ref 16), (1, .int p1), (2, .int p2)] [] am_G0 D
  unfold f_X11_draw at hf
  refine am_aload_n (am_dec tmX11_draw 0 rfl) rfl rfl ?_
  refine am_iload_n (am_dec tmX11_draw 1 rfl) rfl rfl ?_
  rcases am_btDT hf with ⟨g1, eD⟩ | ⟨x2, g1, hf⟩
  · rw [eD]
    exact am_callV_out (As := [.int p1]) (st := []) hE (am_dec tmX11_draw 2 rfl) ok_X11_soundOf rfl lm_X11_130 in_X11_soundOf se_X11_soundOf sh_16 cf11 (t_X11_soundOf hE g1) rfl (by decide) (Nat.le_of_ble_eq_true rfl) (Nat.le_refl _) (Nat.le_refl _) rfl rfl
  · have h_x2 := k_X11_soundOf g1
    refine am_callV1 (As := [.int p1]) (st := []) hE (am_dec tmX11_draw 2 rfl) ok_X11_soundOf rfl lm_X11_130 in_X11_soundOf se_X11_soundOf sh_16 cf11 (c_X11_soundOf hE g1) rfl (by decide) (Nat.le_of_ble_eq_true rfl) (Nat.zero_le _) (Nat.zero_le _) rfl ?_
    refine am_astore_n (lv' := [(0, .ref 16), (1, .int p1), (2, .int p2), (3, .ref x2)]) (am_dec tmX11_draw 3 rfl) rfl (by decide) rfl ?_
    refine am_aload_n (am_dec tmX11_draw 4 rfl) rfl rfl ?_
    refine am_iload_n (am_dec tmX11_draw 5 rfl) rfl rfl ?_
    rcases am_btDT hf with ⟨g3, eD⟩ | ⟨x4, g3, hf⟩
    · rw [eD]
      exact am_callV_out (As := [.int p2]) (st := []) hE (am_dec tmX11_draw 6 rfl) ok_X11_mapOf rfl lm_X11_139 in_X11_mapOf se_X11_mapOf sh_16 cf11 (t_X11_mapOf hE g3) rfl (by decide) (Nat.le_of_ble_eq_true rfl) (Nat.le_refl _) (Nat.le_refl _) rfl rfl
    · have h_x4 := k_X11_mapOf g3
      refine am_callV1 (As := [.int p2]) (st := []) hE (am_dec tmX11_draw 6 rfl) ok_X11_mapOf rfl lm_X11_139 in_X11_mapOf se_X11_mapOf sh_16 cf11 (c_X11_mapOf hE g3) rfl (by decide) (Nat.le_of_ble_eq_true rfl) (Nat.zero_le _) (Nat.zero_le _) rfl ?_
      refine am_astore (lv' := [(0, .ref 16), (1, .int p1), (2, .int p2), (3, .ref x2), (4, .ref x4)]) (am_dec tmX11_draw 7 rfl) (by decide) rfl ?_
      refine am_aload_n (am_dec tmX11_draw 8 rfl) rfl rfl ?_
      refine am_aload (am_dec tmX11_draw 9 rfl) rfl ?_
      refine am_aload_n (am_dec tmX11_draw 10 rfl) rfl rfl ?_
      refine am_getR (j := 0) hE (am_dec tmX11_draw 11 rfl) sh_16 cf11 (by decide) rfl lf_X11_10 rf_16_0 ?_
      refine am_getR (j := 5) hE (am_dec tmX11_draw 12 rfl) sh_17 cf1 (by decide) rfl lf_X11_165 rf_17_5 ?_
      rcases am_btDT hf with ⟨g5, eD⟩ | ⟨x6, g5, hf⟩
      · rw [eD]
        exact am_callS_out (As := [.ref x2, .ref x4, .ref 23]) (st := []) (am_dec tmX11_draw 13 rfl) ok_X11_needLong rfl lm_X11_176 st_X11_needLong (t_X11_needLong hE h_x2 h_x4 sh_23 g5) rfl (by decide) (Nat.le_of_ble_eq_true rfl) (Nat.le_refl _) (Nat.le_refl _) rfl rfl
      · refine am_callS0 (As := [.ref x2, .ref x4, .ref 23]) (st := []) (am_dec tmX11_draw 13 rfl) ok_X11_needLong rfl lm_X11_176 st_X11_needLong (c_X11_needLong hE h_x2 h_x4 sh_23 g5) rfl (by decide) (Nat.le_of_ble_eq_true rfl) (Nat.zero_le _) (Nat.zero_le _) rfl ?_
        refine am_aload_n (am_dec tmX11_draw 14 rfl) rfl rfl ?_
        refine am_getR (j := 4) hE (am_dec tmX11_draw 15 rfl) sh_16 cf11 (by decide) rfl lf_X11_33 rf_16_4 ?_
        refine am_aload_n (am_dec tmX11_draw 16 rfl) rfl rfl ?_
        refine am_aload (am_dec tmX11_draw 17 rfl) rfl ?_
        refine am_aload_n (am_dec tmX11_draw 18 rfl) rfl rfl ?_
        refine am_getR (j := 0) hE (am_dec tmX11_draw 19 rfl) sh_16 cf11 (by decide) rfl lf_X11_10 rf_16_0 ?_
        refine am_getR (j := 5) hE (am_dec tmX11_draw 20 rfl) sh_17 cf1 (by decide) rfl lf_X11_165 rf_17_5 ?_
        obtain ⟨x8, g7, hf⟩ := am_bd hf
        refine am_callV0 (As := [.ref x2, .ref x4, .ref 23]) (st := []) hE (am_dec tmX11_draw 21 rfl) ok_X3_drawOut rfl lm_X11_180 in_X3_drawOut se_X3_drawOut sh_71 cf3 (c_X3_drawOut hE sh_71 h_x2 h_x4 sh_23 g7) rfl (by decide) (Nat.le_of_ble_eq_true rfl) (Nat.zero_le _) (Nat.zero_le _) rfl ?_
        refine am_aload_n (am_dec tmX11_draw 22 rfl) rfl rfl ?_
        refine am_getR (j := 4) hE (am_dec tmX11_draw 23 rfl) sh_16 cf11 (by decide) rfl lf_X11_33 rf_16_4 ?_
        refine am_getI (j := 6) hE (am_dec tmX11_draw 24 rfl) sh_71 cf3 (by decide) rfl lf_X11_183 ?_
        cases hf
def f_X11_sharp (p1 : Int32) (p2 : Int32) (D : am_D) : Option ((String × am_D) ⊕ (Int32 × am_D)) :=
    am_btD (f_X11_soundOf p1 D) D fun x2 =>
    am_btD (f_X11_mapOf p2 D) D fun x4 =>
    am_btD (f_X11_needLong x2 x4 23 D) D fun x6 =>
    (f_X3_drawOut 71 x2 x4 23 D).bind fun x8 =>
    (f_X0_find 106 x2 x8).bind fun x10 =>
    (f_X3_moveBlows 71 106 (x10.1 17 13) x10).bind fun x12 =>
    some (.inr (x12.1, x12.2))
set_option maxRecDepth 100000 in
set_option maxHeartbeats 4000000 in
theorem c_X11_sharp {E : am_E} (hE : am_EH E) {p1 : Int32} {p2 : Int32} {D : am_D} {r : (Int32 × am_D)}  (hf : f_X11_sharp p1 p2 D = some (.inr r)) : am_C E mX11_sharp 6 0 0 [.ref 16, .int p1, .int p2] am_G0 D (.inl (some (.int r.1))) am_G0 r.2 := by
  refine am_C_of (by decide +kernel) (Nat.le_of_ble_eq_true rfl) ?_
  change am_S E mX11_sharp 6 0 0 (.inl (some (.int r.1))) am_G0 r.2 0 0 0 [(0, .ref 16), (1, .int p1), (2, .int p2)] [] am_G0 D
  unfold f_X11_sharp at hf
  refine am_aload_n (am_dec tmX11_sharp 0 rfl) rfl rfl ?_
  refine am_iload_n (am_dec tmX11_sharp 1 rfl) rfl rfl ?_
  obtain ⟨x2, g1, hf⟩ := am_btDR hf
  have h_x2 := k_X11_soundOf g1
  refine am_callV1 (As := [.int p1]) (st := []) hE (am_dec tmX11_sharp 2 rfl) ok_X11_soundOf rfl lm_X11_130 in_X11_soundOf se_X11_soundOf sh_16 cf11 (c_X11_soundOf hE g1) rfl (by decide) (Nat.le_of_ble_eq_true rfl) (Nat.zero_le _) (Nat.zero_le _) rfl ?_
  refine am_astore_n (lv' := [(0, .ref 16), (1, .int p1), (2, .int p2), (3, .ref x2)]) (am_dec tmX11_sharp 3 rfl) rfl (by decide) rfl ?_
  refine am_aload_n (am_dec tmX11_sharp 4 rfl) rfl rfl ?_
  refine am_iload_n (am_dec tmX11_sharp 5 rfl) rfl rfl ?_
  obtain ⟨x4, g3, hf⟩ := am_btDR hf
  have h_x4 := k_X11_mapOf g3
  refine am_callV1 (As := [.int p2]) (st := []) hE (am_dec tmX11_sharp 6 rfl) ok_X11_mapOf rfl lm_X11_139 in_X11_mapOf se_X11_mapOf sh_16 cf11 (c_X11_mapOf hE g3) rfl (by decide) (Nat.le_of_ble_eq_true rfl) (Nat.zero_le _) (Nat.zero_le _) rfl ?_
  refine am_astore (lv' := [(0, .ref 16), (1, .int p1), (2, .int p2), (3, .ref x2), (4, .ref x4)]) (am_dec tmX11_sharp 7 rfl) (by decide) rfl ?_
  refine am_aload_n (am_dec tmX11_sharp 8 rfl) rfl rfl ?_
  refine am_aload (am_dec tmX11_sharp 9 rfl) rfl ?_
  refine am_aload_n (am_dec tmX11_sharp 10 rfl) rfl rfl ?_
  refine am_getR (j := 0) hE (am_dec tmX11_sharp 11 rfl) sh_16 cf11 (by decide) rfl lf_X11_10 rf_16_0 ?_
  refine am_getR (j := 5) hE (am_dec tmX11_sharp 12 rfl) sh_17 cf1 (by decide) rfl lf_X11_165 rf_17_5 ?_
  obtain ⟨x6, g5, hf⟩ := am_btDR hf
  refine am_callS0 (As := [.ref x2, .ref x4, .ref 23]) (st := []) (am_dec tmX11_sharp 13 rfl) ok_X11_needLong rfl lm_X11_176 st_X11_needLong (c_X11_needLong hE h_x2 h_x4 sh_23 g5) rfl (by decide) (Nat.le_of_ble_eq_true rfl) (Nat.zero_le _) (Nat.zero_le _) rfl ?_
  refine am_aload_n (am_dec tmX11_sharp 14 rfl) rfl rfl ?_
  refine am_getR (j := 4) hE (am_dec tmX11_sharp 15 rfl) sh_16 cf11 (by decide) rfl lf_X11_33 rf_16_4 ?_
  refine am_aload_n (am_dec tmX11_sharp 16 rfl) rfl rfl ?_
  refine am_aload (am_dec tmX11_sharp 17 rfl) rfl ?_
  refine am_aload_n (am_dec tmX11_sharp 18 rfl) rfl rfl ?_
  refine am_getR (j := 0) hE (am_dec tmX11_sharp 19 rfl) sh_16 cf11 (by decide) rfl lf_X11_10 rf_16_0 ?_
  refine am_getR (j := 5) hE (am_dec tmX11_sharp 20 rfl) sh_17 cf1 (by decide) rfl lf_X11_165 rf_17_5 ?_
  obtain ⟨x8, g7, hf⟩ := am_bd hf
  refine am_callV0 (As := [.ref x2, .ref x4, .ref 23]) (st := []) hE (am_dec tmX11_sharp 21 rfl) ok_X3_drawOut rfl lm_X11_180 in_X3_drawOut se_X3_drawOut sh_71 cf3 (c_X3_drawOut hE sh_71 h_x2 h_x4 sh_23 g7) rfl (by decide) (Nat.le_of_ble_eq_true rfl) (Nat.zero_le _) (Nat.zero_le _) rfl ?_
  refine am_aload_n (am_dec tmX11_sharp 22 rfl) rfl rfl ?_
  refine am_getR (j := 9) hE (am_dec tmX11_sharp 23 rfl) sh_16 cf11 (by decide) rfl lf_X11_62 rf_16_9 ?_
  refine am_aload_n (am_dec tmX11_sharp 24 rfl) rfl rfl ?_
  refine am_aload_n (am_dec tmX11_sharp 25 rfl) rfl rfl ?_
  refine am_getR (j := 0) hE (am_dec tmX11_sharp 26 rfl) sh_16 cf11 (by decide) rfl lf_X11_10 rf_16_0 ?_
  obtain ⟨x10, g9, hf⟩ := am_bd hf
  refine am_callV0 (As := [.ref x2, .ref 17]) (st := []) hE (am_dec tmX11_sharp 27 rfl) ok_X0_find rfl lm_X11_186 in_X0_find se_X0_find sh_106 cf0 (c_X0_find hE sh_106 h_x2 g9) rfl (by decide) (Nat.le_of_ble_eq_true rfl) (Nat.zero_le _) (Nat.zero_le _) rfl ?_
  refine am_aload_n (am_dec tmX11_sharp 28 rfl) rfl rfl ?_
  refine am_getR (j := 4) hE (am_dec tmX11_sharp 29 rfl) sh_16 cf11 (by decide) rfl lf_X11_33 rf_16_4 ?_
  refine am_aload_n (am_dec tmX11_sharp 30 rfl) rfl rfl ?_
  refine am_getR (j := 9) hE (am_dec tmX11_sharp 31 rfl) sh_16 cf11 (by decide) rfl lf_X11_62 rf_16_9 ?_
  refine am_aload_n (am_dec tmX11_sharp 32 rfl) rfl rfl ?_
  refine am_getR (j := 0) hE (am_dec tmX11_sharp 33 rfl) sh_16 cf11 (by decide) rfl lf_X11_10 rf_16_0 ?_
  refine am_getI (j := 13) hE (am_dec tmX11_sharp 34 rfl) sh_17 cf1 (by decide) rfl lf_X11_190 ?_
  obtain ⟨x12, g11, hf⟩ := am_bd hf
  refine am_callV1 (As := [.ref 106, .int (x10.1 17 13)]) (st := []) hE (am_dec tmX11_sharp 35 rfl) ok_X3_moveBlows rfl lm_X11_193 in_X3_moveBlows se_X3_moveBlows sh_71 cf3 (c_X3_moveBlows hE sh_71 sh_106 g11) rfl (by decide) (Nat.le_of_ble_eq_true rfl) (Nat.zero_le _) (Nat.zero_le _) rfl ?_
  have hf := Sum.inr.inj (Option.some.inj hf)
  subst hf
  exact am_iret (am_dec tmX11_sharp 36 rfl) rfl (Nat.zero_le _) (Nat.zero_le _)
set_option maxRecDepth 100000 in
set_option maxHeartbeats 4000000 in
theorem t_X11_sharp {E : am_E} (hE : am_EH E) {p1 : Int32} {p2 : Int32} {D : am_D} {r : String × am_D}  (hf : f_X11_sharp p1 p2 D = some (.inl r)) : am_C E mX11_sharp 6 1 6 [.ref 16, .int p1, .int p2] am_G0 D (.inr r.1) am_G0 r.2 := by
  refine am_C_of (by decide +kernel) (Nat.le_of_ble_eq_true rfl) ?_
  change am_S E mX11_sharp 6 1 6 (.inr r.1) am_G0 r.2 0 0 0 [(0, .ref 16), (1, .int p1), (2, .int p2)] [] am_G0 D
  unfold f_X11_sharp at hf
  refine am_aload_n (am_dec tmX11_sharp 0 rfl) rfl rfl ?_
  refine am_iload_n (am_dec tmX11_sharp 1 rfl) rfl rfl ?_
  rcases am_btDT hf with ⟨g1, eD⟩ | ⟨x2, g1, hf⟩
  · rw [eD]
    exact am_callV_out (As := [.int p1]) (st := []) hE (am_dec tmX11_sharp 2 rfl) ok_X11_soundOf rfl lm_X11_130 in_X11_soundOf se_X11_soundOf sh_16 cf11 (t_X11_soundOf hE g1) rfl (by decide) (Nat.le_of_ble_eq_true rfl) (Nat.le_refl _) (Nat.le_refl _) rfl rfl
  · have h_x2 := k_X11_soundOf g1
    refine am_callV1 (As := [.int p1]) (st := []) hE (am_dec tmX11_sharp 2 rfl) ok_X11_soundOf rfl lm_X11_130 in_X11_soundOf se_X11_soundOf sh_16 cf11 (c_X11_soundOf hE g1) rfl (by decide) (Nat.le_of_ble_eq_true rfl) (Nat.zero_le _) (Nat.zero_le _) rfl ?_
    refine am_astore_n (lv' := [(0, .ref 16), (1, .int p1), (2, .int p2), (3, .ref x2)]) (am_dec tmX11_sharp 3 rfl) rfl (by decide) rfl ?_
    refine am_aload_n (am_dec tmX11_sharp 4 rfl) rfl rfl ?_
    refine am_iload_n (am_dec tmX11_sharp 5 rfl) rfl rfl ?_
    rcases am_btDT hf with ⟨g3, eD⟩ | ⟨x4, g3, hf⟩
    · rw [eD]
      exact am_callV_out (As := [.int p2]) (st := []) hE (am_dec tmX11_sharp 6 rfl) ok_X11_mapOf rfl lm_X11_139 in_X11_mapOf se_X11_mapOf sh_16 cf11 (t_X11_mapOf hE g3) rfl (by decide) (Nat.le_of_ble_eq_true rfl) (Nat.le_refl _) (Nat.le_refl _) rfl rfl
    · have h_x4 := k_X11_mapOf g3
      refine am_callV1 (As := [.int p2]) (st := []) hE (am_dec tmX11_sharp 6 rfl) ok_X11_mapOf rfl lm_X11_139 in_X11_mapOf se_X11_mapOf sh_16 cf11 (c_X11_mapOf hE g3) rfl (by decide) (Nat.le_of_ble_eq_true rfl) (Nat.zero_le _) (Nat.zero_le _) rfl ?_
      refine am_astore (lv' := [(0, .ref 16), (1, .int p1), (2, .int p2), (3, .ref x2), (4, .ref x4)]) (am_dec tmX11_sharp 7 rfl) (by decide) rfl ?_
      refine am_aload_n (am_dec tmX11_sharp 8 rfl) rfl rfl ?_
      refine am_aload (am_dec tmX11_sharp 9 rfl) rfl ?_
      refine am_aload_n (am_dec tmX11_sharp 10 rfl) rfl rfl ?_
      refine am_getR (j := 0) hE (am_dec tmX11_sharp 11 rfl) sh_16 cf11 (by decide) rfl lf_X11_10 rf_16_0 ?_
      refine am_getR (j := 5) hE (am_dec tmX11_sharp 12 rfl) sh_17 cf1 (by decide) rfl lf_X11_165 rf_17_5 ?_
      rcases am_btDT hf with ⟨g5, eD⟩ | ⟨x6, g5, hf⟩
      · rw [eD]
        exact am_callS_out (As := [.ref x2, .ref x4, .ref 23]) (st := []) (am_dec tmX11_sharp 13 rfl) ok_X11_needLong rfl lm_X11_176 st_X11_needLong (t_X11_needLong hE h_x2 h_x4 sh_23 g5) rfl (by decide) (Nat.le_of_ble_eq_true rfl) (Nat.le_refl _) (Nat.le_refl _) rfl rfl
      · refine am_callS0 (As := [.ref x2, .ref x4, .ref 23]) (st := []) (am_dec tmX11_sharp 13 rfl) ok_X11_needLong rfl lm_X11_176 st_X11_needLong (c_X11_needLong hE h_x2 h_x4 sh_23 g5) rfl (by decide) (Nat.le_of_ble_eq_true rfl) (Nat.zero_le _) (Nat.zero_le _) rfl ?_
        refine am_aload_n (am_dec tmX11_sharp 14 rfl) rfl rfl ?_
        refine am_getR (j := 4) hE (am_dec tmX11_sharp 15 rfl) sh_16 cf11 (by decide) rfl lf_X11_33 rf_16_4 ?_
        refine am_aload_n (am_dec tmX11_sharp 16 rfl) rfl rfl ?_
        refine am_aload (am_dec tmX11_sharp 17 rfl) rfl ?_
        refine am_aload_n (am_dec tmX11_sharp 18 rfl) rfl rfl ?_
        refine am_getR (j := 0) hE (am_dec tmX11_sharp 19 rfl) sh_16 cf11 (by decide) rfl lf_X11_10 rf_16_0 ?_
        refine am_getR (j := 5) hE (am_dec tmX11_sharp 20 rfl) sh_17 cf1 (by decide) rfl lf_X11_165 rf_17_5 ?_
        obtain ⟨x8, g7, hf⟩ := am_bd hf
        refine am_callV0 (As := [.ref x2, .ref x4, .ref 23]) (st := []) hE (am_dec tmX11_sharp 21 rfl) ok_X3_drawOut rfl lm_X11_180 in_X3_drawOut se_X3_drawOut sh_71 cf3 (c_X3_drawOut hE sh_71 h_x2 h_x4 sh_23 g7) rfl (by decide) (Nat.le_of_ble_eq_true rfl) (Nat.zero_le _) (Nat.zero_le _) rfl ?_
        refine am_aload_n (am_dec tmX11_sharp 22 rfl) rfl rfl ?_
        refine am_getR (j := 9) hE (am_dec tmX11_sharp 23 rfl) sh_16 cf11 (by decide) rfl lf_X11_62 rf_16_9 ?_
        refine am_aload_n (am_dec tmX11_sharp 24 rfl) rfl rfl ?_
        refine am_aload_n (am_dec tmX11_sharp 25 rfl) rfl rfl ?_
        refine am_getR (j := 0) hE (am_dec tmX11_sharp 26 rfl) sh_16 cf11 (by decide) rfl lf_X11_10 rf_16_0 ?_
        obtain ⟨x10, g9, hf⟩ := am_bd hf
        refine am_callV0 (As := [.ref x2, .ref 17]) (st := []) hE (am_dec tmX11_sharp 27 rfl) ok_X0_find rfl lm_X11_186 in_X0_find se_X0_find sh_106 cf0 (c_X0_find hE sh_106 h_x2 g9) rfl (by decide) (Nat.le_of_ble_eq_true rfl) (Nat.zero_le _) (Nat.zero_le _) rfl ?_
        refine am_aload_n (am_dec tmX11_sharp 28 rfl) rfl rfl ?_
        refine am_getR (j := 4) hE (am_dec tmX11_sharp 29 rfl) sh_16 cf11 (by decide) rfl lf_X11_33 rf_16_4 ?_
        refine am_aload_n (am_dec tmX11_sharp 30 rfl) rfl rfl ?_
        refine am_getR (j := 9) hE (am_dec tmX11_sharp 31 rfl) sh_16 cf11 (by decide) rfl lf_X11_62 rf_16_9 ?_
        refine am_aload_n (am_dec tmX11_sharp 32 rfl) rfl rfl ?_
        refine am_getR (j := 0) hE (am_dec tmX11_sharp 33 rfl) sh_16 cf11 (by decide) rfl lf_X11_10 rf_16_0 ?_
        refine am_getI (j := 13) hE (am_dec tmX11_sharp 34 rfl) sh_17 cf1 (by decide) rfl lf_X11_190 ?_
        obtain ⟨x12, g11, hf⟩ := am_bd hf
        refine am_callV1 (As := [.ref 106, .int (x10.1 17 13)]) (st := []) hE (am_dec tmX11_sharp 35 rfl) ok_X3_moveBlows rfl lm_X11_193 in_X3_moveBlows se_X3_moveBlows sh_71 cf3 (c_X3_moveBlows hE sh_71 sh_106 g11) rfl (by decide) (Nat.le_of_ble_eq_true rfl) (Nat.zero_le _) (Nat.zero_le _) rfl ?_
        cases hf
def f_X11_length (D : am_D) : Option (Int32) :=
    some (D.1 74 1)
set_option maxRecDepth 100000 in
set_option maxHeartbeats 4000000 in
theorem c_X11_length {E : am_E} (hE : am_EH E) {D : am_D} {r : Int32}  (hf : f_X11_length D = some r) : am_C E mX11_length 1 0 0 [.ref 16] am_G0 D (.inl (some (.int r))) am_G0 D := by
  refine am_C_of (by decide +kernel) (Nat.le_of_ble_eq_true rfl) ?_
  change am_S E mX11_length 1 0 0 (.inl (some (.int r))) am_G0 D 0 0 0 [(0, .ref 16)] [] am_G0 D
  unfold f_X11_length at hf
  refine am_aload_n (am_dec tmX11_length 0 rfl) rfl rfl ?_
  refine am_getR (j := 4) hE (am_dec tmX11_length 1 rfl) sh_16 cf11 (by decide) rfl lf_X11_33 rf_16_4 ?_
  refine am_getR (j := 1) hE (am_dec tmX11_length 2 rfl) sh_71 cf3 (by decide) rfl lf_X11_197 rf_71_1 ?_
  refine am_getI (j := 1) hE (am_dec tmX11_length 3 rfl) sh_74 cf7 (by decide) rfl lf_X11_134 ?_
  have hf := Option.some.inj hf
  subst hf
  exact am_iret (am_dec tmX11_length 4 rfl) rfl (Nat.zero_le _) (Nat.zero_le _)
def f_X11_result (p1 : Int32) (D : am_D) : Option (Int32) :=
    (f_X7_toldAt 74 p1 D).bind fun x2 =>
    some x2
set_option maxRecDepth 100000 in
set_option maxHeartbeats 4000000 in
theorem c_X11_result {E : am_E} (hE : am_EH E) {p1 : Int32} {D : am_D} {r : Int32}  (hf : f_X11_result p1 D = some r) : am_C E mX11_result 3 0 0 [.ref 16, .int p1] am_G0 D (.inl (some (.int r))) am_G0 D := by
  refine am_C_of (by decide +kernel) (Nat.le_of_ble_eq_true rfl) ?_
  change am_S E mX11_result 3 0 0 (.inl (some (.int r))) am_G0 D 0 0 0 [(0, .ref 16), (1, .int p1)] [] am_G0 D
  unfold f_X11_result at hf
  refine am_aload_n (am_dec tmX11_result 0 rfl) rfl rfl ?_
  refine am_getR (j := 4) hE (am_dec tmX11_result 1 rfl) sh_16 cf11 (by decide) rfl lf_X11_33 rf_16_4 ?_
  refine am_getR (j := 1) hE (am_dec tmX11_result 2 rfl) sh_71 cf3 (by decide) rfl lf_X11_197 rf_71_1 ?_
  refine am_iload_n (am_dec tmX11_result 3 rfl) rfl rfl ?_
  obtain ⟨x2, g1, hf⟩ := am_bd hf
  refine am_callV1 (As := [.int p1]) (st := []) hE (am_dec tmX11_result 4 rfl) ok_X7_toldAt rfl lm_X11_135 in_X7_toldAt se_X7_toldAt sh_74 cf7 (c_X7_toldAt hE sh_74 g1) rfl (by decide) (Nat.le_of_ble_eq_true rfl) (Nat.zero_le _) (Nat.zero_le _) rfl ?_
  have hf := Option.some.inj hf
  subst hf
  exact am_iret (am_dec tmX11_result 5 rfl) rfl (Nat.zero_le _) (Nat.zero_le _)
def f_X11_seam (p1 : Int32) (p2 : Int32) (D : am_D) : Option (String ⊕ Int32) :=
    (f_X11_within p2 (0 : Int32) (2 : Int32)).bind fun x2 =>
    am_bt (f_X11_need x2) fun x4 =>
    (f_X3_seamTold 71 p1 p2 D).bind fun x6 =>
    some (.inr x6)
set_option maxRecDepth 100000 in
set_option maxHeartbeats 4000000 in
theorem c_X11_seam {E : am_E} (hE : am_EH E) {p1 : Int32} {p2 : Int32} {D : am_D} {r : Int32}  (hf : f_X11_seam p1 p2 D = some (.inr r)) : am_C E mX11_seam 2 0 0 [.ref 16, .int p1, .int p2] am_G0 D (.inl (some (.int r))) am_G0 D := by
  refine am_C_of (by decide +kernel) (Nat.le_of_ble_eq_true rfl) ?_
  change am_S E mX11_seam 2 0 0 (.inl (some (.int r))) am_G0 D 0 0 0 [(0, .ref 16), (1, .int p1), (2, .int p2)] [] am_G0 D
  unfold f_X11_seam at hf
  refine am_iload_n (am_dec tmX11_seam 0 rfl) rfl rfl ?_
  refine am_iconst (v := (0 : Int32)) (am_dec tmX11_seam 1 rfl) (by decide) ?_
  refine am_iconst (v := (2 : Int32)) (am_dec tmX11_seam 2 rfl) (by decide) ?_
  obtain ⟨x2, g1, hf⟩ := am_bd hf
  refine am_callS1 (As := [.int p2, .int (0 : Int32), .int (2 : Int32)]) (st := []) (am_dec tmX11_seam 3 rfl) ok_X11_within rfl lm_X11_143 st_X11_within (c_X11_within hE g1) rfl (by decide) (Nat.le_of_ble_eq_true rfl) (Nat.zero_le _) (Nat.zero_le _) rfl ?_
  obtain ⟨x4, g3, hf⟩ := am_btR hf
  refine am_callS0 (As := [.int x2]) (st := []) (am_dec tmX11_seam 4 rfl) ok_X11_need rfl lm_X11_94 st_X11_need (c_X11_need hE g3) rfl (by decide) (Nat.le_of_ble_eq_true rfl) (Nat.zero_le _) (Nat.zero_le _) rfl ?_
  refine am_aload_n (am_dec tmX11_seam 5 rfl) rfl rfl ?_
  refine am_getR (j := 4) hE (am_dec tmX11_seam 6 rfl) sh_16 cf11 (by decide) rfl lf_X11_33 rf_16_4 ?_
  refine am_iload_n (am_dec tmX11_seam 7 rfl) rfl rfl ?_
  refine am_iload_n (am_dec tmX11_seam 8 rfl) rfl rfl ?_
  obtain ⟨x6, g5, hf⟩ := am_bd hf
  refine am_callV1 (As := [.int p1, .int p2]) (st := []) hE (am_dec tmX11_seam 9 rfl) ok_X3_seamTold rfl lm_X11_200 in_X3_seamTold se_X3_seamTold sh_71 cf3 (c_X3_seamTold hE sh_71 g5) rfl (by decide) (Nat.le_of_ble_eq_true rfl) (Nat.zero_le _) (Nat.zero_le _) rfl ?_
  have hf := Sum.inr.inj (Option.some.inj hf)
  subst hf
  exact am_iret (am_dec tmX11_seam 10 rfl) rfl (Nat.zero_le _) (Nat.zero_le _)
set_option maxRecDepth 100000 in
set_option maxHeartbeats 4000000 in
theorem t_X11_seam {E : am_E} (hE : am_EH E) {p1 : Int32} {p2 : Int32} {D : am_D} {r : String}  (hf : f_X11_seam p1 p2 D = some (.inl r)) : am_C E mX11_seam 2 1 6 [.ref 16, .int p1, .int p2] am_G0 D (.inr r) am_G0 D := by
  refine am_C_of (by decide +kernel) (Nat.le_of_ble_eq_true rfl) ?_
  change am_S E mX11_seam 2 1 6 (.inr r) am_G0 D 0 0 0 [(0, .ref 16), (1, .int p1), (2, .int p2)] [] am_G0 D
  unfold f_X11_seam at hf
  refine am_iload_n (am_dec tmX11_seam 0 rfl) rfl rfl ?_
  refine am_iconst (v := (0 : Int32)) (am_dec tmX11_seam 1 rfl) (by decide) ?_
  refine am_iconst (v := (2 : Int32)) (am_dec tmX11_seam 2 rfl) (by decide) ?_
  obtain ⟨x2, g1, hf⟩ := am_bd hf
  refine am_callS1 (As := [.int p2, .int (0 : Int32), .int (2 : Int32)]) (st := []) (am_dec tmX11_seam 3 rfl) ok_X11_within rfl lm_X11_143 st_X11_within (c_X11_within hE g1) rfl (by decide) (Nat.le_of_ble_eq_true rfl) (Nat.zero_le _) (Nat.zero_le _) rfl ?_
  rcases am_btT hf with g3 | ⟨x4, g3, hf⟩
  · exact am_callS_out (As := [.int x2]) (st := []) (am_dec tmX11_seam 4 rfl) ok_X11_need rfl lm_X11_94 st_X11_need (t_X11_need hE g3) rfl (by decide) (Nat.le_of_ble_eq_true rfl) (Nat.le_refl _) (Nat.le_refl _) rfl rfl
  · refine am_callS0 (As := [.int x2]) (st := []) (am_dec tmX11_seam 4 rfl) ok_X11_need rfl lm_X11_94 st_X11_need (c_X11_need hE g3) rfl (by decide) (Nat.le_of_ble_eq_true rfl) (Nat.zero_le _) (Nat.zero_le _) rfl ?_
    refine am_aload_n (am_dec tmX11_seam 5 rfl) rfl rfl ?_
    refine am_getR (j := 4) hE (am_dec tmX11_seam 6 rfl) sh_16 cf11 (by decide) rfl lf_X11_33 rf_16_4 ?_
    refine am_iload_n (am_dec tmX11_seam 7 rfl) rfl rfl ?_
    refine am_iload_n (am_dec tmX11_seam 8 rfl) rfl rfl ?_
    obtain ⟨x6, g5, hf⟩ := am_bd hf
    refine am_callV1 (As := [.int p1, .int p2]) (st := []) hE (am_dec tmX11_seam 9 rfl) ok_X3_seamTold rfl lm_X11_200 in_X3_seamTold se_X3_seamTold sh_71 cf3 (c_X3_seamTold hE sh_71 g5) rfl (by decide) (Nat.le_of_ble_eq_true rfl) (Nat.zero_le _) (Nat.zero_le _) rfl ?_
    cases hf
def f_X11_keep (D : am_D) : Option ((Int32 × am_D)) :=
    am_bn (f_X1_freeSound D)
    (fun x2 =>
    (f_X11_within (D.1 74 1) (1 : Int32) (600 : Int32)).bind fun x4 =>
    if x4 = 0 then
    some ((-2 : Int32), D)
    else
    (f_X7_copyFrom x2 74 D).bind fun x7 =>
    (f_X1_takeSound x7).bind fun x9 =>
    some (x9.1, x9.2))
    (some ((-1 : Int32), D))
set_option maxRecDepth 100000 in
set_option maxHeartbeats 4000000 in
theorem c_X11_keep {E : am_E} (hE : am_EH E) {D : am_D} {r : (Int32 × am_D)}  (hf : f_X11_keep D = some r) : am_C E mX11_keep 3 0 0 [.ref 16] am_G0 D (.inl (some (.int r.1))) am_G0 r.2 := by
  refine am_C_of (by decide +kernel) (Nat.le_of_ble_eq_true rfl) ?_
  change am_S E mX11_keep 3 0 0 (.inl (some (.int r.1))) am_G0 r.2 0 0 0 [(0, .ref 16)] [] am_G0 D
  unfold f_X11_keep at hf
  refine am_aload_n (am_dec tmX11_keep 0 rfl) rfl rfl ?_
  refine am_getR (j := 0) hE (am_dec tmX11_keep 1 rfl) sh_16 cf11 (by decide) rfl lf_X11_10 rf_16_0 ?_
  rcases am_bnd hf with ⟨x2, g1, hf⟩ | ⟨g1, hf⟩
  · have h_x2 := k_X1_freeSound g1
    refine am_callV1 (w := .ref x2) (As := []) (st := []) hE (am_dec tmX11_keep 2 rfl) ok_X1_freeSound rfl lm_X11_101 in_X1_freeSound se_X1_freeSound sh_17 cf1 (c_X1_freeSound hE  g1) rfl (by decide) (Nat.le_of_ble_eq_true rfl) (Nat.zero_le _) (Nat.zero_le _) rfl ?_
    refine am_astore_n (lv' := [(0, .ref 16), (1, .ref x2)]) (am_dec tmX11_keep 3 rfl) rfl (by decide) rfl ?_
    refine am_aload_n (am_dec tmX11_keep 4 rfl) rfl rfl ?_
    refine am_ifnonnull (tgt := 14) (am_dec tmX11_keep 5 rfl) (by decide) ?_
    refine am_aload_n (am_dec tmX11_keep 8 rfl) rfl rfl ?_
    refine am_getR (j := 4) hE (am_dec tmX11_keep 9 rfl) sh_16 cf11 (by decide) rfl lf_X11_33 rf_16_4 ?_
    refine am_getR (j := 1) hE (am_dec tmX11_keep 10 rfl) sh_71 cf3 (by decide) rfl lf_X11_197 rf_71_1 ?_
    refine am_getI (j := 1) hE (am_dec tmX11_keep 11 rfl) sh_74 cf7 (by decide) rfl lf_X11_134 ?_
    refine am_iconst (v := (1 : Int32)) (am_dec tmX11_keep 12 rfl) (by decide) ?_
    refine am_sipush (v := (600 : Int32)) (am_dec tmX11_keep 13 rfl) (by decide) ?_
    obtain ⟨x4, g3, hf⟩ := am_bd hf
    refine am_callS1 (As := [.int (D.1 74 1), .int (1 : Int32), .int (600 : Int32)]) (st := []) (am_dec tmX11_keep 14 rfl) ok_X11_within rfl lm_X11_143 st_X11_within (c_X11_within hE g3) rfl (by decide) (Nat.le_of_ble_eq_true rfl) (Nat.zero_le _) (Nat.zero_le _) rfl ?_
    refine am_if_ne (tgt := 37) (am_dec tmX11_keep 15 rfl) (by decide) (fun c5 => ?_) (fun c5 => ?_)
    · rw [if_neg c5] at hf
      refine am_aload_n (am_dec tmX11_keep 18 rfl) rfl rfl ?_
      refine am_aload_n (am_dec tmX11_keep 19 rfl) rfl rfl ?_
      refine am_getR (j := 4) hE (am_dec tmX11_keep 20 rfl) sh_16 cf11 (by decide) rfl lf_X11_33 rf_16_4 ?_
      refine am_getR (j := 1) hE (am_dec tmX11_keep 21 rfl) sh_71 cf3 (by decide) rfl lf_X11_197 rf_71_1 ?_
      obtain ⟨x7, g6, hf⟩ := am_bd hf
      refine am_callV0 (As := [.ref 74]) (st := []) hE (am_dec tmX11_keep 22 rfl) ok_X7_copyFrom rfl lm_X11_204 in_X7_copyFrom se_X7_copyFrom h_x2 cf7 (c_X7_copyFrom hE h_x2 sh_74 g6) rfl (by decide) (Nat.le_of_ble_eq_true rfl) (Nat.zero_le _) (Nat.zero_le _) rfl ?_
      refine am_aload_n (am_dec tmX11_keep 23 rfl) rfl rfl ?_
      refine am_getR (j := 0) hE (am_dec tmX11_keep 24 rfl) sh_16 cf11 (by decide) rfl lf_X11_10 rf_16_0 ?_
      obtain ⟨x9, g8, hf⟩ := am_bd hf
      refine am_callV1 (As := []) (st := []) hE (am_dec tmX11_keep 25 rfl) ok_X1_takeSound rfl lm_X11_112 in_X1_takeSound se_X1_takeSound sh_17 cf1 (c_X1_takeSound hE g8) rfl (by decide) (Nat.le_of_ble_eq_true rfl) (Nat.zero_le _) (Nat.zero_le _) rfl ?_
      have hf := Option.some.inj hf
      subst hf
      exact am_iret (am_dec tmX11_keep 26 rfl) rfl (Nat.zero_le _) (Nat.zero_le _)
    · rw [if_pos c5] at hf
      refine am_bipush (v := (-2 : Int32)) (am_dec tmX11_keep 16 rfl) (by decide) ?_
      have hf := Option.some.inj hf
      subst hf
      exact am_iret (am_dec tmX11_keep 17 rfl) rfl (Nat.zero_le _) (Nat.zero_le _)
  · refine am_callV1 (w := .null) (As := []) (st := []) hE (am_dec tmX11_keep 2 rfl) ok_X1_freeSound rfl lm_X11_101 in_X1_freeSound se_X1_freeSound sh_17 cf1 (c_X1_freeSound hE  g1) rfl (by decide) (Nat.le_of_ble_eq_true rfl) (Nat.zero_le _) (Nat.zero_le _) rfl ?_
    refine am_astore_nN (lv' := [(0, .ref 16), (1, .null)]) (am_dec tmX11_keep 3 rfl) rfl (by decide) rfl ?_
    refine am_aload_nN (am_dec tmX11_keep 4 rfl) rfl rfl ?_
    refine am_ifnonnullN (am_dec tmX11_keep 5 rfl) ?_
    refine am_iconst (v := (-1 : Int32)) (am_dec tmX11_keep 6 rfl) (by decide) ?_
    have hf := Option.some.inj hf
    subst hf
    exact am_iret (am_dec tmX11_keep 7 rfl) rfl (Nat.zero_le _) (Nat.zero_le _)
def f_X11_blowing (p1 : Int32) (p2 : Int32) (p3 : Int32) (D : am_D) : Option ((String × am_D) ⊕ (Int32 × am_D)) :=
    (f_X11_within p1 (1 : Int32) (2047 : Int32)).bind fun x2 =>
    (if x2 = 0 then
    some ((0 : Int32))
    else
    (f_X11_within p2 (1 : Int32) (20 : Int32)).bind fun x6 =>
    if x6 = 0 then
    some ((0 : Int32))
    else
    (f_X11_within p3 (1 : Int32) (40 : Int32)).bind fun x9 =>
    if x9 = 0 then
    some ((0 : Int32))
    else
    some ((1 : Int32))).bind fun w11 =>
    am_btD (f_X11_need w11) D fun x13 =>
    (some (am_wI D 17 11 p1)).bind fun D14 =>
    (some (am_wI D14 17 12 p2)).bind fun D16 =>
    (some (am_wI D16 17 13 p3)).bind fun D18 =>
    some (.inr ((D.1 17 11), D18))
set_option maxRecDepth 100000 in
set_option maxHeartbeats 4000000 in
theorem c_X11_blowing {E : am_E} (hE : am_EH E) {p1 : Int32} {p2 : Int32} {p3 : Int32} {D : am_D} {r : (Int32 × am_D)}  (hf : f_X11_blowing p1 p2 p3 D = some (.inr r)) : am_C E mX11_blowing 2 0 0 [.ref 16, .int p1, .int p2, .int p3] am_G0 D (.inl (some (.int r.1))) am_G0 r.2 := by
  refine am_C_of (by decide +kernel) (Nat.le_of_ble_eq_true rfl) ?_
  change am_S E mX11_blowing 2 0 0 (.inl (some (.int r.1))) am_G0 r.2 0 0 0 [(0, .ref 16), (1, .int p1), (2, .int p2), (3, .int p3)] [] am_G0 D
  unfold f_X11_blowing at hf
  refine am_iload_n (am_dec tmX11_blowing 0 rfl) rfl rfl ?_
  refine am_iconst (v := (1 : Int32)) (am_dec tmX11_blowing 1 rfl) (by decide) ?_
  refine am_sipush (v := (2047 : Int32)) (am_dec tmX11_blowing 2 rfl) (by decide) ?_
  obtain ⟨x2, g1, hf⟩ := am_bd hf
  refine am_callS1 (As := [.int p1, .int (1 : Int32), .int (2047 : Int32)]) (st := []) (am_dec tmX11_blowing 3 rfl) ok_X11_within rfl lm_X11_143 st_X11_within (c_X11_within hE g1) rfl (by decide) (Nat.le_of_ble_eq_true rfl) (Nat.zero_le _) (Nat.zero_le _) rfl ?_
  obtain ⟨w11, g20, hf⟩ := am_bd hf
  have key4 : am_S E mX11_blowing 2 0 0 (.inl (some (.int r.1))) am_G0 r.2 0 0 36 [(0, .ref 16), (1, .int p1), (2, .int p2), (3, .int p3)] [.int w11] am_G0 D := by
    obtain ⟨x13, g12, hf⟩ := am_btDR hf
    refine am_callS0 (As := [.int w11]) (st := []) (am_dec tmX11_blowing 18 rfl) ok_X11_need rfl lm_X11_94 st_X11_need (c_X11_need hE g12) rfl (by decide) (Nat.le_of_ble_eq_true rfl) (Nat.zero_le _) (Nat.zero_le _) rfl ?_
    refine am_aload_n (am_dec tmX11_blowing 19 rfl) rfl rfl ?_
    refine am_getR (j := 0) hE (am_dec tmX11_blowing 20 rfl) sh_16 cf11 (by decide) rfl lf_X11_10 rf_16_0 ?_
    refine am_getI (j := 11) hE (am_dec tmX11_blowing 21 rfl) sh_17 cf1 (by decide) rfl lf_X11_207 ?_
    refine am_istore (lv' := [(0, .ref 16), (1, .int p1), (2, .int p2), (3, .int p3), (4, .int (D.1 17 11))]) (am_dec tmX11_blowing 22 rfl) (by decide) rfl ?_
    refine am_aload_n (am_dec tmX11_blowing 23 rfl) rfl rfl ?_
    refine am_getR (j := 0) hE (am_dec tmX11_blowing 24 rfl) sh_16 cf11 (by decide) rfl lf_X11_10 rf_16_0 ?_
    refine am_iload_n (am_dec tmX11_blowing 25 rfl) rfl rfl ?_
    obtain ⟨D14, g15, hf⟩ := am_bd hf
    refine am_putI2 (j := 11) hE (am_dec tmX11_blowing 26 rfl) sh_17 cf1 (by decide) rfl lf_X11_207 rfl rfl rfl g15 ?_
    refine am_aload_n (am_dec tmX11_blowing 27 rfl) rfl rfl ?_
    refine am_getR (j := 0) hE (am_dec tmX11_blowing 28 rfl) sh_16 cf11 (by decide) rfl lf_X11_10 rf_16_0 ?_
    refine am_iload_n (am_dec tmX11_blowing 29 rfl) rfl rfl ?_
    obtain ⟨D16, g17, hf⟩ := am_bd hf
    refine am_putI2 (j := 12) hE (am_dec tmX11_blowing 30 rfl) sh_17 cf1 (by decide) rfl lf_X11_210 rfl rfl rfl g17 ?_
    refine am_aload_n (am_dec tmX11_blowing 31 rfl) rfl rfl ?_
    refine am_getR (j := 0) hE (am_dec tmX11_blowing 32 rfl) sh_16 cf11 (by decide) rfl lf_X11_10 rf_16_0 ?_
    refine am_iload_n (am_dec tmX11_blowing 33 rfl) rfl rfl ?_
    obtain ⟨D18, g19, hf⟩ := am_bd hf
    refine am_putI2 (j := 13) hE (am_dec tmX11_blowing 34 rfl) sh_17 cf1 (by decide) rfl lf_X11_190 rfl rfl rfl g19 ?_
    refine am_iload (am_dec tmX11_blowing 35 rfl) rfl ?_
    have hf := Sum.inr.inj (Option.some.inj hf)
    subst hf
    exact am_iret (am_dec tmX11_blowing 36 rfl) rfl (Nat.zero_le _) (Nat.zero_le _)
  replace hf := g20
  refine am_if_eq (tgt := 35) (am_dec tmX11_blowing 4 rfl) (by decide) (fun c3 => ?_) (fun c3 => ?_)
  · rw [if_pos c3] at hf
    refine am_iconst (v := (0 : Int32)) (am_dec tmX11_blowing 17 rfl) (by decide) ?_
    have hf := Option.some.inj hf
    subst hf
    exact am_pick [0, 1, 2, 3] rfl key4
  · rw [if_neg c3] at hf
    refine am_iload_n (am_dec tmX11_blowing 5 rfl) rfl rfl ?_
    refine am_iconst (v := (1 : Int32)) (am_dec tmX11_blowing 6 rfl) (by decide) ?_
    refine am_bipush (v := (20 : Int32)) (am_dec tmX11_blowing 7 rfl) (by decide) ?_
    obtain ⟨x6, g5, hf⟩ := am_bd hf
    refine am_callS1 (As := [.int p2, .int (1 : Int32), .int (20 : Int32)]) (st := []) (am_dec tmX11_blowing 8 rfl) ok_X11_within rfl lm_X11_143 st_X11_within (c_X11_within hE g5) rfl (by decide) (Nat.le_of_ble_eq_true rfl) (Nat.zero_le _) (Nat.zero_le _) rfl ?_
    refine am_if_eq (tgt := 35) (am_dec tmX11_blowing 9 rfl) (by decide) (fun c7 => ?_) (fun c7 => ?_)
    · rw [if_pos c7] at hf
      refine am_iconst (v := (0 : Int32)) (am_dec tmX11_blowing 17 rfl) (by decide) ?_
      have hf := Option.some.inj hf
      subst hf
      exact am_pick [0, 1, 2, 3] rfl key4
    · rw [if_neg c7] at hf
      refine am_iload_n (am_dec tmX11_blowing 10 rfl) rfl rfl ?_
      refine am_iconst (v := (1 : Int32)) (am_dec tmX11_blowing 11 rfl) (by decide) ?_
      refine am_bipush (v := (40 : Int32)) (am_dec tmX11_blowing 12 rfl) (by decide) ?_
      obtain ⟨x9, g8, hf⟩ := am_bd hf
      refine am_callS1 (As := [.int p3, .int (1 : Int32), .int (40 : Int32)]) (st := []) (am_dec tmX11_blowing 13 rfl) ok_X11_within rfl lm_X11_143 st_X11_within (c_X11_within hE g8) rfl (by decide) (Nat.le_of_ble_eq_true rfl) (Nat.zero_le _) (Nat.zero_le _) rfl ?_
      refine am_if_eq (tgt := 35) (am_dec tmX11_blowing 14 rfl) (by decide) (fun c10 => ?_) (fun c10 => ?_)
      · rw [if_pos c10] at hf
        refine am_iconst (v := (0 : Int32)) (am_dec tmX11_blowing 17 rfl) (by decide) ?_
        have hf := Option.some.inj hf
        subst hf
        exact am_pick [0, 1, 2, 3] rfl key4
      · rw [if_neg c10] at hf
        refine am_iconst (v := (1 : Int32)) (am_dec tmX11_blowing 15 rfl) (by decide) ?_
        refine am_goto (tgt := 36) (am_dec tmX11_blowing 16 rfl) (by decide) ?_
        have hf := Option.some.inj hf
        subst hf
        exact am_pick [0, 1, 2, 3] rfl key4
set_option maxRecDepth 100000 in
set_option maxHeartbeats 4000000 in
theorem t_X11_blowing {E : am_E} (hE : am_EH E) {p1 : Int32} {p2 : Int32} {p3 : Int32} {D : am_D} {r : String × am_D}  (hf : f_X11_blowing p1 p2 p3 D = some (.inl r)) : am_C E mX11_blowing 2 1 6 [.ref 16, .int p1, .int p2, .int p3] am_G0 D (.inr r.1) am_G0 r.2 := by
  refine am_C_of (by decide +kernel) (Nat.le_of_ble_eq_true rfl) ?_
  change am_S E mX11_blowing 2 1 6 (.inr r.1) am_G0 r.2 0 0 0 [(0, .ref 16), (1, .int p1), (2, .int p2), (3, .int p3)] [] am_G0 D
  unfold f_X11_blowing at hf
  refine am_iload_n (am_dec tmX11_blowing 0 rfl) rfl rfl ?_
  refine am_iconst (v := (1 : Int32)) (am_dec tmX11_blowing 1 rfl) (by decide) ?_
  refine am_sipush (v := (2047 : Int32)) (am_dec tmX11_blowing 2 rfl) (by decide) ?_
  obtain ⟨x2, g1, hf⟩ := am_bd hf
  refine am_callS1 (As := [.int p1, .int (1 : Int32), .int (2047 : Int32)]) (st := []) (am_dec tmX11_blowing 3 rfl) ok_X11_within rfl lm_X11_143 st_X11_within (c_X11_within hE g1) rfl (by decide) (Nat.le_of_ble_eq_true rfl) (Nat.zero_le _) (Nat.zero_le _) rfl ?_
  obtain ⟨w11, g20, hf⟩ := am_bd hf
  have key4 : am_S E mX11_blowing 2 1 6 (.inr r.1) am_G0 r.2 0 0 36 [(0, .ref 16), (1, .int p1), (2, .int p2), (3, .int p3)] [.int w11] am_G0 D := by
    rcases am_btDT hf with ⟨g12, eD⟩ | ⟨x13, g12, hf⟩
    · rw [eD]
      exact am_callS_out (As := [.int w11]) (st := []) (am_dec tmX11_blowing 18 rfl) ok_X11_need rfl lm_X11_94 st_X11_need (t_X11_need hE g12) rfl (by decide) (Nat.le_of_ble_eq_true rfl) (Nat.le_refl _) (Nat.le_refl _) rfl rfl
    · refine am_callS0 (As := [.int w11]) (st := []) (am_dec tmX11_blowing 18 rfl) ok_X11_need rfl lm_X11_94 st_X11_need (c_X11_need hE g12) rfl (by decide) (Nat.le_of_ble_eq_true rfl) (Nat.zero_le _) (Nat.zero_le _) rfl ?_
      refine am_aload_n (am_dec tmX11_blowing 19 rfl) rfl rfl ?_
      refine am_getR (j := 0) hE (am_dec tmX11_blowing 20 rfl) sh_16 cf11 (by decide) rfl lf_X11_10 rf_16_0 ?_
      refine am_getI (j := 11) hE (am_dec tmX11_blowing 21 rfl) sh_17 cf1 (by decide) rfl lf_X11_207 ?_
      refine am_istore (lv' := [(0, .ref 16), (1, .int p1), (2, .int p2), (3, .int p3), (4, .int (D.1 17 11))]) (am_dec tmX11_blowing 22 rfl) (by decide) rfl ?_
      refine am_aload_n (am_dec tmX11_blowing 23 rfl) rfl rfl ?_
      refine am_getR (j := 0) hE (am_dec tmX11_blowing 24 rfl) sh_16 cf11 (by decide) rfl lf_X11_10 rf_16_0 ?_
      refine am_iload_n (am_dec tmX11_blowing 25 rfl) rfl rfl ?_
      obtain ⟨D14, g15, hf⟩ := am_bd hf
      refine am_putI2 (j := 11) hE (am_dec tmX11_blowing 26 rfl) sh_17 cf1 (by decide) rfl lf_X11_207 rfl rfl rfl g15 ?_
      refine am_aload_n (am_dec tmX11_blowing 27 rfl) rfl rfl ?_
      refine am_getR (j := 0) hE (am_dec tmX11_blowing 28 rfl) sh_16 cf11 (by decide) rfl lf_X11_10 rf_16_0 ?_
      refine am_iload_n (am_dec tmX11_blowing 29 rfl) rfl rfl ?_
      obtain ⟨D16, g17, hf⟩ := am_bd hf
      refine am_putI2 (j := 12) hE (am_dec tmX11_blowing 30 rfl) sh_17 cf1 (by decide) rfl lf_X11_210 rfl rfl rfl g17 ?_
      refine am_aload_n (am_dec tmX11_blowing 31 rfl) rfl rfl ?_
      refine am_getR (j := 0) hE (am_dec tmX11_blowing 32 rfl) sh_16 cf11 (by decide) rfl lf_X11_10 rf_16_0 ?_
      refine am_iload_n (am_dec tmX11_blowing 33 rfl) rfl rfl ?_
      obtain ⟨D18, g19, hf⟩ := am_bd hf
      refine am_putI2 (j := 13) hE (am_dec tmX11_blowing 34 rfl) sh_17 cf1 (by decide) rfl lf_X11_190 rfl rfl rfl g19 ?_
      refine am_iload (am_dec tmX11_blowing 35 rfl) rfl ?_
      cases hf
  replace hf := g20
  refine am_if_eq (tgt := 35) (am_dec tmX11_blowing 4 rfl) (by decide) (fun c3 => ?_) (fun c3 => ?_)
  · rw [if_pos c3] at hf
    refine am_iconst (v := (0 : Int32)) (am_dec tmX11_blowing 17 rfl) (by decide) ?_
    have hf := Option.some.inj hf
    subst hf
    exact am_pick [0, 1, 2, 3] rfl key4
  · rw [if_neg c3] at hf
    refine am_iload_n (am_dec tmX11_blowing 5 rfl) rfl rfl ?_
    refine am_iconst (v := (1 : Int32)) (am_dec tmX11_blowing 6 rfl) (by decide) ?_
    refine am_bipush (v := (20 : Int32)) (am_dec tmX11_blowing 7 rfl) (by decide) ?_
    obtain ⟨x6, g5, hf⟩ := am_bd hf
    refine am_callS1 (As := [.int p2, .int (1 : Int32), .int (20 : Int32)]) (st := []) (am_dec tmX11_blowing 8 rfl) ok_X11_within rfl lm_X11_143 st_X11_within (c_X11_within hE g5) rfl (by decide) (Nat.le_of_ble_eq_true rfl) (Nat.zero_le _) (Nat.zero_le _) rfl ?_
    refine am_if_eq (tgt := 35) (am_dec tmX11_blowing 9 rfl) (by decide) (fun c7 => ?_) (fun c7 => ?_)
    · rw [if_pos c7] at hf
      refine am_iconst (v := (0 : Int32)) (am_dec tmX11_blowing 17 rfl) (by decide) ?_
      have hf := Option.some.inj hf
      subst hf
      exact am_pick [0, 1, 2, 3] rfl key4
    · rw [if_neg c7] at hf
      refine am_iload_n (am_dec tmX11_blowing 10 rfl) rfl rfl ?_
      refine am_iconst (v := (1 : Int32)) (am_dec tmX11_blowing 11 rfl) (by decide) ?_
      refine am_bipush (v := (40 : Int32)) (am_dec tmX11_blowing 12 rfl) (by decide) ?_
      obtain ⟨x9, g8, hf⟩ := am_bd hf
      refine am_callS1 (As := [.int p3, .int (1 : Int32), .int (40 : Int32)]) (st := []) (am_dec tmX11_blowing 13 rfl) ok_X11_within rfl lm_X11_143 st_X11_within (c_X11_within hE g8) rfl (by decide) (Nat.le_of_ble_eq_true rfl) (Nat.zero_le _) (Nat.zero_le _) rfl ?_
      refine am_if_eq (tgt := 35) (am_dec tmX11_blowing 14 rfl) (by decide) (fun c10 => ?_) (fun c10 => ?_)
      · rw [if_pos c10] at hf
        refine am_iconst (v := (0 : Int32)) (am_dec tmX11_blowing 17 rfl) (by decide) ?_
        have hf := Option.some.inj hf
        subst hf
        exact am_pick [0, 1, 2, 3] rfl key4
      · rw [if_neg c10] at hf
        refine am_iconst (v := (1 : Int32)) (am_dec tmX11_blowing 15 rfl) (by decide) ?_
        refine am_goto (tgt := 36) (am_dec tmX11_blowing 16 rfl) (by decide) ?_
        have hf := Option.some.inj hf
        subst hf
        exact am_pick [0, 1, 2, 3] rfl key4
def f_X11_blow (p1 : Int32) (p2 : Int32) (D : am_D) : Option ((String × am_D) ⊕ (Int32 × am_D)) :=
    am_btD (f_X11_soundOf p1 D) D fun x2 =>
    (f_X0_find 106 x2 D).bind fun x4 =>
    (f_X0_at 106 p2 x4).bind fun x6 =>
    some (.inr (x6, x4))
set_option maxRecDepth 100000 in
set_option maxHeartbeats 4000000 in
theorem c_X11_blow {E : am_E} (hE : am_EH E) {p1 : Int32} {p2 : Int32} {D : am_D} {r : (Int32 × am_D)}  (hf : f_X11_blow p1 p2 D = some (.inr r)) : am_C E mX11_blow 5 0 0 [.ref 16, .int p1, .int p2] am_G0 D (.inl (some (.int r.1))) am_G0 r.2 := by
  refine am_C_of (by decide +kernel) (Nat.le_of_ble_eq_true rfl) ?_
  change am_S E mX11_blow 5 0 0 (.inl (some (.int r.1))) am_G0 r.2 0 0 0 [(0, .ref 16), (1, .int p1), (2, .int p2)] [] am_G0 D
  unfold f_X11_blow at hf
  refine am_aload_n (am_dec tmX11_blow 0 rfl) rfl rfl ?_
  refine am_getR (j := 9) hE (am_dec tmX11_blow 1 rfl) sh_16 cf11 (by decide) rfl lf_X11_62 rf_16_9 ?_
  refine am_aload_n (am_dec tmX11_blow 2 rfl) rfl rfl ?_
  refine am_iload_n (am_dec tmX11_blow 3 rfl) rfl rfl ?_
  obtain ⟨x2, g1, hf⟩ := am_btDR hf
  have h_x2 := k_X11_soundOf g1
  refine am_callV1 (As := [.int p1]) (st := [.ref 106]) hE (am_dec tmX11_blow 4 rfl) ok_X11_soundOf rfl lm_X11_130 in_X11_soundOf se_X11_soundOf sh_16 cf11 (c_X11_soundOf hE g1) rfl (by decide) (Nat.le_of_ble_eq_true rfl) (Nat.zero_le _) (Nat.zero_le _) rfl ?_
  refine am_aload_n (am_dec tmX11_blow 5 rfl) rfl rfl ?_
  refine am_getR (j := 0) hE (am_dec tmX11_blow 6 rfl) sh_16 cf11 (by decide) rfl lf_X11_10 rf_16_0 ?_
  obtain ⟨x4, g3, hf⟩ := am_bd hf
  refine am_callV0 (As := [.ref x2, .ref 17]) (st := []) hE (am_dec tmX11_blow 7 rfl) ok_X0_find rfl lm_X11_186 in_X0_find se_X0_find sh_106 cf0 (c_X0_find hE sh_106 h_x2 g3) rfl (by decide) (Nat.le_of_ble_eq_true rfl) (Nat.zero_le _) (Nat.zero_le _) rfl ?_
  refine am_aload_n (am_dec tmX11_blow 8 rfl) rfl rfl ?_
  refine am_getR (j := 9) hE (am_dec tmX11_blow 9 rfl) sh_16 cf11 (by decide) rfl lf_X11_62 rf_16_9 ?_
  refine am_iload_n (am_dec tmX11_blow 10 rfl) rfl rfl ?_
  obtain ⟨x6, g5, hf⟩ := am_bd hf
  refine am_callV1 (As := [.int p2]) (st := []) hE (am_dec tmX11_blow 11 rfl) ok_X0_at rfl lm_X11_213 in_X0_at se_X0_at sh_106 cf0 (c_X0_at hE sh_106 g5) rfl (by decide) (Nat.le_of_ble_eq_true rfl) (Nat.zero_le _) (Nat.zero_le _) rfl ?_
  have hf := Sum.inr.inj (Option.some.inj hf)
  subst hf
  exact am_iret (am_dec tmX11_blow 12 rfl) rfl (Nat.zero_le _) (Nat.zero_le _)
set_option maxRecDepth 100000 in
set_option maxHeartbeats 4000000 in
theorem t_X11_blow {E : am_E} (hE : am_EH E) {p1 : Int32} {p2 : Int32} {D : am_D} {r : String × am_D}  (hf : f_X11_blow p1 p2 D = some (.inl r)) : am_C E mX11_blow 5 1 6 [.ref 16, .int p1, .int p2] am_G0 D (.inr r.1) am_G0 r.2 := by
  refine am_C_of (by decide +kernel) (Nat.le_of_ble_eq_true rfl) ?_
  change am_S E mX11_blow 5 1 6 (.inr r.1) am_G0 r.2 0 0 0 [(0, .ref 16), (1, .int p1), (2, .int p2)] [] am_G0 D
  unfold f_X11_blow at hf
  refine am_aload_n (am_dec tmX11_blow 0 rfl) rfl rfl ?_
  refine am_getR (j := 9) hE (am_dec tmX11_blow 1 rfl) sh_16 cf11 (by decide) rfl lf_X11_62 rf_16_9 ?_
  refine am_aload_n (am_dec tmX11_blow 2 rfl) rfl rfl ?_
  refine am_iload_n (am_dec tmX11_blow 3 rfl) rfl rfl ?_
  rcases am_btDT hf with ⟨g1, eD⟩ | ⟨x2, g1, hf⟩
  · rw [eD]
    exact am_callV_out (As := [.int p1]) (st := [.ref 106]) hE (am_dec tmX11_blow 4 rfl) ok_X11_soundOf rfl lm_X11_130 in_X11_soundOf se_X11_soundOf sh_16 cf11 (t_X11_soundOf hE g1) rfl (by decide) (Nat.le_of_ble_eq_true rfl) (Nat.le_refl _) (Nat.le_refl _) rfl rfl
  · have h_x2 := k_X11_soundOf g1
    refine am_callV1 (As := [.int p1]) (st := [.ref 106]) hE (am_dec tmX11_blow 4 rfl) ok_X11_soundOf rfl lm_X11_130 in_X11_soundOf se_X11_soundOf sh_16 cf11 (c_X11_soundOf hE g1) rfl (by decide) (Nat.le_of_ble_eq_true rfl) (Nat.zero_le _) (Nat.zero_le _) rfl ?_
    refine am_aload_n (am_dec tmX11_blow 5 rfl) rfl rfl ?_
    refine am_getR (j := 0) hE (am_dec tmX11_blow 6 rfl) sh_16 cf11 (by decide) rfl lf_X11_10 rf_16_0 ?_
    obtain ⟨x4, g3, hf⟩ := am_bd hf
    refine am_callV0 (As := [.ref x2, .ref 17]) (st := []) hE (am_dec tmX11_blow 7 rfl) ok_X0_find rfl lm_X11_186 in_X0_find se_X0_find sh_106 cf0 (c_X0_find hE sh_106 h_x2 g3) rfl (by decide) (Nat.le_of_ble_eq_true rfl) (Nat.zero_le _) (Nat.zero_le _) rfl ?_
    refine am_aload_n (am_dec tmX11_blow 8 rfl) rfl rfl ?_
    refine am_getR (j := 9) hE (am_dec tmX11_blow 9 rfl) sh_16 cf11 (by decide) rfl lf_X11_62 rf_16_9 ?_
    refine am_iload_n (am_dec tmX11_blow 10 rfl) rfl rfl ?_
    obtain ⟨x6, g5, hf⟩ := am_bd hf
    refine am_callV1 (As := [.int p2]) (st := []) hE (am_dec tmX11_blow 11 rfl) ok_X0_at rfl lm_X11_213 in_X0_at se_X0_at sh_106 cf0 (c_X0_at hE sh_106 g5) rfl (by decide) (Nat.le_of_ble_eq_true rfl) (Nat.zero_le _) (Nat.zero_le _) rfl ?_
    cases hf
def f_X11_blows (D : am_D) : Option ((Int32 × am_D)) :=
    (f_X0_find 109 74 D).bind fun x2 =>
    some ((x2.1 109 2), x2)
set_option maxRecDepth 100000 in
set_option maxHeartbeats 4000000 in
theorem c_X11_blows {E : am_E} (hE : am_EH E) {D : am_D} {r : (Int32 × am_D)}  (hf : f_X11_blows D = some r) : am_C E mX11_blows 5 0 0 [.ref 16] am_G0 D (.inl (some (.int r.1))) am_G0 r.2 := by
  refine am_C_of (by decide +kernel) (Nat.le_of_ble_eq_true rfl) ?_
  change am_S E mX11_blows 5 0 0 (.inl (some (.int r.1))) am_G0 r.2 0 0 0 [(0, .ref 16)] [] am_G0 D
  unfold f_X11_blows at hf
  refine am_aload_n (am_dec tmX11_blows 0 rfl) rfl rfl ?_
  refine am_getR (j := 10) hE (am_dec tmX11_blows 1 rfl) sh_16 cf11 (by decide) rfl lf_X11_66 rf_16_10 ?_
  refine am_aload_n (am_dec tmX11_blows 2 rfl) rfl rfl ?_
  refine am_getR (j := 4) hE (am_dec tmX11_blows 3 rfl) sh_16 cf11 (by decide) rfl lf_X11_33 rf_16_4 ?_
  refine am_getR (j := 1) hE (am_dec tmX11_blows 4 rfl) sh_71 cf3 (by decide) rfl lf_X11_197 rf_71_1 ?_
  refine am_aload_n (am_dec tmX11_blows 5 rfl) rfl rfl ?_
  refine am_getR (j := 0) hE (am_dec tmX11_blows 6 rfl) sh_16 cf11 (by decide) rfl lf_X11_10 rf_16_0 ?_
  obtain ⟨x2, g1, hf⟩ := am_bd hf
  refine am_callV0 (As := [.ref 74, .ref 17]) (st := []) hE (am_dec tmX11_blows 7 rfl) ok_X0_find rfl lm_X11_186 in_X0_find se_X0_find sh_109 cf0 (c_X0_find hE sh_109 sh_74 g1) rfl (by decide) (Nat.le_of_ble_eq_true rfl) (Nat.zero_le _) (Nat.zero_le _) rfl ?_
  refine am_aload_n (am_dec tmX11_blows 8 rfl) rfl rfl ?_
  refine am_getR (j := 10) hE (am_dec tmX11_blows 9 rfl) sh_16 cf11 (by decide) rfl lf_X11_66 rf_16_10 ?_
  refine am_getI (j := 2) hE (am_dec tmX11_blows 10 rfl) sh_109 cf0 (by decide) rfl lf_X11_216 ?_
  have hf := Option.some.inj hf
  subst hf
  exact am_iret (am_dec tmX11_blows 11 rfl) rfl (Nat.zero_le _) (Nat.zero_le _)
def f_X11_harmOf (p1 : Nat) (p2 : Int32) (D : am_D) : Option ((Int32 × am_D)) :=
    if p2.toInt < 0 ∨ 2 < p2.toInt then
    (f_X3_ringTogether p1 (D.1 17 13) D).bind fun x2 =>
    some (x2, D)
    else if p2 = (0 : Int32) then
    (f_X3_unlikeTogether p1 (0 : Int32) (1200 : Int32) D).bind fun x4 =>
    some (x4, D)
    else if p2 = (1 : Int32) then
    (f_X0_find 106 (p1 + 1) D).bind fun x6 =>
    (f_X3_smearTogether p1 106 (x6.1 17 13) x6).bind fun x8 =>
    some (x8, x6)
    else if p2 = (2 : Int32) then
    (f_X0_find 106 (p1 + 1) D).bind fun x10 =>
    (f_X0_find 109 (p1 + 3) x10).bind fun x12 =>
    some ((am_mx (0 : Int32) ((x12.1 109 2) - (x12.1 106 2))), x12)
    else none
set_option maxRecDepth 100000 in
set_option maxHeartbeats 4000000 in
theorem c_X11_harmOf {E : am_E} (hE : am_EH E) {p1 : Nat} {p2 : Int32} {D : am_D} {r : (Int32 × am_D)} (h_p1 : am_sh am_G0 p1 = some (3, 8)) (hf : f_X11_harmOf p1 p2 D = some r) : am_C E mX11_harmOf 5 0 0 [.ref 16, .ref p1, .int p2] am_G0 D (.inl (some (.int r.1))) am_G0 r.2 := by
  refine am_C_of (by decide +kernel) (Nat.le_of_ble_eq_true rfl) ?_
  change am_S E mX11_harmOf 5 0 0 (.inl (some (.int r.1))) am_G0 r.2 0 0 0 [(0, .ref 16), (1, .ref p1), (2, .int p2)] [] am_G0 D
  unfold f_X11_harmOf at hf
  refine am_iload_n (am_dec tmX11_harmOf 0 rfl) rfl rfl ?_
  by_cases hsw : p2.toInt < 0 ∨ 2 < p2.toInt
  · rw [if_pos hsw] at hf
    refine am_tableOut (tgt := 118) (am_dec tmX11_harmOf 1 rfl) hsw (by decide) ?_
    refine am_aload_n (am_dec tmX11_harmOf 46 rfl) rfl rfl ?_
    refine am_aload_n (am_dec tmX11_harmOf 47 rfl) rfl rfl ?_
    refine am_getR (j := 0) hE (am_dec tmX11_harmOf 48 rfl) sh_16 cf11 (by decide) rfl lf_X11_10 rf_16_0 ?_
    refine am_getI (j := 13) hE (am_dec tmX11_harmOf 49 rfl) sh_17 cf1 (by decide) rfl lf_X11_190 ?_
    obtain ⟨x2, g1, hf⟩ := am_bd hf
    refine am_callV1 (As := [.int (D.1 17 13)]) (st := []) hE (am_dec tmX11_harmOf 50 rfl) ok_X3_ringTogether rfl lm_X11_471 in_X3_ringTogether se_X3_ringTogether h_p1 cf3 (c_X3_ringTogether hE h_p1 g1) rfl (by decide) (Nat.le_of_ble_eq_true rfl) (Nat.zero_le _) (Nat.zero_le _) rfl ?_
    have hf := Option.some.inj hf
    subst hf
    exact am_iret (am_dec tmX11_harmOf 51 rfl) rfl (Nat.zero_le _) (Nat.zero_le _)
  · rw [if_neg hsw] at hf
    by_cases hs0 : p2 = (0 : Int32)
    · rw [if_pos hs0] at hf
      refine am_tableIn (off := 27) (tgt := 28) (am_dec tmX11_harmOf 1 rfl) (fun q9 => hsw (Or.inl q9)) (fun q9 => hsw (Or.inr q9)) (by rw [hs0]; rfl) (by decide) ?_
      refine am_aload_n (am_dec tmX11_harmOf 2 rfl) rfl rfl ?_
      refine am_iconst (v := (0 : Int32)) (am_dec tmX11_harmOf 3 rfl) (by decide) ?_
      refine am_sipush (v := (1200 : Int32)) (am_dec tmX11_harmOf 4 rfl) (by decide) ?_
      obtain ⟨x4, g3, hf⟩ := am_bd hf
      refine am_callV1 (As := [.int (0 : Int32), .int (1200 : Int32)]) (st := []) hE (am_dec tmX11_harmOf 5 rfl) ok_X3_unlikeTogether rfl lm_X11_246 in_X3_unlikeTogether se_X3_unlikeTogether h_p1 cf3 (c_X3_unlikeTogether hE h_p1 g3) rfl (by decide) (Nat.le_of_ble_eq_true rfl) (Nat.zero_le _) (Nat.zero_le _) rfl ?_
      have hf := Option.some.inj hf
      subst hf
      exact am_iret (am_dec tmX11_harmOf 6 rfl) rfl (Nat.zero_le _) (Nat.zero_le _)
    rw [if_neg hs0] at hf
    by_cases hs1 : p2 = (1 : Int32)
    · rw [if_pos hs1] at hf
      refine am_tableIn (off := 36) (tgt := 37) (am_dec tmX11_harmOf 1 rfl) (fun q9 => hsw (Or.inl q9)) (fun q9 => hsw (Or.inr q9)) (by rw [hs1]; rfl) (by decide) ?_
      refine am_aload_n (am_dec tmX11_harmOf 7 rfl) rfl rfl ?_
      refine am_getR (j := 9) hE (am_dec tmX11_harmOf 8 rfl) sh_16 cf11 (by decide) rfl lf_X11_62 rf_16_9 ?_
      refine am_aload_n (am_dec tmX11_harmOf 9 rfl) rfl rfl ?_
      refine am_getR (j := 0) hE (am_dec tmX11_harmOf 10 rfl) h_p1 cf3 (by decide) rfl lf_X11_465 (ro_X3_0_0 h_p1) ?_
      refine am_aload_n (am_dec tmX11_harmOf 11 rfl) rfl rfl ?_
      refine am_getR (j := 0) hE (am_dec tmX11_harmOf 12 rfl) sh_16 cf11 (by decide) rfl lf_X11_10 rf_16_0 ?_
      obtain ⟨x6, g5, hf⟩ := am_bd hf
      refine am_callV0 (As := [.ref (p1 + 1), .ref 17]) (st := []) hE (am_dec tmX11_harmOf 13 rfl) ok_X0_find rfl lm_X11_186 in_X0_find se_X0_find sh_106 cf0 (c_X0_find hE sh_106 (so_X3_1 h_p1) g5) rfl (by decide) (Nat.le_of_ble_eq_true rfl) (Nat.zero_le _) (Nat.zero_le _) rfl ?_
      refine am_aload_n (am_dec tmX11_harmOf 14 rfl) rfl rfl ?_
      refine am_aload_n (am_dec tmX11_harmOf 15 rfl) rfl rfl ?_
      refine am_getR (j := 9) hE (am_dec tmX11_harmOf 16 rfl) sh_16 cf11 (by decide) rfl lf_X11_62 rf_16_9 ?_
      refine am_aload_n (am_dec tmX11_harmOf 17 rfl) rfl rfl ?_
      refine am_getR (j := 0) hE (am_dec tmX11_harmOf 18 rfl) sh_16 cf11 (by decide) rfl lf_X11_10 rf_16_0 ?_
      refine am_getI (j := 13) hE (am_dec tmX11_harmOf 19 rfl) sh_17 cf1 (by decide) rfl lf_X11_190 ?_
      obtain ⟨x8, g7, hf⟩ := am_bd hf
      refine am_callV1 (As := [.ref 106, .int (x6.1 17 13)]) (st := []) hE (am_dec tmX11_harmOf 20 rfl) ok_X3_smearTogether rfl lm_X11_468 in_X3_smearTogether se_X3_smearTogether h_p1 cf3 (c_X3_smearTogether hE h_p1 sh_106 g7) rfl (by decide) (Nat.le_of_ble_eq_true rfl) (Nat.zero_le _) (Nat.zero_le _) rfl ?_
      have hf := Option.some.inj hf
      subst hf
      exact am_iret (am_dec tmX11_harmOf 21 rfl) rfl (Nat.zero_le _) (Nat.zero_le _)
    rw [if_neg hs1] at hf
    by_cases hs2 : p2 = (2 : Int32)
    · rw [if_pos hs2] at hf
      refine am_tableIn (off := 67) (tgt := 68) (am_dec tmX11_harmOf 1 rfl) (fun q9 => hsw (Or.inl q9)) (fun q9 => hsw (Or.inr q9)) (by rw [hs2]; rfl) (by decide) ?_
      refine am_aload_n (am_dec tmX11_harmOf 22 rfl) rfl rfl ?_
      refine am_getR (j := 9) hE (am_dec tmX11_harmOf 23 rfl) sh_16 cf11 (by decide) rfl lf_X11_62 rf_16_9 ?_
      refine am_aload_n (am_dec tmX11_harmOf 24 rfl) rfl rfl ?_
      refine am_getR (j := 0) hE (am_dec tmX11_harmOf 25 rfl) h_p1 cf3 (by decide) rfl lf_X11_465 (ro_X3_0_0 h_p1) ?_
      refine am_aload_n (am_dec tmX11_harmOf 26 rfl) rfl rfl ?_
      refine am_getR (j := 0) hE (am_dec tmX11_harmOf 27 rfl) sh_16 cf11 (by decide) rfl lf_X11_10 rf_16_0 ?_
      obtain ⟨x10, g9, hf⟩ := am_bd hf
      refine am_callV0 (As := [.ref (p1 + 1), .ref 17]) (st := []) hE (am_dec tmX11_harmOf 28 rfl) ok_X0_find rfl lm_X11_186 in_X0_find se_X0_find sh_106 cf0 (c_X0_find hE sh_106 (so_X3_1 h_p1) g9) rfl (by decide) (Nat.le_of_ble_eq_true rfl) (Nat.zero_le _) (Nat.zero_le _) rfl ?_
      refine am_aload_n (am_dec tmX11_harmOf 29 rfl) rfl rfl ?_
      refine am_getR (j := 10) hE (am_dec tmX11_harmOf 30 rfl) sh_16 cf11 (by decide) rfl lf_X11_66 rf_16_10 ?_
      refine am_aload_n (am_dec tmX11_harmOf 31 rfl) rfl rfl ?_
      refine am_getR (j := 1) hE (am_dec tmX11_harmOf 32 rfl) h_p1 cf3 (by decide) rfl lf_X11_197 (ro_X3_0_1 h_p1) ?_
      refine am_aload_n (am_dec tmX11_harmOf 33 rfl) rfl rfl ?_
      refine am_getR (j := 0) hE (am_dec tmX11_harmOf 34 rfl) sh_16 cf11 (by decide) rfl lf_X11_10 rf_16_0 ?_
      obtain ⟨x12, g11, hf⟩ := am_bd hf
      refine am_callV0 (As := [.ref (p1 + 3), .ref 17]) (st := []) hE (am_dec tmX11_harmOf 35 rfl) ok_X0_find rfl lm_X11_186 in_X0_find se_X0_find sh_109 cf0 (c_X0_find hE sh_109 (so_X3_3 h_p1) g11) rfl (by decide) (Nat.le_of_ble_eq_true rfl) (Nat.zero_le _) (Nat.zero_le _) rfl ?_
      refine am_iconst (v := (0 : Int32)) (am_dec tmX11_harmOf 36 rfl) (by decide) ?_
      refine am_aload_n (am_dec tmX11_harmOf 37 rfl) rfl rfl ?_
      refine am_getR (j := 10) hE (am_dec tmX11_harmOf 38 rfl) sh_16 cf11 (by decide) rfl lf_X11_66 rf_16_10 ?_
      refine am_getI (j := 2) hE (am_dec tmX11_harmOf 39 rfl) sh_109 cf0 (by decide) rfl lf_X11_216 ?_
      refine am_aload_n (am_dec tmX11_harmOf 40 rfl) rfl rfl ?_
      refine am_getR (j := 9) hE (am_dec tmX11_harmOf 41 rfl) sh_16 cf11 (by decide) rfl lf_X11_62 rf_16_9 ?_
      refine am_getI (j := 2) hE (am_dec tmX11_harmOf 42 rfl) sh_106 cf0 (by decide) rfl lf_X11_216 ?_
      refine am_isub (am_dec tmX11_harmOf 43 rfl) ?_
      refine am_mmax2 (am_dec tmX11_harmOf 44 rfl) lm_X11_393 (Nat.le_of_ble_eq_true rfl) (Nat.zero_le _) (Nat.zero_le _) ?_
      have hf := Option.some.inj hf
      subst hf
      exact am_iret (am_dec tmX11_harmOf 45 rfl) rfl (Nat.zero_le _) (Nat.zero_le _)
    rw [if_neg hs2] at hf
    cases hf
