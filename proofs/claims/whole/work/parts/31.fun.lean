def f_X2_intoMap_L58 (q1 : Nat) (q2 : Int32) (q3 : Int32) (q4 : Int32) (q5 : Int32) : Nat → Int32 → am_D → Option (am_D)
  | 0, _, _ => none
  | n + 1, v6, D =>
    if q4 ≤ v6 then
    some (D)
    else
    (f_X2_addSteadied q1 (v6 * q3) D).bind fun x18 =>
    f_X2_intoMap_L58 q1 q2 q3 q4 q5 n (v6 + (1 : Int32)) x18
def f_X2_intoMap (p1 : Nat) (D : am_D) : Option (am_D) :=
    (f_X9_clear p1 D).bind fun x2 =>
    (f_X2_intervals x2).bind fun x4 =>
    (f_X11_cut x4 ((1 : Int32) + (x4 / (11 : Int32)))).bind fun x6 =>
    (f_X11_left x4 ((1 : Int32) + (x4 / (11 : Int32)))).bind fun x8 =>
    (if x8 = 0 then
    some ((0 : Int32))
    else
    some ((1 : Int32))).bind fun w11 =>
    (if w11 = 0 then
    some (((1 : Int32) + x6))
    else
    if ((1 : Int32) + x6) = (11 : Int32) then
    some ((((1 : Int32) + x6) + (-1 : Int32)))
    else
    some (((1 : Int32) + x6))).bind fun w15 =>
    (f_X2_intoMap_L58 p1 x4 ((1 : Int32) + (x4 / (11 : Int32))) w15 w11 am_fu (0 : Int32) x2).bind fun e19 =>
    if w11 = 0 then
    some e19
    else
    (f_X2_addSteadied p1 x4 e19).bind fun x22 =>
    some x22
set_option maxRecDepth 100000 in
set_option maxHeartbeats 4000000 in
theorem l_X2_intoMap_L58 {E : am_E} (hE : am_EH E) {d mc ms : Nat} {o : am_O} {G2 : am_G} {D2 : am_D} (hdp : 4 ≤ d) {q1 : Nat} {q2 : Int32} {q3 : Int32} {q4 : Int32} {q5 : Int32} (h_q1 : am_sh am_G0 q1 = some (9, 3)) : ∀ (n : Nat) (v6 : Int32) (D : am_D) (ex0 : am_D), f_X2_intoMap_L58 q1 q2 q3 q4 q5 n v6 D = some ex0 → (∀ ex : am_D, ex0 = ex → am_S E mX2_intoMap d mc ms o G2 D2 0 0 80 [(0, .ref 112), (1, .ref q1), (2, .int q2), (5, .int q5)] [] am_G0 ex) → am_S E mX2_intoMap d mc ms o G2 D2 0 0 58 [(0, .ref 112), (1, .ref q1), (2, .int q2), (3, .int q3), (4, .int q4), (5, .int q5), (6, .int v6)] [] am_G0 D
  | 0, _, _, _, hf, _ => by
    unfold f_X2_intoMap_L58 at hf
    cases hf
  | n + 1, v6, D, ex0, hf, hk0 => by
    unfold f_X2_intoMap_L58 at hf
    refine am_iload (am_dec tmX2_intoMap 33 rfl) rfl ?_
    refine am_iload (am_dec tmX2_intoMap 34 rfl) rfl ?_
    refine am_icmp_ge (tgt := 80) (am_dec tmX2_intoMap 35 rfl) (by decide) (fun c16 => ?_) (fun c16 => ?_)
    · rw [if_pos c16] at hf
      have hf := Option.some.inj hf
      subst hf
      exact am_pick [0, 1, 2, 5] rfl (hk0 _ rfl)
    · rw [if_neg c16] at hf
      refine am_aload_n (am_dec tmX2_intoMap 36 rfl) rfl rfl ?_
      refine am_aload_n (am_dec tmX2_intoMap 37 rfl) rfl rfl ?_
      refine am_iload (am_dec tmX2_intoMap 38 rfl) rfl ?_
      refine am_iload_n (am_dec tmX2_intoMap 39 rfl) rfl rfl ?_
      refine am_imul (am_dec tmX2_intoMap 40 rfl) ?_
      obtain ⟨x18, g17, hf⟩ := am_bd hf
      refine am_callV0 (As := [.ref q1, .int (v6 * q3)]) (st := []) hE (am_dec tmX2_intoMap 41 rfl) ok_X2_addSteadied rfl lm_X2_60 in_X2_addSteadied se_X2_addSteadied sh_112 cf2 (c_X2_addSteadied hE h_q1 g17) rfl (Nat.lt_of_lt_of_le (by decide) hdp) (Nat.le_of_ble_eq_true rfl) (Nat.zero_le _) (Nat.zero_le _) rfl ?_
      refine am_iinc (v := (1 : Int32)) (lv' := [(0, .ref 112), (1, .ref q1), (2, .int q2), (3, .int q3), (4, .int q4), (5, .int q5), (6, .int (v6 + (1 : Int32)))]) (am_dec tmX2_intoMap 42 rfl) rfl (by decide) (by decide) rfl ?_
      refine am_goto (tgt := 58) (am_dec tmX2_intoMap 43 rfl) (by decide) ?_
      exact am_pick [0, 1, 2, 3, 4, 5, 6] rfl (l_X2_intoMap_L58 hE hdp h_q1 n (v6 + (1 : Int32)) x18 ex0 hf hk0)
set_option maxRecDepth 100000 in
set_option maxHeartbeats 4000000 in
theorem c_X2_intoMap {E : am_E} (hE : am_EH E) {p1 : Nat} {D : am_D} {r : am_D} (h_p1 : am_sh am_G0 p1 = some (9, 3)) (hf : f_X2_intoMap p1 D = some r) : am_C E mX2_intoMap 4 0 0 [.ref 112, .ref p1] am_G0 D (.inl none) am_G0 r := by
  refine am_C_of (by decide +kernel) (Nat.le_of_ble_eq_true rfl) ?_
  change am_S E mX2_intoMap 4 0 0 (.inl none) am_G0 r 0 0 0 [(0, .ref 112), (1, .ref p1)] [] am_G0 D
  unfold f_X2_intoMap at hf
  refine am_aload_n (am_dec tmX2_intoMap 0 rfl) rfl rfl ?_
  obtain ⟨x2, g1, hf⟩ := am_bd hf
  refine am_callV0 (As := []) (st := []) hE (am_dec tmX2_intoMap 1 rfl) ok_X9_clear rfl lm_X2_52 in_X9_clear se_X9_clear h_p1 cf9 (c_X9_clear hE h_p1 g1) rfl (by decide) (Nat.le_of_ble_eq_true rfl) (Nat.zero_le _) (Nat.zero_le _) rfl ?_
  refine am_aload_n (am_dec tmX2_intoMap 2 rfl) rfl rfl ?_
  obtain ⟨x4, g3, hf⟩ := am_bd hf
  refine am_callV1 (As := []) (st := []) hE (am_dec tmX2_intoMap 3 rfl) ok_X2_intervals rfl lm_X2_33 in_X2_intervals se_X2_intervals sh_112 cf2 (c_X2_intervals hE g3) rfl (by decide) (Nat.le_of_ble_eq_true rfl) (Nat.zero_le _) (Nat.zero_le _) rfl ?_
  refine am_istore_n (lv' := [(0, .ref 112), (1, .ref p1), (2, .int x4)]) (am_dec tmX2_intoMap 4 rfl) rfl (by decide) rfl ?_
  refine am_iconst (v := (1 : Int32)) (am_dec tmX2_intoMap 5 rfl) (by decide) ?_
  refine am_iload_n (am_dec tmX2_intoMap 6 rfl) rfl rfl ?_
  refine am_bipush (v := (11 : Int32)) (am_dec tmX2_intoMap 7 rfl) (by decide) ?_
  refine am_idiv (am_dec tmX2_intoMap 8 rfl) (by decide) ?_
  refine am_iadd (am_dec tmX2_intoMap 9 rfl) ?_
  refine am_istore_n (lv' := [(0, .ref 112), (1, .ref p1), (2, .int x4), (3, .int ((1 : Int32) + (x4 / (11 : Int32))))]) (am_dec tmX2_intoMap 10 rfl) rfl (by decide) rfl ?_
  refine am_iconst (v := (1 : Int32)) (am_dec tmX2_intoMap 11 rfl) (by decide) ?_
  refine am_iload_n (am_dec tmX2_intoMap 12 rfl) rfl rfl ?_
  refine am_iload_n (am_dec tmX2_intoMap 13 rfl) rfl rfl ?_
  obtain ⟨x6, g5, hf⟩ := am_bd hf
  refine am_callSN1 (As := [.int x4, .int ((1 : Int32) + (x4 / (11 : Int32)))]) (st := [.int (1 : Int32)]) hE (am_dec tmX2_intoMap 14 rfl) ok_X11_cut rfl lm_X2_40 st_X11_cut (c_X11_cut hE g5) rfl (by decide) (Nat.le_of_ble_eq_true rfl) (Nat.zero_le _) (Nat.zero_le _) rfl ?_
  refine am_iadd (am_dec tmX2_intoMap 15 rfl) ?_
  refine am_istore (lv' := [(0, .ref 112), (1, .ref p1), (2, .int x4), (3, .int ((1 : Int32) + (x4 / (11 : Int32)))), (4, .int ((1 : Int32) + x6))]) (am_dec tmX2_intoMap 16 rfl) (by decide) rfl ?_
  refine am_iload_n (am_dec tmX2_intoMap 17 rfl) rfl rfl ?_
  refine am_iload_n (am_dec tmX2_intoMap 18 rfl) rfl rfl ?_
  obtain ⟨x8, g7, hf⟩ := am_bd hf
  refine am_callSN1 (As := [.int x4, .int ((1 : Int32) + (x4 / (11 : Int32)))]) (st := []) hE (am_dec tmX2_intoMap 19 rfl) ok_X11_left rfl lm_X2_57 st_X11_left (c_X11_left hE g7) rfl (by decide) (Nat.le_of_ble_eq_true rfl) (Nat.zero_le _) (Nat.zero_le _) rfl ?_
  obtain ⟨w11, g25, hf⟩ := am_bd hf
  have key10 : am_S E mX2_intoMap 4 0 0 (.inl none) am_G0 r 0 0 38 [(0, .ref 112), (1, .ref p1), (2, .int x4), (3, .int ((1 : Int32) + (x4 / (11 : Int32)))), (4, .int ((1 : Int32) + x6))] [.int w11] am_G0 x2 := by
    refine am_istore (lv' := [(0, .ref 112), (1, .ref p1), (2, .int x4), (3, .int ((1 : Int32) + (x4 / (11 : Int32)))), (4, .int ((1 : Int32) + x6)), (5, .int w11)]) (am_dec tmX2_intoMap 24 rfl) (by decide) rfl ?_
    refine am_iload (am_dec tmX2_intoMap 25 rfl) rfl ?_
    obtain ⟨w15, g24, hf⟩ := am_bd hf
    have key13 : am_S E mX2_intoMap 4 0 0 (.inl none) am_G0 r 0 0 55 [(0, .ref 112), (1, .ref p1), (2, .int x4), (3, .int ((1 : Int32) + (x4 / (11 : Int32)))), (4, .int w15), (5, .int w11)] [] am_G0 x2 := by
      refine am_iconst (v := (0 : Int32)) (am_dec tmX2_intoMap 31 rfl) (by decide) ?_
      refine am_istore (lv' := [(0, .ref 112), (1, .ref p1), (2, .int x4), (3, .int ((1 : Int32) + (x4 / (11 : Int32)))), (4, .int w15), (5, .int w11), (6, .int (0 : Int32))]) (am_dec tmX2_intoMap 32 rfl) (by decide) rfl ?_
      obtain ⟨e19, g23, hf⟩ := am_bd hf
      refine am_pick [0, 1, 2, 3, 4, 5, 6] rfl (l_X2_intoMap_L58 hE (Nat.le_refl _) h_p1 am_fu _ _ _ g23 (fun ex he => ?_))
      subst he
      refine am_iload (am_dec tmX2_intoMap 44 rfl) rfl ?_
      refine am_if_eq (tgt := 91) (am_dec tmX2_intoMap 45 rfl) (by decide) (fun c20 => ?_) (fun c20 => ?_)
      · rw [if_pos c20] at hf
        have hf := Option.some.inj hf
        subst hf
        exact am_vret (am_dec tmX2_intoMap 50 rfl) rfl (Nat.zero_le _) (Nat.zero_le _)
      · rw [if_neg c20] at hf
        refine am_aload_n (am_dec tmX2_intoMap 46 rfl) rfl rfl ?_
        refine am_aload_n (am_dec tmX2_intoMap 47 rfl) rfl rfl ?_
        refine am_iload_n (am_dec tmX2_intoMap 48 rfl) rfl rfl ?_
        obtain ⟨x22, g21, hf⟩ := am_bd hf
        refine am_callV0 (As := [.ref p1, .int x4]) (st := []) hE (am_dec tmX2_intoMap 49 rfl) ok_X2_addSteadied rfl lm_X2_60 in_X2_addSteadied se_X2_addSteadied sh_112 cf2 (c_X2_addSteadied hE h_p1 g21) rfl (by decide) (Nat.le_of_ble_eq_true rfl) (Nat.zero_le _) (Nat.zero_le _) rfl ?_
        have hf := Option.some.inj hf
        subst hf
        exact am_vret (am_dec tmX2_intoMap 50 rfl) rfl (Nat.zero_le _) (Nat.zero_le _)
    replace hf := g24
    refine am_if_eq (tgt := 55) (am_dec tmX2_intoMap 26 rfl) (by decide) (fun c12 => ?_) (fun c12 => ?_)
    · rw [if_pos c12] at hf
      have hf := Option.some.inj hf
      subst hf
      exact am_pick [0, 1, 2, 3, 4, 5] rfl key13
    · rw [if_neg c12] at hf
      refine am_iload (am_dec tmX2_intoMap 27 rfl) rfl ?_
      refine am_bipush (v := (11 : Int32)) (am_dec tmX2_intoMap 28 rfl) (by decide) ?_
      refine am_icmp_ne (tgt := 55) (am_dec tmX2_intoMap 29 rfl) (by decide) (fun c14 => ?_) (fun c14 => ?_)
      · rw [if_neg c14] at hf
        have hf := Option.some.inj hf
        subst hf
        exact am_pick [0, 1, 2, 3, 4, 5] rfl key13
      · rw [if_pos c14] at hf
        refine am_iinc (v := (-1 : Int32)) (lv' := [(0, .ref 112), (1, .ref p1), (2, .int x4), (3, .int ((1 : Int32) + (x4 / (11 : Int32)))), (4, .int (((1 : Int32) + x6) + (-1 : Int32))), (5, .int w11)]) (am_dec tmX2_intoMap 30 rfl) rfl (by decide) (by decide) rfl ?_
        have hf := Option.some.inj hf
        subst hf
        exact am_pick [0, 1, 2, 3, 4, 5] rfl key13
  replace hf := g25
  refine am_if_eq (tgt := 37) (am_dec tmX2_intoMap 20 rfl) (by decide) (fun c9 => ?_) (fun c9 => ?_)
  · rw [if_pos c9] at hf
    refine am_iconst (v := (0 : Int32)) (am_dec tmX2_intoMap 23 rfl) (by decide) ?_
    have hf := Option.some.inj hf
    subst hf
    exact am_pick [0, 1, 2, 3, 4] rfl key10
  · rw [if_neg c9] at hf
    refine am_iconst (v := (1 : Int32)) (am_dec tmX2_intoMap 21 rfl) (by decide) ?_
    refine am_goto (tgt := 38) (am_dec tmX2_intoMap 22 rfl) (by decide) ?_
    have hf := Option.some.inj hf
    subst hf
    exact am_pick [0, 1, 2, 3, 4] rfl key10
def f_J7_rangeCheck_23922 (p0 : Int32) (p1 : Int32) (p2 : Int32) : Option (Unit) :=
    if p1 ≤ p2 then
    if 0 ≤ p1 then
    if p2 ≤ p0 then
    some ()
    else
    none
    else
    none
    else
    none
set_option maxRecDepth 100000 in
set_option maxHeartbeats 4000000 in
theorem c_J7_rangeCheck_23922 {E : am_E} (hE : am_EH E) {p0 : Int32} {p1 : Int32} {p2 : Int32} {D : am_D} {r : Unit}  (hf : f_J7_rangeCheck_23922 p0 p1 p2 = some r) : am_C E mJ7_rangeCheck_23922 1 0 0 [.int p0, .int p1, .int p2] am_G0 D (.inl none) am_G0 D := by
  refine am_C_of (by decide +kernel) (Nat.le_of_ble_eq_true rfl) ?_
  change am_S E mJ7_rangeCheck_23922 1 0 0 (.inl none) am_G0 D 0 0 0 [(0, .int p0), (1, .int p1), (2, .int p2)] [] am_G0 D
  unfold f_J7_rangeCheck_23922 at hf
  refine am_iload_n (am_dec tmJ7_rangeCheck_23922 0 rfl) rfl rfl ?_
  refine am_iload_n (am_dec tmJ7_rangeCheck_23922 1 rfl) rfl rfl ?_
  refine am_icmp_le (tgt := 46) (am_dec tmJ7_rangeCheck_23922 2 rfl) (by decide) (fun c1 => ?_) (fun c1 => ?_)
  · rw [if_pos c1] at hf
    refine am_iload_n (am_dec tmJ7_rangeCheck_23922 21 rfl) rfl rfl ?_
    refine am_if_ge (tgt := 59) (am_dec tmJ7_rangeCheck_23922 22 rfl) (by decide) (fun c2 => ?_) (fun c2 => ?_)
    · rw [if_pos c2] at hf
      refine am_iload_n (am_dec tmJ7_rangeCheck_23922 28 rfl) rfl rfl ?_
      refine am_iload_n (am_dec tmJ7_rangeCheck_23922 29 rfl) rfl rfl ?_
      refine am_icmp_le (tgt := 73) (am_dec tmJ7_rangeCheck_23922 30 rfl) (by decide) (fun c3 => ?_) (fun c3 => ?_)
      · rw [if_pos c3] at hf
        have hf := Option.some.inj hf
        subst hf
        exact am_vret (am_dec tmJ7_rangeCheck_23922 36 rfl) rfl (Nat.zero_le _) (Nat.zero_le _)
      · rw [if_neg c3] at hf
        cases hf
    · rw [if_neg c2] at hf
      cases hf
  · rw [if_neg c1] at hf
    cases hf
def f_J7_fill_fda19_L10 (q0 : Nat) (q2 : Int32) (q3 : Int32) : Nat → Int32 → am_D → Option (am_D)
  | 0, _, _ => none
  | n + 1, v4, D =>
    if q2 ≤ v4 then
    some (D)
    else
    (am_pI D q0 (am_ln q0) v4 q3).bind fun D4 =>
    f_J7_fill_fda19_L10 q0 q2 q3 n (v4 + (1 : Int32)) D4
def f_J7_fill_fda19 (p0 : Nat) (p1 : Int32) (p2 : Int32) (p3 : Int32) (D : am_D) : Option (am_D) :=
    (f_J7_rangeCheck_23922 (Int32.ofNat (am_ln p0)) p1 p2).bind fun x2 =>
    (f_J7_fill_fda19_L10 p0 p2 p3 am_fu p1 D).bind fun e6 =>
    some e6
set_option maxRecDepth 100000 in
set_option maxHeartbeats 4000000 in
theorem l_J7_fill_fda19_L10 {E : am_E} (hE : am_EH E) {d mc ms : Nat} {o : am_O} {G2 : am_G} {D2 : am_D} (hdp : 2 ≤ d) {q0 : Nat} {q2 : Int32} {q3 : Int32} (h_q0 : am_sh am_G0 q0 = some (20, am_ln q0)) : ∀ (n : Nat) (v4 : Int32) (D : am_D) (ex0 : am_D), f_J7_fill_fda19_L10 q0 q2 q3 n v4 D = some ex0 → (∀ ex : am_D, ex0 = ex → am_S E mJ7_fill_fda19 d mc ms o G2 D2 0 0 27 [] [] am_G0 ex) → am_S E mJ7_fill_fda19 d mc ms o G2 D2 0 0 10 [(0, .ref q0), (2, .int q2), (3, .int q3), (4, .int v4)] [] am_G0 D
  | 0, _, _, _, hf, _ => by
    unfold f_J7_fill_fda19_L10 at hf
    cases hf
  | n + 1, v4, D, ex0, hf, hk0 => by
    unfold f_J7_fill_fda19_L10 at hf
    refine am_iload (am_dec tmJ7_fill_fda19 7 rfl) rfl ?_
    refine am_iload_n (am_dec tmJ7_fill_fda19 8 rfl) rfl rfl ?_
    refine am_icmp_ge (tgt := 27) (am_dec tmJ7_fill_fda19 9 rfl) (by decide) (fun c3 => ?_) (fun c3 => ?_)
    · rw [if_pos c3] at hf
      have hf := Option.some.inj hf
      subst hf
      exact am_pick [] rfl (hk0 _ rfl)
    · rw [if_neg c3] at hf
      refine am_aload_n (am_dec tmJ7_fill_fda19 10 rfl) rfl rfl ?_
      refine am_iload (am_dec tmJ7_fill_fda19 11 rfl) rfl ?_
      refine am_iload_n (am_dec tmJ7_fill_fda19 12 rfl) rfl rfl ?_
      obtain ⟨D4, g5, hf⟩ := am_bd hf
      refine am_iast2 hE (am_dec tmJ7_fill_fda19 13 rfl) h_q0 g5 ?_
      refine am_iinc (v := (1 : Int32)) (lv' := [(0, .ref q0), (2, .int q2), (3, .int q3), (4, .int (v4 + (1 : Int32)))]) (am_dec tmJ7_fill_fda19 14 rfl) rfl (by decide) (by decide) rfl ?_
      refine am_goto (tgt := 10) (am_dec tmJ7_fill_fda19 15 rfl) (by decide) ?_
      exact am_pick [0, 1, 2, 3] rfl (l_J7_fill_fda19_L10 hE hdp h_q0 n (v4 + (1 : Int32)) D4 ex0 hf hk0)
set_option maxRecDepth 100000 in
set_option maxHeartbeats 4000000 in
theorem c_J7_fill_fda19 {E : am_E} (hE : am_EH E) {p0 : Nat} {p1 : Int32} {p2 : Int32} {p3 : Int32} {D : am_D} {r : am_D} (h_p0 : am_sh am_G0 p0 = some (20, am_ln p0)) (hf : f_J7_fill_fda19 p0 p1 p2 p3 D = some r) : am_C E mJ7_fill_fda19 2 0 0 [.ref p0, .int p1, .int p2, .int p3] am_G0 D (.inl none) am_G0 r := by
  refine am_C_of (by decide +kernel) (Nat.le_of_ble_eq_true rfl) ?_
  change am_S E mJ7_fill_fda19 2 0 0 (.inl none) am_G0 r 0 0 0 [(0, .ref p0), (1, .int p1), (2, .int p2), (3, .int p3)] [] am_G0 D
  unfold f_J7_fill_fda19 at hf
  refine am_aload_n (am_dec tmJ7_fill_fda19 0 rfl) rfl rfl ?_
  refine am_alen (t := 0) (v := (Int32.ofNat (am_ln p0))) hE (am_dec tmJ7_fill_fda19 1 rfl) h_p0 (by decide) rfl ?_
  refine am_iload_n (am_dec tmJ7_fill_fda19 2 rfl) rfl rfl ?_
  refine am_iload_n (am_dec tmJ7_fill_fda19 3 rfl) rfl rfl ?_
  obtain ⟨x2, g1, hf⟩ := am_bd hf
  refine am_callS0 (As := [.int (Int32.ofNat (am_ln p0)), .int p1, .int p2]) (st := []) (am_dec tmJ7_fill_fda19 4 rfl) ok_J7_rangeCheck_23922 rfl lm_J7_13 st_J7_rangeCheck_23922 (c_J7_rangeCheck_23922 hE g1) rfl (by decide) (Nat.le_of_ble_eq_true rfl) (Nat.zero_le _) (Nat.zero_le _) rfl ?_
  refine am_iload_n (am_dec tmJ7_fill_fda19 5 rfl) rfl rfl ?_
  refine am_istore (lv' := [(0, .ref p0), (1, .int p1), (2, .int p2), (3, .int p3), (4, .int p1)]) (am_dec tmJ7_fill_fda19 6 rfl) (by decide) rfl ?_
  obtain ⟨e6, g7, hf⟩ := am_bd hf
  refine am_pick [0, 2, 3, 4] rfl (l_J7_fill_fda19_L10 hE (Nat.le_refl _) h_p0 am_fu _ _ _ g7 (fun ex he => ?_))
  subst he
  have hf := Option.some.inj hf
  subst hf
  exact am_vret (am_dec tmJ7_fill_fda19 16 rfl) rfl (Nat.zero_le _) (Nat.zero_le _)
def f_X11_bounded (p0 : Int32) (p1 : Int32) (p2 : Int32) : Option (Int32) :=
    some (am_mx p1 (am_mn p0 p2))
set_option maxRecDepth 100000 in
set_option maxHeartbeats 4000000 in
theorem c_X11_bounded {E : am_E} (hE : am_EH E) {p0 : Int32} {p1 : Int32} {p2 : Int32} {D : am_D} {r : Int32}  (hf : f_X11_bounded p0 p1 p2 = some r) : am_C E mX11_bounded 1 0 0 [.int p0, .int p1, .int p2] am_G0 D (.inl (some (.int r))) am_G0 D := by
  refine am_C_of (by decide +kernel) (Nat.le_of_ble_eq_true rfl) ?_
  change am_S E mX11_bounded 1 0 0 (.inl (some (.int r))) am_G0 D 0 0 0 [(0, .int p0), (1, .int p1), (2, .int p2)] [] am_G0 D
  unfold f_X11_bounded at hf
  refine am_iload_n (am_dec tmX11_bounded 0 rfl) rfl rfl ?_
  refine am_iload_n (am_dec tmX11_bounded 1 rfl) rfl rfl ?_
  refine am_iload_n (am_dec tmX11_bounded 2 rfl) rfl rfl ?_
  refine am_mmin2 (am_dec tmX11_bounded 3 rfl) lm_X11_484 (Nat.le_of_ble_eq_true rfl) (Nat.zero_le _) (Nat.zero_le _) ?_
  refine am_mmax2 (am_dec tmX11_bounded 4 rfl) lm_X11_393 (Nat.le_of_ble_eq_true rfl) (Nat.zero_le _) (Nat.zero_le _) ?_
  have hf := Option.some.inj hf
  subst hf
  exact am_iret (am_dec tmX11_bounded 5 rfl) rfl (Nat.zero_le _) (Nat.zero_le _)
def f_X7_start (r0 : Nat) (p1 : Int32) (D : am_D) : Option (am_D) :=
    (f_X11_bounded p1 (0 : Int32) (Int32.ofNat (am_ln (r0 + 1)))).bind fun x2 =>
    (some (am_wI D r0 1 x2)).bind fun D3 =>
    (f_J7_fill_fda19 (r0 + 1) (0 : Int32) (D3.1 r0 1) (0 : Int32) D3).bind fun x6 =>
    some x6
set_option maxRecDepth 100000 in
set_option maxHeartbeats 4000000 in
theorem c_X7_start {E : am_E} (hE : am_EH E) {r0 : Nat} {p1 : Int32} {D : am_D} {r : am_D} (h_r0 : am_sh am_G0 r0 = some (7, 2)) (hf : f_X7_start r0 p1 D = some r) : am_C E mX7_start 3 0 0 [.ref r0, .int p1] am_G0 D (.inl none) am_G0 r := by
  refine am_C_of (by decide +kernel) (Nat.le_of_ble_eq_true rfl) ?_
  change am_S E mX7_start 3 0 0 (.inl none) am_G0 r 0 0 0 [(0, .ref r0), (1, .int p1)] [] am_G0 D
  unfold f_X7_start at hf
  refine am_aload_n (am_dec tmX7_start 0 rfl) rfl rfl ?_
  refine am_iload_n (am_dec tmX7_start 1 rfl) rfl rfl ?_
  refine am_iconst (v := (0 : Int32)) (am_dec tmX7_start 2 rfl) (by decide) ?_
  refine am_aload_n (am_dec tmX7_start 3 rfl) rfl rfl ?_
  refine am_getR (j := 0) hE (am_dec tmX7_start 4 rfl) h_r0 cf7 (by decide) rfl lf_X7_15 (ro_X7_0_0 h_r0) ?_
  refine am_alen (t := 0) (v := (Int32.ofNat (am_ln (r0 + 1)))) hE (am_dec tmX7_start 5 rfl) (so_X7_1 h_r0) (by decide) rfl ?_
  obtain ⟨x2, g1, hf⟩ := am_bd hf
  refine am_callSN1 (As := [.int p1, .int (0 : Int32), .int (Int32.ofNat (am_ln (r0 + 1)))]) (st := [.ref r0]) hE (am_dec tmX7_start 6 rfl) ok_X11_bounded rfl lm_X7_21 st_X11_bounded (c_X11_bounded hE g1) rfl (by decide) (Nat.le_of_ble_eq_true rfl) (Nat.zero_le _) (Nat.zero_le _) rfl ?_
  obtain ⟨D3, g4, hf⟩ := am_bd hf
  refine am_putI2 (j := 1) hE (am_dec tmX7_start 7 rfl) h_r0 cf7 (by decide) rfl lf_X7_25 rfl rfl rfl g4 ?_
  refine am_aload_n (am_dec tmX7_start 8 rfl) rfl rfl ?_
  refine am_getR (j := 0) hE (am_dec tmX7_start 9 rfl) h_r0 cf7 (by decide) rfl lf_X7_15 (ro_X7_0_0 h_r0) ?_
  refine am_iconst (v := (0 : Int32)) (am_dec tmX7_start 10 rfl) (by decide) ?_
  refine am_aload_n (am_dec tmX7_start 11 rfl) rfl rfl ?_
  refine am_getI (j := 1) hE (am_dec tmX7_start 12 rfl) h_r0 cf7 (by decide) rfl lf_X7_25 ?_
  refine am_iconst (v := (0 : Int32)) (am_dec tmX7_start 13 rfl) (by decide) ?_
  obtain ⟨x6, g5, hf⟩ := am_bd hf
  refine am_callS0 (As := [.ref (r0 + 1), .int (0 : Int32), .int (D3.1 r0 1), .int (0 : Int32)]) (st := []) (am_dec tmX7_start 14 rfl) ok_J7_fill_fda19 rfl lm_X7_29 st_J7_fill_fda19 (c_J7_fill_fda19 hE (am_shl (so_X7_1 h_r0)) g5) rfl (by decide) (Nat.le_of_ble_eq_true rfl) (Nat.zero_le _) (Nat.zero_le _) rfl ?_
  have hf := Option.some.inj hf
  subst hf
  exact am_vret (am_dec tmX7_start 15 rfl) rfl (Nat.zero_le _) (Nat.zero_le _)
def f_X3_clear (r0 : Nat) (D : am_D) : Option (am_D) :=
    (f_X7_start (r0 + 3) (0 : Int32) D).bind fun x2 =>
    (some (am_wI x2 r0 6 (0 : Int32))).bind fun D3 =>
    (some (am_wI D3 r0 7 (0 : Int32))).bind fun D5 =>
    some D5
set_option maxRecDepth 100000 in
set_option maxHeartbeats 4000000 in
theorem c_X3_clear {E : am_E} (hE : am_EH E) {r0 : Nat} {D : am_D} {r : am_D} (h_r0 : am_sh am_G0 r0 = some (3, 8)) (hf : f_X3_clear r0 D = some r) : am_C E mX3_clear 4 0 0 [.ref r0] am_G0 D (.inl none) am_G0 r := by
  refine am_C_of (by decide +kernel) (Nat.le_of_ble_eq_true rfl) ?_
  change am_S E mX3_clear 4 0 0 (.inl none) am_G0 r 0 0 0 [(0, .ref r0)] [] am_G0 D
  unfold f_X3_clear at hf
  refine am_aload_n (am_dec tmX3_clear 0 rfl) rfl rfl ?_
  refine am_getR (j := 1) hE (am_dec tmX3_clear 1 rfl) h_r0 cf3 (by decide) rfl lf_X3_20 (ro_X3_0_1 h_r0) ?_
  refine am_iconst (v := (0 : Int32)) (am_dec tmX3_clear 2 rfl) (by decide) ?_
  obtain ⟨x2, g1, hf⟩ := am_bd hf
  refine am_callV0 (As := [.int (0 : Int32)]) (st := []) hE (am_dec tmX3_clear 3 rfl) ok_X7_start rfl lm_X3_37 in_X7_start se_X7_start (so_X3_3 h_r0) cf7 (c_X7_start hE (so_X3_3 h_r0) g1) rfl (by decide) (Nat.le_of_ble_eq_true rfl) (Nat.zero_le _) (Nat.zero_le _) rfl ?_
  refine am_aload_n (am_dec tmX3_clear 4 rfl) rfl rfl ?_
  refine am_iconst (v := (0 : Int32)) (am_dec tmX3_clear 5 rfl) (by decide) ?_
  obtain ⟨D3, g4, hf⟩ := am_bd hf
  refine am_putI2 (j := 6) hE (am_dec tmX3_clear 6 rfl) h_r0 cf3 (by decide) rfl lf_X3_40 rfl rfl rfl g4 ?_
  refine am_aload_n (am_dec tmX3_clear 7 rfl) rfl rfl ?_
  refine am_iconst (v := (0 : Int32)) (am_dec tmX3_clear 8 rfl) (by decide) ?_
  obtain ⟨D5, g6, hf⟩ := am_bd hf
  refine am_putI2 (j := 7) hE (am_dec tmX3_clear 9 rfl) h_r0 cf3 (by decide) rfl lf_X3_44 rfl rfl rfl g6 ?_
  have hf := Option.some.inj hf
  subst hf
  exact am_vret (am_dec tmX3_clear 10 rfl) rfl (Nat.zero_le _) (Nat.zero_le _)
def f_X11_within (p0 : Int32) (p1 : Int32) (p2 : Int32) : Option (Int32) :=
    if p0 < p1 then
    some (0 : Int32)
    else
    if p2 < p0 then
    some (0 : Int32)
    else
    some (1 : Int32)
set_option maxRecDepth 100000 in
set_option maxHeartbeats 4000000 in
theorem c_X11_within {E : am_E} (hE : am_EH E) {p0 : Int32} {p1 : Int32} {p2 : Int32} {D : am_D} {r : Int32}  (hf : f_X11_within p0 p1 p2 = some r) : am_C E mX11_within 1 0 0 [.int p0, .int p1, .int p2] am_G0 D (.inl (some (.int r))) am_G0 D := by
  refine am_C_of (by decide +kernel) (Nat.le_of_ble_eq_true rfl) ?_
  change am_S E mX11_within 1 0 0 (.inl (some (.int r))) am_G0 D 0 0 0 [(0, .int p0), (1, .int p1), (2, .int p2)] [] am_G0 D
  unfold f_X11_within at hf
  refine am_iload_n (am_dec tmX11_within 0 rfl) rfl rfl ?_
  refine am_iload_n (am_dec tmX11_within 1 rfl) rfl rfl ?_
  refine am_icmp_lt (tgt := 14) (am_dec tmX11_within 2 rfl) (by decide) (fun c1 => ?_) (fun c1 => ?_)
  · rw [if_pos c1] at hf
    refine am_iconst (v := (0 : Int32)) (am_dec tmX11_within 8 rfl) (by decide) ?_
    have hf := Option.some.inj hf
    subst hf
    exact am_zret (am_dec tmX11_within 9 rfl) rfl am_z0 (Nat.zero_le _) (Nat.zero_le _)
  · rw [if_neg c1] at hf
    refine am_iload_n (am_dec tmX11_within 3 rfl) rfl rfl ?_
    refine am_iload_n (am_dec tmX11_within 4 rfl) rfl rfl ?_
    refine am_icmp_gt (tgt := 14) (am_dec tmX11_within 5 rfl) (by decide) (fun c2 => ?_) (fun c2 => ?_)
    · rw [if_pos c2] at hf
      refine am_iconst (v := (0 : Int32)) (am_dec tmX11_within 8 rfl) (by decide) ?_
      have hf := Option.some.inj hf
      subst hf
      exact am_zret (am_dec tmX11_within 9 rfl) rfl am_z0 (Nat.zero_le _) (Nat.zero_le _)
    · rw [if_neg c2] at hf
      refine am_iconst (v := (1 : Int32)) (am_dec tmX11_within 6 rfl) (by decide) ?_
      refine am_goto (tgt := 15) (am_dec tmX11_within 7 rfl) (by decide) ?_
      have hf := Option.some.inj hf
      subst hf
      exact am_zret (am_dec tmX11_within 9 rfl) rfl am_z1 (Nat.zero_le _) (Nat.zero_le _)
theorem z_X11_within {p0 : Int32} {p1 : Int32} {p2 : Int32} {r : Int32} (hf : f_X11_within p0 p1 p2 = some r) : narrow .boolean (.int r) = .int r := by
  unfold f_X11_within at hf
  by_cases c1 : p0 < p1
  · rw [if_pos c1] at hf
    have hf := Option.some.inj hf
    subst hf
    exact am_z0
  · rw [if_neg c1] at hf
    by_cases c2 : p2 < p0
    · rw [if_pos c2] at hf
      have hf := Option.some.inj hf
      subst hf
      exact am_z0
    · rw [if_neg c2] at hf
      have hf := Option.some.inj hf
      subst hf
      exact am_z1
def f_X7_unlike_L6 (q0 : Nat) (q1 : Int32) (q2 : Nat) (q3 : Int32) (q4 : Int32) (D : am_D) : Nat → Int32 → Int32 → Option (Int32)
  | 0, _, _ => none
  | n + 1, v5, v6 =>
    if q4 ≤ v6 then
    some (v5)
    else
    (f_X7_at q0 (q1 + v6) D).bind fun x3 =>
    (f_X7_at q2 (q3 + v6) D).bind fun x5 =>
    (f_X11_far x3 x5).bind fun x7 =>
    f_X7_unlike_L6 q0 q1 q2 q3 q4 D n (v5 + x7) (v6 + (1 : Int32))
def f_X7_unlike (r0 : Nat) (p1 : Int32) (p2 : Nat) (p3 : Int32) (p4 : Int32) (D : am_D) : Option (Int32) :=
    (f_X7_unlike_L6 r0 p1 p2 p3 p4 D am_fu (0 : Int32) (0 : Int32)).bind fun e8 =>
    some e8
set_option maxRecDepth 100000 in
set_option maxHeartbeats 4000000 in
theorem l_X7_unlike_L6 {E : am_E} (hE : am_EH E) {d mc ms : Nat} {o : am_O} {G2 : am_G} {D2 : am_D} (hdp : 2 ≤ d) {q0 : Nat} {q1 : Int32} {q2 : Nat} {q3 : Int32} {q4 : Int32} {D : am_D} (h_q0 : am_sh am_G0 q0 = some (7, 2)) (h_q2 : am_sh am_G0 q2 = some (7, 2)) : ∀ (n : Nat) (v5 : Int32) (v6 : Int32) (ex0 : Int32), f_X7_unlike_L6 q0 q1 q2 q3 q4 D n v5 v6 = some ex0 → (∀ ex : Int32, ex0 = ex → am_S E mX7_unlike d mc ms o G2 D2 0 0 43 [(5, .int ex)] [] am_G0 D) → am_S E mX7_unlike d mc ms o G2 D2 0 0 6 [(0, .ref q0), (1, .int q1), (2, .ref q2), (3, .int q3), (4, .int q4), (5, .int v5), (6, .int v6)] [] am_G0 D
  | 0, _, _, _, hf, _ => by
    unfold f_X7_unlike_L6 at hf
    cases hf
  | n + 1, v5, v6, ex0, hf, hk0 => by
    unfold f_X7_unlike_L6 at hf
    refine am_iload (am_dec tmX7_unlike 4 rfl) rfl ?_
    refine am_iload (am_dec tmX7_unlike 5 rfl) rfl ?_
    refine am_icmp_ge (tgt := 43) (am_dec tmX7_unlike 6 rfl) (by decide) (fun c1 => ?_) (fun c1 => ?_)
    · rw [if_pos c1] at hf
      have hf := Option.some.inj hf
      subst hf
      exact am_pick [5] rfl (hk0 _ rfl)
    · rw [if_neg c1] at hf
      refine am_iload (am_dec tmX7_unlike 7 rfl) rfl ?_
      refine am_aload_n (am_dec tmX7_unlike 8 rfl) rfl rfl ?_
      refine am_iload_n (am_dec tmX7_unlike 9 rfl) rfl rfl ?_
      refine am_iload (am_dec tmX7_unlike 10 rfl) rfl ?_
      refine am_iadd (am_dec tmX7_unlike 11 rfl) ?_
      obtain ⟨x3, g2, hf⟩ := am_bd hf
      refine am_callV1 (As := [.int (q1 + v6)]) (st := [.int v5]) hE (am_dec tmX7_unlike 12 rfl) ok_X7_at rfl lm_X7_35 in_X7_at se_X7_at h_q0 cf7 (c_X7_at hE h_q0 g2) rfl (Nat.lt_of_lt_of_le (by decide) hdp) (Nat.le_of_ble_eq_true rfl) (Nat.zero_le _) (Nat.zero_le _) rfl ?_
      refine am_aload_n (am_dec tmX7_unlike 13 rfl) rfl rfl ?_
      refine am_iload_n (am_dec tmX7_unlike 14 rfl) rfl rfl ?_
      refine am_iload (am_dec tmX7_unlike 15 rfl) rfl ?_
      refine am_iadd (am_dec tmX7_unlike 16 rfl) ?_
      obtain ⟨x5, g4, hf⟩ := am_bd hf
      refine am_callV1 (As := [.int (q3 + v6)]) (st := [.int x3, .int v5]) hE (am_dec tmX7_unlike 17 rfl) ok_X7_at rfl lm_X7_35 in_X7_at se_X7_at h_q2 cf7 (c_X7_at hE h_q2 g4) rfl (Nat.lt_of_lt_of_le (by decide) hdp) (Nat.le_of_ble_eq_true rfl) (Nat.zero_le _) (Nat.zero_le _) rfl ?_
      obtain ⟨x7, g6, hf⟩ := am_bd hf
      refine am_callSN1 (As := [.int x3, .int x5]) (st := [.int v5]) hE (am_dec tmX7_unlike 18 rfl) ok_X11_far rfl lm_X7_51 st_X11_far (c_X11_far hE g6) rfl (Nat.lt_of_lt_of_le (by decide) hdp) (Nat.le_of_ble_eq_true rfl) (Nat.zero_le _) (Nat.zero_le _) rfl ?_
      refine am_iadd (am_dec tmX7_unlike 19 rfl) ?_
      refine am_istore (lv' := [(0, .ref q0), (1, .int q1), (2, .ref q2), (3, .int q3), (4, .int q4), (5, .int (v5 + x7)), (6, .int v6)]) (am_dec tmX7_unlike 20 rfl) (by decide) rfl ?_
      refine am_iinc (v := (1 : Int32)) (lv' := [(0, .ref q0), (1, .int q1), (2, .ref q2), (3, .int q3), (4, .int q4), (5, .int (v5 + x7)), (6, .int (v6 + (1 : Int32)))]) (am_dec tmX7_unlike 21 rfl) rfl (by decide) (by decide) rfl ?_
      refine am_goto (tgt := 6) (am_dec tmX7_unlike 22 rfl) (by decide) ?_
      exact am_pick [0, 1, 2, 3, 4, 5, 6] rfl (l_X7_unlike_L6 hE hdp h_q0 h_q2 n (v5 + x7) (v6 + (1 : Int32)) ex0 hf hk0)
set_option maxRecDepth 100000 in
set_option maxHeartbeats 4000000 in
theorem c_X7_unlike {E : am_E} (hE : am_EH E) {r0 : Nat} {p1 : Int32} {p2 : Nat} {p3 : Int32} {p4 : Int32} {D : am_D} {r : Int32} (h_r0 : am_sh am_G0 r0 = some (7, 2)) (h_p2 : am_sh am_G0 p2 = some (7, 2)) (hf : f_X7_unlike r0 p1 p2 p3 p4 D = some r) : am_C E mX7_unlike 2 0 0 [.ref r0, .int p1, .ref p2, .int p3, .int p4] am_G0 D (.inl (some (.int r))) am_G0 D := by
  refine am_C_of (by decide +kernel) (Nat.le_of_ble_eq_true rfl) ?_
  change am_S E mX7_unlike 2 0 0 (.inl (some (.int r))) am_G0 D 0 0 0 [(0, .ref r0), (1, .int p1), (2, .ref p2), (3, .int p3), (4, .int p4)] [] am_G0 D
  unfold f_X7_unlike at hf
  refine am_iconst (v := (0 : Int32)) (am_dec tmX7_unlike 0 rfl) (by decide) ?_
  refine am_istore (lv' := [(0, .ref r0), (1, .int p1), (2, .ref p2), (3, .int p3), (4, .int p4), (5, .int (0 : Int32))]) (am_dec tmX7_unlike 1 rfl) (by decide) rfl ?_
  refine am_iconst (v := (0 : Int32)) (am_dec tmX7_unlike 2 rfl) (by decide) ?_
  refine am_istore (lv' := [(0, .ref r0), (1, .int p1), (2, .ref p2), (3, .int p3), (4, .int p4), (5, .int (0 : Int32)), (6, .int (0 : Int32))]) (am_dec tmX7_unlike 3 rfl) (by decide) rfl ?_
  obtain ⟨e8, g9, hf⟩ := am_bd hf
  refine am_pick [0, 1, 2, 3, 4, 5, 6] rfl (l_X7_unlike_L6 hE (Nat.le_refl _) h_r0 h_p2 am_fu _ _ _ g9 (fun ex he => ?_))
  subst he
  refine am_iload (am_dec tmX7_unlike 23 rfl) rfl ?_
  have hf := Option.some.inj hf
  subst hf
  exact am_iret (am_dec tmX7_unlike 24 rfl) rfl (Nat.zero_le _) (Nat.zero_le _)
def f_X3_bestOffset_L32 (q0 : Nat) (q1 : Int32) (q2 : Int32) (q3 : Int32) (q4 : Nat) (q5 : Int32) (D : am_D) : Nat → Int32 → Int32 → Int32 → Option (Int32)
  | 0, _, _, _ => none
  | n + 1, v6, v7, v8 =>
    if ((2 : Int32) * (D.1 q4 2)) < v8 then
    some (v6)
    else
    (if (v8 &&& (1 : Int32)) = (1 : Int32) then
    some (((-(v8 + (1 : Int32))) / (2 : Int32)))
    else
    some ((v8 / (2 : Int32)))).bind fun w6 =>
    (f_X11_within (q2 + w6) (0 : Int32) q5).bind fun x8 =>
    (if x8 = 0 then
    some (v6, v7)
    else
    (f_X7_unlike (q0 + 1) (q2 + w6) (q0 + 3) q1 q3 D).bind fun x12 =>
    if v7 < 0 then
    some (w6, x12)
    else
    if v7 ≤ x12 then
    some (v6, v7)
    else
    some (w6, x12)).bind fun w15 =>
    f_X3_bestOffset_L32 q0 q1 q2 q3 q4 q5 D n w15.1 w15.2 (v8 + (1 : Int32))
def f_X3_bestOffset (r0 : Nat) (p1 : Int32) (p2 : Int32) (p3 : Int32) (p4 : Nat) (D : am_D) : Option (Int32) :=
    (f_X11_bounded p2 (0 : Int32) ((D.1 (r0 + 1) 1) - (D.1 p4 0))).bind fun x2 =>
    (f_X3_bestOffset_L32 r0 p1 p2 p3 p4 ((D.1 (r0 + 1) 1) - (D.1 p4 0)) D am_fu (x2 - p2) (-1 : Int32) (0 : Int32)).bind fun e18 =>
    some e18
set_option maxRecDepth 100000 in
set_option maxHeartbeats 4000000 in
theorem l_X3_bestOffset_L32 {E : am_E} (hE : am_EH E) {d mc ms : Nat} {o : am_O} {G2 : am_G} {D2 : am_D} (hdp : 3 ≤ d) {q0 : Nat} {q1 : Int32} {q2 : Int32} {q3 : Int32} {q4 : Nat} {q5 : Int32} {D : am_D} (h_q0 : am_sh am_G0 q0 = some (3, 8)) (h_q4 : am_sh am_G0 q4 = some (5, 3)) : ∀ (n : Nat) (v6 : Int32) (v7 : Int32) (v8 : Int32) (ex0 : Int32), f_X3_bestOffset_L32 q0 q1 q2 q3 q4 q5 D n v6 v7 v8 = some ex0 → (∀ ex : Int32, ex0 = ex → am_S E mX3_bestOffset d mc ms o G2 D2 0 0 126 [(6, .int ex)] [] am_G0 D) → am_S E mX3_bestOffset d mc ms o G2 D2 0 0 32 [(0, .ref q0), (1, .int q1), (2, .int q2), (3, .int q3), (4, .ref q4), (5, .int q5), (6, .int v6), (7, .int v7), (8, .int v8)] [] am_G0 D
  | 0, _, _, _, _, hf, _ => by
    unfold f_X3_bestOffset_L32 at hf
    cases hf
  | n + 1, v6, v7, v8, ex0, hf, hk0 => by
    unfold f_X3_bestOffset_L32 at hf
    refine am_iload (am_dec tmX3_bestOffset_0 18 rfl) rfl ?_
    refine am_iconst (v := (2 : Int32)) (am_dec tmX3_bestOffset_0 19 rfl) (by decide) ?_
    refine am_aload (am_dec tmX3_bestOffset_0 20 rfl) rfl ?_
    refine am_getI (j := 2) hE (am_dec tmX3_bestOffset_0 21 rfl) h_q4 cf5 (by decide) rfl lf_X3_109 ?_
    refine am_imul (am_dec tmX3_bestOffset_0 22 rfl) ?_
    refine am_icmp_gt (tgt := 126) (am_dec tmX3_bestOffset_0 23 rfl) (by decide) (fun c3 => ?_) (fun c3 => ?_)
    · rw [if_pos c3] at hf
      have hf := Option.some.inj hf
      subst hf
      exact am_pick [6] rfl (hk0 _ rfl)
    · rw [if_neg c3] at hf
      refine am_iload (am_dec tmX3_bestOffset_0 24 rfl) rfl ?_
      refine am_iconst (v := (1 : Int32)) (am_dec tmX3_bestOffset_0 25 rfl) (by decide) ?_
      refine am_iand (am_dec tmX3_bestOffset_0 26 rfl) ?_
      refine am_iconst (v := (1 : Int32)) (am_dec tmX3_bestOffset_0 27 rfl) (by decide) ?_
      obtain ⟨w6, g17, hf⟩ := am_bd hf
      have key5 : am_S E mX3_bestOffset d mc ms o G2 D2 0 0 66 [(0, .ref q0), (1, .int q1), (2, .int q2), (3, .int q3), (4, .ref q4), (5, .int q5), (6, .int v6), (7, .int v7), (8, .int v8)] [.int w6] am_G0 D := by
        refine am_istore (lv' := [(0, .ref q0), (1, .int q1), (2, .int q2), (3, .int q3), (4, .ref q4), (5, .int q5), (6, .int v6), (7, .int v7), (8, .int v8), (9, .int w6)]) (am_dec tmX3_bestOffset_0 39 rfl) (by decide) rfl ?_
        refine am_iload_n (am_dec tmX3_bestOffset_0 40 rfl) rfl rfl ?_
        refine am_iload (am_dec tmX3_bestOffset_0 41 rfl) rfl ?_
        refine am_iadd (am_dec tmX3_bestOffset_0 42 rfl) ?_
        refine am_iconst (v := (0 : Int32)) (am_dec tmX3_bestOffset_0 43 rfl) (by decide) ?_
        refine am_iload (am_dec tmX3_bestOffset_0 44 rfl) rfl ?_
        obtain ⟨x8, g7, hf⟩ := am_bd hf
        refine am_callSN1 (As := [.int (q2 + w6), .int (0 : Int32), .int q5]) (st := []) hE (am_dec tmX3_bestOffset_0 45 rfl) ok_X11_within rfl lm_X3_112 st_X11_within (c_X11_within hE g7) rfl (Nat.lt_of_lt_of_le (by decide) hdp) (Nat.le_of_ble_eq_true rfl) (Nat.zero_le _) (Nat.zero_le _) rfl ?_
        obtain ⟨w15, g16, hf⟩ := am_bd hf
        have key10 : am_S E mX3_bestOffset d mc ms o G2 D2 0 0 120 [(0, .ref q0), (1, .int q1), (2, .int q2), (3, .int q3), (4, .ref q4), (5, .int q5), (6, .int w15.1), (7, .int w15.2), (8, .int v8)] [] am_G0 D := by
          refine am_iinc (v := (1 : Int32)) (lv' := [(0, .ref q0), (1, .int q1), (2, .int q2), (3, .int q3), (4, .ref q4), (5, .int q5), (6, .int w15.1), (7, .int w15.2), (8, .int (v8 + (1 : Int32)))]) (am_dec tmX3_bestOffset_1 7 rfl) rfl (by decide) (by decide) rfl ?_
          refine am_goto (tgt := 32) (am_dec tmX3_bestOffset_1 8 rfl) (by decide) ?_
          exact am_pick [0, 1, 2, 3, 4, 5, 6, 7, 8] rfl (l_X3_bestOffset_L32 hE hdp h_q0 h_q4 n w15.1 w15.2 (v8 + (1 : Int32)) ex0 hf hk0)
        replace hf := g16
        refine am_if_eq (tgt := 120) (am_dec tmX3_bestOffset_0 46 rfl) (by decide) (fun c9 => ?_) (fun c9 => ?_)
        · rw [if_pos c9] at hf
          have hf := Option.some.inj hf
          subst hf
          exact am_pick [0, 1, 2, 3, 4, 5, 6, 7, 8] rfl key10
        · rw [if_neg c9] at hf
          refine am_aload_n (am_dec tmX3_bestOffset_0 47 rfl) rfl rfl ?_
          refine am_getR (j := 0) hE (am_dec tmX3_bestOffset_0 48 rfl) h_q0 cf3 (by decide) rfl lf_X3_14 (ro_X3_0_0 h_q0) ?_
          refine am_iload_n (am_dec tmX3_bestOffset_0 49 rfl) rfl rfl ?_
          refine am_iload (am_dec tmX3_bestOffset_0 50 rfl) rfl ?_
          refine am_iadd (am_dec tmX3_bestOffset_0 51 rfl) ?_
          refine am_aload_n (am_dec tmX3_bestOffset_0 52 rfl) rfl rfl ?_
          refine am_getR (j := 1) hE (am_dec tmX3_bestOffset_0 53 rfl) h_q0 cf3 (by decide) rfl lf_X3_20 (ro_X3_0_1 h_q0) ?_
          refine am_iload_n (am_dec tmX3_bestOffset_0 54 rfl) rfl rfl ?_
          refine am_iload_n (am_dec tmX3_bestOffset_0 55 rfl) rfl rfl ?_
          obtain ⟨x12, g11, hf⟩ := am_bd hf
          refine am_callV1 (As := [.int (q2 + w6), .ref (q0 + 3), .int q1, .int q3]) (st := []) hE (am_dec tmX3_bestOffset_0 56 rfl) ok_X7_unlike rfl lm_X3_98 in_X7_unlike se_X7_unlike (so_X3_1 h_q0) cf7 (c_X7_unlike hE (so_X3_1 h_q0) (so_X3_3 h_q0) g11) rfl (Nat.lt_of_lt_of_le (by decide) hdp) (Nat.le_of_ble_eq_true rfl) (Nat.zero_le _) (Nat.zero_le _) rfl ?_
          refine am_istore (lv' := [(0, .ref q0), (1, .int q1), (2, .int q2), (3, .int q3), (4, .ref q4), (5, .int q5), (6, .int v6), (7, .int v7), (8, .int v8), (9, .int w6), (10, .int x12)]) (am_dec tmX3_bestOffset_0 57 rfl) (by decide) rfl ?_
          refine am_iload (am_dec tmX3_bestOffset_0 58 rfl) rfl ?_
          refine am_if_lt (tgt := 112) (am_dec tmX3_bestOffset_0 59 rfl) (by decide) (fun c13 => ?_) (fun c13 => ?_)
          · rw [if_pos c13] at hf
            refine am_iload (am_dec tmX3_bestOffset_1 3 rfl) rfl ?_
            refine am_istore (lv' := [(0, .ref q0), (1, .int q1), (2, .int q2), (3, .int q3), (4, .ref q4), (5, .int q5), (6, .int v6), (7, .int x12), (8, .int v8), (9, .int w6), (10, .int x12)]) (am_dec tmX3_bestOffset_1 4 rfl) (by decide) rfl ?_
            refine am_iload (am_dec tmX3_bestOffset_1 5 rfl) rfl ?_
            refine am_istore (lv' := [(0, .ref q0), (1, .int q1), (2, .int q2), (3, .int q3), (4, .ref q4), (5, .int q5), (6, .int w6), (7, .int x12), (8, .int v8), (9, .int w6), (10, .int x12)]) (am_dec tmX3_bestOffset_1 6 rfl) (by decide) rfl ?_
            have hf := Option.some.inj hf
            subst hf
            exact am_pick [0, 1, 2, 3, 4, 5, 6, 7, 8] rfl key10
          · rw [if_neg c13] at hf
            refine am_iload (am_dec tmX3_bestOffset_1 0 rfl) rfl ?_
            refine am_iload (am_dec tmX3_bestOffset_1 1 rfl) rfl ?_
            refine am_icmp_ge (tgt := 120) (am_dec tmX3_bestOffset_1 2 rfl) (by decide) (fun c14 => ?_) (fun c14 => ?_)
            · rw [if_pos c14] at hf
              have hf := Option.some.inj hf
              subst hf
              exact am_pick [0, 1, 2, 3, 4, 5, 6, 7, 8] rfl key10
            · rw [if_neg c14] at hf
              refine am_iload (am_dec tmX3_bestOffset_1 3 rfl) rfl ?_
              refine am_istore (lv' := [(0, .ref q0), (1, .int q1), (2, .int q2), (3, .int q3), (4, .ref q4), (5, .int q5), (6, .int v6), (7, .int x12), (8, .int v8), (9, .int w6), (10, .int x12)]) (am_dec tmX3_bestOffset_1 4 rfl) (by decide) rfl ?_
              refine am_iload (am_dec tmX3_bestOffset_1 5 rfl) rfl ?_
              refine am_istore (lv' := [(0, .ref q0), (1, .int q1), (2, .int q2), (3, .int q3), (4, .ref q4), (5, .int q5), (6, .int w6), (7, .int x12), (8, .int v8), (9, .int w6), (10, .int x12)]) (am_dec tmX3_bestOffset_1 6 rfl) (by decide) rfl ?_
              have hf := Option.some.inj hf
              subst hf
              exact am_pick [0, 1, 2, 3, 4, 5, 6, 7, 8] rfl key10
      replace hf := g17
      refine am_icmp_ne (tgt := 62) (am_dec tmX3_bestOffset_0 28 rfl) (by decide) (fun c4 => ?_) (fun c4 => ?_)
      · rw [if_neg c4] at hf
        refine am_iload (am_dec tmX3_bestOffset_0 36 rfl) rfl ?_
        refine am_iconst (v := (2 : Int32)) (am_dec tmX3_bestOffset_0 37 rfl) (by decide) ?_
        refine am_idiv (am_dec tmX3_bestOffset_0 38 rfl) (by decide) ?_
        have hf := Option.some.inj hf
        subst hf
        exact am_pick [0, 1, 2, 3, 4, 5, 6, 7, 8] rfl key5
      · rw [if_pos c4] at hf
        refine am_iload (am_dec tmX3_bestOffset_0 29 rfl) rfl ?_
        refine am_iconst (v := (1 : Int32)) (am_dec tmX3_bestOffset_0 30 rfl) (by decide) ?_
        refine am_iadd (am_dec tmX3_bestOffset_0 31 rfl) ?_
        refine am_ineg (am_dec tmX3_bestOffset_0 32 rfl) ?_
        refine am_iconst (v := (2 : Int32)) (am_dec tmX3_bestOffset_0 33 rfl) (by decide) ?_
        refine am_idiv (am_dec tmX3_bestOffset_0 34 rfl) (by decide) ?_
        refine am_goto (tgt := 66) (am_dec tmX3_bestOffset_0 35 rfl) (by decide) ?_
        have hf := Option.some.inj hf
        subst hf
        exact am_pick [0, 1, 2, 3, 4, 5, 6, 7, 8] rfl key5
set_option maxRecDepth 100000 in
set_option maxHeartbeats 4000000 in
theorem c_X3_bestOffset {E : am_E} (hE : am_EH E) {r0 : Nat} {p1 : Int32} {p2 : Int32} {p3 : Int32} {p4 : Nat} {D : am_D} {r : Int32} (h_r0 : am_sh am_G0 r0 = some (3, 8)) (h_p4 : am_sh am_G0 p4 = some (5, 3)) (hf : f_X3_bestOffset r0 p1 p2 p3 p4 D = some r) : am_C E mX3_bestOffset 3 0 0 [.ref r0, .int p1, .int p2, .int p3, .ref p4] am_G0 D (.inl (some (.int r))) am_G0 D := by
  refine am_C_of (by decide +kernel) (Nat.le_of_ble_eq_true rfl) ?_
  change am_S E mX3_bestOffset 3 0 0 (.inl (some (.int r))) am_G0 D 0 0 0 [(0, .ref r0), (1, .int p1), (2, .int p2), (3, .int p3), (4, .ref p4)] [] am_G0 D
  unfold f_X3_bestOffset at hf
  refine am_aload_n (am_dec tmX3_bestOffset_0 0 rfl) rfl rfl ?_
  refine am_getR (j := 0) hE (am_dec tmX3_bestOffset_0 1 rfl) h_r0 cf3 (by decide) rfl lf_X3_14 (ro_X3_0_0 h_r0) ?_
  refine am_getI (j := 1) hE (am_dec tmX3_bestOffset_0 2 rfl) (so_X3_1 h_r0) cf7 (by decide) rfl lf_X3_80 ?_
  refine am_aload (am_dec tmX3_bestOffset_0 3 rfl) rfl ?_
  refine am_getI (j := 0) hE (am_dec tmX3_bestOffset_0 4 rfl) h_p4 cf5 (by decide) rfl lf_X3_59 ?_
  refine am_isub (am_dec tmX3_bestOffset_0 5 rfl) ?_
  refine am_istore (lv' := [(0, .ref r0), (1, .int p1), (2, .int p2), (3, .int p3), (4, .ref p4), (5, .int ((D.1 (r0 + 1) 1) - (D.1 p4 0)))]) (am_dec tmX3_bestOffset_0 6 rfl) (by decide) rfl ?_
  refine am_iload_n (am_dec tmX3_bestOffset_0 7 rfl) rfl rfl ?_
  refine am_iconst (v := (0 : Int32)) (am_dec tmX3_bestOffset_0 8 rfl) (by decide) ?_
  refine am_iload (am_dec tmX3_bestOffset_0 9 rfl) rfl ?_
  obtain ⟨x2, g1, hf⟩ := am_bd hf
  refine am_callSN1 (As := [.int p2, .int (0 : Int32), .int ((D.1 (r0 + 1) 1) - (D.1 p4 0))]) (st := []) hE (am_dec tmX3_bestOffset_0 10 rfl) ok_X11_bounded rfl lm_X3_105 st_X11_bounded (c_X11_bounded hE g1) rfl (by decide) (Nat.le_of_ble_eq_true rfl) (Nat.zero_le _) (Nat.zero_le _) rfl ?_
  refine am_iload_n (am_dec tmX3_bestOffset_0 11 rfl) rfl rfl ?_
  refine am_isub (am_dec tmX3_bestOffset_0 12 rfl) ?_
  refine am_istore (lv' := [(0, .ref r0), (1, .int p1), (2, .int p2), (3, .int p3), (4, .ref p4), (5, .int ((D.1 (r0 + 1) 1) - (D.1 p4 0))), (6, .int (x2 - p2))]) (am_dec tmX3_bestOffset_0 13 rfl) (by decide) rfl ?_
  refine am_iconst (v := (-1 : Int32)) (am_dec tmX3_bestOffset_0 14 rfl) (by decide) ?_
  refine am_istore (lv' := [(0, .ref r0), (1, .int p1), (2, .int p2), (3, .int p3), (4, .ref p4), (5, .int ((D.1 (r0 + 1) 1) - (D.1 p4 0))), (6, .int (x2 - p2)), (7, .int (-1 : Int32))]) (am_dec tmX3_bestOffset_0 15 rfl) (by decide) rfl ?_
  refine am_iconst (v := (0 : Int32)) (am_dec tmX3_bestOffset_0 16 rfl) (by decide) ?_
  refine am_istore (lv' := [(0, .ref r0), (1, .int p1), (2, .int p2), (3, .int p3), (4, .ref p4), (5, .int ((D.1 (r0 + 1) 1) - (D.1 p4 0))), (6, .int (x2 - p2)), (7, .int (-1 : Int32)), (8, .int (0 : Int32))]) (am_dec tmX3_bestOffset_0 17 rfl) (by decide) rfl ?_
  obtain ⟨e18, g19, hf⟩ := am_bd hf
  refine am_pick [0, 1, 2, 3, 4, 5, 6, 7, 8] rfl (l_X3_bestOffset_L32 hE (Nat.le_refl _) h_r0 h_p4 am_fu _ _ _ _ g19 (fun ex he => ?_))
  subst he
  refine am_iload (am_dec tmX3_bestOffset_1 9 rfl) rfl ?_
  have hf := Option.some.inj hf
  subst hf
  exact am_iret (am_dec tmX3_bestOffset_1 10 rfl) rfl (Nat.zero_le _) (Nat.zero_le _)
def f_X7_put (r0 : Nat) (p1 : Int32) (p2 : Int32) (D : am_D) : Option (am_D) :=
    if p1 < 0 then
    some D
    else
    if (D.1 r0 1) ≤ p1 then
    some D
    else
    if (Int32.ofNat (am_ln (r0 + 1))) ≤ p1 then
    some D
    else
    (am_pI D (r0 + 1) (am_ln (r0 + 1)) p1 p2).bind fun D4 =>
    some D4
set_option maxRecDepth 100000 in
set_option maxHeartbeats 4000000 in
theorem c_X7_put {E : am_E} (hE : am_EH E) {r0 : Nat} {p1 : Int32} {p2 : Int32} {D : am_D} {r : am_D} (h_r0 : am_sh am_G0 r0 = some (7, 2)) (hf : f_X7_put r0 p1 p2 D = some r) : am_C E mX7_put 1 0 0 [.ref r0, .int p1, .int p2] am_G0 D (.inl none) am_G0 r := by
  refine am_C_of (by decide +kernel) (Nat.le_of_ble_eq_true rfl) ?_
  change am_S E mX7_put 1 0 0 (.inl none) am_G0 r 0 0 0 [(0, .ref r0), (1, .int p1), (2, .int p2)] [] am_G0 D
  unfold f_X7_put at hf
  refine am_iload_n (am_dec tmX7_put 0 rfl) rfl rfl ?_
  refine am_if_lt (tgt := 28) (am_dec tmX7_put 1 rfl) (by decide) (fun c1 => ?_) (fun c1 => ?_)
  · rw [if_pos c1] at hf
    have hf := Option.some.inj hf
    subst hf
    exact am_vret (am_dec tmX7_put 16 rfl) rfl (Nat.zero_le _) (Nat.zero_le _)
  · rw [if_neg c1] at hf
    refine am_iload_n (am_dec tmX7_put 2 rfl) rfl rfl ?_
    refine am_aload_n (am_dec tmX7_put 3 rfl) rfl rfl ?_
    refine am_getI (j := 1) hE (am_dec tmX7_put 4 rfl) h_r0 cf7 (by decide) rfl lf_X7_25 ?_
    refine am_icmp_ge (tgt := 28) (am_dec tmX7_put 5 rfl) (by decide) (fun c2 => ?_) (fun c2 => ?_)
    · rw [if_pos c2] at hf
      have hf := Option.some.inj hf
      subst hf
      exact am_vret (am_dec tmX7_put 16 rfl) rfl (Nat.zero_le _) (Nat.zero_le _)
    · rw [if_neg c2] at hf
      refine am_iload_n (am_dec tmX7_put 6 rfl) rfl rfl ?_
      refine am_aload_n (am_dec tmX7_put 7 rfl) rfl rfl ?_
      refine am_getR (j := 0) hE (am_dec tmX7_put 8 rfl) h_r0 cf7 (by decide) rfl lf_X7_15 (ro_X7_0_0 h_r0) ?_
      refine am_alen (t := 0) (v := (Int32.ofNat (am_ln (r0 + 1)))) hE (am_dec tmX7_put 9 rfl) (so_X7_1 h_r0) (by decide) rfl ?_
      refine am_icmp_ge (tgt := 28) (am_dec tmX7_put 10 rfl) (by decide) (fun c3 => ?_) (fun c3 => ?_)
      · rw [if_pos c3] at hf
        have hf := Option.some.inj hf
        subst hf
        exact am_vret (am_dec tmX7_put 16 rfl) rfl (Nat.zero_le _) (Nat.zero_le _)
      · rw [if_neg c3] at hf
        refine am_aload_n (am_dec tmX7_put 11 rfl) rfl rfl ?_
        refine am_getR (j := 0) hE (am_dec tmX7_put 12 rfl) h_r0 cf7 (by decide) rfl lf_X7_15 (ro_X7_0_0 h_r0) ?_
        refine am_iload_n (am_dec tmX7_put 13 rfl) rfl rfl ?_
        refine am_iload_n (am_dec tmX7_put 14 rfl) rfl rfl ?_
        obtain ⟨D4, g5, hf⟩ := am_bd hf
        refine am_iast2 hE (am_dec tmX7_put 15 rfl) (so_X7_1 h_r0) g5 ?_
        have hf := Option.some.inj hf
        subst hf
        exact am_vret (am_dec tmX7_put 16 rfl) rfl (Nat.zero_le _) (Nat.zero_le _)
def f_X7_fadeIn_L3 (q0 : Nat) (q1 : Int32) (q2 : Nat) (q3 : Int32) (q4 : Int32) : Nat → Int32 → am_D → Option (am_D)
  | 0, _, _ => none
  | n + 1, v5, D =>
    if q4 ≤ v5 then
    some (D)
    else
    (f_X7_at q0 (q1 + v5) D).bind fun x3 =>
    (f_X7_at q2 (q3 + v5) D).bind fun x5 =>
    (f_X11_cut ((x3 * (q4 - v5)) + (x5 * v5)) q4).bind fun x7 =>
    (f_X7_put q0 (q1 + v5) x7 D).bind fun x9 =>
    f_X7_fadeIn_L3 q0 q1 q2 q3 q4 n (v5 + (1 : Int32)) x9
def f_X7_fadeIn (r0 : Nat) (p1 : Int32) (p2 : Nat) (p3 : Int32) (p4 : Int32) (D : am_D) : Option (am_D) :=
    (f_X7_fadeIn_L3 r0 p1 p2 p3 p4 am_fu (0 : Int32) D).bind fun e10 =>
    some e10
set_option maxRecDepth 100000 in
set_option maxHeartbeats 4000000 in
theorem l_X7_fadeIn_L3 {E : am_E} (hE : am_EH E) {d mc ms : Nat} {o : am_O} {G2 : am_G} {D2 : am_D} (hdp : 2 ≤ d) {q0 : Nat} {q1 : Int32} {q2 : Nat} {q3 : Int32} {q4 : Int32} (h_q0 : am_sh am_G0 q0 = some (7, 2)) (h_q2 : am_sh am_G0 q2 = some (7, 2)) : ∀ (n : Nat) (v5 : Int32) (D : am_D) (ex0 : am_D), f_X7_fadeIn_L3 q0 q1 q2 q3 q4 n v5 D = some ex0 → (∀ ex : am_D, ex0 = ex → am_S E mX7_fadeIn d mc ms o G2 D2 0 0 59 [] [] am_G0 ex) → am_S E mX7_fadeIn d mc ms o G2 D2 0 0 3 [(0, .ref q0), (1, .int q1), (2, .ref q2), (3, .int q3), (4, .int q4), (5, .int v5)] [] am_G0 D
  | 0, _, _, _, hf, _ => by
    unfold f_X7_fadeIn_L3 at hf
    cases hf
  | n + 1, v5, D, ex0, hf, hk0 => by
    unfold f_X7_fadeIn_L3 at hf
    refine am_iload (am_dec tmX7_fadeIn 2 rfl) rfl ?_
    refine am_iload (am_dec tmX7_fadeIn 3 rfl) rfl ?_
    refine am_icmp_ge (tgt := 59) (am_dec tmX7_fadeIn 4 rfl) (by decide) (fun c1 => ?_) (fun c1 => ?_)
    · rw [if_pos c1] at hf
      have hf := Option.some.inj hf
      subst hf
      exact am_pick [] rfl (hk0 _ rfl)
    · rw [if_neg c1] at hf
      refine am_aload_n (am_dec tmX7_fadeIn 5 rfl) rfl rfl ?_
      refine am_iload_n (am_dec tmX7_fadeIn 6 rfl) rfl rfl ?_
      refine am_iload (am_dec tmX7_fadeIn 7 rfl) rfl ?_
      refine am_iadd (am_dec tmX7_fadeIn 8 rfl) ?_
      obtain ⟨x3, g2, hf⟩ := am_bd hf
      refine am_callV1 (As := [.int (q1 + v5)]) (st := []) hE (am_dec tmX7_fadeIn 9 rfl) ok_X7_at rfl lm_X7_35 in_X7_at se_X7_at h_q0 cf7 (c_X7_at hE h_q0 g2) rfl (Nat.lt_of_lt_of_le (by decide) hdp) (Nat.le_of_ble_eq_true rfl) (Nat.zero_le _) (Nat.zero_le _) rfl ?_
      refine am_iload (am_dec tmX7_fadeIn 10 rfl) rfl ?_
      refine am_iload (am_dec tmX7_fadeIn 11 rfl) rfl ?_
      refine am_isub (am_dec tmX7_fadeIn 12 rfl) ?_
      refine am_imul (am_dec tmX7_fadeIn 13 rfl) ?_
      refine am_aload_n (am_dec tmX7_fadeIn 14 rfl) rfl rfl ?_
      refine am_iload_n (am_dec tmX7_fadeIn 15 rfl) rfl rfl ?_
      refine am_iload (am_dec tmX7_fadeIn 16 rfl) rfl ?_
      refine am_iadd (am_dec tmX7_fadeIn 17 rfl) ?_
      obtain ⟨x5, g4, hf⟩ := am_bd hf
      refine am_callV1 (As := [.int (q3 + v5)]) (st := [.int (x3 * (q4 - v5))]) hE (am_dec tmX7_fadeIn 18 rfl) ok_X7_at rfl lm_X7_35 in_X7_at se_X7_at h_q2 cf7 (c_X7_at hE h_q2 g4) rfl (Nat.lt_of_lt_of_le (by decide) hdp) (Nat.le_of_ble_eq_true rfl) (Nat.zero_le _) (Nat.zero_le _) rfl ?_
      refine am_iload (am_dec tmX7_fadeIn 19 rfl) rfl ?_
      refine am_imul (am_dec tmX7_fadeIn 20 rfl) ?_
      refine am_iadd (am_dec tmX7_fadeIn 21 rfl) ?_
      refine am_istore (lv' := [(0, .ref q0), (1, .int q1), (2, .ref q2), (3, .int q3), (4, .int q4), (5, .int v5), (6, .int ((x3 * (q4 - v5)) + (x5 * v5)))]) (am_dec tmX7_fadeIn 22 rfl) (by decide) rfl ?_
      refine am_aload_n (am_dec tmX7_fadeIn 23 rfl) rfl rfl ?_
      refine am_iload_n (am_dec tmX7_fadeIn 24 rfl) rfl rfl ?_
      refine am_iload (am_dec tmX7_fadeIn 25 rfl) rfl ?_
      refine am_iadd (am_dec tmX7_fadeIn 26 rfl) ?_
      refine am_iload (am_dec tmX7_fadeIn 27 rfl) rfl ?_
      refine am_iload (am_dec tmX7_fadeIn 28 rfl) rfl ?_
      obtain ⟨x7, g6, hf⟩ := am_bd hf
      refine am_callSN1 (As := [.int ((x3 * (q4 - v5)) + (x5 * v5)), .int q4]) (st := [.int (q1 + v5), .ref q0]) hE (am_dec tmX7_fadeIn 29 rfl) ok_X11_cut rfl lm_X7_69 st_X11_cut (c_X11_cut hE g6) rfl (Nat.lt_of_lt_of_le (by decide) hdp) (Nat.le_of_ble_eq_true rfl) (Nat.zero_le _) (Nat.zero_le _) rfl ?_
      obtain ⟨x9, g8, hf⟩ := am_bd hf
      refine am_callV0 (As := [.int (q1 + v5), .int x7]) (st := []) hE (am_dec tmX7_fadeIn 30 rfl) ok_X7_put rfl lm_X7_65 in_X7_put se_X7_put h_q0 cf7 (c_X7_put hE h_q0 g8) rfl (Nat.lt_of_lt_of_le (by decide) hdp) (Nat.le_of_ble_eq_true rfl) (Nat.zero_le _) (Nat.zero_le _) rfl ?_
      refine am_iinc (v := (1 : Int32)) (lv' := [(0, .ref q0), (1, .int q1), (2, .ref q2), (3, .int q3), (4, .int q4), (5, .int (v5 + (1 : Int32))), (6, .int ((x3 * (q4 - v5)) + (x5 * v5)))]) (am_dec tmX7_fadeIn 31 rfl) rfl (by decide) (by decide) rfl ?_
      refine am_goto (tgt := 3) (am_dec tmX7_fadeIn 32 rfl) (by decide) ?_
      exact am_pick [0, 1, 2, 3, 4, 5] rfl (l_X7_fadeIn_L3 hE hdp h_q0 h_q2 n (v5 + (1 : Int32)) x9 ex0 hf hk0)
set_option maxRecDepth 100000 in
set_option maxHeartbeats 4000000 in
theorem c_X7_fadeIn {E : am_E} (hE : am_EH E) {r0 : Nat} {p1 : Int32} {p2 : Nat} {p3 : Int32} {p4 : Int32} {D : am_D} {r : am_D} (h_r0 : am_sh am_G0 r0 = some (7, 2)) (h_p2 : am_sh am_G0 p2 = some (7, 2)) (hf : f_X7_fadeIn r0 p1 p2 p3 p4 D = some r) : am_C E mX7_fadeIn 2 0 0 [.ref r0, .int p1, .ref p2, .int p3, .int p4] am_G0 D (.inl none) am_G0 r := by
  refine am_C_of (by decide +kernel) (Nat.le_of_ble_eq_true rfl) ?_
  change am_S E mX7_fadeIn 2 0 0 (.inl none) am_G0 r 0 0 0 [(0, .ref r0), (1, .int p1), (2, .ref p2), (3, .int p3), (4, .int p4)] [] am_G0 D
  unfold f_X7_fadeIn at hf
  refine am_iconst (v := (0 : Int32)) (am_dec tmX7_fadeIn 0 rfl) (by decide) ?_
  refine am_istore (lv' := [(0, .ref r0), (1, .int p1), (2, .ref p2), (3, .int p3), (4, .int p4), (5, .int (0 : Int32))]) (am_dec tmX7_fadeIn 1 rfl) (by decide) rfl ?_
  obtain ⟨e10, g11, hf⟩ := am_bd hf
  refine am_pick [0, 1, 2, 3, 4, 5] rfl (l_X7_fadeIn_L3 hE (Nat.le_refl _) h_r0 h_p2 am_fu _ _ _ g11 (fun ex he => ?_))
  subst he
  have hf := Option.some.inj hf
  subst hf
  exact am_vret (am_dec tmX7_fadeIn 33 rfl) rfl (Nat.zero_le _) (Nat.zero_le _)
def f_X7_lay_L3 (q0 : Nat) (q1 : Int32) (q2 : Nat) (q3 : Int32) (q4 : Int32) : Nat → Int32 → am_D → Option (am_D)
  | 0, _, _ => none
  | n + 1, v5, D =>
    if q4 ≤ v5 then
    some (D)
    else
    (f_X7_at q2 (q3 + v5) D).bind fun x3 =>
    (f_X7_put q0 (q1 + v5) x3 D).bind fun x5 =>
    f_X7_lay_L3 q0 q1 q2 q3 q4 n (v5 + (1 : Int32)) x5
def f_X7_lay (r0 : Nat) (p1 : Int32) (p2 : Nat) (p3 : Int32) (p4 : Int32) (D : am_D) : Option (am_D) :=
    (f_X7_lay_L3 r0 p1 p2 p3 p4 am_fu (0 : Int32) D).bind fun e6 =>
    some e6
set_option maxRecDepth 100000 in
set_option maxHeartbeats 4000000 in
theorem l_X7_lay_L3 {E : am_E} (hE : am_EH E) {d mc ms : Nat} {o : am_O} {G2 : am_G} {D2 : am_D} (hdp : 2 ≤ d) {q0 : Nat} {q1 : Int32} {q2 : Nat} {q3 : Int32} {q4 : Int32} (h_q0 : am_sh am_G0 q0 = some (7, 2)) (h_q2 : am_sh am_G0 q2 = some (7, 2)) : ∀ (n : Nat) (v5 : Int32) (D : am_D) (ex0 : am_D), f_X7_lay_L3 q0 q1 q2 q3 q4 n v5 D = some ex0 → (∀ ex : am_D, ex0 = ex → am_S E mX7_lay d mc ms o G2 D2 0 0 32 [] [] am_G0 ex) → am_S E mX7_lay d mc ms o G2 D2 0 0 3 [(0, .ref q0), (1, .int q1), (2, .ref q2), (3, .int q3), (4, .int q4), (5, .int v5)] [] am_G0 D
  | 0, _, _, _, hf, _ => by
    unfold f_X7_lay_L3 at hf
    cases hf
  | n + 1, v5, D, ex0, hf, hk0 => by
    unfold f_X7_lay_L3 at hf
    refine am_iload (am_dec tmX7_lay 2 rfl) rfl ?_
    refine am_iload (am_dec tmX7_lay 3 rfl) rfl ?_
    refine am_icmp_ge (tgt := 32) (am_dec tmX7_lay 4 rfl) (by decide) (fun c1 => ?_) (fun c1 => ?_)
    · rw [if_pos c1] at hf
      have hf := Option.some.inj hf
      subst hf
      exact am_pick [] rfl (hk0 _ rfl)
    · rw [if_neg c1] at hf
      refine am_aload_n (am_dec tmX7_lay 5 rfl) rfl rfl ?_
      refine am_iload_n (am_dec tmX7_lay 6 rfl) rfl rfl ?_
      refine am_iload (am_dec tmX7_lay 7 rfl) rfl ?_
      refine am_iadd (am_dec tmX7_lay 8 rfl) ?_
      refine am_aload_n (am_dec tmX7_lay 9 rfl) rfl rfl ?_
      refine am_iload_n (am_dec tmX7_lay 10 rfl) rfl rfl ?_
      refine am_iload (am_dec tmX7_lay 11 rfl) rfl ?_
      refine am_iadd (am_dec tmX7_lay 12 rfl) ?_
      obtain ⟨x3, g2, hf⟩ := am_bd hf
      refine am_callV1 (As := [.int (q3 + v5)]) (st := [.int (q1 + v5), .ref q0]) hE (am_dec tmX7_lay 13 rfl) ok_X7_at rfl lm_X7_35 in_X7_at se_X7_at h_q2 cf7 (c_X7_at hE h_q2 g2) rfl (Nat.lt_of_lt_of_le (by decide) hdp) (Nat.le_of_ble_eq_true rfl) (Nat.zero_le _) (Nat.zero_le _) rfl ?_
      obtain ⟨x5, g4, hf⟩ := am_bd hf
      refine am_callV0 (As := [.int (q1 + v5), .int x3]) (st := []) hE (am_dec tmX7_lay 14 rfl) ok_X7_put rfl lm_X7_65 in_X7_put se_X7_put h_q0 cf7 (c_X7_put hE h_q0 g4) rfl (Nat.lt_of_lt_of_le (by decide) hdp) (Nat.le_of_ble_eq_true rfl) (Nat.zero_le _) (Nat.zero_le _) rfl ?_
      refine am_iinc (v := (1 : Int32)) (lv' := [(0, .ref q0), (1, .int q1), (2, .ref q2), (3, .int q3), (4, .int q4), (5, .int (v5 + (1 : Int32)))]) (am_dec tmX7_lay 15 rfl) rfl (by decide) (by decide) rfl ?_
      refine am_goto (tgt := 3) (am_dec tmX7_lay 16 rfl) (by decide) ?_
      exact am_pick [0, 1, 2, 3, 4, 5] rfl (l_X7_lay_L3 hE hdp h_q0 h_q2 n (v5 + (1 : Int32)) x5 ex0 hf hk0)
set_option maxRecDepth 100000 in
set_option maxHeartbeats 4000000 in
theorem c_X7_lay {E : am_E} (hE : am_EH E) {r0 : Nat} {p1 : Int32} {p2 : Nat} {p3 : Int32} {p4 : Int32} {D : am_D} {r : am_D} (h_r0 : am_sh am_G0 r0 = some (7, 2)) (h_p2 : am_sh am_G0 p2 = some (7, 2)) (hf : f_X7_lay r0 p1 p2 p3 p4 D = some r) : am_C E mX7_lay 2 0 0 [.ref r0, .int p1, .ref p2, .int p3, .int p4] am_G0 D (.inl none) am_G0 r := by
  refine am_C_of (by decide +kernel) (Nat.le_of_ble_eq_true rfl) ?_
  change am_S E mX7_lay 2 0 0 (.inl none) am_G0 r 0 0 0 [(0, .ref r0), (1, .int p1), (2, .ref p2), (3, .int p3), (4, .int p4)] [] am_G0 D
  unfold f_X7_lay at hf
  refine am_iconst (v := (0 : Int32)) (am_dec tmX7_lay 0 rfl) (by decide) ?_
  refine am_istore (lv' := [(0, .ref r0), (1, .int p1), (2, .ref p2), (3, .int p3), (4, .int p4), (5, .int (0 : Int32))]) (am_dec tmX7_lay 1 rfl) (by decide) rfl ?_
  obtain ⟨e6, g7, hf⟩ := am_bd hf
  refine am_pick [0, 1, 2, 3, 4, 5] rfl (l_X7_lay_L3 hE (Nat.le_refl _) h_r0 h_p2 am_fu _ _ _ g7 (fun ex he => ?_))
  subst he
  have hf := Option.some.inj hf
  subst hf
  exact am_vret (am_dec tmX7_lay 17 rfl) rfl (Nat.zero_le _) (Nat.zero_le _)
def f_X9_placeOf_L8 (q0 : Nat) (q1 : Int32) (D : am_D) : Nat → Int32 → Option (Int32 ⊕ Unit)
  | 0, _ => none
  | n + 1, v2 =>
    if (D.1 q0 2) ≤ v2 then
    some (.inr ())
    else
    (f_X9_to q0 v2 D).bind fun x4 =>
    if x4 ≤ q1 then
    f_X9_placeOf_L8 q0 q1 D n (v2 + (1 : Int32))
    else
    some (.inl (v2))
def f_X9_placeOf (r0 : Nat) (p1 : Int32) (D : am_D) : Option (Int32) :=
    if 0 ≤ p1 then
    am_b2 (f_X9_placeOf_L8 r0 p1 D am_fu (0 : Int32))
    (fun e6 =>
    (f_X9_from r0 (e6 - (1 : Int32)) D).bind fun x8 =>
    (f_X9_to r0 (e6 - (1 : Int32)) D).bind fun x10 =>
    (f_X9_from r0 e6 D).bind fun x12 =>
    (f_X9_to r0 e6 D).bind fun x14 =>
    (f_X11_cut ((x12 - x8) * (p1 - x10)) (x14 - x10)).bind fun x16 =>
    some (x8 + x16))
    (fun e17 =>
    some (-1 : Int32))
    else
    some (-1 : Int32)
set_option maxRecDepth 100000 in
set_option maxHeartbeats 4000000 in
theorem l_X9_placeOf_L8 {E : am_E} (hE : am_EH E) {d mc ms : Nat} {o : am_O} {G2 : am_G} {D2 : am_D} (hdp : 2 ≤ d) {q0 : Nat} {q1 : Int32} {D : am_D} (h_q0 : am_sh am_G0 q0 = some (9, 3)) : ∀ (n : Nat) (v2 : Int32) (ex0 : Int32 ⊕ Unit), f_X9_placeOf_L8 q0 q1 D n v2 = some ex0 → (∀ ex : Int32, ex0 = .inl ex → am_S E mX9_placeOf d mc ms o G2 D2 0 0 25 [(0, .ref q0), (1, .int q1), (2, .int ex)] [] am_G0 D) → (∀ ex : Unit, ex0 = .inr ex → am_S E mX9_placeOf d mc ms o G2 D2 0 0 74 [] [] am_G0 D) → am_S E mX9_placeOf d mc ms o G2 D2 0 0 8 [(0, .ref q0), (1, .int q1), (2, .int v2)] [] am_G0 D
  | 0, _, _, hf, _, _ => by
    unfold f_X9_placeOf_L8 at hf
    cases hf
  | n + 1, v2, ex0, hf, hk0, hk1 => by
    unfold f_X9_placeOf_L8 at hf
    refine am_iload_n (am_dec tmX9_placeOf 6 rfl) rfl rfl ?_
    refine am_aload_n (am_dec tmX9_placeOf 7 rfl) rfl rfl ?_
    refine am_getI (j := 2) hE (am_dec tmX9_placeOf 8 rfl) h_q0 cf9 (by decide) rfl lf_X9_18 ?_
    refine am_icmp_ge (tgt := 74) (am_dec tmX9_placeOf 9 rfl) (by decide) (fun c2 => ?_) (fun c2 => ?_)
    · rw [if_pos c2] at hf
      have hf := Option.some.inj hf
      subst hf
      exact am_pick [] rfl (hk1 _ rfl)
    · rw [if_neg c2] at hf
      refine am_iload_n (am_dec tmX9_placeOf 10 rfl) rfl rfl ?_
      refine am_aload_n (am_dec tmX9_placeOf 11 rfl) rfl rfl ?_
      refine am_iload_n (am_dec tmX9_placeOf 12 rfl) rfl rfl ?_
      obtain ⟨x4, g3, hf⟩ := am_bd hf
      refine am_callV1 (As := [.int v2]) (st := [.int q1]) hE (am_dec tmX9_placeOf 13 rfl) ok_X9_to rfl lm_X9_47 in_X9_to se_X9_to h_q0 cf9 (c_X9_to hE h_q0 g3) rfl (Nat.lt_of_lt_of_le (by decide) hdp) (Nat.le_of_ble_eq_true rfl) (Nat.zero_le _) (Nat.zero_le _) rfl ?_
      refine am_icmp_ge (tgt := 68) (am_dec tmX9_placeOf 14 rfl) (by decide) (fun c5 => ?_) (fun c5 => ?_)
      · rw [if_pos c5] at hf
        refine am_iinc (v := (1 : Int32)) (lv' := [(0, .ref q0), (1, .int q1), (2, .int (v2 + (1 : Int32)))]) (am_dec tmX9_placeOf 45 rfl) rfl (by decide) (by decide) rfl ?_
        refine am_goto (tgt := 8) (am_dec tmX9_placeOf 46 rfl) (by decide) ?_
        exact am_pick [0, 1, 2] rfl (l_X9_placeOf_L8 hE hdp h_q0 n (v2 + (1 : Int32)) ex0 hf hk0 hk1)
      · rw [if_neg c5] at hf
        have hf := Option.some.inj hf
        subst hf
        exact am_pick [0, 1, 2] rfl (hk0 _ rfl)
set_option maxRecDepth 100000 in
set_option maxHeartbeats 4000000 in
theorem c_X9_placeOf {E : am_E} (hE : am_EH E) {r0 : Nat} {p1 : Int32} {D : am_D} {r : Int32} (h_r0 : am_sh am_G0 r0 = some (9, 3)) (hf : f_X9_placeOf r0 p1 D = some r) : am_C E mX9_placeOf 2 0 0 [.ref r0, .int p1] am_G0 D (.inl (some (.int r))) am_G0 D := by
  refine am_C_of (by decide +kernel) (Nat.le_of_ble_eq_true rfl) ?_
  change am_S E mX9_placeOf 2 0 0 (.inl (some (.int r))) am_G0 D 0 0 0 [(0, .ref r0), (1, .int p1)] [] am_G0 D
  unfold f_X9_placeOf at hf
  refine am_iload_n (am_dec tmX9_placeOf 0 rfl) rfl rfl ?_
  refine am_if_ge (tgt := 6) (am_dec tmX9_placeOf 1 rfl) (by decide) (fun c1 => ?_) (fun c1 => ?_)
  · rw [if_pos c1] at hf
    refine am_iconst (v := (0 : Int32)) (am_dec tmX9_placeOf 4 rfl) (by decide) ?_
    refine am_istore_n (lv' := [(0, .ref r0), (1, .int p1), (2, .int (0 : Int32))]) (am_dec tmX9_placeOf 5 rfl) rfl (by decide) rfl ?_
    rcases am_b2d hf with ⟨e6, g18, hf⟩ | ⟨e17, g18, hf⟩
    · refine am_pick [0, 1, 2] rfl (l_X9_placeOf_L8 hE (Nat.le_refl _) h_r0 am_fu _ _ g18 (fun ex he => ?_) (fun ex he => by cases he))
      cases he
      refine am_aload_n (am_dec tmX9_placeOf 15 rfl) rfl rfl ?_
      refine am_iload_n (am_dec tmX9_placeOf 16 rfl) rfl rfl ?_
      refine am_iconst (v := (1 : Int32)) (am_dec tmX9_placeOf 17 rfl) (by decide) ?_
      refine am_isub (am_dec tmX9_placeOf 18 rfl) ?_
      obtain ⟨x8, g7, hf⟩ := am_bd hf
      refine am_callV1 (As := [.int (e6 - (1 : Int32))]) (st := []) hE (am_dec tmX9_placeOf 19 rfl) ok_X9_from rfl lm_X9_43 in_X9_from se_X9_from h_r0 cf9 (c_X9_from hE h_r0 g7) rfl (by decide) (Nat.le_of_ble_eq_true rfl) (Nat.zero_le _) (Nat.zero_le _) rfl ?_
      refine am_istore_n (lv' := [(0, .ref r0), (1, .int p1), (2, .int e6), (3, .int x8)]) (am_dec tmX9_placeOf 20 rfl) rfl (by decide) rfl ?_
      refine am_aload_n (am_dec tmX9_placeOf 21 rfl) rfl rfl ?_
      refine am_iload_n (am_dec tmX9_placeOf 22 rfl) rfl rfl ?_
      refine am_iconst (v := (1 : Int32)) (am_dec tmX9_placeOf 23 rfl) (by decide) ?_
      refine am_isub (am_dec tmX9_placeOf 24 rfl) ?_
      obtain ⟨x10, g9, hf⟩ := am_bd hf
      refine am_callV1 (As := [.int (e6 - (1 : Int32))]) (st := []) hE (am_dec tmX9_placeOf 25 rfl) ok_X9_to rfl lm_X9_47 in_X9_to se_X9_to h_r0 cf9 (c_X9_to hE h_r0 g9) rfl (by decide) (Nat.le_of_ble_eq_true rfl) (Nat.zero_le _) (Nat.zero_le _) rfl ?_
      refine am_istore (lv' := [(0, .ref r0), (1, .int p1), (2, .int e6), (3, .int x8), (4, .int x10)]) (am_dec tmX9_placeOf 26 rfl) (by decide) rfl ?_
      refine am_iload_n (am_dec tmX9_placeOf 27 rfl) rfl rfl ?_
      refine am_aload_n (am_dec tmX9_placeOf 28 rfl) rfl rfl ?_
      refine am_iload_n (am_dec tmX9_placeOf 29 rfl) rfl rfl ?_
      obtain ⟨x12, g11, hf⟩ := am_bd hf
      refine am_callV1 (As := [.int e6]) (st := [.int x8]) hE (am_dec tmX9_placeOf 30 rfl) ok_X9_from rfl lm_X9_43 in_X9_from se_X9_from h_r0 cf9 (c_X9_from hE h_r0 g11) rfl (by decide) (Nat.le_of_ble_eq_true rfl) (Nat.zero_le _) (Nat.zero_le _) rfl ?_
      refine am_iload_n (am_dec tmX9_placeOf 31 rfl) rfl rfl ?_
      refine am_isub (am_dec tmX9_placeOf 32 rfl) ?_
      refine am_iload_n (am_dec tmX9_placeOf 33 rfl) rfl rfl ?_
      refine am_iload (am_dec tmX9_placeOf 34 rfl) rfl ?_
      refine am_isub (am_dec tmX9_placeOf 35 rfl) ?_
      refine am_imul (am_dec tmX9_placeOf 36 rfl) ?_
      refine am_aload_n (am_dec tmX9_placeOf 37 rfl) rfl rfl ?_
      refine am_iload_n (am_dec tmX9_placeOf 38 rfl) rfl rfl ?_
      obtain ⟨x14, g13, hf⟩ := am_bd hf
      refine am_callV1 (As := [.int e6]) (st := [.int ((x12 - x8) * (p1 - x10)), .int x8]) hE (am_dec tmX9_placeOf 39 rfl) ok_X9_to rfl lm_X9_47 in_X9_to se_X9_to h_r0 cf9 (c_X9_to hE h_r0 g13) rfl (by decide) (Nat.le_of_ble_eq_true rfl) (Nat.zero_le _) (Nat.zero_le _) rfl ?_
      refine am_iload (am_dec tmX9_placeOf 40 rfl) rfl ?_
      refine am_isub (am_dec tmX9_placeOf 41 rfl) ?_
      obtain ⟨x16, g15, hf⟩ := am_bd hf
      refine am_callSN1 (As := [.int ((x12 - x8) * (p1 - x10)), .int (x14 - x10)]) (st := [.int x8]) hE (am_dec tmX9_placeOf 42 rfl) ok_X11_cut rfl lm_X9_50 st_X11_cut (c_X11_cut hE g15) rfl (by decide) (Nat.le_of_ble_eq_true rfl) (Nat.zero_le _) (Nat.zero_le _) rfl ?_
      refine am_iadd (am_dec tmX9_placeOf 43 rfl) ?_
      have hf := Option.some.inj hf
      subst hf
      exact am_iret (am_dec tmX9_placeOf 44 rfl) rfl (Nat.zero_le _) (Nat.zero_le _)
    · refine am_pick [0, 1, 2] rfl (l_X9_placeOf_L8 hE (Nat.le_refl _) h_r0 am_fu _ _ g18 (fun ex he => by cases he) (fun ex he => ?_))
      cases he
      refine am_iconst (v := (-1 : Int32)) (am_dec tmX9_placeOf 47 rfl) (by decide) ?_
      have hf := Option.some.inj hf
      subst hf
      exact am_iret (am_dec tmX9_placeOf 48 rfl) rfl (Nat.zero_le _) (Nat.zero_le _)
  · rw [if_neg c1] at hf
    refine am_iconst (v := (-1 : Int32)) (am_dec tmX9_placeOf 2 rfl) (by decide) ?_
    have hf := Option.some.inj hf
    subst hf
    exact am_iret (am_dec tmX9_placeOf 3 rfl) rfl (Nat.zero_le _) (Nat.zero_le _)
def f_X3_layPiece (r0 : Nat) (p1 : Int32) (p2 : Nat) (D : am_D) : Option (am_D) :=
    (f_X9_placeOf (r0 + 5) p1 D).bind fun x2 =>
    (f_X3_bestOffset r0 p1 x2 (am_mn (D.1 p2 1) ((D.1 (r0 + 3) 1) - p1)) p2 D).bind fun x4 =>
    (if (D.1 r0 6) < 0 then
    some (D)
    else
    if (600 : Int32) ≤ (D.1 r0 6) then
    some (D)
    else
    (am_pI D (r0 + 8) 600 (D.1 r0 6) x4).bind fun D8 =>
    (f_X7_unlike (r0 + 1) (x2 + x4) (r0 + 3) p1 (am_mn (D.1 p2 1) ((D.1 (r0 + 3) 1) - p1)) D8).bind fun x11 =>
    (am_pI D8 (r0 + 9) 600 (D8.1 r0 6) x11).bind fun D12 =>
    (some (am_wI D12 r0 6 ((D12.1 r0 6) + (1 : Int32)))).bind fun D14 =>
    some (D14)).bind fun w16 =>
    (f_X7_fadeIn (r0 + 3) p1 (r0 + 1) (x2 + x4) (w16.1 p2 1) w16).bind fun x18 =>
    (f_X7_lay (r0 + 3) (p1 + (x18.1 p2 1)) (r0 + 1) ((x2 + x4) + (x18.1 p2 1)) (x18.1 r0 5) x18).bind fun x20 =>
    some x20
set_option maxRecDepth 100000 in
set_option maxHeartbeats 4000000 in
theorem c_X3_layPiece {E : am_E} (hE : am_EH E) {r0 : Nat} {p1 : Int32} {p2 : Nat} {D : am_D} {r : am_D} (h_r0 : am_sh am_G0 r0 = some (3, 8)) (h_p2 : am_sh am_G0 p2 = some (5, 3)) (hf : f_X3_layPiece r0 p1 p2 D = some r) : am_C E mX3_layPiece 4 0 0 [.ref r0, .int p1, .ref p2] am_G0 D (.inl none) am_G0 r := by
  refine am_C_of (by decide +kernel) (Nat.le_of_ble_eq_true rfl) ?_
  change am_S E mX3_layPiece 4 0 0 (.inl none) am_G0 r 0 0 0 [(0, .ref r0), (1, .int p1), (2, .ref p2)] [] am_G0 D
  unfold f_X3_layPiece at hf
  refine am_aload_n (am_dec tmX3_layPiece_0 0 rfl) rfl rfl ?_
  refine am_getI (j := 1) hE (am_dec tmX3_layPiece_0 1 rfl) h_p2 cf5 (by decide) rfl lf_X3_68 ?_
  refine am_aload_n (am_dec tmX3_layPiece_0 2 rfl) rfl rfl ?_
  refine am_getR (j := 1) hE (am_dec tmX3_layPiece_0 3 rfl) h_r0 cf3 (by decide) rfl lf_X3_20 (ro_X3_0_1 h_r0) ?_
  refine am_getI (j := 1) hE (am_dec tmX3_layPiece_0 4 rfl) (so_X3_3 h_r0) cf7 (by decide) rfl lf_X3_80 ?_
  refine am_iload_n (am_dec tmX3_layPiece_0 5 rfl) rfl rfl ?_
  refine am_isub (am_dec tmX3_layPiece_0 6 rfl) ?_
  refine am_mmin2 (am_dec tmX3_layPiece_0 7 rfl) lm_X3_87 (Nat.le_of_ble_eq_true rfl) (Nat.zero_le _) (Nat.zero_le _) ?_
  refine am_istore_n (lv' := [(0, .ref r0), (1, .int p1), (2, .ref p2), (3, .int (am_mn (D.1 p2 1) ((D.1 (r0 + 3) 1) - p1)))]) (am_dec tmX3_layPiece_0 8 rfl) rfl (by decide) rfl ?_
  refine am_aload_n (am_dec tmX3_layPiece_0 9 rfl) rfl rfl ?_
  refine am_getR (j := 2) hE (am_dec tmX3_layPiece_0 10 rfl) h_r0 cf3 (by decide) rfl lf_X3_26 (ro_X3_0_2 h_r0) ?_
  refine am_iload_n (am_dec tmX3_layPiece_0 11 rfl) rfl rfl ?_
  obtain ⟨x2, g1, hf⟩ := am_bd hf
  refine am_callV1 (As := [.int p1]) (st := []) hE (am_dec tmX3_layPiece_0 12 rfl) ok_X9_placeOf rfl lm_X3_90 in_X9_placeOf se_X9_placeOf (so_X3_5 h_r0) cf9 (c_X9_placeOf hE (so_X3_5 h_r0) g1) rfl (by decide) (Nat.le_of_ble_eq_true rfl) (Nat.zero_le _) (Nat.zero_le _) rfl ?_
  refine am_istore (lv' := [(0, .ref r0), (1, .int p1), (2, .ref p2), (3, .int (am_mn (D.1 p2 1) ((D.1 (r0 + 3) 1) - p1))), (4, .int x2)]) (am_dec tmX3_layPiece_0 13 rfl) (by decide) rfl ?_
  refine am_aload_n (am_dec tmX3_layPiece_0 14 rfl) rfl rfl ?_
  refine am_iload_n (am_dec tmX3_layPiece_0 15 rfl) rfl rfl ?_
  refine am_iload (am_dec tmX3_layPiece_0 16 rfl) rfl ?_
  refine am_iload_n (am_dec tmX3_layPiece_0 17 rfl) rfl rfl ?_
  refine am_aload_n (am_dec tmX3_layPiece_0 18 rfl) rfl rfl ?_
  obtain ⟨x4, g3, hf⟩ := am_bd hf
  refine am_callV1 (As := [.int p1, .int x2, .int (am_mn (D.1 p2 1) ((D.1 (r0 + 3) 1) - p1)), .ref p2]) (st := []) hE (am_dec tmX3_layPiece_0 19 rfl) ok_X3_bestOffset rfl lm_X3_94 in_X3_bestOffset se_X3_bestOffset h_r0 cf3 (c_X3_bestOffset hE h_r0 h_p2 g3) rfl (by decide) (Nat.le_of_ble_eq_true rfl) (Nat.zero_le _) (Nat.zero_le _) rfl ?_
  refine am_istore (lv' := [(0, .ref r0), (1, .int p1), (2, .ref p2), (3, .int (am_mn (D.1 p2 1) ((D.1 (r0 + 3) 1) - p1))), (4, .int x2), (5, .int x4)]) (am_dec tmX3_layPiece_0 20 rfl) (by decide) rfl ?_
  refine am_iload (am_dec tmX3_layPiece_0 21 rfl) rfl ?_
  refine am_iload (am_dec tmX3_layPiece_0 22 rfl) rfl ?_
  refine am_iadd (am_dec tmX3_layPiece_0 23 rfl) ?_
  refine am_istore (lv' := [(0, .ref r0), (1, .int p1), (2, .ref p2), (3, .int (am_mn (D.1 p2 1) ((D.1 (r0 + 3) 1) - p1))), (4, .int x2), (5, .int x4), (6, .int (x2 + x4))]) (am_dec tmX3_layPiece_0 24 rfl) (by decide) rfl ?_
  refine am_aload_n (am_dec tmX3_layPiece_0 25 rfl) rfl rfl ?_
  refine am_getI (j := 6) hE (am_dec tmX3_layPiece_0 26 rfl) h_r0 cf3 (by decide) rfl lf_X3_40 ?_
  obtain ⟨w16, g21, hf⟩ := am_bd hf
  have key6 : am_S E mX3_layPiece 4 0 0 (.inl none) am_G0 r 0 0 107 [(0, .ref r0), (1, .int p1), (2, .ref p2), (6, .int (x2 + x4))] [] am_G0 w16 := by
    refine am_aload_n (am_dec tmX3_layPiece_0 57 rfl) rfl rfl ?_
    refine am_getR (j := 1) hE (am_dec tmX3_layPiece_0 58 rfl) h_r0 cf3 (by decide) rfl lf_X3_20 (ro_X3_0_1 h_r0) ?_
    refine am_iload_n (am_dec tmX3_layPiece_0 59 rfl) rfl rfl ?_
    refine am_aload_n (am_dec tmX3_layPiece_1 0 rfl) rfl rfl ?_
    refine am_getR (j := 0) hE (am_dec tmX3_layPiece_1 1 rfl) h_r0 cf3 (by decide) rfl lf_X3_14 (ro_X3_0_0 h_r0) ?_
    refine am_iload (am_dec tmX3_layPiece_1 2 rfl) rfl ?_
    refine am_aload_n (am_dec tmX3_layPiece_1 3 rfl) rfl rfl ?_
    refine am_getI (j := 1) hE (am_dec tmX3_layPiece_1 4 rfl) h_p2 cf5 (by decide) rfl lf_X3_68 ?_
    obtain ⟨x18, g17, hf⟩ := am_bd hf
    refine am_callV0 (As := [.int p1, .ref (r0 + 1), .int (x2 + x4), .int (w16.1 p2 1)]) (st := []) hE (am_dec tmX3_layPiece_1 5 rfl) ok_X7_fadeIn rfl lm_X3_102 in_X7_fadeIn se_X7_fadeIn (so_X3_3 h_r0) cf7 (c_X7_fadeIn hE (so_X3_3 h_r0) (so_X3_1 h_r0) g17) rfl (by decide) (Nat.le_of_ble_eq_true rfl) (Nat.zero_le _) (Nat.zero_le _) rfl ?_
    refine am_aload_n (am_dec tmX3_layPiece_1 6 rfl) rfl rfl ?_
    refine am_getR (j := 1) hE (am_dec tmX3_layPiece_1 7 rfl) h_r0 cf3 (by decide) rfl lf_X3_20 (ro_X3_0_1 h_r0) ?_
    refine am_iload_n (am_dec tmX3_layPiece_1 8 rfl) rfl rfl ?_
    refine am_aload_n (am_dec tmX3_layPiece_1 9 rfl) rfl rfl ?_
    refine am_getI (j := 1) hE (am_dec tmX3_layPiece_1 10 rfl) h_p2 cf5 (by decide) rfl lf_X3_68 ?_
    refine am_iadd (am_dec tmX3_layPiece_1 11 rfl) ?_
    refine am_aload_n (am_dec tmX3_layPiece_1 12 rfl) rfl rfl ?_
    refine am_getR (j := 0) hE (am_dec tmX3_layPiece_1 13 rfl) h_r0 cf3 (by decide) rfl lf_X3_14 (ro_X3_0_0 h_r0) ?_
    refine am_iload (am_dec tmX3_layPiece_1 14 rfl) rfl ?_
    refine am_aload_n (am_dec tmX3_layPiece_1 15 rfl) rfl rfl ?_
    refine am_getI (j := 1) hE (am_dec tmX3_layPiece_1 16 rfl) h_p2 cf5 (by decide) rfl lf_X3_68 ?_
    refine am_iadd (am_dec tmX3_layPiece_1 17 rfl) ?_
    refine am_aload_n (am_dec tmX3_layPiece_1 18 rfl) rfl rfl ?_
    refine am_getI (j := 5) hE (am_dec tmX3_layPiece_1 19 rfl) h_r0 cf3 (by decide) rfl lf_X3_77 ?_
    obtain ⟨x20, g19, hf⟩ := am_bd hf
    refine am_callV0 (As := [.int (p1 + (x18.1 p2 1)), .ref (r0 + 1), .int ((x2 + x4) + (x18.1 p2 1)), .int (x18.1 r0 5)]) (st := []) hE (am_dec tmX3_layPiece_1 20 rfl) ok_X7_lay rfl lm_X3_64 in_X7_lay se_X7_lay (so_X3_3 h_r0) cf7 (c_X7_lay hE (so_X3_3 h_r0) (so_X3_1 h_r0) g19) rfl (by decide) (Nat.le_of_ble_eq_true rfl) (Nat.zero_le _) (Nat.zero_le _) rfl ?_
    have hf := Option.some.inj hf
    subst hf
    exact am_vret (am_dec tmX3_layPiece_1 21 rfl) rfl (Nat.zero_le _) (Nat.zero_le _)
  replace hf := g21
  refine am_if_lt (tgt := 107) (am_dec tmX3_layPiece_0 27 rfl) (by decide) (fun c5 => ?_) (fun c5 => ?_)
  · rw [if_pos c5] at hf
    have hf := Option.some.inj hf
    subst hf
    exact am_pick [0, 1, 2, 6] rfl key6
  · rw [if_neg c5] at hf
    refine am_aload_n (am_dec tmX3_layPiece_0 28 rfl) rfl rfl ?_
    refine am_getI (j := 6) hE (am_dec tmX3_layPiece_0 29 rfl) h_r0 cf3 (by decide) rfl lf_X3_40 ?_
    refine am_sipush (v := (600 : Int32)) (am_dec tmX3_layPiece_0 30 rfl) (by decide) ?_
    refine am_icmp_ge (tgt := 107) (am_dec tmX3_layPiece_0 31 rfl) (by decide) (fun c7 => ?_) (fun c7 => ?_)
    · rw [if_pos c7] at hf
      have hf := Option.some.inj hf
      subst hf
      exact am_pick [0, 1, 2, 6] rfl key6
    · rw [if_neg c7] at hf
      refine am_aload_n (am_dec tmX3_layPiece_0 32 rfl) rfl rfl ?_
      refine am_getR (j := 3) hE (am_dec tmX3_layPiece_0 33 rfl) h_r0 cf3 (by decide) rfl lf_X3_30 (ro_X3_0_3 h_r0) ?_
      refine am_aload_n (am_dec tmX3_layPiece_0 34 rfl) rfl rfl ?_
      refine am_getI (j := 6) hE (am_dec tmX3_layPiece_0 35 rfl) h_r0 cf3 (by decide) rfl lf_X3_40 ?_
      refine am_iload (am_dec tmX3_layPiece_0 36 rfl) rfl ?_
      obtain ⟨D8, g9, hf⟩ := am_bd hf
      refine am_iast2 hE (am_dec tmX3_layPiece_0 37 rfl) (so_X3_8 h_r0) g9 ?_
      refine am_aload_n (am_dec tmX3_layPiece_0 38 rfl) rfl rfl ?_
      refine am_getR (j := 4) hE (am_dec tmX3_layPiece_0 39 rfl) h_r0 cf3 (by decide) rfl lf_X3_34 (ro_X3_0_4 h_r0) ?_
      refine am_aload_n (am_dec tmX3_layPiece_0 40 rfl) rfl rfl ?_
      refine am_getI (j := 6) hE (am_dec tmX3_layPiece_0 41 rfl) h_r0 cf3 (by decide) rfl lf_X3_40 ?_
      refine am_aload_n (am_dec tmX3_layPiece_0 42 rfl) rfl rfl ?_
      refine am_getR (j := 0) hE (am_dec tmX3_layPiece_0 43 rfl) h_r0 cf3 (by decide) rfl lf_X3_14 (ro_X3_0_0 h_r0) ?_
      refine am_iload (am_dec tmX3_layPiece_0 44 rfl) rfl ?_
      refine am_aload_n (am_dec tmX3_layPiece_0 45 rfl) rfl rfl ?_
      refine am_getR (j := 1) hE (am_dec tmX3_layPiece_0 46 rfl) h_r0 cf3 (by decide) rfl lf_X3_20 (ro_X3_0_1 h_r0) ?_
      refine am_iload_n (am_dec tmX3_layPiece_0 47 rfl) rfl rfl ?_
      refine am_iload_n (am_dec tmX3_layPiece_0 48 rfl) rfl rfl ?_
      obtain ⟨x11, g10, hf⟩ := am_bd hf
      refine am_callV1 (As := [.int (x2 + x4), .ref (r0 + 3), .int p1, .int (am_mn (D.1 p2 1) ((D.1 (r0 + 3) 1) - p1))]) (st := [.int (D8.1 r0 6), .ref (r0 + 9)]) hE (am_dec tmX3_layPiece_0 49 rfl) ok_X7_unlike rfl lm_X3_98 in_X7_unlike se_X7_unlike (so_X3_1 h_r0) cf7 (c_X7_unlike hE (so_X3_1 h_r0) (so_X3_3 h_r0) g10) rfl (by decide) (Nat.le_of_ble_eq_true rfl) (Nat.zero_le _) (Nat.zero_le _) rfl ?_
      obtain ⟨D12, g13, hf⟩ := am_bd hf
      refine am_iast2 hE (am_dec tmX3_layPiece_0 50 rfl) (so_X3_9 h_r0) g13 ?_
      refine am_aload_n (am_dec tmX3_layPiece_0 51 rfl) rfl rfl ?_
      refine am_dup (am_dec tmX3_layPiece_0 52 rfl) rfl ?_
      refine am_getI (j := 6) hE (am_dec tmX3_layPiece_0 53 rfl) h_r0 cf3 (by decide) rfl lf_X3_40 ?_
      refine am_iconst (v := (1 : Int32)) (am_dec tmX3_layPiece_0 54 rfl) (by decide) ?_
      refine am_iadd (am_dec tmX3_layPiece_0 55 rfl) ?_
      obtain ⟨D14, g15, hf⟩ := am_bd hf
      refine am_putI2 (j := 6) hE (am_dec tmX3_layPiece_0 56 rfl) h_r0 cf3 (by decide) rfl lf_X3_40 rfl rfl rfl g15 ?_
      have hf := Option.some.inj hf
      subst hf
      exact am_pick [0, 1, 2, 6] rfl key6
def f_X7_copyFrom (r0 : Nat) (p1 : Nat) (D : am_D) : Option (am_D) :=
    (f_X11_bounded (D.1 p1 1) (0 : Int32) (am_mn (Int32.ofNat (am_ln (r0 + 1))) (Int32.ofNat (am_ln (p1 + 1))))).bind fun x2 =>
    (some (am_wI D r0 1 x2)).bind fun D3 =>
    (am_cp D3 (p1 + 1) (am_ln (p1 + 1)) (0 : Int32) (r0 + 1) (am_ln (r0 + 1)) (0 : Int32) (D3.1 r0 1)).bind fun D5 =>
    some D5
set_option maxRecDepth 100000 in
set_option maxHeartbeats 4000000 in
theorem c_X7_copyFrom {E : am_E} (hE : am_EH E) {r0 : Nat} {p1 : Nat} {D : am_D} {r : am_D} (h_r0 : am_sh am_G0 r0 = some (7, 2)) (h_p1 : am_sh am_G0 p1 = some (7, 2)) (hf : f_X7_copyFrom r0 p1 D = some r) : am_C E mX7_copyFrom 2 0 0 [.ref r0, .ref p1] am_G0 D (.inl none) am_G0 r := by
  refine am_C_of (by decide +kernel) (Nat.le_of_ble_eq_true rfl) ?_
  change am_S E mX7_copyFrom 2 0 0 (.inl none) am_G0 r 0 0 0 [(0, .ref r0), (1, .ref p1)] [] am_G0 D
  unfold f_X7_copyFrom at hf
  refine am_aload_n (am_dec tmX7_copyFrom 0 rfl) rfl rfl ?_
  refine am_aload_n (am_dec tmX7_copyFrom 1 rfl) rfl rfl ?_
  refine am_getI (j := 1) hE (am_dec tmX7_copyFrom 2 rfl) h_p1 cf7 (by decide) rfl lf_X7_25 ?_
  refine am_iconst (v := (0 : Int32)) (am_dec tmX7_copyFrom 3 rfl) (by decide) ?_
  refine am_aload_n (am_dec tmX7_copyFrom 4 rfl) rfl rfl ?_
  refine am_getR (j := 0) hE (am_dec tmX7_copyFrom 5 rfl) h_r0 cf7 (by decide) rfl lf_X7_15 (ro_X7_0_0 h_r0) ?_
  refine am_alen (t := 0) (v := (Int32.ofNat (am_ln (r0 + 1)))) hE (am_dec tmX7_copyFrom 6 rfl) (so_X7_1 h_r0) (by decide) rfl ?_
  refine am_aload_n (am_dec tmX7_copyFrom 7 rfl) rfl rfl ?_
  refine am_getR (j := 0) hE (am_dec tmX7_copyFrom 8 rfl) h_p1 cf7 (by decide) rfl lf_X7_15 (ro_X7_0_0 h_p1) ?_
  refine am_alen (t := 0) (v := (Int32.ofNat (am_ln (p1 + 1)))) hE (am_dec tmX7_copyFrom 9 rfl) (so_X7_1 h_p1) (by decide) rfl ?_
  refine am_mmin2 (am_dec tmX7_copyFrom 10 rfl) lm_X7_42 (Nat.le_of_ble_eq_true rfl) (Nat.zero_le _) (Nat.zero_le _) ?_
  obtain ⟨x2, g1, hf⟩ := am_bd hf
  refine am_callSN1 (As := [.int (D.1 p1 1), .int (0 : Int32), .int (am_mn (Int32.ofNat (am_ln (r0 + 1))) (Int32.ofNat (am_ln (p1 + 1))))]) (st := [.ref r0]) hE (am_dec tmX7_copyFrom 11 rfl) ok_X11_bounded rfl lm_X7_21 st_X11_bounded (c_X11_bounded hE g1) rfl (by decide) (Nat.le_of_ble_eq_true rfl) (Nat.zero_le _) (Nat.zero_le _) rfl ?_
  obtain ⟨D3, g4, hf⟩ := am_bd hf
  refine am_putI2 (j := 1) hE (am_dec tmX7_copyFrom 12 rfl) h_r0 cf7 (by decide) rfl lf_X7_25 rfl rfl rfl g4 ?_
  refine am_aload_n (am_dec tmX7_copyFrom 13 rfl) rfl rfl ?_
  refine am_getR (j := 0) hE (am_dec tmX7_copyFrom 14 rfl) h_p1 cf7 (by decide) rfl lf_X7_15 (ro_X7_0_0 h_p1) ?_
  refine am_iconst (v := (0 : Int32)) (am_dec tmX7_copyFrom 15 rfl) (by decide) ?_
  refine am_aload_n (am_dec tmX7_copyFrom 16 rfl) rfl rfl ?_
  refine am_getR (j := 0) hE (am_dec tmX7_copyFrom 17 rfl) h_r0 cf7 (by decide) rfl lf_X7_15 (ro_X7_0_0 h_r0) ?_
  refine am_iconst (v := (0 : Int32)) (am_dec tmX7_copyFrom 18 rfl) (by decide) ?_
  refine am_aload_n (am_dec tmX7_copyFrom 19 rfl) rfl rfl ?_
  refine am_getI (j := 1) hE (am_dec tmX7_copyFrom 20 rfl) h_r0 cf7 (by decide) rfl lf_X7_25 ?_
  obtain ⟨D5, g6, hf⟩ := am_bd hf
  refine am_copy hE (am_dec tmX7_copyFrom 21 rfl) lm_X7_45 (so_X7_1 h_p1) (so_X7_1 h_r0) g6 (Nat.le_of_ble_eq_true rfl) ?_
  have hf := Option.some.inj hf
  subst hf
  exact am_vret (am_dec tmX7_copyFrom 22 rfl) rfl (Nat.zero_le _) (Nat.zero_le _)
def f_X9_copyFrom (r0 : Nat) (p1 : Nat) (D : am_D) : Option (am_D) :=
    (f_X11_bounded (D.1 p1 2) (0 : Int32) (12 : Int32)).bind fun x2 =>
    (some (am_wI D r0 2 x2)).bind fun D3 =>
    (am_cp D3 (p1 + 1) 12 (0 : Int32) (r0 + 1) 12 (0 : Int32) (D3.1 r0 2)).bind fun D5 =>
    (am_cp D5 (p1 + 2) 12 (0 : Int32) (r0 + 2) 12 (0 : Int32) (D5.1 r0 2)).bind fun D7 =>
    some D7
set_option maxRecDepth 100000 in
set_option maxHeartbeats 4000000 in
theorem c_X9_copyFrom {E : am_E} (hE : am_EH E) {r0 : Nat} {p1 : Nat} {D : am_D} {r : am_D} (h_r0 : am_sh am_G0 r0 = some (9, 3)) (h_p1 : am_sh am_G0 p1 = some (9, 3)) (hf : f_X9_copyFrom r0 p1 D = some r) : am_C E mX9_copyFrom 2 0 0 [.ref r0, .ref p1] am_G0 D (.inl none) am_G0 r := by
  refine am_C_of (by decide +kernel) (Nat.le_of_ble_eq_true rfl) ?_
  change am_S E mX9_copyFrom 2 0 0 (.inl none) am_G0 r 0 0 0 [(0, .ref r0), (1, .ref p1)] [] am_G0 D
  unfold f_X9_copyFrom at hf
  refine am_aload_n (am_dec tmX9_copyFrom 0 rfl) rfl rfl ?_
  refine am_aload_n (am_dec tmX9_copyFrom 1 rfl) rfl rfl ?_
  refine am_getI (j := 2) hE (am_dec tmX9_copyFrom 2 rfl) h_p1 cf9 (by decide) rfl lf_X9_18 ?_
  refine am_iconst (v := (0 : Int32)) (am_dec tmX9_copyFrom 3 rfl) (by decide) ?_
  refine am_bipush (v := (12 : Int32)) (am_dec tmX9_copyFrom 4 rfl) (by decide) ?_
  obtain ⟨x2, g1, hf⟩ := am_bd hf
  refine am_callSN1 (As := [.int (D.1 p1 2), .int (0 : Int32), .int (12 : Int32)]) (st := [.ref r0]) hE (am_dec tmX9_copyFrom 5 rfl) ok_X11_bounded rfl lm_X9_33 st_X11_bounded (c_X11_bounded hE g1) rfl (by decide) (Nat.le_of_ble_eq_true rfl) (Nat.zero_le _) (Nat.zero_le _) rfl ?_
  obtain ⟨D3, g4, hf⟩ := am_bd hf
  refine am_putI2 (j := 2) hE (am_dec tmX9_copyFrom 6 rfl) h_r0 cf9 (by decide) rfl lf_X9_18 rfl rfl rfl g4 ?_
  refine am_aload_n (am_dec tmX9_copyFrom 7 rfl) rfl rfl ?_
  refine am_getR (j := 0) hE (am_dec tmX9_copyFrom 8 rfl) h_p1 cf9 (by decide) rfl lf_X9_9 (ro_X9_0_0 h_p1) ?_
  refine am_iconst (v := (0 : Int32)) (am_dec tmX9_copyFrom 9 rfl) (by decide) ?_
  refine am_aload_n (am_dec tmX9_copyFrom 10 rfl) rfl rfl ?_
  refine am_getR (j := 0) hE (am_dec tmX9_copyFrom 11 rfl) h_r0 cf9 (by decide) rfl lf_X9_9 (ro_X9_0_0 h_r0) ?_
  refine am_iconst (v := (0 : Int32)) (am_dec tmX9_copyFrom 12 rfl) (by decide) ?_
  refine am_aload_n (am_dec tmX9_copyFrom 13 rfl) rfl rfl ?_
  refine am_getI (j := 2) hE (am_dec tmX9_copyFrom 14 rfl) h_r0 cf9 (by decide) rfl lf_X9_18 ?_
  obtain ⟨D5, g6, hf⟩ := am_bd hf
  refine am_copy hE (am_dec tmX9_copyFrom 15 rfl) lm_X9_37 (so_X9_1 h_p1) (so_X9_1 h_r0) g6 (Nat.le_of_ble_eq_true rfl) ?_
  refine am_aload_n (am_dec tmX9_copyFrom 16 rfl) rfl rfl ?_
  refine am_getR (j := 1) hE (am_dec tmX9_copyFrom 17 rfl) h_p1 cf9 (by decide) rfl lf_X9_15 (ro_X9_0_1 h_p1) ?_
  refine am_iconst (v := (0 : Int32)) (am_dec tmX9_copyFrom 18 rfl) (by decide) ?_
  refine am_aload_n (am_dec tmX9_copyFrom 19 rfl) rfl rfl ?_
  refine am_getR (j := 1) hE (am_dec tmX9_copyFrom 20 rfl) h_r0 cf9 (by decide) rfl lf_X9_15 (ro_X9_0_1 h_r0) ?_
  refine am_iconst (v := (0 : Int32)) (am_dec tmX9_copyFrom 21 rfl) (by decide) ?_
  refine am_aload_n (am_dec tmX9_copyFrom 22 rfl) rfl rfl ?_
  refine am_getI (j := 2) hE (am_dec tmX9_copyFrom 23 rfl) h_r0 cf9 (by decide) rfl lf_X9_18 ?_
  obtain ⟨D7, g8, hf⟩ := am_bd hf
  refine am_copy hE (am_dec tmX9_copyFrom 24 rfl) lm_X9_37 (so_X9_2 h_p1) (so_X9_2 h_r0) g8 (Nat.le_of_ble_eq_true rfl) ?_
  have hf := Option.some.inj hf
  subst hf
  exact am_vret (am_dec tmX9_copyFrom 25 rfl) rfl (Nat.zero_le _) (Nat.zero_le _)
def f_X3_drawOut_L80 (q0 : Nat) (q3 : Nat) : Nat → Int32 → am_D → Option (am_D)
  | 0, _, _ => none
  | n + 1, v4, D =>
    if (D.1 (q0 + 3) 1) ≤ v4 then
    some (D)
    else
    if (600 : Int32) ≤ (D.1 q0 6) then
    some (D)
    else
    (f_X3_layPiece q0 v4 q3 D).bind fun x20 =>
    f_X3_drawOut_L80 q0 q3 n (v4 + (x20.1 q0 5)) x20
def f_X3_drawOut (r0 : Nat) (p1 : Nat) (p2 : Nat) (p3 : Nat) (D : am_D) : Option (am_D) :=
    (f_X7_copyFrom (r0 + 1) p1 D).bind fun x2 =>
    (f_X9_copyFrom (r0 + 5) p2 x2).bind fun x4 =>
    (f_X9_lastTo (r0 + 5) x4).bind fun x6 =>
    (f_X7_start (r0 + 3) x6 x4).bind fun x8 =>
    (f_X7_lay (r0 + 3) (0 : Int32) (r0 + 1) (0 : Int32) (x8.1 p3 0) x8).bind fun x10 =>
    (some (am_wI x10 r0 7 (1 : Int32))).bind fun D11 =>
    (some (am_wI D11 r0 6 (0 : Int32))).bind fun D13 =>
    (some (am_wI D13 r0 5 (am_mx (1 : Int32) ((D13.1 p3 0) - (D13.1 p3 1))))).bind fun D15 =>
    (f_X3_drawOut_L80 r0 p3 am_fu (D15.1 r0 5) D15).bind fun e21 =>
    some e21
set_option maxRecDepth 100000 in
set_option maxHeartbeats 4000000 in
theorem l_X3_drawOut_L80 {E : am_E} (hE : am_EH E) {d mc ms : Nat} {o : am_O} {G2 : am_G} {D2 : am_D} (hdp : 5 ≤ d) {q0 : Nat} {q3 : Nat} (h_q0 : am_sh am_G0 q0 = some (3, 8)) (h_q3 : am_sh am_G0 q3 = some (5, 3)) : ∀ (n : Nat) (v4 : Int32) (D : am_D) (ex0 : am_D), f_X3_drawOut_L80 q0 q3 n v4 D = some ex0 → (∀ ex : am_D, ex0 = ex → am_S E mX3_drawOut d mc ms o G2 D2 0 0 121 [] [] am_G0 ex) → am_S E mX3_drawOut d mc ms o G2 D2 0 0 80 [(0, .ref q0), (3, .ref q3), (4, .int v4)] [] am_G0 D
  | 0, _, _, _, hf, _ => by
    unfold f_X3_drawOut_L80 at hf
    cases hf
  | n + 1, v4, D, ex0, hf, hk0 => by
    unfold f_X3_drawOut_L80 at hf
    refine am_iload (am_dec tmX3_drawOut_0 41 rfl) rfl ?_
    refine am_aload_n (am_dec tmX3_drawOut_0 42 rfl) rfl rfl ?_
    refine am_getR (j := 1) hE (am_dec tmX3_drawOut_0 43 rfl) h_q0 cf3 (by decide) rfl lf_X3_20 (ro_X3_0_1 h_q0) ?_
    refine am_getI (j := 1) hE (am_dec tmX3_drawOut_0 44 rfl) (so_X3_3 h_q0) cf7 (by decide) rfl lf_X3_80 ?_
    refine am_icmp_ge (tgt := 121) (am_dec tmX3_drawOut_0 45 rfl) (by decide) (fun c17 => ?_) (fun c17 => ?_)
    · rw [if_pos c17] at hf
      have hf := Option.some.inj hf
      subst hf
      exact am_pick [] rfl (hk0 _ rfl)
    · rw [if_neg c17] at hf
      refine am_aload_n (am_dec tmX3_drawOut_0 46 rfl) rfl rfl ?_
      refine am_getI (j := 6) hE (am_dec tmX3_drawOut_0 47 rfl) h_q0 cf3 (by decide) rfl lf_X3_40 ?_
      refine am_sipush (v := (600 : Int32)) (am_dec tmX3_drawOut_0 48 rfl) (by decide) ?_
      refine am_icmp_ge (tgt := 121) (am_dec tmX3_drawOut_0 49 rfl) (by decide) (fun c18 => ?_) (fun c18 => ?_)
      · rw [if_pos c18] at hf
        have hf := Option.some.inj hf
        subst hf
        exact am_pick [] rfl (hk0 _ rfl)
      · rw [if_neg c18] at hf
        refine am_aload_n (am_dec tmX3_drawOut_0 50 rfl) rfl rfl ?_
        refine am_iload (am_dec tmX3_drawOut_0 51 rfl) rfl ?_
        refine am_aload_n (am_dec tmX3_drawOut_0 52 rfl) rfl rfl ?_
        obtain ⟨x20, g19, hf⟩ := am_bd hf
        refine am_callV0 (As := [.int v4, .ref q3]) (st := []) hE (am_dec tmX3_drawOut_0 53 rfl) ok_X3_layPiece rfl lm_X3_83 in_X3_layPiece se_X3_layPiece h_q0 cf3 (c_X3_layPiece hE h_q0 h_q3 g19) rfl (Nat.lt_of_lt_of_le (by decide) hdp) (Nat.le_of_ble_eq_true rfl) (Nat.zero_le _) (Nat.zero_le _) rfl ?_
        refine am_iload (am_dec tmX3_drawOut_0 54 rfl) rfl ?_
        refine am_aload_n (am_dec tmX3_drawOut_0 55 rfl) rfl rfl ?_
        refine am_getI (j := 5) hE (am_dec tmX3_drawOut_0 56 rfl) h_q0 cf3 (by decide) rfl lf_X3_77 ?_
        refine am_iadd (am_dec tmX3_drawOut_0 57 rfl) ?_
        refine am_istore (lv' := [(0, .ref q0), (3, .ref q3), (4, .int (v4 + (x20.1 q0 5)))]) (am_dec tmX3_drawOut_0 58 rfl) (by decide) rfl ?_
        refine am_goto (tgt := 80) (am_dec tmX3_drawOut_0 59 rfl) (by decide) ?_
        exact am_pick [0, 1, 2] rfl (l_X3_drawOut_L80 hE hdp h_q0 h_q3 n (v4 + (x20.1 q0 5)) x20 ex0 hf hk0)
set_option maxRecDepth 100000 in
set_option maxHeartbeats 4000000 in
theorem c_X3_drawOut {E : am_E} (hE : am_EH E) {r0 : Nat} {p1 : Nat} {p2 : Nat} {p3 : Nat} {D : am_D} {r : am_D} (h_r0 : am_sh am_G0 r0 = some (3, 8)) (h_p1 : am_sh am_G0 p1 = some (7, 2)) (h_p2 : am_sh am_G0 p2 = some (9, 3)) (h_p3 : am_sh am_G0 p3 = some (5, 3)) (hf : f_X3_drawOut r0 p1 p2 p3 D = some r) : am_C E mX3_drawOut 5 0 0 [.ref r0, .ref p1, .ref p2, .ref p3] am_G0 D (.inl none) am_G0 r := by
  refine am_C_of (by decide +kernel) (Nat.le_of_ble_eq_true rfl) ?_
  change am_S E mX3_drawOut 5 0 0 (.inl none) am_G0 r 0 0 0 [(0, .ref r0), (1, .ref p1), (2, .ref p2), (3, .ref p3)] [] am_G0 D
  unfold f_X3_drawOut at hf
  refine am_aload_n (am_dec tmX3_drawOut_0 0 rfl) rfl rfl ?_
  refine am_getR (j := 0) hE (am_dec tmX3_drawOut_0 1 rfl) h_r0 cf3 (by decide) rfl lf_X3_14 (ro_X3_0_0 h_r0) ?_
  refine am_aload_n (am_dec tmX3_drawOut_0 2 rfl) rfl rfl ?_
  obtain ⟨x2, g1, hf⟩ := am_bd hf
  refine am_callV0 (As := [.ref p1]) (st := []) hE (am_dec tmX3_drawOut_0 3 rfl) ok_X7_copyFrom rfl lm_X3_48 in_X7_copyFrom se_X7_copyFrom (so_X3_1 h_r0) cf7 (c_X7_copyFrom hE (so_X3_1 h_r0) h_p1 g1) rfl (by decide) (Nat.le_of_ble_eq_true rfl) (Nat.zero_le _) (Nat.zero_le _) rfl ?_
  refine am_aload_n (am_dec tmX3_drawOut_0 4 rfl) rfl rfl ?_
  refine am_getR (j := 2) hE (am_dec tmX3_drawOut_0 5 rfl) h_r0 cf3 (by decide) rfl lf_X3_26 (ro_X3_0_2 h_r0) ?_
  refine am_aload_n (am_dec tmX3_drawOut_0 6 rfl) rfl rfl ?_
  obtain ⟨x4, g3, hf⟩ := am_bd hf
  refine am_callV0 (As := [.ref p2]) (st := []) hE (am_dec tmX3_drawOut_0 7 rfl) ok_X9_copyFrom rfl lm_X3_52 in_X9_copyFrom se_X9_copyFrom (so_X3_5 h_r0) cf9 (c_X9_copyFrom hE (so_X3_5 h_r0) h_p2 g3) rfl (by decide) (Nat.le_of_ble_eq_true rfl) (Nat.zero_le _) (Nat.zero_le _) rfl ?_
  refine am_aload_n (am_dec tmX3_drawOut_0 8 rfl) rfl rfl ?_
  refine am_getR (j := 1) hE (am_dec tmX3_drawOut_0 9 rfl) h_r0 cf3 (by decide) rfl lf_X3_20 (ro_X3_0_1 h_r0) ?_
  refine am_aload_n (am_dec tmX3_drawOut_0 10 rfl) rfl rfl ?_
  refine am_getR (j := 2) hE (am_dec tmX3_drawOut_0 11 rfl) h_r0 cf3 (by decide) rfl lf_X3_26 (ro_X3_0_2 h_r0) ?_
  obtain ⟨x6, g5, hf⟩ := am_bd hf
  refine am_callV1 (As := []) (st := [.ref (r0 + 3)]) hE (am_dec tmX3_drawOut_0 12 rfl) ok_X9_lastTo rfl lm_X3_55 in_X9_lastTo se_X9_lastTo (so_X3_5 h_r0) cf9 (c_X9_lastTo hE (so_X3_5 h_r0) g5) rfl (by decide) (Nat.le_of_ble_eq_true rfl) (Nat.zero_le _) (Nat.zero_le _) rfl ?_
  obtain ⟨x8, g7, hf⟩ := am_bd hf
  refine am_callV0 (As := [.int x6]) (st := []) hE (am_dec tmX3_drawOut_0 13 rfl) ok_X7_start rfl lm_X3_37 in_X7_start se_X7_start (so_X3_3 h_r0) cf7 (c_X7_start hE (so_X3_3 h_r0) g7) rfl (by decide) (Nat.le_of_ble_eq_true rfl) (Nat.zero_le _) (Nat.zero_le _) rfl ?_
  refine am_aload_n (am_dec tmX3_drawOut_0 14 rfl) rfl rfl ?_
  refine am_getR (j := 1) hE (am_dec tmX3_drawOut_0 15 rfl) h_r0 cf3 (by decide) rfl lf_X3_20 (ro_X3_0_1 h_r0) ?_
  refine am_iconst (v := (0 : Int32)) (am_dec tmX3_drawOut_0 16 rfl) (by decide) ?_
  refine am_aload_n (am_dec tmX3_drawOut_0 17 rfl) rfl rfl ?_
  refine am_getR (j := 0) hE (am_dec tmX3_drawOut_0 18 rfl) h_r0 cf3 (by decide) rfl lf_X3_14 (ro_X3_0_0 h_r0) ?_
  refine am_iconst (v := (0 : Int32)) (am_dec tmX3_drawOut_0 19 rfl) (by decide) ?_
  refine am_aload_n (am_dec tmX3_drawOut_0 20 rfl) rfl rfl ?_
  refine am_getI (j := 0) hE (am_dec tmX3_drawOut_0 21 rfl) h_p3 cf5 (by decide) rfl lf_X3_59 ?_
  obtain ⟨x10, g9, hf⟩ := am_bd hf
  refine am_callV0 (As := [.int (0 : Int32), .ref (r0 + 1), .int (0 : Int32), .int (x8.1 p3 0)]) (st := []) hE (am_dec tmX3_drawOut_0 22 rfl) ok_X7_lay rfl lm_X3_64 in_X7_lay se_X7_lay (so_X3_3 h_r0) cf7 (c_X7_lay hE (so_X3_3 h_r0) (so_X3_1 h_r0) g9) rfl (by decide) (Nat.le_of_ble_eq_true rfl) (Nat.zero_le _) (Nat.zero_le _) rfl ?_
  refine am_aload_n (am_dec tmX3_drawOut_0 23 rfl) rfl rfl ?_
  refine am_iconst (v := (1 : Int32)) (am_dec tmX3_drawOut_0 24 rfl) (by decide) ?_
  obtain ⟨D11, g12, hf⟩ := am_bd hf
  refine am_putI2 (j := 7) hE (am_dec tmX3_drawOut_0 25 rfl) h_r0 cf3 (by decide) rfl lf_X3_44 rfl rfl rfl g12 ?_
  refine am_aload_n (am_dec tmX3_drawOut_0 26 rfl) rfl rfl ?_
  refine am_iconst (v := (0 : Int32)) (am_dec tmX3_drawOut_0 27 rfl) (by decide) ?_
  obtain ⟨D13, g14, hf⟩ := am_bd hf
  refine am_putI2 (j := 6) hE (am_dec tmX3_drawOut_0 28 rfl) h_r0 cf3 (by decide) rfl lf_X3_40 rfl rfl rfl g14 ?_
  refine am_aload_n (am_dec tmX3_drawOut_0 29 rfl) rfl rfl ?_
  refine am_iconst (v := (1 : Int32)) (am_dec tmX3_drawOut_0 30 rfl) (by decide) ?_
  refine am_aload_n (am_dec tmX3_drawOut_0 31 rfl) rfl rfl ?_
  refine am_getI (j := 0) hE (am_dec tmX3_drawOut_0 32 rfl) h_p3 cf5 (by decide) rfl lf_X3_59 ?_
  refine am_aload_n (am_dec tmX3_drawOut_0 33 rfl) rfl rfl ?_
  refine am_getI (j := 1) hE (am_dec tmX3_drawOut_0 34 rfl) h_p3 cf5 (by decide) rfl lf_X3_68 ?_
  refine am_isub (am_dec tmX3_drawOut_0 35 rfl) ?_
  refine am_mmax2 (am_dec tmX3_drawOut_0 36 rfl) lm_X3_71 (Nat.le_of_ble_eq_true rfl) (Nat.zero_le _) (Nat.zero_le _) ?_
  obtain ⟨D15, g16, hf⟩ := am_bd hf
  refine am_putI2 (j := 5) hE (am_dec tmX3_drawOut_0 37 rfl) h_r0 cf3 (by decide) rfl lf_X3_77 rfl rfl rfl g16 ?_
  refine am_aload_n (am_dec tmX3_drawOut_0 38 rfl) rfl rfl ?_
  refine am_getI (j := 5) hE (am_dec tmX3_drawOut_0 39 rfl) h_r0 cf3 (by decide) rfl lf_X3_77 ?_
  refine am_istore (lv' := [(0, .ref r0), (1, .ref p1), (2, .ref p2), (3, .ref p3), (4, .int (D15.1 r0 5))]) (am_dec tmX3_drawOut_0 40 rfl) (by decide) rfl ?_
  obtain ⟨e21, g22, hf⟩ := am_bd hf
  refine am_pick [0, 3, 4] rfl (l_X3_drawOut_L80 hE (Nat.le_refl _) h_r0 h_p3 am_fu _ _ _ g22 (fun ex he => ?_))
  subst he
  have hf := Option.some.inj hf
  subst hf
  exact am_vret (am_dec tmX3_drawOut_1 0 rfl) rfl (Nat.zero_le _) (Nat.zero_le _)
def f_X9_whereOf_L10 (q0 : Nat) (q1 : Int32) (D : am_D) : Nat → Int32 → Int32 → Int32 → Option (Int32)
  | 0, _, _, _ => none
  | n + 1, v2, v3, v4 =>
    if v3 ≤ v2 then
    some (v2)
    else
    if (32 : Int32) ≤ v4 then
    some (v2)
    else
    (f_X9_placeOf q0 ((v2 + v3) / (2 : Int32)) D).bind fun x6 =>
    (if x6 < q1 then
    some ((((v2 + v3) / (2 : Int32)) + (1 : Int32)), v3)
    else
    some (v2, ((v2 + v3) / (2 : Int32)))).bind fun w9 =>
    f_X9_whereOf_L10 q0 q1 D n w9.1 w9.2 (v4 + (1 : Int32))
def f_X9_whereOf (r0 : Nat) (p1 : Int32) (D : am_D) : Option (Int32) :=
    (f_X9_lastTo r0 D).bind fun x2 =>
    (f_X9_whereOf_L10 r0 p1 D am_fu (0 : Int32) x2 (0 : Int32)).bind fun e11 =>
    (f_X9_lastTo r0 D).bind fun x13 =>
    if x13 ≤ e11 then
    some (-1 : Int32)
    else
    some e11
set_option maxRecDepth 100000 in
set_option maxHeartbeats 4000000 in
theorem l_X9_whereOf_L10 {E : am_E} (hE : am_EH E) {d mc ms : Nat} {o : am_O} {G2 : am_G} {D2 : am_D} (hdp : 3 ≤ d) {q0 : Nat} {q1 : Int32} {D : am_D} (h_q0 : am_sh am_G0 q0 = some (9, 3)) : ∀ (n : Nat) (v2 : Int32) (v3 : Int32) (v4 : Int32) (ex0 : Int32), f_X9_whereOf_L10 q0 q1 D n v2 v3 v4 = some ex0 → (∀ ex : Int32, ex0 = ex → am_S E mX9_whereOf d mc ms o G2 D2 0 0 56 [(0, .ref q0), (2, .int ex)] [] am_G0 D) → am_S E mX9_whereOf d mc ms o G2 D2 0 0 10 [(0, .ref q0), (1, .int q1), (2, .int v2), (3, .int v3), (4, .int v4)] [] am_G0 D
  | 0, _, _, _, _, hf, _ => by
    unfold f_X9_whereOf_L10 at hf
    cases hf
  | n + 1, v2, v3, v4, ex0, hf, hk0 => by
    unfold f_X9_whereOf_L10 at hf
    refine am_iload_n (am_dec tmX9_whereOf 7 rfl) rfl rfl ?_
    refine am_iload_n (am_dec tmX9_whereOf 8 rfl) rfl rfl ?_
    refine am_icmp_ge (tgt := 56) (am_dec tmX9_whereOf 9 rfl) (by decide) (fun c3 => ?_) (fun c3 => ?_)
    · rw [if_pos c3] at hf
      have hf := Option.some.inj hf
      subst hf
      exact am_pick [0, 2] rfl (hk0 _ rfl)
    · rw [if_neg c3] at hf
      refine am_iload (am_dec tmX9_whereOf 10 rfl) rfl ?_
      refine am_bipush (v := (32 : Int32)) (am_dec tmX9_whereOf 11 rfl) (by decide) ?_
      refine am_icmp_ge (tgt := 56) (am_dec tmX9_whereOf 12 rfl) (by decide) (fun c4 => ?_) (fun c4 => ?_)
      · rw [if_pos c4] at hf
        have hf := Option.some.inj hf
        subst hf
        exact am_pick [0, 2] rfl (hk0 _ rfl)
      · rw [if_neg c4] at hf
        refine am_iload_n (am_dec tmX9_whereOf 13 rfl) rfl rfl ?_
        refine am_iload_n (am_dec tmX9_whereOf 14 rfl) rfl rfl ?_
        refine am_iadd (am_dec tmX9_whereOf 15 rfl) ?_
        refine am_iconst (v := (2 : Int32)) (am_dec tmX9_whereOf 16 rfl) (by decide) ?_
        refine am_idiv (am_dec tmX9_whereOf 17 rfl) (by decide) ?_
        refine am_istore (lv' := [(0, .ref q0), (1, .int q1), (2, .int v2), (3, .int v3), (4, .int v4), (5, .int ((v2 + v3) / (2 : Int32)))]) (am_dec tmX9_whereOf 18 rfl) (by decide) rfl ?_
        refine am_aload_n (am_dec tmX9_whereOf 19 rfl) rfl rfl ?_
        refine am_iload (am_dec tmX9_whereOf 20 rfl) rfl ?_
        obtain ⟨x6, g5, hf⟩ := am_bd hf
        refine am_callV1 (As := [.int ((v2 + v3) / (2 : Int32))]) (st := []) hE (am_dec tmX9_whereOf 21 rfl) ok_X9_placeOf rfl lm_X9_54 in_X9_placeOf se_X9_placeOf h_q0 cf9 (c_X9_placeOf hE h_q0 g5) rfl (Nat.lt_of_lt_of_le (by decide) hdp) (Nat.le_of_ble_eq_true rfl) (Nat.zero_le _) (Nat.zero_le _) rfl ?_
        refine am_iload_n (am_dec tmX9_whereOf 22 rfl) rfl rfl ?_
        obtain ⟨w9, g10, hf⟩ := am_bd hf
        have key8 : am_S E mX9_whereOf d mc ms o G2 D2 0 0 50 [(0, .ref q0), (1, .int q1), (2, .int w9.1), (3, .int w9.2), (4, .int v4)] [] am_G0 D := by
          refine am_iinc (v := (1 : Int32)) (lv' := [(0, .ref q0), (1, .int q1), (2, .int w9.1), (3, .int w9.2), (4, .int (v4 + (1 : Int32)))]) (am_dec tmX9_whereOf 31 rfl) rfl (by decide) (by decide) rfl ?_
          refine am_goto (tgt := 10) (am_dec tmX9_whereOf 32 rfl) (by decide) ?_
          exact am_pick [0, 1, 2, 3, 4] rfl (l_X9_whereOf_L10 hE hdp h_q0 n w9.1 w9.2 (v4 + (1 : Int32)) ex0 hf hk0)
        replace hf := g10
        refine am_icmp_lt (tgt := 45) (am_dec tmX9_whereOf 23 rfl) (by decide) (fun c7 => ?_) (fun c7 => ?_)
        · rw [if_pos c7] at hf
          refine am_iload (am_dec tmX9_whereOf 27 rfl) rfl ?_
          refine am_iconst (v := (1 : Int32)) (am_dec tmX9_whereOf 28 rfl) (by decide) ?_
          refine am_iadd (am_dec tmX9_whereOf 29 rfl) ?_
          refine am_istore_n (lv' := [(0, .ref q0), (1, .int q1), (2, .int (((v2 + v3) / (2 : Int32)) + (1 : Int32))), (3, .int v3), (4, .int v4), (5, .int ((v2 + v3) / (2 : Int32)))]) (am_dec tmX9_whereOf 30 rfl) rfl (by decide) rfl ?_
          have hf := Option.some.inj hf
          subst hf
          exact am_pick [0, 1, 2, 3, 4] rfl key8
        · rw [if_neg c7] at hf
          refine am_iload (am_dec tmX9_whereOf 24 rfl) rfl ?_
          refine am_istore_n (lv' := [(0, .ref q0), (1, .int q1), (2, .int v2), (3, .int ((v2 + v3) / (2 : Int32))), (4, .int v4), (5, .int ((v2 + v3) / (2 : Int32)))]) (am_dec tmX9_whereOf 25 rfl) rfl (by decide) rfl ?_
          refine am_goto (tgt := 50) (am_dec tmX9_whereOf 26 rfl) (by decide) ?_
          have hf := Option.some.inj hf
          subst hf
          exact am_pick [0, 1, 2, 3, 4] rfl key8
set_option maxRecDepth 100000 in
set_option maxHeartbeats 4000000 in
theorem c_X9_whereOf {E : am_E} (hE : am_EH E) {r0 : Nat} {p1 : Int32} {D : am_D} {r : Int32} (h_r0 : am_sh am_G0 r0 = some (9, 3)) (hf : f_X9_whereOf r0 p1 D = some r) : am_C E mX9_whereOf 3 0 0 [.ref r0, .int p1] am_G0 D (.inl (some (.int r))) am_G0 D := by
  refine am_C_of (by decide +kernel) (Nat.le_of_ble_eq_true rfl) ?_
  change am_S E mX9_whereOf 3 0 0 (.inl (some (.int r))) am_G0 D 0 0 0 [(0, .ref r0), (1, .int p1)] [] am_G0 D
  unfold f_X9_whereOf at hf
  refine am_iconst (v := (0 : Int32)) (am_dec tmX9_whereOf 0 rfl) (by decide) ?_
  refine am_istore_n (lv' := [(0, .ref r0), (1, .int p1), (2, .int (0 : Int32))]) (am_dec tmX9_whereOf 1 rfl) rfl (by decide) rfl ?_
  refine am_aload_n (am_dec tmX9_whereOf 2 rfl) rfl rfl ?_
  obtain ⟨x2, g1, hf⟩ := am_bd hf
  refine am_callV1 (As := []) (st := []) hE (am_dec tmX9_whereOf 3 rfl) ok_X9_lastTo rfl lm_X9_22 in_X9_lastTo se_X9_lastTo h_r0 cf9 (c_X9_lastTo hE h_r0 g1) rfl (by decide) (Nat.le_of_ble_eq_true rfl) (Nat.zero_le _) (Nat.zero_le _) rfl ?_
  refine am_istore_n (lv' := [(0, .ref r0), (1, .int p1), (2, .int (0 : Int32)), (3, .int x2)]) (am_dec tmX9_whereOf 4 rfl) rfl (by decide) rfl ?_
  refine am_iconst (v := (0 : Int32)) (am_dec tmX9_whereOf 5 rfl) (by decide) ?_
  refine am_istore (lv' := [(0, .ref r0), (1, .int p1), (2, .int (0 : Int32)), (3, .int x2), (4, .int (0 : Int32))]) (am_dec tmX9_whereOf 6 rfl) (by decide) rfl ?_
  obtain ⟨e11, g15, hf⟩ := am_bd hf
  refine am_pick [0, 1, 2, 3, 4] rfl (l_X9_whereOf_L10 hE (Nat.le_refl _) h_r0 am_fu _ _ _ _ g15 (fun ex he => ?_))
  subst he
  refine am_iload_n (am_dec tmX9_whereOf 33 rfl) rfl rfl ?_
  refine am_aload_n (am_dec tmX9_whereOf 34 rfl) rfl rfl ?_
  obtain ⟨x13, g12, hf⟩ := am_bd hf
  refine am_callV1 (As := []) (st := [.int e11]) hE (am_dec tmX9_whereOf 35 rfl) ok_X9_lastTo rfl lm_X9_22 in_X9_lastTo se_X9_lastTo h_r0 cf9 (c_X9_lastTo hE h_r0 g12) rfl (by decide) (Nat.le_of_ble_eq_true rfl) (Nat.zero_le _) (Nat.zero_le _) rfl ?_
  refine am_icmp_ge (tgt := 68) (am_dec tmX9_whereOf 36 rfl) (by decide) (fun c14 => ?_) (fun c14 => ?_)
  · rw [if_pos c14] at hf
    refine am_iconst (v := (-1 : Int32)) (am_dec tmX9_whereOf 39 rfl) (by decide) ?_
    have hf := Option.some.inj hf
    subst hf
    exact am_iret (am_dec tmX9_whereOf 40 rfl) rfl (Nat.zero_le _) (Nat.zero_le _)
  · rw [if_neg c14] at hf
    refine am_iload_n (am_dec tmX9_whereOf 37 rfl) rfl rfl ?_
    refine am_goto (tgt := 69) (am_dec tmX9_whereOf 38 rfl) (by decide) ?_
    have hf := Option.some.inj hf
    subst hf
    exact am_iret (am_dec tmX9_whereOf 40 rfl) rfl (Nat.zero_le _) (Nat.zero_le _)
def f_X3_moveBlows_L5 (q0 : Nat) (q1 : Nat) (q2 : Int32) : Nat → Int32 → Int32 → am_D → Option (Int32 × am_D)
  | 0, _, _, _ => none
  | n + 1, v3, v4, D =>
    if (D.1 q1 2) ≤ v4 then
    some (v3, D)
    else
    (f_X0_at q1 v4 D).bind fun x3 =>
    (f_X9_whereOf (q0 + 5) x3 D).bind fun x5 =>
    (if x5 = (-1 : Int32) then
    some (v3, D)
    else
    (f_X7_lay (q0 + 3) x5 (q0 + 1) x3 (am_mn q2 ((D.1 (q0 + 1) 1) - x3)) D).bind fun x9 =>
    some ((v3 + (1 : Int32)), x9)).bind fun w10 =>
    f_X3_moveBlows_L5 q0 q1 q2 n w10.1 (v4 + (1 : Int32)) w10.2
def f_X3_moveBlows (r0 : Nat) (p1 : Nat) (p2 : Int32) (D : am_D) : Option ((Int32 × am_D)) :=
    (f_X3_moveBlows_L5 r0 p1 p2 am_fu (0 : Int32) (0 : Int32) D).bind fun e12 =>
    some (e12.1, e12.2)
set_option maxRecDepth 100000 in
set_option maxHeartbeats 4000000 in
theorem l_X3_moveBlows_L5 {E : am_E} (hE : am_EH E) {d mc ms : Nat} {o : am_O} {G2 : am_G} {D2 : am_D} (hdp : 4 ≤ d) {q0 : Nat} {q1 : Nat} {q2 : Int32} (h_q0 : am_sh am_G0 q0 = some (3, 8)) (h_q1 : am_sh am_G0 q1 = some (0, 6)) : ∀ (n : Nat) (v3 : Int32) (v4 : Int32) (D : am_D) (ex0 : Int32 × am_D), f_X3_moveBlows_L5 q0 q1 q2 n v3 v4 D = some ex0 → (∀ ex : Int32 × am_D, ex0 = ex → am_S E mX3_moveBlows d mc ms o G2 D2 0 0 77 [(3, .int ex.1)] [] am_G0 ex.2) → am_S E mX3_moveBlows d mc ms o G2 D2 0 0 5 [(0, .ref q0), (1, .ref q1), (2, .int q2), (3, .int v3), (4, .int v4)] [] am_G0 D
  | 0, _, _, _, _, hf, _ => by
    unfold f_X3_moveBlows_L5 at hf
    cases hf
  | n + 1, v3, v4, D, ex0, hf, hk0 => by
    unfold f_X3_moveBlows_L5 at hf
    refine am_iload (am_dec tmX3_moveBlows 4 rfl) rfl ?_
    refine am_aload_n (am_dec tmX3_moveBlows 5 rfl) rfl rfl ?_
    refine am_getI (j := 2) hE (am_dec tmX3_moveBlows 6 rfl) h_q1 cf0 (by decide) rfl lf_X3_116 ?_
    refine am_icmp_ge (tgt := 77) (am_dec tmX3_moveBlows 7 rfl) (by decide) (fun c1 => ?_) (fun c1 => ?_)
    · rw [if_pos c1] at hf
      have hf := Option.some.inj hf
      subst hf
      exact am_pick [3] rfl (hk0 _ rfl)
    · rw [if_neg c1] at hf
      refine am_aload_n (am_dec tmX3_moveBlows 8 rfl) rfl rfl ?_
      refine am_iload (am_dec tmX3_moveBlows 9 rfl) rfl ?_
      obtain ⟨x3, g2, hf⟩ := am_bd hf
      refine am_callV1 (As := [.int v4]) (st := []) hE (am_dec tmX3_moveBlows 10 rfl) ok_X0_at rfl lm_X3_119 in_X0_at se_X0_at h_q1 cf0 (c_X0_at hE h_q1 g2) rfl (Nat.lt_of_lt_of_le (by decide) hdp) (Nat.le_of_ble_eq_true rfl) (Nat.zero_le _) (Nat.zero_le _) rfl ?_
      refine am_istore (lv' := [(0, .ref q0), (1, .ref q1), (2, .int q2), (3, .int v3), (4, .int v4), (5, .int x3)]) (am_dec tmX3_moveBlows 11 rfl) (by decide) rfl ?_
      refine am_aload_n (am_dec tmX3_moveBlows 12 rfl) rfl rfl ?_
      refine am_getR (j := 2) hE (am_dec tmX3_moveBlows 13 rfl) h_q0 cf3 (by decide) rfl lf_X3_26 (ro_X3_0_2 h_q0) ?_
      refine am_iload (am_dec tmX3_moveBlows 14 rfl) rfl ?_
      obtain ⟨x5, g4, hf⟩ := am_bd hf
      refine am_callV1 (As := [.int x3]) (st := []) hE (am_dec tmX3_moveBlows 15 rfl) ok_X9_whereOf rfl lm_X3_122 in_X9_whereOf se_X9_whereOf (so_X3_5 h_q0) cf9 (c_X9_whereOf hE (so_X3_5 h_q0) g4) rfl (Nat.lt_of_lt_of_le (by decide) hdp) (Nat.le_of_ble_eq_true rfl) (Nat.zero_le _) (Nat.zero_le _) rfl ?_
      refine am_istore (lv' := [(0, .ref q0), (1, .ref q1), (2, .int q2), (3, .int v3), (4, .int v4), (5, .int x3), (6, .int x5)]) (am_dec tmX3_moveBlows 16 rfl) (by decide) rfl ?_
      refine am_iload (am_dec tmX3_moveBlows 17 rfl) rfl ?_
      refine am_iconst (v := (-1 : Int32)) (am_dec tmX3_moveBlows 18 rfl) (by decide) ?_
      obtain ⟨w10, g11, hf⟩ := am_bd hf
      have key7 : am_S E mX3_moveBlows d mc ms o G2 D2 0 0 71 [(0, .ref q0), (1, .ref q1), (2, .int q2), (3, .int w10.1), (4, .int v4)] [] am_G0 w10.2 := by
        refine am_iinc (v := (1 : Int32)) (lv' := [(0, .ref q0), (1, .ref q1), (2, .int q2), (3, .int w10.1), (4, .int (v4 + (1 : Int32)))]) (am_dec tmX3_moveBlows 35 rfl) rfl (by decide) (by decide) rfl ?_
        refine am_goto (tgt := 5) (am_dec tmX3_moveBlows 36 rfl) (by decide) ?_
        exact am_pick [0, 1, 2, 3, 4] rfl (l_X3_moveBlows_L5 hE hdp h_q0 h_q1 n w10.1 (v4 + (1 : Int32)) w10.2 ex0 hf hk0)
      replace hf := g11
      refine am_icmp_eq (tgt := 71) (am_dec tmX3_moveBlows 19 rfl) (by decide) (fun c6 => ?_) (fun c6 => ?_)
      · rw [if_pos c6] at hf
        have hf := Option.some.inj hf
        subst hf
        exact am_pick [0, 1, 2, 3, 4] rfl key7
      · rw [if_neg c6] at hf
        refine am_aload_n (am_dec tmX3_moveBlows 20 rfl) rfl rfl ?_
        refine am_getR (j := 1) hE (am_dec tmX3_moveBlows 21 rfl) h_q0 cf3 (by decide) rfl lf_X3_20 (ro_X3_0_1 h_q0) ?_
        refine am_iload (am_dec tmX3_moveBlows 22 rfl) rfl ?_
        refine am_aload_n (am_dec tmX3_moveBlows 23 rfl) rfl rfl ?_
        refine am_getR (j := 0) hE (am_dec tmX3_moveBlows 24 rfl) h_q0 cf3 (by decide) rfl lf_X3_14 (ro_X3_0_0 h_q0) ?_
        refine am_iload (am_dec tmX3_moveBlows 25 rfl) rfl ?_
        refine am_iload_n (am_dec tmX3_moveBlows 26 rfl) rfl rfl ?_
        refine am_aload_n (am_dec tmX3_moveBlows 27 rfl) rfl rfl ?_
        refine am_getR (j := 0) hE (am_dec tmX3_moveBlows 28 rfl) h_q0 cf3 (by decide) rfl lf_X3_14 (ro_X3_0_0 h_q0) ?_
        refine am_getI (j := 1) hE (am_dec tmX3_moveBlows 29 rfl) (so_X3_1 h_q0) cf7 (by decide) rfl lf_X3_80 ?_
        refine am_iload (am_dec tmX3_moveBlows 30 rfl) rfl ?_
        refine am_isub (am_dec tmX3_moveBlows 31 rfl) ?_
        refine am_mmin2 (am_dec tmX3_moveBlows 32 rfl) lm_X3_87 (Nat.le_of_ble_eq_true rfl) (Nat.zero_le _) (Nat.zero_le _) ?_
        obtain ⟨x9, g8, hf⟩ := am_bd hf
        refine am_callV0 (As := [.int x5, .ref (q0 + 1), .int x3, .int (am_mn q2 ((D.1 (q0 + 1) 1) - x3))]) (st := []) hE (am_dec tmX3_moveBlows 33 rfl) ok_X7_lay rfl lm_X3_64 in_X7_lay se_X7_lay (so_X3_3 h_q0) cf7 (c_X7_lay hE (so_X3_3 h_q0) (so_X3_1 h_q0) g8) rfl (Nat.lt_of_lt_of_le (by decide) hdp) (Nat.le_of_ble_eq_true rfl) (Nat.zero_le _) (Nat.zero_le _) rfl ?_
        refine am_iinc (v := (1 : Int32)) (lv' := [(0, .ref q0), (1, .ref q1), (2, .int q2), (3, .int (v3 + (1 : Int32))), (4, .int v4), (5, .int x3), (6, .int x5)]) (am_dec tmX3_moveBlows 34 rfl) rfl (by decide) (by decide) rfl ?_
        have hf := Option.some.inj hf
        subst hf
        exact am_pick [0, 1, 2, 3, 4] rfl key7
set_option maxRecDepth 100000 in
set_option maxHeartbeats 4000000 in
theorem c_X3_moveBlows {E : am_E} (hE : am_EH E) {r0 : Nat} {p1 : Nat} {p2 : Int32} {D : am_D} {r : (Int32 × am_D)} (h_r0 : am_sh am_G0 r0 = some (3, 8)) (h_p1 : am_sh am_G0 p1 = some (0, 6)) (hf : f_X3_moveBlows r0 p1 p2 D = some r) : am_C E mX3_moveBlows 4 0 0 [.ref r0, .ref p1, .int p2] am_G0 D (.inl (some (.int r.1))) am_G0 r.2 := by
  refine am_C_of (by decide +kernel) (Nat.le_of_ble_eq_true rfl) ?_
  change am_S E mX3_moveBlows 4 0 0 (.inl (some (.int r.1))) am_G0 r.2 0 0 0 [(0, .ref r0), (1, .ref p1), (2, .int p2)] [] am_G0 D
  unfold f_X3_moveBlows at hf
  refine am_iconst (v := (0 : Int32)) (am_dec tmX3_moveBlows 0 rfl) (by decide) ?_
  refine am_istore_n (lv' := [(0, .ref r0), (1, .ref p1), (2, .int p2), (3, .int (0 : Int32))]) (am_dec tmX3_moveBlows 1 rfl) rfl (by decide) rfl ?_
  refine am_iconst (v := (0 : Int32)) (am_dec tmX3_moveBlows 2 rfl) (by decide) ?_
  refine am_istore (lv' := [(0, .ref r0), (1, .ref p1), (2, .int p2), (3, .int (0 : Int32)), (4, .int (0 : Int32))]) (am_dec tmX3_moveBlows 3 rfl) (by decide) rfl ?_
  obtain ⟨e12, g13, hf⟩ := am_bd hf
  refine am_pick [0, 1, 2, 3, 4] rfl (l_X3_moveBlows_L5 hE (Nat.le_refl _) h_r0 h_p1 am_fu _ _ _ _ g13 (fun ex he => ?_))
  subst he
  refine am_iload_n (am_dec tmX3_moveBlows 37 rfl) rfl rfl ?_
  have hf := Option.some.inj hf
  subst hf
  exact am_iret (am_dec tmX3_moveBlows 38 rfl) rfl (Nat.zero_le _) (Nat.zero_le _)
def f_X11_wave (p0 : Int32) (p1 : Int32) (p2 : Int32) : Option (Int32) :=
    (f_X11_left p2 p0).bind fun x2 =>
    if p0 ≤ ((4 : Int32) * x2) then
    if ((3 : Int32) * p0) ≤ ((4 : Int32) * x2) then
    (f_X11_cut (p1 * (((4 : Int32) * x2) - ((4 : Int32) * p0))) p0).bind fun x6 =>
    some x6
    else
    (f_X11_cut (p1 * (((2 : Int32) * p0) - ((4 : Int32) * x2))) p0).bind fun x8 =>
    some x8
    else
    (f_X11_cut (p1 * ((4 : Int32) * x2)) p0).bind fun x10 =>
    some x10
set_option maxRecDepth 100000 in
set_option maxHeartbeats 4000000 in
theorem c_X11_wave {E : am_E} (hE : am_EH E) {p0 : Int32} {p1 : Int32} {p2 : Int32} {D : am_D} {r : Int32}  (hf : f_X11_wave p0 p1 p2 = some r) : am_C E mX11_wave 2 0 0 [.int p0, .int p1, .int p2] am_G0 D (.inl (some (.int r))) am_G0 D := by
  refine am_C_of (by decide +kernel) (Nat.le_of_ble_eq_true rfl) ?_
  change am_S E mX11_wave 2 0 0 (.inl (some (.int r))) am_G0 D 0 0 0 [(0, .int p0), (1, .int p1), (2, .int p2)] [] am_G0 D
  unfold f_X11_wave at hf
  refine am_iconst (v := (4 : Int32)) (am_dec tmX11_wave 0 rfl) (by decide) ?_
  refine am_iload_n (am_dec tmX11_wave 1 rfl) rfl rfl ?_
  refine am_iload_n (am_dec tmX11_wave 2 rfl) rfl rfl ?_
  obtain ⟨x2, g1, hf⟩ := am_bd hf
  refine am_callS1 (As := [.int p2, .int p0]) (st := [.int (4 : Int32)]) (am_dec tmX11_wave 3 rfl) ok_X11_left rfl lm_X11_489 st_X11_left (c_X11_left hE g1) rfl (by decide) (Nat.le_of_ble_eq_true rfl) (Nat.zero_le _) (Nat.zero_le _) rfl ?_
  refine am_imul (am_dec tmX11_wave 4 rfl) ?_
  refine am_istore_n (lv' := [(0, .int p0), (1, .int p1), (2, .int p2), (3, .int ((4 : Int32) * x2))]) (am_dec tmX11_wave 5 rfl) rfl (by decide) rfl ?_
  refine am_iload_n (am_dec tmX11_wave 6 rfl) rfl rfl ?_
  refine am_iload_n (am_dec tmX11_wave 7 rfl) rfl rfl ?_
  refine am_icmp_ge (tgt := 21) (am_dec tmX11_wave 8 rfl) (by decide) (fun c3 => ?_) (fun c3 => ?_)
  · rw [if_pos c3] at hf
    refine am_iload_n (am_dec tmX11_wave 15 rfl) rfl rfl ?_
    refine am_iconst (v := (3 : Int32)) (am_dec tmX11_wave 16 rfl) (by decide) ?_
    refine am_iload_n (am_dec tmX11_wave 17 rfl) rfl rfl ?_
    refine am_imul (am_dec tmX11_wave 18 rfl) ?_
    refine am_icmp_ge (tgt := 40) (am_dec tmX11_wave 19 rfl) (by decide) (fun c4 => ?_) (fun c4 => ?_)
    · rw [if_pos c4] at hf
      refine am_iload_n (am_dec tmX11_wave 30 rfl) rfl rfl ?_
      refine am_iload_n (am_dec tmX11_wave 31 rfl) rfl rfl ?_
      refine am_iconst (v := (4 : Int32)) (am_dec tmX11_wave 32 rfl) (by decide) ?_
      refine am_iload_n (am_dec tmX11_wave 33 rfl) rfl rfl ?_
      refine am_imul (am_dec tmX11_wave 34 rfl) ?_
      refine am_isub (am_dec tmX11_wave 35 rfl) ?_
      refine am_imul (am_dec tmX11_wave 36 rfl) ?_
      refine am_iload_n (am_dec tmX11_wave 37 rfl) rfl rfl ?_
      obtain ⟨x6, g5, hf⟩ := am_bd hf
      refine am_callS1 (As := [.int (p1 * (((4 : Int32) * x2) - ((4 : Int32) * p0))), .int p0]) (st := []) (am_dec tmX11_wave 38 rfl) ok_X11_cut rfl lm_X11_336 st_X11_cut (c_X11_cut hE g5) rfl (by decide) (Nat.le_of_ble_eq_true rfl) (Nat.zero_le _) (Nat.zero_le _) rfl ?_
      have hf := Option.some.inj hf
      subst hf
      exact am_iret (am_dec tmX11_wave 39 rfl) rfl (Nat.zero_le _) (Nat.zero_le _)
    · rw [if_neg c4] at hf
      refine am_iload_n (am_dec tmX11_wave 20 rfl) rfl rfl ?_
      refine am_iconst (v := (2 : Int32)) (am_dec tmX11_wave 21 rfl) (by decide) ?_
      refine am_iload_n (am_dec tmX11_wave 22 rfl) rfl rfl ?_
      refine am_imul (am_dec tmX11_wave 23 rfl) ?_
      refine am_iload_n (am_dec tmX11_wave 24 rfl) rfl rfl ?_
      refine am_isub (am_dec tmX11_wave 25 rfl) ?_
      refine am_imul (am_dec tmX11_wave 26 rfl) ?_
      refine am_iload_n (am_dec tmX11_wave 27 rfl) rfl rfl ?_
      obtain ⟨x8, g7, hf⟩ := am_bd hf
      refine am_callS1 (As := [.int (p1 * (((2 : Int32) * p0) - ((4 : Int32) * x2))), .int p0]) (st := []) (am_dec tmX11_wave 28 rfl) ok_X11_cut rfl lm_X11_336 st_X11_cut (c_X11_cut hE g7) rfl (by decide) (Nat.le_of_ble_eq_true rfl) (Nat.zero_le _) (Nat.zero_le _) rfl ?_
      have hf := Option.some.inj hf
      subst hf
      exact am_iret (am_dec tmX11_wave 29 rfl) rfl (Nat.zero_le _) (Nat.zero_le _)
  · rw [if_neg c3] at hf
    refine am_iload_n (am_dec tmX11_wave 9 rfl) rfl rfl ?_
    refine am_iload_n (am_dec tmX11_wave 10 rfl) rfl rfl ?_
    refine am_imul (am_dec tmX11_wave 11 rfl) ?_
    refine am_iload_n (am_dec tmX11_wave 12 rfl) rfl rfl ?_
    obtain ⟨x10, g9, hf⟩ := am_bd hf
    refine am_callS1 (As := [.int (p1 * ((4 : Int32) * x2)), .int p0]) (st := []) (am_dec tmX11_wave 13 rfl) ok_X11_cut rfl lm_X11_336 st_X11_cut (c_X11_cut hE g9) rfl (by decide) (Nat.le_of_ble_eq_true rfl) (Nat.zero_le _) (Nat.zero_le _) rfl ?_
    have hf := Option.some.inj hf
    subst hf
    exact am_iret (am_dec tmX11_wave 14 rfl) rfl (Nat.zero_le _) (Nat.zero_le _)
def f_X3_singOut_L18 (q0 : Nat) (q1 : Nat) (q2 : Nat) (q3 : Int32) (q4 : Int32) : Nat → Int32 → am_D → Option (am_D)
  | 0, _, _ => none
  | n + 1, v5, D =>
    if (D.1 (q0 + 3) 1) ≤ v5 then
    some (D)
    else
    (f_X9_placeOf q2 v5 D).bind fun x9 =>
    (f_X11_cut x9 q4).bind fun x11 =>
    (f_X7_loudest q1 (x11 * q4) q4 D).bind fun x13 =>
    (f_X11_wave q3 x13 v5).bind fun x15 =>
    (f_X7_put (q0 + 3) v5 x15 D).bind fun x17 =>
    f_X3_singOut_L18 q0 q1 q2 q3 q4 n (v5 + (1 : Int32)) x17
def f_X3_singOut (r0 : Nat) (p1 : Nat) (p2 : Nat) (p3 : Int32) (p4 : Int32) (D : am_D) : Option (am_D) :=
    (f_X3_clear r0 D).bind fun x2 =>
    (f_X9_lastTo p2 x2).bind fun x4 =>
    (f_X7_start (r0 + 3) x4 x2).bind fun x6 =>
    (f_X3_singOut_L18 r0 p1 p2 p3 p4 am_fu (0 : Int32) x6).bind fun e18 =>
    some e18
set_option maxRecDepth 100000 in
set_option maxHeartbeats 4000000 in
theorem l_X3_singOut_L18 {E : am_E} (hE : am_EH E) {d mc ms : Nat} {o : am_O} {G2 : am_G} {D2 : am_D} (hdp : 5 ≤ d) {q0 : Nat} {q1 : Nat} {q2 : Nat} {q3 : Int32} {q4 : Int32} (h_q0 : am_sh am_G0 q0 = some (3, 8)) (h_q1 : am_sh am_G0 q1 = some (7, 2)) (h_q2 : am_sh am_G0 q2 = some (9, 3)) : ∀ (n : Nat) (v5 : Int32) (D : am_D) (ex0 : am_D), f_X3_singOut_L18 q0 q1 q2 q3 q4 n v5 D = some ex0 → (∀ ex : am_D, ex0 = ex → am_S E mX3_singOut d mc ms o G2 D2 0 0 75 [] [] am_G0 ex) → am_S E mX3_singOut d mc ms o G2 D2 0 0 18 [(0, .ref q0), (1, .ref q1), (2, .ref q2), (3, .int q3), (4, .int q4), (5, .int v5)] [] am_G0 D
  | 0, _, _, _, hf, _ => by
    unfold f_X3_singOut_L18 at hf
    cases hf
  | n + 1, v5, D, ex0, hf, hk0 => by
    unfold f_X3_singOut_L18 at hf
    refine am_iload (am_dec tmX3_singOut 9 rfl) rfl ?_
    refine am_aload_n (am_dec tmX3_singOut 10 rfl) rfl rfl ?_
    refine am_getR (j := 1) hE (am_dec tmX3_singOut 11 rfl) h_q0 cf3 (by decide) rfl lf_X3_20 (ro_X3_0_1 h_q0) ?_
    refine am_getI (j := 1) hE (am_dec tmX3_singOut 12 rfl) (so_X3_3 h_q0) cf7 (by decide) rfl lf_X3_80 ?_
    refine am_icmp_ge (tgt := 75) (am_dec tmX3_singOut 13 rfl) (by decide) (fun c7 => ?_) (fun c7 => ?_)
    · rw [if_pos c7] at hf
      have hf := Option.some.inj hf
      subst hf
      exact am_pick [] rfl (hk0 _ rfl)
    · rw [if_neg c7] at hf
      refine am_aload_n (am_dec tmX3_singOut 14 rfl) rfl rfl ?_
      refine am_iload (am_dec tmX3_singOut 15 rfl) rfl ?_
      obtain ⟨x9, g8, hf⟩ := am_bd hf
      refine am_callV1 (As := [.int v5]) (st := []) hE (am_dec tmX3_singOut 16 rfl) ok_X9_placeOf rfl lm_X3_90 in_X9_placeOf se_X9_placeOf h_q2 cf9 (c_X9_placeOf hE h_q2 g8) rfl (Nat.lt_of_lt_of_le (by decide) hdp) (Nat.le_of_ble_eq_true rfl) (Nat.zero_le _) (Nat.zero_le _) rfl ?_
      refine am_iload (am_dec tmX3_singOut 17 rfl) rfl ?_
      obtain ⟨x11, g10, hf⟩ := am_bd hf
      refine am_callSN1 (As := [.int x9, .int q4]) (st := []) hE (am_dec tmX3_singOut 18 rfl) ok_X11_cut rfl lm_X3_128 st_X11_cut (c_X11_cut hE g10) rfl (Nat.lt_of_lt_of_le (by decide) hdp) (Nat.le_of_ble_eq_true rfl) (Nat.zero_le _) (Nat.zero_le _) rfl ?_
      refine am_iload (am_dec tmX3_singOut 19 rfl) rfl ?_
      refine am_imul (am_dec tmX3_singOut 20 rfl) ?_
      refine am_istore (lv' := [(0, .ref q0), (1, .ref q1), (2, .ref q2), (3, .int q3), (4, .int q4), (5, .int v5), (6, .int (x11 * q4))]) (am_dec tmX3_singOut 21 rfl) (by decide) rfl ?_
      refine am_aload_n (am_dec tmX3_singOut 22 rfl) rfl rfl ?_
      refine am_getR (j := 1) hE (am_dec tmX3_singOut 23 rfl) h_q0 cf3 (by decide) rfl lf_X3_20 (ro_X3_0_1 h_q0) ?_
      refine am_iload (am_dec tmX3_singOut 24 rfl) rfl ?_
      refine am_iload_n (am_dec tmX3_singOut 25 rfl) rfl rfl ?_
      refine am_aload_n (am_dec tmX3_singOut 26 rfl) rfl rfl ?_
      refine am_iload (am_dec tmX3_singOut 27 rfl) rfl ?_
      refine am_iload (am_dec tmX3_singOut 28 rfl) rfl ?_
      obtain ⟨x13, g12, hf⟩ := am_bd hf
      refine am_callV1 (As := [.int (x11 * q4), .int q4]) (st := [.int q3, .int v5, .ref (q0 + 3)]) hE (am_dec tmX3_singOut 29 rfl) ok_X7_loudest rfl lm_X3_131 in_X7_loudest se_X7_loudest h_q1 cf7 (c_X7_loudest hE h_q1 g12) rfl (Nat.lt_of_lt_of_le (by decide) hdp) (Nat.le_of_ble_eq_true rfl) (Nat.zero_le _) (Nat.zero_le _) rfl ?_
      refine am_iload (am_dec tmX3_singOut 30 rfl) rfl ?_
      obtain ⟨x15, g14, hf⟩ := am_bd hf
      refine am_callSN1 (As := [.int q3, .int x13, .int v5]) (st := [.int v5, .ref (q0 + 3)]) hE (am_dec tmX3_singOut 31 rfl) ok_X11_wave rfl lm_X3_134 st_X11_wave (c_X11_wave hE g14) rfl (Nat.lt_of_lt_of_le (by decide) hdp) (Nat.le_of_ble_eq_true rfl) (Nat.zero_le _) (Nat.zero_le _) rfl ?_
      obtain ⟨x17, g16, hf⟩ := am_bd hf
      refine am_callV0 (As := [.int v5, .int x15]) (st := []) hE (am_dec tmX3_singOut 32 rfl) ok_X7_put rfl lm_X3_137 in_X7_put se_X7_put (so_X3_3 h_q0) cf7 (c_X7_put hE (so_X3_3 h_q0) g16) rfl (Nat.lt_of_lt_of_le (by decide) hdp) (Nat.le_of_ble_eq_true rfl) (Nat.zero_le _) (Nat.zero_le _) rfl ?_
      refine am_iinc (v := (1 : Int32)) (lv' := [(0, .ref q0), (1, .ref q1), (2, .ref q2), (3, .int q3), (4, .int q4), (5, .int (v5 + (1 : Int32))), (6, .int (x11 * q4))]) (am_dec tmX3_singOut 33 rfl) rfl (by decide) (by decide) rfl ?_
      refine am_goto (tgt := 18) (am_dec tmX3_singOut 34 rfl) (by decide) ?_
      exact am_pick [0, 1, 2, 3, 4, 5] rfl (l_X3_singOut_L18 hE hdp h_q0 h_q1 h_q2 n (v5 + (1 : Int32)) x17 ex0 hf hk0)
set_option maxRecDepth 100000 in
set_option maxHeartbeats 4000000 in
theorem c_X3_singOut {E : am_E} (hE : am_EH E) {r0 : Nat} {p1 : Nat} {p2 : Nat} {p3 : Int32} {p4 : Int32} {D : am_D} {r : am_D} (h_r0 : am_sh am_G0 r0 = some (3, 8)) (h_p1 : am_sh am_G0 p1 = some (7, 2)) (h_p2 : am_sh am_G0 p2 = some (9, 3)) (hf : f_X3_singOut r0 p1 p2 p3 p4 D = some r) : am_C E mX3_singOut 5 0 0 [.ref r0, .ref p1, .ref p2, .int p3, .int p4] am_G0 D (.inl none) am_G0 r := by
  refine am_C_of (by decide +kernel) (Nat.le_of_ble_eq_true rfl) ?_
  change am_S E mX3_singOut 5 0 0 (.inl none) am_G0 r 0 0 0 [(0, .ref r0), (1, .ref p1), (2, .ref p2), (3, .int p3), (4, .int p4)] [] am_G0 D
  unfold f_X3_singOut at hf
  refine am_aload_n (am_dec tmX3_singOut 0 rfl) rfl rfl ?_
  obtain ⟨x2, g1, hf⟩ := am_bd hf
  refine am_callV0 (As := []) (st := []) hE (am_dec tmX3_singOut 1 rfl) ok_X3_clear rfl lm_X3_125 in_X3_clear se_X3_clear h_r0 cf3 (c_X3_clear hE h_r0 g1) rfl (by decide) (Nat.le_of_ble_eq_true rfl) (Nat.zero_le _) (Nat.zero_le _) rfl ?_
  refine am_aload_n (am_dec tmX3_singOut 2 rfl) rfl rfl ?_
  refine am_getR (j := 1) hE (am_dec tmX3_singOut 3 rfl) h_r0 cf3 (by decide) rfl lf_X3_20 (ro_X3_0_1 h_r0) ?_
  refine am_aload_n (am_dec tmX3_singOut 4 rfl) rfl rfl ?_
  obtain ⟨x4, g3, hf⟩ := am_bd hf
  refine am_callV1 (As := []) (st := [.ref (r0 + 3)]) hE (am_dec tmX3_singOut 5 rfl) ok_X9_lastTo rfl lm_X3_55 in_X9_lastTo se_X9_lastTo h_p2 cf9 (c_X9_lastTo hE h_p2 g3) rfl (by decide) (Nat.le_of_ble_eq_true rfl) (Nat.zero_le _) (Nat.zero_le _) rfl ?_
  obtain ⟨x6, g5, hf⟩ := am_bd hf
  refine am_callV0 (As := [.int x4]) (st := []) hE (am_dec tmX3_singOut 6 rfl) ok_X7_start rfl lm_X3_37 in_X7_start se_X7_start (so_X3_3 h_r0) cf7 (c_X7_start hE (so_X3_3 h_r0) g5) rfl (by decide) (Nat.le_of_ble_eq_true rfl) (Nat.zero_le _) (Nat.zero_le _) rfl ?_
  refine am_iconst (v := (0 : Int32)) (am_dec tmX3_singOut 7 rfl) (by decide) ?_
  refine am_istore (lv' := [(0, .ref r0), (1, .ref p1), (2, .ref p2), (3, .int p3), (4, .int p4), (5, .int (0 : Int32))]) (am_dec tmX3_singOut 8 rfl) (by decide) rfl ?_
  obtain ⟨e18, g19, hf⟩ := am_bd hf
  refine am_pick [0, 1, 2, 3, 4, 5] rfl (l_X3_singOut_L18 hE (Nat.le_refl _) h_r0 h_p1 h_p2 am_fu _ _ _ g19 (fun ex he => ?_))
  subst he
  have hf := Option.some.inj hf
  subst hf
  exact am_vret (am_dec tmX3_singOut 35 rfl) rfl (Nat.zero_le _) (Nat.zero_le _)
def f_X3_seamTold (r0 : Nat) (p1 : Int32) (p2 : Int32) (D : am_D) : Option (Int32) :=
    if p1 < 0 then
    some (-5000 : Int32)
    else
    if (D.1 r0 6) ≤ p1 then
    some (-5000 : Int32)
    else
    if p1 < (600 : Int32) then
    if p2 = 0 then
    some ((p1 + (1 : Int32)) * (D.1 r0 5))
    else
    if p2 = (1 : Int32) then
    (am_gI D (r0 + 8) 600 p1).bind fun x8 =>
    some x8
    else
    (am_gI D (r0 + 9) 600 p1).bind fun x6 =>
    some x6
    else
    some (-5000 : Int32)
set_option maxRecDepth 100000 in
set_option maxHeartbeats 4000000 in
theorem c_X3_seamTold {E : am_E} (hE : am_EH E) {r0 : Nat} {p1 : Int32} {p2 : Int32} {D : am_D} {r : Int32} (h_r0 : am_sh am_G0 r0 = some (3, 8)) (hf : f_X3_seamTold r0 p1 p2 D = some r) : am_C E mX3_seamTold 1 0 0 [.ref r0, .int p1, .int p2] am_G0 D (.inl (some (.int r))) am_G0 D := by
  refine am_C_of (by decide +kernel) (Nat.le_of_ble_eq_true rfl) ?_
  change am_S E mX3_seamTold 1 0 0 (.inl (some (.int r))) am_G0 D 0 0 0 [(0, .ref r0), (1, .int p1), (2, .int p2)] [] am_G0 D
  unfold f_X3_seamTold at hf
  refine am_iload_n (am_dec tmX3_seamTold 0 rfl) rfl rfl ?_
  refine am_if_lt (tgt := 19) (am_dec tmX3_seamTold 1 rfl) (by decide) (fun c1 => ?_) (fun c1 => ?_)
  · rw [if_pos c1] at hf
    refine am_sipush (v := (-5000 : Int32)) (am_dec tmX3_seamTold 9 rfl) (by decide) ?_
    have hf := Option.some.inj hf
    subst hf
    exact am_iret (am_dec tmX3_seamTold 10 rfl) rfl (Nat.zero_le _) (Nat.zero_le _)
  · rw [if_neg c1] at hf
    refine am_iload_n (am_dec tmX3_seamTold 2 rfl) rfl rfl ?_
    refine am_aload_n (am_dec tmX3_seamTold 3 rfl) rfl rfl ?_
    refine am_getI (j := 6) hE (am_dec tmX3_seamTold 4 rfl) h_r0 cf3 (by decide) rfl lf_X3_40 ?_
    refine am_icmp_ge (tgt := 19) (am_dec tmX3_seamTold 5 rfl) (by decide) (fun c2 => ?_) (fun c2 => ?_)
    · rw [if_pos c2] at hf
      refine am_sipush (v := (-5000 : Int32)) (am_dec tmX3_seamTold 9 rfl) (by decide) ?_
      have hf := Option.some.inj hf
      subst hf
      exact am_iret (am_dec tmX3_seamTold 10 rfl) rfl (Nat.zero_le _) (Nat.zero_le _)
    · rw [if_neg c2] at hf
      refine am_iload_n (am_dec tmX3_seamTold 6 rfl) rfl rfl ?_
      refine am_sipush (v := (600 : Int32)) (am_dec tmX3_seamTold 7 rfl) (by decide) ?_
      refine am_icmp_lt (tgt := 23) (am_dec tmX3_seamTold 8 rfl) (by decide) (fun c3 => ?_) (fun c3 => ?_)
      · rw [if_pos c3] at hf
        refine am_iload_n (am_dec tmX3_seamTold 11 rfl) rfl rfl ?_
        refine am_if_ne (tgt := 38) (am_dec tmX3_seamTold 12 rfl) (by decide) (fun c4 => ?_) (fun c4 => ?_)
        · rw [if_neg c4] at hf
          refine am_iload_n (am_dec tmX3_seamTold 20 rfl) rfl rfl ?_
          refine am_iconst (v := (1 : Int32)) (am_dec tmX3_seamTold 21 rfl) (by decide) ?_
          refine am_icmp_ne (tgt := 52) (am_dec tmX3_seamTold 22 rfl) (by decide) (fun c5 => ?_) (fun c5 => ?_)
          · rw [if_neg c5] at hf
            refine am_aload_n (am_dec tmX3_seamTold 28 rfl) rfl rfl ?_
            refine am_getR (j := 4) hE (am_dec tmX3_seamTold 29 rfl) h_r0 cf3 (by decide) rfl lf_X3_34 (ro_X3_0_4 h_r0) ?_
            refine am_iload_n (am_dec tmX3_seamTold 30 rfl) rfl rfl ?_
            obtain ⟨x6, g7, hf⟩ := am_bd hf
            refine am_iald2 hE (am_dec tmX3_seamTold 31 rfl) (so_X3_9 h_r0) g7 ?_
            have hf := Option.some.inj hf
            subst hf
            exact am_iret (am_dec tmX3_seamTold 32 rfl) rfl (Nat.zero_le _) (Nat.zero_le _)
          · rw [if_pos c5] at hf
            refine am_aload_n (am_dec tmX3_seamTold 23 rfl) rfl rfl ?_
            refine am_getR (j := 3) hE (am_dec tmX3_seamTold 24 rfl) h_r0 cf3 (by decide) rfl lf_X3_30 (ro_X3_0_3 h_r0) ?_
            refine am_iload_n (am_dec tmX3_seamTold 25 rfl) rfl rfl ?_
            obtain ⟨x8, g9, hf⟩ := am_bd hf
            refine am_iald2 hE (am_dec tmX3_seamTold 26 rfl) (so_X3_8 h_r0) g9 ?_
            refine am_goto (tgt := 58) (am_dec tmX3_seamTold 27 rfl) (by decide) ?_
            have hf := Option.some.inj hf
            subst hf
            exact am_iret (am_dec tmX3_seamTold 32 rfl) rfl (Nat.zero_le _) (Nat.zero_le _)
        · rw [if_pos c4] at hf
          refine am_iload_n (am_dec tmX3_seamTold 13 rfl) rfl rfl ?_
          refine am_iconst (v := (1 : Int32)) (am_dec tmX3_seamTold 14 rfl) (by decide) ?_
          refine am_iadd (am_dec tmX3_seamTold 15 rfl) ?_
          refine am_aload_n (am_dec tmX3_seamTold 16 rfl) rfl rfl ?_
          refine am_getI (j := 5) hE (am_dec tmX3_seamTold 17 rfl) h_r0 cf3 (by decide) rfl lf_X3_77 ?_
          refine am_imul (am_dec tmX3_seamTold 18 rfl) ?_
          refine am_goto (tgt := 58) (am_dec tmX3_seamTold 19 rfl) (by decide) ?_
          have hf := Option.some.inj hf
          subst hf
          exact am_iret (am_dec tmX3_seamTold 32 rfl) rfl (Nat.zero_le _) (Nat.zero_le _)
      · rw [if_neg c3] at hf
        refine am_sipush (v := (-5000 : Int32)) (am_dec tmX3_seamTold 9 rfl) (by decide) ?_
        have hf := Option.some.inj hf
        subst hf
        exact am_iret (am_dec tmX3_seamTold 10 rfl) rfl (Nat.zero_le _) (Nat.zero_le _)
def f_X3_unlikeTogether_L5 (q0 : Nat) (q1 : Int32) (q2 : Int32) (D : am_D) : Nat → Int32 → Int32 → Option (Int32)
  | 0, _, _ => none
  | n + 1, v3, v4 =>
    if (D.1 q0 6) ≤ v4 then
    some (v3)
    else
    if (600 : Int32) ≤ v4 then
    some (v3)
    else
    (f_X11_within ((v4 + (1 : Int32)) * (D.1 q0 5)) q1 (q2 - (1 : Int32))).bind fun x4 =>
    (if x4 = 0 then
    some (v3)
    else
    (am_gI D (q0 + 9) 600 v4).bind fun x7 =>
    some ((v3 + x7))).bind fun w9 =>
    f_X3_unlikeTogether_L5 q0 q1 q2 D n w9 (v4 + (1 : Int32))
def f_X3_unlikeTogether (r0 : Nat) (p1 : Int32) (p2 : Int32) (D : am_D) : Option (Int32) :=
    (f_X3_unlikeTogether_L5 r0 p1 p2 D am_fu (0 : Int32) (0 : Int32)).bind fun e11 =>
    some e11
set_option maxRecDepth 100000 in
set_option maxHeartbeats 4000000 in
theorem l_X3_unlikeTogether_L5 {E : am_E} (hE : am_EH E) {d mc ms : Nat} {o : am_O} {G2 : am_G} {D2 : am_D} (hdp : 2 ≤ d) {q0 : Nat} {q1 : Int32} {q2 : Int32} {D : am_D} (h_q0 : am_sh am_G0 q0 = some (3, 8)) : ∀ (n : Nat) (v3 : Int32) (v4 : Int32) (ex0 : Int32), f_X3_unlikeTogether_L5 q0 q1 q2 D n v3 v4 = some ex0 → (∀ ex : Int32, ex0 = ex → am_S E mX3_unlikeTogether d mc ms o G2 D2 0 0 57 [(3, .int ex)] [] am_G0 D) → am_S E mX3_unlikeTogether d mc ms o G2 D2 0 0 5 [(0, .ref q0), (1, .int q1), (2, .int q2), (3, .int v3), (4, .int v4)] [] am_G0 D
  | 0, _, _, _, hf, _ => by
    unfold f_X3_unlikeTogether_L5 at hf
    cases hf
  | n + 1, v3, v4, ex0, hf, hk0 => by
    unfold f_X3_unlikeTogether_L5 at hf
    refine am_iload (am_dec tmX3_unlikeTogether 4 rfl) rfl ?_
    refine am_aload_n (am_dec tmX3_unlikeTogether 5 rfl) rfl rfl ?_
    refine am_getI (j := 6) hE (am_dec tmX3_unlikeTogether 6 rfl) h_q0 cf3 (by decide) rfl lf_X3_40 ?_
    refine am_icmp_ge (tgt := 57) (am_dec tmX3_unlikeTogether 7 rfl) (by decide) (fun c1 => ?_) (fun c1 => ?_)
    · rw [if_pos c1] at hf
      have hf := Option.some.inj hf
      subst hf
      exact am_pick [3] rfl (hk0 _ rfl)
    · rw [if_neg c1] at hf
      refine am_iload (am_dec tmX3_unlikeTogether 8 rfl) rfl ?_
      refine am_sipush (v := (600 : Int32)) (am_dec tmX3_unlikeTogether 9 rfl) (by decide) ?_
      refine am_icmp_ge (tgt := 57) (am_dec tmX3_unlikeTogether 10 rfl) (by decide) (fun c2 => ?_) (fun c2 => ?_)
      · rw [if_pos c2] at hf
        have hf := Option.some.inj hf
        subst hf
        exact am_pick [3] rfl (hk0 _ rfl)
      · rw [if_neg c2] at hf
        refine am_iload (am_dec tmX3_unlikeTogether 11 rfl) rfl ?_
        refine am_iconst (v := (1 : Int32)) (am_dec tmX3_unlikeTogether 12 rfl) (by decide) ?_
        refine am_iadd (am_dec tmX3_unlikeTogether 13 rfl) ?_
        refine am_aload_n (am_dec tmX3_unlikeTogether 14 rfl) rfl rfl ?_
        refine am_getI (j := 5) hE (am_dec tmX3_unlikeTogether 15 rfl) h_q0 cf3 (by decide) rfl lf_X3_77 ?_
        refine am_imul (am_dec tmX3_unlikeTogether 16 rfl) ?_
        refine am_iload_n (am_dec tmX3_unlikeTogether 17 rfl) rfl rfl ?_
        refine am_iload_n (am_dec tmX3_unlikeTogether 18 rfl) rfl rfl ?_
        refine am_iconst (v := (1 : Int32)) (am_dec tmX3_unlikeTogether 19 rfl) (by decide) ?_
        refine am_isub (am_dec tmX3_unlikeTogether 20 rfl) ?_
        obtain ⟨x4, g3, hf⟩ := am_bd hf
        refine am_callSN1 (As := [.int ((v4 + (1 : Int32)) * (D.1 q0 5)), .int q1, .int (q2 - (1 : Int32))]) (st := []) hE (am_dec tmX3_unlikeTogether 21 rfl) ok_X11_within rfl lm_X3_112 st_X11_within (c_X11_within hE g3) rfl (Nat.lt_of_lt_of_le (by decide) hdp) (Nat.le_of_ble_eq_true rfl) (Nat.zero_le _) (Nat.zero_le _) rfl ?_
        obtain ⟨w9, g10, hf⟩ := am_bd hf
        have key6 : am_S E mX3_unlikeTogether d mc ms o G2 D2 0 0 51 [(0, .ref q0), (1, .int q1), (2, .int q2), (3, .int w9), (4, .int v4)] [] am_G0 D := by
          refine am_iinc (v := (1 : Int32)) (lv' := [(0, .ref q0), (1, .int q1), (2, .int q2), (3, .int w9), (4, .int (v4 + (1 : Int32)))]) (am_dec tmX3_unlikeTogether 30 rfl) rfl (by decide) (by decide) rfl ?_
          refine am_goto (tgt := 5) (am_dec tmX3_unlikeTogether 31 rfl) (by decide) ?_
          exact am_pick [0, 1, 2, 3, 4] rfl (l_X3_unlikeTogether_L5 hE hdp h_q0 n w9 (v4 + (1 : Int32)) ex0 hf hk0)
        replace hf := g10
        refine am_if_eq (tgt := 51) (am_dec tmX3_unlikeTogether 22 rfl) (by decide) (fun c5 => ?_) (fun c5 => ?_)
        · rw [if_pos c5] at hf
          have hf := Option.some.inj hf
          subst hf
          exact am_pick [0, 1, 2, 3, 4] rfl key6
        · rw [if_neg c5] at hf
          refine am_iload_n (am_dec tmX3_unlikeTogether 23 rfl) rfl rfl ?_
          refine am_aload_n (am_dec tmX3_unlikeTogether 24 rfl) rfl rfl ?_
          refine am_getR (j := 4) hE (am_dec tmX3_unlikeTogether 25 rfl) h_q0 cf3 (by decide) rfl lf_X3_34 (ro_X3_0_4 h_q0) ?_
          refine am_iload (am_dec tmX3_unlikeTogether 26 rfl) rfl ?_
          obtain ⟨x7, g8, hf⟩ := am_bd hf
          refine am_iald2 hE (am_dec tmX3_unlikeTogether 27 rfl) (so_X3_9 h_q0) g8 ?_
          refine am_iadd (am_dec tmX3_unlikeTogether 28 rfl) ?_
          refine am_istore_n (lv' := [(0, .ref q0), (1, .int q1), (2, .int q2), (3, .int (v3 + x7)), (4, .int v4)]) (am_dec tmX3_unlikeTogether 29 rfl) rfl (by decide) rfl ?_
          have hf := Option.some.inj hf
          subst hf
          exact am_pick [0, 1, 2, 3, 4] rfl key6
set_option maxRecDepth 100000 in
set_option maxHeartbeats 4000000 in
theorem c_X3_unlikeTogether {E : am_E} (hE : am_EH E) {r0 : Nat} {p1 : Int32} {p2 : Int32} {D : am_D} {r : Int32} (h_r0 : am_sh am_G0 r0 = some (3, 8)) (hf : f_X3_unlikeTogether r0 p1 p2 D = some r) : am_C E mX3_unlikeTogether 2 0 0 [.ref r0, .int p1, .int p2] am_G0 D (.inl (some (.int r))) am_G0 D := by
  refine am_C_of (by decide +kernel) (Nat.le_of_ble_eq_true rfl) ?_
  change am_S E mX3_unlikeTogether 2 0 0 (.inl (some (.int r))) am_G0 D 0 0 0 [(0, .ref r0), (1, .int p1), (2, .int p2)] [] am_G0 D
  unfold f_X3_unlikeTogether at hf
  refine am_iconst (v := (0 : Int32)) (am_dec tmX3_unlikeTogether 0 rfl) (by decide) ?_
  refine am_istore_n (lv' := [(0, .ref r0), (1, .int p1), (2, .int p2), (3, .int (0 : Int32))]) (am_dec tmX3_unlikeTogether 1 rfl) rfl (by decide) rfl ?_
  refine am_iconst (v := (0 : Int32)) (am_dec tmX3_unlikeTogether 2 rfl) (by decide) ?_
  refine am_istore (lv' := [(0, .ref r0), (1, .int p1), (2, .int p2), (3, .int (0 : Int32)), (4, .int (0 : Int32))]) (am_dec tmX3_unlikeTogether 3 rfl) (by decide) rfl ?_
  obtain ⟨e11, g12, hf⟩ := am_bd hf
  refine am_pick [0, 1, 2, 3, 4] rfl (l_X3_unlikeTogether_L5 hE (Nat.le_refl _) h_r0 am_fu _ _ _ g12 (fun ex he => ?_))
  subst he
  refine am_iload_n (am_dec tmX3_unlikeTogether 32 rfl) rfl rfl ?_
  have hf := Option.some.inj hf
  subst hf
  exact am_iret (am_dec tmX3_unlikeTogether 33 rfl) rfl (Nat.zero_le _) (Nat.zero_le _)
def f_X3_halfLoud_L6 (q0 : Nat) (q1 : Int32) (q2 : Int32) (q3 : Int32) (D : am_D) : Nat → Int32 → Int32 → Option (Int32)
  | 0, _, _ => none
  | n + 1, v4, v5 =>
    if (q1 + q2) ≤ v5 then
    some (v4)
    else
    if (D.1 q0 1) ≤ v5 then
    some (v4)
    else
    (f_X7_loud q0 v5 D).bind fun x4 =>
    (if ((2 : Int32) * x4) < q3 then
    some (v4)
    else
    some ((v4 + (1 : Int32)))).bind fun w7 =>
    f_X3_halfLoud_L6 q0 q1 q2 q3 D n w7 (v5 + (1 : Int32))
def f_X3_halfLoud (p0 : Nat) (p1 : Int32) (p2 : Int32) (p3 : Int32) (D : am_D) : Option (Int32) :=
    (f_X3_halfLoud_L6 p0 p1 p2 p3 D am_fu (0 : Int32) p1).bind fun e9 =>
    some e9
set_option maxRecDepth 100000 in
set_option maxHeartbeats 4000000 in
theorem l_X3_halfLoud_L6 {E : am_E} (hE : am_EH E) {d mc ms : Nat} {o : am_O} {G2 : am_G} {D2 : am_D} (hdp : 3 ≤ d) {q0 : Nat} {q1 : Int32} {q2 : Int32} {q3 : Int32} {D : am_D} (h_q0 : am_sh am_G0 q0 = some (7, 2)) : ∀ (n : Nat) (v4 : Int32) (v5 : Int32) (ex0 : Int32), f_X3_halfLoud_L6 q0 q1 q2 q3 D n v4 v5 = some ex0 → (∀ ex : Int32, ex0 = ex → am_S E mX3_halfLoud d mc ms o G2 D2 0 0 44 [(4, .int ex)] [] am_G0 D) → am_S E mX3_halfLoud d mc ms o G2 D2 0 0 6 [(0, .ref q0), (1, .int q1), (2, .int q2), (3, .int q3), (4, .int v4), (5, .int v5)] [] am_G0 D
  | 0, _, _, _, hf, _ => by
    unfold f_X3_halfLoud_L6 at hf
    cases hf
  | n + 1, v4, v5, ex0, hf, hk0 => by
    unfold f_X3_halfLoud_L6 at hf
    refine am_iload (am_dec tmX3_halfLoud 4 rfl) rfl ?_
    refine am_iload_n (am_dec tmX3_halfLoud 5 rfl) rfl rfl ?_
    refine am_iload_n (am_dec tmX3_halfLoud 6 rfl) rfl rfl ?_
    refine am_iadd (am_dec tmX3_halfLoud 7 rfl) ?_
    refine am_icmp_ge (tgt := 44) (am_dec tmX3_halfLoud 8 rfl) (by decide) (fun c1 => ?_) (fun c1 => ?_)
    · rw [if_pos c1] at hf
      have hf := Option.some.inj hf
      subst hf
      exact am_pick [4] rfl (hk0 _ rfl)
    · rw [if_neg c1] at hf
      refine am_iload (am_dec tmX3_halfLoud 9 rfl) rfl ?_
      refine am_aload_n (am_dec tmX3_halfLoud 10 rfl) rfl rfl ?_
      refine am_getI (j := 1) hE (am_dec tmX3_halfLoud 11 rfl) h_q0 cf7 (by decide) rfl lf_X3_80 ?_
      refine am_icmp_ge (tgt := 44) (am_dec tmX3_halfLoud 12 rfl) (by decide) (fun c2 => ?_) (fun c2 => ?_)
      · rw [if_pos c2] at hf
        have hf := Option.some.inj hf
        subst hf
        exact am_pick [4] rfl (hk0 _ rfl)
      · rw [if_neg c2] at hf
        refine am_iconst (v := (2 : Int32)) (am_dec tmX3_halfLoud 13 rfl) (by decide) ?_
        refine am_aload_n (am_dec tmX3_halfLoud 14 rfl) rfl rfl ?_
        refine am_iload (am_dec tmX3_halfLoud 15 rfl) rfl ?_
        obtain ⟨x4, g3, hf⟩ := am_bd hf
        refine am_callV1 (As := [.int v5]) (st := [.int (2 : Int32)]) hE (am_dec tmX3_halfLoud 16 rfl) ok_X7_loud rfl lm_X3_141 in_X7_loud se_X7_loud h_q0 cf7 (c_X7_loud hE h_q0 g3) rfl (Nat.lt_of_lt_of_le (by decide) hdp) (Nat.le_of_ble_eq_true rfl) (Nat.zero_le _) (Nat.zero_le _) rfl ?_
        refine am_imul (am_dec tmX3_halfLoud 17 rfl) ?_
        refine am_iload_n (am_dec tmX3_halfLoud 18 rfl) rfl rfl ?_
        obtain ⟨w7, g8, hf⟩ := am_bd hf
        have key6 : am_S E mX3_halfLoud d mc ms o G2 D2 0 0 38 [(0, .ref q0), (1, .int q1), (2, .int q2), (3, .int q3), (4, .int w7), (5, .int v5)] [] am_G0 D := by
          refine am_iinc (v := (1 : Int32)) (lv' := [(0, .ref q0), (1, .int q1), (2, .int q2), (3, .int q3), (4, .int w7), (5, .int (v5 + (1 : Int32)))]) (am_dec tmX3_halfLoud 21 rfl) rfl (by decide) (by decide) rfl ?_
          refine am_goto (tgt := 6) (am_dec tmX3_halfLoud 22 rfl) (by decide) ?_
          exact am_pick [0, 1, 2, 3, 4, 5] rfl (l_X3_halfLoud_L6 hE hdp h_q0 n w7 (v5 + (1 : Int32)) ex0 hf hk0)
        replace hf := g8
        refine am_icmp_lt (tgt := 38) (am_dec tmX3_halfLoud 19 rfl) (by decide) (fun c5 => ?_) (fun c5 => ?_)
        · rw [if_pos c5] at hf
          have hf := Option.some.inj hf
          subst hf
          exact am_pick [0, 1, 2, 3, 4, 5] rfl key6
        · rw [if_neg c5] at hf
          refine am_iinc (v := (1 : Int32)) (lv' := [(0, .ref q0), (1, .int q1), (2, .int q2), (3, .int q3), (4, .int (v4 + (1 : Int32))), (5, .int v5)]) (am_dec tmX3_halfLoud 20 rfl) rfl (by decide) (by decide) rfl ?_
          have hf := Option.some.inj hf
          subst hf
          exact am_pick [0, 1, 2, 3, 4, 5] rfl key6
set_option maxRecDepth 100000 in
set_option maxHeartbeats 4000000 in
theorem c_X3_halfLoud {E : am_E} (hE : am_EH E) {p0 : Nat} {p1 : Int32} {p2 : Int32} {p3 : Int32} {D : am_D} {r : Int32} (h_p0 : am_sh am_G0 p0 = some (7, 2)) (hf : f_X3_halfLoud p0 p1 p2 p3 D = some r) : am_C E mX3_halfLoud 3 0 0 [.ref p0, .int p1, .int p2, .int p3] am_G0 D (.inl (some (.int r))) am_G0 D := by
  refine am_C_of (by decide +kernel) (Nat.le_of_ble_eq_true rfl) ?_
  change am_S E mX3_halfLoud 3 0 0 (.inl (some (.int r))) am_G0 D 0 0 0 [(0, .ref p0), (1, .int p1), (2, .int p2), (3, .int p3)] [] am_G0 D
  unfold f_X3_halfLoud at hf
  refine am_iconst (v := (0 : Int32)) (am_dec tmX3_halfLoud 0 rfl) (by decide) ?_
  refine am_istore (lv' := [(0, .ref p0), (1, .int p1), (2, .int p2), (3, .int p3), (4, .int (0 : Int32))]) (am_dec tmX3_halfLoud 1 rfl) (by decide) rfl ?_
  refine am_iload_n (am_dec tmX3_halfLoud 2 rfl) rfl rfl ?_
  refine am_istore (lv' := [(0, .ref p0), (1, .int p1), (2, .int p2), (3, .int p3), (4, .int (0 : Int32)), (5, .int p1)]) (am_dec tmX3_halfLoud 3 rfl) (by decide) rfl ?_
  obtain ⟨e9, g10, hf⟩ := am_bd hf
  refine am_pick [0, 1, 2, 3, 4, 5] rfl (l_X3_halfLoud_L6 hE (Nat.le_refl _) h_p0 am_fu _ _ _ g10 (fun ex he => ?_))
  subst he
  refine am_iload (am_dec tmX3_halfLoud 23 rfl) rfl ?_
  have hf := Option.some.inj hf
  subst hf
  exact am_iret (am_dec tmX3_halfLoud 24 rfl) rfl (Nat.zero_le _) (Nat.zero_le _)
def f_X3_smearTogether_L5 (q0 : Nat) (q1 : Nat) (q2 : Int32) (D : am_D) : Nat → Int32 → Int32 → Option (Int32)
  | 0, _, _ => none
  | n + 1, v3, v4 =>
    if (D.1 q1 2) ≤ v4 then
    some (v3)
    else
    (f_X0_at q1 v4 D).bind fun x3 =>
    (f_X9_whereOf (q0 + 5) x3 D).bind fun x5 =>
    (if x5 = (-1 : Int32) then
    some (v3)
    else
    (f_X7_loud (q0 + 1) x3 D).bind fun x9 =>
    (f_X3_halfLoud (q0 + 3) x5 ((2 : Int32) * q2) x9 D).bind fun x11 =>
    (f_X3_halfLoud (q0 + 1) x3 ((2 : Int32) * q2) x9 D).bind fun x13 =>
    (f_X11_far x11 x13).bind fun x15 =>
    some ((v3 + x15))).bind fun w16 =>
    f_X3_smearTogether_L5 q0 q1 q2 D n w16 (v4 + (1 : Int32))
def f_X3_smearTogether (r0 : Nat) (p1 : Nat) (p2 : Int32) (D : am_D) : Option (Int32) :=
    (f_X3_smearTogether_L5 r0 p1 p2 D am_fu (0 : Int32) (0 : Int32)).bind fun e18 =>
    some e18
set_option maxRecDepth 100000 in
set_option maxHeartbeats 4000000 in
theorem l_X3_smearTogether_L5 {E : am_E} (hE : am_EH E) {d mc ms : Nat} {o : am_O} {G2 : am_G} {D2 : am_D} (hdp : 4 ≤ d) {q0 : Nat} {q1 : Nat} {q2 : Int32} {D : am_D} (h_q0 : am_sh am_G0 q0 = some (3, 8)) (h_q1 : am_sh am_G0 q1 = some (0, 6)) : ∀ (n : Nat) (v3 : Int32) (v4 : Int32) (ex0 : Int32), f_X3_smearTogether_L5 q0 q1 q2 D n v3 v4 = some ex0 → (∀ ex : Int32, ex0 = ex → am_S E mX3_smearTogether d mc ms o G2 D2 0 0 98 [(3, .int ex)] [] am_G0 D) → am_S E mX3_smearTogether d mc ms o G2 D2 0 0 5 [(0, .ref q0), (1, .ref q1), (2, .int q2), (3, .int v3), (4, .int v4)] [] am_G0 D
  | 0, _, _, _, hf, _ => by
    unfold f_X3_smearTogether_L5 at hf
    cases hf
  | n + 1, v3, v4, ex0, hf, hk0 => by
    unfold f_X3_smearTogether_L5 at hf
    refine am_iload (am_dec tmX3_smearTogether 4 rfl) rfl ?_
    refine am_aload_n (am_dec tmX3_smearTogether 5 rfl) rfl rfl ?_
    refine am_getI (j := 2) hE (am_dec tmX3_smearTogether 6 rfl) h_q1 cf0 (by decide) rfl lf_X3_116 ?_
    refine am_icmp_ge (tgt := 98) (am_dec tmX3_smearTogether 7 rfl) (by decide) (fun c1 => ?_) (fun c1 => ?_)
    · rw [if_pos c1] at hf
      have hf := Option.some.inj hf
      subst hf
      exact am_pick [3] rfl (hk0 _ rfl)
    · rw [if_neg c1] at hf
      refine am_aload_n (am_dec tmX3_smearTogether 8 rfl) rfl rfl ?_
      refine am_iload (am_dec tmX3_smearTogether 9 rfl) rfl ?_
      obtain ⟨x3, g2, hf⟩ := am_bd hf
      refine am_callV1 (As := [.int v4]) (st := []) hE (am_dec tmX3_smearTogether 10 rfl) ok_X0_at rfl lm_X3_119 in_X0_at se_X0_at h_q1 cf0 (c_X0_at hE h_q1 g2) rfl (Nat.lt_of_lt_of_le (by decide) hdp) (Nat.le_of_ble_eq_true rfl) (Nat.zero_le _) (Nat.zero_le _) rfl ?_
      refine am_istore (lv' := [(0, .ref q0), (1, .ref q1), (2, .int q2), (3, .int v3), (4, .int v4), (5, .int x3)]) (am_dec tmX3_smearTogether 11 rfl) (by decide) rfl ?_
      refine am_aload_n (am_dec tmX3_smearTogether 12 rfl) rfl rfl ?_
      refine am_getR (j := 2) hE (am_dec tmX3_smearTogether 13 rfl) h_q0 cf3 (by decide) rfl lf_X3_26 (ro_X3_0_2 h_q0) ?_
      refine am_iload (am_dec tmX3_smearTogether 14 rfl) rfl ?_
      obtain ⟨x5, g4, hf⟩ := am_bd hf
      refine am_callV1 (As := [.int x3]) (st := []) hE (am_dec tmX3_smearTogether 15 rfl) ok_X9_whereOf rfl lm_X3_122 in_X9_whereOf se_X9_whereOf (so_X3_5 h_q0) cf9 (c_X9_whereOf hE (so_X3_5 h_q0) g4) rfl (Nat.lt_of_lt_of_le (by decide) hdp) (Nat.le_of_ble_eq_true rfl) (Nat.zero_le _) (Nat.zero_le _) rfl ?_
      refine am_istore (lv' := [(0, .ref q0), (1, .ref q1), (2, .int q2), (3, .int v3), (4, .int v4), (5, .int x3), (6, .int x5)]) (am_dec tmX3_smearTogether 16 rfl) (by decide) rfl ?_
      refine am_iload (am_dec tmX3_smearTogether 17 rfl) rfl ?_
      refine am_iconst (v := (-1 : Int32)) (am_dec tmX3_smearTogether 18 rfl) (by decide) ?_
      obtain ⟨w16, g17, hf⟩ := am_bd hf
      have key7 : am_S E mX3_smearTogether d mc ms o G2 D2 0 0 92 [(0, .ref q0), (1, .ref q1), (2, .int q2), (3, .int w16), (4, .int v4)] [] am_G0 D := by
        refine am_iinc (v := (1 : Int32)) (lv' := [(0, .ref q0), (1, .ref q1), (2, .int q2), (3, .int w16), (4, .int (v4 + (1 : Int32)))]) (am_dec tmX3_smearTogether 49 rfl) rfl (by decide) (by decide) rfl ?_
        refine am_goto (tgt := 5) (am_dec tmX3_smearTogether 50 rfl) (by decide) ?_
        exact am_pick [0, 1, 2, 3, 4] rfl (l_X3_smearTogether_L5 hE hdp h_q0 h_q1 n w16 (v4 + (1 : Int32)) ex0 hf hk0)
      replace hf := g17
      refine am_icmp_eq (tgt := 92) (am_dec tmX3_smearTogether 19 rfl) (by decide) (fun c6 => ?_) (fun c6 => ?_)
      · rw [if_pos c6] at hf
        have hf := Option.some.inj hf
        subst hf
        exact am_pick [0, 1, 2, 3, 4] rfl key7
      · rw [if_neg c6] at hf
        refine am_aload_n (am_dec tmX3_smearTogether 20 rfl) rfl rfl ?_
        refine am_getR (j := 0) hE (am_dec tmX3_smearTogether 21 rfl) h_q0 cf3 (by decide) rfl lf_X3_14 (ro_X3_0_0 h_q0) ?_
        refine am_iload (am_dec tmX3_smearTogether 22 rfl) rfl ?_
        obtain ⟨x9, g8, hf⟩ := am_bd hf
        refine am_callV1 (As := [.int x3]) (st := []) hE (am_dec tmX3_smearTogether 23 rfl) ok_X7_loud rfl lm_X3_141 in_X7_loud se_X7_loud (so_X3_1 h_q0) cf7 (c_X7_loud hE (so_X3_1 h_q0) g8) rfl (Nat.lt_of_lt_of_le (by decide) hdp) (Nat.le_of_ble_eq_true rfl) (Nat.zero_le _) (Nat.zero_le _) rfl ?_
        refine am_istore (lv' := [(0, .ref q0), (1, .ref q1), (2, .int q2), (3, .int v3), (4, .int v4), (5, .int x3), (6, .int x5), (7, .int x9)]) (am_dec tmX3_smearTogether 24 rfl) (by decide) rfl ?_
        refine am_aload_n (am_dec tmX3_smearTogether 25 rfl) rfl rfl ?_
        refine am_getR (j := 1) hE (am_dec tmX3_smearTogether 26 rfl) h_q0 cf3 (by decide) rfl lf_X3_20 (ro_X3_0_1 h_q0) ?_
        refine am_iload (am_dec tmX3_smearTogether 27 rfl) rfl ?_
        refine am_iconst (v := (2 : Int32)) (am_dec tmX3_smearTogether 28 rfl) (by decide) ?_
        refine am_iload_n (am_dec tmX3_smearTogether 29 rfl) rfl rfl ?_
        refine am_imul (am_dec tmX3_smearTogether 30 rfl) ?_
        refine am_iload (am_dec tmX3_smearTogether 31 rfl) rfl ?_
        obtain ⟨x11, g10, hf⟩ := am_bd hf
        refine am_callS1 (As := [.ref (q0 + 3), .int x5, .int ((2 : Int32) * q2), .int x9]) (st := []) (am_dec tmX3_smearTogether 32 rfl) ok_X3_halfLoud rfl lm_X3_144 st_X3_halfLoud (c_X3_halfLoud hE (so_X3_3 h_q0) g10) rfl (Nat.lt_of_lt_of_le (by decide) hdp) (Nat.le_of_ble_eq_true rfl) (Nat.zero_le _) (Nat.zero_le _) rfl ?_
        refine am_istore (lv' := [(0, .ref q0), (1, .ref q1), (2, .int q2), (3, .int v3), (4, .int v4), (5, .int x3), (6, .int x5), (7, .int x9), (8, .int x11)]) (am_dec tmX3_smearTogether 33 rfl) (by decide) rfl ?_
        refine am_aload_n (am_dec tmX3_smearTogether 34 rfl) rfl rfl ?_
        refine am_getR (j := 0) hE (am_dec tmX3_smearTogether 35 rfl) h_q0 cf3 (by decide) rfl lf_X3_14 (ro_X3_0_0 h_q0) ?_
        refine am_iload (am_dec tmX3_smearTogether 36 rfl) rfl ?_
        refine am_iconst (v := (2 : Int32)) (am_dec tmX3_smearTogether 37 rfl) (by decide) ?_
        refine am_iload_n (am_dec tmX3_smearTogether 38 rfl) rfl rfl ?_
        refine am_imul (am_dec tmX3_smearTogether 39 rfl) ?_
        refine am_iload (am_dec tmX3_smearTogether 40 rfl) rfl ?_
        obtain ⟨x13, g12, hf⟩ := am_bd hf
        refine am_callS1 (As := [.ref (q0 + 1), .int x3, .int ((2 : Int32) * q2), .int x9]) (st := []) (am_dec tmX3_smearTogether 41 rfl) ok_X3_halfLoud rfl lm_X3_144 st_X3_halfLoud (c_X3_halfLoud hE (so_X3_1 h_q0) g12) rfl (Nat.lt_of_lt_of_le (by decide) hdp) (Nat.le_of_ble_eq_true rfl) (Nat.zero_le _) (Nat.zero_le _) rfl ?_
        refine am_istore (lv' := [(0, .ref q0), (1, .ref q1), (2, .int q2), (3, .int v3), (4, .int v4), (5, .int x3), (6, .int x5), (7, .int x9), (8, .int x11), (9, .int x13)]) (am_dec tmX3_smearTogether 42 rfl) (by decide) rfl ?_
        refine am_iload_n (am_dec tmX3_smearTogether 43 rfl) rfl rfl ?_
        refine am_iload (am_dec tmX3_smearTogether 44 rfl) rfl ?_
        refine am_iload (am_dec tmX3_smearTogether 45 rfl) rfl ?_
        obtain ⟨x15, g14, hf⟩ := am_bd hf
        refine am_callSN1 (As := [.int x11, .int x13]) (st := [.int v3]) hE (am_dec tmX3_smearTogether 46 rfl) ok_X11_far rfl lm_X3_148 st_X11_far (c_X11_far hE g14) rfl (Nat.lt_of_lt_of_le (by decide) hdp) (Nat.le_of_ble_eq_true rfl) (Nat.zero_le _) (Nat.zero_le _) rfl ?_
        refine am_iadd (am_dec tmX3_smearTogether 47 rfl) ?_
        refine am_istore_n (lv' := [(0, .ref q0), (1, .ref q1), (2, .int q2), (3, .int (v3 + x15)), (4, .int v4), (5, .int x3), (6, .int x5), (7, .int x9), (8, .int x11), (9, .int x13)]) (am_dec tmX3_smearTogether 48 rfl) rfl (by decide) rfl ?_
        have hf := Option.some.inj hf
        subst hf
        exact am_pick [0, 1, 2, 3, 4] rfl key7
set_option maxRecDepth 100000 in
set_option maxHeartbeats 4000000 in
theorem c_X3_smearTogether {E : am_E} (hE : am_EH E) {r0 : Nat} {p1 : Nat} {p2 : Int32} {D : am_D} {r : Int32} (h_r0 : am_sh am_G0 r0 = some (3, 8)) (h_p1 : am_sh am_G0 p1 = some (0, 6)) (hf : f_X3_smearTogether r0 p1 p2 D = some r) : am_C E mX3_smearTogether 4 0 0 [.ref r0, .ref p1, .int p2] am_G0 D (.inl (some (.int r))) am_G0 D := by
  refine am_C_of (by decide +kernel) (Nat.le_of_ble_eq_true rfl) ?_
  change am_S E mX3_smearTogether 4 0 0 (.inl (some (.int r))) am_G0 D 0 0 0 [(0, .ref r0), (1, .ref p1), (2, .int p2)] [] am_G0 D
  unfold f_X3_smearTogether at hf
  refine am_iconst (v := (0 : Int32)) (am_dec tmX3_smearTogether 0 rfl) (by decide) ?_
  refine am_istore_n (lv' := [(0, .ref r0), (1, .ref p1), (2, .int p2), (3, .int (0 : Int32))]) (am_dec tmX3_smearTogether 1 rfl) rfl (by decide) rfl ?_
  refine am_iconst (v := (0 : Int32)) (am_dec tmX3_smearTogether 2 rfl) (by decide) ?_
  refine am_istore (lv' := [(0, .ref r0), (1, .ref p1), (2, .int p2), (3, .int (0 : Int32)), (4, .int (0 : Int32))]) (am_dec tmX3_smearTogether 3 rfl) (by decide) rfl ?_
  obtain ⟨e18, g19, hf⟩ := am_bd hf
  refine am_pick [0, 1, 2, 3, 4] rfl (l_X3_smearTogether_L5 hE (Nat.le_refl _) h_r0 h_p1 am_fu _ _ _ g19 (fun ex he => ?_))
  subst he
  refine am_iload_n (am_dec tmX3_smearTogether 51 rfl) rfl rfl ?_
  have hf := Option.some.inj hf
  subst hf
  exact am_iret (am_dec tmX3_smearTogether 52 rfl) rfl (Nat.zero_le _) (Nat.zero_le _)
def f_X7_silent_L2 (q0 : Nat) (q1 : Int32) (q2 : Int32) (D : am_D) : Nat → Int32 → Option (Unit ⊕ Unit)
  | 0, _ => none
  | n + 1, v3 =>
    if q2 ≤ v3 then
    some (.inr ())
    else
    (f_X7_at q0 (q1 + v3) D).bind fun x3 =>
    if x3 = 0 then
    f_X7_silent_L2 q0 q1 q2 D n (v3 + (1 : Int32))
    else
    some (.inl ())
def f_X7_silent (r0 : Nat) (p1 : Int32) (p2 : Int32) (D : am_D) : Option (Int32) :=
    am_b2 (f_X7_silent_L2 r0 p1 p2 D am_fu (0 : Int32))
    (fun e5 =>
    some (0 : Int32))
    (fun e6 =>
    some (1 : Int32))
set_option maxRecDepth 100000 in
set_option maxHeartbeats 4000000 in
theorem l_X7_silent_L2 {E : am_E} (hE : am_EH E) {d mc ms : Nat} {o : am_O} {G2 : am_G} {D2 : am_D} (hdp : 2 ≤ d) {q0 : Nat} {q1 : Int32} {q2 : Int32} {D : am_D} (h_q0 : am_sh am_G0 q0 = some (7, 2)) : ∀ (n : Nat) (v3 : Int32) (ex0 : Unit ⊕ Unit), f_X7_silent_L2 q0 q1 q2 D n v3 = some ex0 → (∀ ex : Unit, ex0 = .inl ex → am_S E mX7_silent d mc ms o G2 D2 0 0 17 [] [] am_G0 D) → (∀ ex : Unit, ex0 = .inr ex → am_S E mX7_silent d mc ms o G2 D2 0 0 25 [] [] am_G0 D) → am_S E mX7_silent d mc ms o G2 D2 0 0 2 [(0, .ref q0), (1, .int q1), (2, .int q2), (3, .int v3)] [] am_G0 D
  | 0, _, _, hf, _, _ => by
    unfold f_X7_silent_L2 at hf
    cases hf
  | n + 1, v3, ex0, hf, hk0, hk1 => by
    unfold f_X7_silent_L2 at hf
    refine am_iload_n (am_dec tmX7_silent 2 rfl) rfl rfl ?_
    refine am_iload_n (am_dec tmX7_silent 3 rfl) rfl rfl ?_
    refine am_icmp_ge (tgt := 25) (am_dec tmX7_silent 4 rfl) (by decide) (fun c1 => ?_) (fun c1 => ?_)
    · rw [if_pos c1] at hf
      have hf := Option.some.inj hf
      subst hf
      exact am_pick [] rfl (hk1 _ rfl)
    · rw [if_neg c1] at hf
      refine am_aload_n (am_dec tmX7_silent 5 rfl) rfl rfl ?_
      refine am_iload_n (am_dec tmX7_silent 6 rfl) rfl rfl ?_
      refine am_iload_n (am_dec tmX7_silent 7 rfl) rfl rfl ?_
      refine am_iadd (am_dec tmX7_silent 8 rfl) ?_
      obtain ⟨x3, g2, hf⟩ := am_bd hf
      refine am_callV1 (As := [.int (q1 + v3)]) (st := []) hE (am_dec tmX7_silent 9 rfl) ok_X7_at rfl lm_X7_35 in_X7_at se_X7_at h_q0 cf7 (c_X7_at hE h_q0 g2) rfl (Nat.lt_of_lt_of_le (by decide) hdp) (Nat.le_of_ble_eq_true rfl) (Nat.zero_le _) (Nat.zero_le _) rfl ?_
      refine am_if_eq (tgt := 19) (am_dec tmX7_silent 10 rfl) (by decide) (fun c4 => ?_) (fun c4 => ?_)
      · rw [if_pos c4] at hf
        refine am_iinc (v := (1 : Int32)) (lv' := [(0, .ref q0), (1, .int q1), (2, .int q2), (3, .int (v3 + (1 : Int32)))]) (am_dec tmX7_silent 13 rfl) rfl (by decide) (by decide) rfl ?_
        refine am_goto (tgt := 2) (am_dec tmX7_silent 14 rfl) (by decide) ?_
        exact am_pick [0, 1, 2, 3] rfl (l_X7_silent_L2 hE hdp h_q0 n (v3 + (1 : Int32)) ex0 hf hk0 hk1)
      · rw [if_neg c4] at hf
        have hf := Option.some.inj hf
        subst hf
        exact am_pick [] rfl (hk0 _ rfl)
set_option maxRecDepth 100000 in
set_option maxHeartbeats 4000000 in
theorem c_X7_silent {E : am_E} (hE : am_EH E) {r0 : Nat} {p1 : Int32} {p2 : Int32} {D : am_D} {r : Int32} (h_r0 : am_sh am_G0 r0 = some (7, 2)) (hf : f_X7_silent r0 p1 p2 D = some r) : am_C E mX7_silent 2 0 0 [.ref r0, .int p1, .int p2] am_G0 D (.inl (some (.int r))) am_G0 D := by
  refine am_C_of (by decide +kernel) (Nat.le_of_ble_eq_true rfl) ?_
  change am_S E mX7_silent 2 0 0 (.inl (some (.int r))) am_G0 D 0 0 0 [(0, .ref r0), (1, .int p1), (2, .int p2)] [] am_G0 D
  unfold f_X7_silent at hf
  refine am_iconst (v := (0 : Int32)) (am_dec tmX7_silent 0 rfl) (by decide) ?_
  refine am_istore_n (lv' := [(0, .ref r0), (1, .int p1), (2, .int p2), (3, .int (0 : Int32))]) (am_dec tmX7_silent 1 rfl) rfl (by decide) rfl ?_
  rcases am_b2d hf with ⟨e5, g7, hf⟩ | ⟨e6, g7, hf⟩
  · refine am_pick [0, 1, 2, 3] rfl (l_X7_silent_L2 hE (Nat.le_refl _) h_r0 am_fu _ _ g7 (fun ex he => ?_) (fun ex he => by cases he))
    cases he
    refine am_iconst (v := (0 : Int32)) (am_dec tmX7_silent 11 rfl) (by decide) ?_
    have hf := Option.some.inj hf
    subst hf
    exact am_zret (am_dec tmX7_silent 12 rfl) rfl am_z0 (Nat.zero_le _) (Nat.zero_le _)
  · refine am_pick [0, 1, 2, 3] rfl (l_X7_silent_L2 hE (Nat.le_refl _) h_r0 am_fu _ _ g7 (fun ex he => by cases he) (fun ex he => ?_))
    cases he
    refine am_iconst (v := (1 : Int32)) (am_dec tmX7_silent 15 rfl) (by decide) ?_
    have hf := Option.some.inj hf
    subst hf
    exact am_zret (am_dec tmX7_silent 16 rfl) rfl am_z1 (Nat.zero_le _) (Nat.zero_le _)
theorem z_X7_silent {r0 : Nat} {p1 : Int32} {p2 : Int32} {D : am_D} {r : Int32} (hf : f_X7_silent r0 p1 p2 D = some r) : narrow .boolean (.int r) = .int r := by
  unfold f_X7_silent at hf
  rcases am_b2d hf with ⟨e5, g7, hf⟩ | ⟨e6, g7, hf⟩
  · have hf := Option.some.inj hf
    subst hf
    exact am_z0
  · have hf := Option.some.inj hf
    subst hf
    exact am_z1
