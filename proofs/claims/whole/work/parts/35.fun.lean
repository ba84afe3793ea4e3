def f_X11_countedOf_L5 (q1 : Nat) : Nat → Int64 → Int32 → am_D → Option (Int64 × am_D)
  | 0, _, _, _ => none
  | n + 1, v2, v4, D =>
    if (4 : Int32) ≤ v4 then
    some (v2, D)
    else
    (am_gI D 22 4 v4).bind fun x2 =>
    (f_X11_harmOf q1 v4 D).bind fun x5 =>
    f_X11_countedOf_L5 q1 n (v2 + ((Int32.toInt64 x2) * (Int32.toInt64 x5.1))) (v4 + (1 : Int32)) x5.2
def f_X11_countedOf (p1 : Nat) (D : am_D) : Option ((Int32 × am_D)) :=
    (f_X11_countedOf_L5 p1 am_fu (0 : Int64) (0 : Int32) D).bind fun e6 =>
    some ((Int64.toInt32 (am_mnL e6.1 (1000000000 : Int64))), e6.2)
set_option maxRecDepth 100000 in
set_option maxHeartbeats 4000000 in
theorem l_X11_countedOf_L5 {E : am_E} (hE : am_EH E) {d mc ms : Nat} {o : am_O} {G2 : am_G} {D2 : am_D} (hdp : 6 ≤ d) {q1 : Nat} (h_q1 : am_sh am_G0 q1 = some (3, 8)) : ∀ (n : Nat) (v2 : Int64) (v4 : Int32) (D : am_D) (ex0 : Int64 × am_D), f_X11_countedOf_L5 q1 n v2 v4 D = some ex0 → (∀ ex : Int64 × am_D, ex0 = ex → am_S E mX11_countedOf d mc ms o G2 D2 0 0 47 [(2, .long ex.1)] [] am_G0 ex.2) → am_S E mX11_countedOf d mc ms o G2 D2 0 0 5 [(0, .ref 16), (1, .ref q1), (2, .long v2), (4, .int v4)] [] am_G0 D
  | 0, _, _, _, _, hf, _ => by
    unfold f_X11_countedOf_L5 at hf
    cases hf
  | n + 1, v2, v4, D, ex0, hf, hk0 => by
    unfold f_X11_countedOf_L5 at hf
    refine am_iload (am_dec tmX11_countedOf 4 rfl) rfl ?_
    refine am_aload_n (am_dec tmX11_countedOf 5 rfl) rfl rfl ?_
    refine am_getR (j := 0) hE (am_dec tmX11_countedOf 6 rfl) sh_16 cf11 (by decide) rfl lf_X11_10 rf_16_0 ?_
    refine am_getR (j := 4) hE (am_dec tmX11_countedOf 7 rfl) sh_17 cf1 (by decide) rfl lf_X11_229 rf_17_4 ?_
    refine am_alen (t := 0) (v := (4 : Int32)) hE (am_dec tmX11_countedOf 8 rfl) sh_22 (by decide) (by decide) ?_
    refine am_icmp_ge (tgt := 47) (am_dec tmX11_countedOf 9 rfl) (by decide) (fun c1 => ?_) (fun c1 => ?_)
    · rw [if_pos c1] at hf
      have hf := Option.some.inj hf
      subst hf
      exact am_pick [2] rfl (hk0 _ rfl)
    · rw [if_neg c1] at hf
      refine am_lload_n (am_dec tmX11_countedOf 10 rfl) rfl rfl ?_
      refine am_aload_n (am_dec tmX11_countedOf 11 rfl) rfl rfl ?_
      refine am_getR (j := 0) hE (am_dec tmX11_countedOf 12 rfl) sh_16 cf11 (by decide) rfl lf_X11_10 rf_16_0 ?_
      refine am_getR (j := 4) hE (am_dec tmX11_countedOf 13 rfl) sh_17 cf1 (by decide) rfl lf_X11_229 rf_17_4 ?_
      refine am_iload (am_dec tmX11_countedOf 14 rfl) rfl ?_
      obtain ⟨x2, g3, hf⟩ := am_bd hf
      refine am_iald2 hE (am_dec tmX11_countedOf 15 rfl) sh_22 g3 ?_
      refine am_i2l (am_dec tmX11_countedOf 16 rfl) ?_
      refine am_aload_n (am_dec tmX11_countedOf 17 rfl) rfl rfl ?_
      refine am_aload_n (am_dec tmX11_countedOf 18 rfl) rfl rfl ?_
      refine am_iload (am_dec tmX11_countedOf 19 rfl) rfl ?_
      obtain ⟨x5, g4, hf⟩ := am_bd hf
      refine am_callV1 (As := [.ref q1, .int v4]) (st := [.long (Int32.toInt64 x2), .long v2]) hE (am_dec tmX11_countedOf 20 rfl) ok_X11_harmOf rfl lm_X11_225 in_X11_harmOf se_X11_harmOf sh_16 cf11 (c_X11_harmOf hE h_q1 g4) rfl (Nat.lt_of_lt_of_le (by decide) hdp) (Nat.le_of_ble_eq_true rfl) (Nat.zero_le _) (Nat.zero_le _) rfl ?_
      refine am_i2l (am_dec tmX11_countedOf 21 rfl) ?_
      refine am_lmul (am_dec tmX11_countedOf 22 rfl) ?_
      refine am_ladd (am_dec tmX11_countedOf 23 rfl) ?_
      refine am_lstore_n (lv' := [(0, .ref 16), (1, .ref q1), (2, .long (v2 + ((Int32.toInt64 x2) * (Int32.toInt64 x5.1)))), (4, .int v4)]) (am_dec tmX11_countedOf 24 rfl) rfl (by decide) rfl ?_
      refine am_iinc (v := (1 : Int32)) (lv' := [(0, .ref 16), (1, .ref q1), (2, .long (v2 + ((Int32.toInt64 x2) * (Int32.toInt64 x5.1)))), (4, .int (v4 + (1 : Int32)))]) (am_dec tmX11_countedOf 25 rfl) rfl (by decide) (by decide) rfl ?_
      refine am_goto (tgt := 5) (am_dec tmX11_countedOf 26 rfl) (by decide) ?_
      exact am_pick [0, 1, 2, 3] rfl (l_X11_countedOf_L5 hE hdp h_q1 n (v2 + ((Int32.toInt64 x2) * (Int32.toInt64 x5.1))) (v4 + (1 : Int32)) x5.2 ex0 hf hk0)
set_option maxRecDepth 100000 in
set_option maxHeartbeats 4000000 in
theorem c_X11_countedOf {E : am_E} (hE : am_EH E) {p1 : Nat} {D : am_D} {r : (Int32 × am_D)} (h_p1 : am_sh am_G0 p1 = some (3, 8)) (hf : f_X11_countedOf p1 D = some r) : am_C E mX11_countedOf 6 0 0 [.ref 16, .ref p1] am_G0 D (.inl (some (.int r.1))) am_G0 r.2 := by
  refine am_C_of (by decide +kernel) (Nat.le_of_ble_eq_true rfl) ?_
  change am_S E mX11_countedOf 6 0 0 (.inl (some (.int r.1))) am_G0 r.2 0 0 0 [(0, .ref 16), (1, .ref p1)] [] am_G0 D
  unfold f_X11_countedOf at hf
  refine am_lconst (v := (0 : Int64)) (am_dec tmX11_countedOf 0 rfl) (by decide) ?_
  refine am_lstore_n (lv' := [(0, .ref 16), (1, .ref p1), (2, .long (0 : Int64))]) (am_dec tmX11_countedOf 1 rfl) rfl (by decide) rfl ?_
  refine am_iconst (v := (0 : Int32)) (am_dec tmX11_countedOf 2 rfl) (by decide) ?_
  refine am_istore (lv' := [(0, .ref 16), (1, .ref p1), (2, .long (0 : Int64)), (4, .int (0 : Int32))]) (am_dec tmX11_countedOf 3 rfl) (by decide) rfl ?_
  obtain ⟨e6, g7, hf⟩ := am_bd hf
  refine am_pick [0, 1, 2, 3] rfl (l_X11_countedOf_L5 hE (Nat.le_refl _) h_p1 am_fu _ _ _ _ g7 (fun ex he => ?_))
  subst he
  refine am_lload_n (am_dec tmX11_countedOf 27 rfl) rfl rfl ?_
  refine am_ldc2 (v := (1000000000 : Int64)) (am_dec tmX11_countedOf 28 rfl) lc_X11_474 ?_
  refine am_mminL2 (am_dec tmX11_countedOf 29 rfl) lm_X11_476 (Nat.le_of_ble_eq_true rfl) (Nat.zero_le _) (Nat.zero_le _) ?_
  refine am_l2i (am_dec tmX11_countedOf 30 rfl) ?_
  have hf := Option.some.inj hf
  subst hf
  exact am_iret (am_dec tmX11_countedOf 31 rfl) rfl (Nat.zero_le _) (Nat.zero_le _)
def f_X11_harm (p1 : Int32) (D : am_D) : Option ((String × am_D) ⊕ (Int32 × am_D)) :=
    (f_X11_within p1 (0 : Int32) (4 : Int32)).bind fun x2 =>
    am_btD (f_X11_need x2) D fun x4 =>
    if (D.1 71 7) = 0 then
    some (.inr ((-1 : Int32), D))
    else
    if p1 = (4 : Int32) then
    (f_X11_countedOf 71 D).bind fun x10 =>
    some (.inr (x10.1, x10.2))
    else
    (f_X11_harmOf 71 p1 D).bind fun x8 =>
    some (.inr (x8.1, x8.2))
set_option maxRecDepth 100000 in
set_option maxHeartbeats 4000000 in
theorem c_X11_harm {E : am_E} (hE : am_EH E) {p1 : Int32} {D : am_D} {r : (Int32 × am_D)}  (hf : f_X11_harm p1 D = some (.inr r)) : am_C E mX11_harm 7 0 0 [.ref 16, .int p1] am_G0 D (.inl (some (.int r.1))) am_G0 r.2 := by
  refine am_C_of (by decide +kernel) (Nat.le_of_ble_eq_true rfl) ?_
  change am_S E mX11_harm 7 0 0 (.inl (some (.int r.1))) am_G0 r.2 0 0 0 [(0, .ref 16), (1, .int p1)] [] am_G0 D
  unfold f_X11_harm at hf
  refine am_iload_n (am_dec tmX11_harm 0 rfl) rfl rfl ?_
  refine am_iconst (v := (0 : Int32)) (am_dec tmX11_harm 1 rfl) (by decide) ?_
  refine am_iconst (v := (4 : Int32)) (am_dec tmX11_harm 2 rfl) (by decide) ?_
  obtain ⟨x2, g1, hf⟩ := am_bd hf
  refine am_callS1 (As := [.int p1, .int (0 : Int32), .int (4 : Int32)]) (st := []) (am_dec tmX11_harm 3 rfl) ok_X11_within rfl lm_X11_143 st_X11_within (c_X11_within hE g1) rfl (by decide) (Nat.le_of_ble_eq_true rfl) (Nat.zero_le _) (Nat.zero_le _) rfl ?_
  obtain ⟨x4, g3, hf⟩ := am_btDR hf
  refine am_callS0 (As := [.int x2]) (st := []) (am_dec tmX11_harm 4 rfl) ok_X11_need rfl lm_X11_94 st_X11_need (c_X11_need hE g3) rfl (by decide) (Nat.le_of_ble_eq_true rfl) (Nat.zero_le _) (Nat.zero_le _) rfl ?_
  refine am_aload_n (am_dec tmX11_harm 5 rfl) rfl rfl ?_
  refine am_getR (j := 4) hE (am_dec tmX11_harm 6 rfl) sh_16 cf11 (by decide) rfl lf_X11_33 rf_16_4 ?_
  refine am_getI (j := 7) hE (am_dec tmX11_harm 7 rfl) sh_71 cf3 (by decide) rfl lf_X11_217 ?_
  refine am_if_ne (tgt := 21) (am_dec tmX11_harm 8 rfl) (by decide) (fun c5 => ?_) (fun c5 => ?_)
  · rw [if_neg c5] at hf
    refine am_iload_n (am_dec tmX11_harm 11 rfl) rfl rfl ?_
    refine am_iconst (v := (4 : Int32)) (am_dec tmX11_harm 12 rfl) (by decide) ?_
    refine am_icmp_ne (tgt := 37) (am_dec tmX11_harm 13 rfl) (by decide) (fun c6 => ?_) (fun c6 => ?_)
    · rw [if_neg c6] at hf
      refine am_aload_n (am_dec tmX11_harm 19 rfl) rfl rfl ?_
      refine am_aload_n (am_dec tmX11_harm 20 rfl) rfl rfl ?_
      refine am_getR (j := 4) hE (am_dec tmX11_harm 21 rfl) sh_16 cf11 (by decide) rfl lf_X11_33 rf_16_4 ?_
      refine am_iload_n (am_dec tmX11_harm 22 rfl) rfl rfl ?_
      obtain ⟨x8, g7, hf⟩ := am_bd hf
      refine am_callV1 (As := [.ref 71, .int p1]) (st := []) hE (am_dec tmX11_harm 23 rfl) ok_X11_harmOf rfl lm_X11_225 in_X11_harmOf se_X11_harmOf sh_16 cf11 (c_X11_harmOf hE sh_71 g7) rfl (by decide) (Nat.le_of_ble_eq_true rfl) (Nat.zero_le _) (Nat.zero_le _) rfl ?_
      have hf := Sum.inr.inj (Option.some.inj hf)
      subst hf
      exact am_iret (am_dec tmX11_harm 24 rfl) rfl (Nat.zero_le _) (Nat.zero_le _)
    · rw [if_pos c6] at hf
      refine am_aload_n (am_dec tmX11_harm 14 rfl) rfl rfl ?_
      refine am_aload_n (am_dec tmX11_harm 15 rfl) rfl rfl ?_
      refine am_getR (j := 4) hE (am_dec tmX11_harm 16 rfl) sh_16 cf11 (by decide) rfl lf_X11_33 rf_16_4 ?_
      obtain ⟨x10, g9, hf⟩ := am_bd hf
      refine am_callV1 (As := [.ref 71]) (st := []) hE (am_dec tmX11_harm 17 rfl) ok_X11_countedOf rfl lm_X11_221 in_X11_countedOf se_X11_countedOf sh_16 cf11 (c_X11_countedOf hE sh_71 g9) rfl (by decide) (Nat.le_of_ble_eq_true rfl) (Nat.zero_le _) (Nat.zero_le _) rfl ?_
      refine am_goto (tgt := 46) (am_dec tmX11_harm 18 rfl) (by decide) ?_
      have hf := Sum.inr.inj (Option.some.inj hf)
      subst hf
      exact am_iret (am_dec tmX11_harm 24 rfl) rfl (Nat.zero_le _) (Nat.zero_le _)
  · rw [if_pos c5] at hf
    refine am_iconst (v := (-1 : Int32)) (am_dec tmX11_harm 9 rfl) (by decide) ?_
    have hf := Sum.inr.inj (Option.some.inj hf)
    subst hf
    exact am_iret (am_dec tmX11_harm 10 rfl) rfl (Nat.zero_le _) (Nat.zero_le _)
set_option maxRecDepth 100000 in
set_option maxHeartbeats 4000000 in
theorem t_X11_harm {E : am_E} (hE : am_EH E) {p1 : Int32} {D : am_D} {r : String × am_D}  (hf : f_X11_harm p1 D = some (.inl r)) : am_C E mX11_harm 7 1 6 [.ref 16, .int p1] am_G0 D (.inr r.1) am_G0 r.2 := by
  refine am_C_of (by decide +kernel) (Nat.le_of_ble_eq_true rfl) ?_
  change am_S E mX11_harm 7 1 6 (.inr r.1) am_G0 r.2 0 0 0 [(0, .ref 16), (1, .int p1)] [] am_G0 D
  unfold f_X11_harm at hf
  refine am_iload_n (am_dec tmX11_harm 0 rfl) rfl rfl ?_
  refine am_iconst (v := (0 : Int32)) (am_dec tmX11_harm 1 rfl) (by decide) ?_
  refine am_iconst (v := (4 : Int32)) (am_dec tmX11_harm 2 rfl) (by decide) ?_
  obtain ⟨x2, g1, hf⟩ := am_bd hf
  refine am_callS1 (As := [.int p1, .int (0 : Int32), .int (4 : Int32)]) (st := []) (am_dec tmX11_harm 3 rfl) ok_X11_within rfl lm_X11_143 st_X11_within (c_X11_within hE g1) rfl (by decide) (Nat.le_of_ble_eq_true rfl) (Nat.zero_le _) (Nat.zero_le _) rfl ?_
  rcases am_btDT hf with ⟨g3, eD⟩ | ⟨x4, g3, hf⟩
  · rw [eD]
    exact am_callS_out (As := [.int x2]) (st := []) (am_dec tmX11_harm 4 rfl) ok_X11_need rfl lm_X11_94 st_X11_need (t_X11_need hE g3) rfl (by decide) (Nat.le_of_ble_eq_true rfl) (Nat.le_refl _) (Nat.le_refl _) rfl rfl
  · refine am_callS0 (As := [.int x2]) (st := []) (am_dec tmX11_harm 4 rfl) ok_X11_need rfl lm_X11_94 st_X11_need (c_X11_need hE g3) rfl (by decide) (Nat.le_of_ble_eq_true rfl) (Nat.zero_le _) (Nat.zero_le _) rfl ?_
    refine am_aload_n (am_dec tmX11_harm 5 rfl) rfl rfl ?_
    refine am_getR (j := 4) hE (am_dec tmX11_harm 6 rfl) sh_16 cf11 (by decide) rfl lf_X11_33 rf_16_4 ?_
    refine am_getI (j := 7) hE (am_dec tmX11_harm 7 rfl) sh_71 cf3 (by decide) rfl lf_X11_217 ?_
    refine am_if_ne (tgt := 21) (am_dec tmX11_harm 8 rfl) (by decide) (fun c5 => ?_) (fun c5 => ?_)
    · rw [if_neg c5] at hf
      refine am_iload_n (am_dec tmX11_harm 11 rfl) rfl rfl ?_
      refine am_iconst (v := (4 : Int32)) (am_dec tmX11_harm 12 rfl) (by decide) ?_
      refine am_icmp_ne (tgt := 37) (am_dec tmX11_harm 13 rfl) (by decide) (fun c6 => ?_) (fun c6 => ?_)
      · rw [if_neg c6] at hf
        refine am_aload_n (am_dec tmX11_harm 19 rfl) rfl rfl ?_
        refine am_aload_n (am_dec tmX11_harm 20 rfl) rfl rfl ?_
        refine am_getR (j := 4) hE (am_dec tmX11_harm 21 rfl) sh_16 cf11 (by decide) rfl lf_X11_33 rf_16_4 ?_
        refine am_iload_n (am_dec tmX11_harm 22 rfl) rfl rfl ?_
        obtain ⟨x8, g7, hf⟩ := am_bd hf
        refine am_callV1 (As := [.ref 71, .int p1]) (st := []) hE (am_dec tmX11_harm 23 rfl) ok_X11_harmOf rfl lm_X11_225 in_X11_harmOf se_X11_harmOf sh_16 cf11 (c_X11_harmOf hE sh_71 g7) rfl (by decide) (Nat.le_of_ble_eq_true rfl) (Nat.zero_le _) (Nat.zero_le _) rfl ?_
        cases hf
      · rw [if_pos c6] at hf
        refine am_aload_n (am_dec tmX11_harm 14 rfl) rfl rfl ?_
        refine am_aload_n (am_dec tmX11_harm 15 rfl) rfl rfl ?_
        refine am_getR (j := 4) hE (am_dec tmX11_harm 16 rfl) sh_16 cf11 (by decide) rfl lf_X11_33 rf_16_4 ?_
        obtain ⟨x10, g9, hf⟩ := am_bd hf
        refine am_callV1 (As := [.ref 71]) (st := []) hE (am_dec tmX11_harm 17 rfl) ok_X11_countedOf rfl lm_X11_221 in_X11_countedOf se_X11_countedOf sh_16 cf11 (c_X11_countedOf hE sh_71 g9) rfl (by decide) (Nat.le_of_ble_eq_true rfl) (Nat.zero_le _) (Nat.zero_le _) rfl ?_
        refine am_goto (tgt := 46) (am_dec tmX11_harm 18 rfl) (by decide) ?_
        cases hf
    · rw [if_pos c5] at hf
      refine am_iconst (v := (-1 : Int32)) (am_dec tmX11_harm 9 rfl) (by decide) ?_
      cases hf
def f_X11_weigh (p1 : Int32) (p2 : Int32) (D : am_D) : Option ((String × am_D) ⊕ (Int32 × am_D)) :=
    (f_X11_within p1 (0 : Int32) (3 : Int32)).bind fun x2 =>
    (if x2 = 0 then
    some ((0 : Int32))
    else
    (f_X11_within p2 (0 : Int32) (999 : Int32)).bind fun x6 =>
    if x6 = 0 then
    some ((0 : Int32))
    else
    some ((1 : Int32))).bind fun w8 =>
    am_btD (f_X11_need w8) D fun x10 =>
    (am_gI D 22 4 p1).bind fun x11 =>
    (am_pI D 22 4 p1 p2).bind fun D13 =>
    some (.inr (x11, D13))
set_option maxRecDepth 100000 in
set_option maxHeartbeats 4000000 in
theorem c_X11_weigh {E : am_E} (hE : am_EH E) {p1 : Int32} {p2 : Int32} {D : am_D} {r : (Int32 × am_D)}  (hf : f_X11_weigh p1 p2 D = some (.inr r)) : am_C E mX11_weigh 2 0 0 [.ref 16, .int p1, .int p2] am_G0 D (.inl (some (.int r.1))) am_G0 r.2 := by
  refine am_C_of (by decide +kernel) (Nat.le_of_ble_eq_true rfl) ?_
  change am_S E mX11_weigh 2 0 0 (.inl (some (.int r.1))) am_G0 r.2 0 0 0 [(0, .ref 16), (1, .int p1), (2, .int p2)] [] am_G0 D
  unfold f_X11_weigh at hf
  refine am_iload_n (am_dec tmX11_weigh 0 rfl) rfl rfl ?_
  refine am_iconst (v := (0 : Int32)) (am_dec tmX11_weigh 1 rfl) (by decide) ?_
  refine am_iconst (v := (3 : Int32)) (am_dec tmX11_weigh 2 rfl) (by decide) ?_
  obtain ⟨x2, g1, hf⟩ := am_bd hf
  refine am_callS1 (As := [.int p1, .int (0 : Int32), .int (3 : Int32)]) (st := []) (am_dec tmX11_weigh 3 rfl) ok_X11_within rfl lm_X11_143 st_X11_within (c_X11_within hE g1) rfl (by decide) (Nat.le_of_ble_eq_true rfl) (Nat.zero_le _) (Nat.zero_le _) rfl ?_
  obtain ⟨w8, g15, hf⟩ := am_bd hf
  have key4 : am_S E mX11_weigh 2 0 0 (.inl (some (.int r.1))) am_G0 r.2 0 0 25 [(0, .ref 16), (1, .int p1), (2, .int p2)] [.int w8] am_G0 D := by
    obtain ⟨x10, g9, hf⟩ := am_btDR hf
    refine am_callS0 (As := [.int w8]) (st := []) (am_dec tmX11_weigh 13 rfl) ok_X11_need rfl lm_X11_94 st_X11_need (c_X11_need hE g9) rfl (by decide) (Nat.le_of_ble_eq_true rfl) (Nat.zero_le _) (Nat.zero_le _) rfl ?_
    refine am_aload_n (am_dec tmX11_weigh 14 rfl) rfl rfl ?_
    refine am_getR (j := 0) hE (am_dec tmX11_weigh 15 rfl) sh_16 cf11 (by decide) rfl lf_X11_10 rf_16_0 ?_
    refine am_getR (j := 4) hE (am_dec tmX11_weigh 16 rfl) sh_17 cf1 (by decide) rfl lf_X11_229 rf_17_4 ?_
    refine am_iload_n (am_dec tmX11_weigh 17 rfl) rfl rfl ?_
    obtain ⟨x11, g12, hf⟩ := am_bd hf
    refine am_iald2 hE (am_dec tmX11_weigh 18 rfl) sh_22 g12 ?_
    refine am_istore_n (lv' := [(0, .ref 16), (1, .int p1), (2, .int p2), (3, .int x11)]) (am_dec tmX11_weigh 19 rfl) rfl (by decide) rfl ?_
    refine am_aload_n (am_dec tmX11_weigh 20 rfl) rfl rfl ?_
    refine am_getR (j := 0) hE (am_dec tmX11_weigh 21 rfl) sh_16 cf11 (by decide) rfl lf_X11_10 rf_16_0 ?_
    refine am_getR (j := 4) hE (am_dec tmX11_weigh 22 rfl) sh_17 cf1 (by decide) rfl lf_X11_229 rf_17_4 ?_
    refine am_iload_n (am_dec tmX11_weigh 23 rfl) rfl rfl ?_
    refine am_iload_n (am_dec tmX11_weigh 24 rfl) rfl rfl ?_
    obtain ⟨D13, g14, hf⟩ := am_bd hf
    refine am_iast2 hE (am_dec tmX11_weigh 25 rfl) sh_22 g14 ?_
    refine am_iload_n (am_dec tmX11_weigh 26 rfl) rfl rfl ?_
    have hf := Sum.inr.inj (Option.some.inj hf)
    subst hf
    exact am_iret (am_dec tmX11_weigh 27 rfl) rfl (Nat.zero_le _) (Nat.zero_le _)
  replace hf := g15
  refine am_if_eq (tgt := 24) (am_dec tmX11_weigh 4 rfl) (by decide) (fun c3 => ?_) (fun c3 => ?_)
  · rw [if_pos c3] at hf
    refine am_iconst (v := (0 : Int32)) (am_dec tmX11_weigh 12 rfl) (by decide) ?_
    have hf := Option.some.inj hf
    subst hf
    exact am_pick [0, 1, 2] rfl key4
  · rw [if_neg c3] at hf
    refine am_iload_n (am_dec tmX11_weigh 5 rfl) rfl rfl ?_
    refine am_iconst (v := (0 : Int32)) (am_dec tmX11_weigh 6 rfl) (by decide) ?_
    refine am_sipush (v := (999 : Int32)) (am_dec tmX11_weigh 7 rfl) (by decide) ?_
    obtain ⟨x6, g5, hf⟩ := am_bd hf
    refine am_callS1 (As := [.int p2, .int (0 : Int32), .int (999 : Int32)]) (st := []) (am_dec tmX11_weigh 8 rfl) ok_X11_within rfl lm_X11_143 st_X11_within (c_X11_within hE g5) rfl (by decide) (Nat.le_of_ble_eq_true rfl) (Nat.zero_le _) (Nat.zero_le _) rfl ?_
    refine am_if_eq (tgt := 24) (am_dec tmX11_weigh 9 rfl) (by decide) (fun c7 => ?_) (fun c7 => ?_)
    · rw [if_pos c7] at hf
      refine am_iconst (v := (0 : Int32)) (am_dec tmX11_weigh 12 rfl) (by decide) ?_
      have hf := Option.some.inj hf
      subst hf
      exact am_pick [0, 1, 2] rfl key4
    · rw [if_neg c7] at hf
      refine am_iconst (v := (1 : Int32)) (am_dec tmX11_weigh 10 rfl) (by decide) ?_
      refine am_goto (tgt := 25) (am_dec tmX11_weigh 11 rfl) (by decide) ?_
      have hf := Option.some.inj hf
      subst hf
      exact am_pick [0, 1, 2] rfl key4
set_option maxRecDepth 100000 in
set_option maxHeartbeats 4000000 in
theorem t_X11_weigh {E : am_E} (hE : am_EH E) {p1 : Int32} {p2 : Int32} {D : am_D} {r : String × am_D}  (hf : f_X11_weigh p1 p2 D = some (.inl r)) : am_C E mX11_weigh 2 1 6 [.ref 16, .int p1, .int p2] am_G0 D (.inr r.1) am_G0 r.2 := by
  refine am_C_of (by decide +kernel) (Nat.le_of_ble_eq_true rfl) ?_
  change am_S E mX11_weigh 2 1 6 (.inr r.1) am_G0 r.2 0 0 0 [(0, .ref 16), (1, .int p1), (2, .int p2)] [] am_G0 D
  unfold f_X11_weigh at hf
  refine am_iload_n (am_dec tmX11_weigh 0 rfl) rfl rfl ?_
  refine am_iconst (v := (0 : Int32)) (am_dec tmX11_weigh 1 rfl) (by decide) ?_
  refine am_iconst (v := (3 : Int32)) (am_dec tmX11_weigh 2 rfl) (by decide) ?_
  obtain ⟨x2, g1, hf⟩ := am_bd hf
  refine am_callS1 (As := [.int p1, .int (0 : Int32), .int (3 : Int32)]) (st := []) (am_dec tmX11_weigh 3 rfl) ok_X11_within rfl lm_X11_143 st_X11_within (c_X11_within hE g1) rfl (by decide) (Nat.le_of_ble_eq_true rfl) (Nat.zero_le _) (Nat.zero_le _) rfl ?_
  obtain ⟨w8, g15, hf⟩ := am_bd hf
  have key4 : am_S E mX11_weigh 2 1 6 (.inr r.1) am_G0 r.2 0 0 25 [(0, .ref 16), (1, .int p1), (2, .int p2)] [.int w8] am_G0 D := by
    rcases am_btDT hf with ⟨g9, eD⟩ | ⟨x10, g9, hf⟩
    · rw [eD]
      exact am_callS_out (As := [.int w8]) (st := []) (am_dec tmX11_weigh 13 rfl) ok_X11_need rfl lm_X11_94 st_X11_need (t_X11_need hE g9) rfl (by decide) (Nat.le_of_ble_eq_true rfl) (Nat.le_refl _) (Nat.le_refl _) rfl rfl
    · refine am_callS0 (As := [.int w8]) (st := []) (am_dec tmX11_weigh 13 rfl) ok_X11_need rfl lm_X11_94 st_X11_need (c_X11_need hE g9) rfl (by decide) (Nat.le_of_ble_eq_true rfl) (Nat.zero_le _) (Nat.zero_le _) rfl ?_
      refine am_aload_n (am_dec tmX11_weigh 14 rfl) rfl rfl ?_
      refine am_getR (j := 0) hE (am_dec tmX11_weigh 15 rfl) sh_16 cf11 (by decide) rfl lf_X11_10 rf_16_0 ?_
      refine am_getR (j := 4) hE (am_dec tmX11_weigh 16 rfl) sh_17 cf1 (by decide) rfl lf_X11_229 rf_17_4 ?_
      refine am_iload_n (am_dec tmX11_weigh 17 rfl) rfl rfl ?_
      obtain ⟨x11, g12, hf⟩ := am_bd hf
      refine am_iald2 hE (am_dec tmX11_weigh 18 rfl) sh_22 g12 ?_
      refine am_istore_n (lv' := [(0, .ref 16), (1, .int p1), (2, .int p2), (3, .int x11)]) (am_dec tmX11_weigh 19 rfl) rfl (by decide) rfl ?_
      refine am_aload_n (am_dec tmX11_weigh 20 rfl) rfl rfl ?_
      refine am_getR (j := 0) hE (am_dec tmX11_weigh 21 rfl) sh_16 cf11 (by decide) rfl lf_X11_10 rf_16_0 ?_
      refine am_getR (j := 4) hE (am_dec tmX11_weigh 22 rfl) sh_17 cf1 (by decide) rfl lf_X11_229 rf_17_4 ?_
      refine am_iload_n (am_dec tmX11_weigh 23 rfl) rfl rfl ?_
      refine am_iload_n (am_dec tmX11_weigh 24 rfl) rfl rfl ?_
      obtain ⟨D13, g14, hf⟩ := am_bd hf
      refine am_iast2 hE (am_dec tmX11_weigh 25 rfl) sh_22 g14 ?_
      refine am_iload_n (am_dec tmX11_weigh 26 rfl) rfl rfl ?_
      cases hf
  replace hf := g15
  refine am_if_eq (tgt := 24) (am_dec tmX11_weigh 4 rfl) (by decide) (fun c3 => ?_) (fun c3 => ?_)
  · rw [if_pos c3] at hf
    refine am_iconst (v := (0 : Int32)) (am_dec tmX11_weigh 12 rfl) (by decide) ?_
    have hf := Option.some.inj hf
    subst hf
    exact am_pick [0, 1, 2] rfl key4
  · rw [if_neg c3] at hf
    refine am_iload_n (am_dec tmX11_weigh 5 rfl) rfl rfl ?_
    refine am_iconst (v := (0 : Int32)) (am_dec tmX11_weigh 6 rfl) (by decide) ?_
    refine am_sipush (v := (999 : Int32)) (am_dec tmX11_weigh 7 rfl) (by decide) ?_
    obtain ⟨x6, g5, hf⟩ := am_bd hf
    refine am_callS1 (As := [.int p2, .int (0 : Int32), .int (999 : Int32)]) (st := []) (am_dec tmX11_weigh 8 rfl) ok_X11_within rfl lm_X11_143 st_X11_within (c_X11_within hE g5) rfl (by decide) (Nat.le_of_ble_eq_true rfl) (Nat.zero_le _) (Nat.zero_le _) rfl ?_
    refine am_if_eq (tgt := 24) (am_dec tmX11_weigh 9 rfl) (by decide) (fun c7 => ?_) (fun c7 => ?_)
    · rw [if_pos c7] at hf
      refine am_iconst (v := (0 : Int32)) (am_dec tmX11_weigh 12 rfl) (by decide) ?_
      have hf := Option.some.inj hf
      subst hf
      exact am_pick [0, 1, 2] rfl key4
    · rw [if_neg c7] at hf
      refine am_iconst (v := (1 : Int32)) (am_dec tmX11_weigh 10 rfl) (by decide) ?_
      refine am_goto (tgt := 25) (am_dec tmX11_weigh 11 rfl) (by decide) ?_
      have hf := Option.some.inj hf
      subst hf
      exact am_pick [0, 1, 2] rfl key4
def f_X11_way (p1 : Int32) (p2 : Int32) (p3 : Int32) (D : am_D) : Option ((String × am_D) ⊕ (Int32 × am_D)) :=
    (f_X5_allowed p1 p2 p3).bind fun x2 =>
    am_btD (f_X11_need x2) D fun x4 =>
    if (D.1 17 9) < (4 : Int32) then
    (am_gA 4 (D.1 17 9)).bind fun j6 =>
    (f_X5_set (55 + j6) p1 p2 p3 D).bind fun x9 =>
    (some (am_wI x9 17 9 ((x9.1 17 9) + (1 : Int32)))).bind fun D10 =>
    some (.inr (((D10.1 17 9) - (1 : Int32)), D10))
    else
    some (.inr ((-1 : Int32), D))
set_option maxRecDepth 100000 in
set_option maxHeartbeats 4000000 in
theorem c_X11_way {E : am_E} (hE : am_EH E) {p1 : Int32} {p2 : Int32} {p3 : Int32} {D : am_D} {r : (Int32 × am_D)}  (hf : f_X11_way p1 p2 p3 D = some (.inr r)) : am_C E mX11_way 3 0 0 [.ref 16, .int p1, .int p2, .int p3] am_G0 D (.inl (some (.int r.1))) am_G0 r.2 := by
  refine am_C_of (by decide +kernel) (Nat.le_of_ble_eq_true rfl) ?_
  change am_S E mX11_way 3 0 0 (.inl (some (.int r.1))) am_G0 r.2 0 0 0 [(0, .ref 16), (1, .int p1), (2, .int p2), (3, .int p3)] [] am_G0 D
  unfold f_X11_way at hf
  refine am_iload_n (am_dec tmX11_way 0 rfl) rfl rfl ?_
  refine am_iload_n (am_dec tmX11_way 1 rfl) rfl rfl ?_
  refine am_iload_n (am_dec tmX11_way 2 rfl) rfl rfl ?_
  obtain ⟨x2, g1, hf⟩ := am_bd hf
  refine am_callS1 (As := [.int p1, .int p2, .int p3]) (st := []) (am_dec tmX11_way 3 rfl) ok_X5_allowed rfl lm_X11_160 st_X5_allowed (c_X5_allowed hE g1) rfl (by decide) (Nat.le_of_ble_eq_true rfl) (Nat.zero_le _) (Nat.zero_le _) rfl ?_
  obtain ⟨x4, g3, hf⟩ := am_btDR hf
  refine am_callS0 (As := [.int x2]) (st := []) (am_dec tmX11_way 4 rfl) ok_X11_need rfl lm_X11_94 st_X11_need (c_X11_need hE g3) rfl (by decide) (Nat.le_of_ble_eq_true rfl) (Nat.zero_le _) (Nat.zero_le _) rfl ?_
  refine am_aload_n (am_dec tmX11_way 5 rfl) rfl rfl ?_
  refine am_getR (j := 0) hE (am_dec tmX11_way 6 rfl) sh_16 cf11 (by decide) rfl lf_X11_10 rf_16_0 ?_
  refine am_getI (j := 9) hE (am_dec tmX11_way 7 rfl) sh_17 cf1 (by decide) rfl lf_X11_232 ?_
  refine am_iconst (v := (4 : Int32)) (am_dec tmX11_way 8 rfl) (by decide) ?_
  refine am_icmp_lt (tgt := 22) (am_dec tmX11_way 9 rfl) (by decide) (fun c5 => ?_) (fun c5 => ?_)
  · rw [if_pos c5] at hf
    refine am_aload_n (am_dec tmX11_way 12 rfl) rfl rfl ?_
    refine am_getR (j := 0) hE (am_dec tmX11_way 13 rfl) sh_16 cf11 (by decide) rfl lf_X11_10 rf_16_0 ?_
    refine am_getR (j := 2) hE (am_dec tmX11_way 14 rfl) sh_17 cf1 (by decide) rfl lf_X11_235 rf_17_2 ?_
    refine am_aload_n (am_dec tmX11_way 15 rfl) rfl rfl ?_
    refine am_getR (j := 0) hE (am_dec tmX11_way 16 rfl) sh_16 cf11 (by decide) rfl lf_X11_10 rf_16_0 ?_
    refine am_getI (j := 9) hE (am_dec tmX11_way 17 rfl) sh_17 cf1 (by decide) rfl lf_X11_232 ?_
    obtain ⟨j6, g7, hf⟩ := am_bd hf
    have hj_j6 := (am_gA_lt g7).1
    refine am_aald2 (t := 4) hE (am_dec tmX11_way 18 rfl) sh_20 (by decide) rfl rfl g7 (rr_20 hj_j6) ?_
    refine am_iload_n (am_dec tmX11_way 19 rfl) rfl rfl ?_
    refine am_iload_n (am_dec tmX11_way 20 rfl) rfl rfl ?_
    refine am_iload_n (am_dec tmX11_way 21 rfl) rfl rfl ?_
    obtain ⟨x9, g8, hf⟩ := am_bd hf
    refine am_callV0 (As := [.int p1, .int p2, .int p3]) (st := []) hE (am_dec tmX11_way 22 rfl) ok_X5_set rfl lm_X11_172 in_X5_set se_X5_set (sa_20_0 hj_j6) cf5 (c_X5_set hE (sa_20_0 hj_j6) g8) rfl (by decide) (Nat.le_of_ble_eq_true rfl) (Nat.zero_le _) (Nat.zero_le _) rfl ?_
    refine am_aload_n (am_dec tmX11_way 23 rfl) rfl rfl ?_
    refine am_getR (j := 0) hE (am_dec tmX11_way 24 rfl) sh_16 cf11 (by decide) rfl lf_X11_10 rf_16_0 ?_
    refine am_dup (am_dec tmX11_way 25 rfl) rfl ?_
    refine am_getI (j := 9) hE (am_dec tmX11_way 26 rfl) sh_17 cf1 (by decide) rfl lf_X11_232 ?_
    refine am_iconst (v := (1 : Int32)) (am_dec tmX11_way 27 rfl) (by decide) ?_
    refine am_iadd (am_dec tmX11_way 28 rfl) ?_
    obtain ⟨D10, g11, hf⟩ := am_bd hf
    refine am_putI2 (j := 9) hE (am_dec tmX11_way 29 rfl) sh_17 cf1 (by decide) rfl lf_X11_232 rfl rfl rfl g11 ?_
    refine am_aload_n (am_dec tmX11_way 30 rfl) rfl rfl ?_
    refine am_getR (j := 0) hE (am_dec tmX11_way 31 rfl) sh_16 cf11 (by decide) rfl lf_X11_10 rf_16_0 ?_
    refine am_getI (j := 9) hE (am_dec tmX11_way 32 rfl) sh_17 cf1 (by decide) rfl lf_X11_232 ?_
    refine am_iconst (v := (1 : Int32)) (am_dec tmX11_way 33 rfl) (by decide) ?_
    refine am_isub (am_dec tmX11_way 34 rfl) ?_
    have hf := Sum.inr.inj (Option.some.inj hf)
    subst hf
    exact am_iret (am_dec tmX11_way 35 rfl) rfl (Nat.zero_le _) (Nat.zero_le _)
  · rw [if_neg c5] at hf
    refine am_iconst (v := (-1 : Int32)) (am_dec tmX11_way 10 rfl) (by decide) ?_
    have hf := Sum.inr.inj (Option.some.inj hf)
    subst hf
    exact am_iret (am_dec tmX11_way 11 rfl) rfl (Nat.zero_le _) (Nat.zero_le _)
set_option maxRecDepth 100000 in
set_option maxHeartbeats 4000000 in
theorem t_X11_way {E : am_E} (hE : am_EH E) {p1 : Int32} {p2 : Int32} {p3 : Int32} {D : am_D} {r : String × am_D}  (hf : f_X11_way p1 p2 p3 D = some (.inl r)) : am_C E mX11_way 3 1 6 [.ref 16, .int p1, .int p2, .int p3] am_G0 D (.inr r.1) am_G0 r.2 := by
  refine am_C_of (by decide +kernel) (Nat.le_of_ble_eq_true rfl) ?_
  change am_S E mX11_way 3 1 6 (.inr r.1) am_G0 r.2 0 0 0 [(0, .ref 16), (1, .int p1), (2, .int p2), (3, .int p3)] [] am_G0 D
  unfold f_X11_way at hf
  refine am_iload_n (am_dec tmX11_way 0 rfl) rfl rfl ?_
  refine am_iload_n (am_dec tmX11_way 1 rfl) rfl rfl ?_
  refine am_iload_n (am_dec tmX11_way 2 rfl) rfl rfl ?_
  obtain ⟨x2, g1, hf⟩ := am_bd hf
  refine am_callS1 (As := [.int p1, .int p2, .int p3]) (st := []) (am_dec tmX11_way 3 rfl) ok_X5_allowed rfl lm_X11_160 st_X5_allowed (c_X5_allowed hE g1) rfl (by decide) (Nat.le_of_ble_eq_true rfl) (Nat.zero_le _) (Nat.zero_le _) rfl ?_
  rcases am_btDT hf with ⟨g3, eD⟩ | ⟨x4, g3, hf⟩
  · rw [eD]
    exact am_callS_out (As := [.int x2]) (st := []) (am_dec tmX11_way 4 rfl) ok_X11_need rfl lm_X11_94 st_X11_need (t_X11_need hE g3) rfl (by decide) (Nat.le_of_ble_eq_true rfl) (Nat.le_refl _) (Nat.le_refl _) rfl rfl
  · refine am_callS0 (As := [.int x2]) (st := []) (am_dec tmX11_way 4 rfl) ok_X11_need rfl lm_X11_94 st_X11_need (c_X11_need hE g3) rfl (by decide) (Nat.le_of_ble_eq_true rfl) (Nat.zero_le _) (Nat.zero_le _) rfl ?_
    refine am_aload_n (am_dec tmX11_way 5 rfl) rfl rfl ?_
    refine am_getR (j := 0) hE (am_dec tmX11_way 6 rfl) sh_16 cf11 (by decide) rfl lf_X11_10 rf_16_0 ?_
    refine am_getI (j := 9) hE (am_dec tmX11_way 7 rfl) sh_17 cf1 (by decide) rfl lf_X11_232 ?_
    refine am_iconst (v := (4 : Int32)) (am_dec tmX11_way 8 rfl) (by decide) ?_
    refine am_icmp_lt (tgt := 22) (am_dec tmX11_way 9 rfl) (by decide) (fun c5 => ?_) (fun c5 => ?_)
    · rw [if_pos c5] at hf
      refine am_aload_n (am_dec tmX11_way 12 rfl) rfl rfl ?_
      refine am_getR (j := 0) hE (am_dec tmX11_way 13 rfl) sh_16 cf11 (by decide) rfl lf_X11_10 rf_16_0 ?_
      refine am_getR (j := 2) hE (am_dec tmX11_way 14 rfl) sh_17 cf1 (by decide) rfl lf_X11_235 rf_17_2 ?_
      refine am_aload_n (am_dec tmX11_way 15 rfl) rfl rfl ?_
      refine am_getR (j := 0) hE (am_dec tmX11_way 16 rfl) sh_16 cf11 (by decide) rfl lf_X11_10 rf_16_0 ?_
      refine am_getI (j := 9) hE (am_dec tmX11_way 17 rfl) sh_17 cf1 (by decide) rfl lf_X11_232 ?_
      obtain ⟨j6, g7, hf⟩ := am_bd hf
      have hj_j6 := (am_gA_lt g7).1
      refine am_aald2 (t := 4) hE (am_dec tmX11_way 18 rfl) sh_20 (by decide) rfl rfl g7 (rr_20 hj_j6) ?_
      refine am_iload_n (am_dec tmX11_way 19 rfl) rfl rfl ?_
      refine am_iload_n (am_dec tmX11_way 20 rfl) rfl rfl ?_
      refine am_iload_n (am_dec tmX11_way 21 rfl) rfl rfl ?_
      obtain ⟨x9, g8, hf⟩ := am_bd hf
      refine am_callV0 (As := [.int p1, .int p2, .int p3]) (st := []) hE (am_dec tmX11_way 22 rfl) ok_X5_set rfl lm_X11_172 in_X5_set se_X5_set (sa_20_0 hj_j6) cf5 (c_X5_set hE (sa_20_0 hj_j6) g8) rfl (by decide) (Nat.le_of_ble_eq_true rfl) (Nat.zero_le _) (Nat.zero_le _) rfl ?_
      refine am_aload_n (am_dec tmX11_way 23 rfl) rfl rfl ?_
      refine am_getR (j := 0) hE (am_dec tmX11_way 24 rfl) sh_16 cf11 (by decide) rfl lf_X11_10 rf_16_0 ?_
      refine am_dup (am_dec tmX11_way 25 rfl) rfl ?_
      refine am_getI (j := 9) hE (am_dec tmX11_way 26 rfl) sh_17 cf1 (by decide) rfl lf_X11_232 ?_
      refine am_iconst (v := (1 : Int32)) (am_dec tmX11_way 27 rfl) (by decide) ?_
      refine am_iadd (am_dec tmX11_way 28 rfl) ?_
      obtain ⟨D10, g11, hf⟩ := am_bd hf
      refine am_putI2 (j := 9) hE (am_dec tmX11_way 29 rfl) sh_17 cf1 (by decide) rfl lf_X11_232 rfl rfl rfl g11 ?_
      refine am_aload_n (am_dec tmX11_way 30 rfl) rfl rfl ?_
      refine am_getR (j := 0) hE (am_dec tmX11_way 31 rfl) sh_16 cf11 (by decide) rfl lf_X11_10 rf_16_0 ?_
      refine am_getI (j := 9) hE (am_dec tmX11_way 32 rfl) sh_17 cf1 (by decide) rfl lf_X11_232 ?_
      refine am_iconst (v := (1 : Int32)) (am_dec tmX11_way 33 rfl) (by decide) ?_
      refine am_isub (am_dec tmX11_way 34 rfl) ?_
      cases hf
    · rw [if_neg c5] at hf
      refine am_iconst (v := (-1 : Int32)) (am_dec tmX11_way 10 rfl) (by decide) ?_
      cases hf
def f_X11_needLongForWays_L2 (q1 : Nat) (q2 : Nat) (D : am_D) : Nat → Int32 → Option (String ⊕ Unit)
  | 0, _ => none
  | n + 1, v3 =>
    if (D.1 17 9) ≤ v3 then
    some (.inr ())
    else
    if (4 : Int32) ≤ v3 then
    some (.inr ())
    else
    (am_gA 4 v3).bind fun j3 =>
    am_bt (f_X11_needLong q1 q2 (55 + j3) D) fun x6 =>
    f_X11_needLongForWays_L2 q1 q2 D n (v3 + (1 : Int32))
def f_X11_needLongForWays (p1 : Nat) (p2 : Nat) (D : am_D) : Option (String ⊕ Unit) :=
    am_bt (f_X11_needLongForWays_L2 p1 p2 D am_fu (0 : Int32)) fun e7 =>
    some (.inr ())
set_option maxRecDepth 100000 in
set_option maxHeartbeats 4000000 in
theorem l_X11_needLongForWays_L2 {E : am_E} (hE : am_EH E) {d mc ms : Nat} {o : am_O} {G2 : am_G} {D2 : am_D} (hdp : 4 ≤ d) {q1 : Nat} {q2 : Nat} {D : am_D} (h_q1 : am_sh am_G0 q1 = some (7, 2)) (h_q2 : am_sh am_G0 q2 = some (9, 3)) : ∀ (n : Nat) (v3 : Int32) (ex0 : Unit), f_X11_needLongForWays_L2 q1 q2 D n v3 = some (.inr ex0) → (∀ ex : Unit, ex0 = ex → am_S E mX11_needLongForWays d mc ms o G2 D2 0 0 38 [] [] am_G0 D) → am_S E mX11_needLongForWays d mc ms o G2 D2 0 0 2 [(0, .ref 16), (1, .ref q1), (2, .ref q2), (3, .int v3)] [] am_G0 D
  | 0, _, _, hf, _ => by
    unfold f_X11_needLongForWays_L2 at hf
    cases hf
  | n + 1, v3, ex0, hf, hk0 => by
    unfold f_X11_needLongForWays_L2 at hf
    refine am_iload_n (am_dec tmX11_needLongForWays 2 rfl) rfl rfl ?_
    refine am_aload_n (am_dec tmX11_needLongForWays 3 rfl) rfl rfl ?_
    refine am_getR (j := 0) hE (am_dec tmX11_needLongForWays 4 rfl) sh_16 cf11 (by decide) rfl lf_X11_10 rf_16_0 ?_
    refine am_getI (j := 9) hE (am_dec tmX11_needLongForWays 5 rfl) sh_17 cf1 (by decide) rfl lf_X11_232 ?_
    refine am_icmp_ge (tgt := 38) (am_dec tmX11_needLongForWays 6 rfl) (by decide) (fun c1 => ?_) (fun c1 => ?_)
    · rw [if_pos c1] at hf
      have hf := Sum.inr.inj (Option.some.inj hf)
      subst hf
      exact am_pick [] rfl (hk0 _ rfl)
    · rw [if_neg c1] at hf
      refine am_iload_n (am_dec tmX11_needLongForWays 7 rfl) rfl rfl ?_
      refine am_iconst (v := (4 : Int32)) (am_dec tmX11_needLongForWays 8 rfl) (by decide) ?_
      refine am_icmp_ge (tgt := 38) (am_dec tmX11_needLongForWays 9 rfl) (by decide) (fun c2 => ?_) (fun c2 => ?_)
      · rw [if_pos c2] at hf
        have hf := Sum.inr.inj (Option.some.inj hf)
        subst hf
        exact am_pick [] rfl (hk0 _ rfl)
      · rw [if_neg c2] at hf
        refine am_aload_n (am_dec tmX11_needLongForWays 10 rfl) rfl rfl ?_
        refine am_aload_n (am_dec tmX11_needLongForWays 11 rfl) rfl rfl ?_
        refine am_aload_n (am_dec tmX11_needLongForWays 12 rfl) rfl rfl ?_
        refine am_getR (j := 0) hE (am_dec tmX11_needLongForWays 13 rfl) sh_16 cf11 (by decide) rfl lf_X11_10 rf_16_0 ?_
        refine am_getR (j := 2) hE (am_dec tmX11_needLongForWays 14 rfl) sh_17 cf1 (by decide) rfl lf_X11_235 rf_17_2 ?_
        refine am_iload_n (am_dec tmX11_needLongForWays 15 rfl) rfl rfl ?_
        obtain ⟨j3, g4, hf⟩ := am_bd hf
        have hj_j3 := (am_gA_lt g4).1
        refine am_aald2 (t := 4) hE (am_dec tmX11_needLongForWays 16 rfl) sh_20 (by decide) rfl rfl g4 (rr_20 hj_j3) ?_
        obtain ⟨x6, g5, hf⟩ := am_btR hf
        refine am_callS0 (As := [.ref q1, .ref q2, .ref (55 + j3)]) (st := []) (am_dec tmX11_needLongForWays 17 rfl) ok_X11_needLong rfl lm_X11_176 st_X11_needLong (c_X11_needLong hE h_q1 h_q2 (sa_20_0 hj_j3) g5) rfl (Nat.lt_of_lt_of_le (by decide) hdp) (Nat.le_of_ble_eq_true rfl) (Nat.zero_le _) (Nat.zero_le _) rfl ?_
        refine am_iinc (v := (1 : Int32)) (lv' := [(0, .ref 16), (1, .ref q1), (2, .ref q2), (3, .int (v3 + (1 : Int32)))]) (am_dec tmX11_needLongForWays 18 rfl) rfl (by decide) (by decide) rfl ?_
        refine am_goto (tgt := 2) (am_dec tmX11_needLongForWays 19 rfl) (by decide) ?_
        exact am_pick [0, 1, 2, 3] rfl (l_X11_needLongForWays_L2 hE hdp h_q1 h_q2 n (v3 + (1 : Int32)) ex0 hf hk0)
set_option maxRecDepth 100000 in
set_option maxHeartbeats 4000000 in
theorem lt_X11_needLongForWays_L2 {E : am_E} (hE : am_EH E) {d : Nat} (hdp : 4 ≤ d) {q1 : Nat} {q2 : Nat} {D : am_D} (h_q1 : am_sh am_G0 q1 = some (7, 2)) (h_q2 : am_sh am_G0 q2 = some (9, 3)) : ∀ (n : Nat) (v3 : Int32) (ex0 : String), f_X11_needLongForWays_L2 q1 q2 D n v3 = some (.inl ex0) → am_S E mX11_needLongForWays d 1 6 (.inr ex0) am_G0 D 0 0 2 [(0, .ref 16), (1, .ref q1), (2, .ref q2), (3, .int v3)] [] am_G0 D
  | 0, _, _, hf => by
    unfold f_X11_needLongForWays_L2 at hf
    cases hf
  | n + 1, v3, ex0, hf => by
    unfold f_X11_needLongForWays_L2 at hf
    refine am_iload_n (am_dec tmX11_needLongForWays 2 rfl) rfl rfl ?_
    refine am_aload_n (am_dec tmX11_needLongForWays 3 rfl) rfl rfl ?_
    refine am_getR (j := 0) hE (am_dec tmX11_needLongForWays 4 rfl) sh_16 cf11 (by decide) rfl lf_X11_10 rf_16_0 ?_
    refine am_getI (j := 9) hE (am_dec tmX11_needLongForWays 5 rfl) sh_17 cf1 (by decide) rfl lf_X11_232 ?_
    refine am_icmp_ge (tgt := 38) (am_dec tmX11_needLongForWays 6 rfl) (by decide) (fun c1 => ?_) (fun c1 => ?_)
    · rw [if_pos c1] at hf
      cases hf
    · rw [if_neg c1] at hf
      refine am_iload_n (am_dec tmX11_needLongForWays 7 rfl) rfl rfl ?_
      refine am_iconst (v := (4 : Int32)) (am_dec tmX11_needLongForWays 8 rfl) (by decide) ?_
      refine am_icmp_ge (tgt := 38) (am_dec tmX11_needLongForWays 9 rfl) (by decide) (fun c2 => ?_) (fun c2 => ?_)
      · rw [if_pos c2] at hf
        cases hf
      · rw [if_neg c2] at hf
        refine am_aload_n (am_dec tmX11_needLongForWays 10 rfl) rfl rfl ?_
        refine am_aload_n (am_dec tmX11_needLongForWays 11 rfl) rfl rfl ?_
        refine am_aload_n (am_dec tmX11_needLongForWays 12 rfl) rfl rfl ?_
        refine am_getR (j := 0) hE (am_dec tmX11_needLongForWays 13 rfl) sh_16 cf11 (by decide) rfl lf_X11_10 rf_16_0 ?_
        refine am_getR (j := 2) hE (am_dec tmX11_needLongForWays 14 rfl) sh_17 cf1 (by decide) rfl lf_X11_235 rf_17_2 ?_
        refine am_iload_n (am_dec tmX11_needLongForWays 15 rfl) rfl rfl ?_
        obtain ⟨j3, g4, hf⟩ := am_bd hf
        have hj_j3 := (am_gA_lt g4).1
        refine am_aald2 (t := 4) hE (am_dec tmX11_needLongForWays 16 rfl) sh_20 (by decide) rfl rfl g4 (rr_20 hj_j3) ?_
        rcases am_btT hf with g5 | ⟨x6, g5, hf⟩
        · exact am_callS_out (As := [.ref q1, .ref q2, .ref (55 + j3)]) (st := []) (am_dec tmX11_needLongForWays 17 rfl) ok_X11_needLong rfl lm_X11_176 st_X11_needLong (t_X11_needLong hE h_q1 h_q2 (sa_20_0 hj_j3) g5) rfl (Nat.lt_of_lt_of_le (by decide) hdp) (Nat.le_of_ble_eq_true rfl) (Nat.le_refl _) (Nat.le_refl _) rfl rfl
        · refine am_callS0 (As := [.ref q1, .ref q2, .ref (55 + j3)]) (st := []) (am_dec tmX11_needLongForWays 17 rfl) ok_X11_needLong rfl lm_X11_176 st_X11_needLong (c_X11_needLong hE h_q1 h_q2 (sa_20_0 hj_j3) g5) rfl (Nat.lt_of_lt_of_le (by decide) hdp) (Nat.le_of_ble_eq_true rfl) (Nat.zero_le _) (Nat.zero_le _) rfl ?_
          refine am_iinc (v := (1 : Int32)) (lv' := [(0, .ref 16), (1, .ref q1), (2, .ref q2), (3, .int (v3 + (1 : Int32)))]) (am_dec tmX11_needLongForWays 18 rfl) rfl (by decide) (by decide) rfl ?_
          refine am_goto (tgt := 2) (am_dec tmX11_needLongForWays 19 rfl) (by decide) ?_
          exact am_pick [0, 1, 2, 3] rfl (lt_X11_needLongForWays_L2 hE hdp h_q1 h_q2 n (v3 + (1 : Int32)) ex0 hf)
set_option maxRecDepth 100000 in
set_option maxHeartbeats 4000000 in
theorem c_X11_needLongForWays {E : am_E} (hE : am_EH E) {p1 : Nat} {p2 : Nat} {D : am_D} {r : Unit} (h_p1 : am_sh am_G0 p1 = some (7, 2)) (h_p2 : am_sh am_G0 p2 = some (9, 3)) (hf : f_X11_needLongForWays p1 p2 D = some (.inr r)) : am_C E mX11_needLongForWays 4 0 0 [.ref 16, .ref p1, .ref p2] am_G0 D (.inl none) am_G0 D := by
  refine am_C_of (by decide +kernel) (Nat.le_of_ble_eq_true rfl) ?_
  change am_S E mX11_needLongForWays 4 0 0 (.inl none) am_G0 D 0 0 0 [(0, .ref 16), (1, .ref p1), (2, .ref p2)] [] am_G0 D
  unfold f_X11_needLongForWays at hf
  refine am_iconst (v := (0 : Int32)) (am_dec tmX11_needLongForWays 0 rfl) (by decide) ?_
  refine am_istore_n (lv' := [(0, .ref 16), (1, .ref p1), (2, .ref p2), (3, .int (0 : Int32))]) (am_dec tmX11_needLongForWays 1 rfl) rfl (by decide) rfl ?_
  obtain ⟨e7, g8, hf⟩ := am_btR hf
  refine am_pick [0, 1, 2, 3] rfl (l_X11_needLongForWays_L2 hE (Nat.le_refl _) h_p1 h_p2 am_fu _ _ g8 (fun ex he => ?_))
  subst he
  have hf := Sum.inr.inj (Option.some.inj hf)
  subst hf
  exact am_vret (am_dec tmX11_needLongForWays 20 rfl) rfl (Nat.zero_le _) (Nat.zero_le _)
set_option maxRecDepth 100000 in
set_option maxHeartbeats 4000000 in
theorem t_X11_needLongForWays {E : am_E} (hE : am_EH E) {p1 : Nat} {p2 : Nat} {D : am_D} {r : String} (h_p1 : am_sh am_G0 p1 = some (7, 2)) (h_p2 : am_sh am_G0 p2 = some (9, 3)) (hf : f_X11_needLongForWays p1 p2 D = some (.inl r)) : am_C E mX11_needLongForWays 4 1 6 [.ref 16, .ref p1, .ref p2] am_G0 D (.inr r) am_G0 D := by
  refine am_C_of (by decide +kernel) (Nat.le_of_ble_eq_true rfl) ?_
  change am_S E mX11_needLongForWays 4 1 6 (.inr r) am_G0 D 0 0 0 [(0, .ref 16), (1, .ref p1), (2, .ref p2)] [] am_G0 D
  unfold f_X11_needLongForWays at hf
  refine am_iconst (v := (0 : Int32)) (am_dec tmX11_needLongForWays 0 rfl) (by decide) ?_
  refine am_istore_n (lv' := [(0, .ref 16), (1, .ref p1), (2, .ref p2), (3, .int (0 : Int32))]) (am_dec tmX11_needLongForWays 1 rfl) rfl (by decide) rfl ?_
  rcases am_btT hf with g8 | ⟨e7, g8, hf⟩
  · exact am_pick [0, 1, 2, 3] rfl (lt_X11_needLongForWays_L2 hE (Nat.le_refl _) h_p1 h_p2 am_fu _ _ g8)
  · refine am_pick [0, 1, 2, 3] rfl (l_X11_needLongForWays_L2 hE (Nat.le_refl _) h_p1 h_p2 am_fu _ _ g8 (fun ex he => ?_))
    subst he
    cases hf
def f_X11_best_L29 (q3 : Nat) (q4 : Nat) : Nat → Int32 → Int32 → Int32 → am_D → Option (Int32 × am_D)
  | 0, _, _, _, _ => none
  | n + 1, v5, v6, v7, D =>
    if (D.1 17 9) ≤ v7 then
    some (v5, D)
    else
    if (4 : Int32) ≤ v7 then
    some (v5, D)
    else
    (am_gA 4 v7).bind fun j9 =>
    (f_X3_drawOut 81 q3 q4 (55 + j9) D).bind fun x12 =>
    (f_X11_countedOf 81 x12).bind fun x14 =>
    (if v5 = (-1 : Int32) then
    some (v7, x14.1)
    else
    if v6 ≤ x14.1 then
    some (v5, v6)
    else
    some (v7, x14.1)).bind fun w18 =>
    f_X11_best_L29 q3 q4 n w18.1 w18.2 (v7 + (1 : Int32)) x14.2
def f_X11_best (p1 : Int32) (p2 : Int32) (D : am_D) : Option ((String × am_D) ⊕ (Int32 × am_D)) :=
    am_btD (f_X11_soundOf p1 D) D fun x2 =>
    am_btD (f_X11_mapOf p2 D) D fun x4 =>
    am_btD (f_X11_needLongForWays x2 x4 D) D fun x6 =>
    (f_X11_best_L29 x2 x4 am_fu (-1 : Int32) (0 : Int32) (0 : Int32) D).bind fun e20 =>
    some (.inr (e20.1, e20.2))
set_option maxRecDepth 100000 in
set_option maxHeartbeats 4000000 in
theorem l_X11_best_L29 {E : am_E} (hE : am_EH E) {d mc ms : Nat} {o : am_O} {G2 : am_G} {D2 : am_D} (hdp : 7 ≤ d) {q3 : Nat} {q4 : Nat} (h_q3 : am_sh am_G0 q3 = some (7, 2)) (h_q4 : am_sh am_G0 q4 = some (9, 3)) : ∀ (n : Nat) (v5 : Int32) (v6 : Int32) (v7 : Int32) (D : am_D) (ex0 : Int32 × am_D), f_X11_best_L29 q3 q4 n v5 v6 v7 D = some ex0 → (∀ ex : Int32 × am_D, ex0 = ex → am_S E mX11_best d mc ms o G2 D2 0 0 104 [(5, .int ex.1)] [] am_G0 ex.2) → am_S E mX11_best d mc ms o G2 D2 0 0 29 [(0, .ref 16), (3, .ref q3), (4, .ref q4), (5, .int v5), (6, .int v6), (7, .int v7)] [] am_G0 D
  | 0, _, _, _, _, _, hf, _ => by
    unfold f_X11_best_L29 at hf
    cases hf
  | n + 1, v5, v6, v7, D, ex0, hf, hk0 => by
    unfold f_X11_best_L29 at hf
    refine am_iload (am_dec tmX11_best 18 rfl) rfl ?_
    refine am_aload_n (am_dec tmX11_best 19 rfl) rfl rfl ?_
    refine am_getR (j := 0) hE (am_dec tmX11_best 20 rfl) sh_16 cf11 (by decide) rfl lf_X11_10 rf_16_0 ?_
    refine am_getI (j := 9) hE (am_dec tmX11_best 21 rfl) sh_17 cf1 (by decide) rfl lf_X11_232 ?_
    refine am_icmp_ge (tgt := 104) (am_dec tmX11_best 22 rfl) (by decide) (fun c7 => ?_) (fun c7 => ?_)
    · rw [if_pos c7] at hf
      have hf := Option.some.inj hf
      subst hf
      exact am_pick [3] rfl (hk0 _ rfl)
    · rw [if_neg c7] at hf
      refine am_iload (am_dec tmX11_best 23 rfl) rfl ?_
      refine am_iconst (v := (4 : Int32)) (am_dec tmX11_best 24 rfl) (by decide) ?_
      refine am_icmp_ge (tgt := 104) (am_dec tmX11_best 25 rfl) (by decide) (fun c8 => ?_) (fun c8 => ?_)
      · rw [if_pos c8] at hf
        have hf := Option.some.inj hf
        subst hf
        exact am_pick [3] rfl (hk0 _ rfl)
      · rw [if_neg c8] at hf
        refine am_aload_n (am_dec tmX11_best 26 rfl) rfl rfl ?_
        refine am_getR (j := 5) hE (am_dec tmX11_best 27 rfl) sh_16 cf11 (by decide) rfl lf_X11_37 rf_16_5 ?_
        refine am_aload_n (am_dec tmX11_best 28 rfl) rfl rfl ?_
        refine am_aload (am_dec tmX11_best 29 rfl) rfl ?_
        refine am_aload_n (am_dec tmX11_best 30 rfl) rfl rfl ?_
        refine am_getR (j := 0) hE (am_dec tmX11_best 31 rfl) sh_16 cf11 (by decide) rfl lf_X11_10 rf_16_0 ?_
        refine am_getR (j := 2) hE (am_dec tmX11_best 32 rfl) sh_17 cf1 (by decide) rfl lf_X11_235 rf_17_2 ?_
        refine am_iload (am_dec tmX11_best 33 rfl) rfl ?_
        obtain ⟨j9, g10, hf⟩ := am_bd hf
        have hj_j9 := (am_gA_lt g10).1
        refine am_aald2 (t := 4) hE (am_dec tmX11_best 34 rfl) sh_20 (by decide) rfl rfl g10 (rr_20 hj_j9) ?_
        obtain ⟨x12, g11, hf⟩ := am_bd hf
        refine am_callV0 (As := [.ref q3, .ref q4, .ref (55 + j9)]) (st := []) hE (am_dec tmX11_best 35 rfl) ok_X3_drawOut rfl lm_X11_180 in_X3_drawOut se_X3_drawOut sh_81 cf3 (c_X3_drawOut hE sh_81 h_q3 h_q4 (sa_20_0 hj_j9) g11) rfl (Nat.lt_of_lt_of_le (by decide) hdp) (Nat.le_of_ble_eq_true rfl) (Nat.zero_le _) (Nat.zero_le _) rfl ?_
        refine am_aload_n (am_dec tmX11_best 36 rfl) rfl rfl ?_
        refine am_aload_n (am_dec tmX11_best 37 rfl) rfl rfl ?_
        refine am_getR (j := 5) hE (am_dec tmX11_best 38 rfl) sh_16 cf11 (by decide) rfl lf_X11_37 rf_16_5 ?_
        obtain ⟨x14, g13, hf⟩ := am_bd hf
        refine am_callV1 (As := [.ref 81]) (st := []) hE (am_dec tmX11_best 39 rfl) ok_X11_countedOf rfl lm_X11_221 in_X11_countedOf se_X11_countedOf sh_16 cf11 (c_X11_countedOf hE sh_81 g13) rfl (Nat.lt_of_lt_of_le (by decide) hdp) (Nat.le_of_ble_eq_true rfl) (Nat.zero_le _) (Nat.zero_le _) rfl ?_
        refine am_istore (lv' := [(0, .ref 16), (3, .ref q3), (4, .ref q4), (5, .int v5), (6, .int v6), (7, .int v7), (8, .int x14.1)]) (am_dec tmX11_best 40 rfl) (by decide) rfl ?_
        refine am_iload (am_dec tmX11_best 41 rfl) rfl ?_
        refine am_iconst (v := (-1 : Int32)) (am_dec tmX11_best 42 rfl) (by decide) ?_
        obtain ⟨w18, g19, hf⟩ := am_bd hf
        have key16 : am_S E mX11_best d mc ms o G2 D2 0 0 98 [(0, .ref 16), (3, .ref q3), (4, .ref q4), (5, .int w18.1), (6, .int w18.2), (7, .int v7)] [] am_G0 x14.2 := by
          refine am_iinc (v := (1 : Int32)) (lv' := [(0, .ref 16), (3, .ref q3), (4, .ref q4), (5, .int w18.1), (6, .int w18.2), (7, .int (v7 + (1 : Int32)))]) (am_dec tmX11_best 51 rfl) rfl (by decide) (by decide) rfl ?_
          refine am_goto (tgt := 29) (am_dec tmX11_best 52 rfl) (by decide) ?_
          exact am_pick [0, 1, 2, 3, 4, 5] rfl (l_X11_best_L29 hE hdp h_q3 h_q4 n w18.1 w18.2 (v7 + (1 : Int32)) x14.2 ex0 hf hk0)
        replace hf := g19
        refine am_icmp_eq (tgt := 90) (am_dec tmX11_best 43 rfl) (by decide) (fun c15 => ?_) (fun c15 => ?_)
        · rw [if_pos c15] at hf
          refine am_iload (am_dec tmX11_best 47 rfl) rfl ?_
          refine am_istore (lv' := [(0, .ref 16), (3, .ref q3), (4, .ref q4), (5, .int v7), (6, .int v6), (7, .int v7), (8, .int x14.1)]) (am_dec tmX11_best 48 rfl) (by decide) rfl ?_
          refine am_iload (am_dec tmX11_best 49 rfl) rfl ?_
          refine am_istore (lv' := [(0, .ref 16), (3, .ref q3), (4, .ref q4), (5, .int v7), (6, .int x14.1), (7, .int v7), (8, .int x14.1)]) (am_dec tmX11_best 50 rfl) (by decide) rfl ?_
          have hf := Option.some.inj hf
          subst hf
          exact am_pick [0, 1, 2, 3, 4, 5] rfl key16
        · rw [if_neg c15] at hf
          refine am_iload (am_dec tmX11_best 44 rfl) rfl ?_
          refine am_iload (am_dec tmX11_best 45 rfl) rfl ?_
          refine am_icmp_ge (tgt := 98) (am_dec tmX11_best 46 rfl) (by decide) (fun c17 => ?_) (fun c17 => ?_)
          · rw [if_pos c17] at hf
            have hf := Option.some.inj hf
            subst hf
            exact am_pick [0, 1, 2, 3, 4, 5] rfl key16
          · rw [if_neg c17] at hf
            refine am_iload (am_dec tmX11_best 47 rfl) rfl ?_
            refine am_istore (lv' := [(0, .ref 16), (3, .ref q3), (4, .ref q4), (5, .int v7), (6, .int v6), (7, .int v7), (8, .int x14.1)]) (am_dec tmX11_best 48 rfl) (by decide) rfl ?_
            refine am_iload (am_dec tmX11_best 49 rfl) rfl ?_
            refine am_istore (lv' := [(0, .ref 16), (3, .ref q3), (4, .ref q4), (5, .int v7), (6, .int x14.1), (7, .int v7), (8, .int x14.1)]) (am_dec tmX11_best 50 rfl) (by decide) rfl ?_
            have hf := Option.some.inj hf
            subst hf
            exact am_pick [0, 1, 2, 3, 4, 5] rfl key16
set_option maxRecDepth 100000 in
set_option maxHeartbeats 4000000 in
theorem c_X11_best {E : am_E} (hE : am_EH E) {p1 : Int32} {p2 : Int32} {D : am_D} {r : (Int32 × am_D)}  (hf : f_X11_best p1 p2 D = some (.inr r)) : am_C E mX11_best 7 0 0 [.ref 16, .int p1, .int p2] am_G0 D (.inl (some (.int r.1))) am_G0 r.2 := by
  refine am_C_of (by decide +kernel) (Nat.le_of_ble_eq_true rfl) ?_
  change am_S E mX11_best 7 0 0 (.inl (some (.int r.1))) am_G0 r.2 0 0 0 [(0, .ref 16), (1, .int p1), (2, .int p2)] [] am_G0 D
  unfold f_X11_best at hf
  refine am_aload_n (am_dec tmX11_best 0 rfl) rfl rfl ?_
  refine am_iload_n (am_dec tmX11_best 1 rfl) rfl rfl ?_
  obtain ⟨x2, g1, hf⟩ := am_btDR hf
  have h_x2 := k_X11_soundOf g1
  refine am_callV1 (As := [.int p1]) (st := []) hE (am_dec tmX11_best 2 rfl) ok_X11_soundOf rfl lm_X11_130 in_X11_soundOf se_X11_soundOf sh_16 cf11 (c_X11_soundOf hE g1) rfl (by decide) (Nat.le_of_ble_eq_true rfl) (Nat.zero_le _) (Nat.zero_le _) rfl ?_
  refine am_astore_n (lv' := [(0, .ref 16), (1, .int p1), (2, .int p2), (3, .ref x2)]) (am_dec tmX11_best 3 rfl) rfl (by decide) rfl ?_
  refine am_aload_n (am_dec tmX11_best 4 rfl) rfl rfl ?_
  refine am_iload_n (am_dec tmX11_best 5 rfl) rfl rfl ?_
  obtain ⟨x4, g3, hf⟩ := am_btDR hf
  have h_x4 := k_X11_mapOf g3
  refine am_callV1 (As := [.int p2]) (st := []) hE (am_dec tmX11_best 6 rfl) ok_X11_mapOf rfl lm_X11_139 in_X11_mapOf se_X11_mapOf sh_16 cf11 (c_X11_mapOf hE g3) rfl (by decide) (Nat.le_of_ble_eq_true rfl) (Nat.zero_le _) (Nat.zero_le _) rfl ?_
  refine am_astore (lv' := [(0, .ref 16), (1, .int p1), (2, .int p2), (3, .ref x2), (4, .ref x4)]) (am_dec tmX11_best 7 rfl) (by decide) rfl ?_
  refine am_aload_n (am_dec tmX11_best 8 rfl) rfl rfl ?_
  refine am_aload_n (am_dec tmX11_best 9 rfl) rfl rfl ?_
  refine am_aload (am_dec tmX11_best 10 rfl) rfl ?_
  obtain ⟨x6, g5, hf⟩ := am_btDR hf
  refine am_callV0 (As := [.ref x2, .ref x4]) (st := []) hE (am_dec tmX11_best 11 rfl) ok_X11_needLongForWays rfl lm_X11_239 in_X11_needLongForWays se_X11_needLongForWays sh_16 cf11 (c_X11_needLongForWays hE h_x2 h_x4 g5) rfl (by decide) (Nat.le_of_ble_eq_true rfl) (Nat.zero_le _) (Nat.zero_le _) rfl ?_
  refine am_iconst (v := (-1 : Int32)) (am_dec tmX11_best 12 rfl) (by decide) ?_
  refine am_istore (lv' := [(0, .ref 16), (1, .int p1), (2, .int p2), (3, .ref x2), (4, .ref x4), (5, .int (-1 : Int32))]) (am_dec tmX11_best 13 rfl) (by decide) rfl ?_
  refine am_iconst (v := (0 : Int32)) (am_dec tmX11_best 14 rfl) (by decide) ?_
  refine am_istore (lv' := [(0, .ref 16), (1, .int p1), (2, .int p2), (3, .ref x2), (4, .ref x4), (5, .int (-1 : Int32)), (6, .int (0 : Int32))]) (am_dec tmX11_best 15 rfl) (by decide) rfl ?_
  refine am_iconst (v := (0 : Int32)) (am_dec tmX11_best 16 rfl) (by decide) ?_
  refine am_istore (lv' := [(0, .ref 16), (1, .int p1), (2, .int p2), (3, .ref x2), (4, .ref x4), (5, .int (-1 : Int32)), (6, .int (0 : Int32)), (7, .int (0 : Int32))]) (am_dec tmX11_best 17 rfl) (by decide) rfl ?_
  obtain ⟨e20, g21, hf⟩ := am_bd hf
  refine am_pick [0, 3, 4, 5, 6, 7] rfl (l_X11_best_L29 hE (Nat.le_refl _) h_x2 h_x4 am_fu _ _ _ _ _ g21 (fun ex he => ?_))
  subst he
  refine am_iload (am_dec tmX11_best 53 rfl) rfl ?_
  have hf := Sum.inr.inj (Option.some.inj hf)
  subst hf
  exact am_iret (am_dec tmX11_best 54 rfl) rfl (Nat.zero_le _) (Nat.zero_le _)
set_option maxRecDepth 100000 in
set_option maxHeartbeats 4000000 in
theorem t_X11_best {E : am_E} (hE : am_EH E) {p1 : Int32} {p2 : Int32} {D : am_D} {r : String × am_D}  (hf : f_X11_best p1 p2 D = some (.inl r)) : am_C E mX11_best 7 1 6 [.ref 16, .int p1, .int p2] am_G0 D (.inr r.1) am_G0 r.2 := by
  refine am_C_of (by decide +kernel) (Nat.le_of_ble_eq_true rfl) ?_
  change am_S E mX11_best 7 1 6 (.inr r.1) am_G0 r.2 0 0 0 [(0, .ref 16), (1, .int p1), (2, .int p2)] [] am_G0 D
  unfold f_X11_best at hf
  refine am_aload_n (am_dec tmX11_best 0 rfl) rfl rfl ?_
  refine am_iload_n (am_dec tmX11_best 1 rfl) rfl rfl ?_
  rcases am_btDT hf with ⟨g1, eD⟩ | ⟨x2, g1, hf⟩
  · rw [eD]
    exact am_callV_out (As := [.int p1]) (st := []) hE (am_dec tmX11_best 2 rfl) ok_X11_soundOf rfl lm_X11_130 in_X11_soundOf se_X11_soundOf sh_16 cf11 (t_X11_soundOf hE g1) rfl (by decide) (Nat.le_of_ble_eq_true rfl) (Nat.le_refl _) (Nat.le_refl _) rfl rfl
  · have h_x2 := k_X11_soundOf g1
    refine am_callV1 (As := [.int p1]) (st := []) hE (am_dec tmX11_best 2 rfl) ok_X11_soundOf rfl lm_X11_130 in_X11_soundOf se_X11_soundOf sh_16 cf11 (c_X11_soundOf hE g1) rfl (by decide) (Nat.le_of_ble_eq_true rfl) (Nat.zero_le _) (Nat.zero_le _) rfl ?_
    refine am_astore_n (lv' := [(0, .ref 16), (1, .int p1), (2, .int p2), (3, .ref x2)]) (am_dec tmX11_best 3 rfl) rfl (by decide) rfl ?_
    refine am_aload_n (am_dec tmX11_best 4 rfl) rfl rfl ?_
    refine am_iload_n (am_dec tmX11_best 5 rfl) rfl rfl ?_
    rcases am_btDT hf with ⟨g3, eD⟩ | ⟨x4, g3, hf⟩
    · rw [eD]
      exact am_callV_out (As := [.int p2]) (st := []) hE (am_dec tmX11_best 6 rfl) ok_X11_mapOf rfl lm_X11_139 in_X11_mapOf se_X11_mapOf sh_16 cf11 (t_X11_mapOf hE g3) rfl (by decide) (Nat.le_of_ble_eq_true rfl) (Nat.le_refl _) (Nat.le_refl _) rfl rfl
    · have h_x4 := k_X11_mapOf g3
      refine am_callV1 (As := [.int p2]) (st := []) hE (am_dec tmX11_best 6 rfl) ok_X11_mapOf rfl lm_X11_139 in_X11_mapOf se_X11_mapOf sh_16 cf11 (c_X11_mapOf hE g3) rfl (by decide) (Nat.le_of_ble_eq_true rfl) (Nat.zero_le _) (Nat.zero_le _) rfl ?_
      refine am_astore (lv' := [(0, .ref 16), (1, .int p1), (2, .int p2), (3, .ref x2), (4, .ref x4)]) (am_dec tmX11_best 7 rfl) (by decide) rfl ?_
      refine am_aload_n (am_dec tmX11_best 8 rfl) rfl rfl ?_
      refine am_aload_n (am_dec tmX11_best 9 rfl) rfl rfl ?_
      refine am_aload (am_dec tmX11_best 10 rfl) rfl ?_
      rcases am_btDT hf with ⟨g5, eD⟩ | ⟨x6, g5, hf⟩
      · rw [eD]
        exact am_callV_out (As := [.ref x2, .ref x4]) (st := []) hE (am_dec tmX11_best 11 rfl) ok_X11_needLongForWays rfl lm_X11_239 in_X11_needLongForWays se_X11_needLongForWays sh_16 cf11 (t_X11_needLongForWays hE h_x2 h_x4 g5) rfl (by decide) (Nat.le_of_ble_eq_true rfl) (Nat.le_refl _) (Nat.le_refl _) rfl rfl
      · refine am_callV0 (As := [.ref x2, .ref x4]) (st := []) hE (am_dec tmX11_best 11 rfl) ok_X11_needLongForWays rfl lm_X11_239 in_X11_needLongForWays se_X11_needLongForWays sh_16 cf11 (c_X11_needLongForWays hE h_x2 h_x4 g5) rfl (by decide) (Nat.le_of_ble_eq_true rfl) (Nat.zero_le _) (Nat.zero_le _) rfl ?_
        refine am_iconst (v := (-1 : Int32)) (am_dec tmX11_best 12 rfl) (by decide) ?_
        refine am_istore (lv' := [(0, .ref 16), (1, .int p1), (2, .int p2), (3, .ref x2), (4, .ref x4), (5, .int (-1 : Int32))]) (am_dec tmX11_best 13 rfl) (by decide) rfl ?_
        refine am_iconst (v := (0 : Int32)) (am_dec tmX11_best 14 rfl) (by decide) ?_
        refine am_istore (lv' := [(0, .ref 16), (1, .int p1), (2, .int p2), (3, .ref x2), (4, .ref x4), (5, .int (-1 : Int32)), (6, .int (0 : Int32))]) (am_dec tmX11_best 15 rfl) (by decide) rfl ?_
        refine am_iconst (v := (0 : Int32)) (am_dec tmX11_best 16 rfl) (by decide) ?_
        refine am_istore (lv' := [(0, .ref 16), (1, .int p1), (2, .int p2), (3, .ref x2), (4, .ref x4), (5, .int (-1 : Int32)), (6, .int (0 : Int32)), (7, .int (0 : Int32))]) (am_dec tmX11_best 17 rfl) (by decide) rfl ?_
        obtain ⟨e20, g21, hf⟩ := am_bd hf
        refine am_pick [0, 3, 4, 5, 6, 7] rfl (l_X11_best_L29 hE (Nat.le_refl _) h_x2 h_x4 am_fu _ _ _ _ _ g21 (fun ex he => ?_))
        subst he
        refine am_iload (am_dec tmX11_best 53 rfl) rfl ?_
        cases hf
def f_X11_bestOf_L46 (q3 : Int32) (q4 : Nat) (q5 : Nat) : Nat → Int32 → Int32 → Int32 → am_D → Option (Int32 × am_D)
  | 0, _, _, _, _ => none
  | n + 1, v6, v7, v8, D =>
    if (D.1 17 9) ≤ v8 then
    some (v6, D)
    else
    if (4 : Int32) ≤ v8 then
    some (v6, D)
    else
    (am_gA 4 v8).bind fun j13 =>
    (f_X3_drawOut 81 q4 q5 (55 + j13) D).bind fun x16 =>
    (f_X9_to q5 (q3 - (1 : Int32)) x16).bind fun x18 =>
    (f_X9_to q5 q3 x16).bind fun x20 =>
    (f_X3_unlikeTogether 81 x18 x20 x16).bind fun x22 =>
    (if v6 = (-1 : Int32) then
    some (v8, x22)
    else
    if v7 ≤ x22 then
    some (v6, v7)
    else
    some (v8, x22)).bind fun w26 =>
    f_X11_bestOf_L46 q3 q4 q5 n w26.1 w26.2 (v8 + (1 : Int32)) x16
def f_X11_bestOf (p1 : Int32) (p2 : Int32) (p3 : Int32) (D : am_D) : Option ((String × am_D) ⊕ (Int32 × am_D)) :=
    am_btD (f_X11_soundOf p1 D) D fun x2 =>
    am_btD (f_X11_mapOf p2 D) D fun x4 =>
    (f_X11_within p3 (0 : Int32) ((D.1 x4 2) - (1 : Int32))).bind fun x6 =>
    am_btD (f_X11_need x6) D fun x8 =>
    am_btD (f_X11_needLongForWays x2 x4 D) D fun x10 =>
    (f_X11_bestOf_L46 p3 x2 x4 am_fu (-1 : Int32) (0 : Int32) (0 : Int32) D).bind fun e28 =>
    some (.inr (e28.1, e28.2))
set_option maxRecDepth 100000 in
set_option maxHeartbeats 4000000 in
theorem l_X11_bestOf_L46 {E : am_E} (hE : am_EH E) {d mc ms : Nat} {o : am_O} {G2 : am_G} {D2 : am_D} (hdp : 6 ≤ d) {q3 : Int32} {q4 : Nat} {q5 : Nat} (h_q4 : am_sh am_G0 q4 = some (7, 2)) (h_q5 : am_sh am_G0 q5 = some (9, 3)) : ∀ (n : Nat) (v6 : Int32) (v7 : Int32) (v8 : Int32) (D : am_D) (ex0 : Int32 × am_D), f_X11_bestOf_L46 q3 q4 q5 n v6 v7 v8 D = some ex0 → (∀ ex : Int32 × am_D, ex0 = ex → am_S E mX11_bestOf d mc ms o G2 D2 0 0 135 [(6, .int ex.1)] [] am_G0 ex.2) → am_S E mX11_bestOf d mc ms o G2 D2 0 0 46 [(0, .ref 16), (3, .int q3), (4, .ref q4), (5, .ref q5), (6, .int v6), (7, .int v7), (8, .int v8)] [] am_G0 D
  | 0, _, _, _, _, _, hf, _ => by
    unfold f_X11_bestOf_L46 at hf
    cases hf
  | n + 1, v6, v7, v8, D, ex0, hf, hk0 => by
    unfold f_X11_bestOf_L46 at hf
    refine am_iload (am_dec tmX11_bestOf_0 26 rfl) rfl ?_
    refine am_aload_n (am_dec tmX11_bestOf_0 27 rfl) rfl rfl ?_
    refine am_getR (j := 0) hE (am_dec tmX11_bestOf_0 28 rfl) sh_16 cf11 (by decide) rfl lf_X11_10 rf_16_0 ?_
    refine am_getI (j := 9) hE (am_dec tmX11_bestOf_0 29 rfl) sh_17 cf1 (by decide) rfl lf_X11_232 ?_
    refine am_icmp_ge (tgt := 135) (am_dec tmX11_bestOf_0 30 rfl) (by decide) (fun c11 => ?_) (fun c11 => ?_)
    · rw [if_pos c11] at hf
      have hf := Option.some.inj hf
      subst hf
      exact am_pick [4] rfl (hk0 _ rfl)
    · rw [if_neg c11] at hf
      refine am_iload (am_dec tmX11_bestOf_0 31 rfl) rfl ?_
      refine am_iconst (v := (4 : Int32)) (am_dec tmX11_bestOf_0 32 rfl) (by decide) ?_
      refine am_icmp_ge (tgt := 135) (am_dec tmX11_bestOf_0 33 rfl) (by decide) (fun c12 => ?_) (fun c12 => ?_)
      · rw [if_pos c12] at hf
        have hf := Option.some.inj hf
        subst hf
        exact am_pick [4] rfl (hk0 _ rfl)
      · rw [if_neg c12] at hf
        refine am_aload_n (am_dec tmX11_bestOf_0 34 rfl) rfl rfl ?_
        refine am_getR (j := 5) hE (am_dec tmX11_bestOf_0 35 rfl) sh_16 cf11 (by decide) rfl lf_X11_37 rf_16_5 ?_
        refine am_aload (am_dec tmX11_bestOf_0 36 rfl) rfl ?_
        refine am_aload (am_dec tmX11_bestOf_0 37 rfl) rfl ?_
        refine am_aload_n (am_dec tmX11_bestOf_0 38 rfl) rfl rfl ?_
        refine am_getR (j := 0) hE (am_dec tmX11_bestOf_0 39 rfl) sh_16 cf11 (by decide) rfl lf_X11_10 rf_16_0 ?_
        refine am_getR (j := 2) hE (am_dec tmX11_bestOf_0 40 rfl) sh_17 cf1 (by decide) rfl lf_X11_235 rf_17_2 ?_
        refine am_iload (am_dec tmX11_bestOf_0 41 rfl) rfl ?_
        obtain ⟨j13, g14, hf⟩ := am_bd hf
        have hj_j13 := (am_gA_lt g14).1
        refine am_aald2 (t := 4) hE (am_dec tmX11_bestOf_0 42 rfl) sh_20 (by decide) rfl rfl g14 (rr_20 hj_j13) ?_
        obtain ⟨x16, g15, hf⟩ := am_bd hf
        refine am_callV0 (As := [.ref q4, .ref q5, .ref (55 + j13)]) (st := []) hE (am_dec tmX11_bestOf_0 43 rfl) ok_X3_drawOut rfl lm_X11_180 in_X3_drawOut se_X3_drawOut sh_81 cf3 (c_X3_drawOut hE sh_81 h_q4 h_q5 (sa_20_0 hj_j13) g15) rfl (Nat.lt_of_lt_of_le (by decide) hdp) (Nat.le_of_ble_eq_true rfl) (Nat.zero_le _) (Nat.zero_le _) rfl ?_
        refine am_aload_n (am_dec tmX11_bestOf_0 44 rfl) rfl rfl ?_
        refine am_getR (j := 5) hE (am_dec tmX11_bestOf_0 45 rfl) sh_16 cf11 (by decide) rfl lf_X11_37 rf_16_5 ?_
        refine am_aload (am_dec tmX11_bestOf_0 46 rfl) rfl ?_
        refine am_iload_n (am_dec tmX11_bestOf_0 47 rfl) rfl rfl ?_
        refine am_iconst (v := (1 : Int32)) (am_dec tmX11_bestOf_0 48 rfl) (by decide) ?_
        refine am_isub (am_dec tmX11_bestOf_0 49 rfl) ?_
        obtain ⟨x18, g17, hf⟩ := am_bd hf
        refine am_callV1 (As := [.int (q3 - (1 : Int32))]) (st := [.ref 81]) hE (am_dec tmX11_bestOf_0 50 rfl) ok_X9_to rfl lm_X11_243 in_X9_to se_X9_to h_q5 cf9 (c_X9_to hE h_q5 g17) rfl (Nat.lt_of_lt_of_le (by decide) hdp) (Nat.le_of_ble_eq_true rfl) (Nat.zero_le _) (Nat.zero_le _) rfl ?_
        refine am_aload (am_dec tmX11_bestOf_0 51 rfl) rfl ?_
        refine am_iload_n (am_dec tmX11_bestOf_0 52 rfl) rfl rfl ?_
        obtain ⟨x20, g19, hf⟩ := am_bd hf
        refine am_callV1 (As := [.int q3]) (st := [.int x18, .ref 81]) hE (am_dec tmX11_bestOf_0 53 rfl) ok_X9_to rfl lm_X11_243 in_X9_to se_X9_to h_q5 cf9 (c_X9_to hE h_q5 g19) rfl (Nat.lt_of_lt_of_le (by decide) hdp) (Nat.le_of_ble_eq_true rfl) (Nat.zero_le _) (Nat.zero_le _) rfl ?_
        obtain ⟨x22, g21, hf⟩ := am_bd hf
        refine am_callV1 (As := [.int x18, .int x20]) (st := []) hE (am_dec tmX11_bestOf_0 54 rfl) ok_X3_unlikeTogether rfl lm_X11_246 in_X3_unlikeTogether se_X3_unlikeTogether sh_81 cf3 (c_X3_unlikeTogether hE sh_81 g21) rfl (Nat.lt_of_lt_of_le (by decide) hdp) (Nat.le_of_ble_eq_true rfl) (Nat.zero_le _) (Nat.zero_le _) rfl ?_
        refine am_istore (lv' := [(0, .ref 16), (3, .int q3), (4, .ref q4), (5, .ref q5), (6, .int v6), (7, .int v7), (8, .int v8), (9, .int x22)]) (am_dec tmX11_bestOf_0 55 rfl) (by decide) rfl ?_
        refine am_iload (am_dec tmX11_bestOf_0 56 rfl) rfl ?_
        refine am_iconst (v := (-1 : Int32)) (am_dec tmX11_bestOf_0 57 rfl) (by decide) ?_
        obtain ⟨w26, g27, hf⟩ := am_bd hf
        have key24 : am_S E mX11_bestOf d mc ms o G2 D2 0 0 129 [(0, .ref 16), (3, .int q3), (4, .ref q4), (5, .ref q5), (6, .int w26.1), (7, .int w26.2), (8, .int v8)] [] am_G0 x16 := by
          refine am_iinc (v := (1 : Int32)) (lv' := [(0, .ref 16), (3, .int q3), (4, .ref q4), (5, .ref q5), (6, .int w26.1), (7, .int w26.2), (8, .int (v8 + (1 : Int32)))]) (am_dec tmX11_bestOf_1 6 rfl) rfl (by decide) (by decide) rfl ?_
          refine am_goto (tgt := 46) (am_dec tmX11_bestOf_1 7 rfl) (by decide) ?_
          exact am_pick [0, 1, 2, 3, 4, 5, 6] rfl (l_X11_bestOf_L46 hE hdp h_q4 h_q5 n w26.1 w26.2 (v8 + (1 : Int32)) x16 ex0 hf hk0)
        replace hf := g27
        refine am_icmp_eq (tgt := 121) (am_dec tmX11_bestOf_0 58 rfl) (by decide) (fun c23 => ?_) (fun c23 => ?_)
        · rw [if_pos c23] at hf
          refine am_iload (am_dec tmX11_bestOf_1 2 rfl) rfl ?_
          refine am_istore (lv' := [(0, .ref 16), (3, .int q3), (4, .ref q4), (5, .ref q5), (6, .int v8), (7, .int v7), (8, .int v8), (9, .int x22)]) (am_dec tmX11_bestOf_1 3 rfl) (by decide) rfl ?_
          refine am_iload (am_dec tmX11_bestOf_1 4 rfl) rfl ?_
          refine am_istore (lv' := [(0, .ref 16), (3, .int q3), (4, .ref q4), (5, .ref q5), (6, .int v8), (7, .int x22), (8, .int v8), (9, .int x22)]) (am_dec tmX11_bestOf_1 5 rfl) (by decide) rfl ?_
          have hf := Option.some.inj hf
          subst hf
          exact am_pick [0, 1, 2, 3, 4, 5, 6] rfl key24
        · rw [if_neg c23] at hf
          refine am_iload (am_dec tmX11_bestOf_0 59 rfl) rfl ?_
          refine am_iload (am_dec tmX11_bestOf_1 0 rfl) rfl ?_
          refine am_icmp_ge (tgt := 129) (am_dec tmX11_bestOf_1 1 rfl) (by decide) (fun c25 => ?_) (fun c25 => ?_)
          · rw [if_pos c25] at hf
            have hf := Option.some.inj hf
            subst hf
            exact am_pick [0, 1, 2, 3, 4, 5, 6] rfl key24
          · rw [if_neg c25] at hf
            refine am_iload (am_dec tmX11_bestOf_1 2 rfl) rfl ?_
            refine am_istore (lv' := [(0, .ref 16), (3, .int q3), (4, .ref q4), (5, .ref q5), (6, .int v8), (7, .int v7), (8, .int v8), (9, .int x22)]) (am_dec tmX11_bestOf_1 3 rfl) (by decide) rfl ?_
            refine am_iload (am_dec tmX11_bestOf_1 4 rfl) rfl ?_
            refine am_istore (lv' := [(0, .ref 16), (3, .int q3), (4, .ref q4), (5, .ref q5), (6, .int v8), (7, .int x22), (8, .int v8), (9, .int x22)]) (am_dec tmX11_bestOf_1 5 rfl) (by decide) rfl ?_
            have hf := Option.some.inj hf
            subst hf
            exact am_pick [0, 1, 2, 3, 4, 5, 6] rfl key24
set_option maxRecDepth 100000 in
set_option maxHeartbeats 4000000 in
theorem c_X11_bestOf {E : am_E} (hE : am_EH E) {p1 : Int32} {p2 : Int32} {p3 : Int32} {D : am_D} {r : (Int32 × am_D)}  (hf : f_X11_bestOf p1 p2 p3 D = some (.inr r)) : am_C E mX11_bestOf 6 0 0 [.ref 16, .int p1, .int p2, .int p3] am_G0 D (.inl (some (.int r.1))) am_G0 r.2 := by
  refine am_C_of (by decide +kernel) (Nat.le_of_ble_eq_true rfl) ?_
  change am_S E mX11_bestOf 6 0 0 (.inl (some (.int r.1))) am_G0 r.2 0 0 0 [(0, .ref 16), (1, .int p1), (2, .int p2), (3, .int p3)] [] am_G0 D
  unfold f_X11_bestOf at hf
  refine am_aload_n (am_dec tmX11_bestOf_0 0 rfl) rfl rfl ?_
  refine am_iload_n (am_dec tmX11_bestOf_0 1 rfl) rfl rfl ?_
  obtain ⟨x2, g1, hf⟩ := am_btDR hf
  have h_x2 := k_X11_soundOf g1
  refine am_callV1 (As := [.int p1]) (st := []) hE (am_dec tmX11_bestOf_0 2 rfl) ok_X11_soundOf rfl lm_X11_130 in_X11_soundOf se_X11_soundOf sh_16 cf11 (c_X11_soundOf hE g1) rfl (by decide) (Nat.le_of_ble_eq_true rfl) (Nat.zero_le _) (Nat.zero_le _) rfl ?_
  refine am_astore (lv' := [(0, .ref 16), (1, .int p1), (2, .int p2), (3, .int p3), (4, .ref x2)]) (am_dec tmX11_bestOf_0 3 rfl) (by decide) rfl ?_
  refine am_aload_n (am_dec tmX11_bestOf_0 4 rfl) rfl rfl ?_
  refine am_iload_n (am_dec tmX11_bestOf_0 5 rfl) rfl rfl ?_
  obtain ⟨x4, g3, hf⟩ := am_btDR hf
  have h_x4 := k_X11_mapOf g3
  refine am_callV1 (As := [.int p2]) (st := []) hE (am_dec tmX11_bestOf_0 6 rfl) ok_X11_mapOf rfl lm_X11_139 in_X11_mapOf se_X11_mapOf sh_16 cf11 (c_X11_mapOf hE g3) rfl (by decide) (Nat.le_of_ble_eq_true rfl) (Nat.zero_le _) (Nat.zero_le _) rfl ?_
  refine am_astore (lv' := [(0, .ref 16), (1, .int p1), (2, .int p2), (3, .int p3), (4, .ref x2), (5, .ref x4)]) (am_dec tmX11_bestOf_0 7 rfl) (by decide) rfl ?_
  refine am_iload_n (am_dec tmX11_bestOf_0 8 rfl) rfl rfl ?_
  refine am_iconst (v := (0 : Int32)) (am_dec tmX11_bestOf_0 9 rfl) (by decide) ?_
  refine am_aload (am_dec tmX11_bestOf_0 10 rfl) rfl ?_
  refine am_getI (j := 2) hE (am_dec tmX11_bestOf_0 11 rfl) h_x4 cf9 (by decide) rfl lf_X11_147 ?_
  refine am_iconst (v := (1 : Int32)) (am_dec tmX11_bestOf_0 12 rfl) (by decide) ?_
  refine am_isub (am_dec tmX11_bestOf_0 13 rfl) ?_
  obtain ⟨x6, g5, hf⟩ := am_bd hf
  refine am_callS1 (As := [.int p3, .int (0 : Int32), .int ((D.1 x4 2) - (1 : Int32))]) (st := []) (am_dec tmX11_bestOf_0 14 rfl) ok_X11_within rfl lm_X11_143 st_X11_within (c_X11_within hE g5) rfl (by decide) (Nat.le_of_ble_eq_true rfl) (Nat.zero_le _) (Nat.zero_le _) rfl ?_
  obtain ⟨x8, g7, hf⟩ := am_btDR hf
  refine am_callS0 (As := [.int x6]) (st := []) (am_dec tmX11_bestOf_0 15 rfl) ok_X11_need rfl lm_X11_94 st_X11_need (c_X11_need hE g7) rfl (by decide) (Nat.le_of_ble_eq_true rfl) (Nat.zero_le _) (Nat.zero_le _) rfl ?_
  refine am_aload_n (am_dec tmX11_bestOf_0 16 rfl) rfl rfl ?_
  refine am_aload (am_dec tmX11_bestOf_0 17 rfl) rfl ?_
  refine am_aload (am_dec tmX11_bestOf_0 18 rfl) rfl ?_
  obtain ⟨x10, g9, hf⟩ := am_btDR hf
  refine am_callV0 (As := [.ref x2, .ref x4]) (st := []) hE (am_dec tmX11_bestOf_0 19 rfl) ok_X11_needLongForWays rfl lm_X11_239 in_X11_needLongForWays se_X11_needLongForWays sh_16 cf11 (c_X11_needLongForWays hE h_x2 h_x4 g9) rfl (by decide) (Nat.le_of_ble_eq_true rfl) (Nat.zero_le _) (Nat.zero_le _) rfl ?_
  refine am_iconst (v := (-1 : Int32)) (am_dec tmX11_bestOf_0 20 rfl) (by decide) ?_
  refine am_istore (lv' := [(0, .ref 16), (1, .int p1), (2, .int p2), (3, .int p3), (4, .ref x2), (5, .ref x4), (6, .int (-1 : Int32))]) (am_dec tmX11_bestOf_0 21 rfl) (by decide) rfl ?_
  refine am_iconst (v := (0 : Int32)) (am_dec tmX11_bestOf_0 22 rfl) (by decide) ?_
  refine am_istore (lv' := [(0, .ref 16), (1, .int p1), (2, .int p2), (3, .int p3), (4, .ref x2), (5, .ref x4), (6, .int (-1 : Int32)), (7, .int (0 : Int32))]) (am_dec tmX11_bestOf_0 23 rfl) (by decide) rfl ?_
  refine am_iconst (v := (0 : Int32)) (am_dec tmX11_bestOf_0 24 rfl) (by decide) ?_
  refine am_istore (lv' := [(0, .ref 16), (1, .int p1), (2, .int p2), (3, .int p3), (4, .ref x2), (5, .ref x4), (6, .int (-1 : Int32)), (7, .int (0 : Int32)), (8, .int (0 : Int32))]) (am_dec tmX11_bestOf_0 25 rfl) (by decide) rfl ?_
  obtain ⟨e28, g29, hf⟩ := am_bd hf
  refine am_pick [0, 3, 4, 5, 6, 7, 8] rfl (l_X11_bestOf_L46 hE (Nat.le_refl _) h_x2 h_x4 am_fu _ _ _ _ _ g29 (fun ex he => ?_))
  subst he
  refine am_iload (am_dec tmX11_bestOf_1 8 rfl) rfl ?_
  have hf := Sum.inr.inj (Option.some.inj hf)
  subst hf
  exact am_iret (am_dec tmX11_bestOf_1 9 rfl) rfl (Nat.zero_le _) (Nat.zero_le _)
set_option maxRecDepth 100000 in
set_option maxHeartbeats 4000000 in
theorem t_X11_bestOf {E : am_E} (hE : am_EH E) {p1 : Int32} {p2 : Int32} {p3 : Int32} {D : am_D} {r : String × am_D}  (hf : f_X11_bestOf p1 p2 p3 D = some (.inl r)) : am_C E mX11_bestOf 6 1 6 [.ref 16, .int p1, .int p2, .int p3] am_G0 D (.inr r.1) am_G0 r.2 := by
  refine am_C_of (by decide +kernel) (Nat.le_of_ble_eq_true rfl) ?_
  change am_S E mX11_bestOf 6 1 6 (.inr r.1) am_G0 r.2 0 0 0 [(0, .ref 16), (1, .int p1), (2, .int p2), (3, .int p3)] [] am_G0 D
  unfold f_X11_bestOf at hf
  refine am_aload_n (am_dec tmX11_bestOf_0 0 rfl) rfl rfl ?_
  refine am_iload_n (am_dec tmX11_bestOf_0 1 rfl) rfl rfl ?_
  rcases am_btDT hf with ⟨g1, eD⟩ | ⟨x2, g1, hf⟩
  · rw [eD]
    exact am_callV_out (As := [.int p1]) (st := []) hE (am_dec tmX11_bestOf_0 2 rfl) ok_X11_soundOf rfl lm_X11_130 in_X11_soundOf se_X11_soundOf sh_16 cf11 (t_X11_soundOf hE g1) rfl (by decide) (Nat.le_of_ble_eq_true rfl) (Nat.le_refl _) (Nat.le_refl _) rfl rfl
  · have h_x2 := k_X11_soundOf g1
    refine am_callV1 (As := [.int p1]) (st := []) hE (am_dec tmX11_bestOf_0 2 rfl) ok_X11_soundOf rfl lm_X11_130 in_X11_soundOf se_X11_soundOf sh_16 cf11 (c_X11_soundOf hE g1) rfl (by decide) (Nat.le_of_ble_eq_true rfl) (Nat.zero_le _) (Nat.zero_le _) rfl ?_
    refine am_astore (lv' := [(0, .ref 16), (1, .int p1), (2, .int p2), (3, .int p3), (4, .ref x2)]) (am_dec tmX11_bestOf_0 3 rfl) (by decide) rfl ?_
    refine am_aload_n (am_dec tmX11_bestOf_0 4 rfl) rfl rfl ?_
    refine am_iload_n (am_dec tmX11_bestOf_0 5 rfl) rfl rfl ?_
    rcases am_btDT hf with ⟨g3, eD⟩ | ⟨x4, g3, hf⟩
    · rw [eD]
      exact am_callV_out (As := [.int p2]) (st := []) hE (am_dec tmX11_bestOf_0 6 rfl) ok_X11_mapOf rfl lm_X11_139 in_X11_mapOf se_X11_mapOf sh_16 cf11 (t_X11_mapOf hE g3) rfl (by decide) (Nat.le_of_ble_eq_true rfl) (Nat.le_refl _) (Nat.le_refl _) rfl rfl
    · have h_x4 := k_X11_mapOf g3
      refine am_callV1 (As := [.int p2]) (st := []) hE (am_dec tmX11_bestOf_0 6 rfl) ok_X11_mapOf rfl lm_X11_139 in_X11_mapOf se_X11_mapOf sh_16 cf11 (c_X11_mapOf hE g3) rfl (by decide) (Nat.le_of_ble_eq_true rfl) (Nat.zero_le _) (Nat.zero_le _) rfl ?_
      refine am_astore (lv' := [(0, .ref 16), (1, .int p1), (2, .int p2), (3, .int p3), (4, .ref x2), (5, .ref x4)]) (am_dec tmX11_bestOf_0 7 rfl) (by decide) rfl ?_
      refine am_iload_n (am_dec tmX11_bestOf_0 8 rfl) rfl rfl ?_
      refine am_iconst (v := (0 : Int32)) (am_dec tmX11_bestOf_0 9 rfl) (by decide) ?_
      refine am_aload (am_dec tmX11_bestOf_0 10 rfl) rfl ?_
      refine am_getI (j := 2) hE (am_dec tmX11_bestOf_0 11 rfl) h_x4 cf9 (by decide) rfl lf_X11_147 ?_
      refine am_iconst (v := (1 : Int32)) (am_dec tmX11_bestOf_0 12 rfl) (by decide) ?_
      refine am_isub (am_dec tmX11_bestOf_0 13 rfl) ?_
      obtain ⟨x6, g5, hf⟩ := am_bd hf
      refine am_callS1 (As := [.int p3, .int (0 : Int32), .int ((D.1 x4 2) - (1 : Int32))]) (st := []) (am_dec tmX11_bestOf_0 14 rfl) ok_X11_within rfl lm_X11_143 st_X11_within (c_X11_within hE g5) rfl (by decide) (Nat.le_of_ble_eq_true rfl) (Nat.zero_le _) (Nat.zero_le _) rfl ?_
      rcases am_btDT hf with ⟨g7, eD⟩ | ⟨x8, g7, hf⟩
      · rw [eD]
        exact am_callS_out (As := [.int x6]) (st := []) (am_dec tmX11_bestOf_0 15 rfl) ok_X11_need rfl lm_X11_94 st_X11_need (t_X11_need hE g7) rfl (by decide) (Nat.le_of_ble_eq_true rfl) (Nat.le_refl _) (Nat.le_refl _) rfl rfl
      · refine am_callS0 (As := [.int x6]) (st := []) (am_dec tmX11_bestOf_0 15 rfl) ok_X11_need rfl lm_X11_94 st_X11_need (c_X11_need hE g7) rfl (by decide) (Nat.le_of_ble_eq_true rfl) (Nat.zero_le _) (Nat.zero_le _) rfl ?_
        refine am_aload_n (am_dec tmX11_bestOf_0 16 rfl) rfl rfl ?_
        refine am_aload (am_dec tmX11_bestOf_0 17 rfl) rfl ?_
        refine am_aload (am_dec tmX11_bestOf_0 18 rfl) rfl ?_
        rcases am_btDT hf with ⟨g9, eD⟩ | ⟨x10, g9, hf⟩
        · rw [eD]
          exact am_callV_out (As := [.ref x2, .ref x4]) (st := []) hE (am_dec tmX11_bestOf_0 19 rfl) ok_X11_needLongForWays rfl lm_X11_239 in_X11_needLongForWays se_X11_needLongForWays sh_16 cf11 (t_X11_needLongForWays hE h_x2 h_x4 g9) rfl (by decide) (Nat.le_of_ble_eq_true rfl) (Nat.le_refl _) (Nat.le_refl _) rfl rfl
        · refine am_callV0 (As := [.ref x2, .ref x4]) (st := []) hE (am_dec tmX11_bestOf_0 19 rfl) ok_X11_needLongForWays rfl lm_X11_239 in_X11_needLongForWays se_X11_needLongForWays sh_16 cf11 (c_X11_needLongForWays hE h_x2 h_x4 g9) rfl (by decide) (Nat.le_of_ble_eq_true rfl) (Nat.zero_le _) (Nat.zero_le _) rfl ?_
          refine am_iconst (v := (-1 : Int32)) (am_dec tmX11_bestOf_0 20 rfl) (by decide) ?_
          refine am_istore (lv' := [(0, .ref 16), (1, .int p1), (2, .int p2), (3, .int p3), (4, .ref x2), (5, .ref x4), (6, .int (-1 : Int32))]) (am_dec tmX11_bestOf_0 21 rfl) (by decide) rfl ?_
          refine am_iconst (v := (0 : Int32)) (am_dec tmX11_bestOf_0 22 rfl) (by decide) ?_
          refine am_istore (lv' := [(0, .ref 16), (1, .int p1), (2, .int p2), (3, .int p3), (4, .ref x2), (5, .ref x4), (6, .int (-1 : Int32)), (7, .int (0 : Int32))]) (am_dec tmX11_bestOf_0 23 rfl) (by decide) rfl ?_
          refine am_iconst (v := (0 : Int32)) (am_dec tmX11_bestOf_0 24 rfl) (by decide) ?_
          refine am_istore (lv' := [(0, .ref 16), (1, .int p1), (2, .int p2), (3, .int p3), (4, .ref x2), (5, .ref x4), (6, .int (-1 : Int32)), (7, .int (0 : Int32)), (8, .int (0 : Int32))]) (am_dec tmX11_bestOf_0 25 rfl) (by decide) rfl ?_
          obtain ⟨e28, g29, hf⟩ := am_bd hf
          refine am_pick [0, 3, 4, 5, 6, 7, 8] rfl (l_X11_bestOf_L46 hE (Nat.le_refl _) h_x2 h_x4 am_fu _ _ _ _ _ g29 (fun ex he => ?_))
          subst he
          refine am_iload (am_dec tmX11_bestOf_1 8 rfl) rfl ?_
          cases hf
def f_X11_part (p1 : Int32) (p2 : Int32) (p3 : Int32) (p4 : Int32) (D : am_D) : Option ((String × am_D) ⊕ (Int32 × am_D)) :=
    (f_X11_within p1 (1 : Int32) (600 : Int32)).bind fun x2 =>
    (if x2 = 0 then
    some ((0 : Int32))
    else
    (f_X11_within p2 (0 : Int32) (99 : Int32)).bind fun x6 =>
    if x6 = 0 then
    some ((0 : Int32))
    else
    some ((1 : Int32))).bind fun w8 =>
    am_btD (f_X11_need w8) D fun x10 =>
    (f_X11_within p3 (0 : Int32) (1200 : Int32)).bind fun x12 =>
    (if x12 = 0 then
    some ((0 : Int32))
    else
    (f_X11_within p4 p3 (1200 : Int32)).bind fun x16 =>
    if x16 = 0 then
    some ((0 : Int32))
    else
    some ((1 : Int32))).bind fun w18 =>
    am_btD (f_X11_need w18) D fun x20 =>
    if (D.1 24 5) < (10 : Int32) then
    (f_X6_add p1 p2 p3 p4 D).bind fun x23 =>
    some (.inr ((x23.1 24 5), x23))
    else
    some (.inr ((-1 : Int32), D))
set_option maxRecDepth 100000 in
set_option maxHeartbeats 4000000 in
theorem c_X11_part {E : am_E} (hE : am_EH E) {p1 : Int32} {p2 : Int32} {p3 : Int32} {p4 : Int32} {D : am_D} {r : (Int32 × am_D)}  (hf : f_X11_part p1 p2 p3 p4 D = some (.inr r)) : am_C E mX11_part 2 0 0 [.ref 16, .int p1, .int p2, .int p3, .int p4] am_G0 D (.inl (some (.int r.1))) am_G0 r.2 := by
  refine am_C_of (by decide +kernel) (Nat.le_of_ble_eq_true rfl) ?_
  change am_S E mX11_part 2 0 0 (.inl (some (.int r.1))) am_G0 r.2 0 0 0 [(0, .ref 16), (1, .int p1), (2, .int p2), (3, .int p3), (4, .int p4)] [] am_G0 D
  unfold f_X11_part at hf
  refine am_iload_n (am_dec tmX11_part 0 rfl) rfl rfl ?_
  refine am_iconst (v := (1 : Int32)) (am_dec tmX11_part 1 rfl) (by decide) ?_
  refine am_sipush (v := (600 : Int32)) (am_dec tmX11_part 2 rfl) (by decide) ?_
  obtain ⟨x2, g1, hf⟩ := am_bd hf
  refine am_callS1 (As := [.int p1, .int (1 : Int32), .int (600 : Int32)]) (st := []) (am_dec tmX11_part 3 rfl) ok_X11_within rfl lm_X11_143 st_X11_within (c_X11_within hE g1) rfl (by decide) (Nat.le_of_ble_eq_true rfl) (Nat.zero_le _) (Nat.zero_le _) rfl ?_
  obtain ⟨w8, g25, hf⟩ := am_bd hf
  have key4 : am_S E mX11_part 2 0 0 (.inl (some (.int r.1))) am_G0 r.2 0 0 26 [(0, .ref 16), (1, .int p1), (2, .int p2), (3, .int p3), (4, .int p4)] [.int w8] am_G0 D := by
    obtain ⟨x10, g9, hf⟩ := am_btDR hf
    refine am_callS0 (As := [.int w8]) (st := []) (am_dec tmX11_part 13 rfl) ok_X11_need rfl lm_X11_94 st_X11_need (c_X11_need hE g9) rfl (by decide) (Nat.le_of_ble_eq_true rfl) (Nat.zero_le _) (Nat.zero_le _) rfl ?_
    refine am_iload_n (am_dec tmX11_part 14 rfl) rfl rfl ?_
    refine am_iconst (v := (0 : Int32)) (am_dec tmX11_part 15 rfl) (by decide) ?_
    refine am_sipush (v := (1200 : Int32)) (am_dec tmX11_part 16 rfl) (by decide) ?_
    obtain ⟨x12, g11, hf⟩ := am_bd hf
    refine am_callS1 (As := [.int p3, .int (0 : Int32), .int (1200 : Int32)]) (st := []) (am_dec tmX11_part 17 rfl) ok_X11_within rfl lm_X11_143 st_X11_within (c_X11_within hE g11) rfl (by decide) (Nat.le_of_ble_eq_true rfl) (Nat.zero_le _) (Nat.zero_le _) rfl ?_
    obtain ⟨w18, g24, hf⟩ := am_bd hf
    have key14 : am_S E mX11_part 2 0 0 (.inl (some (.int r.1))) am_G0 r.2 0 0 57 [(0, .ref 16), (1, .int p1), (2, .int p2), (3, .int p3), (4, .int p4)] [.int w18] am_G0 D := by
      obtain ⟨x20, g19, hf⟩ := am_btDR hf
      refine am_callS0 (As := [.int w18]) (st := []) (am_dec tmX11_part 27 rfl) ok_X11_need rfl lm_X11_94 st_X11_need (c_X11_need hE g19) rfl (by decide) (Nat.le_of_ble_eq_true rfl) (Nat.zero_le _) (Nat.zero_le _) rfl ?_
      refine am_aload_n (am_dec tmX11_part 28 rfl) rfl rfl ?_
      refine am_getR (j := 0) hE (am_dec tmX11_part 29 rfl) sh_16 cf11 (by decide) rfl lf_X11_10 rf_16_0 ?_
      refine am_getR (j := 6) hE (am_dec tmX11_part 30 rfl) sh_17 cf1 (by decide) rfl lf_X11_251 rf_17_6 ?_
      refine am_getI (j := 5) hE (am_dec tmX11_part 31 rfl) sh_24 cf6 (by decide) rfl lf_X11_255 ?_
      refine am_bipush (v := (10 : Int32)) (am_dec tmX11_part 32 rfl) (by decide) ?_
      refine am_icmp_lt (tgt := 77) (am_dec tmX11_part 33 rfl) (by decide) (fun c21 => ?_) (fun c21 => ?_)
      · rw [if_pos c21] at hf
        refine am_aload_n (am_dec tmX11_part 36 rfl) rfl rfl ?_
        refine am_getR (j := 0) hE (am_dec tmX11_part 37 rfl) sh_16 cf11 (by decide) rfl lf_X11_10 rf_16_0 ?_
        refine am_getR (j := 6) hE (am_dec tmX11_part 38 rfl) sh_17 cf1 (by decide) rfl lf_X11_251 rf_17_6 ?_
        refine am_iload_n (am_dec tmX11_part 39 rfl) rfl rfl ?_
        refine am_iload_n (am_dec tmX11_part 40 rfl) rfl rfl ?_
        refine am_iload_n (am_dec tmX11_part 41 rfl) rfl rfl ?_
        refine am_iload (am_dec tmX11_part 42 rfl) rfl ?_
        obtain ⟨x23, g22, hf⟩ := am_bd hf
        refine am_callV0 (As := [.int p1, .int p2, .int p3, .int p4]) (st := []) hE (am_dec tmX11_part 43 rfl) ok_X6_add rfl lm_X11_256 in_X6_add se_X6_add sh_24 cf6 (c_X6_add hE g22) rfl (by decide) (Nat.le_of_ble_eq_true rfl) (Nat.zero_le _) (Nat.zero_le _) rfl ?_
        refine am_aload_n (am_dec tmX11_part 44 rfl) rfl rfl ?_
        refine am_getR (j := 0) hE (am_dec tmX11_part 45 rfl) sh_16 cf11 (by decide) rfl lf_X11_10 rf_16_0 ?_
        refine am_getR (j := 6) hE (am_dec tmX11_part 46 rfl) sh_17 cf1 (by decide) rfl lf_X11_251 rf_17_6 ?_
        refine am_getI (j := 5) hE (am_dec tmX11_part 47 rfl) sh_24 cf6 (by decide) rfl lf_X11_255 ?_
        have hf := Sum.inr.inj (Option.some.inj hf)
        subst hf
        exact am_iret (am_dec tmX11_part 48 rfl) rfl (Nat.zero_le _) (Nat.zero_le _)
      · rw [if_neg c21] at hf
        refine am_iconst (v := (-1 : Int32)) (am_dec tmX11_part 34 rfl) (by decide) ?_
        have hf := Sum.inr.inj (Option.some.inj hf)
        subst hf
        exact am_iret (am_dec tmX11_part 35 rfl) rfl (Nat.zero_le _) (Nat.zero_le _)
    replace hf := g24
    refine am_if_eq (tgt := 56) (am_dec tmX11_part 18 rfl) (by decide) (fun c13 => ?_) (fun c13 => ?_)
    · rw [if_pos c13] at hf
      refine am_iconst (v := (0 : Int32)) (am_dec tmX11_part 26 rfl) (by decide) ?_
      have hf := Option.some.inj hf
      subst hf
      exact am_pick [0, 1, 2, 3, 4] rfl key14
    · rw [if_neg c13] at hf
      refine am_iload (am_dec tmX11_part 19 rfl) rfl ?_
      refine am_iload_n (am_dec tmX11_part 20 rfl) rfl rfl ?_
      refine am_sipush (v := (1200 : Int32)) (am_dec tmX11_part 21 rfl) (by decide) ?_
      obtain ⟨x16, g15, hf⟩ := am_bd hf
      refine am_callS1 (As := [.int p4, .int p3, .int (1200 : Int32)]) (st := []) (am_dec tmX11_part 22 rfl) ok_X11_within rfl lm_X11_143 st_X11_within (c_X11_within hE g15) rfl (by decide) (Nat.le_of_ble_eq_true rfl) (Nat.zero_le _) (Nat.zero_le _) rfl ?_
      refine am_if_eq (tgt := 56) (am_dec tmX11_part 23 rfl) (by decide) (fun c17 => ?_) (fun c17 => ?_)
      · rw [if_pos c17] at hf
        refine am_iconst (v := (0 : Int32)) (am_dec tmX11_part 26 rfl) (by decide) ?_
        have hf := Option.some.inj hf
        subst hf
        exact am_pick [0, 1, 2, 3, 4] rfl key14
      · rw [if_neg c17] at hf
        refine am_iconst (v := (1 : Int32)) (am_dec tmX11_part 24 rfl) (by decide) ?_
        refine am_goto (tgt := 57) (am_dec tmX11_part 25 rfl) (by decide) ?_
        have hf := Option.some.inj hf
        subst hf
        exact am_pick [0, 1, 2, 3, 4] rfl key14
  replace hf := g25
  refine am_if_eq (tgt := 25) (am_dec tmX11_part 4 rfl) (by decide) (fun c3 => ?_) (fun c3 => ?_)
  · rw [if_pos c3] at hf
    refine am_iconst (v := (0 : Int32)) (am_dec tmX11_part 12 rfl) (by decide) ?_
    have hf := Option.some.inj hf
    subst hf
    exact am_pick [0, 1, 2, 3, 4] rfl key4
  · rw [if_neg c3] at hf
    refine am_iload_n (am_dec tmX11_part 5 rfl) rfl rfl ?_
    refine am_iconst (v := (0 : Int32)) (am_dec tmX11_part 6 rfl) (by decide) ?_
    refine am_bipush (v := (99 : Int32)) (am_dec tmX11_part 7 rfl) (by decide) ?_
    obtain ⟨x6, g5, hf⟩ := am_bd hf
    refine am_callS1 (As := [.int p2, .int (0 : Int32), .int (99 : Int32)]) (st := []) (am_dec tmX11_part 8 rfl) ok_X11_within rfl lm_X11_143 st_X11_within (c_X11_within hE g5) rfl (by decide) (Nat.le_of_ble_eq_true rfl) (Nat.zero_le _) (Nat.zero_le _) rfl ?_
    refine am_if_eq (tgt := 25) (am_dec tmX11_part 9 rfl) (by decide) (fun c7 => ?_) (fun c7 => ?_)
    · rw [if_pos c7] at hf
      refine am_iconst (v := (0 : Int32)) (am_dec tmX11_part 12 rfl) (by decide) ?_
      have hf := Option.some.inj hf
      subst hf
      exact am_pick [0, 1, 2, 3, 4] rfl key4
    · rw [if_neg c7] at hf
      refine am_iconst (v := (1 : Int32)) (am_dec tmX11_part 10 rfl) (by decide) ?_
      refine am_goto (tgt := 26) (am_dec tmX11_part 11 rfl) (by decide) ?_
      have hf := Option.some.inj hf
      subst hf
      exact am_pick [0, 1, 2, 3, 4] rfl key4
set_option maxRecDepth 100000 in
set_option maxHeartbeats 4000000 in
theorem t_X11_part {E : am_E} (hE : am_EH E) {p1 : Int32} {p2 : Int32} {p3 : Int32} {p4 : Int32} {D : am_D} {r : String × am_D}  (hf : f_X11_part p1 p2 p3 p4 D = some (.inl r)) : am_C E mX11_part 2 1 6 [.ref 16, .int p1, .int p2, .int p3, .int p4] am_G0 D (.inr r.1) am_G0 r.2 := by
  refine am_C_of (by decide +kernel) (Nat.le_of_ble_eq_true rfl) ?_
  change am_S E mX11_part 2 1 6 (.inr r.1) am_G0 r.2 0 0 0 [(0, .ref 16), (1, .int p1), (2, .int p2), (3, .int p3), (4, .int p4)] [] am_G0 D
  unfold f_X11_part at hf
  refine am_iload_n (am_dec tmX11_part 0 rfl) rfl rfl ?_
  refine am_iconst (v := (1 : Int32)) (am_dec tmX11_part 1 rfl) (by decide) ?_
  refine am_sipush (v := (600 : Int32)) (am_dec tmX11_part 2 rfl) (by decide) ?_
  obtain ⟨x2, g1, hf⟩ := am_bd hf
  refine am_callS1 (As := [.int p1, .int (1 : Int32), .int (600 : Int32)]) (st := []) (am_dec tmX11_part 3 rfl) ok_X11_within rfl lm_X11_143 st_X11_within (c_X11_within hE g1) rfl (by decide) (Nat.le_of_ble_eq_true rfl) (Nat.zero_le _) (Nat.zero_le _) rfl ?_
  obtain ⟨w8, g25, hf⟩ := am_bd hf
  have key4 : am_S E mX11_part 2 1 6 (.inr r.1) am_G0 r.2 0 0 26 [(0, .ref 16), (1, .int p1), (2, .int p2), (3, .int p3), (4, .int p4)] [.int w8] am_G0 D := by
    rcases am_btDT hf with ⟨g9, eD⟩ | ⟨x10, g9, hf⟩
    · rw [eD]
      exact am_callS_out (As := [.int w8]) (st := []) (am_dec tmX11_part 13 rfl) ok_X11_need rfl lm_X11_94 st_X11_need (t_X11_need hE g9) rfl (by decide) (Nat.le_of_ble_eq_true rfl) (Nat.le_refl _) (Nat.le_refl _) rfl rfl
    · refine am_callS0 (As := [.int w8]) (st := []) (am_dec tmX11_part 13 rfl) ok_X11_need rfl lm_X11_94 st_X11_need (c_X11_need hE g9) rfl (by decide) (Nat.le_of_ble_eq_true rfl) (Nat.zero_le _) (Nat.zero_le _) rfl ?_
      refine am_iload_n (am_dec tmX11_part 14 rfl) rfl rfl ?_
      refine am_iconst (v := (0 : Int32)) (am_dec tmX11_part 15 rfl) (by decide) ?_
      refine am_sipush (v := (1200 : Int32)) (am_dec tmX11_part 16 rfl) (by decide) ?_
      obtain ⟨x12, g11, hf⟩ := am_bd hf
      refine am_callS1 (As := [.int p3, .int (0 : Int32), .int (1200 : Int32)]) (st := []) (am_dec tmX11_part 17 rfl) ok_X11_within rfl lm_X11_143 st_X11_within (c_X11_within hE g11) rfl (by decide) (Nat.le_of_ble_eq_true rfl) (Nat.zero_le _) (Nat.zero_le _) rfl ?_
      obtain ⟨w18, g24, hf⟩ := am_bd hf
      have key14 : am_S E mX11_part 2 1 6 (.inr r.1) am_G0 r.2 0 0 57 [(0, .ref 16), (1, .int p1), (2, .int p2), (3, .int p3), (4, .int p4)] [.int w18] am_G0 D := by
        rcases am_btDT hf with ⟨g19, eD⟩ | ⟨x20, g19, hf⟩
        · rw [eD]
          exact am_callS_out (As := [.int w18]) (st := []) (am_dec tmX11_part 27 rfl) ok_X11_need rfl lm_X11_94 st_X11_need (t_X11_need hE g19) rfl (by decide) (Nat.le_of_ble_eq_true rfl) (Nat.le_refl _) (Nat.le_refl _) rfl rfl
        · refine am_callS0 (As := [.int w18]) (st := []) (am_dec tmX11_part 27 rfl) ok_X11_need rfl lm_X11_94 st_X11_need (c_X11_need hE g19) rfl (by decide) (Nat.le_of_ble_eq_true rfl) (Nat.zero_le _) (Nat.zero_le _) rfl ?_
          refine am_aload_n (am_dec tmX11_part 28 rfl) rfl rfl ?_
          refine am_getR (j := 0) hE (am_dec tmX11_part 29 rfl) sh_16 cf11 (by decide) rfl lf_X11_10 rf_16_0 ?_
          refine am_getR (j := 6) hE (am_dec tmX11_part 30 rfl) sh_17 cf1 (by decide) rfl lf_X11_251 rf_17_6 ?_
          refine am_getI (j := 5) hE (am_dec tmX11_part 31 rfl) sh_24 cf6 (by decide) rfl lf_X11_255 ?_
          refine am_bipush (v := (10 : Int32)) (am_dec tmX11_part 32 rfl) (by decide) ?_
          refine am_icmp_lt (tgt := 77) (am_dec tmX11_part 33 rfl) (by decide) (fun c21 => ?_) (fun c21 => ?_)
          · rw [if_pos c21] at hf
            refine am_aload_n (am_dec tmX11_part 36 rfl) rfl rfl ?_
            refine am_getR (j := 0) hE (am_dec tmX11_part 37 rfl) sh_16 cf11 (by decide) rfl lf_X11_10 rf_16_0 ?_
            refine am_getR (j := 6) hE (am_dec tmX11_part 38 rfl) sh_17 cf1 (by decide) rfl lf_X11_251 rf_17_6 ?_
            refine am_iload_n (am_dec tmX11_part 39 rfl) rfl rfl ?_
            refine am_iload_n (am_dec tmX11_part 40 rfl) rfl rfl ?_
            refine am_iload_n (am_dec tmX11_part 41 rfl) rfl rfl ?_
            refine am_iload (am_dec tmX11_part 42 rfl) rfl ?_
            obtain ⟨x23, g22, hf⟩ := am_bd hf
            refine am_callV0 (As := [.int p1, .int p2, .int p3, .int p4]) (st := []) hE (am_dec tmX11_part 43 rfl) ok_X6_add rfl lm_X11_256 in_X6_add se_X6_add sh_24 cf6 (c_X6_add hE g22) rfl (by decide) (Nat.le_of_ble_eq_true rfl) (Nat.zero_le _) (Nat.zero_le _) rfl ?_
            refine am_aload_n (am_dec tmX11_part 44 rfl) rfl rfl ?_
            refine am_getR (j := 0) hE (am_dec tmX11_part 45 rfl) sh_16 cf11 (by decide) rfl lf_X11_10 rf_16_0 ?_
            refine am_getR (j := 6) hE (am_dec tmX11_part 46 rfl) sh_17 cf1 (by decide) rfl lf_X11_251 rf_17_6 ?_
            refine am_getI (j := 5) hE (am_dec tmX11_part 47 rfl) sh_24 cf6 (by decide) rfl lf_X11_255 ?_
            cases hf
          · rw [if_neg c21] at hf
            refine am_iconst (v := (-1 : Int32)) (am_dec tmX11_part 34 rfl) (by decide) ?_
            cases hf
      replace hf := g24
      refine am_if_eq (tgt := 56) (am_dec tmX11_part 18 rfl) (by decide) (fun c13 => ?_) (fun c13 => ?_)
      · rw [if_pos c13] at hf
        refine am_iconst (v := (0 : Int32)) (am_dec tmX11_part 26 rfl) (by decide) ?_
        have hf := Option.some.inj hf
        subst hf
        exact am_pick [0, 1, 2, 3, 4] rfl key14
      · rw [if_neg c13] at hf
        refine am_iload (am_dec tmX11_part 19 rfl) rfl ?_
        refine am_iload_n (am_dec tmX11_part 20 rfl) rfl rfl ?_
        refine am_sipush (v := (1200 : Int32)) (am_dec tmX11_part 21 rfl) (by decide) ?_
        obtain ⟨x16, g15, hf⟩ := am_bd hf
        refine am_callS1 (As := [.int p4, .int p3, .int (1200 : Int32)]) (st := []) (am_dec tmX11_part 22 rfl) ok_X11_within rfl lm_X11_143 st_X11_within (c_X11_within hE g15) rfl (by decide) (Nat.le_of_ble_eq_true rfl) (Nat.zero_le _) (Nat.zero_le _) rfl ?_
        refine am_if_eq (tgt := 56) (am_dec tmX11_part 23 rfl) (by decide) (fun c17 => ?_) (fun c17 => ?_)
        · rw [if_pos c17] at hf
          refine am_iconst (v := (0 : Int32)) (am_dec tmX11_part 26 rfl) (by decide) ?_
          have hf := Option.some.inj hf
          subst hf
          exact am_pick [0, 1, 2, 3, 4] rfl key14
        · rw [if_neg c17] at hf
          refine am_iconst (v := (1 : Int32)) (am_dec tmX11_part 24 rfl) (by decide) ?_
          refine am_goto (tgt := 57) (am_dec tmX11_part 25 rfl) (by decide) ?_
          have hf := Option.some.inj hf
          subst hf
          exact am_pick [0, 1, 2, 3, 4] rfl key14
  replace hf := g25
  refine am_if_eq (tgt := 25) (am_dec tmX11_part 4 rfl) (by decide) (fun c3 => ?_) (fun c3 => ?_)
  · rw [if_pos c3] at hf
    refine am_iconst (v := (0 : Int32)) (am_dec tmX11_part 12 rfl) (by decide) ?_
    have hf := Option.some.inj hf
    subst hf
    exact am_pick [0, 1, 2, 3, 4] rfl key4
  · rw [if_neg c3] at hf
    refine am_iload_n (am_dec tmX11_part 5 rfl) rfl rfl ?_
    refine am_iconst (v := (0 : Int32)) (am_dec tmX11_part 6 rfl) (by decide) ?_
    refine am_bipush (v := (99 : Int32)) (am_dec tmX11_part 7 rfl) (by decide) ?_
    obtain ⟨x6, g5, hf⟩ := am_bd hf
    refine am_callS1 (As := [.int p2, .int (0 : Int32), .int (99 : Int32)]) (st := []) (am_dec tmX11_part 8 rfl) ok_X11_within rfl lm_X11_143 st_X11_within (c_X11_within hE g5) rfl (by decide) (Nat.le_of_ble_eq_true rfl) (Nat.zero_le _) (Nat.zero_le _) rfl ?_
    refine am_if_eq (tgt := 25) (am_dec tmX11_part 9 rfl) (by decide) (fun c7 => ?_) (fun c7 => ?_)
    · rw [if_pos c7] at hf
      refine am_iconst (v := (0 : Int32)) (am_dec tmX11_part 12 rfl) (by decide) ?_
      have hf := Option.some.inj hf
      subst hf
      exact am_pick [0, 1, 2, 3, 4] rfl key4
    · rw [if_neg c7] at hf
      refine am_iconst (v := (1 : Int32)) (am_dec tmX11_part 10 rfl) (by decide) ?_
      refine am_goto (tgt := 26) (am_dec tmX11_part 11 rfl) (by decide) ?_
      have hf := Option.some.inj hf
      subst hf
      exact am_pick [0, 1, 2, 3, 4] rfl key4
def f_X11_planned (p1 : Int32) (p2 : Int32) (D : am_D) : Option ((String × am_D) ⊕ (Int32 × am_D)) :=
    (f_X11_within p1 (0 : Int32) (12000 : Int32)).bind fun x2 =>
    am_btD (f_X11_need x2) D fun x4 =>
    (f_X11_within p2 (-1 : Int32) ((D.1 24 5) - (1 : Int32))).bind fun x6 =>
    if x6 = 0 then
    some (.inr ((-5000 : Int32), D))
    else
    (f_X6_reach p1 D).bind fun x9 =>
    if x9.1 = 0 then
    some (.inr ((-5000 : Int32), x9.2))
    else
    if p2 = (-1 : Int32) then
    (f_X6_weightTogether x9.2).bind fun x15 =>
    some (.inr (x15, x9.2))
    else
    (f_X6_lengthOf p2 x9.2).bind fun x13 =>
    some (.inr (x13, x9.2))
set_option maxRecDepth 100000 in
set_option maxHeartbeats 4000000 in
theorem c_X11_planned {E : am_E} (hE : am_EH E) {p1 : Int32} {p2 : Int32} {D : am_D} {r : (Int32 × am_D)}  (hf : f_X11_planned p1 p2 D = some (.inr r)) : am_C E mX11_planned 3 0 0 [.ref 16, .int p1, .int p2] am_G0 D (.inl (some (.int r.1))) am_G0 r.2 := by
  refine am_C_of (by decide +kernel) (Nat.le_of_ble_eq_true rfl) ?_
  change am_S E mX11_planned 3 0 0 (.inl (some (.int r.1))) am_G0 r.2 0 0 0 [(0, .ref 16), (1, .int p1), (2, .int p2)] [] am_G0 D
  unfold f_X11_planned at hf
  refine am_iload_n (am_dec tmX11_planned 0 rfl) rfl rfl ?_
  refine am_iconst (v := (0 : Int32)) (am_dec tmX11_planned 1 rfl) (by decide) ?_
  refine am_sipush (v := (12000 : Int32)) (am_dec tmX11_planned 2 rfl) (by decide) ?_
  obtain ⟨x2, g1, hf⟩ := am_bd hf
  refine am_callS1 (As := [.int p1, .int (0 : Int32), .int (12000 : Int32)]) (st := []) (am_dec tmX11_planned 3 rfl) ok_X11_within rfl lm_X11_143 st_X11_within (c_X11_within hE g1) rfl (by decide) (Nat.le_of_ble_eq_true rfl) (Nat.zero_le _) (Nat.zero_le _) rfl ?_
  obtain ⟨x4, g3, hf⟩ := am_btDR hf
  refine am_callS0 (As := [.int x2]) (st := []) (am_dec tmX11_planned 4 rfl) ok_X11_need rfl lm_X11_94 st_X11_need (c_X11_need hE g3) rfl (by decide) (Nat.le_of_ble_eq_true rfl) (Nat.zero_le _) (Nat.zero_le _) rfl ?_
  refine am_aload_n (am_dec tmX11_planned 5 rfl) rfl rfl ?_
  refine am_getR (j := 0) hE (am_dec tmX11_planned 6 rfl) sh_16 cf11 (by decide) rfl lf_X11_10 rf_16_0 ?_
  refine am_getR (j := 6) hE (am_dec tmX11_planned 7 rfl) sh_17 cf1 (by decide) rfl lf_X11_251 rf_17_6 ?_
  refine am_astore_n (lv' := [(0, .ref 16), (1, .int p1), (2, .int p2), (3, .ref 24)]) (am_dec tmX11_planned 8 rfl) rfl (by decide) rfl ?_
  refine am_iload_n (am_dec tmX11_planned 9 rfl) rfl rfl ?_
  refine am_iconst (v := (-1 : Int32)) (am_dec tmX11_planned 10 rfl) (by decide) ?_
  refine am_aload_n (am_dec tmX11_planned 11 rfl) rfl rfl ?_
  refine am_getI (j := 5) hE (am_dec tmX11_planned 12 rfl) sh_24 cf6 (by decide) rfl lf_X11_255 ?_
  refine am_iconst (v := (1 : Int32)) (am_dec tmX11_planned 13 rfl) (by decide) ?_
  refine am_isub (am_dec tmX11_planned 14 rfl) ?_
  obtain ⟨x6, g5, hf⟩ := am_bd hf
  refine am_callS1 (As := [.int p2, .int (-1 : Int32), .int ((D.1 24 5) - (1 : Int32))]) (st := []) (am_dec tmX11_planned 15 rfl) ok_X11_within rfl lm_X11_143 st_X11_within (c_X11_within hE g5) rfl (by decide) (Nat.le_of_ble_eq_true rfl) (Nat.zero_le _) (Nat.zero_le _) rfl ?_
  refine am_if_eq (tgt := 41) (am_dec tmX11_planned 16 rfl) (by decide) (fun c7 => ?_) (fun c7 => ?_)
  · rw [if_pos c7] at hf
    refine am_sipush (v := (-5000 : Int32)) (am_dec tmX11_planned 21 rfl) (by decide) ?_
    have hf := Sum.inr.inj (Option.some.inj hf)
    subst hf
    exact am_iret (am_dec tmX11_planned 22 rfl) rfl (Nat.zero_le _) (Nat.zero_le _)
  · rw [if_neg c7] at hf
    refine am_aload_n (am_dec tmX11_planned 17 rfl) rfl rfl ?_
    refine am_iload_n (am_dec tmX11_planned 18 rfl) rfl rfl ?_
    obtain ⟨x9, g8, hf⟩ := am_bd hf
    refine am_callV1 (As := [.int p1]) (st := []) hE (am_dec tmX11_planned 19 rfl) ok_X6_reach rfl lm_X11_260 in_X6_reach se_X6_reach sh_24 cf6 (c_X6_reach hE g8) rfl (by decide) (Nat.le_of_ble_eq_true rfl) (Nat.zero_le _) (Nat.zero_le _) rfl ?_
    refine am_if_ne (tgt := 45) (am_dec tmX11_planned 20 rfl) (by decide) (fun c10 => ?_) (fun c10 => ?_)
    · rw [if_neg c10] at hf
      refine am_iload_n (am_dec tmX11_planned 23 rfl) rfl rfl ?_
      refine am_iconst (v := (-1 : Int32)) (am_dec tmX11_planned 24 rfl) (by decide) ?_
      refine am_icmp_ne (tgt := 57) (am_dec tmX11_planned 25 rfl) (by decide) (fun c11 => ?_) (fun c11 => ?_)
      · rw [if_neg c11] at hf
        refine am_aload_n (am_dec tmX11_planned 29 rfl) rfl rfl ?_
        refine am_iload_n (am_dec tmX11_planned 30 rfl) rfl rfl ?_
        obtain ⟨x13, g12, hf⟩ := am_bd hf
        refine am_callV1 (As := [.int p2]) (st := []) hE (am_dec tmX11_planned 31 rfl) ok_X6_lengthOf rfl lm_X11_267 in_X6_lengthOf se_X6_lengthOf sh_24 cf6 (c_X6_lengthOf hE g12) rfl (by decide) (Nat.le_of_ble_eq_true rfl) (Nat.zero_le _) (Nat.zero_le _) rfl ?_
        have hf := Sum.inr.inj (Option.some.inj hf)
        subst hf
        exact am_iret (am_dec tmX11_planned 32 rfl) rfl (Nat.zero_le _) (Nat.zero_le _)
      · rw [if_pos c11] at hf
        refine am_aload_n (am_dec tmX11_planned 26 rfl) rfl rfl ?_
        obtain ⟨x15, g14, hf⟩ := am_bd hf
        refine am_callV1 (As := []) (st := []) hE (am_dec tmX11_planned 27 rfl) ok_X6_weightTogether rfl lm_X11_264 in_X6_weightTogether se_X6_weightTogether sh_24 cf6 (c_X6_weightTogether hE g14) rfl (by decide) (Nat.le_of_ble_eq_true rfl) (Nat.zero_le _) (Nat.zero_le _) rfl ?_
        refine am_goto (tgt := 62) (am_dec tmX11_planned 28 rfl) (by decide) ?_
        have hf := Sum.inr.inj (Option.some.inj hf)
        subst hf
        exact am_iret (am_dec tmX11_planned 32 rfl) rfl (Nat.zero_le _) (Nat.zero_le _)
    · rw [if_pos c10] at hf
      refine am_sipush (v := (-5000 : Int32)) (am_dec tmX11_planned 21 rfl) (by decide) ?_
      have hf := Sum.inr.inj (Option.some.inj hf)
      subst hf
      exact am_iret (am_dec tmX11_planned 22 rfl) rfl (Nat.zero_le _) (Nat.zero_le _)
set_option maxRecDepth 100000 in
set_option maxHeartbeats 4000000 in
theorem t_X11_planned {E : am_E} (hE : am_EH E) {p1 : Int32} {p2 : Int32} {D : am_D} {r : String × am_D}  (hf : f_X11_planned p1 p2 D = some (.inl r)) : am_C E mX11_planned 3 1 6 [.ref 16, .int p1, .int p2] am_G0 D (.inr r.1) am_G0 r.2 := by
  refine am_C_of (by decide +kernel) (Nat.le_of_ble_eq_true rfl) ?_
  change am_S E mX11_planned 3 1 6 (.inr r.1) am_G0 r.2 0 0 0 [(0, .ref 16), (1, .int p1), (2, .int p2)] [] am_G0 D
  unfold f_X11_planned at hf
  refine am_iload_n (am_dec tmX11_planned 0 rfl) rfl rfl ?_
  refine am_iconst (v := (0 : Int32)) (am_dec tmX11_planned 1 rfl) (by decide) ?_
  refine am_sipush (v := (12000 : Int32)) (am_dec tmX11_planned 2 rfl) (by decide) ?_
  obtain ⟨x2, g1, hf⟩ := am_bd hf
  refine am_callS1 (As := [.int p1, .int (0 : Int32), .int (12000 : Int32)]) (st := []) (am_dec tmX11_planned 3 rfl) ok_X11_within rfl lm_X11_143 st_X11_within (c_X11_within hE g1) rfl (by decide) (Nat.le_of_ble_eq_true rfl) (Nat.zero_le _) (Nat.zero_le _) rfl ?_
  rcases am_btDT hf with ⟨g3, eD⟩ | ⟨x4, g3, hf⟩
  · rw [eD]
    exact am_callS_out (As := [.int x2]) (st := []) (am_dec tmX11_planned 4 rfl) ok_X11_need rfl lm_X11_94 st_X11_need (t_X11_need hE g3) rfl (by decide) (Nat.le_of_ble_eq_true rfl) (Nat.le_refl _) (Nat.le_refl _) rfl rfl
  · refine am_callS0 (As := [.int x2]) (st := []) (am_dec tmX11_planned 4 rfl) ok_X11_need rfl lm_X11_94 st_X11_need (c_X11_need hE g3) rfl (by decide) (Nat.le_of_ble_eq_true rfl) (Nat.zero_le _) (Nat.zero_le _) rfl ?_
    refine am_aload_n (am_dec tmX11_planned 5 rfl) rfl rfl ?_
    refine am_getR (j := 0) hE (am_dec tmX11_planned 6 rfl) sh_16 cf11 (by decide) rfl lf_X11_10 rf_16_0 ?_
    refine am_getR (j := 6) hE (am_dec tmX11_planned 7 rfl) sh_17 cf1 (by decide) rfl lf_X11_251 rf_17_6 ?_
    refine am_astore_n (lv' := [(0, .ref 16), (1, .int p1), (2, .int p2), (3, .ref 24)]) (am_dec tmX11_planned 8 rfl) rfl (by decide) rfl ?_
    refine am_iload_n (am_dec tmX11_planned 9 rfl) rfl rfl ?_
    refine am_iconst (v := (-1 : Int32)) (am_dec tmX11_planned 10 rfl) (by decide) ?_
    refine am_aload_n (am_dec tmX11_planned 11 rfl) rfl rfl ?_
    refine am_getI (j := 5) hE (am_dec tmX11_planned 12 rfl) sh_24 cf6 (by decide) rfl lf_X11_255 ?_
    refine am_iconst (v := (1 : Int32)) (am_dec tmX11_planned 13 rfl) (by decide) ?_
    refine am_isub (am_dec tmX11_planned 14 rfl) ?_
    obtain ⟨x6, g5, hf⟩ := am_bd hf
    refine am_callS1 (As := [.int p2, .int (-1 : Int32), .int ((D.1 24 5) - (1 : Int32))]) (st := []) (am_dec tmX11_planned 15 rfl) ok_X11_within rfl lm_X11_143 st_X11_within (c_X11_within hE g5) rfl (by decide) (Nat.le_of_ble_eq_true rfl) (Nat.zero_le _) (Nat.zero_le _) rfl ?_
    refine am_if_eq (tgt := 41) (am_dec tmX11_planned 16 rfl) (by decide) (fun c7 => ?_) (fun c7 => ?_)
    · rw [if_pos c7] at hf
      refine am_sipush (v := (-5000 : Int32)) (am_dec tmX11_planned 21 rfl) (by decide) ?_
      cases hf
    · rw [if_neg c7] at hf
      refine am_aload_n (am_dec tmX11_planned 17 rfl) rfl rfl ?_
      refine am_iload_n (am_dec tmX11_planned 18 rfl) rfl rfl ?_
      obtain ⟨x9, g8, hf⟩ := am_bd hf
      refine am_callV1 (As := [.int p1]) (st := []) hE (am_dec tmX11_planned 19 rfl) ok_X6_reach rfl lm_X11_260 in_X6_reach se_X6_reach sh_24 cf6 (c_X6_reach hE g8) rfl (by decide) (Nat.le_of_ble_eq_true rfl) (Nat.zero_le _) (Nat.zero_le _) rfl ?_
      refine am_if_ne (tgt := 45) (am_dec tmX11_planned 20 rfl) (by decide) (fun c10 => ?_) (fun c10 => ?_)
      · rw [if_neg c10] at hf
        refine am_iload_n (am_dec tmX11_planned 23 rfl) rfl rfl ?_
        refine am_iconst (v := (-1 : Int32)) (am_dec tmX11_planned 24 rfl) (by decide) ?_
        refine am_icmp_ne (tgt := 57) (am_dec tmX11_planned 25 rfl) (by decide) (fun c11 => ?_) (fun c11 => ?_)
        · rw [if_neg c11] at hf
          refine am_aload_n (am_dec tmX11_planned 29 rfl) rfl rfl ?_
          refine am_iload_n (am_dec tmX11_planned 30 rfl) rfl rfl ?_
          obtain ⟨x13, g12, hf⟩ := am_bd hf
          refine am_callV1 (As := [.int p2]) (st := []) hE (am_dec tmX11_planned 31 rfl) ok_X6_lengthOf rfl lm_X11_267 in_X6_lengthOf se_X6_lengthOf sh_24 cf6 (c_X6_lengthOf hE g12) rfl (by decide) (Nat.le_of_ble_eq_true rfl) (Nat.zero_le _) (Nat.zero_le _) rfl ?_
          cases hf
        · rw [if_pos c11] at hf
          refine am_aload_n (am_dec tmX11_planned 26 rfl) rfl rfl ?_
          obtain ⟨x15, g14, hf⟩ := am_bd hf
          refine am_callV1 (As := []) (st := []) hE (am_dec tmX11_planned 27 rfl) ok_X6_weightTogether rfl lm_X11_264 in_X6_weightTogether se_X6_weightTogether sh_24 cf6 (c_X6_weightTogether hE g14) rfl (by decide) (Nat.le_of_ble_eq_true rfl) (Nat.zero_le _) (Nat.zero_le _) rfl ?_
          refine am_goto (tgt := 62) (am_dec tmX11_planned 28 rfl) (by decide) ?_
          cases hf
      · rw [if_pos c10] at hf
        refine am_sipush (v := (-5000 : Int32)) (am_dec tmX11_planned 21 rfl) (by decide) ?_
        cases hf
def f_X11_planMap (p1 : Int32) (D : am_D) : Option ((String × am_D) ⊕ (Int32 × am_D)) :=
    (f_X11_within p1 (0 : Int32) (12000 : Int32)).bind fun x2 =>
    am_btD (f_X11_need x2) D fun x4 =>
    am_bn (f_X1_freeMap D)
    (fun x6 =>
    (f_X6_reach p1 D).bind fun x8 =>
    if x8.1 = 0 then
    some (.inr ((-2 : Int32), x8.2))
    else
    (f_X6_intoMap x6 x8.2).bind fun x11 =>
    if x11.1 = 0 then
    some (.inr ((-2 : Int32), x11.2))
    else
    (f_X1_takeMap x11.2).bind fun x14 =>
    some (.inr (x14.1, x14.2)))
    (some (.inr ((-1 : Int32), D)))
set_option maxRecDepth 100000 in
set_option maxHeartbeats 4000000 in
theorem c_X11_planMap {E : am_E} (hE : am_EH E) {p1 : Int32} {D : am_D} {r : (Int32 × am_D)}  (hf : f_X11_planMap p1 D = some (.inr r)) : am_C E mX11_planMap 3 0 0 [.ref 16, .int p1] am_G0 D (.inl (some (.int r.1))) am_G0 r.2 := by
  refine am_C_of (by decide +kernel) (Nat.le_of_ble_eq_true rfl) ?_
  change am_S E mX11_planMap 3 0 0 (.inl (some (.int r.1))) am_G0 r.2 0 0 0 [(0, .ref 16), (1, .int p1)] [] am_G0 D
  unfold f_X11_planMap at hf
  refine am_iload_n (am_dec tmX11_planMap 0 rfl) rfl rfl ?_
  refine am_iconst (v := (0 : Int32)) (am_dec tmX11_planMap 1 rfl) (by decide) ?_
  refine am_sipush (v := (12000 : Int32)) (am_dec tmX11_planMap 2 rfl) (by decide) ?_
  obtain ⟨x2, g1, hf⟩ := am_bd hf
  refine am_callS1 (As := [.int p1, .int (0 : Int32), .int (12000 : Int32)]) (st := []) (am_dec tmX11_planMap 3 rfl) ok_X11_within rfl lm_X11_143 st_X11_within (c_X11_within hE g1) rfl (by decide) (Nat.le_of_ble_eq_true rfl) (Nat.zero_le _) (Nat.zero_le _) rfl ?_
  obtain ⟨x4, g3, hf⟩ := am_btDR hf
  refine am_callS0 (As := [.int x2]) (st := []) (am_dec tmX11_planMap 4 rfl) ok_X11_need rfl lm_X11_94 st_X11_need (c_X11_need hE g3) rfl (by decide) (Nat.le_of_ble_eq_true rfl) (Nat.zero_le _) (Nat.zero_le _) rfl ?_
  refine am_aload_n (am_dec tmX11_planMap 5 rfl) rfl rfl ?_
  refine am_getR (j := 0) hE (am_dec tmX11_planMap 6 rfl) sh_16 cf11 (by decide) rfl lf_X11_10 rf_16_0 ?_
  rcases am_bnd hf with ⟨x6, g5, hf⟩ | ⟨g5, hf⟩
  · have h_x6 := k_X1_freeMap g5
    refine am_callV1 (w := .ref x6) (As := []) (st := []) hE (am_dec tmX11_planMap 7 rfl) ok_X1_freeMap rfl lm_X11_116 in_X1_freeMap se_X1_freeMap sh_17 cf1 (c_X1_freeMap hE  g5) rfl (by decide) (Nat.le_of_ble_eq_true rfl) (Nat.zero_le _) (Nat.zero_le _) rfl ?_
    refine am_astore_n (lv' := [(0, .ref 16), (1, .int p1), (2, .ref x6)]) (am_dec tmX11_planMap 8 rfl) rfl (by decide) rfl ?_
    refine am_aload_n (am_dec tmX11_planMap 9 rfl) rfl rfl ?_
    refine am_ifnonnull (tgt := 25) (am_dec tmX11_planMap 10 rfl) (by decide) ?_
    refine am_aload_n (am_dec tmX11_planMap 13 rfl) rfl rfl ?_
    refine am_getR (j := 0) hE (am_dec tmX11_planMap 14 rfl) sh_16 cf11 (by decide) rfl lf_X11_10 rf_16_0 ?_
    refine am_getR (j := 6) hE (am_dec tmX11_planMap 15 rfl) sh_17 cf1 (by decide) rfl lf_X11_251 rf_17_6 ?_
    refine am_iload_n (am_dec tmX11_planMap 16 rfl) rfl rfl ?_
    obtain ⟨x8, g7, hf⟩ := am_bd hf
    refine am_callV1 (As := [.int p1]) (st := []) hE (am_dec tmX11_planMap 17 rfl) ok_X6_reach rfl lm_X11_260 in_X6_reach se_X6_reach sh_24 cf6 (c_X6_reach hE g7) rfl (by decide) (Nat.le_of_ble_eq_true rfl) (Nat.zero_le _) (Nat.zero_le _) rfl ?_
    refine am_if_eq (tgt := 53) (am_dec tmX11_planMap 18 rfl) (by decide) (fun c9 => ?_) (fun c9 => ?_)
    · rw [if_pos c9] at hf
      refine am_bipush (v := (-2 : Int32)) (am_dec tmX11_planMap 25 rfl) (by decide) ?_
      have hf := Sum.inr.inj (Option.some.inj hf)
      subst hf
      exact am_iret (am_dec tmX11_planMap 26 rfl) rfl (Nat.zero_le _) (Nat.zero_le _)
    · rw [if_neg c9] at hf
      refine am_aload_n (am_dec tmX11_planMap 19 rfl) rfl rfl ?_
      refine am_getR (j := 0) hE (am_dec tmX11_planMap 20 rfl) sh_16 cf11 (by decide) rfl lf_X11_10 rf_16_0 ?_
      refine am_getR (j := 6) hE (am_dec tmX11_planMap 21 rfl) sh_17 cf1 (by decide) rfl lf_X11_251 rf_17_6 ?_
      refine am_aload_n (am_dec tmX11_planMap 22 rfl) rfl rfl ?_
      obtain ⟨x11, g10, hf⟩ := am_bd hf
      refine am_callV1 (As := [.ref x6]) (st := []) hE (am_dec tmX11_planMap 23 rfl) ok_X6_intoMap rfl lm_X11_270 in_X6_intoMap se_X6_intoMap sh_24 cf6 (c_X6_intoMap hE h_x6 g10) rfl (by decide) (Nat.le_of_ble_eq_true rfl) (Nat.zero_le _) (Nat.zero_le _) rfl ?_
      refine am_if_ne (tgt := 56) (am_dec tmX11_planMap 24 rfl) (by decide) (fun c12 => ?_) (fun c12 => ?_)
      · rw [if_neg c12] at hf
        refine am_aload_n (am_dec tmX11_planMap 27 rfl) rfl rfl ?_
        refine am_getR (j := 0) hE (am_dec tmX11_planMap 28 rfl) sh_16 cf11 (by decide) rfl lf_X11_10 rf_16_0 ?_
        obtain ⟨x14, g13, hf⟩ := am_bd hf
        refine am_callV1 (As := []) (st := []) hE (am_dec tmX11_planMap 29 rfl) ok_X1_takeMap rfl lm_X11_124 in_X1_takeMap se_X1_takeMap sh_17 cf1 (c_X1_takeMap hE g13) rfl (by decide) (Nat.le_of_ble_eq_true rfl) (Nat.zero_le _) (Nat.zero_le _) rfl ?_
        have hf := Sum.inr.inj (Option.some.inj hf)
        subst hf
        exact am_iret (am_dec tmX11_planMap 30 rfl) rfl (Nat.zero_le _) (Nat.zero_le _)
      · rw [if_pos c12] at hf
        refine am_bipush (v := (-2 : Int32)) (am_dec tmX11_planMap 25 rfl) (by decide) ?_
        have hf := Sum.inr.inj (Option.some.inj hf)
        subst hf
        exact am_iret (am_dec tmX11_planMap 26 rfl) rfl (Nat.zero_le _) (Nat.zero_le _)
  · refine am_callV1 (w := .null) (As := []) (st := []) hE (am_dec tmX11_planMap 7 rfl) ok_X1_freeMap rfl lm_X11_116 in_X1_freeMap se_X1_freeMap sh_17 cf1 (c_X1_freeMap hE  g5) rfl (by decide) (Nat.le_of_ble_eq_true rfl) (Nat.zero_le _) (Nat.zero_le _) rfl ?_
    refine am_astore_nN (lv' := [(0, .ref 16), (1, .int p1), (2, .null)]) (am_dec tmX11_planMap 8 rfl) rfl (by decide) rfl ?_
    refine am_aload_nN (am_dec tmX11_planMap 9 rfl) rfl rfl ?_
    refine am_ifnonnullN (am_dec tmX11_planMap 10 rfl) ?_
    refine am_iconst (v := (-1 : Int32)) (am_dec tmX11_planMap 11 rfl) (by decide) ?_
    have hf := Sum.inr.inj (Option.some.inj hf)
    subst hf
    exact am_iret (am_dec tmX11_planMap 12 rfl) rfl (Nat.zero_le _) (Nat.zero_le _)
set_option maxRecDepth 100000 in
set_option maxHeartbeats 4000000 in
theorem t_X11_planMap {E : am_E} (hE : am_EH E) {p1 : Int32} {D : am_D} {r : String × am_D}  (hf : f_X11_planMap p1 D = some (.inl r)) : am_C E mX11_planMap 3 1 6 [.ref 16, .int p1] am_G0 D (.inr r.1) am_G0 r.2 := by
  refine am_C_of (by decide +kernel) (Nat.le_of_ble_eq_true rfl) ?_
  change am_S E mX11_planMap 3 1 6 (.inr r.1) am_G0 r.2 0 0 0 [(0, .ref 16), (1, .int p1)] [] am_G0 D
  unfold f_X11_planMap at hf
  refine am_iload_n (am_dec tmX11_planMap 0 rfl) rfl rfl ?_
  refine am_iconst (v := (0 : Int32)) (am_dec tmX11_planMap 1 rfl) (by decide) ?_
  refine am_sipush (v := (12000 : Int32)) (am_dec tmX11_planMap 2 rfl) (by decide) ?_
  obtain ⟨x2, g1, hf⟩ := am_bd hf
  refine am_callS1 (As := [.int p1, .int (0 : Int32), .int (12000 : Int32)]) (st := []) (am_dec tmX11_planMap 3 rfl) ok_X11_within rfl lm_X11_143 st_X11_within (c_X11_within hE g1) rfl (by decide) (Nat.le_of_ble_eq_true rfl) (Nat.zero_le _) (Nat.zero_le _) rfl ?_
  rcases am_btDT hf with ⟨g3, eD⟩ | ⟨x4, g3, hf⟩
  · rw [eD]
    exact am_callS_out (As := [.int x2]) (st := []) (am_dec tmX11_planMap 4 rfl) ok_X11_need rfl lm_X11_94 st_X11_need (t_X11_need hE g3) rfl (by decide) (Nat.le_of_ble_eq_true rfl) (Nat.le_refl _) (Nat.le_refl _) rfl rfl
  · refine am_callS0 (As := [.int x2]) (st := []) (am_dec tmX11_planMap 4 rfl) ok_X11_need rfl lm_X11_94 st_X11_need (c_X11_need hE g3) rfl (by decide) (Nat.le_of_ble_eq_true rfl) (Nat.zero_le _) (Nat.zero_le _) rfl ?_
    refine am_aload_n (am_dec tmX11_planMap 5 rfl) rfl rfl ?_
    refine am_getR (j := 0) hE (am_dec tmX11_planMap 6 rfl) sh_16 cf11 (by decide) rfl lf_X11_10 rf_16_0 ?_
    rcases am_bnd hf with ⟨x6, g5, hf⟩ | ⟨g5, hf⟩
    · have h_x6 := k_X1_freeMap g5
      refine am_callV1 (w := .ref x6) (As := []) (st := []) hE (am_dec tmX11_planMap 7 rfl) ok_X1_freeMap rfl lm_X11_116 in_X1_freeMap se_X1_freeMap sh_17 cf1 (c_X1_freeMap hE  g5) rfl (by decide) (Nat.le_of_ble_eq_true rfl) (Nat.zero_le _) (Nat.zero_le _) rfl ?_
      refine am_astore_n (lv' := [(0, .ref 16), (1, .int p1), (2, .ref x6)]) (am_dec tmX11_planMap 8 rfl) rfl (by decide) rfl ?_
      refine am_aload_n (am_dec tmX11_planMap 9 rfl) rfl rfl ?_
      refine am_ifnonnull (tgt := 25) (am_dec tmX11_planMap 10 rfl) (by decide) ?_
      refine am_aload_n (am_dec tmX11_planMap 13 rfl) rfl rfl ?_
      refine am_getR (j := 0) hE (am_dec tmX11_planMap 14 rfl) sh_16 cf11 (by decide) rfl lf_X11_10 rf_16_0 ?_
      refine am_getR (j := 6) hE (am_dec tmX11_planMap 15 rfl) sh_17 cf1 (by decide) rfl lf_X11_251 rf_17_6 ?_
      refine am_iload_n (am_dec tmX11_planMap 16 rfl) rfl rfl ?_
      obtain ⟨x8, g7, hf⟩ := am_bd hf
      refine am_callV1 (As := [.int p1]) (st := []) hE (am_dec tmX11_planMap 17 rfl) ok_X6_reach rfl lm_X11_260 in_X6_reach se_X6_reach sh_24 cf6 (c_X6_reach hE g7) rfl (by decide) (Nat.le_of_ble_eq_true rfl) (Nat.zero_le _) (Nat.zero_le _) rfl ?_
      refine am_if_eq (tgt := 53) (am_dec tmX11_planMap 18 rfl) (by decide) (fun c9 => ?_) (fun c9 => ?_)
      · rw [if_pos c9] at hf
        refine am_bipush (v := (-2 : Int32)) (am_dec tmX11_planMap 25 rfl) (by decide) ?_
        cases hf
      · rw [if_neg c9] at hf
        refine am_aload_n (am_dec tmX11_planMap 19 rfl) rfl rfl ?_
        refine am_getR (j := 0) hE (am_dec tmX11_planMap 20 rfl) sh_16 cf11 (by decide) rfl lf_X11_10 rf_16_0 ?_
        refine am_getR (j := 6) hE (am_dec tmX11_planMap 21 rfl) sh_17 cf1 (by decide) rfl lf_X11_251 rf_17_6 ?_
        refine am_aload_n (am_dec tmX11_planMap 22 rfl) rfl rfl ?_
        obtain ⟨x11, g10, hf⟩ := am_bd hf
        refine am_callV1 (As := [.ref x6]) (st := []) hE (am_dec tmX11_planMap 23 rfl) ok_X6_intoMap rfl lm_X11_270 in_X6_intoMap se_X6_intoMap sh_24 cf6 (c_X6_intoMap hE h_x6 g10) rfl (by decide) (Nat.le_of_ble_eq_true rfl) (Nat.zero_le _) (Nat.zero_le _) rfl ?_
        refine am_if_ne (tgt := 56) (am_dec tmX11_planMap 24 rfl) (by decide) (fun c12 => ?_) (fun c12 => ?_)
        · rw [if_neg c12] at hf
          refine am_aload_n (am_dec tmX11_planMap 27 rfl) rfl rfl ?_
          refine am_getR (j := 0) hE (am_dec tmX11_planMap 28 rfl) sh_16 cf11 (by decide) rfl lf_X11_10 rf_16_0 ?_
          obtain ⟨x14, g13, hf⟩ := am_bd hf
          refine am_callV1 (As := []) (st := []) hE (am_dec tmX11_planMap 29 rfl) ok_X1_takeMap rfl lm_X11_124 in_X1_takeMap se_X1_takeMap sh_17 cf1 (c_X1_takeMap hE g13) rfl (by decide) (Nat.le_of_ble_eq_true rfl) (Nat.zero_le _) (Nat.zero_le _) rfl ?_
          cases hf
        · rw [if_pos c12] at hf
          refine am_bipush (v := (-2 : Int32)) (am_dec tmX11_planMap 25 rfl) (by decide) ?_
          cases hf
    · refine am_callV1 (w := .null) (As := []) (st := []) hE (am_dec tmX11_planMap 7 rfl) ok_X1_freeMap rfl lm_X11_116 in_X1_freeMap se_X1_freeMap sh_17 cf1 (c_X1_freeMap hE  g5) rfl (by decide) (Nat.le_of_ble_eq_true rfl) (Nat.zero_le _) (Nat.zero_le _) rfl ?_
      refine am_astore_nN (lv' := [(0, .ref 16), (1, .int p1), (2, .null)]) (am_dec tmX11_planMap 8 rfl) rfl (by decide) rfl ?_
      refine am_aload_nN (am_dec tmX11_planMap 9 rfl) rfl rfl ?_
      refine am_ifnonnullN (am_dec tmX11_planMap 10 rfl) ?_
      refine am_iconst (v := (-1 : Int32)) (am_dec tmX11_planMap 11 rfl) (by decide) ?_
      cases hf
def f_X11_pitch (p1 : Int32) (p2 : Int32) (p3 : Int32) (D : am_D) : Option (String ⊕ Int32) :=
    am_bt (f_X11_soundOf p1 D) fun x2 =>
    (f_X7_holds x2 p2 p3 D).bind fun x4 =>
    am_bt (f_X11_need x4) fun x6 =>
    (f_X10_pitchOf x2 p2 p3 D).bind fun x8 =>
    some (.inr x8)
set_option maxRecDepth 100000 in
set_option maxHeartbeats 4000000 in
theorem c_X11_pitch {E : am_E} (hE : am_EH E) {p1 : Int32} {p2 : Int32} {p3 : Int32} {D : am_D} {r : Int32}  (hf : f_X11_pitch p1 p2 p3 D = some (.inr r)) : am_C E mX11_pitch 4 0 0 [.ref 16, .int p1, .int p2, .int p3] am_G0 D (.inl (some (.int r))) am_G0 D := by
  refine am_C_of (by decide +kernel) (Nat.le_of_ble_eq_true rfl) ?_
  change am_S E mX11_pitch 4 0 0 (.inl (some (.int r))) am_G0 D 0 0 0 [(0, .ref 16), (1, .int p1), (2, .int p2), (3, .int p3)] [] am_G0 D
  unfold f_X11_pitch at hf
  refine am_aload_n (am_dec tmX11_pitch 0 rfl) rfl rfl ?_
  refine am_iload_n (am_dec tmX11_pitch 1 rfl) rfl rfl ?_
  obtain ⟨x2, g1, hf⟩ := am_btR hf
  have h_x2 := k_X11_soundOf g1
  refine am_callV1 (As := [.int p1]) (st := []) hE (am_dec tmX11_pitch 2 rfl) ok_X11_soundOf rfl lm_X11_130 in_X11_soundOf se_X11_soundOf sh_16 cf11 (c_X11_soundOf hE g1) rfl (by decide) (Nat.le_of_ble_eq_true rfl) (Nat.zero_le _) (Nat.zero_le _) rfl ?_
  refine am_astore (lv' := [(0, .ref 16), (1, .int p1), (2, .int p2), (3, .int p3), (4, .ref x2)]) (am_dec tmX11_pitch 3 rfl) (by decide) rfl ?_
  refine am_aload (am_dec tmX11_pitch 4 rfl) rfl ?_
  refine am_iload_n (am_dec tmX11_pitch 5 rfl) rfl rfl ?_
  refine am_iload_n (am_dec tmX11_pitch 6 rfl) rfl rfl ?_
  obtain ⟨x4, g3, hf⟩ := am_bd hf
  refine am_callV1 (As := [.int p2, .int p3]) (st := []) hE (am_dec tmX11_pitch 7 rfl) ok_X7_holds rfl lm_X11_274 in_X7_holds se_X7_holds h_x2 cf7 (c_X7_holds hE h_x2 g3) rfl (by decide) (Nat.le_of_ble_eq_true rfl) (Nat.zero_le _) (Nat.zero_le _) rfl ?_
  obtain ⟨x6, g5, hf⟩ := am_btR hf
  refine am_callS0 (As := [.int x4]) (st := []) (am_dec tmX11_pitch 8 rfl) ok_X11_need rfl lm_X11_94 st_X11_need (c_X11_need hE g5) rfl (by decide) (Nat.le_of_ble_eq_true rfl) (Nat.zero_le _) (Nat.zero_le _) rfl ?_
  refine am_aload_n (am_dec tmX11_pitch 9 rfl) rfl rfl ?_
  refine am_getR (j := 12) hE (am_dec tmX11_pitch 10 rfl) sh_16 cf11 (by decide) rfl lf_X11_79 rf_16_12 ?_
  refine am_aload (am_dec tmX11_pitch 11 rfl) rfl ?_
  refine am_iload_n (am_dec tmX11_pitch 12 rfl) rfl rfl ?_
  refine am_iload_n (am_dec tmX11_pitch 13 rfl) rfl rfl ?_
  obtain ⟨x8, g7, hf⟩ := am_bd hf
  refine am_callV1 (As := [.ref x2, .int p2, .int p3]) (st := []) hE (am_dec tmX11_pitch 14 rfl) ok_X10_pitchOf rfl lm_X11_278 in_X10_pitchOf se_X10_pitchOf sh_114 cf10 (c_X10_pitchOf hE h_x2 g7) rfl (by decide) (Nat.le_of_ble_eq_true rfl) (Nat.zero_le _) (Nat.zero_le _) rfl ?_
  have hf := Sum.inr.inj (Option.some.inj hf)
  subst hf
  exact am_iret (am_dec tmX11_pitch 15 rfl) rfl (Nat.zero_le _) (Nat.zero_le _)
set_option maxRecDepth 100000 in
set_option maxHeartbeats 4000000 in
theorem t_X11_pitch {E : am_E} (hE : am_EH E) {p1 : Int32} {p2 : Int32} {p3 : Int32} {D : am_D} {r : String}  (hf : f_X11_pitch p1 p2 p3 D = some (.inl r)) : am_C E mX11_pitch 4 1 6 [.ref 16, .int p1, .int p2, .int p3] am_G0 D (.inr r) am_G0 D := by
  refine am_C_of (by decide +kernel) (Nat.le_of_ble_eq_true rfl) ?_
  change am_S E mX11_pitch 4 1 6 (.inr r) am_G0 D 0 0 0 [(0, .ref 16), (1, .int p1), (2, .int p2), (3, .int p3)] [] am_G0 D
  unfold f_X11_pitch at hf
  refine am_aload_n (am_dec tmX11_pitch 0 rfl) rfl rfl ?_
  refine am_iload_n (am_dec tmX11_pitch 1 rfl) rfl rfl ?_
  rcases am_btT hf with g1 | ⟨x2, g1, hf⟩
  · exact am_callV_out (As := [.int p1]) (st := []) hE (am_dec tmX11_pitch 2 rfl) ok_X11_soundOf rfl lm_X11_130 in_X11_soundOf se_X11_soundOf sh_16 cf11 (t_X11_soundOf hE g1) rfl (by decide) (Nat.le_of_ble_eq_true rfl) (Nat.le_refl _) (Nat.le_refl _) rfl rfl
  · have h_x2 := k_X11_soundOf g1
    refine am_callV1 (As := [.int p1]) (st := []) hE (am_dec tmX11_pitch 2 rfl) ok_X11_soundOf rfl lm_X11_130 in_X11_soundOf se_X11_soundOf sh_16 cf11 (c_X11_soundOf hE g1) rfl (by decide) (Nat.le_of_ble_eq_true rfl) (Nat.zero_le _) (Nat.zero_le _) rfl ?_
    refine am_astore (lv' := [(0, .ref 16), (1, .int p1), (2, .int p2), (3, .int p3), (4, .ref x2)]) (am_dec tmX11_pitch 3 rfl) (by decide) rfl ?_
    refine am_aload (am_dec tmX11_pitch 4 rfl) rfl ?_
    refine am_iload_n (am_dec tmX11_pitch 5 rfl) rfl rfl ?_
    refine am_iload_n (am_dec tmX11_pitch 6 rfl) rfl rfl ?_
    obtain ⟨x4, g3, hf⟩ := am_bd hf
    refine am_callV1 (As := [.int p2, .int p3]) (st := []) hE (am_dec tmX11_pitch 7 rfl) ok_X7_holds rfl lm_X11_274 in_X7_holds se_X7_holds h_x2 cf7 (c_X7_holds hE h_x2 g3) rfl (by decide) (Nat.le_of_ble_eq_true rfl) (Nat.zero_le _) (Nat.zero_le _) rfl ?_
    rcases am_btT hf with g5 | ⟨x6, g5, hf⟩
    · exact am_callS_out (As := [.int x4]) (st := []) (am_dec tmX11_pitch 8 rfl) ok_X11_need rfl lm_X11_94 st_X11_need (t_X11_need hE g5) rfl (by decide) (Nat.le_of_ble_eq_true rfl) (Nat.le_refl _) (Nat.le_refl _) rfl rfl
    · refine am_callS0 (As := [.int x4]) (st := []) (am_dec tmX11_pitch 8 rfl) ok_X11_need rfl lm_X11_94 st_X11_need (c_X11_need hE g5) rfl (by decide) (Nat.le_of_ble_eq_true rfl) (Nat.zero_le _) (Nat.zero_le _) rfl ?_
      refine am_aload_n (am_dec tmX11_pitch 9 rfl) rfl rfl ?_
      refine am_getR (j := 12) hE (am_dec tmX11_pitch 10 rfl) sh_16 cf11 (by decide) rfl lf_X11_79 rf_16_12 ?_
      refine am_aload (am_dec tmX11_pitch 11 rfl) rfl ?_
      refine am_iload_n (am_dec tmX11_pitch 12 rfl) rfl rfl ?_
      refine am_iload_n (am_dec tmX11_pitch 13 rfl) rfl rfl ?_
      obtain ⟨x8, g7, hf⟩ := am_bd hf
      refine am_callV1 (As := [.ref x2, .int p2, .int p3]) (st := []) hE (am_dec tmX11_pitch 14 rfl) ok_X10_pitchOf rfl lm_X11_278 in_X10_pitchOf se_X10_pitchOf sh_114 cf10 (c_X10_pitchOf hE h_x2 g7) rfl (by decide) (Nat.le_of_ble_eq_true rfl) (Nat.zero_le _) (Nat.zero_le _) rfl ?_
      cases hf
def f_X11_isPitch (p0 : Int32) : Option (Int32) :=
    (f_X11_within p0 (4 : Int32) (60 : Int32)).bind fun x2 =>
    some x2
set_option maxRecDepth 100000 in
set_option maxHeartbeats 4000000 in
theorem c_X11_isPitch {E : am_E} (hE : am_EH E) {p0 : Int32} {D : am_D} {r : Int32}  (hf : f_X11_isPitch p0 = some r) : am_C E mX11_isPitch 2 0 0 [.int p0] am_G0 D (.inl (some (.int r))) am_G0 D := by
  refine am_C_of (by decide +kernel) (Nat.le_of_ble_eq_true rfl) ?_
  change am_S E mX11_isPitch 2 0 0 (.inl (some (.int r))) am_G0 D 0 0 0 [(0, .int p0)] [] am_G0 D
  unfold f_X11_isPitch at hf
  refine am_iload_n (am_dec tmX11_isPitch 0 rfl) rfl rfl ?_
  refine am_iconst (v := (4 : Int32)) (am_dec tmX11_isPitch 1 rfl) (by decide) ?_
  refine am_bipush (v := (60 : Int32)) (am_dec tmX11_isPitch 2 rfl) (by decide) ?_
  obtain ⟨x2, g1, hf⟩ := am_bd hf
  refine am_callS1 (As := [.int p0, .int (4 : Int32), .int (60 : Int32)]) (st := []) (am_dec tmX11_isPitch 3 rfl) ok_X11_within rfl lm_X11_143 st_X11_within (c_X11_within hE g1) rfl (by decide) (Nat.le_of_ble_eq_true rfl) (Nat.zero_le _) (Nat.zero_le _) rfl ?_
  have hf := Option.some.inj hf
  subst hf
  exact am_zret (am_dec tmX11_isPitch 4 rfl) rfl (z_X11_within g1) (Nat.zero_le _) (Nat.zero_le _)
theorem z_X11_isPitch {p0 : Int32} {r : Int32} (hf : f_X11_isPitch p0 = some r) : narrow .boolean (.int r) = .int r := by
  unfold f_X11_isPitch at hf
  obtain ⟨x2, g1, hf⟩ := am_bd hf
  have hf := Option.some.inj hf
  subst hf
  exact z_X11_within g1
def f_X11_turned (p1 : Int32) (p2 : Int32) (p3 : Int32) (p4 : Int32) (p5 : Int32) (D : am_D) : Option ((String × am_D) ⊕ (Int64 × am_D)) :=
    am_btD (f_X11_soundOf p1 D) D fun x2 =>
    (f_X7_holds x2 p3 p4 D).bind fun x4 =>
    (if x4 = 0 then
    some ((0 : Int32))
    else
    (f_X11_isPitch p2).bind fun x8 =>
    if x8 = 0 then
    some ((0 : Int32))
    else
    (f_X11_within p5 (0 : Int32) (3 : Int32)).bind fun x11 =>
    if x11 = 0 then
    some ((0 : Int32))
    else
    some ((1 : Int32))).bind fun w13 =>
    am_btD (f_X11_need w13) D fun x15 =>
    (f_X10_turn x2 p2 p3 p4 D).bind fun x17 =>
    if p5.toInt < 0 ∨ 2 < p5.toInt then
    (f_X10_eighth x17).bind fun x19 =>
    some (.inr ((Int32.toInt64 x19), x17))
    else if p5 = (0 : Int32) then
    some (.inr ((Int32.toInt64 (x17.1 114 1)), x17))
    else if p5 = (1 : Int32) then
    some (.inr ((Int32.toInt64 (x17.1 114 2)), x17))
    else if p5 = (2 : Int32) then
    (f_X10_strength x17).bind fun x21 =>
    some (.inr (x21, x17))
    else none
set_option maxRecDepth 100000 in
set_option maxHeartbeats 4000000 in
theorem c_X11_turned {E : am_E} (hE : am_EH E) {p1 : Int32} {p2 : Int32} {p3 : Int32} {p4 : Int32} {p5 : Int32} {D : am_D} {r : (Int64 × am_D)}  (hf : f_X11_turned p1 p2 p3 p4 p5 D = some (.inr r)) : am_C E mX11_turned 3 0 0 [.ref 16, .int p1, .int p2, .int p3, .int p4, .int p5] am_G0 D (.inl (some (.long r.1))) am_G0 r.2 := by
  refine am_C_of (by decide +kernel) (Nat.le_of_ble_eq_true rfl) ?_
  change am_S E mX11_turned 3 0 0 (.inl (some (.long r.1))) am_G0 r.2 0 0 0 [(0, .ref 16), (1, .int p1), (2, .int p2), (3, .int p3), (4, .int p4), (5, .int p5)] [] am_G0 D
  unfold f_X11_turned at hf
  refine am_aload_n (am_dec tmX11_turned 0 rfl) rfl rfl ?_
  refine am_iload_n (am_dec tmX11_turned 1 rfl) rfl rfl ?_
  obtain ⟨x2, g1, hf⟩ := am_btDR hf
  have h_x2 := k_X11_soundOf g1
  refine am_callV1 (As := [.int p1]) (st := []) hE (am_dec tmX11_turned 2 rfl) ok_X11_soundOf rfl lm_X11_130 in_X11_soundOf se_X11_soundOf sh_16 cf11 (c_X11_soundOf hE g1) rfl (by decide) (Nat.le_of_ble_eq_true rfl) (Nat.zero_le _) (Nat.zero_le _) rfl ?_
  refine am_astore (lv' := [(0, .ref 16), (1, .int p1), (2, .int p2), (3, .int p3), (4, .int p4), (5, .int p5), (6, .ref x2)]) (am_dec tmX11_turned 3 rfl) (by decide) rfl ?_
  refine am_aload (am_dec tmX11_turned 4 rfl) rfl ?_
  refine am_iload_n (am_dec tmX11_turned 5 rfl) rfl rfl ?_
  refine am_iload (am_dec tmX11_turned 6 rfl) rfl ?_
  obtain ⟨x4, g3, hf⟩ := am_bd hf
  refine am_callV1 (As := [.int p3, .int p4]) (st := []) hE (am_dec tmX11_turned 7 rfl) ok_X7_holds rfl lm_X11_274 in_X7_holds se_X7_holds h_x2 cf7 (c_X7_holds hE h_x2 g3) rfl (by decide) (Nat.le_of_ble_eq_true rfl) (Nat.zero_le _) (Nat.zero_le _) rfl ?_
  obtain ⟨w13, g22, hf⟩ := am_bd hf
  have key6 : am_S E mX11_turned 3 0 0 (.inl (some (.long r.1))) am_G0 r.2 0 0 40 [(0, .ref 16), (2, .int p2), (3, .int p3), (4, .int p4), (5, .int p5), (6, .ref x2)] [.int w13] am_G0 D := by
    obtain ⟨x15, g14, hf⟩ := am_btDR hf
    refine am_callS0 (As := [.int w13]) (st := []) (am_dec tmX11_turned 20 rfl) ok_X11_need rfl lm_X11_94 st_X11_need (c_X11_need hE g14) rfl (by decide) (Nat.le_of_ble_eq_true rfl) (Nat.zero_le _) (Nat.zero_le _) rfl ?_
    refine am_aload_n (am_dec tmX11_turned 21 rfl) rfl rfl ?_
    refine am_getR (j := 12) hE (am_dec tmX11_turned 22 rfl) sh_16 cf11 (by decide) rfl lf_X11_79 rf_16_12 ?_
    refine am_aload (am_dec tmX11_turned 23 rfl) rfl ?_
    refine am_iload_n (am_dec tmX11_turned 24 rfl) rfl rfl ?_
    refine am_iload_n (am_dec tmX11_turned 25 rfl) rfl rfl ?_
    refine am_iload (am_dec tmX11_turned 26 rfl) rfl ?_
    obtain ⟨x17, g16, hf⟩ := am_bd hf
    refine am_callV0 (As := [.ref x2, .int p2, .int p3, .int p4]) (st := []) hE (am_dec tmX11_turned 27 rfl) ok_X10_turn rfl lm_X11_285 in_X10_turn se_X10_turn sh_114 cf10 (c_X10_turn hE h_x2 g16) rfl (by decide) (Nat.le_of_ble_eq_true rfl) (Nat.zero_le _) (Nat.zero_le _) rfl ?_
    refine am_iload (am_dec tmX11_turned 28 rfl) rfl ?_
    by_cases hsw : p5.toInt < 0 ∨ 2 < p5.toInt
    · rw [if_pos hsw] at hf
      refine am_tableOut (tgt := 110) (am_dec tmX11_turned 29 rfl) hsw (by decide) ?_
      refine am_aload_n (am_dec tmX11_turned 44 rfl) rfl rfl ?_
      refine am_getR (j := 12) hE (am_dec tmX11_turned 45 rfl) sh_16 cf11 (by decide) rfl lf_X11_79 rf_16_12 ?_
      obtain ⟨x19, g18, hf⟩ := am_bd hf
      refine am_callV1 (As := []) (st := []) hE (am_dec tmX11_turned 46 rfl) ok_X10_eighth rfl lm_X11_299 in_X10_eighth se_X10_eighth sh_114 cf10 (c_X10_eighth hE g18) rfl (by decide) (Nat.le_of_ble_eq_true rfl) (Nat.zero_le _) (Nat.zero_le _) rfl ?_
      refine am_i2l (am_dec tmX11_turned 47 rfl) ?_
      have hf := Sum.inr.inj (Option.some.inj hf)
      subst hf
      exact am_lret (am_dec tmX11_turned 48 rfl) rfl (Nat.zero_le _) (Nat.zero_le _)
    · rw [if_neg hsw] at hf
      by_cases hs0 : p5 = (0 : Int32)
      · rw [if_pos hs0] at hf
        refine am_tableIn (off := 26) (tgt := 84) (am_dec tmX11_turned 29 rfl) (fun q9 => hsw (Or.inl q9)) (fun q9 => hsw (Or.inr q9)) (by rw [hs0]; rfl) (by decide) ?_
        refine am_aload_n (am_dec tmX11_turned 30 rfl) rfl rfl ?_
        refine am_getR (j := 12) hE (am_dec tmX11_turned 31 rfl) sh_16 cf11 (by decide) rfl lf_X11_79 rf_16_12 ?_
        refine am_getI (j := 1) hE (am_dec tmX11_turned 32 rfl) sh_114 cf10 (by decide) rfl lf_X11_289 ?_
        refine am_i2l (am_dec tmX11_turned 33 rfl) ?_
        have hf := Sum.inr.inj (Option.some.inj hf)
        subst hf
        exact am_lret (am_dec tmX11_turned 34 rfl) rfl (Nat.zero_le _) (Nat.zero_le _)
      rw [if_neg hs0] at hf
      by_cases hs1 : p5 = (1 : Int32)
      · rw [if_pos hs1] at hf
        refine am_tableIn (off := 35) (tgt := 93) (am_dec tmX11_turned 29 rfl) (fun q9 => hsw (Or.inl q9)) (fun q9 => hsw (Or.inr q9)) (by rw [hs1]; rfl) (by decide) ?_
        refine am_aload_n (am_dec tmX11_turned 35 rfl) rfl rfl ?_
        refine am_getR (j := 12) hE (am_dec tmX11_turned 36 rfl) sh_16 cf11 (by decide) rfl lf_X11_79 rf_16_12 ?_
        refine am_getI (j := 2) hE (am_dec tmX11_turned 37 rfl) sh_114 cf10 (by decide) rfl lf_X11_292 ?_
        refine am_i2l (am_dec tmX11_turned 38 rfl) ?_
        have hf := Sum.inr.inj (Option.some.inj hf)
        subst hf
        exact am_lret (am_dec tmX11_turned 39 rfl) rfl (Nat.zero_le _) (Nat.zero_le _)
      rw [if_neg hs1] at hf
      by_cases hs2 : p5 = (2 : Int32)
      · rw [if_pos hs2] at hf
        refine am_tableIn (off := 44) (tgt := 102) (am_dec tmX11_turned 29 rfl) (fun q9 => hsw (Or.inl q9)) (fun q9 => hsw (Or.inr q9)) (by rw [hs2]; rfl) (by decide) ?_
        refine am_aload_n (am_dec tmX11_turned 40 rfl) rfl rfl ?_
        refine am_getR (j := 12) hE (am_dec tmX11_turned 41 rfl) sh_16 cf11 (by decide) rfl lf_X11_79 rf_16_12 ?_
        obtain ⟨x21, g20, hf⟩ := am_bd hf
        refine am_callV1 (As := []) (st := []) hE (am_dec tmX11_turned 42 rfl) ok_X10_strength rfl lm_X11_295 in_X10_strength se_X10_strength sh_114 cf10 (c_X10_strength hE g20) rfl (by decide) (Nat.le_of_ble_eq_true rfl) (Nat.zero_le _) (Nat.zero_le _) rfl ?_
        have hf := Sum.inr.inj (Option.some.inj hf)
        subst hf
        exact am_lret (am_dec tmX11_turned 43 rfl) rfl (Nat.zero_le _) (Nat.zero_le _)
      rw [if_neg hs2] at hf
      cases hf
  replace hf := g22
  refine am_if_eq (tgt := 39) (am_dec tmX11_turned 8 rfl) (by decide) (fun c5 => ?_) (fun c5 => ?_)
  · rw [if_pos c5] at hf
    refine am_iconst (v := (0 : Int32)) (am_dec tmX11_turned 19 rfl) (by decide) ?_
    have hf := Option.some.inj hf
    subst hf
    exact am_pick [0, 2, 3, 4, 5, 6] rfl key6
  · rw [if_neg c5] at hf
    refine am_iload_n (am_dec tmX11_turned 9 rfl) rfl rfl ?_
    obtain ⟨x8, g7, hf⟩ := am_bd hf
    refine am_callS1 (As := [.int p2]) (st := []) (am_dec tmX11_turned 10 rfl) ok_X11_isPitch rfl lm_X11_282 st_X11_isPitch (c_X11_isPitch hE g7) rfl (by decide) (Nat.le_of_ble_eq_true rfl) (Nat.zero_le _) (Nat.zero_le _) rfl ?_
    refine am_if_eq (tgt := 39) (am_dec tmX11_turned 11 rfl) (by decide) (fun c9 => ?_) (fun c9 => ?_)
    · rw [if_pos c9] at hf
      refine am_iconst (v := (0 : Int32)) (am_dec tmX11_turned 19 rfl) (by decide) ?_
      have hf := Option.some.inj hf
      subst hf
      exact am_pick [0, 2, 3, 4, 5, 6] rfl key6
    · rw [if_neg c9] at hf
      refine am_iload (am_dec tmX11_turned 12 rfl) rfl ?_
      refine am_iconst (v := (0 : Int32)) (am_dec tmX11_turned 13 rfl) (by decide) ?_
      refine am_iconst (v := (3 : Int32)) (am_dec tmX11_turned 14 rfl) (by decide) ?_
      obtain ⟨x11, g10, hf⟩ := am_bd hf
      refine am_callS1 (As := [.int p5, .int (0 : Int32), .int (3 : Int32)]) (st := []) (am_dec tmX11_turned 15 rfl) ok_X11_within rfl lm_X11_143 st_X11_within (c_X11_within hE g10) rfl (by decide) (Nat.le_of_ble_eq_true rfl) (Nat.zero_le _) (Nat.zero_le _) rfl ?_
      refine am_if_eq (tgt := 39) (am_dec tmX11_turned 16 rfl) (by decide) (fun c12 => ?_) (fun c12 => ?_)
      · rw [if_pos c12] at hf
        refine am_iconst (v := (0 : Int32)) (am_dec tmX11_turned 19 rfl) (by decide) ?_
        have hf := Option.some.inj hf
        subst hf
        exact am_pick [0, 2, 3, 4, 5, 6] rfl key6
      · rw [if_neg c12] at hf
        refine am_iconst (v := (1 : Int32)) (am_dec tmX11_turned 17 rfl) (by decide) ?_
        refine am_goto (tgt := 40) (am_dec tmX11_turned 18 rfl) (by decide) ?_
        have hf := Option.some.inj hf
        subst hf
        exact am_pick [0, 2, 3, 4, 5, 6] rfl key6
set_option maxRecDepth 100000 in
set_option maxHeartbeats 4000000 in
theorem t_X11_turned {E : am_E} (hE : am_EH E) {p1 : Int32} {p2 : Int32} {p3 : Int32} {p4 : Int32} {p5 : Int32} {D : am_D} {r : String × am_D}  (hf : f_X11_turned p1 p2 p3 p4 p5 D = some (.inl r)) : am_C E mX11_turned 3 1 6 [.ref 16, .int p1, .int p2, .int p3, .int p4, .int p5] am_G0 D (.inr r.1) am_G0 r.2 := by
  refine am_C_of (by decide +kernel) (Nat.le_of_ble_eq_true rfl) ?_
  change am_S E mX11_turned 3 1 6 (.inr r.1) am_G0 r.2 0 0 0 [(0, .ref 16), (1, .int p1), (2, .int p2), (3, .int p3), (4, .int p4), (5, .int p5)] [] am_G0 D
  unfold f_X11_turned at hf
  refine am_aload_n (am_dec tmX11_turned 0 rfl) rfl rfl ?_
  refine am_iload_n (am_dec tmX11_turned 1 rfl) rfl rfl ?_
  rcases am_btDT hf with ⟨g1, eD⟩ | ⟨x2, g1, hf⟩
  · rw [eD]
    exact am_callV_out (As := [.int p1]) (st := []) hE (am_dec tmX11_turned 2 rfl) ok_X11_soundOf rfl lm_X11_130 in_X11_soundOf se_X11_soundOf sh_16 cf11 (t_X11_soundOf hE g1) rfl (by decide) (Nat.le_of_ble_eq_true rfl) (Nat.le_refl _) (Nat.le_refl _) rfl rfl
  · have h_x2 := k_X11_soundOf g1
    refine am_callV1 (As := [.int p1]) (st := []) hE (am_dec tmX11_turned 2 rfl) ok_X11_soundOf rfl lm_X11_130 in_X11_soundOf se_X11_soundOf sh_16 cf11 (c_X11_soundOf hE g1) rfl (by decide) (Nat.le_of_ble_eq_true rfl) (Nat.zero_le _) (Nat.zero_le _) rfl ?_
    refine am_astore (lv' := [(0, .ref 16), (1, .int p1), (2, .int p2), (3, .int p3), (4, .int p4), (5, .int p5), (6, .ref x2)]) (am_dec tmX11_turned 3 rfl) (by decide) rfl ?_
    refine am_aload (am_dec tmX11_turned 4 rfl) rfl ?_
    refine am_iload_n (am_dec tmX11_turned 5 rfl) rfl rfl ?_
    refine am_iload (am_dec tmX11_turned 6 rfl) rfl ?_
    obtain ⟨x4, g3, hf⟩ := am_bd hf
    refine am_callV1 (As := [.int p3, .int p4]) (st := []) hE (am_dec tmX11_turned 7 rfl) ok_X7_holds rfl lm_X11_274 in_X7_holds se_X7_holds h_x2 cf7 (c_X7_holds hE h_x2 g3) rfl (by decide) (Nat.le_of_ble_eq_true rfl) (Nat.zero_le _) (Nat.zero_le _) rfl ?_
    obtain ⟨w13, g22, hf⟩ := am_bd hf
    have key6 : am_S E mX11_turned 3 1 6 (.inr r.1) am_G0 r.2 0 0 40 [(0, .ref 16), (2, .int p2), (3, .int p3), (4, .int p4), (5, .int p5), (6, .ref x2)] [.int w13] am_G0 D := by
      rcases am_btDT hf with ⟨g14, eD⟩ | ⟨x15, g14, hf⟩
      · rw [eD]
        exact am_callS_out (As := [.int w13]) (st := []) (am_dec tmX11_turned 20 rfl) ok_X11_need rfl lm_X11_94 st_X11_need (t_X11_need hE g14) rfl (by decide) (Nat.le_of_ble_eq_true rfl) (Nat.le_refl _) (Nat.le_refl _) rfl rfl
      · refine am_callS0 (As := [.int w13]) (st := []) (am_dec tmX11_turned 20 rfl) ok_X11_need rfl lm_X11_94 st_X11_need (c_X11_need hE g14) rfl (by decide) (Nat.le_of_ble_eq_true rfl) (Nat.zero_le _) (Nat.zero_le _) rfl ?_
        refine am_aload_n (am_dec tmX11_turned 21 rfl) rfl rfl ?_
        refine am_getR (j := 12) hE (am_dec tmX11_turned 22 rfl) sh_16 cf11 (by decide) rfl lf_X11_79 rf_16_12 ?_
        refine am_aload (am_dec tmX11_turned 23 rfl) rfl ?_
        refine am_iload_n (am_dec tmX11_turned 24 rfl) rfl rfl ?_
        refine am_iload_n (am_dec tmX11_turned 25 rfl) rfl rfl ?_
        refine am_iload (am_dec tmX11_turned 26 rfl) rfl ?_
        obtain ⟨x17, g16, hf⟩ := am_bd hf
        refine am_callV0 (As := [.ref x2, .int p2, .int p3, .int p4]) (st := []) hE (am_dec tmX11_turned 27 rfl) ok_X10_turn rfl lm_X11_285 in_X10_turn se_X10_turn sh_114 cf10 (c_X10_turn hE h_x2 g16) rfl (by decide) (Nat.le_of_ble_eq_true rfl) (Nat.zero_le _) (Nat.zero_le _) rfl ?_
        refine am_iload (am_dec tmX11_turned 28 rfl) rfl ?_
        by_cases hsw : p5.toInt < 0 ∨ 2 < p5.toInt
        · rw [if_pos hsw] at hf
          refine am_tableOut (tgt := 110) (am_dec tmX11_turned 29 rfl) hsw (by decide) ?_
          refine am_aload_n (am_dec tmX11_turned 44 rfl) rfl rfl ?_
          refine am_getR (j := 12) hE (am_dec tmX11_turned 45 rfl) sh_16 cf11 (by decide) rfl lf_X11_79 rf_16_12 ?_
          obtain ⟨x19, g18, hf⟩ := am_bd hf
          refine am_callV1 (As := []) (st := []) hE (am_dec tmX11_turned 46 rfl) ok_X10_eighth rfl lm_X11_299 in_X10_eighth se_X10_eighth sh_114 cf10 (c_X10_eighth hE g18) rfl (by decide) (Nat.le_of_ble_eq_true rfl) (Nat.zero_le _) (Nat.zero_le _) rfl ?_
          refine am_i2l (am_dec tmX11_turned 47 rfl) ?_
          cases hf
        · rw [if_neg hsw] at hf
          by_cases hs0 : p5 = (0 : Int32)
          · rw [if_pos hs0] at hf
            refine am_tableIn (off := 26) (tgt := 84) (am_dec tmX11_turned 29 rfl) (fun q9 => hsw (Or.inl q9)) (fun q9 => hsw (Or.inr q9)) (by rw [hs0]; rfl) (by decide) ?_
            refine am_aload_n (am_dec tmX11_turned 30 rfl) rfl rfl ?_
            refine am_getR (j := 12) hE (am_dec tmX11_turned 31 rfl) sh_16 cf11 (by decide) rfl lf_X11_79 rf_16_12 ?_
            refine am_getI (j := 1) hE (am_dec tmX11_turned 32 rfl) sh_114 cf10 (by decide) rfl lf_X11_289 ?_
            refine am_i2l (am_dec tmX11_turned 33 rfl) ?_
            cases hf
          rw [if_neg hs0] at hf
          by_cases hs1 : p5 = (1 : Int32)
          · rw [if_pos hs1] at hf
            refine am_tableIn (off := 35) (tgt := 93) (am_dec tmX11_turned 29 rfl) (fun q9 => hsw (Or.inl q9)) (fun q9 => hsw (Or.inr q9)) (by rw [hs1]; rfl) (by decide) ?_
            refine am_aload_n (am_dec tmX11_turned 35 rfl) rfl rfl ?_
            refine am_getR (j := 12) hE (am_dec tmX11_turned 36 rfl) sh_16 cf11 (by decide) rfl lf_X11_79 rf_16_12 ?_
            refine am_getI (j := 2) hE (am_dec tmX11_turned 37 rfl) sh_114 cf10 (by decide) rfl lf_X11_292 ?_
            refine am_i2l (am_dec tmX11_turned 38 rfl) ?_
            cases hf
          rw [if_neg hs1] at hf
          by_cases hs2 : p5 = (2 : Int32)
          · rw [if_pos hs2] at hf
            refine am_tableIn (off := 44) (tgt := 102) (am_dec tmX11_turned 29 rfl) (fun q9 => hsw (Or.inl q9)) (fun q9 => hsw (Or.inr q9)) (by rw [hs2]; rfl) (by decide) ?_
            refine am_aload_n (am_dec tmX11_turned 40 rfl) rfl rfl ?_
            refine am_getR (j := 12) hE (am_dec tmX11_turned 41 rfl) sh_16 cf11 (by decide) rfl lf_X11_79 rf_16_12 ?_
            obtain ⟨x21, g20, hf⟩ := am_bd hf
            refine am_callV1 (As := []) (st := []) hE (am_dec tmX11_turned 42 rfl) ok_X10_strength rfl lm_X11_295 in_X10_strength se_X10_strength sh_114 cf10 (c_X10_strength hE g20) rfl (by decide) (Nat.le_of_ble_eq_true rfl) (Nat.zero_le _) (Nat.zero_le _) rfl ?_
            cases hf
          rw [if_neg hs2] at hf
          cases hf
    replace hf := g22
    refine am_if_eq (tgt := 39) (am_dec tmX11_turned 8 rfl) (by decide) (fun c5 => ?_) (fun c5 => ?_)
    · rw [if_pos c5] at hf
      refine am_iconst (v := (0 : Int32)) (am_dec tmX11_turned 19 rfl) (by decide) ?_
      have hf := Option.some.inj hf
      subst hf
      exact am_pick [0, 2, 3, 4, 5, 6] rfl key6
    · rw [if_neg c5] at hf
      refine am_iload_n (am_dec tmX11_turned 9 rfl) rfl rfl ?_
      obtain ⟨x8, g7, hf⟩ := am_bd hf
      refine am_callS1 (As := [.int p2]) (st := []) (am_dec tmX11_turned 10 rfl) ok_X11_isPitch rfl lm_X11_282 st_X11_isPitch (c_X11_isPitch hE g7) rfl (by decide) (Nat.le_of_ble_eq_true rfl) (Nat.zero_le _) (Nat.zero_le _) rfl ?_
      refine am_if_eq (tgt := 39) (am_dec tmX11_turned 11 rfl) (by decide) (fun c9 => ?_) (fun c9 => ?_)
      · rw [if_pos c9] at hf
        refine am_iconst (v := (0 : Int32)) (am_dec tmX11_turned 19 rfl) (by decide) ?_
        have hf := Option.some.inj hf
        subst hf
        exact am_pick [0, 2, 3, 4, 5, 6] rfl key6
      · rw [if_neg c9] at hf
        refine am_iload (am_dec tmX11_turned 12 rfl) rfl ?_
        refine am_iconst (v := (0 : Int32)) (am_dec tmX11_turned 13 rfl) (by decide) ?_
        refine am_iconst (v := (3 : Int32)) (am_dec tmX11_turned 14 rfl) (by decide) ?_
        obtain ⟨x11, g10, hf⟩ := am_bd hf
        refine am_callS1 (As := [.int p5, .int (0 : Int32), .int (3 : Int32)]) (st := []) (am_dec tmX11_turned 15 rfl) ok_X11_within rfl lm_X11_143 st_X11_within (c_X11_within hE g10) rfl (by decide) (Nat.le_of_ble_eq_true rfl) (Nat.zero_le _) (Nat.zero_le _) rfl ?_
        refine am_if_eq (tgt := 39) (am_dec tmX11_turned 16 rfl) (by decide) (fun c12 => ?_) (fun c12 => ?_)
        · rw [if_pos c12] at hf
          refine am_iconst (v := (0 : Int32)) (am_dec tmX11_turned 19 rfl) (by decide) ?_
          have hf := Option.some.inj hf
          subst hf
          exact am_pick [0, 2, 3, 4, 5, 6] rfl key6
        · rw [if_neg c12] at hf
          refine am_iconst (v := (1 : Int32)) (am_dec tmX11_turned 17 rfl) (by decide) ?_
          refine am_goto (tgt := 40) (am_dec tmX11_turned 18 rfl) (by decide) ?_
          have hf := Option.some.inj hf
          subst hf
          exact am_pick [0, 2, 3, 4, 5, 6] rfl key6
def f_X11_sing (p1 : Int32) (p2 : Int32) (p3 : Int32) (p4 : Int32) (D : am_D) : Option ((String × am_D) ⊕ (Int32 × am_D)) :=
    am_btD (f_X11_soundOf p1 D) D fun x2 =>
    am_btD (f_X11_mapOf p2 D) D fun x4 =>
    (f_X11_isPitch p3).bind fun x6 =>
    (if x6 = 0 then
    some ((0 : Int32))
    else
    (f_X11_within p4 (8 : Int32) (60 : Int32)).bind fun x10 =>
    if x10 = 0 then
    some ((0 : Int32))
    else
    some ((1 : Int32))).bind fun w12 =>
    am_btD (f_X11_need w12) D fun x14 =>
    (f_X9_lastFrom x4 D).bind fun x16 =>
    if x16 ≤ (D.1 x2 1) then
    (f_X3_singOut 71 x2 x4 p3 p4 D).bind fun x19 =>
    some (.inr ((x19.1 74 1), x19))
    else
    some (.inl ("java/lang/IllegalStateException", D))
set_option maxRecDepth 100000 in
set_option maxHeartbeats 4000000 in
theorem c_X11_sing {E : am_E} (hE : am_EH E) {p1 : Int32} {p2 : Int32} {p3 : Int32} {p4 : Int32} {D : am_D} {r : (Int32 × am_D)}  (hf : f_X11_sing p1 p2 p3 p4 D = some (.inr r)) : am_C E mX11_sing 6 0 0 [.ref 16, .int p1, .int p2, .int p3, .int p4] am_G0 D (.inl (some (.int r.1))) am_G0 r.2 := by
  refine am_C_of (by decide +kernel) (Nat.le_of_ble_eq_true rfl) ?_
  change am_S E mX11_sing 6 0 0 (.inl (some (.int r.1))) am_G0 r.2 0 0 0 [(0, .ref 16), (1, .int p1), (2, .int p2), (3, .int p3), (4, .int p4)] [] am_G0 D
  unfold f_X11_sing at hf
  refine am_aload_n (am_dec tmX11_sing 0 rfl) rfl rfl ?_
  refine am_iload_n (am_dec tmX11_sing 1 rfl) rfl rfl ?_
  obtain ⟨x2, g1, hf⟩ := am_btDR hf
  have h_x2 := k_X11_soundOf g1
  refine am_callV1 (As := [.int p1]) (st := []) hE (am_dec tmX11_sing 2 rfl) ok_X11_soundOf rfl lm_X11_130 in_X11_soundOf se_X11_soundOf sh_16 cf11 (c_X11_soundOf hE g1) rfl (by decide) (Nat.le_of_ble_eq_true rfl) (Nat.zero_le _) (Nat.zero_le _) rfl ?_
  refine am_astore (lv' := [(0, .ref 16), (1, .int p1), (2, .int p2), (3, .int p3), (4, .int p4), (5, .ref x2)]) (am_dec tmX11_sing 3 rfl) (by decide) rfl ?_
  refine am_aload_n (am_dec tmX11_sing 4 rfl) rfl rfl ?_
  refine am_iload_n (am_dec tmX11_sing 5 rfl) rfl rfl ?_
  obtain ⟨x4, g3, hf⟩ := am_btDR hf
  have h_x4 := k_X11_mapOf g3
  refine am_callV1 (As := [.int p2]) (st := []) hE (am_dec tmX11_sing 6 rfl) ok_X11_mapOf rfl lm_X11_139 in_X11_mapOf se_X11_mapOf sh_16 cf11 (c_X11_mapOf hE g3) rfl (by decide) (Nat.le_of_ble_eq_true rfl) (Nat.zero_le _) (Nat.zero_le _) rfl ?_
  refine am_astore (lv' := [(0, .ref 16), (1, .int p1), (2, .int p2), (3, .int p3), (4, .int p4), (5, .ref x2), (6, .ref x4)]) (am_dec tmX11_sing 7 rfl) (by decide) rfl ?_
  refine am_iload_n (am_dec tmX11_sing 8 rfl) rfl rfl ?_
  obtain ⟨x6, g5, hf⟩ := am_bd hf
  refine am_callS1 (As := [.int p3]) (st := []) (am_dec tmX11_sing 9 rfl) ok_X11_isPitch rfl lm_X11_282 st_X11_isPitch (c_X11_isPitch hE g5) rfl (by decide) (Nat.le_of_ble_eq_true rfl) (Nat.zero_le _) (Nat.zero_le _) rfl ?_
  obtain ⟨w12, g20, hf⟩ := am_bd hf
  have key8 : am_S E mX11_sing 6 0 0 (.inl (some (.int r.1))) am_G0 r.2 0 0 38 [(0, .ref 16), (3, .int p3), (4, .int p4), (5, .ref x2), (6, .ref x4)] [.int w12] am_G0 D := by
    obtain ⟨x14, g13, hf⟩ := am_btDR hf
    refine am_callS0 (As := [.int w12]) (st := []) (am_dec tmX11_sing 19 rfl) ok_X11_need rfl lm_X11_94 st_X11_need (c_X11_need hE g13) rfl (by decide) (Nat.le_of_ble_eq_true rfl) (Nat.zero_le _) (Nat.zero_le _) rfl ?_
    refine am_aload (am_dec tmX11_sing 20 rfl) rfl ?_
    refine am_getI (j := 1) hE (am_dec tmX11_sing 21 rfl) h_x2 cf7 (by decide) rfl lf_X11_134 ?_
    refine am_aload (am_dec tmX11_sing 22 rfl) rfl ?_
    obtain ⟨x16, g15, hf⟩ := am_bd hf
    refine am_callV1 (As := []) (st := [.int (D.1 x2 1)]) hE (am_dec tmX11_sing 23 rfl) ok_X9_lastFrom rfl lm_X11_151 in_X9_lastFrom se_X9_lastFrom h_x4 cf9 (c_X9_lastFrom hE h_x4 g15) rfl (by decide) (Nat.le_of_ble_eq_true rfl) (Nat.zero_le _) (Nat.zero_le _) rfl ?_
    refine am_icmp_ge (tgt := 62) (am_dec tmX11_sing 24 rfl) (by decide) (fun c17 => ?_) (fun c17 => ?_)
    · rw [if_pos c17] at hf
      refine am_aload_n (am_dec tmX11_sing 29 rfl) rfl rfl ?_
      refine am_getR (j := 4) hE (am_dec tmX11_sing 30 rfl) sh_16 cf11 (by decide) rfl lf_X11_33 rf_16_4 ?_
      refine am_aload (am_dec tmX11_sing 31 rfl) rfl ?_
      refine am_aload (am_dec tmX11_sing 32 rfl) rfl ?_
      refine am_iload_n (am_dec tmX11_sing 33 rfl) rfl rfl ?_
      refine am_iload (am_dec tmX11_sing 34 rfl) rfl ?_
      obtain ⟨x19, g18, hf⟩ := am_bd hf
      refine am_callV0 (As := [.ref x2, .ref x4, .int p3, .int p4]) (st := []) hE (am_dec tmX11_sing 35 rfl) ok_X3_singOut rfl lm_X11_305 in_X3_singOut se_X3_singOut sh_71 cf3 (c_X3_singOut hE sh_71 h_x2 h_x4 g18) rfl (by decide) (Nat.le_of_ble_eq_true rfl) (Nat.zero_le _) (Nat.zero_le _) rfl ?_
      refine am_aload_n (am_dec tmX11_sing 36 rfl) rfl rfl ?_
      refine am_getR (j := 4) hE (am_dec tmX11_sing 37 rfl) sh_16 cf11 (by decide) rfl lf_X11_33 rf_16_4 ?_
      refine am_getR (j := 1) hE (am_dec tmX11_sing 38 rfl) sh_71 cf3 (by decide) rfl lf_X11_197 rf_71_1 ?_
      refine am_getI (j := 1) hE (am_dec tmX11_sing 39 rfl) sh_74 cf7 (by decide) rfl lf_X11_134 ?_
      have hf := Sum.inr.inj (Option.some.inj hf)
      subst hf
      exact am_iret (am_dec tmX11_sing 40 rfl) rfl (Nat.zero_le _) (Nat.zero_le _)
    · rw [if_neg c17] at hf
      cases hf
  replace hf := g20
  refine am_if_eq (tgt := 37) (am_dec tmX11_sing 10 rfl) (by decide) (fun c7 => ?_) (fun c7 => ?_)
  · rw [if_pos c7] at hf
    refine am_iconst (v := (0 : Int32)) (am_dec tmX11_sing 18 rfl) (by decide) ?_
    have hf := Option.some.inj hf
    subst hf
    exact am_pick [0, 3, 4, 5, 6] rfl key8
  · rw [if_neg c7] at hf
    refine am_iload (am_dec tmX11_sing 11 rfl) rfl ?_
    refine am_bipush (v := (8 : Int32)) (am_dec tmX11_sing 12 rfl) (by decide) ?_
    refine am_bipush (v := (60 : Int32)) (am_dec tmX11_sing 13 rfl) (by decide) ?_
    obtain ⟨x10, g9, hf⟩ := am_bd hf
    refine am_callS1 (As := [.int p4, .int (8 : Int32), .int (60 : Int32)]) (st := []) (am_dec tmX11_sing 14 rfl) ok_X11_within rfl lm_X11_143 st_X11_within (c_X11_within hE g9) rfl (by decide) (Nat.le_of_ble_eq_true rfl) (Nat.zero_le _) (Nat.zero_le _) rfl ?_
    refine am_if_eq (tgt := 37) (am_dec tmX11_sing 15 rfl) (by decide) (fun c11 => ?_) (fun c11 => ?_)
    · rw [if_pos c11] at hf
      refine am_iconst (v := (0 : Int32)) (am_dec tmX11_sing 18 rfl) (by decide) ?_
      have hf := Option.some.inj hf
      subst hf
      exact am_pick [0, 3, 4, 5, 6] rfl key8
    · rw [if_neg c11] at hf
      refine am_iconst (v := (1 : Int32)) (am_dec tmX11_sing 16 rfl) (by decide) ?_
      refine am_goto (tgt := 38) (am_dec tmX11_sing 17 rfl) (by decide) ?_
      have hf := Option.some.inj hf
      subst hf
      exact am_pick [0, 3, 4, 5, 6] rfl key8
set_option maxRecDepth 100000 in
set_option maxHeartbeats 4000000 in
theorem t_X11_sing {E : am_E} (hE : am_EH E) {p1 : Int32} {p2 : Int32} {p3 : Int32} {p4 : Int32} {D : am_D} {r : String × am_D}  (hf : f_X11_sing p1 p2 p3 p4 D = some (.inl r)) : am_C E mX11_sing 6 1 6 [.ref 16, .int p1, .int p2, .int p3, .int p4] am_G0 D (.inr r.1) am_G0 r.2 := by
  refine am_C_of (by decide +kernel) (Nat.le_of_ble_eq_true rfl) ?_
  change am_S E mX11_sing 6 1 6 (.inr r.1) am_G0 r.2 0 0 0 [(0, .ref 16), (1, .int p1), (2, .int p2), (3, .int p3), (4, .int p4)] [] am_G0 D
  unfold f_X11_sing at hf
  refine am_aload_n (am_dec tmX11_sing 0 rfl) rfl rfl ?_
  refine am_iload_n (am_dec tmX11_sing 1 rfl) rfl rfl ?_
  rcases am_btDT hf with ⟨g1, eD⟩ | ⟨x2, g1, hf⟩
  · rw [eD]
    exact am_callV_out (As := [.int p1]) (st := []) hE (am_dec tmX11_sing 2 rfl) ok_X11_soundOf rfl lm_X11_130 in_X11_soundOf se_X11_soundOf sh_16 cf11 (t_X11_soundOf hE g1) rfl (by decide) (Nat.le_of_ble_eq_true rfl) (Nat.le_refl _) (Nat.le_refl _) rfl rfl
  · have h_x2 := k_X11_soundOf g1
    refine am_callV1 (As := [.int p1]) (st := []) hE (am_dec tmX11_sing 2 rfl) ok_X11_soundOf rfl lm_X11_130 in_X11_soundOf se_X11_soundOf sh_16 cf11 (c_X11_soundOf hE g1) rfl (by decide) (Nat.le_of_ble_eq_true rfl) (Nat.zero_le _) (Nat.zero_le _) rfl ?_
    refine am_astore (lv' := [(0, .ref 16), (1, .int p1), (2, .int p2), (3, .int p3), (4, .int p4), (5, .ref x2)]) (am_dec tmX11_sing 3 rfl) (by decide) rfl ?_
    refine am_aload_n (am_dec tmX11_sing 4 rfl) rfl rfl ?_
    refine am_iload_n (am_dec tmX11_sing 5 rfl) rfl rfl ?_
    rcases am_btDT hf with ⟨g3, eD⟩ | ⟨x4, g3, hf⟩
    · rw [eD]
      exact am_callV_out (As := [.int p2]) (st := []) hE (am_dec tmX11_sing 6 rfl) ok_X11_mapOf rfl lm_X11_139 in_X11_mapOf se_X11_mapOf sh_16 cf11 (t_X11_mapOf hE g3) rfl (by decide) (Nat.le_of_ble_eq_true rfl) (Nat.le_refl _) (Nat.le_refl _) rfl rfl
    · have h_x4 := k_X11_mapOf g3
      refine am_callV1 (As := [.int p2]) (st := []) hE (am_dec tmX11_sing 6 rfl) ok_X11_mapOf rfl lm_X11_139 in_X11_mapOf se_X11_mapOf sh_16 cf11 (c_X11_mapOf hE g3) rfl (by decide) (Nat.le_of_ble_eq_true rfl) (Nat.zero_le _) (Nat.zero_le _) rfl ?_
      refine am_astore (lv' := [(0, .ref 16), (1, .int p1), (2, .int p2), (3, .int p3), (4, .int p4), (5, .ref x2), (6, .ref x4)]) (am_dec tmX11_sing 7 rfl) (by decide) rfl ?_
      refine am_iload_n (am_dec tmX11_sing 8 rfl) rfl rfl ?_
      obtain ⟨x6, g5, hf⟩ := am_bd hf
      refine am_callS1 (As := [.int p3]) (st := []) (am_dec tmX11_sing 9 rfl) ok_X11_isPitch rfl lm_X11_282 st_X11_isPitch (c_X11_isPitch hE g5) rfl (by decide) (Nat.le_of_ble_eq_true rfl) (Nat.zero_le _) (Nat.zero_le _) rfl ?_
      obtain ⟨w12, g20, hf⟩ := am_bd hf
      have key8 : am_S E mX11_sing 6 1 6 (.inr r.1) am_G0 r.2 0 0 38 [(0, .ref 16), (3, .int p3), (4, .int p4), (5, .ref x2), (6, .ref x4)] [.int w12] am_G0 D := by
        rcases am_btDT hf with ⟨g13, eD⟩ | ⟨x14, g13, hf⟩
        · rw [eD]
          exact am_callS_out (As := [.int w12]) (st := []) (am_dec tmX11_sing 19 rfl) ok_X11_need rfl lm_X11_94 st_X11_need (t_X11_need hE g13) rfl (by decide) (Nat.le_of_ble_eq_true rfl) (Nat.le_refl _) (Nat.le_refl _) rfl rfl
        · refine am_callS0 (As := [.int w12]) (st := []) (am_dec tmX11_sing 19 rfl) ok_X11_need rfl lm_X11_94 st_X11_need (c_X11_need hE g13) rfl (by decide) (Nat.le_of_ble_eq_true rfl) (Nat.zero_le _) (Nat.zero_le _) rfl ?_
          refine am_aload (am_dec tmX11_sing 20 rfl) rfl ?_
          refine am_getI (j := 1) hE (am_dec tmX11_sing 21 rfl) h_x2 cf7 (by decide) rfl lf_X11_134 ?_
          refine am_aload (am_dec tmX11_sing 22 rfl) rfl ?_
          obtain ⟨x16, g15, hf⟩ := am_bd hf
          refine am_callV1 (As := []) (st := [.int (D.1 x2 1)]) hE (am_dec tmX11_sing 23 rfl) ok_X9_lastFrom rfl lm_X11_151 in_X9_lastFrom se_X9_lastFrom h_x4 cf9 (c_X9_lastFrom hE h_x4 g15) rfl (by decide) (Nat.le_of_ble_eq_true rfl) (Nat.zero_le _) (Nat.zero_le _) rfl ?_
          refine am_icmp_ge (tgt := 62) (am_dec tmX11_sing 24 rfl) (by decide) (fun c17 => ?_) (fun c17 => ?_)
          · rw [if_pos c17] at hf
            refine am_aload_n (am_dec tmX11_sing 29 rfl) rfl rfl ?_
            refine am_getR (j := 4) hE (am_dec tmX11_sing 30 rfl) sh_16 cf11 (by decide) rfl lf_X11_33 rf_16_4 ?_
            refine am_aload (am_dec tmX11_sing 31 rfl) rfl ?_
            refine am_aload (am_dec tmX11_sing 32 rfl) rfl ?_
            refine am_iload_n (am_dec tmX11_sing 33 rfl) rfl rfl ?_
            refine am_iload (am_dec tmX11_sing 34 rfl) rfl ?_
            obtain ⟨x19, g18, hf⟩ := am_bd hf
            refine am_callV0 (As := [.ref x2, .ref x4, .int p3, .int p4]) (st := []) hE (am_dec tmX11_sing 35 rfl) ok_X3_singOut rfl lm_X11_305 in_X3_singOut se_X3_singOut sh_71 cf3 (c_X3_singOut hE sh_71 h_x2 h_x4 g18) rfl (by decide) (Nat.le_of_ble_eq_true rfl) (Nat.zero_le _) (Nat.zero_le _) rfl ?_
            refine am_aload_n (am_dec tmX11_sing 36 rfl) rfl rfl ?_
            refine am_getR (j := 4) hE (am_dec tmX11_sing 37 rfl) sh_16 cf11 (by decide) rfl lf_X11_33 rf_16_4 ?_
            refine am_getR (j := 1) hE (am_dec tmX11_sing 38 rfl) sh_71 cf3 (by decide) rfl lf_X11_197 rf_71_1 ?_
            refine am_getI (j := 1) hE (am_dec tmX11_sing 39 rfl) sh_74 cf7 (by decide) rfl lf_X11_134 ?_
            cases hf
          · rw [if_neg c17] at hf
            have hf := Sum.inl.inj (Option.some.inj hf)
            subst hf
            exact am_throw (cls := "java/lang/IllegalStateException") hE (names := ["java/lang/RuntimeException", "java/lang/Exception"]) (am_dec tmX11_sing 25 rfl) (am_dec tmX11_sing 26 rfl) (am_dec tmX11_sing 27 rfl) (am_dec tmX11_sing 28 rfl) (by decide +kernel) (by decide +kernel) lcl_X11_302 lin_IllegalStateException ht_X11_304 rfl (Nat.le_of_ble_eq_true rfl) (Nat.le_refl _) (Nat.le_refl _) rfl rfl
      replace hf := g20
      refine am_if_eq (tgt := 37) (am_dec tmX11_sing 10 rfl) (by decide) (fun c7 => ?_) (fun c7 => ?_)
      · rw [if_pos c7] at hf
        refine am_iconst (v := (0 : Int32)) (am_dec tmX11_sing 18 rfl) (by decide) ?_
        have hf := Option.some.inj hf
        subst hf
        exact am_pick [0, 3, 4, 5, 6] rfl key8
      · rw [if_neg c7] at hf
        refine am_iload (am_dec tmX11_sing 11 rfl) rfl ?_
        refine am_bipush (v := (8 : Int32)) (am_dec tmX11_sing 12 rfl) (by decide) ?_
        refine am_bipush (v := (60 : Int32)) (am_dec tmX11_sing 13 rfl) (by decide) ?_
        obtain ⟨x10, g9, hf⟩ := am_bd hf
        refine am_callS1 (As := [.int p4, .int (8 : Int32), .int (60 : Int32)]) (st := []) (am_dec tmX11_sing 14 rfl) ok_X11_within rfl lm_X11_143 st_X11_within (c_X11_within hE g9) rfl (by decide) (Nat.le_of_ble_eq_true rfl) (Nat.zero_le _) (Nat.zero_le _) rfl ?_
        refine am_if_eq (tgt := 37) (am_dec tmX11_sing 15 rfl) (by decide) (fun c11 => ?_) (fun c11 => ?_)
        · rw [if_pos c11] at hf
          refine am_iconst (v := (0 : Int32)) (am_dec tmX11_sing 18 rfl) (by decide) ?_
          have hf := Option.some.inj hf
          subst hf
          exact am_pick [0, 3, 4, 5, 6] rfl key8
        · rw [if_neg c11] at hf
          refine am_iconst (v := (1 : Int32)) (am_dec tmX11_sing 16 rfl) (by decide) ?_
          refine am_goto (tgt := 38) (am_dec tmX11_sing 17 rfl) (by decide) ?_
          have hf := Option.some.inj hf
          subst hf
          exact am_pick [0, 3, 4, 5, 6] rfl key8
