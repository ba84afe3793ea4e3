def f_X11_peak (p1 : Int32) (p2 : Int32) (p3 : Int32) (p4 : Int32) (D : am_D) : Option ((String × am_D) ⊕ (Int32 × am_D)) :=
    am_btD (f_X11_soundOf p1 D) D fun x2 =>
    (f_X7_holds x2 p2 p3 D).bind fun x4 =>
    am_btD (f_X11_need x4) D fun x6 =>
    (f_X10_turnAll x2 p2 p3 D).bind fun x8 =>
    (f_X10_rankedPeak p4 x8).bind fun x10 =>
    some (.inr (x10, x8))
set_option maxRecDepth 100000 in
set_option maxHeartbeats 4000000 in
theorem c_X11_peak {E : am_E} (hE : am_EH E) {p1 : Int32} {p2 : Int32} {p3 : Int32} {p4 : Int32} {D : am_D} {r : (Int32 × am_D)}  (hf : f_X11_peak p1 p2 p3 p4 D = some (.inr r)) : am_C E mX11_peak 5 0 0 [.ref 16, .int p1, .int p2, .int p3, .int p4] am_G0 D (.inl (some (.int r.1))) am_G0 r.2 := by
  refine am_C_of (by decide +kernel) (Nat.le_of_ble_eq_true rfl) ?_
  change am_S E mX11_peak 5 0 0 (.inl (some (.int r.1))) am_G0 r.2 0 0 0 [(0, .ref 16), (1, .int p1), (2, .int p2), (3, .int p3), (4, .int p4)] [] am_G0 D
  unfold f_X11_peak at hf
  refine am_aload_n (am_dec tmX11_peak 0 rfl) rfl rfl ?_
  refine am_iload_n (am_dec tmX11_peak 1 rfl) rfl rfl ?_
  obtain ⟨x2, g1, hf⟩ := am_btDR hf
  have h_x2 := k_X11_soundOf g1
  refine am_callV1 (As := [.int p1]) (st := []) hE (am_dec tmX11_peak 2 rfl) ok_X11_soundOf rfl lm_X11_130 in_X11_soundOf se_X11_soundOf sh_16 cf11 (c_X11_soundOf hE g1) rfl (by decide) (Nat.le_of_ble_eq_true rfl) (Nat.zero_le _) (Nat.zero_le _) rfl ?_
  refine am_astore (lv' := [(0, .ref 16), (1, .int p1), (2, .int p2), (3, .int p3), (4, .int p4), (5, .ref x2)]) (am_dec tmX11_peak 3 rfl) (by decide) rfl ?_
  refine am_aload (am_dec tmX11_peak 4 rfl) rfl ?_
  refine am_iload_n (am_dec tmX11_peak 5 rfl) rfl rfl ?_
  refine am_iload_n (am_dec tmX11_peak 6 rfl) rfl rfl ?_
  obtain ⟨x4, g3, hf⟩ := am_bd hf
  refine am_callV1 (As := [.int p2, .int p3]) (st := []) hE (am_dec tmX11_peak 7 rfl) ok_X7_holds rfl lm_X11_274 in_X7_holds se_X7_holds h_x2 cf7 (c_X7_holds hE h_x2 g3) rfl (by decide) (Nat.le_of_ble_eq_true rfl) (Nat.zero_le _) (Nat.zero_le _) rfl ?_
  obtain ⟨x6, g5, hf⟩ := am_btDR hf
  refine am_callS0 (As := [.int x4]) (st := []) (am_dec tmX11_peak 8 rfl) ok_X11_need rfl lm_X11_94 st_X11_need (c_X11_need hE g5) rfl (by decide) (Nat.le_of_ble_eq_true rfl) (Nat.zero_le _) (Nat.zero_le _) rfl ?_
  refine am_aload_n (am_dec tmX11_peak 9 rfl) rfl rfl ?_
  refine am_getR (j := 12) hE (am_dec tmX11_peak 10 rfl) sh_16 cf11 (by decide) rfl lf_X11_79 rf_16_12 ?_
  refine am_aload (am_dec tmX11_peak 11 rfl) rfl ?_
  refine am_iload_n (am_dec tmX11_peak 12 rfl) rfl rfl ?_
  refine am_iload_n (am_dec tmX11_peak 13 rfl) rfl rfl ?_
  obtain ⟨x8, g7, hf⟩ := am_bd hf
  refine am_callV0 (As := [.ref x2, .int p2, .int p3]) (st := []) hE (am_dec tmX11_peak 14 rfl) ok_X10_turnAll rfl lm_X11_404 in_X10_turnAll se_X10_turnAll sh_114 cf10 (c_X10_turnAll hE h_x2 g7) rfl (by decide) (Nat.le_of_ble_eq_true rfl) (Nat.zero_le _) (Nat.zero_le _) rfl ?_
  refine am_aload_n (am_dec tmX11_peak 15 rfl) rfl rfl ?_
  refine am_getR (j := 12) hE (am_dec tmX11_peak 16 rfl) sh_16 cf11 (by decide) rfl lf_X11_79 rf_16_12 ?_
  refine am_iload (am_dec tmX11_peak 17 rfl) rfl ?_
  obtain ⟨x10, g9, hf⟩ := am_bd hf
  refine am_callV1 (As := [.int p4]) (st := []) hE (am_dec tmX11_peak 18 rfl) ok_X10_rankedPeak rfl lm_X11_408 in_X10_rankedPeak se_X10_rankedPeak sh_114 cf10 (c_X10_rankedPeak hE g9) rfl (by decide) (Nat.le_of_ble_eq_true rfl) (Nat.zero_le _) (Nat.zero_le _) rfl ?_
  have hf := Sum.inr.inj (Option.some.inj hf)
  subst hf
  exact am_iret (am_dec tmX11_peak 19 rfl) rfl (Nat.zero_le _) (Nat.zero_le _)
set_option maxRecDepth 100000 in
set_option maxHeartbeats 4000000 in
theorem t_X11_peak {E : am_E} (hE : am_EH E) {p1 : Int32} {p2 : Int32} {p3 : Int32} {p4 : Int32} {D : am_D} {r : String × am_D}  (hf : f_X11_peak p1 p2 p3 p4 D = some (.inl r)) : am_C E mX11_peak 5 1 6 [.ref 16, .int p1, .int p2, .int p3, .int p4] am_G0 D (.inr r.1) am_G0 r.2 := by
  refine am_C_of (by decide +kernel) (Nat.le_of_ble_eq_true rfl) ?_
  change am_S E mX11_peak 5 1 6 (.inr r.1) am_G0 r.2 0 0 0 [(0, .ref 16), (1, .int p1), (2, .int p2), (3, .int p3), (4, .int p4)] [] am_G0 D
  unfold f_X11_peak at hf
  refine am_aload_n (am_dec tmX11_peak 0 rfl) rfl rfl ?_
  refine am_iload_n (am_dec tmX11_peak 1 rfl) rfl rfl ?_
  rcases am_btDT hf with ⟨g1, eD⟩ | ⟨x2, g1, hf⟩
  · rw [eD]
    exact am_callV_out (As := [.int p1]) (st := []) hE (am_dec tmX11_peak 2 rfl) ok_X11_soundOf rfl lm_X11_130 in_X11_soundOf se_X11_soundOf sh_16 cf11 (t_X11_soundOf hE g1) rfl (by decide) (Nat.le_of_ble_eq_true rfl) (Nat.le_refl _) (Nat.le_refl _) rfl rfl
  · have h_x2 := k_X11_soundOf g1
    refine am_callV1 (As := [.int p1]) (st := []) hE (am_dec tmX11_peak 2 rfl) ok_X11_soundOf rfl lm_X11_130 in_X11_soundOf se_X11_soundOf sh_16 cf11 (c_X11_soundOf hE g1) rfl (by decide) (Nat.le_of_ble_eq_true rfl) (Nat.zero_le _) (Nat.zero_le _) rfl ?_
    refine am_astore (lv' := [(0, .ref 16), (1, .int p1), (2, .int p2), (3, .int p3), (4, .int p4), (5, .ref x2)]) (am_dec tmX11_peak 3 rfl) (by decide) rfl ?_
    refine am_aload (am_dec tmX11_peak 4 rfl) rfl ?_
    refine am_iload_n (am_dec tmX11_peak 5 rfl) rfl rfl ?_
    refine am_iload_n (am_dec tmX11_peak 6 rfl) rfl rfl ?_
    obtain ⟨x4, g3, hf⟩ := am_bd hf
    refine am_callV1 (As := [.int p2, .int p3]) (st := []) hE (am_dec tmX11_peak 7 rfl) ok_X7_holds rfl lm_X11_274 in_X7_holds se_X7_holds h_x2 cf7 (c_X7_holds hE h_x2 g3) rfl (by decide) (Nat.le_of_ble_eq_true rfl) (Nat.zero_le _) (Nat.zero_le _) rfl ?_
    rcases am_btDT hf with ⟨g5, eD⟩ | ⟨x6, g5, hf⟩
    · rw [eD]
      exact am_callS_out (As := [.int x4]) (st := []) (am_dec tmX11_peak 8 rfl) ok_X11_need rfl lm_X11_94 st_X11_need (t_X11_need hE g5) rfl (by decide) (Nat.le_of_ble_eq_true rfl) (Nat.le_refl _) (Nat.le_refl _) rfl rfl
    · refine am_callS0 (As := [.int x4]) (st := []) (am_dec tmX11_peak 8 rfl) ok_X11_need rfl lm_X11_94 st_X11_need (c_X11_need hE g5) rfl (by decide) (Nat.le_of_ble_eq_true rfl) (Nat.zero_le _) (Nat.zero_le _) rfl ?_
      refine am_aload_n (am_dec tmX11_peak 9 rfl) rfl rfl ?_
      refine am_getR (j := 12) hE (am_dec tmX11_peak 10 rfl) sh_16 cf11 (by decide) rfl lf_X11_79 rf_16_12 ?_
      refine am_aload (am_dec tmX11_peak 11 rfl) rfl ?_
      refine am_iload_n (am_dec tmX11_peak 12 rfl) rfl rfl ?_
      refine am_iload_n (am_dec tmX11_peak 13 rfl) rfl rfl ?_
      obtain ⟨x8, g7, hf⟩ := am_bd hf
      refine am_callV0 (As := [.ref x2, .int p2, .int p3]) (st := []) hE (am_dec tmX11_peak 14 rfl) ok_X10_turnAll rfl lm_X11_404 in_X10_turnAll se_X10_turnAll sh_114 cf10 (c_X10_turnAll hE h_x2 g7) rfl (by decide) (Nat.le_of_ble_eq_true rfl) (Nat.zero_le _) (Nat.zero_le _) rfl ?_
      refine am_aload_n (am_dec tmX11_peak 15 rfl) rfl rfl ?_
      refine am_getR (j := 12) hE (am_dec tmX11_peak 16 rfl) sh_16 cf11 (by decide) rfl lf_X11_79 rf_16_12 ?_
      refine am_iload (am_dec tmX11_peak 17 rfl) rfl ?_
      obtain ⟨x10, g9, hf⟩ := am_bd hf
      refine am_callV1 (As := [.int p4]) (st := []) hE (am_dec tmX11_peak 18 rfl) ok_X10_rankedPeak rfl lm_X11_408 in_X10_rankedPeak se_X10_rankedPeak sh_114 cf10 (c_X10_rankedPeak hE g9) rfl (by decide) (Nat.le_of_ble_eq_true rfl) (Nat.zero_le _) (Nat.zero_le _) rfl ?_
      cases hf
def f_X11_lock (p1 : Int32) (p2 : Int32) (p3 : Int32) (p4 : Int32) (D : am_D) : Option ((String × am_D) ⊕ (Int32 × am_D)) :=
    am_btD (f_X11_soundOf p1 D) D fun x2 =>
    (f_X7_holds x2 p3 p4 D).bind fun x4 =>
    (if x4 = 0 then
    some ((0 : Int32))
    else
    (f_X11_isPitch p2).bind fun x8 =>
    if x8 = 0 then
    some ((0 : Int32))
    else
    some ((1 : Int32))).bind fun w10 =>
    am_btD (f_X11_need w10) D fun x12 =>
    (f_X10_turnAll x2 p3 p4 D).bind fun x14 =>
    (f_X10_nearestPeak p2 x14).bind fun x16 =>
    some (.inr (x16, x14))
set_option maxRecDepth 100000 in
set_option maxHeartbeats 4000000 in
theorem c_X11_lock {E : am_E} (hE : am_EH E) {p1 : Int32} {p2 : Int32} {p3 : Int32} {p4 : Int32} {D : am_D} {r : (Int32 × am_D)}  (hf : f_X11_lock p1 p2 p3 p4 D = some (.inr r)) : am_C E mX11_lock 4 0 0 [.ref 16, .int p1, .int p2, .int p3, .int p4] am_G0 D (.inl (some (.int r.1))) am_G0 r.2 := by
  refine am_C_of (by decide +kernel) (Nat.le_of_ble_eq_true rfl) ?_
  change am_S E mX11_lock 4 0 0 (.inl (some (.int r.1))) am_G0 r.2 0 0 0 [(0, .ref 16), (1, .int p1), (2, .int p2), (3, .int p3), (4, .int p4)] [] am_G0 D
  unfold f_X11_lock at hf
  refine am_aload_n (am_dec tmX11_lock 0 rfl) rfl rfl ?_
  refine am_iload_n (am_dec tmX11_lock 1 rfl) rfl rfl ?_
  obtain ⟨x2, g1, hf⟩ := am_btDR hf
  have h_x2 := k_X11_soundOf g1
  refine am_callV1 (As := [.int p1]) (st := []) hE (am_dec tmX11_lock 2 rfl) ok_X11_soundOf rfl lm_X11_130 in_X11_soundOf se_X11_soundOf sh_16 cf11 (c_X11_soundOf hE g1) rfl (by decide) (Nat.le_of_ble_eq_true rfl) (Nat.zero_le _) (Nat.zero_le _) rfl ?_
  refine am_astore (lv' := [(0, .ref 16), (1, .int p1), (2, .int p2), (3, .int p3), (4, .int p4), (5, .ref x2)]) (am_dec tmX11_lock 3 rfl) (by decide) rfl ?_
  refine am_aload (am_dec tmX11_lock 4 rfl) rfl ?_
  refine am_iload_n (am_dec tmX11_lock 5 rfl) rfl rfl ?_
  refine am_iload (am_dec tmX11_lock 6 rfl) rfl ?_
  obtain ⟨x4, g3, hf⟩ := am_bd hf
  refine am_callV1 (As := [.int p3, .int p4]) (st := []) hE (am_dec tmX11_lock 7 rfl) ok_X7_holds rfl lm_X11_274 in_X7_holds se_X7_holds h_x2 cf7 (c_X7_holds hE h_x2 g3) rfl (by decide) (Nat.le_of_ble_eq_true rfl) (Nat.zero_le _) (Nat.zero_le _) rfl ?_
  obtain ⟨w10, g17, hf⟩ := am_bd hf
  have key6 : am_S E mX11_lock 4 0 0 (.inl (some (.int r.1))) am_G0 r.2 0 0 30 [(0, .ref 16), (2, .int p2), (3, .int p3), (4, .int p4), (5, .ref x2)] [.int w10] am_G0 D := by
    obtain ⟨x12, g11, hf⟩ := am_btDR hf
    refine am_callS0 (As := [.int w10]) (st := []) (am_dec tmX11_lock 15 rfl) ok_X11_need rfl lm_X11_94 st_X11_need (c_X11_need hE g11) rfl (by decide) (Nat.le_of_ble_eq_true rfl) (Nat.zero_le _) (Nat.zero_le _) rfl ?_
    refine am_aload_n (am_dec tmX11_lock 16 rfl) rfl rfl ?_
    refine am_getR (j := 12) hE (am_dec tmX11_lock 17 rfl) sh_16 cf11 (by decide) rfl lf_X11_79 rf_16_12 ?_
    refine am_aload (am_dec tmX11_lock 18 rfl) rfl ?_
    refine am_iload_n (am_dec tmX11_lock 19 rfl) rfl rfl ?_
    refine am_iload (am_dec tmX11_lock 20 rfl) rfl ?_
    obtain ⟨x14, g13, hf⟩ := am_bd hf
    refine am_callV0 (As := [.ref x2, .int p3, .int p4]) (st := []) hE (am_dec tmX11_lock 21 rfl) ok_X10_turnAll rfl lm_X11_404 in_X10_turnAll se_X10_turnAll sh_114 cf10 (c_X10_turnAll hE h_x2 g13) rfl (by decide) (Nat.le_of_ble_eq_true rfl) (Nat.zero_le _) (Nat.zero_le _) rfl ?_
    refine am_aload_n (am_dec tmX11_lock 22 rfl) rfl rfl ?_
    refine am_getR (j := 12) hE (am_dec tmX11_lock 23 rfl) sh_16 cf11 (by decide) rfl lf_X11_79 rf_16_12 ?_
    refine am_iload_n (am_dec tmX11_lock 24 rfl) rfl rfl ?_
    obtain ⟨x16, g15, hf⟩ := am_bd hf
    refine am_callV1 (As := [.int p2]) (st := []) hE (am_dec tmX11_lock 25 rfl) ok_X10_nearestPeak rfl lm_X11_411 in_X10_nearestPeak se_X10_nearestPeak sh_114 cf10 (c_X10_nearestPeak hE g15) rfl (by decide) (Nat.le_of_ble_eq_true rfl) (Nat.zero_le _) (Nat.zero_le _) rfl ?_
    have hf := Sum.inr.inj (Option.some.inj hf)
    subst hf
    exact am_iret (am_dec tmX11_lock 26 rfl) rfl (Nat.zero_le _) (Nat.zero_le _)
  replace hf := g17
  refine am_if_eq (tgt := 29) (am_dec tmX11_lock 8 rfl) (by decide) (fun c5 => ?_) (fun c5 => ?_)
  · rw [if_pos c5] at hf
    refine am_iconst (v := (0 : Int32)) (am_dec tmX11_lock 14 rfl) (by decide) ?_
    have hf := Option.some.inj hf
    subst hf
    exact am_pick [0, 2, 3, 4, 5] rfl key6
  · rw [if_neg c5] at hf
    refine am_iload_n (am_dec tmX11_lock 9 rfl) rfl rfl ?_
    obtain ⟨x8, g7, hf⟩ := am_bd hf
    refine am_callS1 (As := [.int p2]) (st := []) (am_dec tmX11_lock 10 rfl) ok_X11_isPitch rfl lm_X11_282 st_X11_isPitch (c_X11_isPitch hE g7) rfl (by decide) (Nat.le_of_ble_eq_true rfl) (Nat.zero_le _) (Nat.zero_le _) rfl ?_
    refine am_if_eq (tgt := 29) (am_dec tmX11_lock 11 rfl) (by decide) (fun c9 => ?_) (fun c9 => ?_)
    · rw [if_pos c9] at hf
      refine am_iconst (v := (0 : Int32)) (am_dec tmX11_lock 14 rfl) (by decide) ?_
      have hf := Option.some.inj hf
      subst hf
      exact am_pick [0, 2, 3, 4, 5] rfl key6
    · rw [if_neg c9] at hf
      refine am_iconst (v := (1 : Int32)) (am_dec tmX11_lock 12 rfl) (by decide) ?_
      refine am_goto (tgt := 30) (am_dec tmX11_lock 13 rfl) (by decide) ?_
      have hf := Option.some.inj hf
      subst hf
      exact am_pick [0, 2, 3, 4, 5] rfl key6
set_option maxRecDepth 100000 in
set_option maxHeartbeats 4000000 in
theorem t_X11_lock {E : am_E} (hE : am_EH E) {p1 : Int32} {p2 : Int32} {p3 : Int32} {p4 : Int32} {D : am_D} {r : String × am_D}  (hf : f_X11_lock p1 p2 p3 p4 D = some (.inl r)) : am_C E mX11_lock 4 1 6 [.ref 16, .int p1, .int p2, .int p3, .int p4] am_G0 D (.inr r.1) am_G0 r.2 := by
  refine am_C_of (by decide +kernel) (Nat.le_of_ble_eq_true rfl) ?_
  change am_S E mX11_lock 4 1 6 (.inr r.1) am_G0 r.2 0 0 0 [(0, .ref 16), (1, .int p1), (2, .int p2), (3, .int p3), (4, .int p4)] [] am_G0 D
  unfold f_X11_lock at hf
  refine am_aload_n (am_dec tmX11_lock 0 rfl) rfl rfl ?_
  refine am_iload_n (am_dec tmX11_lock 1 rfl) rfl rfl ?_
  rcases am_btDT hf with ⟨g1, eD⟩ | ⟨x2, g1, hf⟩
  · rw [eD]
    exact am_callV_out (As := [.int p1]) (st := []) hE (am_dec tmX11_lock 2 rfl) ok_X11_soundOf rfl lm_X11_130 in_X11_soundOf se_X11_soundOf sh_16 cf11 (t_X11_soundOf hE g1) rfl (by decide) (Nat.le_of_ble_eq_true rfl) (Nat.le_refl _) (Nat.le_refl _) rfl rfl
  · have h_x2 := k_X11_soundOf g1
    refine am_callV1 (As := [.int p1]) (st := []) hE (am_dec tmX11_lock 2 rfl) ok_X11_soundOf rfl lm_X11_130 in_X11_soundOf se_X11_soundOf sh_16 cf11 (c_X11_soundOf hE g1) rfl (by decide) (Nat.le_of_ble_eq_true rfl) (Nat.zero_le _) (Nat.zero_le _) rfl ?_
    refine am_astore (lv' := [(0, .ref 16), (1, .int p1), (2, .int p2), (3, .int p3), (4, .int p4), (5, .ref x2)]) (am_dec tmX11_lock 3 rfl) (by decide) rfl ?_
    refine am_aload (am_dec tmX11_lock 4 rfl) rfl ?_
    refine am_iload_n (am_dec tmX11_lock 5 rfl) rfl rfl ?_
    refine am_iload (am_dec tmX11_lock 6 rfl) rfl ?_
    obtain ⟨x4, g3, hf⟩ := am_bd hf
    refine am_callV1 (As := [.int p3, .int p4]) (st := []) hE (am_dec tmX11_lock 7 rfl) ok_X7_holds rfl lm_X11_274 in_X7_holds se_X7_holds h_x2 cf7 (c_X7_holds hE h_x2 g3) rfl (by decide) (Nat.le_of_ble_eq_true rfl) (Nat.zero_le _) (Nat.zero_le _) rfl ?_
    obtain ⟨w10, g17, hf⟩ := am_bd hf
    have key6 : am_S E mX11_lock 4 1 6 (.inr r.1) am_G0 r.2 0 0 30 [(0, .ref 16), (2, .int p2), (3, .int p3), (4, .int p4), (5, .ref x2)] [.int w10] am_G0 D := by
      rcases am_btDT hf with ⟨g11, eD⟩ | ⟨x12, g11, hf⟩
      · rw [eD]
        exact am_callS_out (As := [.int w10]) (st := []) (am_dec tmX11_lock 15 rfl) ok_X11_need rfl lm_X11_94 st_X11_need (t_X11_need hE g11) rfl (by decide) (Nat.le_of_ble_eq_true rfl) (Nat.le_refl _) (Nat.le_refl _) rfl rfl
      · refine am_callS0 (As := [.int w10]) (st := []) (am_dec tmX11_lock 15 rfl) ok_X11_need rfl lm_X11_94 st_X11_need (c_X11_need hE g11) rfl (by decide) (Nat.le_of_ble_eq_true rfl) (Nat.zero_le _) (Nat.zero_le _) rfl ?_
        refine am_aload_n (am_dec tmX11_lock 16 rfl) rfl rfl ?_
        refine am_getR (j := 12) hE (am_dec tmX11_lock 17 rfl) sh_16 cf11 (by decide) rfl lf_X11_79 rf_16_12 ?_
        refine am_aload (am_dec tmX11_lock 18 rfl) rfl ?_
        refine am_iload_n (am_dec tmX11_lock 19 rfl) rfl rfl ?_
        refine am_iload (am_dec tmX11_lock 20 rfl) rfl ?_
        obtain ⟨x14, g13, hf⟩ := am_bd hf
        refine am_callV0 (As := [.ref x2, .int p3, .int p4]) (st := []) hE (am_dec tmX11_lock 21 rfl) ok_X10_turnAll rfl lm_X11_404 in_X10_turnAll se_X10_turnAll sh_114 cf10 (c_X10_turnAll hE h_x2 g13) rfl (by decide) (Nat.le_of_ble_eq_true rfl) (Nat.zero_le _) (Nat.zero_le _) rfl ?_
        refine am_aload_n (am_dec tmX11_lock 22 rfl) rfl rfl ?_
        refine am_getR (j := 12) hE (am_dec tmX11_lock 23 rfl) sh_16 cf11 (by decide) rfl lf_X11_79 rf_16_12 ?_
        refine am_iload_n (am_dec tmX11_lock 24 rfl) rfl rfl ?_
        obtain ⟨x16, g15, hf⟩ := am_bd hf
        refine am_callV1 (As := [.int p2]) (st := []) hE (am_dec tmX11_lock 25 rfl) ok_X10_nearestPeak rfl lm_X11_411 in_X10_nearestPeak se_X10_nearestPeak sh_114 cf10 (c_X10_nearestPeak hE g15) rfl (by decide) (Nat.le_of_ble_eq_true rfl) (Nat.zero_le _) (Nat.zero_le _) rfl ?_
        cases hf
    replace hf := g17
    refine am_if_eq (tgt := 29) (am_dec tmX11_lock 8 rfl) (by decide) (fun c5 => ?_) (fun c5 => ?_)
    · rw [if_pos c5] at hf
      refine am_iconst (v := (0 : Int32)) (am_dec tmX11_lock 14 rfl) (by decide) ?_
      have hf := Option.some.inj hf
      subst hf
      exact am_pick [0, 2, 3, 4, 5] rfl key6
    · rw [if_neg c5] at hf
      refine am_iload_n (am_dec tmX11_lock 9 rfl) rfl rfl ?_
      obtain ⟨x8, g7, hf⟩ := am_bd hf
      refine am_callS1 (As := [.int p2]) (st := []) (am_dec tmX11_lock 10 rfl) ok_X11_isPitch rfl lm_X11_282 st_X11_isPitch (c_X11_isPitch hE g7) rfl (by decide) (Nat.le_of_ble_eq_true rfl) (Nat.zero_le _) (Nat.zero_le _) rfl ?_
      refine am_if_eq (tgt := 29) (am_dec tmX11_lock 11 rfl) (by decide) (fun c9 => ?_) (fun c9 => ?_)
      · rw [if_pos c9] at hf
        refine am_iconst (v := (0 : Int32)) (am_dec tmX11_lock 14 rfl) (by decide) ?_
        have hf := Option.some.inj hf
        subst hf
        exact am_pick [0, 2, 3, 4, 5] rfl key6
      · rw [if_neg c9] at hf
        refine am_iconst (v := (1 : Int32)) (am_dec tmX11_lock 12 rfl) (by decide) ?_
        refine am_goto (tgt := 30) (am_dec tmX11_lock 13 rfl) (by decide) ?_
        have hf := Option.some.inj hf
        subst hf
        exact am_pick [0, 2, 3, 4, 5] rfl key6
def f_X11_steady (p1 : Int32) (D : am_D) : Option ((String × am_D) ⊕ (Int32 × am_D)) :=
    am_btD (f_X11_soundOf p1 D) D fun x2 =>
    am_bn (f_X1_freeMap D)
    (fun x4 =>
    (f_X2_find x2 D).bind fun x6 =>
    if (2 : Int32) ≤ (x6.1 112 1) then
    (f_X2_intoMap x4 x6).bind fun x9 =>
    (f_X9_addRest x4 (x9.1 x2 1) x9).bind fun x11 =>
    (f_X1_takeMap x11).bind fun x13 =>
    some (.inr (x13.1, x13.2))
    else
    some (.inr ((-2 : Int32), x6)))
    (some (.inr ((-1 : Int32), D)))
set_option maxRecDepth 100000 in
set_option maxHeartbeats 4000000 in
theorem c_X11_steady {E : am_E} (hE : am_EH E) {p1 : Int32} {D : am_D} {r : (Int32 × am_D)}  (hf : f_X11_steady p1 D = some (.inr r)) : am_C E mX11_steady 5 0 0 [.ref 16, .int p1] am_G0 D (.inl (some (.int r.1))) am_G0 r.2 := by
  refine am_C_of (by decide +kernel) (Nat.le_of_ble_eq_true rfl) ?_
  change am_S E mX11_steady 5 0 0 (.inl (some (.int r.1))) am_G0 r.2 0 0 0 [(0, .ref 16), (1, .int p1)] [] am_G0 D
  unfold f_X11_steady at hf
  refine am_aload_n (am_dec tmX11_steady 0 rfl) rfl rfl ?_
  refine am_iload_n (am_dec tmX11_steady 1 rfl) rfl rfl ?_
  obtain ⟨x2, g1, hf⟩ := am_btDR hf
  have h_x2 := k_X11_soundOf g1
  refine am_callV1 (As := [.int p1]) (st := []) hE (am_dec tmX11_steady 2 rfl) ok_X11_soundOf rfl lm_X11_130 in_X11_soundOf se_X11_soundOf sh_16 cf11 (c_X11_soundOf hE g1) rfl (by decide) (Nat.le_of_ble_eq_true rfl) (Nat.zero_le _) (Nat.zero_le _) rfl ?_
  refine am_astore_n (lv' := [(0, .ref 16), (1, .int p1), (2, .ref x2)]) (am_dec tmX11_steady 3 rfl) rfl (by decide) rfl ?_
  refine am_aload_n (am_dec tmX11_steady 4 rfl) rfl rfl ?_
  refine am_getR (j := 0) hE (am_dec tmX11_steady 5 rfl) sh_16 cf11 (by decide) rfl lf_X11_10 rf_16_0 ?_
  rcases am_bnd hf with ⟨x4, g3, hf⟩ | ⟨g3, hf⟩
  · have h_x4 := k_X1_freeMap g3
    refine am_callV1 (w := .ref x4) (As := []) (st := []) hE (am_dec tmX11_steady 6 rfl) ok_X1_freeMap rfl lm_X11_116 in_X1_freeMap se_X1_freeMap sh_17 cf1 (c_X1_freeMap hE  g3) rfl (by decide) (Nat.le_of_ble_eq_true rfl) (Nat.zero_le _) (Nat.zero_le _) rfl ?_
    refine am_astore_n (lv' := [(0, .ref 16), (1, .int p1), (2, .ref x2), (3, .ref x4)]) (am_dec tmX11_steady 7 rfl) rfl (by decide) rfl ?_
    refine am_aload_n (am_dec tmX11_steady 8 rfl) rfl rfl ?_
    refine am_ifnonnull (tgt := 20) (am_dec tmX11_steady 9 rfl) (by decide) ?_
    refine am_aload_n (am_dec tmX11_steady 12 rfl) rfl rfl ?_
    refine am_getR (j := 11) hE (am_dec tmX11_steady 13 rfl) sh_16 cf11 (by decide) rfl lf_X11_72 rf_16_11 ?_
    refine am_aload_n (am_dec tmX11_steady 14 rfl) rfl rfl ?_
    obtain ⟨x6, g5, hf⟩ := am_bd hf
    refine am_callV0 (As := [.ref x2]) (st := []) hE (am_dec tmX11_steady 15 rfl) ok_X2_find rfl lm_X11_312 in_X2_find se_X2_find sh_112 cf2 (c_X2_find hE h_x2 g5) rfl (by decide) (Nat.le_of_ble_eq_true rfl) (Nat.zero_le _) (Nat.zero_le _) rfl ?_
    refine am_aload_n (am_dec tmX11_steady 16 rfl) rfl rfl ?_
    refine am_getR (j := 11) hE (am_dec tmX11_steady 17 rfl) sh_16 cf11 (by decide) rfl lf_X11_72 rf_16_11 ?_
    refine am_getI (j := 1) hE (am_dec tmX11_steady 18 rfl) sh_112 cf2 (by decide) rfl lf_X11_414 ?_
    refine am_iconst (v := (2 : Int32)) (am_dec tmX11_steady 19 rfl) (by decide) ?_
    refine am_icmp_ge (tgt := 42) (am_dec tmX11_steady 20 rfl) (by decide) (fun c7 => ?_) (fun c7 => ?_)
    · rw [if_pos c7] at hf
      refine am_aload_n (am_dec tmX11_steady 23 rfl) rfl rfl ?_
      refine am_getR (j := 11) hE (am_dec tmX11_steady 24 rfl) sh_16 cf11 (by decide) rfl lf_X11_72 rf_16_11 ?_
      refine am_aload_n (am_dec tmX11_steady 25 rfl) rfl rfl ?_
      obtain ⟨x9, g8, hf⟩ := am_bd hf
      refine am_callV0 (As := [.ref x4]) (st := []) hE (am_dec tmX11_steady 26 rfl) ok_X2_intoMap rfl lm_X11_415 in_X2_intoMap se_X2_intoMap sh_112 cf2 (c_X2_intoMap hE h_x4 g8) rfl (by decide) (Nat.le_of_ble_eq_true rfl) (Nat.zero_le _) (Nat.zero_le _) rfl ?_
      refine am_aload_n (am_dec tmX11_steady 27 rfl) rfl rfl ?_
      refine am_aload_n (am_dec tmX11_steady 28 rfl) rfl rfl ?_
      refine am_getI (j := 1) hE (am_dec tmX11_steady 29 rfl) h_x2 cf7 (by decide) rfl lf_X11_134 ?_
      obtain ⟨x11, g10, hf⟩ := am_bd hf
      refine am_callV0 (As := [.int (x9.1 x2 1)]) (st := []) hE (am_dec tmX11_steady 30 rfl) ok_X9_addRest rfl lm_X11_370 in_X9_addRest se_X9_addRest h_x4 cf9 (c_X9_addRest hE h_x4 g10) rfl (by decide) (Nat.le_of_ble_eq_true rfl) (Nat.zero_le _) (Nat.zero_le _) rfl ?_
      refine am_aload_n (am_dec tmX11_steady 31 rfl) rfl rfl ?_
      refine am_getR (j := 0) hE (am_dec tmX11_steady 32 rfl) sh_16 cf11 (by decide) rfl lf_X11_10 rf_16_0 ?_
      obtain ⟨x13, g12, hf⟩ := am_bd hf
      refine am_callV1 (As := []) (st := []) hE (am_dec tmX11_steady 33 rfl) ok_X1_takeMap rfl lm_X11_124 in_X1_takeMap se_X1_takeMap sh_17 cf1 (c_X1_takeMap hE g12) rfl (by decide) (Nat.le_of_ble_eq_true rfl) (Nat.zero_le _) (Nat.zero_le _) rfl ?_
      have hf := Sum.inr.inj (Option.some.inj hf)
      subst hf
      exact am_iret (am_dec tmX11_steady 34 rfl) rfl (Nat.zero_le _) (Nat.zero_le _)
    · rw [if_neg c7] at hf
      refine am_bipush (v := (-2 : Int32)) (am_dec tmX11_steady 21 rfl) (by decide) ?_
      have hf := Sum.inr.inj (Option.some.inj hf)
      subst hf
      exact am_iret (am_dec tmX11_steady 22 rfl) rfl (Nat.zero_le _) (Nat.zero_le _)
  · refine am_callV1 (w := .null) (As := []) (st := []) hE (am_dec tmX11_steady 6 rfl) ok_X1_freeMap rfl lm_X11_116 in_X1_freeMap se_X1_freeMap sh_17 cf1 (c_X1_freeMap hE  g3) rfl (by decide) (Nat.le_of_ble_eq_true rfl) (Nat.zero_le _) (Nat.zero_le _) rfl ?_
    refine am_astore_nN (lv' := [(0, .ref 16), (1, .int p1), (2, .ref x2), (3, .null)]) (am_dec tmX11_steady 7 rfl) rfl (by decide) rfl ?_
    refine am_aload_nN (am_dec tmX11_steady 8 rfl) rfl rfl ?_
    refine am_ifnonnullN (am_dec tmX11_steady 9 rfl) ?_
    refine am_iconst (v := (-1 : Int32)) (am_dec tmX11_steady 10 rfl) (by decide) ?_
    have hf := Sum.inr.inj (Option.some.inj hf)
    subst hf
    exact am_iret (am_dec tmX11_steady 11 rfl) rfl (Nat.zero_le _) (Nat.zero_le _)
set_option maxRecDepth 100000 in
set_option maxHeartbeats 4000000 in
theorem t_X11_steady {E : am_E} (hE : am_EH E) {p1 : Int32} {D : am_D} {r : String × am_D}  (hf : f_X11_steady p1 D = some (.inl r)) : am_C E mX11_steady 5 1 6 [.ref 16, .int p1] am_G0 D (.inr r.1) am_G0 r.2 := by
  refine am_C_of (by decide +kernel) (Nat.le_of_ble_eq_true rfl) ?_
  change am_S E mX11_steady 5 1 6 (.inr r.1) am_G0 r.2 0 0 0 [(0, .ref 16), (1, .int p1)] [] am_G0 D
  unfold f_X11_steady at hf
  refine am_aload_n (am_dec tmX11_steady 0 rfl) rfl rfl ?_
  refine am_iload_n (am_dec tmX11_steady 1 rfl) rfl rfl ?_
  rcases am_btDT hf with ⟨g1, eD⟩ | ⟨x2, g1, hf⟩
  · rw [eD]
    exact am_callV_out (As := [.int p1]) (st := []) hE (am_dec tmX11_steady 2 rfl) ok_X11_soundOf rfl lm_X11_130 in_X11_soundOf se_X11_soundOf sh_16 cf11 (t_X11_soundOf hE g1) rfl (by decide) (Nat.le_of_ble_eq_true rfl) (Nat.le_refl _) (Nat.le_refl _) rfl rfl
  · have h_x2 := k_X11_soundOf g1
    refine am_callV1 (As := [.int p1]) (st := []) hE (am_dec tmX11_steady 2 rfl) ok_X11_soundOf rfl lm_X11_130 in_X11_soundOf se_X11_soundOf sh_16 cf11 (c_X11_soundOf hE g1) rfl (by decide) (Nat.le_of_ble_eq_true rfl) (Nat.zero_le _) (Nat.zero_le _) rfl ?_
    refine am_astore_n (lv' := [(0, .ref 16), (1, .int p1), (2, .ref x2)]) (am_dec tmX11_steady 3 rfl) rfl (by decide) rfl ?_
    refine am_aload_n (am_dec tmX11_steady 4 rfl) rfl rfl ?_
    refine am_getR (j := 0) hE (am_dec tmX11_steady 5 rfl) sh_16 cf11 (by decide) rfl lf_X11_10 rf_16_0 ?_
    rcases am_bnd hf with ⟨x4, g3, hf⟩ | ⟨g3, hf⟩
    · have h_x4 := k_X1_freeMap g3
      refine am_callV1 (w := .ref x4) (As := []) (st := []) hE (am_dec tmX11_steady 6 rfl) ok_X1_freeMap rfl lm_X11_116 in_X1_freeMap se_X1_freeMap sh_17 cf1 (c_X1_freeMap hE  g3) rfl (by decide) (Nat.le_of_ble_eq_true rfl) (Nat.zero_le _) (Nat.zero_le _) rfl ?_
      refine am_astore_n (lv' := [(0, .ref 16), (1, .int p1), (2, .ref x2), (3, .ref x4)]) (am_dec tmX11_steady 7 rfl) rfl (by decide) rfl ?_
      refine am_aload_n (am_dec tmX11_steady 8 rfl) rfl rfl ?_
      refine am_ifnonnull (tgt := 20) (am_dec tmX11_steady 9 rfl) (by decide) ?_
      refine am_aload_n (am_dec tmX11_steady 12 rfl) rfl rfl ?_
      refine am_getR (j := 11) hE (am_dec tmX11_steady 13 rfl) sh_16 cf11 (by decide) rfl lf_X11_72 rf_16_11 ?_
      refine am_aload_n (am_dec tmX11_steady 14 rfl) rfl rfl ?_
      obtain ⟨x6, g5, hf⟩ := am_bd hf
      refine am_callV0 (As := [.ref x2]) (st := []) hE (am_dec tmX11_steady 15 rfl) ok_X2_find rfl lm_X11_312 in_X2_find se_X2_find sh_112 cf2 (c_X2_find hE h_x2 g5) rfl (by decide) (Nat.le_of_ble_eq_true rfl) (Nat.zero_le _) (Nat.zero_le _) rfl ?_
      refine am_aload_n (am_dec tmX11_steady 16 rfl) rfl rfl ?_
      refine am_getR (j := 11) hE (am_dec tmX11_steady 17 rfl) sh_16 cf11 (by decide) rfl lf_X11_72 rf_16_11 ?_
      refine am_getI (j := 1) hE (am_dec tmX11_steady 18 rfl) sh_112 cf2 (by decide) rfl lf_X11_414 ?_
      refine am_iconst (v := (2 : Int32)) (am_dec tmX11_steady 19 rfl) (by decide) ?_
      refine am_icmp_ge (tgt := 42) (am_dec tmX11_steady 20 rfl) (by decide) (fun c7 => ?_) (fun c7 => ?_)
      · rw [if_pos c7] at hf
        refine am_aload_n (am_dec tmX11_steady 23 rfl) rfl rfl ?_
        refine am_getR (j := 11) hE (am_dec tmX11_steady 24 rfl) sh_16 cf11 (by decide) rfl lf_X11_72 rf_16_11 ?_
        refine am_aload_n (am_dec tmX11_steady 25 rfl) rfl rfl ?_
        obtain ⟨x9, g8, hf⟩ := am_bd hf
        refine am_callV0 (As := [.ref x4]) (st := []) hE (am_dec tmX11_steady 26 rfl) ok_X2_intoMap rfl lm_X11_415 in_X2_intoMap se_X2_intoMap sh_112 cf2 (c_X2_intoMap hE h_x4 g8) rfl (by decide) (Nat.le_of_ble_eq_true rfl) (Nat.zero_le _) (Nat.zero_le _) rfl ?_
        refine am_aload_n (am_dec tmX11_steady 27 rfl) rfl rfl ?_
        refine am_aload_n (am_dec tmX11_steady 28 rfl) rfl rfl ?_
        refine am_getI (j := 1) hE (am_dec tmX11_steady 29 rfl) h_x2 cf7 (by decide) rfl lf_X11_134 ?_
        obtain ⟨x11, g10, hf⟩ := am_bd hf
        refine am_callV0 (As := [.int (x9.1 x2 1)]) (st := []) hE (am_dec tmX11_steady 30 rfl) ok_X9_addRest rfl lm_X11_370 in_X9_addRest se_X9_addRest h_x4 cf9 (c_X9_addRest hE h_x4 g10) rfl (by decide) (Nat.le_of_ble_eq_true rfl) (Nat.zero_le _) (Nat.zero_le _) rfl ?_
        refine am_aload_n (am_dec tmX11_steady 31 rfl) rfl rfl ?_
        refine am_getR (j := 0) hE (am_dec tmX11_steady 32 rfl) sh_16 cf11 (by decide) rfl lf_X11_10 rf_16_0 ?_
        obtain ⟨x13, g12, hf⟩ := am_bd hf
        refine am_callV1 (As := []) (st := []) hE (am_dec tmX11_steady 33 rfl) ok_X1_takeMap rfl lm_X11_124 in_X1_takeMap se_X1_takeMap sh_17 cf1 (c_X1_takeMap hE g12) rfl (by decide) (Nat.le_of_ble_eq_true rfl) (Nat.zero_le _) (Nat.zero_le _) rfl ?_
        cases hf
      · rw [if_neg c7] at hf
        refine am_bipush (v := (-2 : Int32)) (am_dec tmX11_steady 21 rfl) (by decide) ?_
        cases hf
    · refine am_callV1 (w := .null) (As := []) (st := []) hE (am_dec tmX11_steady 6 rfl) ok_X1_freeMap rfl lm_X11_116 in_X1_freeMap se_X1_freeMap sh_17 cf1 (c_X1_freeMap hE  g3) rfl (by decide) (Nat.le_of_ble_eq_true rfl) (Nat.zero_le _) (Nat.zero_le _) rfl ?_
      refine am_astore_nN (lv' := [(0, .ref 16), (1, .int p1), (2, .ref x2), (3, .null)]) (am_dec tmX11_steady 7 rfl) rfl (by decide) rfl ?_
      refine am_aload_nN (am_dec tmX11_steady 8 rfl) rfl rfl ?_
      refine am_ifnonnullN (am_dec tmX11_steady 9 rfl) ?_
      refine am_iconst (v := (-1 : Int32)) (am_dec tmX11_steady 10 rfl) (by decide) ?_
      cases hf
def f_X11_film (p1 : Int32) (p2 : Int32) (p3 : Int32) (D : am_D) : Option ((String × am_D) ⊕ (Int32 × am_D)) :=
    am_btD (f_X11_soundOf p1 D) D fun x2 =>
    (f_X11_within p2 (1 : Int32) (1200 : Int32)).bind fun x4 =>
    (if x4 = 0 then
    some ((0 : Int32))
    else
    (f_X11_within p3 (1 : Int32) (99 : Int32)).bind fun x8 =>
    if x8 = 0 then
    some ((0 : Int32))
    else
    some ((1 : Int32))).bind fun w10 =>
    am_btD (f_X11_need w10) D fun x12 =>
    am_bn (f_X1_freeMap D)
    (fun x14 =>
    if (p2 * p3) ≤ (1200 : Int32) then
    (f_X9_clear x14 D).bind fun x17 =>
    (f_X9_add x14 (x17.1 x2 1) (p2 * p3) x17).bind fun x19 =>
    (f_X1_takeMap x19).bind fun x21 =>
    some (.inr (x21.1, x21.2))
    else
    some (.inr ((-2 : Int32), D)))
    (some (.inr ((-1 : Int32), D)))
set_option maxRecDepth 100000 in
set_option maxHeartbeats 4000000 in
theorem c_X11_film {E : am_E} (hE : am_EH E) {p1 : Int32} {p2 : Int32} {p3 : Int32} {D : am_D} {r : (Int32 × am_D)}  (hf : f_X11_film p1 p2 p3 D = some (.inr r)) : am_C E mX11_film 2 0 0 [.ref 16, .int p1, .int p2, .int p3] am_G0 D (.inl (some (.int r.1))) am_G0 r.2 := by
  refine am_C_of (by decide +kernel) (Nat.le_of_ble_eq_true rfl) ?_
  change am_S E mX11_film 2 0 0 (.inl (some (.int r.1))) am_G0 r.2 0 0 0 [(0, .ref 16), (1, .int p1), (2, .int p2), (3, .int p3)] [] am_G0 D
  unfold f_X11_film at hf
  refine am_aload_n (am_dec tmX11_film 0 rfl) rfl rfl ?_
  refine am_iload_n (am_dec tmX11_film 1 rfl) rfl rfl ?_
  obtain ⟨x2, g1, hf⟩ := am_btDR hf
  have h_x2 := k_X11_soundOf g1
  refine am_callV1 (As := [.int p1]) (st := []) hE (am_dec tmX11_film 2 rfl) ok_X11_soundOf rfl lm_X11_130 in_X11_soundOf se_X11_soundOf sh_16 cf11 (c_X11_soundOf hE g1) rfl (by decide) (Nat.le_of_ble_eq_true rfl) (Nat.zero_le _) (Nat.zero_le _) rfl ?_
  refine am_astore (lv' := [(0, .ref 16), (1, .int p1), (2, .int p2), (3, .int p3), (4, .ref x2)]) (am_dec tmX11_film 3 rfl) (by decide) rfl ?_
  refine am_iload_n (am_dec tmX11_film 4 rfl) rfl rfl ?_
  refine am_iconst (v := (1 : Int32)) (am_dec tmX11_film 5 rfl) (by decide) ?_
  refine am_sipush (v := (1200 : Int32)) (am_dec tmX11_film 6 rfl) (by decide) ?_
  obtain ⟨x4, g3, hf⟩ := am_bd hf
  refine am_callS1 (As := [.int p2, .int (1 : Int32), .int (1200 : Int32)]) (st := []) (am_dec tmX11_film 7 rfl) ok_X11_within rfl lm_X11_143 st_X11_within (c_X11_within hE g3) rfl (by decide) (Nat.le_of_ble_eq_true rfl) (Nat.zero_le _) (Nat.zero_le _) rfl ?_
  obtain ⟨w10, g22, hf⟩ := am_bd hf
  have key6 : am_S E mX11_film 2 0 0 (.inl (some (.int r.1))) am_G0 r.2 0 0 33 [(0, .ref 16), (2, .int p2), (3, .int p3), (4, .ref x2)] [.int w10] am_G0 D := by
    obtain ⟨x12, g11, hf⟩ := am_btDR hf
    refine am_callS0 (As := [.int w10]) (st := []) (am_dec tmX11_film 17 rfl) ok_X11_need rfl lm_X11_94 st_X11_need (c_X11_need hE g11) rfl (by decide) (Nat.le_of_ble_eq_true rfl) (Nat.zero_le _) (Nat.zero_le _) rfl ?_
    refine am_aload_n (am_dec tmX11_film 18 rfl) rfl rfl ?_
    refine am_getR (j := 0) hE (am_dec tmX11_film 19 rfl) sh_16 cf11 (by decide) rfl lf_X11_10 rf_16_0 ?_
    rcases am_bnd hf with ⟨x14, g13, hf⟩ | ⟨g13, hf⟩
    · have h_x14 := k_X1_freeMap g13
      refine am_callV1 (w := .ref x14) (As := []) (st := []) hE (am_dec tmX11_film 20 rfl) ok_X1_freeMap rfl lm_X11_116 in_X1_freeMap se_X1_freeMap sh_17 cf1 (c_X1_freeMap hE  g13) rfl (by decide) (Nat.le_of_ble_eq_true rfl) (Nat.zero_le _) (Nat.zero_le _) rfl ?_
      refine am_astore (lv' := [(0, .ref 16), (2, .int p2), (3, .int p3), (4, .ref x2), (5, .ref x14)]) (am_dec tmX11_film 21 rfl) (by decide) rfl ?_
      refine am_aload (am_dec tmX11_film 22 rfl) rfl ?_
      refine am_ifnonnull (tgt := 52) (am_dec tmX11_film 23 rfl) (by decide) ?_
      refine am_iload_n (am_dec tmX11_film 26 rfl) rfl rfl ?_
      refine am_iload_n (am_dec tmX11_film 27 rfl) rfl rfl ?_
      refine am_imul (am_dec tmX11_film 28 rfl) ?_
      refine am_sipush (v := (1200 : Int32)) (am_dec tmX11_film 29 rfl) (by decide) ?_
      refine am_icmp_le (tgt := 64) (am_dec tmX11_film 30 rfl) (by decide) (fun c15 => ?_) (fun c15 => ?_)
      · rw [if_pos c15] at hf
        refine am_aload (am_dec tmX11_film 33 rfl) rfl ?_
        obtain ⟨x17, g16, hf⟩ := am_bd hf
        refine am_callV0 (As := []) (st := []) hE (am_dec tmX11_film 34 rfl) ok_X9_clear rfl lm_X11_333 in_X9_clear se_X9_clear h_x14 cf9 (c_X9_clear hE h_x14 g16) rfl (by decide) (Nat.le_of_ble_eq_true rfl) (Nat.zero_le _) (Nat.zero_le _) rfl ?_
        refine am_aload (am_dec tmX11_film 35 rfl) rfl ?_
        refine am_aload (am_dec tmX11_film 36 rfl) rfl ?_
        refine am_getI (j := 1) hE (am_dec tmX11_film 37 rfl) h_x2 cf7 (by decide) rfl lf_X11_134 ?_
        refine am_iload_n (am_dec tmX11_film 38 rfl) rfl rfl ?_
        refine am_iload_n (am_dec tmX11_film 39 rfl) rfl rfl ?_
        refine am_imul (am_dec tmX11_film 40 rfl) ?_
        obtain ⟨x19, g18, hf⟩ := am_bd hf
        refine am_callV0 (As := [.int (x17.1 x2 1), .int (p2 * p3)]) (st := []) hE (am_dec tmX11_film 41 rfl) ok_X9_add rfl lm_X11_343 in_X9_add se_X9_add h_x14 cf9 (c_X9_add hE h_x14 g18) rfl (by decide) (Nat.le_of_ble_eq_true rfl) (Nat.zero_le _) (Nat.zero_le _) rfl ?_
        refine am_aload_n (am_dec tmX11_film 42 rfl) rfl rfl ?_
        refine am_getR (j := 0) hE (am_dec tmX11_film 43 rfl) sh_16 cf11 (by decide) rfl lf_X11_10 rf_16_0 ?_
        obtain ⟨x21, g20, hf⟩ := am_bd hf
        refine am_callV1 (As := []) (st := []) hE (am_dec tmX11_film 44 rfl) ok_X1_takeMap rfl lm_X11_124 in_X1_takeMap se_X1_takeMap sh_17 cf1 (c_X1_takeMap hE g20) rfl (by decide) (Nat.le_of_ble_eq_true rfl) (Nat.zero_le _) (Nat.zero_le _) rfl ?_
        have hf := Sum.inr.inj (Option.some.inj hf)
        subst hf
        exact am_iret (am_dec tmX11_film 45 rfl) rfl (Nat.zero_le _) (Nat.zero_le _)
      · rw [if_neg c15] at hf
        refine am_bipush (v := (-2 : Int32)) (am_dec tmX11_film 31 rfl) (by decide) ?_
        have hf := Sum.inr.inj (Option.some.inj hf)
        subst hf
        exact am_iret (am_dec tmX11_film 32 rfl) rfl (Nat.zero_le _) (Nat.zero_le _)
    · refine am_callV1 (w := .null) (As := []) (st := []) hE (am_dec tmX11_film 20 rfl) ok_X1_freeMap rfl lm_X11_116 in_X1_freeMap se_X1_freeMap sh_17 cf1 (c_X1_freeMap hE  g13) rfl (by decide) (Nat.le_of_ble_eq_true rfl) (Nat.zero_le _) (Nat.zero_le _) rfl ?_
      refine am_astoreN (lv' := [(0, .ref 16), (2, .int p2), (3, .int p3), (4, .ref x2), (5, .null)]) (am_dec tmX11_film 21 rfl) (by decide) rfl ?_
      refine am_aloadN (am_dec tmX11_film 22 rfl) rfl ?_
      refine am_ifnonnullN (am_dec tmX11_film 23 rfl) ?_
      refine am_iconst (v := (-1 : Int32)) (am_dec tmX11_film 24 rfl) (by decide) ?_
      have hf := Sum.inr.inj (Option.some.inj hf)
      subst hf
      exact am_iret (am_dec tmX11_film 25 rfl) rfl (Nat.zero_le _) (Nat.zero_le _)
  replace hf := g22
  refine am_if_eq (tgt := 32) (am_dec tmX11_film 8 rfl) (by decide) (fun c5 => ?_) (fun c5 => ?_)
  · rw [if_pos c5] at hf
    refine am_iconst (v := (0 : Int32)) (am_dec tmX11_film 16 rfl) (by decide) ?_
    have hf := Option.some.inj hf
    subst hf
    exact am_pick [0, 2, 3, 4] rfl key6
  · rw [if_neg c5] at hf
    refine am_iload_n (am_dec tmX11_film 9 rfl) rfl rfl ?_
    refine am_iconst (v := (1 : Int32)) (am_dec tmX11_film 10 rfl) (by decide) ?_
    refine am_bipush (v := (99 : Int32)) (am_dec tmX11_film 11 rfl) (by decide) ?_
    obtain ⟨x8, g7, hf⟩ := am_bd hf
    refine am_callS1 (As := [.int p3, .int (1 : Int32), .int (99 : Int32)]) (st := []) (am_dec tmX11_film 12 rfl) ok_X11_within rfl lm_X11_143 st_X11_within (c_X11_within hE g7) rfl (by decide) (Nat.le_of_ble_eq_true rfl) (Nat.zero_le _) (Nat.zero_le _) rfl ?_
    refine am_if_eq (tgt := 32) (am_dec tmX11_film 13 rfl) (by decide) (fun c9 => ?_) (fun c9 => ?_)
    · rw [if_pos c9] at hf
      refine am_iconst (v := (0 : Int32)) (am_dec tmX11_film 16 rfl) (by decide) ?_
      have hf := Option.some.inj hf
      subst hf
      exact am_pick [0, 2, 3, 4] rfl key6
    · rw [if_neg c9] at hf
      refine am_iconst (v := (1 : Int32)) (am_dec tmX11_film 14 rfl) (by decide) ?_
      refine am_goto (tgt := 33) (am_dec tmX11_film 15 rfl) (by decide) ?_
      have hf := Option.some.inj hf
      subst hf
      exact am_pick [0, 2, 3, 4] rfl key6
set_option maxRecDepth 100000 in
set_option maxHeartbeats 4000000 in
theorem t_X11_film {E : am_E} (hE : am_EH E) {p1 : Int32} {p2 : Int32} {p3 : Int32} {D : am_D} {r : String × am_D}  (hf : f_X11_film p1 p2 p3 D = some (.inl r)) : am_C E mX11_film 2 1 6 [.ref 16, .int p1, .int p2, .int p3] am_G0 D (.inr r.1) am_G0 r.2 := by
  refine am_C_of (by decide +kernel) (Nat.le_of_ble_eq_true rfl) ?_
  change am_S E mX11_film 2 1 6 (.inr r.1) am_G0 r.2 0 0 0 [(0, .ref 16), (1, .int p1), (2, .int p2), (3, .int p3)] [] am_G0 D
  unfold f_X11_film at hf
  refine am_aload_n (am_dec tmX11_film 0 rfl) rfl rfl ?_
  refine am_iload_n (am_dec tmX11_film 1 rfl) rfl rfl ?_
  rcases am_btDT hf with ⟨g1, eD⟩ | ⟨x2, g1, hf⟩
  · rw [eD]
    exact am_callV_out (As := [.int p1]) (st := []) hE (am_dec tmX11_film 2 rfl) ok_X11_soundOf rfl lm_X11_130 in_X11_soundOf se_X11_soundOf sh_16 cf11 (t_X11_soundOf hE g1) rfl (by decide) (Nat.le_of_ble_eq_true rfl) (Nat.le_refl _) (Nat.le_refl _) rfl rfl
  · have h_x2 := k_X11_soundOf g1
    refine am_callV1 (As := [.int p1]) (st := []) hE (am_dec tmX11_film 2 rfl) ok_X11_soundOf rfl lm_X11_130 in_X11_soundOf se_X11_soundOf sh_16 cf11 (c_X11_soundOf hE g1) rfl (by decide) (Nat.le_of_ble_eq_true rfl) (Nat.zero_le _) (Nat.zero_le _) rfl ?_
    refine am_astore (lv' := [(0, .ref 16), (1, .int p1), (2, .int p2), (3, .int p3), (4, .ref x2)]) (am_dec tmX11_film 3 rfl) (by decide) rfl ?_
    refine am_iload_n (am_dec tmX11_film 4 rfl) rfl rfl ?_
    refine am_iconst (v := (1 : Int32)) (am_dec tmX11_film 5 rfl) (by decide) ?_
    refine am_sipush (v := (1200 : Int32)) (am_dec tmX11_film 6 rfl) (by decide) ?_
    obtain ⟨x4, g3, hf⟩ := am_bd hf
    refine am_callS1 (As := [.int p2, .int (1 : Int32), .int (1200 : Int32)]) (st := []) (am_dec tmX11_film 7 rfl) ok_X11_within rfl lm_X11_143 st_X11_within (c_X11_within hE g3) rfl (by decide) (Nat.le_of_ble_eq_true rfl) (Nat.zero_le _) (Nat.zero_le _) rfl ?_
    obtain ⟨w10, g22, hf⟩ := am_bd hf
    have key6 : am_S E mX11_film 2 1 6 (.inr r.1) am_G0 r.2 0 0 33 [(0, .ref 16), (2, .int p2), (3, .int p3), (4, .ref x2)] [.int w10] am_G0 D := by
      rcases am_btDT hf with ⟨g11, eD⟩ | ⟨x12, g11, hf⟩
      · rw [eD]
        exact am_callS_out (As := [.int w10]) (st := []) (am_dec tmX11_film 17 rfl) ok_X11_need rfl lm_X11_94 st_X11_need (t_X11_need hE g11) rfl (by decide) (Nat.le_of_ble_eq_true rfl) (Nat.le_refl _) (Nat.le_refl _) rfl rfl
      · refine am_callS0 (As := [.int w10]) (st := []) (am_dec tmX11_film 17 rfl) ok_X11_need rfl lm_X11_94 st_X11_need (c_X11_need hE g11) rfl (by decide) (Nat.le_of_ble_eq_true rfl) (Nat.zero_le _) (Nat.zero_le _) rfl ?_
        refine am_aload_n (am_dec tmX11_film 18 rfl) rfl rfl ?_
        refine am_getR (j := 0) hE (am_dec tmX11_film 19 rfl) sh_16 cf11 (by decide) rfl lf_X11_10 rf_16_0 ?_
        rcases am_bnd hf with ⟨x14, g13, hf⟩ | ⟨g13, hf⟩
        · have h_x14 := k_X1_freeMap g13
          refine am_callV1 (w := .ref x14) (As := []) (st := []) hE (am_dec tmX11_film 20 rfl) ok_X1_freeMap rfl lm_X11_116 in_X1_freeMap se_X1_freeMap sh_17 cf1 (c_X1_freeMap hE  g13) rfl (by decide) (Nat.le_of_ble_eq_true rfl) (Nat.zero_le _) (Nat.zero_le _) rfl ?_
          refine am_astore (lv' := [(0, .ref 16), (2, .int p2), (3, .int p3), (4, .ref x2), (5, .ref x14)]) (am_dec tmX11_film 21 rfl) (by decide) rfl ?_
          refine am_aload (am_dec tmX11_film 22 rfl) rfl ?_
          refine am_ifnonnull (tgt := 52) (am_dec tmX11_film 23 rfl) (by decide) ?_
          refine am_iload_n (am_dec tmX11_film 26 rfl) rfl rfl ?_
          refine am_iload_n (am_dec tmX11_film 27 rfl) rfl rfl ?_
          refine am_imul (am_dec tmX11_film 28 rfl) ?_
          refine am_sipush (v := (1200 : Int32)) (am_dec tmX11_film 29 rfl) (by decide) ?_
          refine am_icmp_le (tgt := 64) (am_dec tmX11_film 30 rfl) (by decide) (fun c15 => ?_) (fun c15 => ?_)
          · rw [if_pos c15] at hf
            refine am_aload (am_dec tmX11_film 33 rfl) rfl ?_
            obtain ⟨x17, g16, hf⟩ := am_bd hf
            refine am_callV0 (As := []) (st := []) hE (am_dec tmX11_film 34 rfl) ok_X9_clear rfl lm_X11_333 in_X9_clear se_X9_clear h_x14 cf9 (c_X9_clear hE h_x14 g16) rfl (by decide) (Nat.le_of_ble_eq_true rfl) (Nat.zero_le _) (Nat.zero_le _) rfl ?_
            refine am_aload (am_dec tmX11_film 35 rfl) rfl ?_
            refine am_aload (am_dec tmX11_film 36 rfl) rfl ?_
            refine am_getI (j := 1) hE (am_dec tmX11_film 37 rfl) h_x2 cf7 (by decide) rfl lf_X11_134 ?_
            refine am_iload_n (am_dec tmX11_film 38 rfl) rfl rfl ?_
            refine am_iload_n (am_dec tmX11_film 39 rfl) rfl rfl ?_
            refine am_imul (am_dec tmX11_film 40 rfl) ?_
            obtain ⟨x19, g18, hf⟩ := am_bd hf
            refine am_callV0 (As := [.int (x17.1 x2 1), .int (p2 * p3)]) (st := []) hE (am_dec tmX11_film 41 rfl) ok_X9_add rfl lm_X11_343 in_X9_add se_X9_add h_x14 cf9 (c_X9_add hE h_x14 g18) rfl (by decide) (Nat.le_of_ble_eq_true rfl) (Nat.zero_le _) (Nat.zero_le _) rfl ?_
            refine am_aload_n (am_dec tmX11_film 42 rfl) rfl rfl ?_
            refine am_getR (j := 0) hE (am_dec tmX11_film 43 rfl) sh_16 cf11 (by decide) rfl lf_X11_10 rf_16_0 ?_
            obtain ⟨x21, g20, hf⟩ := am_bd hf
            refine am_callV1 (As := []) (st := []) hE (am_dec tmX11_film 44 rfl) ok_X1_takeMap rfl lm_X11_124 in_X1_takeMap se_X1_takeMap sh_17 cf1 (c_X1_takeMap hE g20) rfl (by decide) (Nat.le_of_ble_eq_true rfl) (Nat.zero_le _) (Nat.zero_le _) rfl ?_
            cases hf
          · rw [if_neg c15] at hf
            refine am_bipush (v := (-2 : Int32)) (am_dec tmX11_film 31 rfl) (by decide) ?_
            cases hf
        · refine am_callV1 (w := .null) (As := []) (st := []) hE (am_dec tmX11_film 20 rfl) ok_X1_freeMap rfl lm_X11_116 in_X1_freeMap se_X1_freeMap sh_17 cf1 (c_X1_freeMap hE  g13) rfl (by decide) (Nat.le_of_ble_eq_true rfl) (Nat.zero_le _) (Nat.zero_le _) rfl ?_
          refine am_astoreN (lv' := [(0, .ref 16), (2, .int p2), (3, .int p3), (4, .ref x2), (5, .null)]) (am_dec tmX11_film 21 rfl) (by decide) rfl ?_
          refine am_aloadN (am_dec tmX11_film 22 rfl) rfl ?_
          refine am_ifnonnullN (am_dec tmX11_film 23 rfl) ?_
          refine am_iconst (v := (-1 : Int32)) (am_dec tmX11_film 24 rfl) (by decide) ?_
          cases hf
    replace hf := g22
    refine am_if_eq (tgt := 32) (am_dec tmX11_film 8 rfl) (by decide) (fun c5 => ?_) (fun c5 => ?_)
    · rw [if_pos c5] at hf
      refine am_iconst (v := (0 : Int32)) (am_dec tmX11_film 16 rfl) (by decide) ?_
      have hf := Option.some.inj hf
      subst hf
      exact am_pick [0, 2, 3, 4] rfl key6
    · rw [if_neg c5] at hf
      refine am_iload_n (am_dec tmX11_film 9 rfl) rfl rfl ?_
      refine am_iconst (v := (1 : Int32)) (am_dec tmX11_film 10 rfl) (by decide) ?_
      refine am_bipush (v := (99 : Int32)) (am_dec tmX11_film 11 rfl) (by decide) ?_
      obtain ⟨x8, g7, hf⟩ := am_bd hf
      refine am_callS1 (As := [.int p3, .int (1 : Int32), .int (99 : Int32)]) (st := []) (am_dec tmX11_film 12 rfl) ok_X11_within rfl lm_X11_143 st_X11_within (c_X11_within hE g7) rfl (by decide) (Nat.le_of_ble_eq_true rfl) (Nat.zero_le _) (Nat.zero_le _) rfl ?_
      refine am_if_eq (tgt := 32) (am_dec tmX11_film 13 rfl) (by decide) (fun c9 => ?_) (fun c9 => ?_)
      · rw [if_pos c9] at hf
        refine am_iconst (v := (0 : Int32)) (am_dec tmX11_film 16 rfl) (by decide) ?_
        have hf := Option.some.inj hf
        subst hf
        exact am_pick [0, 2, 3, 4] rfl key6
      · rw [if_neg c9] at hf
        refine am_iconst (v := (1 : Int32)) (am_dec tmX11_film 14 rfl) (by decide) ?_
        refine am_goto (tgt := 33) (am_dec tmX11_film 15 rfl) (by decide) ?_
        have hf := Option.some.inj hf
        subst hf
        exact am_pick [0, 2, 3, 4] rfl key6
def f_X11_isBuffer (p0 : Int32) (p1 : Int32) : Option (Int32) :=
    (f_X11_within p0 (1 : Int32) (999 : Int32)).bind fun x2 =>
    if x2 = 0 then
    some (0 : Int32)
    else
    (f_X11_within p1 (1 : Int32) (999 : Int32)).bind fun x5 =>
    if x5 = 0 then
    some (0 : Int32)
    else
    some (1 : Int32)
set_option maxRecDepth 100000 in
set_option maxHeartbeats 4000000 in
theorem c_X11_isBuffer {E : am_E} (hE : am_EH E) {p0 : Int32} {p1 : Int32} {D : am_D} {r : Int32}  (hf : f_X11_isBuffer p0 p1 = some r) : am_C E mX11_isBuffer 2 0 0 [.int p0, .int p1] am_G0 D (.inl (some (.int r))) am_G0 D := by
  refine am_C_of (by decide +kernel) (Nat.le_of_ble_eq_true rfl) ?_
  change am_S E mX11_isBuffer 2 0 0 (.inl (some (.int r))) am_G0 D 0 0 0 [(0, .int p0), (1, .int p1)] [] am_G0 D
  unfold f_X11_isBuffer at hf
  refine am_iload_n (am_dec tmX11_isBuffer 0 rfl) rfl rfl ?_
  refine am_iconst (v := (1 : Int32)) (am_dec tmX11_isBuffer 1 rfl) (by decide) ?_
  refine am_sipush (v := (999 : Int32)) (am_dec tmX11_isBuffer 2 rfl) (by decide) ?_
  obtain ⟨x2, g1, hf⟩ := am_bd hf
  refine am_callS1 (As := [.int p0, .int (1 : Int32), .int (999 : Int32)]) (st := []) (am_dec tmX11_isBuffer 3 rfl) ok_X11_within rfl lm_X11_143 st_X11_within (c_X11_within hE g1) rfl (by decide) (Nat.le_of_ble_eq_true rfl) (Nat.zero_le _) (Nat.zero_le _) rfl ?_
  refine am_if_eq (tgt := 26) (am_dec tmX11_isBuffer 4 rfl) (by decide) (fun c3 => ?_) (fun c3 => ?_)
  · rw [if_pos c3] at hf
    refine am_iconst (v := (0 : Int32)) (am_dec tmX11_isBuffer 12 rfl) (by decide) ?_
    have hf := Option.some.inj hf
    subst hf
    exact am_zret (am_dec tmX11_isBuffer 13 rfl) rfl am_z0 (Nat.zero_le _) (Nat.zero_le _)
  · rw [if_neg c3] at hf
    refine am_iload_n (am_dec tmX11_isBuffer 5 rfl) rfl rfl ?_
    refine am_iconst (v := (1 : Int32)) (am_dec tmX11_isBuffer 6 rfl) (by decide) ?_
    refine am_sipush (v := (999 : Int32)) (am_dec tmX11_isBuffer 7 rfl) (by decide) ?_
    obtain ⟨x5, g4, hf⟩ := am_bd hf
    refine am_callS1 (As := [.int p1, .int (1 : Int32), .int (999 : Int32)]) (st := []) (am_dec tmX11_isBuffer 8 rfl) ok_X11_within rfl lm_X11_143 st_X11_within (c_X11_within hE g4) rfl (by decide) (Nat.le_of_ble_eq_true rfl) (Nat.zero_le _) (Nat.zero_le _) rfl ?_
    refine am_if_eq (tgt := 26) (am_dec tmX11_isBuffer 9 rfl) (by decide) (fun c6 => ?_) (fun c6 => ?_)
    · rw [if_pos c6] at hf
      refine am_iconst (v := (0 : Int32)) (am_dec tmX11_isBuffer 12 rfl) (by decide) ?_
      have hf := Option.some.inj hf
      subst hf
      exact am_zret (am_dec tmX11_isBuffer 13 rfl) rfl am_z0 (Nat.zero_le _) (Nat.zero_le _)
    · rw [if_neg c6] at hf
      refine am_iconst (v := (1 : Int32)) (am_dec tmX11_isBuffer 10 rfl) (by decide) ?_
      refine am_goto (tgt := 27) (am_dec tmX11_isBuffer 11 rfl) (by decide) ?_
      have hf := Option.some.inj hf
      subst hf
      exact am_zret (am_dec tmX11_isBuffer 13 rfl) rfl am_z1 (Nat.zero_le _) (Nat.zero_le _)
theorem z_X11_isBuffer {p0 : Int32} {p1 : Int32} {r : Int32} (hf : f_X11_isBuffer p0 p1 = some r) : narrow .boolean (.int r) = .int r := by
  unfold f_X11_isBuffer at hf
  obtain ⟨x2, g1, hf⟩ := am_bd hf
  by_cases c3 : x2 = 0
  · rw [if_pos c3] at hf
    have hf := Option.some.inj hf
    subst hf
    exact am_z0
  · rw [if_neg c3] at hf
    obtain ⟨x5, g4, hf⟩ := am_bd hf
    by_cases c6 : x5 = 0
    · rw [if_pos c6] at hf
      have hf := Option.some.inj hf
      subst hf
      exact am_z0
    · rw [if_neg c6] at hf
      have hf := Option.some.inj hf
      subst hf
      exact am_z1
def f_X11_isStream (p0 : Int32) : Option (Int32) :=
    (f_X11_within p0 (0 : Int32) (99 : Int32)).bind fun x2 =>
    some x2
set_option maxRecDepth 100000 in
set_option maxHeartbeats 4000000 in
theorem c_X11_isStream {E : am_E} (hE : am_EH E) {p0 : Int32} {D : am_D} {r : Int32}  (hf : f_X11_isStream p0 = some r) : am_C E mX11_isStream 2 0 0 [.int p0] am_G0 D (.inl (some (.int r))) am_G0 D := by
  refine am_C_of (by decide +kernel) (Nat.le_of_ble_eq_true rfl) ?_
  change am_S E mX11_isStream 2 0 0 (.inl (some (.int r))) am_G0 D 0 0 0 [(0, .int p0)] [] am_G0 D
  unfold f_X11_isStream at hf
  refine am_iload_n (am_dec tmX11_isStream 0 rfl) rfl rfl ?_
  refine am_iconst (v := (0 : Int32)) (am_dec tmX11_isStream 1 rfl) (by decide) ?_
  refine am_bipush (v := (99 : Int32)) (am_dec tmX11_isStream 2 rfl) (by decide) ?_
  obtain ⟨x2, g1, hf⟩ := am_bd hf
  refine am_callS1 (As := [.int p0, .int (0 : Int32), .int (99 : Int32)]) (st := []) (am_dec tmX11_isStream 3 rfl) ok_X11_within rfl lm_X11_143 st_X11_within (c_X11_within hE g1) rfl (by decide) (Nat.le_of_ble_eq_true rfl) (Nat.zero_le _) (Nat.zero_le _) rfl ?_
  have hf := Option.some.inj hf
  subst hf
  exact am_zret (am_dec tmX11_isStream 4 rfl) rfl (z_X11_within g1) (Nat.zero_le _) (Nat.zero_le _)
theorem z_X11_isStream {p0 : Int32} {r : Int32} (hf : f_X11_isStream p0 = some r) : narrow .boolean (.int r) = .int r := by
  unfold f_X11_isStream at hf
  obtain ⟨x2, g1, hf⟩ := am_bd hf
  have hf := Option.some.inj hf
  subst hf
  exact z_X11_within g1
def f_X11_live_L49 (q1 : Int32) (q2 : Int32) (q3 : Int32) (q4 : Int32) (q5 : Int32) : Nat → Int32 → Int32 → Option (Int32 ⊕ Unit)
  | 0, _, _ => none
  | n + 1, v6, v7 =>
    if q5 ≤ v7 then
    some (.inr ())
    else
    (if v7 < q4 then
    some ((0 : Int32))
    else
    some (q2)).bind fun w20 =>
    if q3 < (v6 + q1) then
    some (.inl (v7))
    else
    if w20 ≤ (v6 + q1) then
    f_X11_live_L49 q1 q2 q3 q4 q5 n ((v6 + q1) - w20) (v7 + (1 : Int32))
    else
    some (.inl (v7))
def f_X11_live (p1 : Int32) (p2 : Int32) (p3 : Int32) (p4 : Int32) (p5 : Int32) : Option (String ⊕ Int32) :=
    (f_X11_isStream p1).bind fun x2 =>
    (if x2 = 0 then
    some ((0 : Int32))
    else
    (f_X11_isStream p2).bind fun x6 =>
    if x6 = 0 then
    some ((0 : Int32))
    else
    (f_X11_isBuffer p3 p5).bind fun x9 =>
    if x9 = 0 then
    some ((0 : Int32))
    else
    (f_X11_within p4 (0 : Int32) (999 : Int32)).bind fun x12 =>
    if x12 = 0 then
    some ((0 : Int32))
    else
    some ((1 : Int32))).bind fun w14 =>
    am_bt (f_X11_need w14) fun x16 =>
    am_b2 (f_X11_live_L49 p1 p2 p3 p4 p5 am_fu (0 : Int32) (0 : Int32))
    (fun e24 =>
    some (.inr e24))
    (fun e25 =>
    some (.inr (-1 : Int32)))
set_option maxRecDepth 100000 in
set_option maxHeartbeats 4000000 in
theorem l_X11_live_L49 {E : am_E} (hE : am_EH E) {d mc ms : Nat} {o : am_O} {G2 : am_G} {D2 : am_D} (hdp : 3 ≤ d) {q1 : Int32} {q2 : Int32} {q3 : Int32} {q4 : Int32} {q5 : Int32} {D : am_D}  : ∀ (n : Nat) (v6 : Int32) (v7 : Int32) (ex0 : Int32 ⊕ Unit), f_X11_live_L49 q1 q2 q3 q4 q5 n v6 v7 = some ex0 → (∀ ex : Int32, ex0 = .inl ex → am_S E mX11_live d mc ms o G2 D2 0 0 89 [(7, .int ex)] [] am_G0 D) → (∀ ex : Unit, ex0 = .inr ex → am_S E mX11_live d mc ms o G2 D2 0 0 105 [] [] am_G0 D) → am_S E mX11_live d mc ms o G2 D2 0 0 49 [(1, .int q1), (2, .int q2), (3, .int q3), (4, .int q4), (5, .int q5), (6, .int v6), (7, .int v7)] [] am_G0 D
  | 0, _, _, _, hf, _, _ => by
    unfold f_X11_live_L49 at hf
    cases hf
  | n + 1, v6, v7, ex0, hf, hk0, hk1 => by
    unfold f_X11_live_L49 at hf
    refine am_iload (am_dec tmX11_live 23 rfl) rfl ?_
    refine am_iload (am_dec tmX11_live 24 rfl) rfl ?_
    refine am_icmp_ge (tgt := 105) (am_dec tmX11_live 25 rfl) (by decide) (fun c17 => ?_) (fun c17 => ?_)
    · rw [if_pos c17] at hf
      have hf := Option.some.inj hf
      subst hf
      exact am_pick [] rfl (hk1 _ rfl)
    · rw [if_neg c17] at hf
      refine am_iload (am_dec tmX11_live 26 rfl) rfl ?_
      refine am_iload_n (am_dec tmX11_live 27 rfl) rfl rfl ?_
      refine am_iadd (am_dec tmX11_live 28 rfl) ?_
      refine am_istore (lv' := [(1, .int q1), (2, .int q2), (3, .int q3), (4, .int q4), (5, .int q5), (6, .int (v6 + q1)), (7, .int v7)]) (am_dec tmX11_live 29 rfl) (by decide) rfl ?_
      refine am_iload (am_dec tmX11_live 30 rfl) rfl ?_
      refine am_iload (am_dec tmX11_live 31 rfl) rfl ?_
      obtain ⟨w20, g23, hf⟩ := am_bd hf
      have key19 : am_S E mX11_live d mc ms o G2 D2 0 0 74 [(1, .int q1), (2, .int q2), (3, .int q3), (4, .int q4), (5, .int q5), (6, .int (v6 + q1)), (7, .int v7)] [.int w20] am_G0 D := by
        refine am_istore (lv' := [(1, .int q1), (2, .int q2), (3, .int q3), (4, .int q4), (5, .int q5), (6, .int (v6 + q1)), (7, .int v7), (8, .int w20)]) (am_dec tmX11_live 36 rfl) (by decide) rfl ?_
        refine am_iload (am_dec tmX11_live 37 rfl) rfl ?_
        refine am_iload_n (am_dec tmX11_live 38 rfl) rfl rfl ?_
        refine am_icmp_gt (tgt := 89) (am_dec tmX11_live 39 rfl) (by decide) (fun c21 => ?_) (fun c21 => ?_)
        · rw [if_pos c21] at hf
          have hf := Option.some.inj hf
          subst hf
          exact am_pick [6] rfl (hk0 _ rfl)
        · rw [if_neg c21] at hf
          refine am_iload (am_dec tmX11_live 40 rfl) rfl ?_
          refine am_iload (am_dec tmX11_live 41 rfl) rfl ?_
          refine am_icmp_ge (tgt := 92) (am_dec tmX11_live 42 rfl) (by decide) (fun c22 => ?_) (fun c22 => ?_)
          · rw [if_pos c22] at hf
            refine am_iload (am_dec tmX11_live 45 rfl) rfl ?_
            refine am_iload (am_dec tmX11_live 46 rfl) rfl ?_
            refine am_isub (am_dec tmX11_live 47 rfl) ?_
            refine am_istore (lv' := [(1, .int q1), (2, .int q2), (3, .int q3), (4, .int q4), (5, .int q5), (6, .int ((v6 + q1) - w20)), (7, .int v7), (8, .int w20)]) (am_dec tmX11_live 48 rfl) (by decide) rfl ?_
            refine am_iinc (v := (1 : Int32)) (lv' := [(1, .int q1), (2, .int q2), (3, .int q3), (4, .int q4), (5, .int q5), (6, .int ((v6 + q1) - w20)), (7, .int (v7 + (1 : Int32))), (8, .int w20)]) (am_dec tmX11_live 49 rfl) rfl (by decide) (by decide) rfl ?_
            refine am_goto (tgt := 49) (am_dec tmX11_live 50 rfl) (by decide) ?_
            exact am_pick [0, 1, 2, 3, 4, 5, 6] rfl (l_X11_live_L49 hE hdp n ((v6 + q1) - w20) (v7 + (1 : Int32)) ex0 hf hk0 hk1)
          · rw [if_neg c22] at hf
            have hf := Option.some.inj hf
            subst hf
            exact am_pick [6] rfl (hk0 _ rfl)
      replace hf := g23
      refine am_icmp_lt (tgt := 73) (am_dec tmX11_live 32 rfl) (by decide) (fun c18 => ?_) (fun c18 => ?_)
      · rw [if_pos c18] at hf
        refine am_iconst (v := (0 : Int32)) (am_dec tmX11_live 35 rfl) (by decide) ?_
        have hf := Option.some.inj hf
        subst hf
        exact am_pick [0, 1, 2, 3, 4, 5, 6] rfl key19
      · rw [if_neg c18] at hf
        refine am_iload_n (am_dec tmX11_live 33 rfl) rfl rfl ?_
        refine am_goto (tgt := 74) (am_dec tmX11_live 34 rfl) (by decide) ?_
        have hf := Option.some.inj hf
        subst hf
        exact am_pick [0, 1, 2, 3, 4, 5, 6] rfl key19
set_option maxRecDepth 100000 in
set_option maxHeartbeats 4000000 in
theorem c_X11_live {E : am_E} (hE : am_EH E) {p1 : Int32} {p2 : Int32} {p3 : Int32} {p4 : Int32} {p5 : Int32} {D : am_D} {r : Int32}  (hf : f_X11_live p1 p2 p3 p4 p5 = some (.inr r)) : am_C E mX11_live 3 0 0 [.ref 16, .int p1, .int p2, .int p3, .int p4, .int p5] am_G0 D (.inl (some (.int r))) am_G0 D := by
  refine am_C_of (by decide +kernel) (Nat.le_of_ble_eq_true rfl) ?_
  change am_S E mX11_live 3 0 0 (.inl (some (.int r))) am_G0 D 0 0 0 [(0, .ref 16), (1, .int p1), (2, .int p2), (3, .int p3), (4, .int p4), (5, .int p5)] [] am_G0 D
  unfold f_X11_live at hf
  refine am_iload_n (am_dec tmX11_live 0 rfl) rfl rfl ?_
  obtain ⟨x2, g1, hf⟩ := am_bd hf
  refine am_callS1 (As := [.int p1]) (st := []) (am_dec tmX11_live 1 rfl) ok_X11_isStream rfl lm_X11_417 st_X11_isStream (c_X11_isStream hE g1) rfl (by decide) (Nat.le_of_ble_eq_true rfl) (Nat.zero_le _) (Nat.zero_le _) rfl ?_
  obtain ⟨w14, g27, hf⟩ := am_bd hf
  have key4 : am_S E mX11_live 3 0 0 (.inl (some (.int r))) am_G0 D 0 0 40 [(1, .int p1), (2, .int p2), (3, .int p3), (4, .int p4), (5, .int p5)] [.int w14] am_G0 D := by
    obtain ⟨x16, g15, hf⟩ := am_btR hf
    refine am_callS0 (As := [.int w14]) (st := []) (am_dec tmX11_live 18 rfl) ok_X11_need rfl lm_X11_94 st_X11_need (c_X11_need hE g15) rfl (by decide) (Nat.le_of_ble_eq_true rfl) (Nat.zero_le _) (Nat.zero_le _) rfl ?_
    refine am_iconst (v := (0 : Int32)) (am_dec tmX11_live 19 rfl) (by decide) ?_
    refine am_istore (lv' := [(1, .int p1), (2, .int p2), (3, .int p3), (4, .int p4), (5, .int p5), (6, .int (0 : Int32))]) (am_dec tmX11_live 20 rfl) (by decide) rfl ?_
    refine am_iconst (v := (0 : Int32)) (am_dec tmX11_live 21 rfl) (by decide) ?_
    refine am_istore (lv' := [(1, .int p1), (2, .int p2), (3, .int p3), (4, .int p4), (5, .int p5), (6, .int (0 : Int32)), (7, .int (0 : Int32))]) (am_dec tmX11_live 22 rfl) (by decide) rfl ?_
    rcases am_b2d hf with ⟨e24, g26, hf⟩ | ⟨e25, g26, hf⟩
    · refine am_pick [0, 1, 2, 3, 4, 5, 6] rfl (l_X11_live_L49 hE (Nat.le_refl _) am_fu _ _ _ g26 (fun ex he => ?_) (fun ex he => by cases he))
      cases he
      refine am_iload (am_dec tmX11_live 43 rfl) rfl ?_
      have hf := Sum.inr.inj (Option.some.inj hf)
      subst hf
      exact am_iret (am_dec tmX11_live 44 rfl) rfl (Nat.zero_le _) (Nat.zero_le _)
    · refine am_pick [0, 1, 2, 3, 4, 5, 6] rfl (l_X11_live_L49 hE (Nat.le_refl _) am_fu _ _ _ g26 (fun ex he => by cases he) (fun ex he => ?_))
      cases he
      refine am_iconst (v := (-1 : Int32)) (am_dec tmX11_live 51 rfl) (by decide) ?_
      have hf := Sum.inr.inj (Option.some.inj hf)
      subst hf
      exact am_iret (am_dec tmX11_live 52 rfl) rfl (Nat.zero_le _) (Nat.zero_le _)
  replace hf := g27
  refine am_if_eq (tgt := 39) (am_dec tmX11_live 2 rfl) (by decide) (fun c3 => ?_) (fun c3 => ?_)
  · rw [if_pos c3] at hf
    refine am_iconst (v := (0 : Int32)) (am_dec tmX11_live 17 rfl) (by decide) ?_
    have hf := Option.some.inj hf
    subst hf
    exact am_pick [1, 2, 3, 4, 5] rfl key4
  · rw [if_neg c3] at hf
    refine am_iload_n (am_dec tmX11_live 3 rfl) rfl rfl ?_
    obtain ⟨x6, g5, hf⟩ := am_bd hf
    refine am_callS1 (As := [.int p2]) (st := []) (am_dec tmX11_live 4 rfl) ok_X11_isStream rfl lm_X11_417 st_X11_isStream (c_X11_isStream hE g5) rfl (by decide) (Nat.le_of_ble_eq_true rfl) (Nat.zero_le _) (Nat.zero_le _) rfl ?_
    refine am_if_eq (tgt := 39) (am_dec tmX11_live 5 rfl) (by decide) (fun c7 => ?_) (fun c7 => ?_)
    · rw [if_pos c7] at hf
      refine am_iconst (v := (0 : Int32)) (am_dec tmX11_live 17 rfl) (by decide) ?_
      have hf := Option.some.inj hf
      subst hf
      exact am_pick [1, 2, 3, 4, 5] rfl key4
    · rw [if_neg c7] at hf
      refine am_iload_n (am_dec tmX11_live 6 rfl) rfl rfl ?_
      refine am_iload (am_dec tmX11_live 7 rfl) rfl ?_
      obtain ⟨x9, g8, hf⟩ := am_bd hf
      refine am_callS1 (As := [.int p3, .int p5]) (st := []) (am_dec tmX11_live 8 rfl) ok_X11_isBuffer rfl lm_X11_420 st_X11_isBuffer (c_X11_isBuffer hE g8) rfl (by decide) (Nat.le_of_ble_eq_true rfl) (Nat.zero_le _) (Nat.zero_le _) rfl ?_
      refine am_if_eq (tgt := 39) (am_dec tmX11_live 9 rfl) (by decide) (fun c10 => ?_) (fun c10 => ?_)
      · rw [if_pos c10] at hf
        refine am_iconst (v := (0 : Int32)) (am_dec tmX11_live 17 rfl) (by decide) ?_
        have hf := Option.some.inj hf
        subst hf
        exact am_pick [1, 2, 3, 4, 5] rfl key4
      · rw [if_neg c10] at hf
        refine am_iload (am_dec tmX11_live 10 rfl) rfl ?_
        refine am_iconst (v := (0 : Int32)) (am_dec tmX11_live 11 rfl) (by decide) ?_
        refine am_sipush (v := (999 : Int32)) (am_dec tmX11_live 12 rfl) (by decide) ?_
        obtain ⟨x12, g11, hf⟩ := am_bd hf
        refine am_callS1 (As := [.int p4, .int (0 : Int32), .int (999 : Int32)]) (st := []) (am_dec tmX11_live 13 rfl) ok_X11_within rfl lm_X11_143 st_X11_within (c_X11_within hE g11) rfl (by decide) (Nat.le_of_ble_eq_true rfl) (Nat.zero_le _) (Nat.zero_le _) rfl ?_
        refine am_if_eq (tgt := 39) (am_dec tmX11_live 14 rfl) (by decide) (fun c13 => ?_) (fun c13 => ?_)
        · rw [if_pos c13] at hf
          refine am_iconst (v := (0 : Int32)) (am_dec tmX11_live 17 rfl) (by decide) ?_
          have hf := Option.some.inj hf
          subst hf
          exact am_pick [1, 2, 3, 4, 5] rfl key4
        · rw [if_neg c13] at hf
          refine am_iconst (v := (1 : Int32)) (am_dec tmX11_live 15 rfl) (by decide) ?_
          refine am_goto (tgt := 40) (am_dec tmX11_live 16 rfl) (by decide) ?_
          have hf := Option.some.inj hf
          subst hf
          exact am_pick [1, 2, 3, 4, 5] rfl key4
set_option maxRecDepth 100000 in
set_option maxHeartbeats 4000000 in
theorem t_X11_live {E : am_E} (hE : am_EH E) {p1 : Int32} {p2 : Int32} {p3 : Int32} {p4 : Int32} {p5 : Int32} {D : am_D} {r : String}  (hf : f_X11_live p1 p2 p3 p4 p5 = some (.inl r)) : am_C E mX11_live 3 1 6 [.ref 16, .int p1, .int p2, .int p3, .int p4, .int p5] am_G0 D (.inr r) am_G0 D := by
  refine am_C_of (by decide +kernel) (Nat.le_of_ble_eq_true rfl) ?_
  change am_S E mX11_live 3 1 6 (.inr r) am_G0 D 0 0 0 [(0, .ref 16), (1, .int p1), (2, .int p2), (3, .int p3), (4, .int p4), (5, .int p5)] [] am_G0 D
  unfold f_X11_live at hf
  refine am_iload_n (am_dec tmX11_live 0 rfl) rfl rfl ?_
  obtain ⟨x2, g1, hf⟩ := am_bd hf
  refine am_callS1 (As := [.int p1]) (st := []) (am_dec tmX11_live 1 rfl) ok_X11_isStream rfl lm_X11_417 st_X11_isStream (c_X11_isStream hE g1) rfl (by decide) (Nat.le_of_ble_eq_true rfl) (Nat.zero_le _) (Nat.zero_le _) rfl ?_
  obtain ⟨w14, g27, hf⟩ := am_bd hf
  have key4 : am_S E mX11_live 3 1 6 (.inr r) am_G0 D 0 0 40 [(1, .int p1), (2, .int p2), (3, .int p3), (4, .int p4), (5, .int p5)] [.int w14] am_G0 D := by
    rcases am_btT hf with g15 | ⟨x16, g15, hf⟩
    · exact am_callS_out (As := [.int w14]) (st := []) (am_dec tmX11_live 18 rfl) ok_X11_need rfl lm_X11_94 st_X11_need (t_X11_need hE g15) rfl (by decide) (Nat.le_of_ble_eq_true rfl) (Nat.le_refl _) (Nat.le_refl _) rfl rfl
    · refine am_callS0 (As := [.int w14]) (st := []) (am_dec tmX11_live 18 rfl) ok_X11_need rfl lm_X11_94 st_X11_need (c_X11_need hE g15) rfl (by decide) (Nat.le_of_ble_eq_true rfl) (Nat.zero_le _) (Nat.zero_le _) rfl ?_
      refine am_iconst (v := (0 : Int32)) (am_dec tmX11_live 19 rfl) (by decide) ?_
      refine am_istore (lv' := [(1, .int p1), (2, .int p2), (3, .int p3), (4, .int p4), (5, .int p5), (6, .int (0 : Int32))]) (am_dec tmX11_live 20 rfl) (by decide) rfl ?_
      refine am_iconst (v := (0 : Int32)) (am_dec tmX11_live 21 rfl) (by decide) ?_
      refine am_istore (lv' := [(1, .int p1), (2, .int p2), (3, .int p3), (4, .int p4), (5, .int p5), (6, .int (0 : Int32)), (7, .int (0 : Int32))]) (am_dec tmX11_live 22 rfl) (by decide) rfl ?_
      rcases am_b2d hf with ⟨e24, g26, hf⟩ | ⟨e25, g26, hf⟩
      · refine am_pick [0, 1, 2, 3, 4, 5, 6] rfl (l_X11_live_L49 hE (Nat.le_refl _) am_fu _ _ _ g26 (fun ex he => ?_) (fun ex he => by cases he))
        cases he
        refine am_iload (am_dec tmX11_live 43 rfl) rfl ?_
        cases hf
      · refine am_pick [0, 1, 2, 3, 4, 5, 6] rfl (l_X11_live_L49 hE (Nat.le_refl _) am_fu _ _ _ g26 (fun ex he => by cases he) (fun ex he => ?_))
        cases he
        refine am_iconst (v := (-1 : Int32)) (am_dec tmX11_live 51 rfl) (by decide) ?_
        cases hf
  replace hf := g27
  refine am_if_eq (tgt := 39) (am_dec tmX11_live 2 rfl) (by decide) (fun c3 => ?_) (fun c3 => ?_)
  · rw [if_pos c3] at hf
    refine am_iconst (v := (0 : Int32)) (am_dec tmX11_live 17 rfl) (by decide) ?_
    have hf := Option.some.inj hf
    subst hf
    exact am_pick [1, 2, 3, 4, 5] rfl key4
  · rw [if_neg c3] at hf
    refine am_iload_n (am_dec tmX11_live 3 rfl) rfl rfl ?_
    obtain ⟨x6, g5, hf⟩ := am_bd hf
    refine am_callS1 (As := [.int p2]) (st := []) (am_dec tmX11_live 4 rfl) ok_X11_isStream rfl lm_X11_417 st_X11_isStream (c_X11_isStream hE g5) rfl (by decide) (Nat.le_of_ble_eq_true rfl) (Nat.zero_le _) (Nat.zero_le _) rfl ?_
    refine am_if_eq (tgt := 39) (am_dec tmX11_live 5 rfl) (by decide) (fun c7 => ?_) (fun c7 => ?_)
    · rw [if_pos c7] at hf
      refine am_iconst (v := (0 : Int32)) (am_dec tmX11_live 17 rfl) (by decide) ?_
      have hf := Option.some.inj hf
      subst hf
      exact am_pick [1, 2, 3, 4, 5] rfl key4
    · rw [if_neg c7] at hf
      refine am_iload_n (am_dec tmX11_live 6 rfl) rfl rfl ?_
      refine am_iload (am_dec tmX11_live 7 rfl) rfl ?_
      obtain ⟨x9, g8, hf⟩ := am_bd hf
      refine am_callS1 (As := [.int p3, .int p5]) (st := []) (am_dec tmX11_live 8 rfl) ok_X11_isBuffer rfl lm_X11_420 st_X11_isBuffer (c_X11_isBuffer hE g8) rfl (by decide) (Nat.le_of_ble_eq_true rfl) (Nat.zero_le _) (Nat.zero_le _) rfl ?_
      refine am_if_eq (tgt := 39) (am_dec tmX11_live 9 rfl) (by decide) (fun c10 => ?_) (fun c10 => ?_)
      · rw [if_pos c10] at hf
        refine am_iconst (v := (0 : Int32)) (am_dec tmX11_live 17 rfl) (by decide) ?_
        have hf := Option.some.inj hf
        subst hf
        exact am_pick [1, 2, 3, 4, 5] rfl key4
      · rw [if_neg c10] at hf
        refine am_iload (am_dec tmX11_live 10 rfl) rfl ?_
        refine am_iconst (v := (0 : Int32)) (am_dec tmX11_live 11 rfl) (by decide) ?_
        refine am_sipush (v := (999 : Int32)) (am_dec tmX11_live 12 rfl) (by decide) ?_
        obtain ⟨x12, g11, hf⟩ := am_bd hf
        refine am_callS1 (As := [.int p4, .int (0 : Int32), .int (999 : Int32)]) (st := []) (am_dec tmX11_live 13 rfl) ok_X11_within rfl lm_X11_143 st_X11_within (c_X11_within hE g11) rfl (by decide) (Nat.le_of_ble_eq_true rfl) (Nat.zero_le _) (Nat.zero_le _) rfl ?_
        refine am_if_eq (tgt := 39) (am_dec tmX11_live 14 rfl) (by decide) (fun c13 => ?_) (fun c13 => ?_)
        · rw [if_pos c13] at hf
          refine am_iconst (v := (0 : Int32)) (am_dec tmX11_live 17 rfl) (by decide) ?_
          have hf := Option.some.inj hf
          subst hf
          exact am_pick [1, 2, 3, 4, 5] rfl key4
        · rw [if_neg c13] at hf
          refine am_iconst (v := (1 : Int32)) (am_dec tmX11_live 15 rfl) (by decide) ?_
          refine am_goto (tgt := 40) (am_dec tmX11_live 16 rfl) (by decide) ?_
          have hf := Option.some.inj hf
          subst hf
          exact am_pick [1, 2, 3, 4, 5] rfl key4
def f_X11_liveFails (p0 : Int32) (p1 : Int32) (p2 : Int32) (p3 : Int32) (p4 : Int32) : Option (Int32) :=
    if p3 < p4 then
    if p2 < (p0 * (p3 + (1 : Int32))) then
    some (1 : Int32)
    else
    if (p0 * (p3 + (1 : Int32))) < p1 then
    some (1 : Int32)
    else
    if p2 < ((p0 * p4) - (p1 * ((p4 - (1 : Int32)) - p3))) then
    some (1 : Int32)
    else
    if p1 ≤ ((p0 * p4) - (p1 * ((p4 - (1 : Int32)) - p3))) then
    some (0 : Int32)
    else
    some (1 : Int32)
    else
    if (p0 * p4) ≤ p2 then
    some (0 : Int32)
    else
    some (1 : Int32)
set_option maxRecDepth 100000 in
set_option maxHeartbeats 4000000 in
theorem c_X11_liveFails {E : am_E} (hE : am_EH E) {p0 : Int32} {p1 : Int32} {p2 : Int32} {p3 : Int32} {p4 : Int32} {D : am_D} {r : Int32}  (hf : f_X11_liveFails p0 p1 p2 p3 p4 = some r) : am_C E mX11_liveFails 1 0 0 [.int p0, .int p1, .int p2, .int p3, .int p4] am_G0 D (.inl (some (.int r))) am_G0 D := by
  refine am_C_of (by decide +kernel) (Nat.le_of_ble_eq_true rfl) ?_
  change am_S E mX11_liveFails 1 0 0 (.inl (some (.int r))) am_G0 D 0 0 0 [(0, .int p0), (1, .int p1), (2, .int p2), (3, .int p3), (4, .int p4)] [] am_G0 D
  unfold f_X11_liveFails at hf
  refine am_iload_n (am_dec tmX11_liveFails 0 rfl) rfl rfl ?_
  refine am_iload (am_dec tmX11_liveFails 1 rfl) rfl ?_
  refine am_icmp_lt (tgt := 20) (am_dec tmX11_liveFails 2 rfl) (by decide) (fun c1 => ?_) (fun c1 => ?_)
  · rw [if_pos c1] at hf
    refine am_iload_n (am_dec tmX11_liveFails 12 rfl) rfl rfl ?_
    refine am_iload_n (am_dec tmX11_liveFails 13 rfl) rfl rfl ?_
    refine am_iconst (v := (1 : Int32)) (am_dec tmX11_liveFails 14 rfl) (by decide) ?_
    refine am_iadd (am_dec tmX11_liveFails 15 rfl) ?_
    refine am_imul (am_dec tmX11_liveFails 16 rfl) ?_
    refine am_istore (lv' := [(0, .int p0), (1, .int p1), (2, .int p2), (3, .int p3), (4, .int p4), (5, .int (p0 * (p3 + (1 : Int32))))]) (am_dec tmX11_liveFails 17 rfl) (by decide) rfl ?_
    refine am_iload_n (am_dec tmX11_liveFails 18 rfl) rfl rfl ?_
    refine am_iload (am_dec tmX11_liveFails 19 rfl) rfl ?_
    refine am_imul (am_dec tmX11_liveFails 20 rfl) ?_
    refine am_iload_n (am_dec tmX11_liveFails 21 rfl) rfl rfl ?_
    refine am_iload (am_dec tmX11_liveFails 22 rfl) rfl ?_
    refine am_iconst (v := (1 : Int32)) (am_dec tmX11_liveFails 23 rfl) (by decide) ?_
    refine am_isub (am_dec tmX11_liveFails 24 rfl) ?_
    refine am_iload_n (am_dec tmX11_liveFails 25 rfl) rfl rfl ?_
    refine am_isub (am_dec tmX11_liveFails 26 rfl) ?_
    refine am_imul (am_dec tmX11_liveFails 27 rfl) ?_
    refine am_isub (am_dec tmX11_liveFails 28 rfl) ?_
    refine am_istore (lv' := [(0, .int p0), (1, .int p1), (2, .int p2), (3, .int p3), (4, .int p4), (5, .int (p0 * (p3 + (1 : Int32)))), (6, .int ((p0 * p4) - (p1 * ((p4 - (1 : Int32)) - p3))))]) (am_dec tmX11_liveFails 29 rfl) (by decide) rfl ?_
    refine am_iload (am_dec tmX11_liveFails 30 rfl) rfl ?_
    refine am_iload_n (am_dec tmX11_liveFails 31 rfl) rfl rfl ?_
    refine am_icmp_gt (tgt := 66) (am_dec tmX11_liveFails 32 rfl) (by decide) (fun c2 => ?_) (fun c2 => ?_)
    · rw [if_pos c2] at hf
      refine am_iconst (v := (1 : Int32)) (am_dec tmX11_liveFails 42 rfl) (by decide) ?_
      refine am_goto (tgt := 71) (am_dec tmX11_liveFails 43 rfl) (by decide) ?_
      have hf := Option.some.inj hf
      subst hf
      exact am_zret (am_dec tmX11_liveFails 45 rfl) rfl am_z1 (Nat.zero_le _) (Nat.zero_le _)
    · rw [if_neg c2] at hf
      refine am_iload (am_dec tmX11_liveFails 33 rfl) rfl ?_
      refine am_iload_n (am_dec tmX11_liveFails 34 rfl) rfl rfl ?_
      refine am_icmp_lt (tgt := 66) (am_dec tmX11_liveFails 35 rfl) (by decide) (fun c3 => ?_) (fun c3 => ?_)
      · rw [if_pos c3] at hf
        refine am_iconst (v := (1 : Int32)) (am_dec tmX11_liveFails 42 rfl) (by decide) ?_
        refine am_goto (tgt := 71) (am_dec tmX11_liveFails 43 rfl) (by decide) ?_
        have hf := Option.some.inj hf
        subst hf
        exact am_zret (am_dec tmX11_liveFails 45 rfl) rfl am_z1 (Nat.zero_le _) (Nat.zero_le _)
      · rw [if_neg c3] at hf
        refine am_iload (am_dec tmX11_liveFails 36 rfl) rfl ?_
        refine am_iload_n (am_dec tmX11_liveFails 37 rfl) rfl rfl ?_
        refine am_icmp_gt (tgt := 66) (am_dec tmX11_liveFails 38 rfl) (by decide) (fun c4 => ?_) (fun c4 => ?_)
        · rw [if_pos c4] at hf
          refine am_iconst (v := (1 : Int32)) (am_dec tmX11_liveFails 42 rfl) (by decide) ?_
          refine am_goto (tgt := 71) (am_dec tmX11_liveFails 43 rfl) (by decide) ?_
          have hf := Option.some.inj hf
          subst hf
          exact am_zret (am_dec tmX11_liveFails 45 rfl) rfl am_z1 (Nat.zero_le _) (Nat.zero_le _)
        · rw [if_neg c4] at hf
          refine am_iload (am_dec tmX11_liveFails 39 rfl) rfl ?_
          refine am_iload_n (am_dec tmX11_liveFails 40 rfl) rfl rfl ?_
          refine am_icmp_ge (tgt := 70) (am_dec tmX11_liveFails 41 rfl) (by decide) (fun c5 => ?_) (fun c5 => ?_)
          · rw [if_pos c5] at hf
            refine am_iconst (v := (0 : Int32)) (am_dec tmX11_liveFails 44 rfl) (by decide) ?_
            have hf := Option.some.inj hf
            subst hf
            exact am_zret (am_dec tmX11_liveFails 45 rfl) rfl am_z0 (Nat.zero_le _) (Nat.zero_le _)
          · rw [if_neg c5] at hf
            refine am_iconst (v := (1 : Int32)) (am_dec tmX11_liveFails 42 rfl) (by decide) ?_
            refine am_goto (tgt := 71) (am_dec tmX11_liveFails 43 rfl) (by decide) ?_
            have hf := Option.some.inj hf
            subst hf
            exact am_zret (am_dec tmX11_liveFails 45 rfl) rfl am_z1 (Nat.zero_le _) (Nat.zero_le _)
  · rw [if_neg c1] at hf
    refine am_iload_n (am_dec tmX11_liveFails 3 rfl) rfl rfl ?_
    refine am_iload (am_dec tmX11_liveFails 4 rfl) rfl ?_
    refine am_imul (am_dec tmX11_liveFails 5 rfl) ?_
    refine am_iload_n (am_dec tmX11_liveFails 6 rfl) rfl rfl ?_
    refine am_icmp_le (tgt := 18) (am_dec tmX11_liveFails 7 rfl) (by decide) (fun c6 => ?_) (fun c6 => ?_)
    · rw [if_pos c6] at hf
      refine am_iconst (v := (0 : Int32)) (am_dec tmX11_liveFails 10 rfl) (by decide) ?_
      have hf := Option.some.inj hf
      subst hf
      exact am_zret (am_dec tmX11_liveFails 11 rfl) rfl am_z0 (Nat.zero_le _) (Nat.zero_le _)
    · rw [if_neg c6] at hf
      refine am_iconst (v := (1 : Int32)) (am_dec tmX11_liveFails 8 rfl) (by decide) ?_
      refine am_goto (tgt := 19) (am_dec tmX11_liveFails 9 rfl) (by decide) ?_
      have hf := Option.some.inj hf
      subst hf
      exact am_zret (am_dec tmX11_liveFails 11 rfl) rfl am_z1 (Nat.zero_le _) (Nat.zero_le _)
theorem z_X11_liveFails {p0 : Int32} {p1 : Int32} {p2 : Int32} {p3 : Int32} {p4 : Int32} {r : Int32} (hf : f_X11_liveFails p0 p1 p2 p3 p4 = some r) : narrow .boolean (.int r) = .int r := by
  unfold f_X11_liveFails at hf
  by_cases c1 : p3 < p4
  · rw [if_pos c1] at hf
    by_cases c2 : p2 < (p0 * (p3 + (1 : Int32)))
    · rw [if_pos c2] at hf
      have hf := Option.some.inj hf
      subst hf
      exact am_z1
    · rw [if_neg c2] at hf
      by_cases c3 : (p0 * (p3 + (1 : Int32))) < p1
      · rw [if_pos c3] at hf
        have hf := Option.some.inj hf
        subst hf
        exact am_z1
      · rw [if_neg c3] at hf
        by_cases c4 : p2 < ((p0 * p4) - (p1 * ((p4 - (1 : Int32)) - p3)))
        · rw [if_pos c4] at hf
          have hf := Option.some.inj hf
          subst hf
          exact am_z1
        · rw [if_neg c4] at hf
          by_cases c5 : p1 ≤ ((p0 * p4) - (p1 * ((p4 - (1 : Int32)) - p3)))
          · rw [if_pos c5] at hf
            have hf := Option.some.inj hf
            subst hf
            exact am_z0
          · rw [if_neg c5] at hf
            have hf := Option.some.inj hf
            subst hf
            exact am_z1
  · rw [if_neg c1] at hf
    by_cases c6 : (p0 * p4) ≤ p2
    · rw [if_pos c6] at hf
      have hf := Option.some.inj hf
      subst hf
      exact am_z0
    · rw [if_neg c6] at hf
      have hf := Option.some.inj hf
      subst hf
      exact am_z1
def f_X11_leastLag_L16 (q0 : Int32) (q1 : Int32) (q2 : Int32) (q3 : Int32) (q4 : Int32) (q5 : Int32) : Nat → Int32 → Int32 → Option (Int32)
  | 0, _, _ => none
  | n + 1, v6, v7 =>
    if q2 < v7 then
    some (v6)
    else
    if v6 = 0 then
    (f_X11_liveFails q0 v7 q3 q5 q4).bind fun x5 =>
    f_X11_leastLag_L16 q0 q1 q2 q3 q4 q5 n x5 (v7 + (1 : Int32))
    else
    some (v6)
def f_X11_leastLag_L3 (q0 : Int32) (q1 : Int32) (q2 : Int32) (q3 : Int32) (q4 : Int32) : Nat → Int32 → Option (Int32 ⊕ Unit)
  | 0, _ => none
  | n + 1, v5 =>
    if (99 : Int32) < v5 then
    some (.inr ())
    else
    (f_X11_leastLag_L16 q0 q1 q2 q3 q4 v5 am_fu (0 : Int32) q1).bind fun e6 =>
    if e6 = 0 then
    some (.inl (v5))
    else
    f_X11_leastLag_L3 q0 q1 q2 q3 q4 n (v5 + (1 : Int32))
def f_X11_leastLag (p0 : Int32) (p1 : Int32) (p2 : Int32) (p3 : Int32) (p4 : Int32) : Option (Int32) :=
    am_b2 (f_X11_leastLag_L3 p0 p1 p2 p3 p4 am_fu (0 : Int32))
    (fun e9 =>
    some e9)
    (fun e10 =>
    some (-1 : Int32))
set_option maxRecDepth 100000 in
set_option maxHeartbeats 4000000 in
theorem l_X11_leastLag_L16 {E : am_E} (hE : am_EH E) {d mc ms : Nat} {o : am_O} {G2 : am_G} {D2 : am_D} (hdp : 2 ≤ d) {q0 : Int32} {q1 : Int32} {q2 : Int32} {q3 : Int32} {q4 : Int32} {q5 : Int32} {D : am_D}  : ∀ (n : Nat) (v6 : Int32) (v7 : Int32) (ex0 : Int32), f_X11_leastLag_L16 q0 q1 q2 q3 q4 q5 n v6 v7 = some ex0 → (∀ ex : Int32, ex0 = ex → am_S E mX11_leastLag d mc ms o G2 D2 0 0 46 [(0, .int q0), (1, .int q1), (2, .int q2), (3, .int q3), (4, .int q4), (5, .int q5), (6, .int ex)] [] am_G0 D) → am_S E mX11_leastLag d mc ms o G2 D2 0 0 16 [(0, .int q0), (1, .int q1), (2, .int q2), (3, .int q3), (4, .int q4), (5, .int q5), (6, .int v6), (7, .int v7)] [] am_G0 D
  | 0, _, _, _, hf, _ => by
    unfold f_X11_leastLag_L16 at hf
    cases hf
  | n + 1, v6, v7, ex0, hf, hk0 => by
    unfold f_X11_leastLag_L16 at hf
    refine am_iload (am_dec tmX11_leastLag 9 rfl) rfl ?_
    refine am_iload_n (am_dec tmX11_leastLag 10 rfl) rfl rfl ?_
    refine am_icmp_gt (tgt := 46) (am_dec tmX11_leastLag 11 rfl) (by decide) (fun c2 => ?_) (fun c2 => ?_)
    · rw [if_pos c2] at hf
      have hf := Option.some.inj hf
      subst hf
      exact am_pick [0, 1, 2, 3, 4, 5, 6] rfl (hk0 _ rfl)
    · rw [if_neg c2] at hf
      refine am_iload (am_dec tmX11_leastLag 12 rfl) rfl ?_
      refine am_if_ne (tgt := 46) (am_dec tmX11_leastLag 13 rfl) (by decide) (fun c3 => ?_) (fun c3 => ?_)
      · rw [if_neg c3] at hf
        have hf := Option.some.inj hf
        subst hf
        exact am_pick [0, 1, 2, 3, 4, 5, 6] rfl (hk0 _ rfl)
      · rw [if_pos c3] at hf
        refine am_iload_n (am_dec tmX11_leastLag 14 rfl) rfl rfl ?_
        refine am_iload (am_dec tmX11_leastLag 15 rfl) rfl ?_
        refine am_iload_n (am_dec tmX11_leastLag 16 rfl) rfl rfl ?_
        refine am_iload (am_dec tmX11_leastLag 17 rfl) rfl ?_
        refine am_iload (am_dec tmX11_leastLag 18 rfl) rfl ?_
        obtain ⟨x5, g4, hf⟩ := am_bd hf
        refine am_callS1 (As := [.int q0, .int v7, .int q3, .int q5, .int q4]) (st := []) (am_dec tmX11_leastLag 19 rfl) ok_X11_liveFails rfl lm_X11_480 st_X11_liveFails (c_X11_liveFails hE g4) rfl (Nat.lt_of_lt_of_le (by decide) hdp) (Nat.le_of_ble_eq_true rfl) (Nat.zero_le _) (Nat.zero_le _) rfl ?_
        refine am_istore (lv' := [(0, .int q0), (1, .int q1), (2, .int q2), (3, .int q3), (4, .int q4), (5, .int q5), (6, .int x5), (7, .int v7)]) (am_dec tmX11_leastLag 20 rfl) (by decide) rfl ?_
        refine am_iinc (v := (1 : Int32)) (lv' := [(0, .int q0), (1, .int q1), (2, .int q2), (3, .int q3), (4, .int q4), (5, .int q5), (6, .int x5), (7, .int (v7 + (1 : Int32)))]) (am_dec tmX11_leastLag 21 rfl) rfl (by decide) (by decide) rfl ?_
        refine am_goto (tgt := 16) (am_dec tmX11_leastLag 22 rfl) (by decide) ?_
        exact am_pick [0, 1, 2, 3, 4, 5, 6, 7] rfl (l_X11_leastLag_L16 hE hdp n x5 (v7 + (1 : Int32)) ex0 hf hk0)
set_option maxRecDepth 100000 in
set_option maxHeartbeats 4000000 in
theorem l_X11_leastLag_L3 {E : am_E} (hE : am_EH E) {d mc ms : Nat} {o : am_O} {G2 : am_G} {D2 : am_D} (hdp : 2 ≤ d) {q0 : Int32} {q1 : Int32} {q2 : Int32} {q3 : Int32} {q4 : Int32} {D : am_D}  : ∀ (n : Nat) (v5 : Int32) (ex0 : Int32 ⊕ Unit), f_X11_leastLag_L3 q0 q1 q2 q3 q4 n v5 = some ex0 → (∀ ex : Int32, ex0 = .inl ex → am_S E mX11_leastLag d mc ms o G2 D2 0 0 51 [(5, .int ex)] [] am_G0 D) → (∀ ex : Unit, ex0 = .inr ex → am_S E mX11_leastLag d mc ms o G2 D2 0 0 60 [] [] am_G0 D) → am_S E mX11_leastLag d mc ms o G2 D2 0 0 3 [(0, .int q0), (1, .int q1), (2, .int q2), (3, .int q3), (4, .int q4), (5, .int v5)] [] am_G0 D
  | 0, _, _, hf, _, _ => by
    unfold f_X11_leastLag_L3 at hf
    cases hf
  | n + 1, v5, ex0, hf, hk0, hk1 => by
    unfold f_X11_leastLag_L3 at hf
    refine am_iload (am_dec tmX11_leastLag 2 rfl) rfl ?_
    refine am_bipush (v := (99 : Int32)) (am_dec tmX11_leastLag 3 rfl) (by decide) ?_
    refine am_icmp_gt (tgt := 60) (am_dec tmX11_leastLag 4 rfl) (by decide) (fun c1 => ?_) (fun c1 => ?_)
    · rw [if_pos c1] at hf
      have hf := Option.some.inj hf
      subst hf
      exact am_pick [] rfl (hk1 _ rfl)
    · rw [if_neg c1] at hf
      refine am_iconst (v := (0 : Int32)) (am_dec tmX11_leastLag 5 rfl) (by decide) ?_
      refine am_istore (lv' := [(0, .int q0), (1, .int q1), (2, .int q2), (3, .int q3), (4, .int q4), (5, .int v5), (6, .int (0 : Int32))]) (am_dec tmX11_leastLag 6 rfl) (by decide) rfl ?_
      refine am_iload_n (am_dec tmX11_leastLag 7 rfl) rfl rfl ?_
      refine am_istore (lv' := [(0, .int q0), (1, .int q1), (2, .int q2), (3, .int q3), (4, .int q4), (5, .int v5), (6, .int (0 : Int32)), (7, .int q1)]) (am_dec tmX11_leastLag 8 rfl) (by decide) rfl ?_
      obtain ⟨e6, g8, hf⟩ := am_bd hf
      refine am_pick [0, 1, 2, 3, 4, 5, 6, 7] rfl (l_X11_leastLag_L16 hE hdp am_fu _ _ _ g8 (fun ex he => ?_))
      subst he
      refine am_iload (am_dec tmX11_leastLag 23 rfl) rfl ?_
      refine am_if_ne (tgt := 54) (am_dec tmX11_leastLag 24 rfl) (by decide) (fun c7 => ?_) (fun c7 => ?_)
      · rw [if_neg c7] at hf
        refine am_iinc (v := (1 : Int32)) (lv' := [(0, .int q0), (1, .int q1), (2, .int q2), (3, .int q3), (4, .int q4), (5, .int (v5 + (1 : Int32))), (6, .int e6)]) (am_dec tmX11_leastLag 27 rfl) rfl (by decide) (by decide) rfl ?_
        refine am_goto (tgt := 3) (am_dec tmX11_leastLag 28 rfl) (by decide) ?_
        exact am_pick [0, 1, 2, 3, 4, 5] rfl (l_X11_leastLag_L3 hE hdp n (v5 + (1 : Int32)) ex0 hf hk0 hk1)
      · rw [if_pos c7] at hf
        have hf := Option.some.inj hf
        subst hf
        exact am_pick [5] rfl (hk0 _ rfl)
set_option maxRecDepth 100000 in
set_option maxHeartbeats 4000000 in
theorem c_X11_leastLag {E : am_E} (hE : am_EH E) {p0 : Int32} {p1 : Int32} {p2 : Int32} {p3 : Int32} {p4 : Int32} {D : am_D} {r : Int32}  (hf : f_X11_leastLag p0 p1 p2 p3 p4 = some r) : am_C E mX11_leastLag 2 0 0 [.int p0, .int p1, .int p2, .int p3, .int p4] am_G0 D (.inl (some (.int r))) am_G0 D := by
  refine am_C_of (by decide +kernel) (Nat.le_of_ble_eq_true rfl) ?_
  change am_S E mX11_leastLag 2 0 0 (.inl (some (.int r))) am_G0 D 0 0 0 [(0, .int p0), (1, .int p1), (2, .int p2), (3, .int p3), (4, .int p4)] [] am_G0 D
  unfold f_X11_leastLag at hf
  refine am_iconst (v := (0 : Int32)) (am_dec tmX11_leastLag 0 rfl) (by decide) ?_
  refine am_istore (lv' := [(0, .int p0), (1, .int p1), (2, .int p2), (3, .int p3), (4, .int p4), (5, .int (0 : Int32))]) (am_dec tmX11_leastLag 1 rfl) (by decide) rfl ?_
  rcases am_b2d hf with ⟨e9, g11, hf⟩ | ⟨e10, g11, hf⟩
  · refine am_pick [0, 1, 2, 3, 4, 5] rfl (l_X11_leastLag_L3 hE (Nat.le_refl _) am_fu _ _ g11 (fun ex he => ?_) (fun ex he => by cases he))
    cases he
    refine am_iload (am_dec tmX11_leastLag 25 rfl) rfl ?_
    have hf := Option.some.inj hf
    subst hf
    exact am_iret (am_dec tmX11_leastLag 26 rfl) rfl (Nat.zero_le _) (Nat.zero_le _)
  · refine am_pick [0, 1, 2, 3, 4, 5] rfl (l_X11_leastLag_L3 hE (Nat.le_refl _) am_fu _ _ g11 (fun ex he => by cases he) (fun ex he => ?_))
    cases he
    refine am_iconst (v := (-1 : Int32)) (am_dec tmX11_leastLag 29 rfl) (by decide) ?_
    have hf := Option.some.inj hf
    subst hf
    exact am_iret (am_dec tmX11_leastLag 30 rfl) rfl (Nat.zero_le _) (Nat.zero_le _)
def f_X11_lag (p1 : Int32) (p2 : Int32) (p3 : Int32) (p4 : Int32) : Option (String ⊕ Int32) :=
    (f_X11_isStream p1).bind fun x2 =>
    (if x2 = 0 then
    some ((0 : Int32))
    else
    (f_X11_isStream p2).bind fun x6 =>
    if x6 = 0 then
    some ((0 : Int32))
    else
    (f_X11_isBuffer p3 p4).bind fun x9 =>
    if x9 = 0 then
    some ((0 : Int32))
    else
    some ((1 : Int32))).bind fun w11 =>
    am_bt (f_X11_need w11) fun x13 =>
    (f_X11_leastLag p1 p2 p2 p3 p4).bind fun x15 =>
    some (.inr x15)
set_option maxRecDepth 100000 in
set_option maxHeartbeats 4000000 in
theorem c_X11_lag {E : am_E} (hE : am_EH E) {p1 : Int32} {p2 : Int32} {p3 : Int32} {p4 : Int32} {D : am_D} {r : Int32}  (hf : f_X11_lag p1 p2 p3 p4 = some (.inr r)) : am_C E mX11_lag 3 0 0 [.ref 16, .int p1, .int p2, .int p3, .int p4] am_G0 D (.inl (some (.int r))) am_G0 D := by
  refine am_C_of (by decide +kernel) (Nat.le_of_ble_eq_true rfl) ?_
  change am_S E mX11_lag 3 0 0 (.inl (some (.int r))) am_G0 D 0 0 0 [(0, .ref 16), (1, .int p1), (2, .int p2), (3, .int p3), (4, .int p4)] [] am_G0 D
  unfold f_X11_lag at hf
  refine am_iload_n (am_dec tmX11_lag 0 rfl) rfl rfl ?_
  obtain ⟨x2, g1, hf⟩ := am_bd hf
  refine am_callS1 (As := [.int p1]) (st := []) (am_dec tmX11_lag 1 rfl) ok_X11_isStream rfl lm_X11_417 st_X11_isStream (c_X11_isStream hE g1) rfl (by decide) (Nat.le_of_ble_eq_true rfl) (Nat.zero_le _) (Nat.zero_le _) rfl ?_
  obtain ⟨w11, g16, hf⟩ := am_bd hf
  have key4 : am_S E mX11_lag 3 0 0 (.inl (some (.int r))) am_G0 D 0 0 28 [(1, .int p1), (2, .int p2), (3, .int p3), (4, .int p4)] [.int w11] am_G0 D := by
    obtain ⟨x13, g12, hf⟩ := am_btR hf
    refine am_callS0 (As := [.int w11]) (st := []) (am_dec tmX11_lag 13 rfl) ok_X11_need rfl lm_X11_94 st_X11_need (c_X11_need hE g12) rfl (by decide) (Nat.le_of_ble_eq_true rfl) (Nat.zero_le _) (Nat.zero_le _) rfl ?_
    refine am_iload_n (am_dec tmX11_lag 14 rfl) rfl rfl ?_
    refine am_iload_n (am_dec tmX11_lag 15 rfl) rfl rfl ?_
    refine am_iload_n (am_dec tmX11_lag 16 rfl) rfl rfl ?_
    refine am_iload_n (am_dec tmX11_lag 17 rfl) rfl rfl ?_
    refine am_iload (am_dec tmX11_lag 18 rfl) rfl ?_
    obtain ⟨x15, g14, hf⟩ := am_bd hf
    refine am_callS1 (As := [.int p1, .int p2, .int p2, .int p3, .int p4]) (st := []) (am_dec tmX11_lag 19 rfl) ok_X11_leastLag rfl lm_X11_423 st_X11_leastLag (c_X11_leastLag hE g14) rfl (by decide) (Nat.le_of_ble_eq_true rfl) (Nat.zero_le _) (Nat.zero_le _) rfl ?_
    have hf := Sum.inr.inj (Option.some.inj hf)
    subst hf
    exact am_iret (am_dec tmX11_lag 20 rfl) rfl (Nat.zero_le _) (Nat.zero_le _)
  replace hf := g16
  refine am_if_eq (tgt := 27) (am_dec tmX11_lag 2 rfl) (by decide) (fun c3 => ?_) (fun c3 => ?_)
  · rw [if_pos c3] at hf
    refine am_iconst (v := (0 : Int32)) (am_dec tmX11_lag 12 rfl) (by decide) ?_
    have hf := Option.some.inj hf
    subst hf
    exact am_pick [1, 2, 3, 4] rfl key4
  · rw [if_neg c3] at hf
    refine am_iload_n (am_dec tmX11_lag 3 rfl) rfl rfl ?_
    obtain ⟨x6, g5, hf⟩ := am_bd hf
    refine am_callS1 (As := [.int p2]) (st := []) (am_dec tmX11_lag 4 rfl) ok_X11_isStream rfl lm_X11_417 st_X11_isStream (c_X11_isStream hE g5) rfl (by decide) (Nat.le_of_ble_eq_true rfl) (Nat.zero_le _) (Nat.zero_le _) rfl ?_
    refine am_if_eq (tgt := 27) (am_dec tmX11_lag 5 rfl) (by decide) (fun c7 => ?_) (fun c7 => ?_)
    · rw [if_pos c7] at hf
      refine am_iconst (v := (0 : Int32)) (am_dec tmX11_lag 12 rfl) (by decide) ?_
      have hf := Option.some.inj hf
      subst hf
      exact am_pick [1, 2, 3, 4] rfl key4
    · rw [if_neg c7] at hf
      refine am_iload_n (am_dec tmX11_lag 6 rfl) rfl rfl ?_
      refine am_iload (am_dec tmX11_lag 7 rfl) rfl ?_
      obtain ⟨x9, g8, hf⟩ := am_bd hf
      refine am_callS1 (As := [.int p3, .int p4]) (st := []) (am_dec tmX11_lag 8 rfl) ok_X11_isBuffer rfl lm_X11_420 st_X11_isBuffer (c_X11_isBuffer hE g8) rfl (by decide) (Nat.le_of_ble_eq_true rfl) (Nat.zero_le _) (Nat.zero_le _) rfl ?_
      refine am_if_eq (tgt := 27) (am_dec tmX11_lag 9 rfl) (by decide) (fun c10 => ?_) (fun c10 => ?_)
      · rw [if_pos c10] at hf
        refine am_iconst (v := (0 : Int32)) (am_dec tmX11_lag 12 rfl) (by decide) ?_
        have hf := Option.some.inj hf
        subst hf
        exact am_pick [1, 2, 3, 4] rfl key4
      · rw [if_neg c10] at hf
        refine am_iconst (v := (1 : Int32)) (am_dec tmX11_lag 10 rfl) (by decide) ?_
        refine am_goto (tgt := 28) (am_dec tmX11_lag 11 rfl) (by decide) ?_
        have hf := Option.some.inj hf
        subst hf
        exact am_pick [1, 2, 3, 4] rfl key4
set_option maxRecDepth 100000 in
set_option maxHeartbeats 4000000 in
theorem t_X11_lag {E : am_E} (hE : am_EH E) {p1 : Int32} {p2 : Int32} {p3 : Int32} {p4 : Int32} {D : am_D} {r : String}  (hf : f_X11_lag p1 p2 p3 p4 = some (.inl r)) : am_C E mX11_lag 3 1 6 [.ref 16, .int p1, .int p2, .int p3, .int p4] am_G0 D (.inr r) am_G0 D := by
  refine am_C_of (by decide +kernel) (Nat.le_of_ble_eq_true rfl) ?_
  change am_S E mX11_lag 3 1 6 (.inr r) am_G0 D 0 0 0 [(0, .ref 16), (1, .int p1), (2, .int p2), (3, .int p3), (4, .int p4)] [] am_G0 D
  unfold f_X11_lag at hf
  refine am_iload_n (am_dec tmX11_lag 0 rfl) rfl rfl ?_
  obtain ⟨x2, g1, hf⟩ := am_bd hf
  refine am_callS1 (As := [.int p1]) (st := []) (am_dec tmX11_lag 1 rfl) ok_X11_isStream rfl lm_X11_417 st_X11_isStream (c_X11_isStream hE g1) rfl (by decide) (Nat.le_of_ble_eq_true rfl) (Nat.zero_le _) (Nat.zero_le _) rfl ?_
  obtain ⟨w11, g16, hf⟩ := am_bd hf
  have key4 : am_S E mX11_lag 3 1 6 (.inr r) am_G0 D 0 0 28 [(1, .int p1), (2, .int p2), (3, .int p3), (4, .int p4)] [.int w11] am_G0 D := by
    rcases am_btT hf with g12 | ⟨x13, g12, hf⟩
    · exact am_callS_out (As := [.int w11]) (st := []) (am_dec tmX11_lag 13 rfl) ok_X11_need rfl lm_X11_94 st_X11_need (t_X11_need hE g12) rfl (by decide) (Nat.le_of_ble_eq_true rfl) (Nat.le_refl _) (Nat.le_refl _) rfl rfl
    · refine am_callS0 (As := [.int w11]) (st := []) (am_dec tmX11_lag 13 rfl) ok_X11_need rfl lm_X11_94 st_X11_need (c_X11_need hE g12) rfl (by decide) (Nat.le_of_ble_eq_true rfl) (Nat.zero_le _) (Nat.zero_le _) rfl ?_
      refine am_iload_n (am_dec tmX11_lag 14 rfl) rfl rfl ?_
      refine am_iload_n (am_dec tmX11_lag 15 rfl) rfl rfl ?_
      refine am_iload_n (am_dec tmX11_lag 16 rfl) rfl rfl ?_
      refine am_iload_n (am_dec tmX11_lag 17 rfl) rfl rfl ?_
      refine am_iload (am_dec tmX11_lag 18 rfl) rfl ?_
      obtain ⟨x15, g14, hf⟩ := am_bd hf
      refine am_callS1 (As := [.int p1, .int p2, .int p2, .int p3, .int p4]) (st := []) (am_dec tmX11_lag 19 rfl) ok_X11_leastLag rfl lm_X11_423 st_X11_leastLag (c_X11_leastLag hE g14) rfl (by decide) (Nat.le_of_ble_eq_true rfl) (Nat.zero_le _) (Nat.zero_le _) rfl ?_
      cases hf
  replace hf := g16
  refine am_if_eq (tgt := 27) (am_dec tmX11_lag 2 rfl) (by decide) (fun c3 => ?_) (fun c3 => ?_)
  · rw [if_pos c3] at hf
    refine am_iconst (v := (0 : Int32)) (am_dec tmX11_lag 12 rfl) (by decide) ?_
    have hf := Option.some.inj hf
    subst hf
    exact am_pick [1, 2, 3, 4] rfl key4
  · rw [if_neg c3] at hf
    refine am_iload_n (am_dec tmX11_lag 3 rfl) rfl rfl ?_
    obtain ⟨x6, g5, hf⟩ := am_bd hf
    refine am_callS1 (As := [.int p2]) (st := []) (am_dec tmX11_lag 4 rfl) ok_X11_isStream rfl lm_X11_417 st_X11_isStream (c_X11_isStream hE g5) rfl (by decide) (Nat.le_of_ble_eq_true rfl) (Nat.zero_le _) (Nat.zero_le _) rfl ?_
    refine am_if_eq (tgt := 27) (am_dec tmX11_lag 5 rfl) (by decide) (fun c7 => ?_) (fun c7 => ?_)
    · rw [if_pos c7] at hf
      refine am_iconst (v := (0 : Int32)) (am_dec tmX11_lag 12 rfl) (by decide) ?_
      have hf := Option.some.inj hf
      subst hf
      exact am_pick [1, 2, 3, 4] rfl key4
    · rw [if_neg c7] at hf
      refine am_iload_n (am_dec tmX11_lag 6 rfl) rfl rfl ?_
      refine am_iload (am_dec tmX11_lag 7 rfl) rfl ?_
      obtain ⟨x9, g8, hf⟩ := am_bd hf
      refine am_callS1 (As := [.int p3, .int p4]) (st := []) (am_dec tmX11_lag 8 rfl) ok_X11_isBuffer rfl lm_X11_420 st_X11_isBuffer (c_X11_isBuffer hE g8) rfl (by decide) (Nat.le_of_ble_eq_true rfl) (Nat.zero_le _) (Nat.zero_le _) rfl ?_
      refine am_if_eq (tgt := 27) (am_dec tmX11_lag 9 rfl) (by decide) (fun c10 => ?_) (fun c10 => ?_)
      · rw [if_pos c10] at hf
        refine am_iconst (v := (0 : Int32)) (am_dec tmX11_lag 12 rfl) (by decide) ?_
        have hf := Option.some.inj hf
        subst hf
        exact am_pick [1, 2, 3, 4] rfl key4
      · rw [if_neg c10] at hf
        refine am_iconst (v := (1 : Int32)) (am_dec tmX11_lag 10 rfl) (by decide) ?_
        refine am_goto (tgt := 28) (am_dec tmX11_lag 11 rfl) (by decide) ?_
        have hf := Option.some.inj hf
        subst hf
        exact am_pick [1, 2, 3, 4] rfl key4
def f_X11_lags (p1 : Int32) (p2 : Int32) (p3 : Int32) (p4 : Int32) (p5 : Int32) : Option (String ⊕ Int32) :=
    (f_X11_isStream p1).bind fun x2 =>
    (if x2 = 0 then
    some ((0 : Int32))
    else
    (f_X11_isStream p2).bind fun x6 =>
    if x6 = 0 then
    some ((0 : Int32))
    else
    (f_X11_isStream p3).bind fun x9 =>
    if x9 = 0 then
    some ((0 : Int32))
    else
    if p3 < p2 then
    some ((0 : Int32))
    else
    (f_X11_isBuffer p4 p5).bind fun x13 =>
    if x13 = 0 then
    some ((0 : Int32))
    else
    some ((1 : Int32))).bind fun w15 =>
    am_bt (f_X11_need w15) fun x17 =>
    (f_X11_leastLag p1 p2 p3 p4 p5).bind fun x19 =>
    some (.inr x19)
set_option maxRecDepth 100000 in
set_option maxHeartbeats 4000000 in
theorem c_X11_lags {E : am_E} (hE : am_EH E) {p1 : Int32} {p2 : Int32} {p3 : Int32} {p4 : Int32} {p5 : Int32} {D : am_D} {r : Int32}  (hf : f_X11_lags p1 p2 p3 p4 p5 = some (.inr r)) : am_C E mX11_lags 3 0 0 [.ref 16, .int p1, .int p2, .int p3, .int p4, .int p5] am_G0 D (.inl (some (.int r))) am_G0 D := by
  refine am_C_of (by decide +kernel) (Nat.le_of_ble_eq_true rfl) ?_
  change am_S E mX11_lags 3 0 0 (.inl (some (.int r))) am_G0 D 0 0 0 [(0, .ref 16), (1, .int p1), (2, .int p2), (3, .int p3), (4, .int p4), (5, .int p5)] [] am_G0 D
  unfold f_X11_lags at hf
  refine am_iload_n (am_dec tmX11_lags 0 rfl) rfl rfl ?_
  obtain ⟨x2, g1, hf⟩ := am_bd hf
  refine am_callS1 (As := [.int p1]) (st := []) (am_dec tmX11_lags 1 rfl) ok_X11_isStream rfl lm_X11_417 st_X11_isStream (c_X11_isStream hE g1) rfl (by decide) (Nat.le_of_ble_eq_true rfl) (Nat.zero_le _) (Nat.zero_le _) rfl ?_
  obtain ⟨w15, g20, hf⟩ := am_bd hf
  have key4 : am_S E mX11_lags 3 0 0 (.inl (some (.int r))) am_G0 D 0 0 41 [(1, .int p1), (2, .int p2), (3, .int p3), (4, .int p4), (5, .int p5)] [.int w15] am_G0 D := by
    obtain ⟨x17, g16, hf⟩ := am_btR hf
    refine am_callS0 (As := [.int w15]) (st := []) (am_dec tmX11_lags 19 rfl) ok_X11_need rfl lm_X11_94 st_X11_need (c_X11_need hE g16) rfl (by decide) (Nat.le_of_ble_eq_true rfl) (Nat.zero_le _) (Nat.zero_le _) rfl ?_
    refine am_iload_n (am_dec tmX11_lags 20 rfl) rfl rfl ?_
    refine am_iload_n (am_dec tmX11_lags 21 rfl) rfl rfl ?_
    refine am_iload_n (am_dec tmX11_lags 22 rfl) rfl rfl ?_
    refine am_iload (am_dec tmX11_lags 23 rfl) rfl ?_
    refine am_iload (am_dec tmX11_lags 24 rfl) rfl ?_
    obtain ⟨x19, g18, hf⟩ := am_bd hf
    refine am_callS1 (As := [.int p1, .int p2, .int p3, .int p4, .int p5]) (st := []) (am_dec tmX11_lags 25 rfl) ok_X11_leastLag rfl lm_X11_423 st_X11_leastLag (c_X11_leastLag hE g18) rfl (by decide) (Nat.le_of_ble_eq_true rfl) (Nat.zero_le _) (Nat.zero_le _) rfl ?_
    have hf := Sum.inr.inj (Option.some.inj hf)
    subst hf
    exact am_iret (am_dec tmX11_lags 26 rfl) rfl (Nat.zero_le _) (Nat.zero_le _)
  replace hf := g20
  refine am_if_eq (tgt := 40) (am_dec tmX11_lags 2 rfl) (by decide) (fun c3 => ?_) (fun c3 => ?_)
  · rw [if_pos c3] at hf
    refine am_iconst (v := (0 : Int32)) (am_dec tmX11_lags 18 rfl) (by decide) ?_
    have hf := Option.some.inj hf
    subst hf
    exact am_pick [1, 2, 3, 4, 5] rfl key4
  · rw [if_neg c3] at hf
    refine am_iload_n (am_dec tmX11_lags 3 rfl) rfl rfl ?_
    obtain ⟨x6, g5, hf⟩ := am_bd hf
    refine am_callS1 (As := [.int p2]) (st := []) (am_dec tmX11_lags 4 rfl) ok_X11_isStream rfl lm_X11_417 st_X11_isStream (c_X11_isStream hE g5) rfl (by decide) (Nat.le_of_ble_eq_true rfl) (Nat.zero_le _) (Nat.zero_le _) rfl ?_
    refine am_if_eq (tgt := 40) (am_dec tmX11_lags 5 rfl) (by decide) (fun c7 => ?_) (fun c7 => ?_)
    · rw [if_pos c7] at hf
      refine am_iconst (v := (0 : Int32)) (am_dec tmX11_lags 18 rfl) (by decide) ?_
      have hf := Option.some.inj hf
      subst hf
      exact am_pick [1, 2, 3, 4, 5] rfl key4
    · rw [if_neg c7] at hf
      refine am_iload_n (am_dec tmX11_lags 6 rfl) rfl rfl ?_
      obtain ⟨x9, g8, hf⟩ := am_bd hf
      refine am_callS1 (As := [.int p3]) (st := []) (am_dec tmX11_lags 7 rfl) ok_X11_isStream rfl lm_X11_417 st_X11_isStream (c_X11_isStream hE g8) rfl (by decide) (Nat.le_of_ble_eq_true rfl) (Nat.zero_le _) (Nat.zero_le _) rfl ?_
      refine am_if_eq (tgt := 40) (am_dec tmX11_lags 8 rfl) (by decide) (fun c10 => ?_) (fun c10 => ?_)
      · rw [if_pos c10] at hf
        refine am_iconst (v := (0 : Int32)) (am_dec tmX11_lags 18 rfl) (by decide) ?_
        have hf := Option.some.inj hf
        subst hf
        exact am_pick [1, 2, 3, 4, 5] rfl key4
      · rw [if_neg c10] at hf
        refine am_iload_n (am_dec tmX11_lags 9 rfl) rfl rfl ?_
        refine am_iload_n (am_dec tmX11_lags 10 rfl) rfl rfl ?_
        refine am_icmp_lt (tgt := 40) (am_dec tmX11_lags 11 rfl) (by decide) (fun c11 => ?_) (fun c11 => ?_)
        · rw [if_pos c11] at hf
          refine am_iconst (v := (0 : Int32)) (am_dec tmX11_lags 18 rfl) (by decide) ?_
          have hf := Option.some.inj hf
          subst hf
          exact am_pick [1, 2, 3, 4, 5] rfl key4
        · rw [if_neg c11] at hf
          refine am_iload (am_dec tmX11_lags 12 rfl) rfl ?_
          refine am_iload (am_dec tmX11_lags 13 rfl) rfl ?_
          obtain ⟨x13, g12, hf⟩ := am_bd hf
          refine am_callS1 (As := [.int p4, .int p5]) (st := []) (am_dec tmX11_lags 14 rfl) ok_X11_isBuffer rfl lm_X11_420 st_X11_isBuffer (c_X11_isBuffer hE g12) rfl (by decide) (Nat.le_of_ble_eq_true rfl) (Nat.zero_le _) (Nat.zero_le _) rfl ?_
          refine am_if_eq (tgt := 40) (am_dec tmX11_lags 15 rfl) (by decide) (fun c14 => ?_) (fun c14 => ?_)
          · rw [if_pos c14] at hf
            refine am_iconst (v := (0 : Int32)) (am_dec tmX11_lags 18 rfl) (by decide) ?_
            have hf := Option.some.inj hf
            subst hf
            exact am_pick [1, 2, 3, 4, 5] rfl key4
          · rw [if_neg c14] at hf
            refine am_iconst (v := (1 : Int32)) (am_dec tmX11_lags 16 rfl) (by decide) ?_
            refine am_goto (tgt := 41) (am_dec tmX11_lags 17 rfl) (by decide) ?_
            have hf := Option.some.inj hf
            subst hf
            exact am_pick [1, 2, 3, 4, 5] rfl key4
set_option maxRecDepth 100000 in
set_option maxHeartbeats 4000000 in
theorem t_X11_lags {E : am_E} (hE : am_EH E) {p1 : Int32} {p2 : Int32} {p3 : Int32} {p4 : Int32} {p5 : Int32} {D : am_D} {r : String}  (hf : f_X11_lags p1 p2 p3 p4 p5 = some (.inl r)) : am_C E mX11_lags 3 1 6 [.ref 16, .int p1, .int p2, .int p3, .int p4, .int p5] am_G0 D (.inr r) am_G0 D := by
  refine am_C_of (by decide +kernel) (Nat.le_of_ble_eq_true rfl) ?_
  change am_S E mX11_lags 3 1 6 (.inr r) am_G0 D 0 0 0 [(0, .ref 16), (1, .int p1), (2, .int p2), (3, .int p3), (4, .int p4), (5, .int p5)] [] am_G0 D
  unfold f_X11_lags at hf
  refine am_iload_n (am_dec tmX11_lags 0 rfl) rfl rfl ?_
  obtain ⟨x2, g1, hf⟩ := am_bd hf
  refine am_callS1 (As := [.int p1]) (st := []) (am_dec tmX11_lags 1 rfl) ok_X11_isStream rfl lm_X11_417 st_X11_isStream (c_X11_isStream hE g1) rfl (by decide) (Nat.le_of_ble_eq_true rfl) (Nat.zero_le _) (Nat.zero_le _) rfl ?_
  obtain ⟨w15, g20, hf⟩ := am_bd hf
  have key4 : am_S E mX11_lags 3 1 6 (.inr r) am_G0 D 0 0 41 [(1, .int p1), (2, .int p2), (3, .int p3), (4, .int p4), (5, .int p5)] [.int w15] am_G0 D := by
    rcases am_btT hf with g16 | ⟨x17, g16, hf⟩
    · exact am_callS_out (As := [.int w15]) (st := []) (am_dec tmX11_lags 19 rfl) ok_X11_need rfl lm_X11_94 st_X11_need (t_X11_need hE g16) rfl (by decide) (Nat.le_of_ble_eq_true rfl) (Nat.le_refl _) (Nat.le_refl _) rfl rfl
    · refine am_callS0 (As := [.int w15]) (st := []) (am_dec tmX11_lags 19 rfl) ok_X11_need rfl lm_X11_94 st_X11_need (c_X11_need hE g16) rfl (by decide) (Nat.le_of_ble_eq_true rfl) (Nat.zero_le _) (Nat.zero_le _) rfl ?_
      refine am_iload_n (am_dec tmX11_lags 20 rfl) rfl rfl ?_
      refine am_iload_n (am_dec tmX11_lags 21 rfl) rfl rfl ?_
      refine am_iload_n (am_dec tmX11_lags 22 rfl) rfl rfl ?_
      refine am_iload (am_dec tmX11_lags 23 rfl) rfl ?_
      refine am_iload (am_dec tmX11_lags 24 rfl) rfl ?_
      obtain ⟨x19, g18, hf⟩ := am_bd hf
      refine am_callS1 (As := [.int p1, .int p2, .int p3, .int p4, .int p5]) (st := []) (am_dec tmX11_lags 25 rfl) ok_X11_leastLag rfl lm_X11_423 st_X11_leastLag (c_X11_leastLag hE g18) rfl (by decide) (Nat.le_of_ble_eq_true rfl) (Nat.zero_le _) (Nat.zero_le _) rfl ?_
      cases hf
  replace hf := g20
  refine am_if_eq (tgt := 40) (am_dec tmX11_lags 2 rfl) (by decide) (fun c3 => ?_) (fun c3 => ?_)
  · rw [if_pos c3] at hf
    refine am_iconst (v := (0 : Int32)) (am_dec tmX11_lags 18 rfl) (by decide) ?_
    have hf := Option.some.inj hf
    subst hf
    exact am_pick [1, 2, 3, 4, 5] rfl key4
  · rw [if_neg c3] at hf
    refine am_iload_n (am_dec tmX11_lags 3 rfl) rfl rfl ?_
    obtain ⟨x6, g5, hf⟩ := am_bd hf
    refine am_callS1 (As := [.int p2]) (st := []) (am_dec tmX11_lags 4 rfl) ok_X11_isStream rfl lm_X11_417 st_X11_isStream (c_X11_isStream hE g5) rfl (by decide) (Nat.le_of_ble_eq_true rfl) (Nat.zero_le _) (Nat.zero_le _) rfl ?_
    refine am_if_eq (tgt := 40) (am_dec tmX11_lags 5 rfl) (by decide) (fun c7 => ?_) (fun c7 => ?_)
    · rw [if_pos c7] at hf
      refine am_iconst (v := (0 : Int32)) (am_dec tmX11_lags 18 rfl) (by decide) ?_
      have hf := Option.some.inj hf
      subst hf
      exact am_pick [1, 2, 3, 4, 5] rfl key4
    · rw [if_neg c7] at hf
      refine am_iload_n (am_dec tmX11_lags 6 rfl) rfl rfl ?_
      obtain ⟨x9, g8, hf⟩ := am_bd hf
      refine am_callS1 (As := [.int p3]) (st := []) (am_dec tmX11_lags 7 rfl) ok_X11_isStream rfl lm_X11_417 st_X11_isStream (c_X11_isStream hE g8) rfl (by decide) (Nat.le_of_ble_eq_true rfl) (Nat.zero_le _) (Nat.zero_le _) rfl ?_
      refine am_if_eq (tgt := 40) (am_dec tmX11_lags 8 rfl) (by decide) (fun c10 => ?_) (fun c10 => ?_)
      · rw [if_pos c10] at hf
        refine am_iconst (v := (0 : Int32)) (am_dec tmX11_lags 18 rfl) (by decide) ?_
        have hf := Option.some.inj hf
        subst hf
        exact am_pick [1, 2, 3, 4, 5] rfl key4
      · rw [if_neg c10] at hf
        refine am_iload_n (am_dec tmX11_lags 9 rfl) rfl rfl ?_
        refine am_iload_n (am_dec tmX11_lags 10 rfl) rfl rfl ?_
        refine am_icmp_lt (tgt := 40) (am_dec tmX11_lags 11 rfl) (by decide) (fun c11 => ?_) (fun c11 => ?_)
        · rw [if_pos c11] at hf
          refine am_iconst (v := (0 : Int32)) (am_dec tmX11_lags 18 rfl) (by decide) ?_
          have hf := Option.some.inj hf
          subst hf
          exact am_pick [1, 2, 3, 4, 5] rfl key4
        · rw [if_neg c11] at hf
          refine am_iload (am_dec tmX11_lags 12 rfl) rfl ?_
          refine am_iload (am_dec tmX11_lags 13 rfl) rfl ?_
          obtain ⟨x13, g12, hf⟩ := am_bd hf
          refine am_callS1 (As := [.int p4, .int p5]) (st := []) (am_dec tmX11_lags 14 rfl) ok_X11_isBuffer rfl lm_X11_420 st_X11_isBuffer (c_X11_isBuffer hE g12) rfl (by decide) (Nat.le_of_ble_eq_true rfl) (Nat.zero_le _) (Nat.zero_le _) rfl ?_
          refine am_if_eq (tgt := 40) (am_dec tmX11_lags 15 rfl) (by decide) (fun c14 => ?_) (fun c14 => ?_)
          · rw [if_pos c14] at hf
            refine am_iconst (v := (0 : Int32)) (am_dec tmX11_lags 18 rfl) (by decide) ?_
            have hf := Option.some.inj hf
            subst hf
            exact am_pick [1, 2, 3, 4, 5] rfl key4
          · rw [if_neg c14] at hf
            refine am_iconst (v := (1 : Int32)) (am_dec tmX11_lags 16 rfl) (by decide) ?_
            refine am_goto (tgt := 41) (am_dec tmX11_lags 17 rfl) (by decide) ?_
            have hf := Option.some.inj hf
            subst hf
            exact am_pick [1, 2, 3, 4, 5] rfl key4
def f_X11_lost (p1 : Int32) (p2 : Int32) (p3 : Int32) (D : am_D) : Option ((String × am_D) ⊕ (Int32 × am_D)) :=
    am_btD (f_X11_soundOf p1 D) D fun x2 =>
    am_btD (f_X11_mapOf p2 D) D fun x4 =>
    am_btD (f_X11_mapOf p3 D) D fun x6 =>
    am_btD (f_X11_needLong x2 x4 23 D) D fun x8 =>
    (f_X3_drawOut 81 x2 x4 23 D).bind fun x10 =>
    am_btD (f_X11_needLong 84 x6 23 x10) x10 fun x12 =>
    (f_X3_drawOut 91 84 x6 23 x10).bind fun x14 =>
    (f_X7_farFrom x2 94 x14).bind fun x16 =>
    some (.inr (x16, x14))
set_option maxRecDepth 100000 in
set_option maxHeartbeats 4000000 in
theorem c_X11_lost {E : am_E} (hE : am_EH E) {p1 : Int32} {p2 : Int32} {p3 : Int32} {D : am_D} {r : (Int32 × am_D)}  (hf : f_X11_lost p1 p2 p3 D = some (.inr r)) : am_C E mX11_lost 6 0 0 [.ref 16, .int p1, .int p2, .int p3] am_G0 D (.inl (some (.int r.1))) am_G0 r.2 := by
  refine am_C_of (by decide +kernel) (Nat.le_of_ble_eq_true rfl) ?_
  change am_S E mX11_lost 6 0 0 (.inl (some (.int r.1))) am_G0 r.2 0 0 0 [(0, .ref 16), (1, .int p1), (2, .int p2), (3, .int p3)] [] am_G0 D
  unfold f_X11_lost at hf
  refine am_aload_n (am_dec tmX11_lost 0 rfl) rfl rfl ?_
  refine am_iload_n (am_dec tmX11_lost 1 rfl) rfl rfl ?_
  obtain ⟨x2, g1, hf⟩ := am_btDR hf
  have h_x2 := k_X11_soundOf g1
  refine am_callV1 (As := [.int p1]) (st := []) hE (am_dec tmX11_lost 2 rfl) ok_X11_soundOf rfl lm_X11_130 in_X11_soundOf se_X11_soundOf sh_16 cf11 (c_X11_soundOf hE g1) rfl (by decide) (Nat.le_of_ble_eq_true rfl) (Nat.zero_le _) (Nat.zero_le _) rfl ?_
  refine am_astore (lv' := [(0, .ref 16), (1, .int p1), (2, .int p2), (3, .int p3), (4, .ref x2)]) (am_dec tmX11_lost 3 rfl) (by decide) rfl ?_
  refine am_aload_n (am_dec tmX11_lost 4 rfl) rfl rfl ?_
  refine am_iload_n (am_dec tmX11_lost 5 rfl) rfl rfl ?_
  obtain ⟨x4, g3, hf⟩ := am_btDR hf
  have h_x4 := k_X11_mapOf g3
  refine am_callV1 (As := [.int p2]) (st := []) hE (am_dec tmX11_lost 6 rfl) ok_X11_mapOf rfl lm_X11_139 in_X11_mapOf se_X11_mapOf sh_16 cf11 (c_X11_mapOf hE g3) rfl (by decide) (Nat.le_of_ble_eq_true rfl) (Nat.zero_le _) (Nat.zero_le _) rfl ?_
  refine am_astore (lv' := [(0, .ref 16), (1, .int p1), (2, .int p2), (3, .int p3), (4, .ref x2), (5, .ref x4)]) (am_dec tmX11_lost 7 rfl) (by decide) rfl ?_
  refine am_aload_n (am_dec tmX11_lost 8 rfl) rfl rfl ?_
  refine am_iload_n (am_dec tmX11_lost 9 rfl) rfl rfl ?_
  obtain ⟨x6, g5, hf⟩ := am_btDR hf
  have h_x6 := k_X11_mapOf g5
  refine am_callV1 (As := [.int p3]) (st := []) hE (am_dec tmX11_lost 10 rfl) ok_X11_mapOf rfl lm_X11_139 in_X11_mapOf se_X11_mapOf sh_16 cf11 (c_X11_mapOf hE g5) rfl (by decide) (Nat.le_of_ble_eq_true rfl) (Nat.zero_le _) (Nat.zero_le _) rfl ?_
  refine am_astore (lv' := [(0, .ref 16), (1, .int p1), (2, .int p2), (3, .int p3), (4, .ref x2), (5, .ref x4), (6, .ref x6)]) (am_dec tmX11_lost 11 rfl) (by decide) rfl ?_
  refine am_aload (am_dec tmX11_lost 12 rfl) rfl ?_
  refine am_aload (am_dec tmX11_lost 13 rfl) rfl ?_
  refine am_aload_n (am_dec tmX11_lost 14 rfl) rfl rfl ?_
  refine am_getR (j := 0) hE (am_dec tmX11_lost 15 rfl) sh_16 cf11 (by decide) rfl lf_X11_10 rf_16_0 ?_
  refine am_getR (j := 5) hE (am_dec tmX11_lost 16 rfl) sh_17 cf1 (by decide) rfl lf_X11_165 rf_17_5 ?_
  obtain ⟨x8, g7, hf⟩ := am_btDR hf
  refine am_callS0 (As := [.ref x2, .ref x4, .ref 23]) (st := []) (am_dec tmX11_lost 17 rfl) ok_X11_needLong rfl lm_X11_176 st_X11_needLong (c_X11_needLong hE h_x2 h_x4 sh_23 g7) rfl (by decide) (Nat.le_of_ble_eq_true rfl) (Nat.zero_le _) (Nat.zero_le _) rfl ?_
  refine am_aload_n (am_dec tmX11_lost 18 rfl) rfl rfl ?_
  refine am_getR (j := 5) hE (am_dec tmX11_lost 19 rfl) sh_16 cf11 (by decide) rfl lf_X11_37 rf_16_5 ?_
  refine am_aload (am_dec tmX11_lost 20 rfl) rfl ?_
  refine am_aload (am_dec tmX11_lost 21 rfl) rfl ?_
  refine am_aload_n (am_dec tmX11_lost 22 rfl) rfl rfl ?_
  refine am_getR (j := 0) hE (am_dec tmX11_lost 23 rfl) sh_16 cf11 (by decide) rfl lf_X11_10 rf_16_0 ?_
  refine am_getR (j := 5) hE (am_dec tmX11_lost 24 rfl) sh_17 cf1 (by decide) rfl lf_X11_165 rf_17_5 ?_
  obtain ⟨x10, g9, hf⟩ := am_bd hf
  refine am_callV0 (As := [.ref x2, .ref x4, .ref 23]) (st := []) hE (am_dec tmX11_lost 25 rfl) ok_X3_drawOut rfl lm_X11_180 in_X3_drawOut se_X3_drawOut sh_81 cf3 (c_X3_drawOut hE sh_81 h_x2 h_x4 sh_23 g9) rfl (by decide) (Nat.le_of_ble_eq_true rfl) (Nat.zero_le _) (Nat.zero_le _) rfl ?_
  refine am_aload_n (am_dec tmX11_lost 26 rfl) rfl rfl ?_
  refine am_getR (j := 5) hE (am_dec tmX11_lost 27 rfl) sh_16 cf11 (by decide) rfl lf_X11_37 rf_16_5 ?_
  refine am_getR (j := 1) hE (am_dec tmX11_lost 28 rfl) sh_81 cf3 (by decide) rfl lf_X11_197 rf_81_1 ?_
  refine am_aload (am_dec tmX11_lost 29 rfl) rfl ?_
  refine am_aload_n (am_dec tmX11_lost 30 rfl) rfl rfl ?_
  refine am_getR (j := 0) hE (am_dec tmX11_lost 31 rfl) sh_16 cf11 (by decide) rfl lf_X11_10 rf_16_0 ?_
  refine am_getR (j := 5) hE (am_dec tmX11_lost 32 rfl) sh_17 cf1 (by decide) rfl lf_X11_165 rf_17_5 ?_
  obtain ⟨x12, g11, hf⟩ := am_btDR hf
  refine am_callS0 (As := [.ref 84, .ref x6, .ref 23]) (st := []) (am_dec tmX11_lost 33 rfl) ok_X11_needLong rfl lm_X11_176 st_X11_needLong (c_X11_needLong hE sh_84 h_x6 sh_23 g11) rfl (by decide) (Nat.le_of_ble_eq_true rfl) (Nat.zero_le _) (Nat.zero_le _) rfl ?_
  refine am_aload_n (am_dec tmX11_lost 34 rfl) rfl rfl ?_
  refine am_getR (j := 6) hE (am_dec tmX11_lost 35 rfl) sh_16 cf11 (by decide) rfl lf_X11_40 rf_16_6 ?_
  refine am_aload_n (am_dec tmX11_lost 36 rfl) rfl rfl ?_
  refine am_getR (j := 5) hE (am_dec tmX11_lost 37 rfl) sh_16 cf11 (by decide) rfl lf_X11_37 rf_16_5 ?_
  refine am_getR (j := 1) hE (am_dec tmX11_lost 38 rfl) sh_81 cf3 (by decide) rfl lf_X11_197 rf_81_1 ?_
  refine am_aload (am_dec tmX11_lost 39 rfl) rfl ?_
  refine am_aload_n (am_dec tmX11_lost 40 rfl) rfl rfl ?_
  refine am_getR (j := 0) hE (am_dec tmX11_lost 41 rfl) sh_16 cf11 (by decide) rfl lf_X11_10 rf_16_0 ?_
  refine am_getR (j := 5) hE (am_dec tmX11_lost 42 rfl) sh_17 cf1 (by decide) rfl lf_X11_165 rf_17_5 ?_
  obtain ⟨x14, g13, hf⟩ := am_bd hf
  refine am_callV0 (As := [.ref 84, .ref x6, .ref 23]) (st := []) hE (am_dec tmX11_lost 43 rfl) ok_X3_drawOut rfl lm_X11_180 in_X3_drawOut se_X3_drawOut sh_91 cf3 (c_X3_drawOut hE sh_91 sh_84 h_x6 sh_23 g13) rfl (by decide) (Nat.le_of_ble_eq_true rfl) (Nat.zero_le _) (Nat.zero_le _) rfl ?_
  refine am_aload (am_dec tmX11_lost 44 rfl) rfl ?_
  refine am_aload_n (am_dec tmX11_lost 45 rfl) rfl rfl ?_
  refine am_getR (j := 6) hE (am_dec tmX11_lost 46 rfl) sh_16 cf11 (by decide) rfl lf_X11_40 rf_16_6 ?_
  refine am_getR (j := 1) hE (am_dec tmX11_lost 47 rfl) sh_91 cf3 (by decide) rfl lf_X11_197 rf_91_1 ?_
  obtain ⟨x16, g15, hf⟩ := am_bd hf
  refine am_callV1 (As := [.ref 94]) (st := []) hE (am_dec tmX11_lost 48 rfl) ok_X7_farFrom rfl lm_X11_427 in_X7_farFrom se_X7_farFrom h_x2 cf7 (c_X7_farFrom hE h_x2 sh_94 g15) rfl (by decide) (Nat.le_of_ble_eq_true rfl) (Nat.zero_le _) (Nat.zero_le _) rfl ?_
  have hf := Sum.inr.inj (Option.some.inj hf)
  subst hf
  exact am_iret (am_dec tmX11_lost 49 rfl) rfl (Nat.zero_le _) (Nat.zero_le _)
set_option maxRecDepth 100000 in
set_option maxHeartbeats 4000000 in
theorem t_X11_lost {E : am_E} (hE : am_EH E) {p1 : Int32} {p2 : Int32} {p3 : Int32} {D : am_D} {r : String × am_D}  (hf : f_X11_lost p1 p2 p3 D = some (.inl r)) : am_C E mX11_lost 6 1 6 [.ref 16, .int p1, .int p2, .int p3] am_G0 D (.inr r.1) am_G0 r.2 := by
  refine am_C_of (by decide +kernel) (Nat.le_of_ble_eq_true rfl) ?_
  change am_S E mX11_lost 6 1 6 (.inr r.1) am_G0 r.2 0 0 0 [(0, .ref 16), (1, .int p1), (2, .int p2), (3, .int p3)] [] am_G0 D
  unfold f_X11_lost at hf
  refine am_aload_n (am_dec tmX11_lost 0 rfl) rfl rfl ?_
  refine am_iload_n (am_dec tmX11_lost 1 rfl) rfl rfl ?_
  rcases am_btDT hf with ⟨g1, eD⟩ | ⟨x2, g1, hf⟩
  · rw [eD]
    exact am_callV_out (As := [.int p1]) (st := []) hE (am_dec tmX11_lost 2 rfl) ok_X11_soundOf rfl lm_X11_130 in_X11_soundOf se_X11_soundOf sh_16 cf11 (t_X11_soundOf hE g1) rfl (by decide) (Nat.le_of_ble_eq_true rfl) (Nat.le_refl _) (Nat.le_refl _) rfl rfl
  · have h_x2 := k_X11_soundOf g1
    refine am_callV1 (As := [.int p1]) (st := []) hE (am_dec tmX11_lost 2 rfl) ok_X11_soundOf rfl lm_X11_130 in_X11_soundOf se_X11_soundOf sh_16 cf11 (c_X11_soundOf hE g1) rfl (by decide) (Nat.le_of_ble_eq_true rfl) (Nat.zero_le _) (Nat.zero_le _) rfl ?_
    refine am_astore (lv' := [(0, .ref 16), (1, .int p1), (2, .int p2), (3, .int p3), (4, .ref x2)]) (am_dec tmX11_lost 3 rfl) (by decide) rfl ?_
    refine am_aload_n (am_dec tmX11_lost 4 rfl) rfl rfl ?_
    refine am_iload_n (am_dec tmX11_lost 5 rfl) rfl rfl ?_
    rcases am_btDT hf with ⟨g3, eD⟩ | ⟨x4, g3, hf⟩
    · rw [eD]
      exact am_callV_out (As := [.int p2]) (st := []) hE (am_dec tmX11_lost 6 rfl) ok_X11_mapOf rfl lm_X11_139 in_X11_mapOf se_X11_mapOf sh_16 cf11 (t_X11_mapOf hE g3) rfl (by decide) (Nat.le_of_ble_eq_true rfl) (Nat.le_refl _) (Nat.le_refl _) rfl rfl
    · have h_x4 := k_X11_mapOf g3
      refine am_callV1 (As := [.int p2]) (st := []) hE (am_dec tmX11_lost 6 rfl) ok_X11_mapOf rfl lm_X11_139 in_X11_mapOf se_X11_mapOf sh_16 cf11 (c_X11_mapOf hE g3) rfl (by decide) (Nat.le_of_ble_eq_true rfl) (Nat.zero_le _) (Nat.zero_le _) rfl ?_
      refine am_astore (lv' := [(0, .ref 16), (1, .int p1), (2, .int p2), (3, .int p3), (4, .ref x2), (5, .ref x4)]) (am_dec tmX11_lost 7 rfl) (by decide) rfl ?_
      refine am_aload_n (am_dec tmX11_lost 8 rfl) rfl rfl ?_
      refine am_iload_n (am_dec tmX11_lost 9 rfl) rfl rfl ?_
      rcases am_btDT hf with ⟨g5, eD⟩ | ⟨x6, g5, hf⟩
      · rw [eD]
        exact am_callV_out (As := [.int p3]) (st := []) hE (am_dec tmX11_lost 10 rfl) ok_X11_mapOf rfl lm_X11_139 in_X11_mapOf se_X11_mapOf sh_16 cf11 (t_X11_mapOf hE g5) rfl (by decide) (Nat.le_of_ble_eq_true rfl) (Nat.le_refl _) (Nat.le_refl _) rfl rfl
      · have h_x6 := k_X11_mapOf g5
        refine am_callV1 (As := [.int p3]) (st := []) hE (am_dec tmX11_lost 10 rfl) ok_X11_mapOf rfl lm_X11_139 in_X11_mapOf se_X11_mapOf sh_16 cf11 (c_X11_mapOf hE g5) rfl (by decide) (Nat.le_of_ble_eq_true rfl) (Nat.zero_le _) (Nat.zero_le _) rfl ?_
        refine am_astore (lv' := [(0, .ref 16), (1, .int p1), (2, .int p2), (3, .int p3), (4, .ref x2), (5, .ref x4), (6, .ref x6)]) (am_dec tmX11_lost 11 rfl) (by decide) rfl ?_
        refine am_aload (am_dec tmX11_lost 12 rfl) rfl ?_
        refine am_aload (am_dec tmX11_lost 13 rfl) rfl ?_
        refine am_aload_n (am_dec tmX11_lost 14 rfl) rfl rfl ?_
        refine am_getR (j := 0) hE (am_dec tmX11_lost 15 rfl) sh_16 cf11 (by decide) rfl lf_X11_10 rf_16_0 ?_
        refine am_getR (j := 5) hE (am_dec tmX11_lost 16 rfl) sh_17 cf1 (by decide) rfl lf_X11_165 rf_17_5 ?_
        rcases am_btDT hf with ⟨g7, eD⟩ | ⟨x8, g7, hf⟩
        · rw [eD]
          exact am_callS_out (As := [.ref x2, .ref x4, .ref 23]) (st := []) (am_dec tmX11_lost 17 rfl) ok_X11_needLong rfl lm_X11_176 st_X11_needLong (t_X11_needLong hE h_x2 h_x4 sh_23 g7) rfl (by decide) (Nat.le_of_ble_eq_true rfl) (Nat.le_refl _) (Nat.le_refl _) rfl rfl
        · refine am_callS0 (As := [.ref x2, .ref x4, .ref 23]) (st := []) (am_dec tmX11_lost 17 rfl) ok_X11_needLong rfl lm_X11_176 st_X11_needLong (c_X11_needLong hE h_x2 h_x4 sh_23 g7) rfl (by decide) (Nat.le_of_ble_eq_true rfl) (Nat.zero_le _) (Nat.zero_le _) rfl ?_
          refine am_aload_n (am_dec tmX11_lost 18 rfl) rfl rfl ?_
          refine am_getR (j := 5) hE (am_dec tmX11_lost 19 rfl) sh_16 cf11 (by decide) rfl lf_X11_37 rf_16_5 ?_
          refine am_aload (am_dec tmX11_lost 20 rfl) rfl ?_
          refine am_aload (am_dec tmX11_lost 21 rfl) rfl ?_
          refine am_aload_n (am_dec tmX11_lost 22 rfl) rfl rfl ?_
          refine am_getR (j := 0) hE (am_dec tmX11_lost 23 rfl) sh_16 cf11 (by decide) rfl lf_X11_10 rf_16_0 ?_
          refine am_getR (j := 5) hE (am_dec tmX11_lost 24 rfl) sh_17 cf1 (by decide) rfl lf_X11_165 rf_17_5 ?_
          obtain ⟨x10, g9, hf⟩ := am_bd hf
          refine am_callV0 (As := [.ref x2, .ref x4, .ref 23]) (st := []) hE (am_dec tmX11_lost 25 rfl) ok_X3_drawOut rfl lm_X11_180 in_X3_drawOut se_X3_drawOut sh_81 cf3 (c_X3_drawOut hE sh_81 h_x2 h_x4 sh_23 g9) rfl (by decide) (Nat.le_of_ble_eq_true rfl) (Nat.zero_le _) (Nat.zero_le _) rfl ?_
          refine am_aload_n (am_dec tmX11_lost 26 rfl) rfl rfl ?_
          refine am_getR (j := 5) hE (am_dec tmX11_lost 27 rfl) sh_16 cf11 (by decide) rfl lf_X11_37 rf_16_5 ?_
          refine am_getR (j := 1) hE (am_dec tmX11_lost 28 rfl) sh_81 cf3 (by decide) rfl lf_X11_197 rf_81_1 ?_
          refine am_aload (am_dec tmX11_lost 29 rfl) rfl ?_
          refine am_aload_n (am_dec tmX11_lost 30 rfl) rfl rfl ?_
          refine am_getR (j := 0) hE (am_dec tmX11_lost 31 rfl) sh_16 cf11 (by decide) rfl lf_X11_10 rf_16_0 ?_
          refine am_getR (j := 5) hE (am_dec tmX11_lost 32 rfl) sh_17 cf1 (by decide) rfl lf_X11_165 rf_17_5 ?_
          rcases am_btDT hf with ⟨g11, eD⟩ | ⟨x12, g11, hf⟩
          · rw [eD]
            exact am_callS_out (As := [.ref 84, .ref x6, .ref 23]) (st := []) (am_dec tmX11_lost 33 rfl) ok_X11_needLong rfl lm_X11_176 st_X11_needLong (t_X11_needLong hE sh_84 h_x6 sh_23 g11) rfl (by decide) (Nat.le_of_ble_eq_true rfl) (Nat.le_refl _) (Nat.le_refl _) rfl rfl
          · refine am_callS0 (As := [.ref 84, .ref x6, .ref 23]) (st := []) (am_dec tmX11_lost 33 rfl) ok_X11_needLong rfl lm_X11_176 st_X11_needLong (c_X11_needLong hE sh_84 h_x6 sh_23 g11) rfl (by decide) (Nat.le_of_ble_eq_true rfl) (Nat.zero_le _) (Nat.zero_le _) rfl ?_
            refine am_aload_n (am_dec tmX11_lost 34 rfl) rfl rfl ?_
            refine am_getR (j := 6) hE (am_dec tmX11_lost 35 rfl) sh_16 cf11 (by decide) rfl lf_X11_40 rf_16_6 ?_
            refine am_aload_n (am_dec tmX11_lost 36 rfl) rfl rfl ?_
            refine am_getR (j := 5) hE (am_dec tmX11_lost 37 rfl) sh_16 cf11 (by decide) rfl lf_X11_37 rf_16_5 ?_
            refine am_getR (j := 1) hE (am_dec tmX11_lost 38 rfl) sh_81 cf3 (by decide) rfl lf_X11_197 rf_81_1 ?_
            refine am_aload (am_dec tmX11_lost 39 rfl) rfl ?_
            refine am_aload_n (am_dec tmX11_lost 40 rfl) rfl rfl ?_
            refine am_getR (j := 0) hE (am_dec tmX11_lost 41 rfl) sh_16 cf11 (by decide) rfl lf_X11_10 rf_16_0 ?_
            refine am_getR (j := 5) hE (am_dec tmX11_lost 42 rfl) sh_17 cf1 (by decide) rfl lf_X11_165 rf_17_5 ?_
            obtain ⟨x14, g13, hf⟩ := am_bd hf
            refine am_callV0 (As := [.ref 84, .ref x6, .ref 23]) (st := []) hE (am_dec tmX11_lost 43 rfl) ok_X3_drawOut rfl lm_X11_180 in_X3_drawOut se_X3_drawOut sh_91 cf3 (c_X3_drawOut hE sh_91 sh_84 h_x6 sh_23 g13) rfl (by decide) (Nat.le_of_ble_eq_true rfl) (Nat.zero_le _) (Nat.zero_le _) rfl ?_
            refine am_aload (am_dec tmX11_lost 44 rfl) rfl ?_
            refine am_aload_n (am_dec tmX11_lost 45 rfl) rfl rfl ?_
            refine am_getR (j := 6) hE (am_dec tmX11_lost 46 rfl) sh_16 cf11 (by decide) rfl lf_X11_40 rf_16_6 ?_
            refine am_getR (j := 1) hE (am_dec tmX11_lost 47 rfl) sh_91 cf3 (by decide) rfl lf_X11_197 rf_91_1 ?_
            obtain ⟨x16, g15, hf⟩ := am_bd hf
            refine am_callV1 (As := [.ref 94]) (st := []) hE (am_dec tmX11_lost 48 rfl) ok_X7_farFrom rfl lm_X11_427 in_X7_farFrom se_X7_farFrom h_x2 cf7 (c_X7_farFrom hE h_x2 sh_94 g15) rfl (by decide) (Nat.le_of_ble_eq_true rfl) (Nat.zero_le _) (Nat.zero_le _) rfl ?_
            cases hf
def f_X11_image (D : am_D) : Option ((Int32 × am_D)) :=
    if (D.1 16 2) < 0 then
    some ((-1 : Int32), D)
    else
    if (D.1 16 2) < (3 : Int32) then
    (am_gA 3 (D.1 16 2)).bind fun j3 =>
    (f_X4_take (60 + 3 * j3) D).bind fun x6 =>
    (some (am_wI x6 16 2 ((x6.1 16 2) + (1 : Int32)))).bind fun D7 =>
    some ((D7.1 16 2), D7)
    else
    some ((-1 : Int32), D)
set_option maxRecDepth 100000 in
set_option maxHeartbeats 4000000 in
theorem c_X11_image {E : am_E} (hE : am_EH E) {D : am_D} {r : (Int32 × am_D)}  (hf : f_X11_image D = some r) : am_C E mX11_image 4 0 0 [.ref 16] am_G0 D (.inl (some (.int r.1))) am_G0 r.2 := by
  refine am_C_of (by decide +kernel) (Nat.le_of_ble_eq_true rfl) ?_
  change am_S E mX11_image 4 0 0 (.inl (some (.int r.1))) am_G0 r.2 0 0 0 [(0, .ref 16)] [] am_G0 D
  unfold f_X11_image at hf
  refine am_aload_n (am_dec tmX11_image 0 rfl) rfl rfl ?_
  refine am_getI (j := 2) hE (am_dec tmX11_image 1 rfl) sh_16 cf11 (by decide) rfl lf_X11_431 ?_
  refine am_if_lt (tgt := 15) (am_dec tmX11_image 2 rfl) (by decide) (fun c1 => ?_) (fun c1 => ?_)
  · rw [if_pos c1] at hf
    refine am_iconst (v := (-1 : Int32)) (am_dec tmX11_image 7 rfl) (by decide) ?_
    have hf := Option.some.inj hf
    subst hf
    exact am_iret (am_dec tmX11_image 8 rfl) rfl (Nat.zero_le _) (Nat.zero_le _)
  · rw [if_neg c1] at hf
    refine am_aload_n (am_dec tmX11_image 3 rfl) rfl rfl ?_
    refine am_getI (j := 2) hE (am_dec tmX11_image 4 rfl) sh_16 cf11 (by decide) rfl lf_X11_431 ?_
    refine am_iconst (v := (3 : Int32)) (am_dec tmX11_image 5 rfl) (by decide) ?_
    refine am_icmp_lt (tgt := 17) (am_dec tmX11_image 6 rfl) (by decide) (fun c2 => ?_) (fun c2 => ?_)
    · rw [if_pos c2] at hf
      refine am_aload_n (am_dec tmX11_image 9 rfl) rfl rfl ?_
      refine am_getR (j := 1) hE (am_dec tmX11_image 10 rfl) sh_16 cf11 (by decide) rfl lf_X11_18 rf_16_1 ?_
      refine am_aload_n (am_dec tmX11_image 11 rfl) rfl rfl ?_
      refine am_getI (j := 2) hE (am_dec tmX11_image 12 rfl) sh_16 cf11 (by decide) rfl lf_X11_431 ?_
      obtain ⟨j3, g4, hf⟩ := am_bd hf
      have hj_j3 := (am_gA_lt g4).1
      refine am_aald2 (t := 5) hE (am_dec tmX11_image 13 rfl) sh_59 (by decide) rfl rfl g4 (rr_59 hj_j3) ?_
      refine am_aload_n (am_dec tmX11_image 14 rfl) rfl rfl ?_
      refine am_getR (j := 0) hE (am_dec tmX11_image 15 rfl) sh_16 cf11 (by decide) rfl lf_X11_10 rf_16_0 ?_
      obtain ⟨x6, g5, hf⟩ := am_bd hf
      refine am_callV0 (As := [.ref 17]) (st := []) hE (am_dec tmX11_image 16 rfl) ok_X4_take rfl lm_X11_434 in_X4_take se_X4_take (sa_59_0 hj_j3) cf4 (c_X4_take hE (sa_59_0 hj_j3) g5) rfl (by decide) (Nat.le_of_ble_eq_true rfl) (Nat.zero_le _) (Nat.zero_le _) rfl ?_
      refine am_aload_n (am_dec tmX11_image 17 rfl) rfl rfl ?_
      refine am_dup (am_dec tmX11_image 18 rfl) rfl ?_
      refine am_getI (j := 2) hE (am_dec tmX11_image 19 rfl) sh_16 cf11 (by decide) rfl lf_X11_431 ?_
      refine am_iconst (v := (1 : Int32)) (am_dec tmX11_image 20 rfl) (by decide) ?_
      refine am_iadd (am_dec tmX11_image 21 rfl) ?_
      obtain ⟨D7, g8, hf⟩ := am_bd hf
      refine am_putI2 (j := 2) hE (am_dec tmX11_image 22 rfl) sh_16 cf11 (by decide) rfl lf_X11_431 rfl rfl rfl g8 ?_
      refine am_aload_n (am_dec tmX11_image 23 rfl) rfl rfl ?_
      refine am_getI (j := 2) hE (am_dec tmX11_image 24 rfl) sh_16 cf11 (by decide) rfl lf_X11_431 ?_
      have hf := Option.some.inj hf
      subst hf
      exact am_iret (am_dec tmX11_image 25 rfl) rfl (Nat.zero_le _) (Nat.zero_le _)
    · rw [if_neg c2] at hf
      refine am_iconst (v := (-1 : Int32)) (am_dec tmX11_image 7 rfl) (by decide) ?_
      have hf := Option.some.inj hf
      subst hf
      exact am_iret (am_dec tmX11_image 8 rfl) rfl (Nat.zero_le _) (Nat.zero_le _)
def f_X11_restore (D : am_D) : Option ((Int32 × am_D)) :=
    if (D.1 16 2) ≤ 0 then
    some ((-1 : Int32), D)
    else
    if (D.1 16 2) ≤ (3 : Int32) then
    (some (am_wI D 16 2 ((D.1 16 2) - (1 : Int32)))).bind fun D3 =>
    (am_gA 3 (D3.1 16 2)).bind fun j5 =>
    (f_X4_giveBack (60 + 3 * j5) D3).bind fun x8 =>
    (f_X3_clear 71 x8).bind fun x10 =>
    some ((x10.1 16 2), x10)
    else
    some ((-1 : Int32), D)
set_option maxRecDepth 100000 in
set_option maxHeartbeats 4000000 in
theorem c_X11_restore {E : am_E} (hE : am_EH E) {D : am_D} {r : (Int32 × am_D)}  (hf : f_X11_restore D = some r) : am_C E mX11_restore 5 0 0 [.ref 16] am_G0 D (.inl (some (.int r.1))) am_G0 r.2 := by
  refine am_C_of (by decide +kernel) (Nat.le_of_ble_eq_true rfl) ?_
  change am_S E mX11_restore 5 0 0 (.inl (some (.int r.1))) am_G0 r.2 0 0 0 [(0, .ref 16)] [] am_G0 D
  unfold f_X11_restore at hf
  refine am_aload_n (am_dec tmX11_restore 0 rfl) rfl rfl ?_
  refine am_getI (j := 2) hE (am_dec tmX11_restore 1 rfl) sh_16 cf11 (by decide) rfl lf_X11_431 ?_
  refine am_if_le (tgt := 15) (am_dec tmX11_restore 2 rfl) (by decide) (fun c1 => ?_) (fun c1 => ?_)
  · rw [if_pos c1] at hf
    refine am_iconst (v := (-1 : Int32)) (am_dec tmX11_restore 7 rfl) (by decide) ?_
    have hf := Option.some.inj hf
    subst hf
    exact am_iret (am_dec tmX11_restore 8 rfl) rfl (Nat.zero_le _) (Nat.zero_le _)
  · rw [if_neg c1] at hf
    refine am_aload_n (am_dec tmX11_restore 3 rfl) rfl rfl ?_
    refine am_getI (j := 2) hE (am_dec tmX11_restore 4 rfl) sh_16 cf11 (by decide) rfl lf_X11_431 ?_
    refine am_iconst (v := (3 : Int32)) (am_dec tmX11_restore 5 rfl) (by decide) ?_
    refine am_icmp_le (tgt := 17) (am_dec tmX11_restore 6 rfl) (by decide) (fun c2 => ?_) (fun c2 => ?_)
    · rw [if_pos c2] at hf
      refine am_aload_n (am_dec tmX11_restore 9 rfl) rfl rfl ?_
      refine am_dup (am_dec tmX11_restore 10 rfl) rfl ?_
      refine am_getI (j := 2) hE (am_dec tmX11_restore 11 rfl) sh_16 cf11 (by decide) rfl lf_X11_431 ?_
      refine am_iconst (v := (1 : Int32)) (am_dec tmX11_restore 12 rfl) (by decide) ?_
      refine am_isub (am_dec tmX11_restore 13 rfl) ?_
      obtain ⟨D3, g4, hf⟩ := am_bd hf
      refine am_putI2 (j := 2) hE (am_dec tmX11_restore 14 rfl) sh_16 cf11 (by decide) rfl lf_X11_431 rfl rfl rfl g4 ?_
      refine am_aload_n (am_dec tmX11_restore 15 rfl) rfl rfl ?_
      refine am_getR (j := 1) hE (am_dec tmX11_restore 16 rfl) sh_16 cf11 (by decide) rfl lf_X11_18 rf_16_1 ?_
      refine am_aload_n (am_dec tmX11_restore 17 rfl) rfl rfl ?_
      refine am_getI (j := 2) hE (am_dec tmX11_restore 18 rfl) sh_16 cf11 (by decide) rfl lf_X11_431 ?_
      obtain ⟨j5, g6, hf⟩ := am_bd hf
      have hj_j5 := (am_gA_lt g6).1
      refine am_aald2 (t := 5) hE (am_dec tmX11_restore 19 rfl) sh_59 (by decide) rfl rfl g6 (rr_59 hj_j5) ?_
      refine am_aload_n (am_dec tmX11_restore 20 rfl) rfl rfl ?_
      refine am_getR (j := 0) hE (am_dec tmX11_restore 21 rfl) sh_16 cf11 (by decide) rfl lf_X11_10 rf_16_0 ?_
      obtain ⟨x8, g7, hf⟩ := am_bd hf
      refine am_callV0 (As := [.ref 17]) (st := []) hE (am_dec tmX11_restore 22 rfl) ok_X4_giveBack rfl lm_X11_438 in_X4_giveBack se_X4_giveBack (sa_59_0 hj_j5) cf4 (c_X4_giveBack hE (sa_59_0 hj_j5) g7) rfl (by decide) (Nat.le_of_ble_eq_true rfl) (Nat.zero_le _) (Nat.zero_le _) rfl ?_
      refine am_aload_n (am_dec tmX11_restore 23 rfl) rfl rfl ?_
      refine am_getR (j := 4) hE (am_dec tmX11_restore 24 rfl) sh_16 cf11 (by decide) rfl lf_X11_33 rf_16_4 ?_
      obtain ⟨x10, g9, hf⟩ := am_bd hf
      refine am_callV0 (As := []) (st := []) hE (am_dec tmX11_restore 25 rfl) ok_X3_clear rfl lm_X11_441 in_X3_clear se_X3_clear sh_71 cf3 (c_X3_clear hE sh_71 g9) rfl (by decide) (Nat.le_of_ble_eq_true rfl) (Nat.zero_le _) (Nat.zero_le _) rfl ?_
      refine am_aload_n (am_dec tmX11_restore 26 rfl) rfl rfl ?_
      refine am_getI (j := 2) hE (am_dec tmX11_restore 27 rfl) sh_16 cf11 (by decide) rfl lf_X11_431 ?_
      have hf := Option.some.inj hf
      subst hf
      exact am_iret (am_dec tmX11_restore 28 rfl) rfl (Nat.zero_le _) (Nat.zero_le _)
    · rw [if_neg c2] at hf
      refine am_iconst (v := (-1 : Int32)) (am_dec tmX11_restore 7 rfl) (by decide) ?_
      have hf := Option.some.inj hf
      subst hf
      exact am_iret (am_dec tmX11_restore 8 rfl) rfl (Nat.zero_le _) (Nat.zero_le _)
def f_X11_count (p1 : Int32) (D : am_D) : Option (Int32) :=
    if p1.toInt < 0 ∨ 7 < p1.toInt then
    some (-1 : Int32)
    else if p1 = (0 : Int32) then
    some (D.1 17 7)
    else if p1 = (1 : Int32) then
    some (D.1 17 8)
    else if p1 = (2 : Int32) then
    some (D.1 71 6)
    else if p1 = (3 : Int32) then
    some (D.1 17 9)
    else if p1 = (4 : Int32) then
    some (D.1 24 5)
    else if p1 = (5 : Int32) then
    some (D.1 17 10)
    else if p1 = (6 : Int32) then
    some (D.1 16 2)
    else if p1 = (7 : Int32) then
    some (D.1 69 1)
    else none
set_option maxRecDepth 100000 in
set_option maxHeartbeats 4000000 in
theorem c_X11_count {E : am_E} (hE : am_EH E) {p1 : Int32} {D : am_D} {r : Int32}  (hf : f_X11_count p1 D = some r) : am_C E mX11_count 1 0 0 [.ref 16, .int p1] am_G0 D (.inl (some (.int r))) am_G0 D := by
  refine am_C_of (by decide +kernel) (Nat.le_of_ble_eq_true rfl) ?_
  change am_S E mX11_count 1 0 0 (.inl (some (.int r))) am_G0 D 0 0 0 [(0, .ref 16), (1, .int p1)] [] am_G0 D
  unfold f_X11_count at hf
  refine am_iload_n (am_dec tmX11_count 0 rfl) rfl rfl ?_
  by_cases hsw : p1.toInt < 0 ∨ 7 < p1.toInt
  · rw [if_pos hsw] at hf
    refine am_tableOut (tgt := 112) (am_dec tmX11_count 1 rfl) hsw (by decide) ?_
    refine am_iconst (v := (-1 : Int32)) (am_dec tmX11_count 34 rfl) (by decide) ?_
    have hf := Option.some.inj hf
    subst hf
    exact am_iret (am_dec tmX11_count 35 rfl) rfl (Nat.zero_le _) (Nat.zero_le _)
  · rw [if_neg hsw] at hf
    by_cases hs0 : p1 = (0 : Int32)
    · rw [if_pos hs0] at hf
      refine am_tableIn (off := 47) (tgt := 48) (am_dec tmX11_count 1 rfl) (fun q9 => hsw (Or.inl q9)) (fun q9 => hsw (Or.inr q9)) (by rw [hs0]; rfl) (by decide) ?_
      refine am_aload_n (am_dec tmX11_count 2 rfl) rfl rfl ?_
      refine am_getR (j := 0) hE (am_dec tmX11_count 3 rfl) sh_16 cf11 (by decide) rfl lf_X11_10 rf_16_0 ?_
      refine am_getI (j := 7) hE (am_dec tmX11_count 4 rfl) sh_17 cf1 (by decide) rfl lf_X11_442 ?_
      have hf := Option.some.inj hf
      subst hf
      exact am_iret (am_dec tmX11_count 5 rfl) rfl (Nat.zero_le _) (Nat.zero_le _)
    rw [if_neg hs0] at hf
    by_cases hs1 : p1 = (1 : Int32)
    · rw [if_pos hs1] at hf
      refine am_tableIn (off := 55) (tgt := 56) (am_dec tmX11_count 1 rfl) (fun q9 => hsw (Or.inl q9)) (fun q9 => hsw (Or.inr q9)) (by rw [hs1]; rfl) (by decide) ?_
      refine am_aload_n (am_dec tmX11_count 6 rfl) rfl rfl ?_
      refine am_getR (j := 0) hE (am_dec tmX11_count 7 rfl) sh_16 cf11 (by decide) rfl lf_X11_10 rf_16_0 ?_
      refine am_getI (j := 8) hE (am_dec tmX11_count 8 rfl) sh_17 cf1 (by decide) rfl lf_X11_445 ?_
      have hf := Option.some.inj hf
      subst hf
      exact am_iret (am_dec tmX11_count 9 rfl) rfl (Nat.zero_le _) (Nat.zero_le _)
    rw [if_neg hs1] at hf
    by_cases hs2 : p1 = (2 : Int32)
    · rw [if_pos hs2] at hf
      refine am_tableIn (off := 63) (tgt := 64) (am_dec tmX11_count 1 rfl) (fun q9 => hsw (Or.inl q9)) (fun q9 => hsw (Or.inr q9)) (by rw [hs2]; rfl) (by decide) ?_
      refine am_aload_n (am_dec tmX11_count 10 rfl) rfl rfl ?_
      refine am_getR (j := 4) hE (am_dec tmX11_count 11 rfl) sh_16 cf11 (by decide) rfl lf_X11_33 rf_16_4 ?_
      refine am_getI (j := 6) hE (am_dec tmX11_count 12 rfl) sh_71 cf3 (by decide) rfl lf_X11_183 ?_
      have hf := Option.some.inj hf
      subst hf
      exact am_iret (am_dec tmX11_count 13 rfl) rfl (Nat.zero_le _) (Nat.zero_le _)
    rw [if_neg hs2] at hf
    by_cases hs3 : p1 = (3 : Int32)
    · rw [if_pos hs3] at hf
      refine am_tableIn (off := 71) (tgt := 72) (am_dec tmX11_count 1 rfl) (fun q9 => hsw (Or.inl q9)) (fun q9 => hsw (Or.inr q9)) (by rw [hs3]; rfl) (by decide) ?_
      refine am_aload_n (am_dec tmX11_count 14 rfl) rfl rfl ?_
      refine am_getR (j := 0) hE (am_dec tmX11_count 15 rfl) sh_16 cf11 (by decide) rfl lf_X11_10 rf_16_0 ?_
      refine am_getI (j := 9) hE (am_dec tmX11_count 16 rfl) sh_17 cf1 (by decide) rfl lf_X11_232 ?_
      have hf := Option.some.inj hf
      subst hf
      exact am_iret (am_dec tmX11_count 17 rfl) rfl (Nat.zero_le _) (Nat.zero_le _)
    rw [if_neg hs3] at hf
    by_cases hs4 : p1 = (4 : Int32)
    · rw [if_pos hs4] at hf
      refine am_tableIn (off := 79) (tgt := 80) (am_dec tmX11_count 1 rfl) (fun q9 => hsw (Or.inl q9)) (fun q9 => hsw (Or.inr q9)) (by rw [hs4]; rfl) (by decide) ?_
      refine am_aload_n (am_dec tmX11_count 18 rfl) rfl rfl ?_
      refine am_getR (j := 0) hE (am_dec tmX11_count 19 rfl) sh_16 cf11 (by decide) rfl lf_X11_10 rf_16_0 ?_
      refine am_getR (j := 6) hE (am_dec tmX11_count 20 rfl) sh_17 cf1 (by decide) rfl lf_X11_251 rf_17_6 ?_
      refine am_getI (j := 5) hE (am_dec tmX11_count 21 rfl) sh_24 cf6 (by decide) rfl lf_X11_255 ?_
      have hf := Option.some.inj hf
      subst hf
      exact am_iret (am_dec tmX11_count 22 rfl) rfl (Nat.zero_le _) (Nat.zero_le _)
    rw [if_neg hs4] at hf
    by_cases hs5 : p1 = (5 : Int32)
    · rw [if_pos hs5] at hf
      refine am_tableIn (off := 90) (tgt := 91) (am_dec tmX11_count 1 rfl) (fun q9 => hsw (Or.inl q9)) (fun q9 => hsw (Or.inr q9)) (by rw [hs5]; rfl) (by decide) ?_
      refine am_aload_n (am_dec tmX11_count 23 rfl) rfl rfl ?_
      refine am_getR (j := 0) hE (am_dec tmX11_count 24 rfl) sh_16 cf11 (by decide) rfl lf_X11_10 rf_16_0 ?_
      refine am_getI (j := 10) hE (am_dec tmX11_count 25 rfl) sh_17 cf1 (by decide) rfl lf_X11_321 ?_
      have hf := Option.some.inj hf
      subst hf
      exact am_iret (am_dec tmX11_count 26 rfl) rfl (Nat.zero_le _) (Nat.zero_le _)
    rw [if_neg hs5] at hf
    by_cases hs6 : p1 = (6 : Int32)
    · rw [if_pos hs6] at hf
      refine am_tableIn (off := 98) (tgt := 99) (am_dec tmX11_count 1 rfl) (fun q9 => hsw (Or.inl q9)) (fun q9 => hsw (Or.inr q9)) (by rw [hs6]; rfl) (by decide) ?_
      refine am_aload_n (am_dec tmX11_count 27 rfl) rfl rfl ?_
      refine am_getI (j := 2) hE (am_dec tmX11_count 28 rfl) sh_16 cf11 (by decide) rfl lf_X11_431 ?_
      have hf := Option.some.inj hf
      subst hf
      exact am_iret (am_dec tmX11_count 29 rfl) rfl (Nat.zero_le _) (Nat.zero_le _)
    rw [if_neg hs6] at hf
    by_cases hs7 : p1 = (7 : Int32)
    · rw [if_pos hs7] at hf
      refine am_tableIn (off := 103) (tgt := 104) (am_dec tmX11_count 1 rfl) (fun q9 => hsw (Or.inl q9)) (fun q9 => hsw (Or.inr q9)) (by rw [hs7]; rfl) (by decide) ?_
      refine am_aload_n (am_dec tmX11_count 30 rfl) rfl rfl ?_
      refine am_getR (j := 3) hE (am_dec tmX11_count 31 rfl) sh_16 cf11 (by decide) rfl lf_X11_26 rf_16_3 ?_
      refine am_getI (j := 1) hE (am_dec tmX11_count 32 rfl) sh_69 cf8 (by decide) rfl lf_X11_87 ?_
      have hf := Option.some.inj hf
      subst hf
      exact am_iret (am_dec tmX11_count 33 rfl) rfl (Nat.zero_le _) (Nat.zero_le _)
    rw [if_neg hs7] at hf
    cases hf
def f_X12_thrown (D : am_D) : Option (Int32) :=
    some (D.1 117 0)
set_option maxRecDepth 100000 in
set_option maxHeartbeats 4000000 in
theorem c_X12_thrown {E : am_E} (hE : am_EH E) {D : am_D} {r : Int32}  (hf : f_X12_thrown D = some r) : am_C E mX12_thrown 1 0 0 [.ref 117] am_G0 D (.inl (some (.int r))) am_G0 D := by
  refine am_C_of (by decide +kernel) (Nat.le_of_ble_eq_true rfl) ?_
  change am_S E mX12_thrown 1 0 0 (.inl (some (.int r))) am_G0 D 0 0 0 [(0, .ref 117)] [] am_G0 D
  unfold f_X12_thrown at hf
  refine am_aload_n (am_dec tmX12_thrown 0 rfl) rfl rfl ?_
  refine am_getI (j := 0) hE (am_dec tmX12_thrown 1 rfl) sh_117 cf12 (by decide) rfl lf_X12_110 ?_
  have hf := Option.some.inj hf
  subst hf
  exact am_iret (am_dec tmX12_thrown 2 rfl) rfl (Nat.zero_le _) (Nat.zero_le _)
def f_X12_bad (p1 : Int32) (p2 : Int32) (D : am_D) : Option ((Int32 × am_D)) :=
    (if p1 = 0 then
    some (D)
    else
    if (D.1 117 0) = 0 then
    (some (am_wI D 117 0 p2)).bind fun D4 =>
    some (D4)
    else
    some (D)).bind fun w6 =>
    if (w6.1 117 0) = 0 then
    some ((0 : Int32), w6)
    else
    some ((1 : Int32), w6)
set_option maxRecDepth 100000 in
set_option maxHeartbeats 4000000 in
theorem c_X12_bad {E : am_E} (hE : am_EH E) {p1 : Int32} {p2 : Int32} {D : am_D} {r : (Int32 × am_D)}  (hf : f_X12_bad p1 p2 D = some r) : am_C E mX12_bad 1 0 0 [.ref 117, .int p1, .int p2] am_G0 D (.inl (some (.int r.1))) am_G0 r.2 := by
  refine am_C_of (by decide +kernel) (Nat.le_of_ble_eq_true rfl) ?_
  change am_S E mX12_bad 1 0 0 (.inl (some (.int r.1))) am_G0 r.2 0 0 0 [(0, .ref 117), (1, .int p1), (2, .int p2)] [] am_G0 D
  unfold f_X12_bad at hf
  refine am_iload_n (am_dec tmX12_bad 0 rfl) rfl rfl ?_
  obtain ⟨w6, g8, hf⟩ := am_bd hf
  have key2 : am_S E mX12_bad 1 0 0 (.inl (some (.int r.1))) am_G0 r.2 0 0 16 [(0, .ref 117)] [] am_G0 w6 := by
    refine am_aload_n (am_dec tmX12_bad 8 rfl) rfl rfl ?_
    refine am_getI (j := 0) hE (am_dec tmX12_bad 9 rfl) sh_117 cf12 (by decide) rfl lf_X12_110 ?_
    refine am_if_eq (tgt := 27) (am_dec tmX12_bad 10 rfl) (by decide) (fun c7 => ?_) (fun c7 => ?_)
    · rw [if_pos c7] at hf
      refine am_iconst (v := (0 : Int32)) (am_dec tmX12_bad 13 rfl) (by decide) ?_
      have hf := Option.some.inj hf
      subst hf
      exact am_zret (am_dec tmX12_bad 14 rfl) rfl am_z0 (Nat.zero_le _) (Nat.zero_le _)
    · rw [if_neg c7] at hf
      refine am_iconst (v := (1 : Int32)) (am_dec tmX12_bad 11 rfl) (by decide) ?_
      refine am_goto (tgt := 28) (am_dec tmX12_bad 12 rfl) (by decide) ?_
      have hf := Option.some.inj hf
      subst hf
      exact am_zret (am_dec tmX12_bad 14 rfl) rfl am_z1 (Nat.zero_le _) (Nat.zero_le _)
  replace hf := g8
  refine am_if_eq (tgt := 16) (am_dec tmX12_bad 1 rfl) (by decide) (fun c1 => ?_) (fun c1 => ?_)
  · rw [if_pos c1] at hf
    have hf := Option.some.inj hf
    subst hf
    exact am_pick [0] rfl key2
  · rw [if_neg c1] at hf
    refine am_aload_n (am_dec tmX12_bad 2 rfl) rfl rfl ?_
    refine am_getI (j := 0) hE (am_dec tmX12_bad 3 rfl) sh_117 cf12 (by decide) rfl lf_X12_110 ?_
    refine am_if_ne (tgt := 16) (am_dec tmX12_bad 4 rfl) (by decide) (fun c3 => ?_) (fun c3 => ?_)
    · rw [if_neg c3] at hf
      have hf := Option.some.inj hf
      subst hf
      exact am_pick [0] rfl key2
    · rw [if_pos c3] at hf
      refine am_aload_n (am_dec tmX12_bad 5 rfl) rfl rfl ?_
      refine am_iload_n (am_dec tmX12_bad 6 rfl) rfl rfl ?_
      obtain ⟨D4, g5, hf⟩ := am_bd hf
      refine am_putI2 (j := 0) hE (am_dec tmX12_bad 7 rfl) sh_117 cf12 (by decide) rfl lf_X12_110 rfl rfl rfl g5 ?_
      have hf := Option.some.inj hf
      subst hf
      exact am_pick [0] rfl key2
theorem z_X12_bad {p1 : Int32} {p2 : Int32} {D : am_D} {r : (Int32 × am_D)} (hf : f_X12_bad p1 p2 D = some r) : narrow .boolean (.int r.1) = .int r.1 := by
  unfold f_X12_bad at hf
  obtain ⟨w6, g8, hf⟩ := am_bd hf
  have key2 : narrow .boolean (.int r.1) = .int r.1 := by
    by_cases c7 : (w6.1 117 0) = 0
    · rw [if_pos c7] at hf
      have hf := Option.some.inj hf
      subst hf
      exact am_z0
    · rw [if_neg c7] at hf
      have hf := Option.some.inj hf
      subst hf
      exact am_z1
  replace hf := g8
  by_cases c1 : p1 = 0
  · rw [if_pos c1] at hf
    have hf := Option.some.inj hf
    subst hf
    exact key2
  · rw [if_neg c1] at hf
    by_cases c3 : (D.1 117 0) = 0
    · rw [if_pos c3] at hf
      obtain ⟨D4, g5, hf⟩ := am_bd hf
      have hf := Option.some.inj hf
      subst hf
      exact key2
    · rw [if_neg c3] at hf
      have hf := Option.some.inj hf
      subst hf
      exact key2
def f_X12_in (p0 : Int32) (p1 : Int32) (p2 : Int32) : Option (Int32) :=
    if p0 < p1 then
    some (0 : Int32)
    else
    if p2 < p0 then
    some (0 : Int32)
    else
    some (1 : Int32)
set_option maxRecDepth 100000 in
set_option maxHeartbeats 4000000 in
theorem c_X12_in {E : am_E} (hE : am_EH E) {p0 : Int32} {p1 : Int32} {p2 : Int32} {D : am_D} {r : Int32}  (hf : f_X12_in p0 p1 p2 = some r) : am_C E mX12_in 1 0 0 [.int p0, .int p1, .int p2] am_G0 D (.inl (some (.int r))) am_G0 D := by
  refine am_C_of (by decide +kernel) (Nat.le_of_ble_eq_true rfl) ?_
  change am_S E mX12_in 1 0 0 (.inl (some (.int r))) am_G0 D 0 0 0 [(0, .int p0), (1, .int p1), (2, .int p2)] [] am_G0 D
  unfold f_X12_in at hf
  refine am_iload_n (am_dec tmX12_in 0 rfl) rfl rfl ?_
  refine am_iload_n (am_dec tmX12_in 1 rfl) rfl rfl ?_
  refine am_icmp_lt (tgt := 14) (am_dec tmX12_in 2 rfl) (by decide) (fun c1 => ?_) (fun c1 => ?_)
  · rw [if_pos c1] at hf
    refine am_iconst (v := (0 : Int32)) (am_dec tmX12_in 8 rfl) (by decide) ?_
    have hf := Option.some.inj hf
    subst hf
    exact am_zret (am_dec tmX12_in 9 rfl) rfl am_z0 (Nat.zero_le _) (Nat.zero_le _)
  · rw [if_neg c1] at hf
    refine am_iload_n (am_dec tmX12_in 3 rfl) rfl rfl ?_
    refine am_iload_n (am_dec tmX12_in 4 rfl) rfl rfl ?_
    refine am_icmp_gt (tgt := 14) (am_dec tmX12_in 5 rfl) (by decide) (fun c2 => ?_) (fun c2 => ?_)
    · rw [if_pos c2] at hf
      refine am_iconst (v := (0 : Int32)) (am_dec tmX12_in 8 rfl) (by decide) ?_
      have hf := Option.some.inj hf
      subst hf
      exact am_zret (am_dec tmX12_in 9 rfl) rfl am_z0 (Nat.zero_le _) (Nat.zero_le _)
    · rw [if_neg c2] at hf
      refine am_iconst (v := (1 : Int32)) (am_dec tmX12_in 6 rfl) (by decide) ?_
      refine am_goto (tgt := 15) (am_dec tmX12_in 7 rfl) (by decide) ?_
      have hf := Option.some.inj hf
      subst hf
      exact am_zret (am_dec tmX12_in 9 rfl) rfl am_z1 (Nat.zero_le _) (Nat.zero_le _)
theorem z_X12_in {p0 : Int32} {p1 : Int32} {p2 : Int32} {r : Int32} (hf : f_X12_in p0 p1 p2 = some r) : narrow .boolean (.int r) = .int r := by
  unfold f_X12_in at hf
  by_cases c1 : p0 < p1
  · rw [if_pos c1] at hf
    have hf := Option.some.inj hf
    subst hf
    exact am_z0
  · rw [if_neg c1] at hf
    by_cases c2 : p2 < p0
    · rw [if_pos c2] at hf
      have hf := Option.some.inj hf
      subst hf
      exact am_z0
    · rw [if_neg c2] at hf
      have hf := Option.some.inj hf
      subst hf
      exact am_z1
def f_X12_within (p0 : Int32) (p1 : Int32) (p2 : Int32) : Option (Int32) :=
    if p1 ≤ p0 then
    if p0 ≤ p2 then
    some p0
    else
    some p2
    else
    some p1
set_option maxRecDepth 100000 in
set_option maxHeartbeats 4000000 in
theorem c_X12_within {E : am_E} (hE : am_EH E) {p0 : Int32} {p1 : Int32} {p2 : Int32} {D : am_D} {r : Int32}  (hf : f_X12_within p0 p1 p2 = some r) : am_C E mX12_within 1 0 0 [.int p0, .int p1, .int p2] am_G0 D (.inl (some (.int r))) am_G0 D := by
  refine am_C_of (by decide +kernel) (Nat.le_of_ble_eq_true rfl) ?_
  change am_S E mX12_within 1 0 0 (.inl (some (.int r))) am_G0 D 0 0 0 [(0, .int p0), (1, .int p1), (2, .int p2)] [] am_G0 D
  unfold f_X12_within at hf
  refine am_iload_n (am_dec tmX12_within 0 rfl) rfl rfl ?_
  refine am_iload_n (am_dec tmX12_within 1 rfl) rfl rfl ?_
  refine am_icmp_ge (tgt := 9) (am_dec tmX12_within 2 rfl) (by decide) (fun c1 => ?_) (fun c1 => ?_)
  · rw [if_pos c1] at hf
    refine am_iload_n (am_dec tmX12_within 5 rfl) rfl rfl ?_
    refine am_iload_n (am_dec tmX12_within 6 rfl) rfl rfl ?_
    refine am_icmp_le (tgt := 18) (am_dec tmX12_within 7 rfl) (by decide) (fun c2 => ?_) (fun c2 => ?_)
    · rw [if_pos c2] at hf
      refine am_iload_n (am_dec tmX12_within 10 rfl) rfl rfl ?_
      have hf := Option.some.inj hf
      subst hf
      exact am_iret (am_dec tmX12_within 11 rfl) rfl (Nat.zero_le _) (Nat.zero_le _)
    · rw [if_neg c2] at hf
      refine am_iload_n (am_dec tmX12_within 8 rfl) rfl rfl ?_
      refine am_goto (tgt := 19) (am_dec tmX12_within 9 rfl) (by decide) ?_
      have hf := Option.some.inj hf
      subst hf
      exact am_iret (am_dec tmX12_within 11 rfl) rfl (Nat.zero_le _) (Nat.zero_le _)
  · rw [if_neg c1] at hf
    refine am_iload_n (am_dec tmX12_within 3 rfl) rfl rfl ?_
    refine am_goto (tgt := 19) (am_dec tmX12_within 4 rfl) (by decide) ?_
    have hf := Option.some.inj hf
    subst hf
    exact am_iret (am_dec tmX12_within 11 rfl) rfl (Nat.zero_le _) (Nat.zero_le _)
def f_X12_more (p0 : Int32) (p1 : Int32) : Option (Int32) :=
    if p0 ≤ p1 then
    some p1
    else
    some p0
set_option maxRecDepth 100000 in
set_option maxHeartbeats 4000000 in
theorem c_X12_more {E : am_E} (hE : am_EH E) {p0 : Int32} {p1 : Int32} {D : am_D} {r : Int32}  (hf : f_X12_more p0 p1 = some r) : am_C E mX12_more 1 0 0 [.int p0, .int p1] am_G0 D (.inl (some (.int r))) am_G0 D := by
  refine am_C_of (by decide +kernel) (Nat.le_of_ble_eq_true rfl) ?_
  change am_S E mX12_more 1 0 0 (.inl (some (.int r))) am_G0 D 0 0 0 [(0, .int p0), (1, .int p1)] [] am_G0 D
  unfold f_X12_more at hf
  refine am_iload_n (am_dec tmX12_more 0 rfl) rfl rfl ?_
  refine am_iload_n (am_dec tmX12_more 1 rfl) rfl rfl ?_
  refine am_icmp_le (tgt := 9) (am_dec tmX12_more 2 rfl) (by decide) (fun c1 => ?_) (fun c1 => ?_)
  · rw [if_pos c1] at hf
    refine am_iload_n (am_dec tmX12_more 5 rfl) rfl rfl ?_
    have hf := Option.some.inj hf
    subst hf
    exact am_iret (am_dec tmX12_more 6 rfl) rfl (Nat.zero_le _) (Nat.zero_le _)
  · rw [if_neg c1] at hf
    refine am_iload_n (am_dec tmX12_more 3 rfl) rfl rfl ?_
    refine am_goto (tgt := 10) (am_dec tmX12_more 4 rfl) (by decide) ?_
    have hf := Option.some.inj hf
    subst hf
    exact am_iret (am_dec tmX12_more 6 rfl) rfl (Nat.zero_le _) (Nat.zero_le _)
def f_X12_less (p0 : Int32) (p1 : Int32) : Option (Int32) :=
    if p1 ≤ p0 then
    some p1
    else
    some p0
set_option maxRecDepth 100000 in
set_option maxHeartbeats 4000000 in
theorem c_X12_less {E : am_E} (hE : am_EH E) {p0 : Int32} {p1 : Int32} {D : am_D} {r : Int32}  (hf : f_X12_less p0 p1 = some r) : am_C E mX12_less 1 0 0 [.int p0, .int p1] am_G0 D (.inl (some (.int r))) am_G0 D := by
  refine am_C_of (by decide +kernel) (Nat.le_of_ble_eq_true rfl) ?_
  change am_S E mX12_less 1 0 0 (.inl (some (.int r))) am_G0 D 0 0 0 [(0, .int p0), (1, .int p1)] [] am_G0 D
  unfold f_X12_less at hf
  refine am_iload_n (am_dec tmX12_less 0 rfl) rfl rfl ?_
  refine am_iload_n (am_dec tmX12_less 1 rfl) rfl rfl ?_
  refine am_icmp_ge (tgt := 9) (am_dec tmX12_less 2 rfl) (by decide) (fun c1 => ?_) (fun c1 => ?_)
  · rw [if_pos c1] at hf
    refine am_iload_n (am_dec tmX12_less 5 rfl) rfl rfl ?_
    have hf := Option.some.inj hf
    subst hf
    exact am_iret (am_dec tmX12_less 6 rfl) rfl (Nat.zero_le _) (Nat.zero_le _)
  · rw [if_neg c1] at hf
    refine am_iload_n (am_dec tmX12_less 3 rfl) rfl rfl ?_
    refine am_goto (tgt := 10) (am_dec tmX12_less 4 rfl) (by decide) ?_
    have hf := Option.some.inj hf
    subst hf
    exact am_iret (am_dec tmX12_less 6 rfl) rfl (Nat.zero_le _) (Nat.zero_le _)
def f_X12_amount (p0 : Int32) : Option (Int32) :=
    if 0 ≤ p0 then
    some p0
    else
    some (-p0)
set_option maxRecDepth 100000 in
set_option maxHeartbeats 4000000 in
theorem c_X12_amount {E : am_E} (hE : am_EH E) {p0 : Int32} {D : am_D} {r : Int32}  (hf : f_X12_amount p0 = some r) : am_C E mX12_amount 1 0 0 [.int p0] am_G0 D (.inl (some (.int r))) am_G0 D := by
  refine am_C_of (by decide +kernel) (Nat.le_of_ble_eq_true rfl) ?_
  change am_S E mX12_amount 1 0 0 (.inl (some (.int r))) am_G0 D 0 0 0 [(0, .int p0)] [] am_G0 D
  unfold f_X12_amount at hf
  refine am_iload_n (am_dec tmX12_amount 0 rfl) rfl rfl ?_
  refine am_if_ge (tgt := 9) (am_dec tmX12_amount 1 rfl) (by decide) (fun c1 => ?_) (fun c1 => ?_)
  · rw [if_pos c1] at hf
    refine am_iload_n (am_dec tmX12_amount 5 rfl) rfl rfl ?_
    have hf := Option.some.inj hf
    subst hf
    exact am_iret (am_dec tmX12_amount 6 rfl) rfl (Nat.zero_le _) (Nat.zero_le _)
  · rw [if_neg c1] at hf
    refine am_iload_n (am_dec tmX12_amount 2 rfl) rfl rfl ?_
    refine am_ineg (am_dec tmX12_amount 3 rfl) ?_
    refine am_goto (tgt := 10) (am_dec tmX12_amount 4 rfl) (by decide) ?_
    have hf := Option.some.inj hf
    subst hf
    exact am_iret (am_dec tmX12_amount 6 rfl) rfl (Nat.zero_le _) (Nat.zero_le _)
def f_X12_feed_L23 (q1 : Int32) (q2 : Int32) (q3 : Int32) (q4 : Int32) (q5 : Int32) : Nat → Int32 → am_D → Option (am_D)
  | 0, _, _ => none
  | n + 1, v6, D =>
    if (20 : Int32) ≤ v6 then
    some (D)
    else
    (if (4 : Int32) ≤ v6 then
    if (8 : Int32) ≤ v6 then
    if (12 : Int32) ≤ v6 then
    if (16 : Int32) ≤ v6 then
    some (q5)
    else
    some (q4)
    else
    some (q3)
    else
    some (q2)
    else
    some (q1)).bind fun w10 =>
    (am_rm v6 (4 : Int32)).bind fun x11 =>
    (am_pI D 118 300 (D.1 117 1) ((w10 >>> (((24 : Int32) - ((8 : Int32) * x11)) &&& 31)) &&& (255 : Int32))).bind fun D13 =>
    (some (am_wI D13 117 1 ((D13.1 117 1) + (1 : Int32)))).bind fun D15 =>
    f_X12_feed_L23 q1 q2 q3 q4 q5 n (v6 + (1 : Int32)) D15
def f_X12_feed (p1 : Int32) (p2 : Int32) (p3 : Int32) (p4 : Int32) (p5 : Int32) (D : am_D) : Option ((Int32 × am_D)) :=
    (some (am_wI D 117 0 (0 : Int32))).bind fun D1 =>
    if ((D1.1 117 1) + (20 : Int32)) ≤ (300 : Int32) then
    (f_X12_feed_L23 p1 p2 p3 p4 p5 am_fu (0 : Int32) D1).bind fun e18 =>
    some ((e18.1 117 1), e18)
    else
    some ((-1 : Int32), D1)
set_option maxRecDepth 100000 in
set_option maxHeartbeats 4000000 in
theorem l_X12_feed_L23 {E : am_E} (hE : am_EH E) {d mc ms : Nat} {o : am_O} {G2 : am_G} {D2 : am_D} (hdp : 1 ≤ d) {q1 : Int32} {q2 : Int32} {q3 : Int32} {q4 : Int32} {q5 : Int32}  : ∀ (n : Nat) (v6 : Int32) (D : am_D) (ex0 : am_D), f_X12_feed_L23 q1 q2 q3 q4 q5 n v6 D = some ex0 → (∀ ex : am_D, ex0 = ex → am_S E mX12_feed d mc ms o G2 D2 0 0 120 [(0, .ref 117)] [] am_G0 ex) → am_S E mX12_feed d mc ms o G2 D2 0 0 23 [(0, .ref 117), (1, .int q1), (2, .int q2), (3, .int q3), (4, .int q4), (5, .int q5), (6, .int v6)] [] am_G0 D
  | 0, _, _, _, hf, _ => by
    unfold f_X12_feed_L23 at hf
    cases hf
  | n + 1, v6, D, ex0, hf, hk0 => by
    unfold f_X12_feed_L23 at hf
    refine am_iload (am_dec tmX12_feed_0 13 rfl) rfl ?_
    refine am_bipush (v := (20 : Int32)) (am_dec tmX12_feed_0 14 rfl) (by decide) ?_
    refine am_icmp_ge (tgt := 120) (am_dec tmX12_feed_0 15 rfl) (by decide) (fun c4 => ?_) (fun c4 => ?_)
    · rw [if_pos c4] at hf
      have hf := Option.some.inj hf
      subst hf
      exact am_pick [0] rfl (hk0 _ rfl)
    · rw [if_neg c4] at hf
      refine am_iload (am_dec tmX12_feed_0 16 rfl) rfl ?_
      refine am_iconst (v := (4 : Int32)) (am_dec tmX12_feed_0 17 rfl) (by decide) ?_
      obtain ⟨w10, g17, hf⟩ := am_bd hf
      have key6 : am_S E mX12_feed d mc ms o G2 D2 0 0 76 [(0, .ref 117), (1, .int q1), (2, .int q2), (3, .int q3), (4, .int q4), (5, .int q5), (6, .int v6)] [.int w10] am_G0 D := by
        refine am_istore (lv' := [(0, .ref 117), (1, .int q1), (2, .int q2), (3, .int q3), (4, .int q4), (5, .int q5), (6, .int v6), (7, .int w10)]) (am_dec tmX12_feed_0 37 rfl) (by decide) rfl ?_
        refine am_aload_n (am_dec tmX12_feed_0 38 rfl) rfl rfl ?_
        refine am_getR (j := 9) hE (am_dec tmX12_feed_0 39 rfl) sh_117 cf12 (by decide) rfl lf_X12_13 rf_117_9 ?_
        refine am_aload_n (am_dec tmX12_feed_0 40 rfl) rfl rfl ?_
        refine am_getI (j := 1) hE (am_dec tmX12_feed_0 41 rfl) sh_117 cf12 (by decide) rfl lf_X12_113 ?_
        refine am_iload (am_dec tmX12_feed_0 42 rfl) rfl ?_
        refine am_bipush (v := (24 : Int32)) (am_dec tmX12_feed_0 43 rfl) (by decide) ?_
        refine am_bipush (v := (8 : Int32)) (am_dec tmX12_feed_0 44 rfl) (by decide) ?_
        refine am_iload (am_dec tmX12_feed_0 45 rfl) rfl ?_
        refine am_iconst (v := (4 : Int32)) (am_dec tmX12_feed_0 46 rfl) (by decide) ?_
        obtain ⟨x11, g12, hf⟩ := am_bd hf
        refine am_irem2 (am_dec tmX12_feed_0 47 rfl) g12 ?_
        refine am_imul (am_dec tmX12_feed_0 48 rfl) ?_
        refine am_isub (am_dec tmX12_feed_0 49 rfl) ?_
        refine am_ishr (am_dec tmX12_feed_0 50 rfl) ?_
        refine am_sipush (v := (255 : Int32)) (am_dec tmX12_feed_0 51 rfl) (by decide) ?_
        refine am_iand (am_dec tmX12_feed_0 52 rfl) ?_
        obtain ⟨D13, g14, hf⟩ := am_bd hf
        refine am_iast2 hE (am_dec tmX12_feed_0 53 rfl) sh_118 g14 ?_
        refine am_aload_n (am_dec tmX12_feed_0 54 rfl) rfl rfl ?_
        refine am_dup (am_dec tmX12_feed_0 55 rfl) rfl ?_
        refine am_getI (j := 1) hE (am_dec tmX12_feed_0 56 rfl) sh_117 cf12 (by decide) rfl lf_X12_113 ?_
        refine am_iconst (v := (1 : Int32)) (am_dec tmX12_feed_0 57 rfl) (by decide) ?_
        refine am_iadd (am_dec tmX12_feed_0 58 rfl) ?_
        obtain ⟨D15, g16, hf⟩ := am_bd hf
        refine am_putI2 (j := 1) hE (am_dec tmX12_feed_0 59 rfl) sh_117 cf12 (by decide) rfl lf_X12_113 rfl rfl rfl g16 ?_
        refine am_iinc (v := (1 : Int32)) (lv' := [(0, .ref 117), (1, .int q1), (2, .int q2), (3, .int q3), (4, .int q4), (5, .int q5), (6, .int (v6 + (1 : Int32))), (7, .int w10)]) (am_dec tmX12_feed_1 0 rfl) rfl (by decide) (by decide) rfl ?_
        refine am_goto (tgt := 23) (am_dec tmX12_feed_1 1 rfl) (by decide) ?_
        exact am_pick [0, 1, 2, 3, 4, 5, 6] rfl (l_X12_feed_L23 hE hdp n (v6 + (1 : Int32)) D15 ex0 hf hk0)
      replace hf := g17
      refine am_icmp_ge (tgt := 40) (am_dec tmX12_feed_0 18 rfl) (by decide) (fun c5 => ?_) (fun c5 => ?_)
      · rw [if_pos c5] at hf
        refine am_iload (am_dec tmX12_feed_0 21 rfl) rfl ?_
        refine am_bipush (v := (8 : Int32)) (am_dec tmX12_feed_0 22 rfl) (by decide) ?_
        refine am_icmp_ge (tgt := 51) (am_dec tmX12_feed_0 23 rfl) (by decide) (fun c7 => ?_) (fun c7 => ?_)
        · rw [if_pos c7] at hf
          refine am_iload (am_dec tmX12_feed_0 26 rfl) rfl ?_
          refine am_bipush (v := (12 : Int32)) (am_dec tmX12_feed_0 27 rfl) (by decide) ?_
          refine am_icmp_ge (tgt := 62) (am_dec tmX12_feed_0 28 rfl) (by decide) (fun c8 => ?_) (fun c8 => ?_)
          · rw [if_pos c8] at hf
            refine am_iload (am_dec tmX12_feed_0 31 rfl) rfl ?_
            refine am_bipush (v := (16 : Int32)) (am_dec tmX12_feed_0 32 rfl) (by decide) ?_
            refine am_icmp_ge (tgt := 74) (am_dec tmX12_feed_0 33 rfl) (by decide) (fun c9 => ?_) (fun c9 => ?_)
            · rw [if_pos c9] at hf
              refine am_iload (am_dec tmX12_feed_0 36 rfl) rfl ?_
              have hf := Option.some.inj hf
              subst hf
              exact am_pick [0, 1, 2, 3, 4, 5, 6] rfl key6
            · rw [if_neg c9] at hf
              refine am_iload (am_dec tmX12_feed_0 34 rfl) rfl ?_
              refine am_goto (tgt := 76) (am_dec tmX12_feed_0 35 rfl) (by decide) ?_
              have hf := Option.some.inj hf
              subst hf
              exact am_pick [0, 1, 2, 3, 4, 5, 6] rfl key6
          · rw [if_neg c8] at hf
            refine am_iload_n (am_dec tmX12_feed_0 29 rfl) rfl rfl ?_
            refine am_goto (tgt := 76) (am_dec tmX12_feed_0 30 rfl) (by decide) ?_
            have hf := Option.some.inj hf
            subst hf
            exact am_pick [0, 1, 2, 3, 4, 5, 6] rfl key6
        · rw [if_neg c7] at hf
          refine am_iload_n (am_dec tmX12_feed_0 24 rfl) rfl rfl ?_
          refine am_goto (tgt := 76) (am_dec tmX12_feed_0 25 rfl) (by decide) ?_
          have hf := Option.some.inj hf
          subst hf
          exact am_pick [0, 1, 2, 3, 4, 5, 6] rfl key6
      · rw [if_neg c5] at hf
        refine am_iload_n (am_dec tmX12_feed_0 19 rfl) rfl rfl ?_
        refine am_goto (tgt := 76) (am_dec tmX12_feed_0 20 rfl) (by decide) ?_
        have hf := Option.some.inj hf
        subst hf
        exact am_pick [0, 1, 2, 3, 4, 5, 6] rfl key6
set_option maxRecDepth 100000 in
set_option maxHeartbeats 4000000 in
theorem c_X12_feed {E : am_E} (hE : am_EH E) {p1 : Int32} {p2 : Int32} {p3 : Int32} {p4 : Int32} {p5 : Int32} {D : am_D} {r : (Int32 × am_D)}  (hf : f_X12_feed p1 p2 p3 p4 p5 D = some r) : am_C E mX12_feed 1 0 0 [.ref 117, .int p1, .int p2, .int p3, .int p4, .int p5] am_G0 D (.inl (some (.int r.1))) am_G0 r.2 := by
  refine am_C_of (by decide +kernel) (Nat.le_of_ble_eq_true rfl) ?_
  change am_S E mX12_feed 1 0 0 (.inl (some (.int r.1))) am_G0 r.2 0 0 0 [(0, .ref 117), (1, .int p1), (2, .int p2), (3, .int p3), (4, .int p4), (5, .int p5)] [] am_G0 D
  unfold f_X12_feed at hf
  refine am_aload_n (am_dec tmX12_feed_0 0 rfl) rfl rfl ?_
  refine am_iconst (v := (0 : Int32)) (am_dec tmX12_feed_0 1 rfl) (by decide) ?_
  obtain ⟨D1, g2, hf⟩ := am_bd hf
  refine am_putI2 (j := 0) hE (am_dec tmX12_feed_0 2 rfl) sh_117 cf12 (by decide) rfl lf_X12_110 rfl rfl rfl g2 ?_
  refine am_aload_n (am_dec tmX12_feed_0 3 rfl) rfl rfl ?_
  refine am_getI (j := 1) hE (am_dec tmX12_feed_0 4 rfl) sh_117 cf12 (by decide) rfl lf_X12_113 ?_
  refine am_bipush (v := (20 : Int32)) (am_dec tmX12_feed_0 5 rfl) (by decide) ?_
  refine am_iadd (am_dec tmX12_feed_0 6 rfl) ?_
  refine am_sipush (v := (300 : Int32)) (am_dec tmX12_feed_0 7 rfl) (by decide) ?_
  refine am_icmp_le (tgt := 20) (am_dec tmX12_feed_0 8 rfl) (by decide) (fun c3 => ?_) (fun c3 => ?_)
  · rw [if_pos c3] at hf
    refine am_iconst (v := (0 : Int32)) (am_dec tmX12_feed_0 11 rfl) (by decide) ?_
    refine am_istore (lv' := [(0, .ref 117), (1, .int p1), (2, .int p2), (3, .int p3), (4, .int p4), (5, .int p5), (6, .int (0 : Int32))]) (am_dec tmX12_feed_0 12 rfl) (by decide) rfl ?_
    obtain ⟨e18, g19, hf⟩ := am_bd hf
    refine am_pick [0, 1, 2, 3, 4, 5, 6] rfl (l_X12_feed_L23 hE (Nat.le_refl _) am_fu _ _ _ g19 (fun ex he => ?_))
    subst he
    refine am_aload_n (am_dec tmX12_feed_1 2 rfl) rfl rfl ?_
    refine am_getI (j := 1) hE (am_dec tmX12_feed_1 3 rfl) sh_117 cf12 (by decide) rfl lf_X12_113 ?_
    have hf := Option.some.inj hf
    subst hf
    exact am_iret (am_dec tmX12_feed_1 4 rfl) rfl (Nat.zero_le _) (Nat.zero_le _)
  · rw [if_neg c3] at hf
    refine am_iconst (v := (-1 : Int32)) (am_dec tmX12_feed_0 9 rfl) (by decide) ?_
    have hf := Option.some.inj hf
    subst hf
    exact am_iret (am_dec tmX12_feed_0 10 rfl) rfl (Nat.zero_le _) (Nat.zero_le _)
